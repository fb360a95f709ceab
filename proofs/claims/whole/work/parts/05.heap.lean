/-! INSTRUCTIONS THAT TOUCH THE HEAP, CALLS, RETURNS -/
def okty (t : FieldType) : Bool := match t with
  | .int => true
  | .long => true
  | .boolean => true
  | .object _ => true
  | .array _ => true
  | _ => false
def ClOk (ci : Nat) (r : vw_C) : Prop := vwCl[ci]? = some r ∧ (∀ w ∈ u_ws r.1 r.2.1 r.2.2, w ∈ lwG) ∧ (∀ k, k < r.2.2 → parseFieldDescriptor (r.2.1 k).2.2.1 = some ((tyCl.getD ci (fun _ => .int)) k)) ∧ (∀ a, a < r.2.2 → ∀ b, b < r.2.2 → a ≠ b → (r.2.1 a).2.1 ≠ (r.2.1 b).2.1) ∧ ∀ k, k < r.2.2 → okty ((tyCl.getD ci (fun _ => .int)) k) = true
theorem cR_ref (ι : Int → Nat) (z : Int) : cR ι z = .null ∨ ∃ a, cR ι z = .ref a := by
  unfold cR
  split
  · exact Or.inl rfl
  · exact Or.inr ⟨_, rfl⟩
theorem i32_1 : i32 1 = 1 := by decide +kernel
theorem i64_0 : i64 0 = 0 := by decide +kernel
theorem ty_dflt {ty : FieldType} (h : okty ty = true) (ι : Int → Nat) : defaultValue ty = cvT ι (tc ty) 0 := by
  cases ty <;> first | (cases h; done) | skip
  · show Value.int 0 = .int (i32 0)
    rw [i32_0]
  · show Value.long 0 = .long (i64 0)
    rw [i64_0]
  · show Value.int 0 = .int (i32 0)
    rw [i32_0]
  · exact (cR_0 ι).symm
  · exact (cR_0 ι).symm
theorem ty_nar {ty : FieldType} {K : KT} {z : Int} (h : okty ty = true) (hz : okT K (tc ty) z) (ι : Int → Nat) : narrow ty (cvT ι (tc ty) z) = cvT ι (tc ty) z := by
  cases ty <;> first | (cases h; done) | rfl | skip
  rcases hz with rfl | rfl
  · show Value.int (i32 0 &&& 1) = .int (i32 0)
    rw [i32_0]; rfl
  · show Value.int (i32 1 &&& 1) = .int (i32 1)
    rw [i32_1]; rfl
theorem ty_fit {ty : FieldType} {K : KT} {z : Int} (h : okty ty = true) (hz : okT K (tc ty) z) (ι : Int → Nat) : fits ty (cvT ι (tc ty) z) = true := by
  cases ty <;> first | (cases h; done) | rfl | skip
  · rcases hz with rfl | rfl
    · show fits .boolean (.int (i32 0)) = true
      rw [i32_0]; rfl
    · show fits .boolean (.int (i32 1)) = true
      rw [i32_1]; rfl
  · rcases cR_ref ι z with e | ⟨a, e⟩
    · show fits _ (cR ι z) = true
      rw [e]; rfl
    · show fits _ (cR ι z) = true
      rw [e]; rfl
  · rcases cR_ref ι z with e | ⟨a, e⟩
    · show fits _ (cR ι z) = true
      rw [e]; rfl
    · show fits _ (cR ι z) = true
      rw [e]; rfl
theorem ok0 (K : KT) (t : Nat) : okT K t 0 := by
  match t with
  | 0 => exact in32_0
  | 1 => show in64 0; unfold in64; omega
  | 2 => exact Or.inl rfl
  | _ + 3 => exact Or.inl rfl
theorem RR.obj {D : va_G} {AC : Int → ClassId} {ι : Int → Nat} {K : KT} {S : ST} {H : Heap} {a : Int} {ci : Nat} (h : RR D AC ι K S H) (hk : (K a).1 = (ci : Int) + 1) (hc : ci ≤ 13) : ∃ r : vw_C, vwCl[ci]? = some r ∧ t_OB (ι a) (D.1 ci) r.2.2 (D.2 ci) H (fun k => cvT ι (fty ci k) (S a k)) ∧ ∀ k : Nat, k < r.2.2 → okT K (fty ci k) (S a k) := by
  have e : ((K a).1 - 1).toNat = ci := by omega
  rcases h.2.2 a (by omega) with ⟨g, _⟩ | ⟨g1 | g1, _⟩ | ⟨g1, _⟩ | ⟨_, _, r, g1, g2, g3⟩
  · omega
  · omega
  · omega
  · omega
  · rw [e] at g1 g2 g3
    exact ⟨r, g1, g2, g3⟩
theorem RR.arr {D : va_G} {AC : Int → ClassId} {ι : Int → Nat} {K : KT} {S : ST} {H : Heap} {a kd : Int} (h : RR D AC ι K S H) (hk : (K a).1 = kd) (hc : 100 ≤ kd) : 0 ≤ (K a).2 ∧ (K a).2 < 2147483648 ∧ H[ι a]? = some (arrV (AC kd) (K a).2.toNat (fun j => cvT ι (aty kd) (S a j))) ∧ ∀ j : Nat, (j : Int) < (K a).2 → okT K (aty kd) (S a j) := by
  rcases h.2.2 a (by omega) with ⟨_, g1, g2, g3, g4⟩ | ⟨g1 | g1, _⟩ | ⟨g1, _⟩ | ⟨_, g1, _⟩
  · rw [hk] at g3 g4
    exact ⟨g1, g2, g3, g4⟩
  · omega
  · omega
  · omega
  · omega
theorem RR.ne0 {D : va_G} {AC : Int → ClassId} {ι : Int → Nat} {K : KT} {S : ST} {H : Heap} {a : Int} (h : RR D AC ι K S H) (hk : (K a).1 ≠ 0) : a ≠ 0 := fun e => hk (by rw [e]; exact h.1)
/-- the field's word, its name as javac spells it -/
theorem fsame {s : State} {args : Array Value} {ref o n dd : String} (hts : ∀ w ∈ lwG, w.before args s = true) (h : o = ref ∨ Cond.sameField ref o n dd ∈ lwG) : ∀ x, s.fieldFound? o n dd = some x → s.fieldFound? ref n dd = some x := by
  rcases h with rfl | h
  · exact fun _ q => q
  · exact fun x q => u_same (hts _ h) x q
def oGetf (kd : Int) (k : Int) (t : Nat) (nx : Nat) : Op := fun T _ _ L st K S cb nb => popR st fun a st => (K a).1 = kd ∧ T nx L (mkT t (S a k) :: st) K S cb nb
theorem s_getf {M : Mth} {pc idx ci k t : Nat} {kd : Int} {r : vw_C} {ref : String} (hC : ClOk ci r) (hc : ci ≤ 13) (hkd : kd = (ci : Int) + 1) (hk : k < r.2.2) (ht : fty ci k = t) (hl : Cond.fieldLink M.1.cls idx ref (r.2.1 k).2.1 (r.2.1 k).2.2.1 ∈ lwG) (hf : (r.2.1 k).1 = ref ∨ Cond.sameField ref (r.2.1 k).1 (r.2.1 k).2.1 (r.2.1 k).2.2.1 ∈ lwG) (hd : decode M.2.1 pc = .ok (.getfield idx, 3)) : Snd M pc (oGetf kd k t (pc + 3)) := by
  intro d T Q hT L st K S cb nb h
  obtain ⟨a, r0, rfl, ha, h⟩ := popR_o h
  intro p l e R s m args below meth c D AC ι0 K0 A mc ms H locs cells slots ι ls hX1 hX
  obtain ⟨g1, g2, g3, g4, g5, g6, g7, g8, g9, g10⟩ := id hX
  have ha' : (K a).1 ≠ 0 := by omega
  obtain ⟨r', e1, ⟨cell, q1, q2, q3, q4⟩, e3⟩ := g1.obj (ha.trans hkd) hc
  cases e1.symm.trans hC.1
  obtain ⟨hS, hfc, kC, hkC, hkind⟩ := hX1.2.2.2.2.2.2.2.2.2.2.2.2.1.1.1 ci _ hC.1
  obtain ⟨cf, kf, fi, f, hi, hsl⟩ := hS k hk
  have hts := hX1.2.2.2.2.1
  have hkk := hT _ _ _ _ _ _ _ h p l e R s m args below meth c D AC ι0 K0 A mc ms H locs cells slots ι ls hX1 ⟨g1, g2, g3, g4, g5, g6, g7, g8, g9, okc (okV_mkT (ht ▸ e3 k hk)) (okt g10)⟩
  rw [List.map_cons, conc_mkT] at hkk
  rw [List.map_cons, conc_R, cR_n (g1.ne0 ha')]
  exact W.getf hX1.1 hX1.2.1 hX1.2.2.2.2.2.1 (hts _ hl) (fsame hts hf _ hi) (u_facts hfc hkC (u_lays hts hC.2.1 hk) hi).1 q1 (by rw [q3]; exact fun q => by cases q) (v := cvT ι t (S a k)) (by rw [hsl]; subst ht; exact q4 k hk) rfl rfl hd hkk
def popT (t : Nat) (st : List V) (k : Int → List V → Prop) : Prop := match t with
  | 0 => popI st k
  | 1 => popL st k
  | 2 => popR st k
  | _ => popI st fun z r => (z = 0 ∨ z = 1) ∧ k z r
theorem popT_0 (st : List V) (k : Int → List V → Prop) : popT 0 st k = popI st k := rfl
theorem popT_1 (st : List V) (k : Int → List V → Prop) : popT 1 st k = popL st k := rfl
theorem popT_2 (st : List V) (k : Int → List V → Prop) : popT 2 st k = popR st k := rfl
theorem popT_3 (st : List V) (k : Int → List V → Prop) : popT 3 st k = popI st fun z r => (z = 0 ∨ z = 1) ∧ k z r := rfl
theorem popT_o {t : Nat} {st : List V} {k : Int → List V → Prop} (h : popT t st k) : ∃ z r, st = mkT t z :: r ∧ (∀ K, okV K (mkT t z) → okT K t z) ∧ k z r := by
  match t, h with
  | 0, h =>
    obtain ⟨z, r, rfl, h⟩ := popI_o h
    exact ⟨z, r, rfl, fun _ q => q, h⟩
  | 1, h =>
    obtain ⟨z, r, rfl, h⟩ := popL_o h
    exact ⟨z, r, rfl, fun _ q => q, h⟩
  | 2, h =>
    obtain ⟨z, r, rfl, h⟩ := popR_o h
    exact ⟨z, r, rfl, fun _ q => q, h⟩
  | _ + 3, h =>
    obtain ⟨z, r, rfl, h1, h2⟩ := popI_o h
    exact ⟨z, r, rfl, fun _ _ => h1, h2⟩
def oPutf (kd : Int) (k : Int) (t : Nat) (nx : Nat) : Op := fun T _ _ L st K S cb nb => popT t st fun v st => popR st fun a st => (K a).1 = kd ∧ T nx L st K (up S a k v) cb nb
/-- the picture behind a store into a field -/
theorem RR.putf {D : va_G} {AC : Int → ClassId} {ι : Int → Nat} {K : KT} {S : ST} {H H1 : Heap} {a z : Int} {ci k : Nat} {r : vw_C} {cell : Cell} (g1 : RR D AC ι K S H) (hk1 : (K a).1 = (ci : Int) + 1) (hc : ci ≤ 13) (hr : vwCl[ci]? = some r) (hk : k < r.2.2) (q2 : cell.cls = D.1 ci) (q3 : cell.vm = .none) (q4 : ∀ k, k < r.2.2 → cell.slots[D.2 ci k]? = some (cvT ι (fty ci k) (S a k))) (e3 : ∀ k : Nat, k < r.2.2 → okT K (fty ci k) (S a k)) (hap : ∀ x y, x < r.2.2 → y < r.2.2 → x ≠ y → D.2 ci x ≠ D.2 ci y) (hz : okT K (fty ci k) z) (e1 : H1[ι a]? = some (cell.setSlot (D.2 ci k) (cvT ι (fty ci k) z))) (e2 : H1.size = H.size) (o1 : ∀ q : Nat, q ≠ ι a → H1[q]? = H[q]?) : RR D AC ι K (up S a k z) H1 := by
  have ci' : ((K a).1 - 1).toNat = ci := by omega
  refine g1.set (a := a) (by omega) (fun b hb => up_na hb) ?_ o1 e2
  refine Or.inr (Or.inr (Or.inr ⟨by omega, by omega, r, by rw [ci']; exact hr, ?_, ?_⟩))
  · rw [ci']
    refine t_OB.to ⟨_, e1, q2, q3, t_set q4 hap hk _⟩ (fun j hj => ?_)
    by_cases hjk : j = k
    · subst hjk
      rw [up_s]
      simp [updV]
    · rw [up_ni (by omega)]
      simp [updV, hjk]
  · intro j hj
    rw [ci']
    by_cases hjk : j = k
    · subst hjk
      rw [up_s]
      exact hz
    · rw [up_ni (by omega)]
      exact e3 j hj
theorem s_putf {M : Mth} {pc idx ci k t : Nat} {kd : Int} {r : vw_C} {ref : String} (hC : ClOk ci r) (hc : ci ≤ 13) (hkd : kd = (ci : Int) + 1) (hk : k < r.2.2) (ht : fty ci k = t) (hl : Cond.fieldLink M.1.cls idx ref (r.2.1 k).2.1 (r.2.1 k).2.2.1 ∈ lwG) (hf : (r.2.1 k).1 = ref ∨ Cond.sameField ref (r.2.1 k).1 (r.2.1 k).2.1 (r.2.1 k).2.2.1 ∈ lwG) (hfin : (r.2.1 k).2.2.2 = false ∨ ((r.2.1 k).2.2.2 = true ∧ M.1.name = "<init>" ∧ (r.2.1 k).1 = M.1.cls)) (hd : decode M.2.1 pc = .ok (.putfield idx, 3)) : Snd M pc (oPutf kd k t (pc + 3)) := by
  intro d T Q hT L st K S cb nb h
  obtain ⟨z, r0, rfl, hz, h1⟩ := popT_o h
  obtain ⟨a, r0, rfl, ha, h2⟩ := popR_o h1
  intro p l e R s m args below meth c D AC ι0 K0 A mc ms H locs cells slots ι ls hX1 hX
  obtain ⟨g1, g2, g3, g4, g5, g6, g7, g8, g9, g10⟩ := id hX
  have ha' : (K a).1 ≠ 0 := by omega
  obtain ⟨r', e1, ⟨cell, q1, q2, q3, q4⟩, e3⟩ := g1.obj (ha.trans hkd) hc
  cases e1.symm.trans hC.1
  obtain ⟨-, hin, hty, hnm, hok⟩ := hC
  have hKK := hX1.2.2.2.2.2.2.2.2.2.2.2.2.1.1
  obtain ⟨hS, hfc, kC, hkC, hkind⟩ := hKK.1 ci _ e1
  obtain ⟨cf, kf, fi, f, hi, hsl⟩ := hS k hk
  have hts := hX1.2.2.2.2.1
  have hown := hX1.2.2.2.2.2.1
  have hst := (u_facts hfc hkC (u_lays hts hin hk) hi).1
  have hap := va_apart (own := M.1.cls) hts hin _ hty hnm hKK e1
  have hz' : okT K t z := hz K (okh g10)
  have hft : fty ci k = tc ((tyCl.getD ci (fun _ => .int)) k) := rfl
  have hnar := ty_nar (hok k hk) (hft ▸ ht ▸ hz') ι
  have hfit := ty_fit (hok k hk) (hft ▸ ht ▸ hz') ι
  rw [← hft, ht] at hnar hfit
  have hA : A (ι a) := g4 a ha' (fun q => by unfold ROk at q; omega)
  have hzt : okT K (fty ci k) z := by rw [ht]; exact hz'
  rw [List.map_cons, List.map_cons, conc_mkT, conc_R, cR_n (g1.ne0 ha')]
  have fin : ∀ H1 : Heap, H1[ι a]? = some (cell.setSlot f.slot (cvT ι t z)) → H1.size = H.size → (∀ q : Nat, q ≠ ι a → H1[q]? = H[q]?) → W p l e R s m args below meth c H1 (locs ++ [⟨ι a, f.slot⟩]) cells slots (MQ below (QC D AC ι0 K0 A Q) args s mc ms A) (F0 m (pc + 3) ls (r0.map (conc ι))) := by
    intro H1 e1' e2' o1'
    rw [hsl] at e1'
    have hR := g1.putf (z := z) (ha.trans hkd) hc e1 hk q2 q3 q4 e3 hap hzt (by rw [e1', ht]) e2' o1'
    exact hT _ _ _ _ _ _ _ h2 p l e R s m args below meth c D AC ι0 K0 A mc ms H1 _ cells slots ι ls hX1 ⟨hR, g2, g3, g4, g5.put e2' o1' hA, g6, g7, g8, g9, okt (okt g10)⟩
  have hlt : f.slot < cell.slots.size := by rw [hsl]; exact k2_hasslot (q4 k hk)
  rcases hfin with hfin | ⟨hfin, hin2, hdecl⟩
  · have hlay := hts _ (hin _ (u_in_lay hk))
    unfold u_lay at hlay
    rw [if_neg (by rw [hfin]; decide)] at hlay
    have h6 := u_store hfc hkC hkind hlay hi (hty k hk) hnar hfit
    exact W.putK hX1.1 hX1.2.1 (f := f) ⟨hown, hts _ hl, ⟨_, _, _, fsame hts hf _ hi⟩, hst⟩ (by rw [q2]; exact h6) q1 q3 hlt rfl rfl hd fin
  · have hlay := hts _ (hin _ (u_in_lay hk))
    unfold u_lay at hlay
    rw [if_pos hfin] at hlay
    have hcf : m.cls = cf := by
      obtain ⟨_, _, c', _, _, _, -, -, hf', -, -, -, hown2, -⟩ := Cond.laysFinal_spec hlay
      have e1' : c' = cf := by have := hi.symm.trans hf'; simp at this; exact this.1.symm
      rw [hdecl] at hown2
      rw [← e1']; exact Option.some.inj (hown.symm.trans hown2)
    have h6 := u_fits hfc hkC hkind (Or.inr hlay) hi (hty k hk) hnar hfit
    exact W.putFinK hX1.1 hX1.2.1 hown (hts _ hl) (fsame hts hf _ hi) hst hcf (hX1.2.2.2.2.2.2.2.1.trans hin2) (by rw [q2]; exact h6) q1 q3 hlt rfl rfl hd fin
/-- a new object: any number that isn't taken names it -/
def oNew (kd N : Int) (nx : Nat) : Op := fun T _ _ L st K S cb nb => 1 ≤ cb ∧ N.toNat ≤ nb ∧ ∃ x : Int, (K x).1 = 0 ∧ ¬ x = 0 ∧ T nx L (vR x :: st) (kup K x (kd, N)) (S0 S x) (cb - 1) (nb - N.toNat)
theorem s_new {M : Mth} {pc idx ci : Nat} {kd N : Int} {r : vw_C} (hC : ClOk ci r) (hc : ci ≤ 13) (hkd : kd = (ci : Int) + 1) (hN : N = (r.2.2 : Int)) (hl : Cond.classLink M.1.cls idx r.1 ∈ lwG) (hi : Cond.instantiable r.1 r.2.2 ∈ lwG) (hini : Cond.initialized r.1 ∈ lwG) (hd : decode M.2.1 pc = .ok (.new idx, 3)) : Snd M pc (oNew kd N (pc + 3)) := by
  intro d T Q hT L st K S cb nb h
  obtain ⟨b1, b2, x, hx, hx0, h⟩ := h
  intro p l e R s m args below meth c D AC ι0 K0 A mc ms H locs cells slots ι ls hX1 hX
  obtain ⟨g1, g2, g3, g4, g5, g6, g7, g8, g9, g10⟩ := id hX
  obtain ⟨hr, hin, hty, hnm, hok⟩ := hC
  have hKK := hX1.2.2.2.2.2.2.2.2.2.2.2.2.1.1
  have hKn := hKK.1 ci _ hr
  have hts := hX1.2.2.2.2.1
  have hA := hX1.2.2.2.2.2.2.2.2.2.2.2.2.2.2
  have hRc := hX1.2.2.2.2.2.2.2.2.2.2.1
  have hRs := hX1.2.2.2.2.2.2.2.2.2.2.2.1
  have hNt : N.toNat = r.2.2 := by omega
  have ci' : (kd - 1).toNat = ci := by omega
  refine W.newcK hX1.1 hX1.2.1 hX1.2.2.2.2.2.1 (hts _ hl) (hts _ hi) (hts _ hini) rfl hd (by omega) (by omega) hKn.2.1 rfl fun H1 kC hkC e1 z1 o1 => ?_
  have hne : ∀ b, (K b).1 ≠ 0 → b ≠ x := fun b hb q => hb (by rw [q]; exact hx)
  have hi' : ∀ b, (K b).1 ≠ 0 → (fun b => if b = x then H.size else ι b) b = ι b := fun b hb => if_neg (hne b hb)
  have hk' : ∀ b, (K b).1 ≠ 0 → kup K x (kd, N) b = K b := fun b hb => kup_n (hne b hb)
  have hR := g1.new (x := x) (k := (kd, N)) (S' := S0 S x) (H1 := H1) hx hx0 (fun b hb => S0_n hb) (Or.inr (Or.inr (Or.inr ⟨by rw [kup_s]; show 1 ≤ kd; omega, by rw [kup_s]; show kd ≤ 14; omega, r, by rw [kup_s]; show vwCl[(kd - 1).toNat]? = some r; rw [ci']; exact hr, by
      rw [kup_s]
      show t_OB (if x = x then H.size else ι x) (D.1 (kd - 1).toNat) r.2.2 (D.2 (kd - 1).toNat) H1 (fun k => cvT _ (fty (kd - 1).toNat k) (S0 S x x k))
      rw [ci', if_pos rfl, S0_s]
      exact (u_born _ hts hin hKn hkC e1 hty).to (fun k hk => ty_dflt (hok k hk) _), fun k _ => by rw [S0_s]; exact ok0 _ _⟩))) o1 (by omega)
  have hkk := hT _ _ _ _ _ _ _ h p l e R s m args below meth c D AC ι0 K0 A mc ms H1 locs (cells + 1) (slots + r.2.2) _ ls hX1 ⟨hR, fun b hb => ⟨(hk' b (by rw [(g2 b hb).1]; exact hb)).trans (g2 b hb).1, (hi' b (by rw [(g2 b hb).1]; exact hb)).trans (g2 b hb).2⟩,
    fun b hb => by
      by_cases q : b = x
      · subst q; rw [kup_s] at hb; have hb' : kd = 90 ∨ kd = 91 ∨ kd = 92 := hb; omega
      · rw [kup_n q] at hb ⊢; exact g3 b hb,
    fun b hb hb2 => by
      by_cases q : b = x
      · subst q
        show A (if b = b then H.size else ι b)
        rw [if_pos rfl]
        exact hA _ g5.1
      · rw [kup_n q] at hb hb2
        show A (if b = x then H.size else ι b)
        rw [if_neg q]
        exact g4 b hb hb2,
    ⟨Nat.le_trans g5.1 (by omega), fun q h1 h2 => (o1 q (Nat.lt_of_lt_of_le h1 g5.1)).trans (g5.2.1 q h1 h2), g5.2.2⟩, by omega, by omega, g8.agree hi' g9, fun v hv => okV_mono hk' (g9 v hv), okc (Or.inr (by rw [kup_s]; show kd ≠ 0; omega)) (fun v hv => okV_mono hk' (g10 v hv))⟩
  rw [List.map_cons, conc_R, cR_n hx0] at hkk
  simp only [if_true] at hkk
  rw [List.map_congr_left (fun v hv => conc_agree hi' (g10 v hv))] at hkk
  exact hkk
