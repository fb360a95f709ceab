/-! THE CLAIM OUT OF ONE WALK OF THE LAW'S BODY. Your part is whole_start (and what it stands on); all else here is the same for every law, but numbers. -/
def R_law : String := "AdvertCouncilLaw"
def lw_P (b : Addr) (xs : List Int32) (args : Array Value) (s : State) : Prop := args = #[.ref b] ∧ s.IntsAt b xs ∧ xs.length ≤ 3072 ∧ (Jvm.Cond.and given_1 narrow_1).before args s = true
def lw_Q (_ : Array Value) (s : State) (o : Outcome) (t : State) : Prop := o = .returned (some (.int 1)) ∧ Framed s o t [] 600000 7302250
def lw_Z (below : List Frame) (a : Array Value) (s : State) : State → Prop := fun t => ∃ o, t.status = .running ∧ Ended t below o ∧ lw_Q a s o t
/-- the law's own end, with 1 on the stack, nothing written that was there before, its room as the claim has it -/
theorem lw_ret {p : Program} {l : Launch} {e : Env} {s : State} {m : MethodId} {below : List Frame} {meth : Method} {c : Code} {b : Nat} (hx : p.tables.exec = Jvm.exec) (hb : c.code = code) (hr : meth.sig.returnType = ret) (hlocks : meth.locks = false) {pc : Nat} {H : Heap} {ls : Array Slot} (hdg : decode code pc = .ok (.ireturn, 1)) : W p l e room_1 s m #[Value.ref b] below meth c H [] 600000 7302250 (lw_Z below #[Value.ref b] s) (F0 m pc ls [.int 1]) := by
  intro T hT X
  obtain ⟨fs, hret, hrun, hended, hW, hframe⟩ := X.leave (v := some (.int 1)) (hlocks := hlocks) (fun h => by rw [hr] at h; cases h)
  have hmeth' : T.vm.method? m = some meth := X.method'
  refine ⟨T.setFrames fs, ?_, .returned (some (.int 1)), hrun, hended, rfl, ⟨_, rfl⟩, hW, hframe⟩
  jvm_step X.here [X.here.top, hx, hb, hdg, hmeth', hr, ret, narrow_b1]
  (try refine ⟨rfl, ?_⟩); (try refine ⟨rfl, ?_⟩)
  first | (intro acts; rw [hret _ acts rfl rfl rfl]) | rw [hret _ _ rfl rfl rfl]
  exact Steps.refl _
/-- what holds at the law's entry: the machine, the code, the tables' words (any of lw_tbl by 'hts w (by decide +kernel)'), the script of L ints xs at the cell b, what the Statement gives of the start (any of its parts by flat_of_before) -/
def lw_At (p : Program) (s : State) (m : MethodId) (meth : Method) (c : Code) (b L : Nat) (xs : Nat → Int32) : Prop :=
  p.tables.exec = Jvm.exec ∧ c.code = code ∧ meth.sig.returnType = ret ∧ c.maxLocals = 4 ∧ s.vm.findClass R_law = some m.cls ∧ (∀ w ∈ lw_tbl, w.before #[Value.ref b] s = true) ∧ va_X b L xs s s.heap ∧ b < s.heap.size ∧ meth.locks = false ∧ (Jvm.Cond.and given_1 narrow_1).before #[Value.ref b] s = true ∧ meth.name = x.name
/-! THE WALK OF THE LAW'S BODY, out of the pictures -/
theorem same_new {s t : State} {L : List Loc} {k n : Nat} (h : s.sameButNew t L k n) (hL : ∀ q ∈ L, s.heap.size ≤ q.base) : s.sameButNew t [] k n := by
  obtain ⟨h1, h2, h3, h4, h5, h6⟩ := h
  refine ⟨h1, h2, h3, h4, h5, fun a c hc => ?_⟩
  obtain ⟨c', g1, g2, g3, g4⟩ := h6 a c hc
  have hlt := (Array.getElem?_eq_some_iff.mp hc).1
  exact ⟨c', g1, g2, g3, fun i _ => g4 i (fun hm => absurd (hL _ hm) (Nat.not_le.mpr hlt))⟩
theorem whole_start {p : Program} {e : Env} {s : State} {m : MethodId} {below : List Frame} {meth : Method} {c : Code} (l : Launch) (hflags : l.flags = flags0) {b L : Nat} {xs : Nat → Int32} (hL : L ≤ 3072) (C0 : lw_At p s m meth c b L xs) : W p l e room_1 s m #[Value.ref b] below meth c s.heap [] 0 0 (lw_Z below #[Value.ref b] s) (entryFrame m ([Value.ref b] : List Value).toArray 4) := by
  obtain ⟨hx, hb, hr, hml, hown, hts, hX, hbl, hlocks, hgv, hname⟩ := id C0
  have hA : ∀ q : Nat, q < s.heap.size → ¬ (fun q : Nat => s.heap.size ≤ q) q := fun q hq => Nat.not_le.mpr hq
  obtain ⟨D, AC, hKK⟩ := wd_KK hts
  obtain ⟨t, hE, cellE, e1, e2, e3⟩ := wd_E (A := fun q : Nat => s.heap.size ≤ q) hts hgv hA
  obtain ⟨a, hS, cellS, jS, vS, s1, s2, s3⟩ := wd_S (A := fun q : Nat => s.heap.size ≤ q) hts hgv hA
  obtain ⟨scr, x1, x2, x3, x4, x5⟩ := id hX
  have n1 : t ≠ b := fun q => by
    subst q
    rw [e1] at x1
    cases x1
    obtain ⟨_, k1, h1, c1, h2⟩ := e2
    obtain ⟨_, k2, h3, c2, h4⟩ := x2
    rw [h1] at h3
    cases h3
    rw [h2] at h4
    cases h4
  have n2 : a ≠ b := fun q => by
    subst q
    rw [s1] at x1
    cases x1
    have hj : jS < cellS.slots.size := (Array.getElem?_eq_some_iff.mp s3).1
    have := x5 jS (by omega)
    rw [s3] at this
    cases this
  have n3 : a ≠ t := fun q => by
    subst q
    rw [s1] at e1
    cases e1
    obtain ⟨k1, h1, h2⟩ := Vm.findClass_spec s2
    obtain ⟨k2, h3, h4⟩ := Vm.findClass_spec e3
    rw [h1] at h3
    cases h3
    rw [h2] at h4
    exact absurd h4 (by decide)
  generalize hK0 : (fun z : Int => if z = 7 then ((90, 0) : Int × Int) else if z = 8 then (91, 0) else if z = 9 then (92, (L : Int)) else (0, 0)) = K0
  generalize hi0 : (fun z : Int => if z = 7 then t else if z = 8 then a else b) = ι0
  generalize hS0 : (fun z j : Int => if z = 9 then (xs j.toNat).toInt else 0) = T0
  have k7 : K0 7 = (90, 0) := by rw [← hK0]; rfl
  have k8 : K0 8 = (91, 0) := by rw [← hK0]; rfl
  have k9 : K0 9 = (92, (L : Int)) := by rw [← hK0]; rfl
  have kn : ∀ z, z ≠ 7 → z ≠ 8 → z ≠ 9 → K0 z = (0, 0) := fun z z7 z8 z9 => by rw [← hK0]; show (if z = 7 then ((90, 0) : Int × Int) else if z = 8 then (91, 0) else if z = 9 then (92, (L : Int)) else (0, 0)) = (0, 0); rw [if_neg z7, if_neg z8, if_neg z9]
  have i7 : ι0 7 = t := by rw [← hi0]; rfl
  have i8 : ι0 8 = a := by rw [← hi0]; rfl
  have i9 : ι0 9 = b := by rw [← hi0]; rfl
  have t9 : ∀ j, T0 9 j = (xs j.toNat).toInt := fun j => by rw [← hS0]; rfl
  have kc : ∀ z, (K0 z).1 ≠ 0 → z = 7 ∨ z = 8 ∨ z = 9 := fun z hz => by
    by_cases z7 : z = 7
    · exact Or.inl z7
    · by_cases z8 : z = 8
      · exact Or.inr (Or.inl z8)
      · by_cases z9 : z = 9
        · exact Or.inr (Or.inr z9)
        · rw [kn z z7 z8 z9] at hz; exact absurd rfl hz
  have kro : ∀ z, (K0 z).1 ≠ 0 → ROk (K0 z).1 := fun z hz => by
    rcases kc z hz with rfl | rfl | rfl
    · rw [k7]; exact Or.inl rfl
    · rw [k8]; exact Or.inr (Or.inl rfl)
    · rw [k9]; exact Or.inr (Or.inr rfl)
  have hRR : RR D AC ι0 K0 T0 s.heap := by
    refine ⟨by rw [kn 0 (by decide) (by decide) (by decide)], fun y z hy hz hyz => ?_, fun z hz => ?_⟩
    · rcases kc y hy with rfl | rfl | rfl <;> rcases kc z hz with rfl | rfl | rfl
      · rfl
      · rw [i7, i8] at hyz; exact absurd hyz.symm n3
      · rw [i7, i9] at hyz; exact absurd hyz n1
      · rw [i8, i7] at hyz; exact absurd hyz n3
      · rfl
      · rw [i8, i9] at hyz; exact absurd hyz n2
      · rw [i9, i7] at hyz; exact absurd hyz.symm n1
      · rw [i9, i8] at hyz; exact absurd hyz.symm n2
      · rfl
    · rcases kc z hz with rfl | rfl | rfl
      · exact Or.inr (Or.inl ⟨Or.inl (by rw [k7]), by rw [i7]; exact (Array.getElem?_eq_some_iff.mp e1).1⟩)
      · exact Or.inr (Or.inl ⟨Or.inr (by rw [k8]), by rw [i8]; exact (Array.getElem?_eq_some_iff.mp s1).1⟩)
      · refine Or.inr (Or.inr (Or.inl ⟨by rw [k9], by rw [k9]; exact Int.natCast_nonneg L, by rw [k9]; show (L : Int) < 2147483648; omega, scr, by rw [i9]; exact x1, x3, by rw [k9, x4]; show L = (L : Int).toNat; omega, fun j hj => ?_⟩))
        rw [k9] at hj
        have hj' : j < L := by
          have : (j : Int) < (L : Int) := hj
          omega
        rw [t9]
        show scr.slots[j]? = some (.int (i32 (xs ((j : Int).toNat)).toInt)) ∧ in32 (xs ((j : Int).toNat)).toInt
        rw [Int.toNat_natCast, i32_of]
        exact ⟨x5 j hj', in32_of _⟩
  have hSW : SW ι0 K0 (fun q : Nat => s.heap.size ≤ q) s s.heap := by
    refine ⟨fun _ => by rw [i7]; exact hE, fun _ => by rw [i8]; exact hS, fun _ => ?_⟩
    rw [i9]
    exact ⟨scr, x1, x2, hA b hbl⟩
  have hl := LR_entry ι0 (n := 4) (as := [vR 9]) (fun w hw => by
    rcases List.mem_cons.mp hw with rfl | hw
    · exact vR_ne 9
    · cases hw) (by decide)
  have ec : ([vR 9] : List V).map (conc ι0) = [Value.ref b] := by
    show [conc ι0 (vR 9)] = [Value.ref b]
    rw [conc_R, cR_n (by decide), i9]
  rw [ec] at hl
  rw [lg_entry_eq]
  have key := lw_start (d := 0) (L := (L : Int)) (T := fun j => (xs j.toNat).toInt) (K := K0) (S := T0) (cb := 600000) (nb := 7302250) (Q := fun r _ _ => r = [vI 1]) ⟨Int.natCast_nonneg L, by omega⟩ (fun j _ _ => in32_of _) k7 (by rw [k8]) k9 (fun z z7 z8 z9 => by rw [kn z z7 z8 z9]) (fun j _ _ => t9 j) (Nat.le_of_ble_eq_true rfl) (Nat.le_of_ble_eq_true rfl) (fun _ _ => rfl)
  have go := key p l e room_1 s m #[Value.ref b] below meth c D AC ι0 K0 (fun q : Nat => s.heap.size ≤ q) 600000 7302250 s.heap [] 0 0 ι0 _
    ⟨hx, hb, hr, hml, fun w hw => hts w (lwG_lw hw), hown, hlocks, hname, Nat.le_of_ble_eq_true rfl, Nat.le_of_ble_eq_true rfl, rfl, rfl, hKK, hSW, fun q hq => hq⟩
    ⟨hRR, fun z _ => ⟨rfl, rfl⟩, fun z _ => rfl, fun z hz hz2 => absurd (kro z hz) hz2, va_S.rf, Nat.le_of_ble_eq_true rfl, Nat.le_of_ble_eq_true rfl, hl, fun v hv => (by
      have hv : v ∈ ([vR 9, vJ, vJ, vJ] : List V) := hv
      simp only [List.mem_cons, List.not_mem_nil, or_false] at hv
      rcases hv with rfl | rfl | rfl | rfl
      · exact Or.inr (by rw [k9]; show (92 : Int) ≠ 0; decide)
      · trivial
      · trivial
      · trivial), fun v hv => by cases hv⟩
  intro T hT X
  obtain ⟨t1, st, o, r1, r2, ⟨⟨r, K', S', ι', q1, q2, q3, _⟩, _⟩, L', hF, hL'⟩ := go T hT X
  refine ⟨t1, st, o, r1, r2, ?_, hF.1, hF.2.1, same_new hF.2.2 hL'⟩
  rw [q1, q3]
  show Outcome.returned (some (.int (i32 1))) = _
  rw [i32_1']
set_option maxHeartbeats 4000000 in
theorem lw_walk (l : Launch) (hflags : l.flags = flags0) (b : Addr) (xs : List Int32) : MetFree l x (headSpec (Jvm.Cond.code x code maxLocals ret :: tables_1) room_1) (lw_P b xs) (fun _ _ _ _ _ => True) lw_Q := by
  refine MetFree.of_bodyS (code := code) (maxLocals := maxLocals) (ret := ret) (by decide) ?_ ?_
  · intro args s m h hn
    obtain ⟨meth, c, h1, h2, h3, h4, h5, h6, -, -⟩ := Cond.code_spec hn (atoms_spec (ws := Jvm.Cond.code x code maxLocals ret :: tables_1) h _ List.mem_cons_self)
    exact ⟨meth, c, h1, h2, h3, h4, h5, h6⟩
  · intro p e s m args below meth c s₁ B hml0 hP _
    obtain ⟨rfl, hx, hbd, hgv⟩ := hP
    obtain ⟨scr, harrAt, hlist, hof, hsmall⟩ := hx
    obtain ⟨hcb, hkn, -, -⟩ := State.arrayAt?_spec harrAt
    have hown : s.vm.findClass R_law = some m.cls := findClass_of_methodNamed B.named
    have hts0 : ∀ c ∈ (Jvm.Cond.code x code maxLocals ret :: tables_1), c.before #[Value.ref b] s = true := atoms_spec (ws := Jvm.Cond.code x code maxLocals ret :: tables_1) B.pre
    have hts : ∀ w ∈ lw_tbl, w.before #[Value.ref b] s = true := k2_hts_sels lw_privs (fun w hw => hts0 w (List.mem_cons_of_mem _ hw)) lw_privs_ok
    have hml : c.maxLocals = 4 := B.maxLocals_eq (hts0 _ List.mem_cons_self)
    have X₀ : Stand p l e room_1 s m #[Value.ref b] below meth c s₁ [] 0 0 := Stand.of_body B
    have hh0 : s₁.heap = s.heap := by rw [B.state]; rfl
    have hsz : scr.slots.size = xs.length := by rw [← Array.length_toList, hlist, List.length_map]
    have hval : ∀ j : Nat, j < xs.length → scr.slots[j]? = some (.int (xs.getD j 0)) := fun j hj => by
      rw [← Array.getElem?_toList, hlist]
      simp [hj]
    have hbl : b < s.heap.size := (Array.getElem?_eq_some_iff.mp hcb).1
    have hX : va_X b xs.length (fun j => xs.getD j 0) s s.heap := ⟨scr, hcb, hof, hkn, hsz, hval⟩
    have K : W p l e room_1 s m #[Value.ref b] below meth c s₁.heap [] 0 0 (lw_Z below #[Value.ref b] s) (entryFrame m ([Value.ref b] : List Value).toArray 4) := by
      rw [hh0]
      exact whole_start l hflags hbd ⟨B.exec, B.bytes, B.returns, hml, hown, hts, hX, hbl, B.notSynchronized, hgv, (name_of_methodNamed B.named B.method).1⟩
    obtain ⟨t, a1, o, b1, b2, b3⟩ := K s₁ rfl X₀
    exact ⟨t, o, a1, b1, b2, b3⟩
theorem lw_pre_spec {args : Array Value} {s : State} (h : (Jvm.Cond.and given_1 narrow_1).before args s = true) (hr : rest_1_c.before args s = true) : ∃ (b : Addr) (xs : List Int32), lw_P b xs args s := by
  have hs := flat_of_before _ h
  have hq := flat_of_before _ hr
  have hc : (Cond.count 1).before args s = true := hs _ (by decide +kernel)
  have harr : (Cond.arrayOf (.arg 0) .int).before args s = true := hs _ (by decide +kernel)
  have hle : (Cond.le (.length (.arg 0)) (.int 3072)).before args s = true := hs _ (by decide +kernel)
  have hlen : (Cond.isInt (.length (.arg 0))).before args s = true := hq _ (by decide +kernel)
  have hall : (Cond.all (.arg 0) (.isInt (.elem (.arg 0) (.index 0)))).before args s = true := hq _ (by decide +kernel)
  obtain ⟨b, xs, hb, hx⟩ := State.ints_of_pre rfl harr hlen hall
  have hsm : xs.length < 2 ^ 31 := hx.choose_spec.2.2.2
  have hev : (Term.length (.arg 0)).eval args s none [] s = some (.int xs.length.toInt32) := hx.length_eval hb
  have hv := Cond.le_ints hev (show (Term.int 3072).eval args s none [] s = some (.int 3072) from rfl)
  have hd : xs.length.toInt32 ≤ 3072 := by
    simpa [Cond.before, Cond.holds, hv] using hle
  have hN : xs.length ≤ 3072 := (Int32.ofNat_le_ofNat hsm (by decide)).mp (show Int32.ofNat xs.length ≤ Int32.ofNat 3072 from hd)
  exact ⟨b, xs, Cond.one_arg hc (show args[0]? = some (.ref b) from hb), hx, hN, h⟩
theorem lw_comes (l : Launch) (hflags : l.flags = flags0) : Comes l x (Jvm.Cond.code x code maxLocals ret :: tables_1) room_1 (fun tb e args s => Calls_1 tb e args s ∧ rest_1 tb e args s ∧ Pre_1 tb e args s)
    (fun _ _ args s o t => lw_Q args s o t) := by
  intro p e ha hc hk s m args below hf hfit hheap happ hpre
  obtain ⟨b, xs, hP⟩ := lw_pre_spec hpre.2.2 hpre.2.1
  obtain ⟨k, o, h1, h2, h3, hQ⟩ := lw_walk l hflags b xs p e ha hc hk s m args below hf ((Spec.applies_iff_loose hf).mp happ).1 hP trivial
  exact ⟨k, o, h1, h2, h3, hQ⟩
theorem lw_frame {s t : State} {o : Outcome} {args : Array Value} (h : Framed s o t [] 600000 7302250) :
    Framed s o t (fieldLocs frame_1_writes args s ++ arrayLocs frame_1_arrays args s ++ staticLocs frame_1_statics s) 600000 7302250 := h
theorem lw_limb (L : Cond) (hL : ∀ (args : Array Value) (s t : State), L.after args s (.returned (some (.int 1))) t = true) :
    ArmFor flags0 classFile x code maxLocals ret World_1 tables_1 room_1 Calls_1 rest_1 Pre_1
      (fun tb e a s o t => postC L tb e a s o t ∧ Framed s o t (fieldLocs frame_1_writes a s ++ arrayLocs frame_1_arrays a s ++ staticLocs frame_1_statics s) 600000 7302250) := by
  intro l hflags _ _ p e ha hc hk s m args below hf hfit hheap happ hpre
  obtain ⟨k, o, h1, h2, h3, rfl, hF⟩ := lw_comes l hflags p e ha hc hk s m args below hf hfit hheap happ hpre
  exact ⟨k, _, h1, h2, h3, hL args s _, lw_frame hF⟩
theorem i_vc : Claimed_1_1 ∧ Claimed_1_2 := ⟨lw_limb limb_1_1 (fun args s t => by simp [limb_1_1, Cond.after, Cond.holds, Cond.value]), lw_limb limb_1_2 (fun args s t => Cond.after_iff.mpr (by
  first | (rw [show limb_1_2 = Cond.eq .result (.int 1) from rfl, Cond.eq_ints (x := 1) (y := 1) rfl rfl]; simp; done) | (simp [limb_1_2, Cond.value, Term.eval]; done)))⟩
