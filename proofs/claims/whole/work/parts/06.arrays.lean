/-! ARRAYS -/
theorem nn_i32 {i : Int} {n : Nat} (h0 : 0 ≤ i) (h1 : i < (n : Int)) (h2 : (n : Int) ≤ 2147483647) : ¬ (i32 i < 0 ∨ n ≤ (i32 i).toNatClampNeg) ∧ (i32 i).toNatClampNeg = i.toNat := by
  have hin : in32 i := by unfold in32; omega
  have e : (i32 i).toNatClampNeg = i.toNat := by
    show (i32 i).toInt.toNat = i.toNat
    rw [i32_ti hin]
  refine ⟨fun q => ?_, e⟩
  rcases q with q | q
  · rw [← i32_0, i32_lt hin in32_0] at q
    omega
  · rw [e] at q
    omega
theorem cl_i32 {i : Int} (h0 : 0 ≤ i) (h1 : i < 2147483648) : (i32 i).toNatClampNeg = i.toNat ∧ ¬ i32 i < 0 := by
  have hin : in32 i := by unfold in32; omega
  refine ⟨?_, fun q => ?_⟩
  · show (i32 i).toInt.toNat = i.toNat
    rw [i32_ti hin]
  · rw [← i32_0, i32_lt hin in32_0] at q
    omega
/-- what CX gives of arrays' classes -/
theorem KK.arr {D : va_G} {AC : Int → ClassId} {s : State} (h : KK D AC s) {kd : Int} (hk : kd = 100 ∨ kd = 101 ∨ kd = 103 ∨ kd = 110 ∨ kd = 111 ∨ kd = 112) : ArrOfT s (AC kd) (ety kd) ∧ va_RA s (AC kd) (ety kd) := by
  rcases hk with rfl | rfl | rfl | rfl | rfl | rfl
  · exact h.1.2 0 _ rfl
  · exact h.1.2 1 _ rfl
  · exact h.1.2 2 _ rfl
  · exact h.1.2 3 _ rfl
  · exact h.1.2 4 _ rfl
  · exact h.1.2 5 _ rfl
def akd (kd : Int) : Prop := kd = 100 ∨ kd = 101 ∨ kd = 103 ∨ kd = 110 ∨ kd = 111 ∨ kd = 112
theorem akd_lo {kd : Int} (h : akd kd) : 100 ≤ kd ∧ kd ≤ 112 := by unfold akd at h; omega
theorem aty_d (ι : Int → Nat) {kd : Int} (h : akd kd) : cvT ι (aty kd) 0 = defaultValue (ety kd) := by
  rcases h with rfl | rfl | rfl | rfl | rfl | rfl
  · show Value.int (i32 0) = .int 0
    rw [i32_0]
  · show Value.long (i64 0) = .long 0
    rw [i64_0]
  · show Value.int (i32 0) = .int 0
    rw [i32_0]
  · exact cR_0 ι
  · exact cR_0 ι
  · exact cR_0 ι
/-- a new array: the picture behind it -/
theorem DX.newa {M : Mth} {D : va_G} {AC : Int → ClassId} {ι0 : Int → Nat} {K0 : KT} {A : Nat → Prop} {mc ms : Nat} {s : State} {H H1 : Heap} {locs : List Loc} {cells slots cb nb : Nat} {ι : Int → Nat} {ls : Array Slot} {L st : List V} {K : KT} {S S' : ST} {x kd n : Int} {cb' nb' : Nat}
    (hX : DX M D AC ι0 K0 A mc ms s H locs cells slots ι ls L st K S cb nb) (hA : ∀ q, s.heap.size ≤ q → A q) (hk : akd kd) (hx : (K x).1 = 0) (hx0 : x ≠ 0) (h0 : 0 ≤ n) (hn : n < 2147483648) (hb : cb' + 1 ≤ cb) (hnb : nb' + n.toNat ≤ nb) (hS : ∀ b, b ≠ x → S' b = S b)
    (e1 : H1[H.size]? = some (arrV (AC kd) n.toNat (fun j => cvT (fun b => if b = x then H.size else ι b) (aty kd) (S' x j)))) (hok : ∀ j : Nat, (j : Int) < n → okT (kup K x (kd, n)) (aty kd) (S' x j)) (z1 : H1.size = H.size + 1) (o1 : ∀ q : Nat, q < H.size → H1[q]? = H[q]?) :
    DX M D AC ι0 K0 A mc ms s H1 locs (cells + 1) (slots + n.toNat) (fun b => if b = x then H.size else ι b) ls L (vR x :: st) (kup K x (kd, n)) S' cb' nb' ∧ (vR x :: st).map (conc (fun b => if b = x then H.size else ι b)) = .ref H.size :: st.map (conc ι) := by
  obtain ⟨g1, g2, g3, g4, g5, g6, g7, g8, g9, g10⟩ := hX
  have hb1 := akd_lo hk
  have hne : ∀ b, (K b).1 ≠ 0 → b ≠ x := fun b hb q => hb (by rw [q]; exact hx)
  have hi' : ∀ b, (K b).1 ≠ 0 → (fun b => if b = x then H.size else ι b) b = ι b := fun b hb => if_neg (hne b hb)
  have hk' : ∀ b, (K b).1 ≠ 0 → kup K x (kd, n) b = K b := fun b hb => kup_n (hne b hb)
  have hR := g1.new (x := x) (k := (kd, n)) (S' := S') (H1 := H1) hx hx0 hS (Or.inl ⟨by rw [kup_s]; exact hb1.1, by rw [kup_s]; exact h0, by rw [kup_s]; exact hn, by rw [kup_s]; show H1[if x = x then H.size else ι x]? = _; rw [if_pos rfl]; exact e1, by rw [kup_s]; exact hok⟩) o1 (by omega)
  refine ⟨⟨hR, fun b hb => ⟨(hk' b (by rw [(g2 b hb).1]; exact hb)).trans (g2 b hb).1, (hi' b (by rw [(g2 b hb).1]; exact hb)).trans (g2 b hb).2⟩,
    fun b hb => by
      by_cases q : b = x
      · subst q; rw [kup_s] at hb; have hb' : kd = 90 ∨ kd = 91 ∨ kd = 92 := hb; omega
      · rw [kup_n q] at hb ⊢; exact g3 b hb,
    fun b hb hb2 => by
      by_cases q : b = x
      · subst q
        show A (if b = b then H.size else ι b)
        rw [if_pos rfl]
        exact hA _ g5.1
      · rw [kup_n q] at hb hb2
        show A (if b = x then H.size else ι b)
        rw [if_neg q]
        exact g4 b hb hb2,
    ⟨Nat.le_trans g5.1 (by omega), fun q h1 h2 => (o1 q (Nat.lt_of_lt_of_le h1 g5.1)).trans (g5.2.1 q h1 h2), g5.2.2⟩, by omega, by omega, g8.agree hi' g9, fun v hv => okV_mono hk' (g9 v hv), okc (Or.inr (by rw [kup_s]; show kd ≠ 0; omega)) (fun v hv => okV_mono hk' (g10 v hv))⟩, ?_⟩
  rw [List.map_cons, conc_R, cR_n hx0]
  simp only [if_true]
  rw [List.map_congr_left (fun v hv => conc_agree hi' (g10 v hv))]
def oNewa (kd : Int) (nx : Nat) : Op := fun T _ _ L st K S cb nb => popI st fun n st => 0 ≤ n ∧ n < 67108864 ∧ 1 ≤ cb ∧ n.toNat ≤ nb ∧ ∃ x : Int, (K x).1 = 0 ∧ ¬ x = 0 ∧ T nx L (vR x :: st) (kup K x (kd, n)) (S0 S x) (cb - 1) (nb - n.toNat)
theorem s_newa {M : Mth} {pc : Nat} {kd : Int} {atype : ArrayType} (hk : akd kd) (hty : newarray.typeOf atype = ety kd) (hc8 : componentBytes (ety kd) ≤ 8) (hl : Cond.arrayClass (newarray.typeOf atype) ∈ lwG) (hra : ∀ (s : State) (cA : ClassId), va_RA s cA (ety kd) → s.vm.findClass ("[" ++ (newarray.typeOf atype).toString) = some cA) (hd : decode M.2.1 pc = .ok (.newarray atype, 2)) : Snd M pc (oNewa kd (pc + 2)) := by
  intro d T Q hT L st K S cb nb h
  obtain ⟨n, r0, rfl, h0, hn, b1, b2, x, hx, hx0, h⟩ := popI_o h
  intro p l e R s m args below meth c D AC ι0 K0 A mc ms H locs cells slots ι ls hX1 hX
  obtain ⟨g1, g2, g3, g4, g5, g6, g7, g8, g9, g10⟩ := id hX
  have hts := hX1.2.2.2.2.1
  have hA := hX1.2.2.2.2.2.2.2.2.2.2.2.2.2.2
  have hRc := hX1.2.2.2.2.2.2.2.2.2.2.1
  have hRs := hX1.2.2.2.2.2.2.2.2.2.2.2.1
  have hKK := hX1.2.2.2.2.2.2.2.2.2.2.2.2.1
  obtain ⟨hcl, hng⟩ := cl_i32 (i := n) h0 (by omega)
  rw [List.map_cons, conc_I]
  refine va_newaK hX1.1 hX1.2.1 (hts _ hl) rfl hd rfl hng hcl ?_ (by omega) (by omega) rfl fun H1 cA e1 z1 o1 hAr hNm => ?_
  · rw [hty]
    exact Nat.le_trans (Nat.mul_le_mul (show n.toNat ≤ 67108863 by omega) hc8) (by omega)
  · have hcA : cA = AC kd := Option.some.inj (hNm.symm.trans (hra s _ (hKK.arr hk).2))
    subst hcA
    have e1' : H1[H.size]? = some (arrV (AC kd) n.toNat (fun j => cvT (fun b => if b = x then H.size else ι b) (aty kd) (S0 S x x j))) := by
      rw [e1]
      congr 1
      rw [S0_s, hty]
      congr 1
      funext j
      exact (aty_d _ hk).symm
    obtain ⟨hD, hm⟩ := DX.newa (x := x) (cb' := cb - 1) (nb' := nb - n.toNat) (st := r0) ⟨g1, g2, g3, g4, g5, g6, g7, g8, g9, okt g10⟩ hA hk hx hx0 h0 (by omega) (by omega) (by omega) (fun b hb => S0_n hb) e1' (fun j _ => by rw [S0_s]; exact ok0 _ _) z1 o1
    have hkk := hT _ _ _ _ _ _ _ h p l e R s m args below meth c D AC ι0 K0 A mc ms H1 locs (cells + 1) (slots + n.toNat) _ ls hX1 hD
    rw [hm] at hkk
    exact hkk
theorem s_anewa {M : Mth} {pc idx : Nat} {kd : Int} {C : String} (hk : akd kd) (hty : ety kd = .object C) (hl : Cond.classLink M.1.cls idx C ∈ lwG) (ho : Cond.arrayOver (.object C) ∈ lw_tbl) (hd : decode M.2.1 pc = .ok (.anewarray idx, 3)) : Snd M pc (oNewa kd (pc + 3)) := by
  intro d T Q hT L st K S cb nb h
  obtain ⟨n, r0, rfl, h0, hn, b1, b2, x, hx, hx0, h⟩ := popI_o h
  intro p l e R s m args below meth c D AC ι0 K0 A mc ms H locs cells slots ι ls hX1 hX
  obtain ⟨g1, g2, g3, g4, g5, g6, g7, g8, g9, g10⟩ := id hX
  have hts := hX1.2.2.2.2.1
  have hA := hX1.2.2.2.2.2.2.2.2.2.2.2.2.2.2
  have hRc := hX1.2.2.2.2.2.2.2.2.2.2.1
  have hRs := hX1.2.2.2.2.2.2.2.2.2.2.2.1
  have hKK := hX1.2.2.2.2.2.2.2.2.2.2.2.2.1
  obtain ⟨hcl, hng⟩ := cl_i32 (i := n) h0 (by omega)
  rw [List.map_cons, conc_I]
  refine W.anew hX1.1 hX1.2.1 hX1.2.2.2.2.2.1 (hts _ hl) (va_AO.use (hKK.2.2 C ho)) rfl hd rfl hng ?_ (by omega) (by rw [hcl]; omega) fun cA kA comp f1 f2 f3 f4 => ?_
  · rw [hcl]; omega
  · generalize hH1 : H.push ({ cls := cA, slots := Array.replicate (i32 n).toNatClampNeg .null, vm := .none } : Cell) = H1
    have z1 : H1.size = H.size + 1 := by rw [← hH1, Array.size_push]
    have e1 : H1[H.size]? = some (arrV cA (i32 n).toNatClampNeg (fun _ => .null)) := by rw [← hH1, Array.getElem?_push_size, ← arrV_new]
    have o1 : ∀ q : Nat, q < H.size → H1[q]? = H[q]? := fun q hq => by rw [← hH1, Array.getElem?_push, if_neg (Nat.ne_of_lt hq)]
    have hcA : cA = AC kd := by
      have := (hKK.arr hk).2
      rw [hty] at this
      obtain ⟨_, _, _, _, _, q⟩ := this
      exact Option.some.inj (f1.symm.trans q)
    subst hcA
    rw [hcl] at e1 ⊢
    have e1' : H1[H.size]? = some (arrV (AC kd) n.toNat (fun j => cvT (fun b => if b = x then H.size else ι b) (aty kd) (S0 S x x j))) := by
      rw [e1]
      congr 1
      rw [S0_s]
      congr 1
      funext j
      show _ = cvT _ (aty kd) 0
      rw [aty_d _ hk, hty]
      rfl
    obtain ⟨hD, hm⟩ := DX.newa (x := x) (cb' := cb - 1) (nb' := nb - n.toNat) (st := r0) ⟨g1, g2, g3, g4, g5, g6, g7, g8, g9, okt g10⟩ hA hk hx hx0 h0 (by omega) (by omega) (by omega) (fun b hb => S0_n hb) e1' (fun j _ => by rw [S0_s]; exact ok0 _ _) z1 o1
    have hkk := hT _ _ _ _ _ _ _ h p l e R s m args below meth c D AC ι0 K0 A mc ms H1 locs (cells + 1) (slots + n.toNat) _ ls hX1 hD
    rw [hm] at hkk
    exact hkk
def oAlen (nx : Nat) : Op := fun T _ _ L st K S cb nb => popR st fun a st => akd (K a).1 ∧ T nx L (vI (K a).2 :: st) K S cb nb
theorem s_alen {M : Mth} {pc : Nat} (hd : decode M.2.1 pc = .ok (.arraylength, 1)) : Snd M pc (oAlen (pc + 1)) := by
  intro d T Q hT L st K S cb nb h
  obtain ⟨a, r0, rfl, ha, h⟩ := popR_o h
  intro p l e R s m args below meth c D AC ι0 K0 A mc ms H locs cells slots ι ls hX1 hX
  obtain ⟨g1, g2, g3, g4, g5, g6, g7, g8, g9, g10⟩ := id hX
  have hb1 := akd_lo ha
  obtain ⟨n0, n1, n2, n3⟩ := g1.arr rfl hb1.1
  have hkk := hT _ _ _ _ _ _ _ h p l e R s m args below meth c D AC ι0 K0 A mc ms H locs cells slots ι ls hX1 ⟨g1, g2, g3, g4, g5, g6, g7, g8, g9, okc (v := vI (K a).2) (show in32 (K a).2 by unfold in32; omega) (okt g10)⟩
  rw [List.map_cons, conc_R, cR_n (g1.ne0 (by omega))]
  refine W.alen (n := i32 (K a).2) hX1.1 hX1.2.1 n2 ((hX1.2.2.2.2.2.2.2.2.2.2.2.2.1.arr ha).1 _ _) ?_ rfl rfl hd hkk
  rw [arrV_size]
  show Int32.ofNat (K a).2.toNat = Int32.ofInt (K a).2
  rw [← Int32.ofInt_eq_ofNat]
  congr 1
  omega
def oIald (nx : Nat) : Op := fun T _ _ L st K S cb nb => popI st fun i st => popR st fun a st => (K a).1 = 100 ∧ 0 ≤ i ∧ i < (K a).2 ∧ T nx L (vI (S a i) :: st) K S cb nb
theorem s_iald {M : Mth} {pc : Nat} (hd : decode M.2.1 pc = .ok (.iaload, 1)) : Snd M pc (oIald (pc + 1)) := by
  intro d T Q hT L st K S cb nb h
  obtain ⟨i, r0, rfl, h1⟩ := popI_o h
  obtain ⟨a, r0, rfl, ha, i0, i1, h⟩ := popR_o h1
  intro p l e R s m args below meth c D AC ι0 K0 A mc ms H locs cells slots ι ls hX1 hX
  obtain ⟨g1, g2, g3, g4, g5, g6, g7, g8, g9, g10⟩ := id hX
  obtain ⟨n0, n1, n2, n3⟩ := g1.arr ha (by omega)
  obtain ⟨hin, hcl⟩ := nn_i32 (i := i) (n := (K a).2.toNat) i0 (by omega) (by omega)
  have ei : ((i.toNat : Nat) : Int) = i := by omega
  have hok := n3 i.toNat (by omega)
  rw [ei] at hok
  have hkk := hT _ _ _ _ _ _ _ h p l e R s m args below meth c D AC ι0 K0 A mc ms H locs cells slots ι ls hX1 ⟨g1, g2, g3, g4, g5, g6, g7, g8, g9, okc (v := vI (S a i)) (okV_mkT (t := 0) hok) (okt (okt g10))⟩
  rw [List.map_cons, List.map_cons, conc_I, conc_R, cR_n (g1.ne0 (by omega))]
  exact W.iald (v := cvT ι 0 (S a i)) hX1.1 hX1.2.1 n2 ((hX1.2.2.2.2.2.2.2.2.2.2.2.2.1.arr (kd := 100) (by decide)).1 _ _) (fun q => by cases q) (by rw [arrV_size]; exact hin) (by rw [hcl, arrV_read _ _ (by omega), ei]; rfl) rfl rfl hd hkk
def oLald (nx : Nat) : Op := fun T _ _ L st K S cb nb => popI st fun i st => popR st fun a st => (K a).1 = 101 ∧ 0 ≤ i ∧ i < (K a).2 ∧ T nx L (vL (S a i) :: st) K S cb nb
theorem s_lald {M : Mth} {pc : Nat} (hd : decode M.2.1 pc = .ok (.laload, 1)) : Snd M pc (oLald (pc + 1)) := by
  intro d T Q hT L st K S cb nb h
  obtain ⟨i, r0, rfl, h1⟩ := popI_o h
  obtain ⟨a, r0, rfl, ha, i0, i1, h⟩ := popR_o h1
  intro p l e R s m args below meth c D AC ι0 K0 A mc ms H locs cells slots ι ls hX1 hX
  obtain ⟨g1, g2, g3, g4, g5, g6, g7, g8, g9, g10⟩ := id hX
  obtain ⟨n0, n1, n2, n3⟩ := g1.arr ha (by omega)
  obtain ⟨hin, hcl⟩ := nn_i32 (i := i) (n := (K a).2.toNat) i0 (by omega) (by omega)
  have ei : ((i.toNat : Nat) : Int) = i := by omega
  have hok := n3 i.toNat (by omega)
  rw [ei] at hok
  have hkk := hT _ _ _ _ _ _ _ h p l e R s m args below meth c D AC ι0 K0 A mc ms H locs cells slots ι ls hX1 ⟨g1, g2, g3, g4, g5, g6, g7, g8, g9, okc (v := vL (S a i)) (okV_mkT (t := 1) hok) (okt (okt g10))⟩
  rw [List.map_cons, List.map_cons, conc_I, conc_R, cR_n (g1.ne0 (by omega))]
  exact W.lald (v := cvT ι 1 (S a i)) hX1.1 hX1.2.1 n2 ((hX1.2.2.2.2.2.2.2.2.2.2.2.2.1.arr (kd := 101) (by decide)).1 _ _) (fun q => by cases q) (by rw [arrV_size]; exact hin) (by rw [hcl, arrV_read _ _ (by omega), ei]; rfl) rfl rfl hd hkk
def oZald (nx : Nat) : Op := fun T _ _ L st K S cb nb => popI st fun i st => popR st fun a st => (K a).1 = 103 ∧ 0 ≤ i ∧ i < (K a).2 ∧ T nx L (vI (S a i) :: st) K S cb nb
theorem s_zald {M : Mth} {pc : Nat} (hd : decode M.2.1 pc = .ok (.baload, 1)) : Snd M pc (oZald (pc + 1)) := by
  intro d T Q hT L st K S cb nb h
  obtain ⟨i, r0, rfl, h1⟩ := popI_o h
  obtain ⟨a, r0, rfl, ha, i0, i1, h⟩ := popR_o h1
  intro p l e R s m args below meth c D AC ι0 K0 A mc ms H locs cells slots ι ls hX1 hX
  obtain ⟨g1, g2, g3, g4, g5, g6, g7, g8, g9, g10⟩ := id hX
  obtain ⟨n0, n1, n2, n3⟩ := g1.arr ha (by omega)
  obtain ⟨hin, hcl⟩ := nn_i32 (i := i) (n := (K a).2.toNat) i0 (by omega) (by omega)
  have ei : ((i.toNat : Nat) : Int) = i := by omega
  have hok := n3 i.toNat (by omega)
  rw [ei] at hok
  have hkk := hT _ _ _ _ _ _ _ h p l e R s m args below meth c D AC ι0 K0 A mc ms H locs cells slots ι ls hX1 ⟨g1, g2, g3, g4, g5, g6, g7, g8, g9, okc (v := vI (S a i)) (okV_mkT (t := 3) hok) (okt (okt g10))⟩
  rw [List.map_cons, List.map_cons, conc_I, conc_R, cR_n (g1.ne0 (by omega))]
  exact W.zald (v := cvT ι 3 (S a i)) hX1.1 hX1.2.1 n2 ((hX1.2.2.2.2.2.2.2.2.2.2.2.2.1.arr (kd := 103) (by decide)).1 _ _) (fun q => by cases q) (by rw [arrV_size]; exact hin) (by rw [hcl, arrV_read _ _ (by omega), ei]; rfl) rfl rfl hd hkk
def oAald (kd : Int) (nx : Nat) : Op := fun T _ _ L st K S cb nb => popI st fun i st => popR st fun a st => (K a).1 = kd ∧ 0 ≤ i ∧ i < (K a).2 ∧ T nx L (vR (S a i) :: st) K S cb nb
theorem s_aald {M : Mth} {pc : Nat} {kd : Int} (hk : akd kd) (ht : aty kd = 2) (hr : (ety kd).isReference = true) (hd : decode M.2.1 pc = .ok (.aaload, 1)) : Snd M pc (oAald kd (pc + 1)) := by
  intro d T Q hT L st K S cb nb h
  obtain ⟨i, r0, rfl, h1⟩ := popI_o h
  obtain ⟨a, r0, rfl, ha, i0, i1, h⟩ := popR_o h1
  intro p l e R s m args below meth c D AC ι0 K0 A mc ms H locs cells slots ι ls hX1 hX
  obtain ⟨g1, g2, g3, g4, g5, g6, g7, g8, g9, g10⟩ := id hX
  have hb1 := akd_lo hk
  obtain ⟨n0, n1, n2, n3⟩ := g1.arr ha hb1.1
  obtain ⟨hin, hcl⟩ := nn_i32 (i := i) (n := (K a).2.toNat) i0 (by omega) (by omega)
  have ei : ((i.toNat : Nat) : Int) = i := by omega
  have hok := n3 i.toNat (by omega)
  rw [ei, ht] at hok
  rw [ht] at n2
  have hkk := hT _ _ _ _ _ _ _ h p l e R s m args below meth c D AC ι0 K0 A mc ms H locs cells slots ι ls hX1 ⟨g1, g2, g3, g4, g5, g6, g7, g8, g9, okc (v := vR (S a i)) (okV_mkT (t := 2) hok) (okt (okt g10))⟩
  rw [List.map_cons, List.map_cons, conc_I, conc_R, cR_n (g1.ne0 (by omega))]
  exact W.aald (v := cvT ι 2 (S a i)) (ty := ety kd) hX1.1 hX1.2.1 n2 ((hX1.2.2.2.2.2.2.2.2.2.2.2.2.1.arr hk).1 _ _) hr (fun q => by cases q) (by rw [arrV_size]; exact hin) (by rw [hcl, arrV_read _ _ (by omega), ei]) rfl rfl hd hkk
/-- the picture behind a store into an array -/
theorem RR.seta {D : va_G} {AC : Int → ClassId} {ι : Int → Nat} {K : KT} {S : ST} {H H1 : Heap} {a i z kd : Int} {v : Value} (g1 : RR D AC ι K S H) (hk : (K a).1 = kd) (hc : 100 ≤ kd) (i0 : 0 ≤ i) (i1 : i < (K a).2) (hz : okT K (aty kd) z) (hv : v = cvT ι (aty kd) z) (e1 : H1[ι a]? = some ((arrV (AC kd) (K a).2.toNat (fun j => cvT ι (aty kd) (S a j))).setSlot i.toNat v)) (e2 : H1.size = H.size) (o1 : ∀ q : Nat, q ≠ ι a → H1[q]? = H[q]?) : RR D AC ι K (up S a i z) H1 := by
  obtain ⟨n0, n1, n2, n3⟩ := g1.arr hk hc
  refine g1.set (a := a) (by omega) (fun b hb => up_na hb) (Or.inl ⟨by omega, n0, n1, ?_, fun j hj => ?_⟩) o1 e2
  · rw [e1, hk, arrV_store, hv]
    congr 2
    funext j
    by_cases hj : j = i.toNat
    · subst hj
      rw [show ((i.toNat : Nat) : Int) = i by omega, up_s]
      simp [updV]
    · rw [up_ni (by omega)]
      simp [updV, hj]
  · rw [hk]
    by_cases hj2 : (j : Int) = i
    · rw [hj2, up_s]; exact hz
    · rw [up_ni hj2]; exact n3 j hj
def oIast (nx : Nat) : Op := fun T _ _ L st K S cb nb => popI st fun z st => popI st fun i st => popR st fun a st => (K a).1 = 100 ∧ 0 ≤ i ∧ i < (K a).2 ∧ T nx L st K (up S a i z) cb nb
theorem s_iast {M : Mth} {pc : Nat} (hd : decode M.2.1 pc = .ok (.iastore, 1)) : Snd M pc (oIast (pc + 1)) := by
  intro d T Q hT L st K S cb nb h
  obtain ⟨z, r0, rfl, h1⟩ := popI_o h
  obtain ⟨i, r0, rfl, h2⟩ := popI_o h1
  obtain ⟨a, r0, rfl, ha, i0, i1, h3⟩ := popR_o h2
  intro p l e R s m args below meth c D AC ι0 K0 A mc ms H locs cells slots ι ls hX1 hX
  obtain ⟨g1, g2, g3, g4, g5, g6, g7, g8, g9, g10⟩ := id hX
  obtain ⟨n0, n1, n2, n3⟩ := g1.arr ha (by omega)
  obtain ⟨hin, hcl⟩ := nn_i32 (i := i) (n := (K a).2.toNat) i0 (by omega) (by omega)
  have hA : A (ι a) := g4 a (by omega) (fun q => by unfold ROk at q; omega)
  have hzo : okT K 0 z := (okh g10)
  rw [List.map_cons, List.map_cons, List.map_cons, conc_I, conc_R, cR_n (g1.ne0 (by omega))]
  refine W.iast hX1.1 hX1.2.1 n2 ((hX1.2.2.2.2.2.2.2.2.2.2.2.2.1.arr (kd := 100) (by decide)).1 _ _) (fun q => by cases q) (by rw [arrV_size]; exact hin) rfl rfl hd fun H1 e1 e2 o1 => ?_
  rw [hcl] at e1 ⊢
  exact hT _ _ _ _ _ _ _ h3 p l e R s m args below meth c D AC ι0 K0 A mc ms H1 _ cells slots ι ls hX1 ⟨g1.seta ha (by omega) i0 i1 (show okT K 0 z from hzo) rfl e1 e2 o1, g2, g3, g4, g5.put e2 o1 hA, g6, g7, g8, g9, okt (okt (okt g10))⟩
def oLast (nx : Nat) : Op := fun T _ _ L st K S cb nb => popL st fun z st => popI st fun i st => popR st fun a st => (K a).1 = 101 ∧ 0 ≤ i ∧ i < (K a).2 ∧ T nx L st K (up S a i z) cb nb
theorem s_last {M : Mth} {pc : Nat} (hd : decode M.2.1 pc = .ok (.lastore, 1)) : Snd M pc (oLast (pc + 1)) := by
  intro d T Q hT L st K S cb nb h
  obtain ⟨z, r0, rfl, h1⟩ := popL_o h
  obtain ⟨i, r0, rfl, h2⟩ := popI_o h1
  obtain ⟨a, r0, rfl, ha, i0, i1, h3⟩ := popR_o h2
  intro p l e R s m args below meth c D AC ι0 K0 A mc ms H locs cells slots ι ls hX1 hX
  obtain ⟨g1, g2, g3, g4, g5, g6, g7, g8, g9, g10⟩ := id hX
  obtain ⟨n0, n1, n2, n3⟩ := g1.arr ha (by omega)
  obtain ⟨hin, hcl⟩ := nn_i32 (i := i) (n := (K a).2.toNat) i0 (by omega) (by omega)
  have hA : A (ι a) := g4 a (by omega) (fun q => by unfold ROk at q; omega)
  have hzo : okT K 1 z := (okh g10)
  rw [List.map_cons, List.map_cons, List.map_cons, conc_I, conc_R, cR_n (g1.ne0 (by omega))]
  refine W.last hX1.1 hX1.2.1 n2 ((hX1.2.2.2.2.2.2.2.2.2.2.2.2.1.arr (kd := 101) (by decide)).1 _ _) (fun q => by cases q) (by rw [arrV_size]; exact hin) rfl rfl hd fun H1 e1 e2 o1 => ?_
  rw [hcl] at e1 ⊢
  exact hT _ _ _ _ _ _ _ h3 p l e R s m args below meth c D AC ι0 K0 A mc ms H1 _ cells slots ι ls hX1 ⟨g1.seta ha (by omega) i0 i1 (show okT K 1 z from hzo) rfl e1 e2 o1, g2, g3, g4, g5.put e2 o1 hA, g6, g7, g8, g9, okt (okt (okt g10))⟩
def oZast (nx : Nat) : Op := fun T _ _ L st K S cb nb => popI st fun z st => popI st fun i st => popR st fun a st => (K a).1 = 103 ∧ 0 ≤ i ∧ i < (K a).2 ∧ (z = 0 ∨ z = 1) ∧ T nx L st K (up S a i z) cb nb
theorem s_zast {M : Mth} {pc : Nat} (hd : decode M.2.1 pc = .ok (.bastore, 1)) : Snd M pc (oZast (pc + 1)) := by
  intro d T Q hT L st K S cb nb h
  obtain ⟨z, r0, rfl, h1⟩ := popI_o h
  obtain ⟨i, r0, rfl, h2⟩ := popI_o h1
  obtain ⟨a, r0, rfl, ha, i0, i1, hz, h3⟩ := popR_o h2
  intro p l e R s m args below meth c D AC ι0 K0 A mc ms H locs cells slots ι ls hX1 hX
  obtain ⟨g1, g2, g3, g4, g5, g6, g7, g8, g9, g10⟩ := id hX
  obtain ⟨n0, n1, n2, n3⟩ := g1.arr ha (by omega)
  obtain ⟨hin, hcl⟩ := nn_i32 (i := i) (n := (K a).2.toNat) i0 (by omega) (by omega)
  have hA : A (ι a) := g4 a (by omega) (fun q => by unfold ROk at q; omega)
  have hzo : okT K 3 z := hz
  rw [List.map_cons, List.map_cons, List.map_cons, conc_I, conc_R, cR_n (g1.ne0 (by omega))]
  refine W.zast hX1.1 hX1.2.1 n2 ((hX1.2.2.2.2.2.2.2.2.2.2.2.2.1.arr (kd := 103) (by decide)).1 _ _) (fun q => by cases q) (by rw [arrV_size]; exact hin) rfl rfl hd fun H1 e1 e2 o1 => ?_
  rw [hcl] at e1 ⊢
  exact hT _ _ _ _ _ _ _ h3 p l e R s m args below meth c D AC ι0 K0 A mc ms H1 _ cells slots ι ls hX1 ⟨g1.seta ha (by omega) i0 i1 (show okT K 3 z from hzo) (ty_nar (ty := .boolean) (K := K) rfl hz ι) e1 e2 o1, g2, g3, g4, g5.put e2 o1 hA, g6, g7, g8, g9, okt (okt (okt g10))⟩
/-- a store of an object into an array of references: of the array's own class, or of a class that the tables let into it -/
def oAast (kd ck : Int) (nx : Nat) : Op := fun T _ _ L st K S cb nb => popR st fun z st => popI st fun i st => popR st fun a st => (K a).1 = kd ∧ 0 ≤ i ∧ i < (K a).2 ∧ (K z).1 = ck ∧ T nx L st K (up S a i z) cb nb
theorem s_aast {M : Mth} {pc ci : Nat} {kd ck : Int} {r : vw_C} {E : String} (hk : akd kd) (ht : aty kd = 2) (hE : ety kd = .object E) (hr : vwCl[ci]? = some r) (hc : ci ≤ 13) (hck : ck = (ci : Int) + 1) (hcast : E = r.1 ∨ Cond.castable r.1 E ∈ lw_tbl) (hd : decode M.2.1 pc = .ok (.aastore, 1)) : Snd M pc (oAast kd ck (pc + 1)) := by
  intro d T Q hT L st K S cb nb h
  obtain ⟨z, r0, rfl, h1⟩ := popR_o h
  obtain ⟨i, r0, rfl, h2⟩ := popI_o h1
  obtain ⟨a, r0, rfl, ha, i0, i1, hz, h3⟩ := popR_o h2
  intro p l e R s m args below meth c D AC ι0 K0 A mc ms H locs cells slots ι ls hX1 hX
  obtain ⟨g1, g2, g3, g4, g5, g6, g7, g8, g9, g10⟩ := id hX
  have hb1 := akd_lo hk
  obtain ⟨n0, n1, n2, n3⟩ := g1.arr ha hb1.1
  obtain ⟨hin, hcl⟩ := nn_i32 (i := i) (n := (K a).2.toNat) i0 (by omega) (by omega)
  have hA : A (ι a) := g4 a (by omega) (fun q => by unfold ROk at q; omega)
  have hKK := hX1.2.2.2.2.2.2.2.2.2.2.2.2.1
  obtain ⟨r', hr', ⟨cellV, q1, q2, q3, q4⟩, -⟩ := g1.obj (hz.trans hck) hc
  have hcls := (hKK.1.1 ci r hr).2
  have hra := (hKK.arr hk).2
  rw [hE] at hra
  obtain ⟨kA, comp, k1, k2, k3, -⟩ := hra
  obtain ⟨kE, hkE, -⟩ := Vm.findClass_spec k3
  have hasg : s.vm.assignable (D.1 ci) comp = true := by
    rcases hcast with hcast | hcast
    · subst hcast
      have hcomp : comp = D.1 ci := Option.some.inj (k3.symm.trans hcls.1)
      subst hcomp
      exact va_assign hcls
    · obtain ⟨c0, t1, f1, f2, f3⟩ := Cond.castable_spec (va_Nw.use (A := args) rfl (hKK.2.1 _ hcast (Or.inr (Or.inl ⟨_, _, rfl⟩))))
      cases hcls.1.symm.trans f1
      cases k3.symm.trans f2
      exact f3
  obtain ⟨kC, hkC, -⟩ := hcls.2
  rw [List.map_cons, List.map_cons, List.map_cons, conc_I, conc_R, conc_R, cR_n (g1.ne0 (a := a) (by omega)), cR_n (g1.ne0 (a := z) (by omega))]
  have hin' : ¬ i32 i < 0 ∧ (i32 i).toNatClampNeg < (arrV (AC kd) (K a).2.toNat (fun j => cvT ι (aty kd) (S a j))).slots.size := by
    rw [arrV_size]
    exact ⟨fun q => hin (Or.inl q), Nat.not_le.mp fun q => hin (Or.inr q)⟩
  refine W.aast hX1.1 hX1.2.1 n2 (fun q h => by cases h) (fun h => by cases h) k1 k2 rfl hkE hin' q1 (fun q h => by rw [q3] at h; cases h) (by rw [q2]; exact hkC) (by rw [q2]; exact hasg) rfl rfl hd fun H1 e1 e2 o1 => ?_
  rw [hcl] at e1 ⊢
  have hzo : okT K (aty kd) z := by rw [ht]; exact Or.inr (by omega)
  exact hT _ _ _ _ _ _ _ h3 p l e R s m args below meth c D AC ι0 K0 A mc ms H1 _ cells slots ι ls hX1 ⟨g1.seta ha hb1.1 i0 i1 hzo (by rw [ht]; exact (cR_n (g1.ne0 (a := z) (by omega))).symm) e1 e2 o1, g2, g3, g4, g5.put e2 o1 hA, g6, g7, g8, g9, okt (okt (okt g10))⟩
def oCast (kd : Int) (nx : Nat) : Op := fun T _ _ L st K S cb nb => popR st fun z st => (z = 0 ∨ (K z).1 = kd) ∧ T nx L (vR z :: st) K S cb nb
theorem s_cast {M : Mth} {pc idx ci : Nat} {kd : Int} {r : vw_C} (hr : vwCl[ci]? = some r) (hc : ci ≤ 13) (hkd : kd = (ci : Int) + 1) (hl : Cond.classLink M.1.cls idx r.1 ∈ lwG) (hd : decode M.2.1 pc = .ok (.checkcast idx, 3)) : Snd M pc (oCast kd (pc + 3)) := by
  intro d T Q hT L st K S cb nb h
  obtain ⟨z, r0, rfl, hz, h3⟩ := popR_o h
  intro p l e R s m args below meth c D AC ι0 K0 A mc ms H locs cells slots ι ls hX1 hX
  obtain ⟨g1, g2, g3, g4, g5, g6, g7, g8, g9, g10⟩ := id hX
  have hkk := hT _ _ _ _ _ _ _ h3 p l e R s m args below meth c D AC ι0 K0 A mc ms H locs cells slots ι ls hX1 ⟨g1, g2, g3, g4, g5, g6, g7, g8, g9, g10⟩
  rw [List.map_cons, conc_R] at hkk ⊢
  rcases hz with rfl | hz
  · rw [cR_0] at hkk ⊢
    exact lv_castN hX1.1 hX1.2.1 hd hkk
  · have hKK := hX1.2.2.2.2.2.2.2.2.2.2.2.2.1
    obtain ⟨r', hr', ⟨cellV, q1, q2, q3, q4⟩, -⟩ := g1.obj (hz.trans hkd) hc
    have hcls := (hKK.1.1 ci r hr).2
    rw [cR_n (g1.ne0 (a := z) (by omega))] at hkk ⊢
    exact va_castS hX1.1 hX1.2.1 hX1.2.2.2.2.2.1 (hX1.2.2.2.2.1 _ hl) hcls ⟨cellV, q1, by rw [q3]; rfl, by rw [q2]; exact hcls.1⟩ hd hkk
