/-! INVARIANTS KEPT: decide, kin, appeal -/
theorem fndF_is {p : Int → Bool} : ∀ (m : Nat) (i : Int), fndF p i m = -1 ∨ (i ≤ fndF p i m ∧ fndF p i m < i + m ∧ p (fndF p i m) = true)
  | 0, _ => Or.inl rfl
  | m + 1, i => by
    unfold fndF
    by_cases e : p i = true
    · rw [if_pos e]
      exact Or.inr ⟨Int.le_refl i, by omega, e⟩
    · rw [if_neg e]
      rcases fndF_is (p := p) m (i + 1) with g | ⟨g1, g2, g3⟩
      · exact Or.inl g
      · exact Or.inr ⟨by omega, by omega, g3⟩
theorem bindF_is {μ : ST} {m p : Int} (h : 0 ≤ μ 1000 6) : bindF μ m p = -1 ∨ (0 ≤ bindF μ m p ∧ bindF μ m p < μ 1000 6 ∧ μ 1065 (bindF μ m p) = 0) := by
  unfold bindF
  rcases fndF_is (p := fun r => likeF μ p r && decide (μ 1057 r = m)) (μ 1000 6).toNat 0 with g | ⟨g1, g2, g3⟩
  · exact Or.inl g
  · refine Or.inr ⟨g1, by omega, ?_⟩
    have g4 := (Bool.and_eq_true_iff.mp g3).1
    unfold likeF at g4
    exact (of_decide_eq_true g4).1
theorem Iv_decide {μ : ST} {R : RT} {ad i ba nt : Int} (h : IvB μ R) : IvB (f_decide μ ad i ba nt).2 R := by
  unfold f_decide
  split
  · exact IvB_rf h
  split
  · exact IvB_rf h
  split
  · exact IvB_rf h
  rename_i c1 c2 c3
  obtain ⟨⟨h0, h1, h2, h3, h4, h5, h6, h7⟩, h8⟩ := h
  have h0' := h0
  unfold Iv0 at h0'
  have hcl := claimP_in (ad := ad) (i := i) h0 (fun q => c1 (Or.inl q))
  generalize claimP μ ad i = p at *
  have hp := h3 p hcl.1 hcl.2.1
  have hb := bindF_is (μ := μ) (m := μ 1021 ad) (p := p) (by omega)
  generalize bindF μ (μ 1021 ad) p = bd at *
  have hag : b01 (againF μ (μ 1020 ad) p (μ 1000 0) (μ 1000 0)) = 0 ∨ b01 (againF μ (μ 1020 ad) p (μ 1000 0) (μ 1000 0)) = 1 := by
    cases againF μ (μ 1020 ad) p (μ 1000 0) (μ 1000 0) <;> simp [b01]
  generalize b01 (againF μ (μ 1020 ad) p (μ 1000 0) (μ 1000 0)) = ag at *
  have hwb : (if cntV μ ba (μ 1020 ad) + cntV μ nt (μ 1020 ad) < 2 * cntV μ ba (μ 1020 ad) then (1 : Int) else 0) = 0 ∨ (if cntV μ ba (μ 1020 ad) + cntV μ nt (μ 1020 ad) < 2 * cntV μ ba (μ 1020 ad) then (1 : Int) else 0) = 1 := by split <;> simp
  generalize (if cntV μ ba (μ 1020 ad) + cntV μ nt (μ 1020 ad) < 2 * cntV μ ba (μ 1020 ad) then (1 : Int) else 0) = wb at *
  have hP2 : (2 : Int) ^ (μ 1000 5).toNat ≤ 512 := by
    have := pow2_le (a := (μ 1000 5).toNat) (b := 9) (by omega)
    have h9 : (2 : Int) ^ 9 = 512 := rfl
    omega
  have hand : iand ba nt = 0 := by omega
  generalize cntV μ ba (μ 1020 ad) + cntV μ nt (μ 1020 ad) = ct at *
  have hall := deM_at μ (μ 1000 6) bd ag (μ 1020 ad) (μ 1021 ad) (μ 1034 p) (μ 1035 p) (μ 1036 p) (μ 1000 0) ba nt wb ct _ rfl
  revert hall
  generalize up (up (up (up (up (up (up (up (up (up (up (up (up (up μ 1064 (μ 1000 6) bd) 1068 (μ 1000 6) ag) 1056 (μ 1000 6) (μ 1020 ad)) 1057 (μ 1000 6) (μ 1021 ad)) 1058 (μ 1000 6) (μ 1034 p)) 1059 (μ 1000 6) (μ 1035 p)) 1060 (μ 1000 6) (μ 1036 p)) 1061 (μ 1000 6) (μ 1000 0)) 1062 (μ 1000 6) ba) 1063 (μ 1000 6) nt) 1067 (μ 1000 6) wb) 1065 (μ 1000 6) 0) 1066 (μ 1000 6) ct) 1000 6 (μ 1000 6 + 1) = μ'
  intro hall
  obtain ⟨m1, m2, m3, m4, m5⟩ := hall
  obtain ⟨i0, i1, i2, i3, i4, i5, i7, i8, i9, i10⟩ := m2
  show IvB μ' R
  refine ⟨⟨?_, IvS_f h1 (fun a _ _ => m1 a (by omega) (by omega)), IvA_f h2 i1 (fun a _ _ => m1 a (by omega) (by omega)), IvP_f h3 i2 (fun a _ => m1 a (by omega) (by omega)), IvF_f h4 i3 (fun a _ _ => m1 a (by omega) (by omega)), IvK_f h5 i5 (m1 _ (by omega) (by omega)), ?_, IvR_f h7 i4 (fun a _ _ => m1 a (by omega) (by omega))⟩, ?_⟩
  · unfold Iv0 at h0 ⊢
    rw [i0, i1, i2, i3, i4, i5, m3, i7, i8]
    omega
  · intro r a0 a1
    rw [m3] at a1
    by_cases e : r = μ 1000 6
    · obtain ⟨q0, q1, q2, q3, q4, q5, q6, q7, q8, q9, q10, q11, q12, q13⟩ := m4
      rw [e, q4, q5, q6, q7, q9, q10, q11, q12]
      refine ⟨by omega, by omega, by omega, by omega, by omega, by omega, by omega, by omega, hand, by omega, by omega, hwb, hag, by omega, by omega, fun _ b0 => ?_⟩
      have e2 : bd ≠ μ 1000 6 := by omega
      rw [(m5 bd e2).2.2.2.2.2.2.2.2.2.2.2.2]
      omega
    · have g := h6 r a0 (by omega)
      obtain ⟨q0, q1, q2, q3, q4, q5, q6, q7, q8, q9, q10, q11, q12⟩ := m5 r e
      rw [q4, q5, q6, q7, q9, q10, q11, q12]
      have e2 : μ 1064 r ≠ μ 1000 6 := by omega
      rw [(m5 _ e2).2.2.2.2.2.2.2.2.2.2.2.2]
      exact g
  · refine ⟨?_, ?_, fun r a0 a1 => ?_⟩
    · have g := h8.1
      rw [i1]
      simp (disch := omega) only [m1]
      exact g
    · have g := h8.2.1
      rw [i2]
      simp (disch := omega) only [m1]
      exact g
    · rw [m3] at a0
      rw [m4.2.2.2.2.2.2.2.2.2.2.2.2.2]
      exact h8.2.2 r (by omega) a1
/-- only states of rulings change -/
theorem IvB_st {μ μ' : ST} {R : RT} (h : IvB μ R) (e : ∀ a, a ≠ 1065 → μ' a = μ a) (e2 : ∀ r, 0 ≤ r → r < μ 1000 6 → (0 ≤ μ' 1065 r ∧ μ' 1065 r ≤ 2) ∧ (μ' 1065 r = 0 → 0 ≤ μ 1064 r → μ' 1065 (μ 1064 r) ≠ 2)) : IvB μ' R := by
  obtain ⟨⟨h0, h1, h2, h3, h4, h5, h6, h7⟩, h8⟩ := h
  have i0 : μ' 1000 = μ 1000 := e _ (by omega)
  refine ⟨⟨Iv0_f h0 (fun i _ => by rw [i0]), IvS_f h1 (fun a _ _ => e a (by omega)), IvA_f h2 (by rw [i0]) (fun a _ _ => e a (by omega)), IvP_f h3 (by rw [i0]) (fun a _ => e a (by omega)), IvF_f h4 (by rw [i0]) (fun a _ _ => e a (by omega)), IvK_f h5 (by rw [i0]) (e _ (by omega)), ?_, IvR_f h7 (by rw [i0]) (fun a _ _ => e a (by omega))⟩, IvC_f h8 (by rw [i0]) (by rw [i0]) (by rw [i0]) (fun a _ => e a (by omega))⟩
  intro r a0 a1
  rw [i0] at a1
  have g := h6 r a0 a1
  have g2 := e2 r a0 a1
  simp (disch := omega) only [e]
  obtain ⟨u1, u2, u3, u4, u5, u6, u7, u8, u9, u10, u11, u12, u13, u14, u15, u16⟩ := g
  exact ⟨u1, u2, u3, u4, u5, u6, u7, u8, u9, u10, u11, u12, u13, g2.1.1, g2.1.2, g2.2⟩
theorem voidF_st {μ0 : ST} {s f : Int} : ∀ (m : Nat) (r n : Int) (μ : ST), (∀ a, a ≠ 1065 → (voidF μ0 s f r m (n, μ)).2 a = μ a) ∧ ∀ q, (voidF μ0 s f r m (n, μ)).2 1065 q = μ 1065 q ∨ (voidF μ0 s f r m (n, μ)).2 1065 q = 1
  | 0, _, _, _ => ⟨fun _ _ => rfl, fun _ => Or.inl rfl⟩
  | m + 1, r, n, μ => by
    by_cases c0 : μ 1065 r ≠ 0 ∨ μ 1056 r ≠ f ∨ bt (ior (μ 1062 r) (μ 1063 r)) s = false
    · rw [voidF_s0 c0]
      exact voidF_st m (r + 1) n μ
    by_cases c1 : 3 ≤ cntV μ0 (μ 1062 r) f + cntV μ0 (μ 1063 r) f ∧ (if cntV μ0 (μ 1062 r) f + cntV μ0 (μ 1063 r) f < 2 * cntV μ0 (μ 1062 r) f then (1 : Int) else 0) = μ 1067 r
    · rw [voidF_s1 c0 c1]
      exact voidF_st m (r + 1) n μ
    · rw [voidF_s2 c0 c1]
      have g := voidF_st (μ0 := μ0) (s := s) (f := f) m (r + 1) (n + 1) (up μ 1065 r 1)
      refine ⟨fun a q => by rw [g.1 a q, up_na q], fun q => ?_⟩
      rcases g.2 q with e | e
      · rw [e, up_at]
        by_cases z : q = r
        · rw [if_pos ⟨rfl, z⟩]; exact Or.inr rfl
        · rw [if_neg (fun w => z w.2)]; exact Or.inl rfl
      · exact Or.inr e
theorem Iv_kin {μ : ST} {R : RT} {s f : Int} (h : IvB μ R) : IvB (f_kin μ s f).2 R := by
  unfold f_kin
  split
  · exact IvB_rf h
  split
  · exact IvB_rf h
  rename_i c1 c2
  have hf : isFi f := Classical.byContradiction fun q => c1 (Or.inr (Or.inr q))
  unfold isFi at hf
  have hk : IvB (up μ 1055 s (ior (μ 1055 s) (ishl 1 f))) R := by
    obtain ⟨⟨h0, h1, h2, h3, h4, h5, h6, h7⟩, h8⟩ := h
    refine ⟨⟨Iv0_f h0 (by intros; simp (disch := omega) only [up_na, up_ni, zrF_na, cpyF_na, toRowF, putLF]), IvS_f h1 (by intros; simp (disch := omega) only [up_na, up_ni, zrF_na, cpyF_na, toRowF, putLF]), IvA_f h2 (by intros; simp (disch := omega) only [up_na, up_ni, zrF_na, cpyF_na, toRowF, putLF]) (by intros; simp (disch := omega) only [up_na, up_ni, zrF_na, cpyF_na, toRowF, putLF]), IvP_f h3 (by intros; simp (disch := omega) only [up_na, up_ni, zrF_na, cpyF_na, toRowF, putLF]) (by intros; simp (disch := omega) only [up_na, up_ni, zrF_na, cpyF_na, toRowF, putLF]), IvF_f h4 (by intros; simp (disch := omega) only [up_na, up_ni, zrF_na, cpyF_na, toRowF, putLF]) (by intros; simp (disch := omega) only [up_na, up_ni, zrF_na, cpyF_na, toRowF, putLF]), ?_, IvU_f h6 (by intros; simp (disch := omega) only [up_na, up_ni, zrF_na, cpyF_na, toRowF, putLF]) (by intros; simp (disch := omega) only [up_na, up_ni, zrF_na, cpyF_na, toRowF, putLF]), IvR_f h7 (by intros; simp (disch := omega) only [up_na, up_ni, zrF_na, cpyF_na, toRowF, putLF]) (by intros; simp (disch := omega) only [up_na, up_ni, zrF_na, cpyF_na, toRowF, putLF])⟩, IvC_f h8 (by intros; simp (disch := omega) only [up_na, up_ni, zrF_na, cpyF_na, toRowF, putLF]) (by intros; simp (disch := omega) only [up_na, up_ni, zrF_na, cpyF_na, toRowF, putLF]) (by intros; simp (disch := omega) only [up_na, up_ni, zrF_na, cpyF_na, toRowF, putLF]) (by intros; simp (disch := omega) only [up_na, up_ni, zrF_na, cpyF_na, toRowF, putLF])⟩
    intro t t0 t1
    rw [up_na (by omega)] at t1
    have g := h5 t t0 t1
    rw [up_at]
    by_cases e : t = s
    · rw [if_pos ⟨rfl, e⟩, ← e, ishl_1 (by omega) (by omega)]
      have hp := pow2_le (a := f.toNat) (b := 11) (by omega)
      have hp0 := pow2_pos f.toNat
      have h11 : (2 : Int) ^ 11 = 2048 := rfl
      have h12 : (2 : Int) ^ 12 = 4096 := rfl
      have := ior_in (x := μ 1055 t) (y := 2 ^ f.toNat) 12 (by omega) ⟨by omega, by omega⟩ ⟨by omega, by omega⟩
      omega
    · rw [if_neg (fun w => e w.2)]
      exact g
  generalize up μ 1055 s (ior (μ 1055 s) (ishl 1 f)) = ν at *
  have g := voidF_st (μ0 := ν) (s := s) (f := f) (μ 1000 6).toNat 0 0 ν
  refine IvB_st hk g.1 (fun r r0 r1 => ?_)
  have hu := hk.1.2.2.2.2.2.2.1 r r0 r1
  obtain ⟨u1, u2, u3, u4, u5, u6, u7, u8, u9, u10, u11, u12, u13, u14, u15, u16⟩ := hu
  have q1 := g.2 r
  refine ⟨by omega, fun z0 z1 => ?_⟩
  have q2 := g.2 (ν 1064 r)
  have q3 := u16 (by omega) z1
  omega
theorem undoF_st {μ0 : ST} {N : Int} : ∀ (m : Nat) (q n : Int) (b : Int → Bool) (μ : ST), q + m = N → (∀ a, a ≠ 1065 → μ a = μ0 a) → (∀ x, 0 ≤ x → x < N → μ0 1064 x < x) → (∀ x, q ≤ x → b x = false) → (∀ x, b x = true → μ 1065 x = 2) → (∀ x, b x = false → μ 1065 x = μ0 1065 x) → (∀ p, 0 ≤ p → p < q → μ 1065 p = 0 → 0 ≤ μ0 1064 p → b (μ0 1064 p) = false) →
    (∀ a, a ≠ 1065 → (undoF q m b (n, μ)).2 a = μ0 a) ∧ ∃ b' : Int → Bool, (∀ x, b' x = true → (undoF q m b (n, μ)).2 1065 x = 2) ∧ (∀ x, b' x = false → (undoF q m b (n, μ)).2 1065 x = μ0 1065 x) ∧ ∀ p, 0 ≤ p → p < N → (undoF q m b (n, μ)).2 1065 p = 0 → 0 ≤ μ0 1064 p → b' (μ0 1064 p) = false
  | 0, q, n, b, μ, hq, e0, hb, hA, hD, hB, hC => ⟨e0, b, hD, hB, fun p p0 p1 => hC p p0 (by omega)⟩
  | m + 1, q, n, b, μ, hq, e0, hb, hA, hD, hB, hC => by
    by_cases c : μ 1065 q ≠ 0 ∨ μ 1064 q = -1 ∨ b (μ 1064 q) = false
    · rw [undoF_0 c]
      refine undoF_st m (q + 1) n b μ (by omega) e0 hb (fun x hx => hA x (by omega)) hD hB (fun p p0 p1 p2 p3 => ?_)
      by_cases e : p = q
      · rw [e] at p2 p3 ⊢
        rw [e0 1064 (by omega)] at c
        rcases c with c | c | c
        · exact absurd p2 c
        · omega
        · exact c
      · exact hC p p0 (by omega) p2 p3
    · rw [undoF_1 c]
      refine undoF_st m (q + 1) (n + 1) (fun x => decide (x = q) || b x) (up μ 1065 q 2) (by omega) (fun a ha => by rw [up_na ha]; exact e0 a ha) hb (fun x hx => ?_) (fun x hx => ?_) (fun x hx => ?_) (fun p p0 p1 p2 p3 => ?_)
      · show (decide (x = q) || b x) = false
        rw [decide_eq_false (show ¬ x = q by omega), hA x (by omega)]; rfl
      · have hx' : (decide (x = q) || b x) = true := hx
        rw [up_at]
        by_cases e : x = q
        · rw [if_pos ⟨rfl, e⟩]
        · rw [if_neg (fun w => e w.2)]
          rw [decide_eq_false e, Bool.false_or] at hx'
          exact hD x hx'
      · have hx' : (decide (x = q) || b x) = false := hx
        by_cases e : x = q
        · rw [decide_eq_true e] at hx'; cases hx'
        · rw [decide_eq_false e, Bool.false_or] at hx'
          rw [up_ni e]
          exact hB x hx'
      · by_cases e : p = q
        · rw [e, up_s] at p2; omega
        · rw [up_ni e] at p2
          have := hb p p0 (by omega)
          show (decide (μ0 1064 p = q) || b (μ0 1064 p)) = false
          rw [decide_eq_false (show ¬ μ0 1064 p = q by omega), Bool.false_or]
          exact hC p p0 (by omega) p2 p3
theorem Iv_appeal {μ : ST} {R : RT} {r d : Int} (h : IvB μ R) : IvB (f_appeal μ r d).2 R := by
  unfold f_appeal
  split
  · exact IvB_rf h
  split
  · exact IvB_rf h
  rename_i c1 c2
  have hr : isRu μ r := Classical.byContradiction c1
  unfold isRu at hr
  have hk : IvB (up μ 1069 r 1) R := by
    obtain ⟨⟨h0, h1, h2, h3, h4, h5, h6, h7⟩, h8⟩ := h
    refine ⟨⟨Iv0_f h0 (by intros; simp (disch := omega) only [up_na, up_ni, zrF_na, cpyF_na, toRowF, putLF]), IvS_f h1 (by intros; simp (disch := omega) only [up_na, up_ni, zrF_na, cpyF_na, toRowF, putLF]), IvA_f h2 (by intros; simp (disch := omega) only [up_na, up_ni, zrF_na, cpyF_na, toRowF, putLF]) (by intros; simp (disch := omega) only [up_na, up_ni, zrF_na, cpyF_na, toRowF, putLF]), IvP_f h3 (by intros; simp (disch := omega) only [up_na, up_ni, zrF_na, cpyF_na, toRowF, putLF]) (by intros; simp (disch := omega) only [up_na, up_ni, zrF_na, cpyF_na, toRowF, putLF]), IvF_f h4 (by intros; simp (disch := omega) only [up_na, up_ni, zrF_na, cpyF_na, toRowF, putLF]) (by intros; simp (disch := omega) only [up_na, up_ni, zrF_na, cpyF_na, toRowF, putLF]), IvK_f h5 (by intros; simp (disch := omega) only [up_na, up_ni, zrF_na, cpyF_na, toRowF, putLF]) (by intros; simp (disch := omega) only [up_na, up_ni, zrF_na, cpyF_na, toRowF, putLF]), IvU_f h6 (by intros; simp (disch := omega) only [up_na, up_ni, zrF_na, cpyF_na, toRowF, putLF]) (by intros; simp (disch := omega) only [up_na, up_ni, zrF_na, cpyF_na, toRowF, putLF]), IvR_f h7 (by intros; simp (disch := omega) only [up_na, up_ni, zrF_na, cpyF_na, toRowF, putLF]) (by intros; simp (disch := omega) only [up_na, up_ni, zrF_na, cpyF_na, toRowF, putLF])⟩, ⟨?_, ?_, fun q q0 q1 => ?_⟩⟩
    · have g := h8.1
      simp (disch := omega) only [up_na]
      exact g
    · have g := h8.2.1
      simp (disch := omega) only [up_na]
      exact g
    · rw [up_na (by omega)] at q0
      rw [up_ni (by omega)]
      exact h8.2.2 q q0 q1
  have e0 : up μ 1069 r 1 1000 = μ 1000 := up_na (by omega)
  split
  · exact hk
  rw [← e0]
  rw [← e0] at hr
  generalize up μ 1069 r 1 = ν at *
  have hU := hk.1.2.2.2.2.2.2.1
  have g := undoF_st (μ0 := ν) (N := ν 1000 6) (ν 1000 6 - (r + 1)).toNat (r + 1) 1 (fun x => decide (x = r)) (up ν 1065 r 2) (by omega) (fun a ha => up_na ha) (fun x x0 x1 => (hU x x0 x1).2.2.2.2.2.2.2.2.2.2.1) (fun x hx => decide_eq_false (by omega)) (fun x hx => by rw [of_decide_eq_true hx, up_s]) (fun x hx => up_ni (of_decide_eq_false hx)) (fun p p0 p1 p2 p3 => ?_)
  · obtain ⟨g1, b', g2, g3, g4⟩ := g
    refine IvB_st hk g1 (fun q q0 q1 => ?_)
    obtain ⟨u1, u2, u3, u4, u5, u6, u7, u8, u9, u10, u11, u12, u13, u14, u15, u16⟩ := hU q q0 q1
    refine ⟨?_, fun z0 z1 => ?_⟩
    · cases hb : b' q
      · rw [g3 q hb]; exact ⟨u14, u15⟩
      · rw [g2 q hb]; omega
    · have hbb := g4 q q0 q1 z0 z1
      rw [g3 _ hbb]
      refine u16 ?_ z1
      cases hb : b' q
      · rw [g3 q hb] at z0; exact z0
      · rw [g2 q hb] at z0; omega
  · have hu := hU p p0 (by omega)
    by_cases e : p = r
    · rw [e, up_s] at p2; omega
    · exact decide_eq_false (by have := hu.2.2.2.2.2.2.2.2.2.2.1; omega)
