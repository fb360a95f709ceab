/-! INVARIANTS KEPT: measure, seat, stop, keep, proof -/
theorem Iv_measure {μ : ST} {R : RT} {w n : Int} (h : IvB μ R) : IvB (f_measure μ w n).2 R := by
  unfold f_measure
  split
  · exact IvB_rf h
  rename_i c
  obtain ⟨⟨h0, h1, h2, h3, h4, h5, h6, h7⟩, h8⟩ := h
  split
  · refine ⟨⟨?_, IvS_f h1 (by intros; simp (disch := omega) only [up_na, up_ni, zrF_na, cpyF_na, toRowF, putLF]), IvA_f h2 (by intros; simp (disch := omega) only [up_na, up_ni, zrF_na, cpyF_na, toRowF, putLF]) (by intros; simp (disch := omega) only [up_na, up_ni, zrF_na, cpyF_na, toRowF, putLF]), IvP_f h3 (by intros; simp (disch := omega) only [up_na, up_ni, zrF_na, cpyF_na, toRowF, putLF]) (by intros; simp (disch := omega) only [up_na, up_ni, zrF_na, cpyF_na, toRowF, putLF]), IvF_f h4 (by intros; simp (disch := omega) only [up_na, up_ni, zrF_na, cpyF_na, toRowF, putLF]) (by intros; simp (disch := omega) only [up_na, up_ni, zrF_na, cpyF_na, toRowF, putLF]), IvK_f h5 (by intros; simp (disch := omega) only [up_na, up_ni, zrF_na, cpyF_na, toRowF, putLF]) (by intros; simp (disch := omega) only [up_na, up_ni, zrF_na, cpyF_na, toRowF, putLF]), IvU_f h6 (by intros; simp (disch := omega) only [up_na, up_ni, zrF_na, cpyF_na, toRowF, putLF]) (by intros; simp (disch := omega) only [up_na, up_ni, zrF_na, cpyF_na, toRowF, putLF]), IvR_f h7 (by intros; simp (disch := omega) only [up_na, up_ni, zrF_na, cpyF_na, toRowF, putLF]) (by intros; simp (disch := omega) only [up_na, up_ni, zrF_na, cpyF_na, toRowF, putLF])⟩, IvC_f h8 (by intros; simp (disch := omega) only [up_na, up_ni, zrF_na, cpyF_na, toRowF, putLF]) (by intros; simp (disch := omega) only [up_na, up_ni, zrF_na, cpyF_na, toRowF, putLF]) (by intros; simp (disch := omega) only [up_na, up_ni, zrF_na, cpyF_na, toRowF, putLF]) (by intros; simp (disch := omega) only [up_na, up_ni, zrF_na, cpyF_na, toRowF, putLF])⟩
    unfold Iv0 at h0 ⊢
    simp (disch := omega) only [up_s, up_ni]
    omega
  · refine ⟨⟨?_, IvS_f h1 (by intros; simp (disch := omega) only [up_na, up_ni, zrF_na, cpyF_na, toRowF, putLF]), IvA_f h2 (by intros; simp (disch := omega) only [up_na, up_ni, zrF_na, cpyF_na, toRowF, putLF]) (by intros; simp (disch := omega) only [up_na, up_ni, zrF_na, cpyF_na, toRowF, putLF]), IvP_f h3 (by intros; simp (disch := omega) only [up_na, up_ni, zrF_na, cpyF_na, toRowF, putLF]) (by intros; simp (disch := omega) only [up_na, up_ni, zrF_na, cpyF_na, toRowF, putLF]), IvF_f h4 (by intros; simp (disch := omega) only [up_na, up_ni, zrF_na, cpyF_na, toRowF, putLF]) (by intros; simp (disch := omega) only [up_na, up_ni, zrF_na, cpyF_na, toRowF, putLF]), IvK_f h5 (by intros; simp (disch := omega) only [up_na, up_ni, zrF_na, cpyF_na, toRowF, putLF]) (by intros; simp (disch := omega) only [up_na, up_ni, zrF_na, cpyF_na, toRowF, putLF]), IvU_f h6 (by intros; simp (disch := omega) only [up_na, up_ni, zrF_na, cpyF_na, toRowF, putLF]) (by intros; simp (disch := omega) only [up_na, up_ni, zrF_na, cpyF_na, toRowF, putLF]), IvR_f h7 (by intros; simp (disch := omega) only [up_na, up_ni, zrF_na, cpyF_na, toRowF, putLF]) (by intros; simp (disch := omega) only [up_na, up_ni, zrF_na, cpyF_na, toRowF, putLF])⟩, IvC_f h8 (by intros; simp (disch := omega) only [up_na, up_ni, zrF_na, cpyF_na, toRowF, putLF]) (by intros; simp (disch := omega) only [up_na, up_ni, zrF_na, cpyF_na, toRowF, putLF]) (by intros; simp (disch := omega) only [up_na, up_ni, zrF_na, cpyF_na, toRowF, putLF]) (by intros; simp (disch := omega) only [up_na, up_ni, zrF_na, cpyF_na, toRowF, putLF])⟩
    unfold Iv0 at h0 ⊢
    simp (disch := omega) only [up_s, up_ni]
    omega
theorem Iv_seat {μ : ST} {R : RT} {b : Int} (h : IvB μ R) : IvB (f_seat μ b).2 R := by
  unfold f_seat
  split
  · exact IvB_rf h
  split
  · exact IvB_rf h
  rename_i c1 c2
  obtain ⟨⟨h0, h1, h2, h3, h4, h5, h6, h7⟩, h8⟩ := h
  have h0' := h0
  unfold Iv0 at h0'
  refine ⟨⟨?_, IvS_f h1 (by intros; simp (disch := omega) only [up_na, up_ni, zrF_na, cpyF_na, toRowF, putLF]), IvA_f h2 (by intros; simp (disch := omega) only [up_na, up_ni, zrF_na, cpyF_na, toRowF, putLF]) (by intros; simp (disch := omega) only [up_na, up_ni, zrF_na, cpyF_na, toRowF, putLF]), IvP_f h3 (by intros; simp (disch := omega) only [up_na, up_ni, zrF_na, cpyF_na, toRowF, putLF]) (by intros; simp (disch := omega) only [up_na, up_ni, zrF_na, cpyF_na, toRowF, putLF]), IvF_f h4 (by intros; simp (disch := omega) only [up_na, up_ni, zrF_na, cpyF_na, toRowF, putLF]) (by intros; simp (disch := omega) only [up_na, up_ni, zrF_na, cpyF_na, toRowF, putLF]), ?_, IvU_f h6 (by intros; simp (disch := omega) only [up_na, up_ni, zrF_na, cpyF_na, toRowF, putLF]) (by intros; simp (disch := omega) only [up_na, up_ni, zrF_na, cpyF_na, toRowF, putLF]), IvR_f h7 (by intros; simp (disch := omega) only [up_na, up_ni, zrF_na, cpyF_na, toRowF, putLF]) (by intros; simp (disch := omega) only [up_na, up_ni, zrF_na, cpyF_na, toRowF, putLF])⟩, IvC_f h8 (by intros; simp (disch := omega) only [up_na, up_ni, zrF_na, cpyF_na, toRowF, putLF]) (by intros; simp (disch := omega) only [up_na, up_ni, zrF_na, cpyF_na, toRowF, putLF]) (by intros; simp (disch := omega) only [up_na, up_ni, zrF_na, cpyF_na, toRowF, putLF]) (by intros; simp (disch := omega) only [up_na, up_ni, zrF_na, cpyF_na, toRowF, putLF])⟩
  · unfold Iv0 at h0 ⊢
    simp (disch := omega) only [up_s, up_ni, up_na]
    omega
  · intro s s0 s1
    simp (disch := omega) only [up_s, up_na] at s1 ⊢
    by_cases e : s = μ 1000 5
    · subst e
      simp only [up_s]
      omega
    · simp only [up_ni e]
      exact h5 s s0 (by omega)
theorem IvC_day {μ : ST} {a p v : Int} {id : Int} (hid : id = 1030 ∨ id = 1031) (ha : isAd μ a) (h0 : μ 1000 1 ≤ 24) (h : IvC μ) : IvC (up μ id (24 * p + a) v) := by
  have ha' := ha
  unfold isAd at ha'
  refine ⟨fun b b0 b1 => ?_, ?_, ?_⟩
  · rw [up_na (show (1000 : Int) ≠ id by omega)] at b0
    have g := h.1 b b0 b1
    rw [up_na (show (1023 : Int) ≠ id by omega), up_na (show (1024 : Int) ≠ id by omega), up_na (show (1025 : Int) ≠ id by omega), up_na (show (1026 : Int) ≠ id by omega)]
    refine ⟨g.1, g.2.1, g.2.2.1, g.2.2.2.1, fun q q0 q1 => ?_⟩
    rw [up_at, up_at, if_neg (by omega), if_neg (by omega)]
    exact g.2.2.2.2 q q0 q1
  · have g := h.2.1
    have e : ∀ x, x ≠ 1030 → x ≠ 1031 → up μ id (24 * p + a) v x = μ x := fun x q0 q1 => up_na (by omega)
    simp (disch := omega) only [e]
    exact g
  · have g := h.2.2
    have e : ∀ x, x ≠ 1030 → x ≠ 1031 → up μ id (24 * p + a) v x = μ x := fun x q0 q1 => up_na (by omega)
    simp (disch := omega) only [e]
    exact g
theorem Iv_stop {μ : ST} {R : RT} {p a d : Int} (h : IvB μ R) : IvB (f_stop μ p a d).2 R := by
  unfold f_stop
  split
  · exact IvB_rf h
  rename_i c
  have ha : isAd μ a := Classical.byContradiction fun q => c (Or.inr (Or.inr q))
  obtain ⟨⟨h0, h1, h2, h3, h4, h5, h6, h7⟩, h8⟩ := id h
  have h0' := h0
  unfold Iv0 at h0'
  split
  · split
    · exact IvB_rf h
    · exact ⟨⟨Iv0_f h0 (by intros; simp (disch := omega) only [up_na, up_ni, zrF_na, cpyF_na, toRowF, putLF]), IvS_f h1 (by intros; simp (disch := omega) only [up_na, up_ni, zrF_na, cpyF_na, toRowF, putLF]), IvA_f h2 (by intros; simp (disch := omega) only [up_na, up_ni, zrF_na, cpyF_na, toRowF, putLF]) (by intros; simp (disch := omega) only [up_na, up_ni, zrF_na, cpyF_na, toRowF, putLF]), IvP_f h3 (by intros; simp (disch := omega) only [up_na, up_ni, zrF_na, cpyF_na, toRowF, putLF]) (by intros; simp (disch := omega) only [up_na, up_ni, zrF_na, cpyF_na, toRowF, putLF]), IvF_f h4 (by intros; simp (disch := omega) only [up_na, up_ni, zrF_na, cpyF_na, toRowF, putLF]) (by intros; simp (disch := omega) only [up_na, up_ni, zrF_na, cpyF_na, toRowF, putLF]), IvK_f h5 (by intros; simp (disch := omega) only [up_na, up_ni, zrF_na, cpyF_na, toRowF, putLF]) (by intros; simp (disch := omega) only [up_na, up_ni, zrF_na, cpyF_na, toRowF, putLF]), IvU_f h6 (by intros; simp (disch := omega) only [up_na, up_ni, zrF_na, cpyF_na, toRowF, putLF]) (by intros; simp (disch := omega) only [up_na, up_ni, zrF_na, cpyF_na, toRowF, putLF]), IvR_f h7 (by intros; simp (disch := omega) only [up_na, up_ni, zrF_na, cpyF_na, toRowF, putLF]) (by intros; simp (disch := omega) only [up_na, up_ni, zrF_na, cpyF_na, toRowF, putLF])⟩, IvC_day (Or.inl rfl) ha (by omega) h8⟩
  · split
    · exact IvB_rf h
    · exact ⟨⟨Iv0_f h0 (by intros; simp (disch := omega) only [up_na, up_ni, zrF_na, cpyF_na, toRowF, putLF]), IvS_f h1 (by intros; simp (disch := omega) only [up_na, up_ni, zrF_na, cpyF_na, toRowF, putLF]), IvA_f h2 (by intros; simp (disch := omega) only [up_na, up_ni, zrF_na, cpyF_na, toRowF, putLF]) (by intros; simp (disch := omega) only [up_na, up_ni, zrF_na, cpyF_na, toRowF, putLF]), IvP_f h3 (by intros; simp (disch := omega) only [up_na, up_ni, zrF_na, cpyF_na, toRowF, putLF]) (by intros; simp (disch := omega) only [up_na, up_ni, zrF_na, cpyF_na, toRowF, putLF]), IvF_f h4 (by intros; simp (disch := omega) only [up_na, up_ni, zrF_na, cpyF_na, toRowF, putLF]) (by intros; simp (disch := omega) only [up_na, up_ni, zrF_na, cpyF_na, toRowF, putLF]), IvK_f h5 (by intros; simp (disch := omega) only [up_na, up_ni, zrF_na, cpyF_na, toRowF, putLF]) (by intros; simp (disch := omega) only [up_na, up_ni, zrF_na, cpyF_na, toRowF, putLF]), IvU_f h6 (by intros; simp (disch := omega) only [up_na, up_ni, zrF_na, cpyF_na, toRowF, putLF]) (by intros; simp (disch := omega) only [up_na, up_ni, zrF_na, cpyF_na, toRowF, putLF]), IvR_f h7 (by intros; simp (disch := omega) only [up_na, up_ni, zrF_na, cpyF_na, toRowF, putLF]) (by intros; simp (disch := omega) only [up_na, up_ni, zrF_na, cpyF_na, toRowF, putLF])⟩, IvC_day (Or.inr rfl) ha (by omega) h8⟩
theorem Iv_keep {μ : ST} {R : RT} {s ad i : Int} (h : IvB μ R) : IvB (f_keep μ s ad i).2 R := by
  unfold f_keep
  split
  · exact IvB_rf h
  rename_i c
  obtain ⟨⟨h0, h1, h2, h3, h4, h5, h6, h7⟩, h8⟩ := id h
  split
  · refine ⟨⟨Iv0_f h0 (by intros; simp (disch := omega) only [up_na, up_ni, zrF_na, cpyF_na, toRowF, putLF]), ?_, IvA_f h2 (by intros; simp (disch := omega) only [up_na, up_ni, zrF_na, cpyF_na, toRowF, putLF]) (by intros; simp (disch := omega) only [up_na, up_ni, zrF_na, cpyF_na, toRowF, putLF]), IvP_f h3 (by intros; simp (disch := omega) only [up_na, up_ni, zrF_na, cpyF_na, toRowF, putLF]) (by intros; simp (disch := omega) only [up_na, up_ni, zrF_na, cpyF_na, toRowF, putLF]), IvF_f h4 (by intros; simp (disch := omega) only [up_na, up_ni, zrF_na, cpyF_na, toRowF, putLF]) (by intros; simp (disch := omega) only [up_na, up_ni, zrF_na, cpyF_na, toRowF, putLF]), IvK_f h5 (by intros; simp (disch := omega) only [up_na, up_ni, zrF_na, cpyF_na, toRowF, putLF]) (by intros; simp (disch := omega) only [up_na, up_ni, zrF_na, cpyF_na, toRowF, putLF]), IvU_f h6 (by intros; simp (disch := omega) only [up_na, up_ni, zrF_na, cpyF_na, toRowF, putLF]) (by intros; simp (disch := omega) only [up_na, up_ni, zrF_na, cpyF_na, toRowF, putLF]), IvR_f h7 (by intros; simp (disch := omega) only [up_na, up_ni, zrF_na, cpyF_na, toRowF, putLF]) (by intros; simp (disch := omega) only [up_na, up_ni, zrF_na, cpyF_na, toRowF, putLF])⟩, ?_⟩
    · intro t t0 t1
      have g := h1 t t0 t1
      simp (disch := omega) only [up_na]
      by_cases e : t = s
      · subst e
        simp only [up_s]
        exact ⟨Or.inl trivial, g.2.1, g.2.2.1, g.2.2.2.1, g.2.2.2.2.1, fun q => absurd q (by decide)⟩
      · simp only [up_ni e]
        exact g
    · refine ⟨?_, fun t t0 t1 t2 => ?_, ?_⟩
      · have g := h8.1
        simp (disch := omega) only [up_na]
        exact g
      · simp (disch := omega) only [up_na] at t2 ⊢
        by_cases e : t = s
        · subst e
          rw [up_s] at t2
          omega
        · rw [up_ni e] at t2
          exact h8.2.1 t t0 t1 t2
      · have g := h8.2.2
        simp (disch := omega) only [up_na]
        exact g
  split
  · exact IvB_rf h
  rename_i c1 c2
  have g0 := claimP_in h0 c2
  generalize claimP μ ad i = p at *
  have hp := h3 p g0.1 g0.2.1
  have h0' := h0
  unfold Iv0 at h0'
  refine ⟨⟨Iv0_f h0 (by intros; simp (disch := omega) only [up_na, up_ni, zrF_na, cpyF_na, toRowF, putLF]), ?_, IvA_f h2 (by intros; simp (disch := omega) only [up_na, up_ni, zrF_na, cpyF_na, toRowF, putLF]) (by intros; simp (disch := omega) only [up_na, up_ni, zrF_na, cpyF_na, toRowF, putLF]), IvP_f h3 (by intros; simp (disch := omega) only [up_na, up_ni, zrF_na, cpyF_na, toRowF, putLF]) (by intros; simp (disch := omega) only [up_na, up_ni, zrF_na, cpyF_na, toRowF, putLF]), IvF_f h4 (by intros; simp (disch := omega) only [up_na, up_ni, zrF_na, cpyF_na, toRowF, putLF]) (by intros; simp (disch := omega) only [up_na, up_ni, zrF_na, cpyF_na, toRowF, putLF]), IvK_f h5 (by intros; simp (disch := omega) only [up_na, up_ni, zrF_na, cpyF_na, toRowF, putLF]) (by intros; simp (disch := omega) only [up_na, up_ni, zrF_na, cpyF_na, toRowF, putLF]), IvU_f h6 (by intros; simp (disch := omega) only [up_na, up_ni, zrF_na, cpyF_na, toRowF, putLF]) (by intros; simp (disch := omega) only [up_na, up_ni, zrF_na, cpyF_na, toRowF, putLF]), IvR_f h7 (by intros; simp (disch := omega) only [up_na, up_ni, zrF_na, cpyF_na, toRowF, putLF]) (by intros; simp (disch := omega) only [up_na, up_ni, zrF_na, cpyF_na, toRowF, putLF])⟩, ?_⟩
  · intro t t0 t1
    have g := h1 t t0 t1
    simp (disch := omega) only [up_na]
    by_cases e : t = s
    · subst e
      simp (disch := omega) only [up_s, up_na]
      exact ⟨Or.inr (Or.inr trivial), g.2.1, g.2.2.1, g.2.2.2.1, g.2.2.2.2.1, fun _ => by omega⟩
    · simp (disch := omega) only [up_ni e, up_na]
      exact g
  · refine ⟨?_, fun t t0 t1 t2 => ?_, ?_⟩
    · have g := h8.1
      simp (disch := omega) only [up_na]
      exact g
    · simp (disch := omega) only [up_na] at t2 ⊢
      by_cases e : t = s
      · subst e
        simp (disch := omega) only [up_s, up_na]
        exact ⟨g0.1, g0.2.1, trivial, trivial, trivial⟩
      · simp (disch := omega) only [up_ni e, up_na] at t2 ⊢
        exact h8.2.1 t t0 t1 t2
    · have g := h8.2.2
      simp (disch := omega) only [up_na]
      exact g
theorem givenF_in {μ : ST} {s : Int} : ∀ (m : Nat) (i : Int), (givenF μ s i m).length ≤ m ∧ ∀ x, x ∈ givenF μ s i m → in32 x
  | 0, _ => ⟨Nat.le_refl 0, fun x hx => by cases hx⟩
  | m + 1, i => by
    have g := givenF_in (μ := μ) (s := s) m (i + 1)
    unfold givenF
    split
    · exact ⟨Nat.le_succ_of_le g.1, g.2⟩
    · refine ⟨Nat.succ_le_succ g.1, fun x hx => ?_⟩
      rcases List.mem_cons.mp hx with e | e
      · rw [e]; exact w32_in _
      · exact g.2 x e
theorem Iv_proof {μ : ST} {R : RT} {f sj s : Int} (h : IvB μ R) : IvB (f_proof μ f sj s).2 R := by
  unfold f_proof
  split
  · exact IvB_rf h
  split
  · exact IvB_rf h
  split
  · exact IvB_rf h
  split
  · exact IvB_rf h
  rename_i c1 c2 c3 c4
  have c2 := want0 c2
  obtain ⟨⟨h0, h1, h2, h3, h4, h5, h6, h7⟩, h8⟩ := h
  have h0' := h0
  unfold Iv0 at h0'
  have hg := givenF_in (μ := μ) (s := s) (μ 1013 s).toNat 0
  have hsz := h1 s c2.1 c2.2
  generalize givenF μ s 0 (μ 1013 s).toNat = G at *
  obtain ⟨z, hz⟩ : ∃ z : Int, z = G.length := ⟨_, rfl⟩
  rw [← hz]
  have hz2 : 0 ≤ z ∧ z ≤ 60 := by omega
  have hall := putL_at μ z hz (μ 1000 3) f sj (μ 1000 0) _ rfl
  generalize up (putL (up (up (up (up μ 1040 (μ 1000 3) f) 1041 (μ 1000 3) sj) 1042 (μ 1000 3) (μ 1000 0)) 1043 (μ 1000 3) z) 1044 (60 * μ 1000 3) G) 1000 3 (μ 1000 3 + 1) = μ' at hall
  obtain ⟨m1, m2, m3, m4, m5⟩ := hall
  obtain ⟨i0, i1, i2, i4, i5, i6, i9, i10⟩ := m2
  obtain ⟨j3, j7, j8⟩ := m3
  show IvB μ' R
  refine ⟨⟨?_, IvS_f h1 (fun a _ _ => m1 a (by omega) (by omega)), IvA_f h2 i1 (fun a _ _ => m1 a (by omega) (by omega)), IvP_f h3 i2 (fun a _ => m1 a (by omega) (by omega)), ?_, IvK_f h5 i5 (m1 _ (by omega) (by omega)), IvU_f h6 i6 (fun a _ _ => m1 a (by omega) (by omega)), IvR_f h7 i4 (fun a _ _ => m1 a (by omega) (by omega))⟩, IvC_f h8 i1 i2 i6 (fun a _ => m1 a (by omega) (by omega))⟩
  · unfold Iv0 at h0 ⊢
    rw [i0, i1, i2, j3, i4, i5, i6, j7, j8]
    omega
  · intro i a0 a1
    rw [j3] at a1
    by_cases e : i = μ 1000 3
    · subst e
      rw [m4.2.2.2.1]
      refine ⟨hz2.1, hz2.2, fun j b0 b1 => ?_⟩
      rw [m4.2.2.2.2 j b0 b1]
      have hj : j.toNat < G.length := by omega
      have he : G.getD j.toNat 0 = G[j.toNat] := by simp [List.getD, hj]
      rw [he]
      exact hg.2 _ (List.getElem_mem hj)
    · obtain ⟨n1, n2, n3, n4, n5⟩ := m5 i e
      have g := h4 i a0 (by omega)
      rw [n4]
      exact ⟨g.1, g.2.1, fun j b0 b1 => by rw [n5 j b0 (by omega) (by omega) (by omega)]; exact g.2.2 j b0 b1⟩
