/-! INVARIANTS KEPT: least, judge -/
theorem Iv_least {μ : ST} {R : RT} {ad : Int} (h : IvB μ R) : IvB (f_least μ R ad).2 R := by
  unfold f_least
  split
  · exact IvB_rf h
  split
  · exact IvB_rf h
  exact IvB_f h (by intros; simp (disch := omega) only [up_na, up_ni, zrF_na, cpyF_na, toRowF, putLF]) (by intros; simp (disch := omega) only [up_na, up_ni, zrF_na, cpyF_na, toRowF, putLF])
theorem Iv_judge {μ : ST} {R : RT} {ad s : Int} (h : IvB μ R) : IvB (f_judge μ R ad s).2 R := by
  unfold f_judge
  split
  · exact IvB_rf h
  split
  · exact IvB_rf h
  split
  · exact IvB_rf h
  exact h
/-- the least of sets as the class looks for it: by size, then by number -/
theorem clrF_all {μ : ST} {R : RT} {ad set : Int} (h : ∀ i, 0 ≤ i → i < μ 1022 ad → bt set i = true) : clrF μ R ad set = true := by
  have e : ∀ (m : Nat) (i : Int), 0 ≤ i → i + m ≤ μ 1022 ad → wordsF (fun i => μ 1028 (20 * ad + i)) set i m = [] := by
    intro m
    induction m with
    | zero => intro i _ _; rfl
    | succ m ih =>
      intro i h0 h1
      unfold wordsF
      rw [if_pos (h i h0 (by omega))]
      exact ih (i + 1) (by omega) (by omega)
  have et : textOf μ ad set = [] := by
    unfold textOf
    by_cases c : 0 ≤ μ 1022 ad
    · exact e _ 0 (Int.le_refl 0) (by omega)
    · rw [show (μ 1022 ad).toNat = 0 by omega]; rfl
  unfold clrF
  rw [et]
  rfl
