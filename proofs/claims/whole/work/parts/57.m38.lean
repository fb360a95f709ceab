/-! INVARIANTS: all of them, and a refusal -/
def IvAll (μ : ST) (R : RT) : Prop := Iv0 μ ∧ IvS μ ∧ IvA μ ∧ IvP μ ∧ IvF μ ∧ IvK μ ∧ IvU μ ∧ IvR μ R
theorem EncM_rows {μ μ' : ST} {r : Int} (h : ∀ a, 1049 ≤ a → a ≤ 1054 → μ' a = μ a) (ts : List Tok) (j t : Int) (he : EncM μ r ts j t) : EncM μ' r ts j t := EncM_same ts j t (fun x _ _ => by rw [h 1049 (by omega) (by omega)]) (fun b x b1 b2 _ _ => by rw [h b (by omega) (by omega)]) he
theorem IvAll_rf {μ : ST} {R : RT} {k : Int} (h : IvAll μ R) : IvAll (rf μ k) R := by
  have e : ∀ a, a ≠ 1070 → rf μ k a = μ a := fun a ha => by unfold rf; rw [up_na ha]
  obtain ⟨h0, h1, h2, h3, h4, h5, h6, h7⟩ := h
  refine ⟨?_, ?_, ?_, ?_, ?_, ?_, ?_, fun r a b => ?_⟩
  · unfold Iv0 at h0 ⊢; simp (disch := omega) only [e]; exact h0
  · unfold IvS at h1 ⊢; simp (disch := omega) only [e]; exact h1
  · unfold IvA at h2 ⊢; simp (disch := omega) only [e]; exact h2
  · unfold IvP at h3 ⊢; simp (disch := omega) only [e]; exact h3
  · unfold IvF at h4 ⊢; simp (disch := omega) only [e]; exact h4
  · unfold IvK at h5 ⊢; simp (disch := omega) only [e]; exact h5
  · unfold IvU at h6 ⊢; simp (disch := omega) only [e]; exact h6
  · rw [e 1000 (by omega)] at b
    have g := h7 r a b
    exact ⟨by rw [e 1048 (by omega)]; exact g.1, g.2.1, EncM_rows (fun a _ _ => e a (by omega)) _ _ _ g.2.2.1, g.2.2.2⟩
