/-! RULES: a rule told is a rule that can be read -/
theorem ruP_wf {μ : ST} {s : Int} (hn : μ 1013 s ≤ 60) (h : (ruP μ s).1 = -1) : wfT (ruP μ s).2 0 ∧ isC (intF μ s) (μ 1013 s) 0 98 = true ∧ isC (intF μ s) (μ 1013 s) 1 58 = true ∧ (prs (intF μ s) (μ 1013 s) 300 3 0 2).1 = true ∧ (prs (intF μ s) (μ 1013 s) 300 3 0 2).2.1 = μ 1013 s ∧ (ruP μ s).2 = (prs (intF μ s) (μ 1013 s) 300 3 0 2).2.2 := by
  unfold ruP at h ⊢
  by_cases a : isC (intF μ s) (μ 1013 s) 0 98 = false
  · rw [if_pos a] at h; simp at h
  · rw [if_neg a] at h ⊢
    by_cases b : isC (intF μ s) (μ 1013 s) 1 58 = false
    · rw [if_pos b] at h; simp at h
    · rw [if_neg b] at h ⊢
      have b' : isC (intF μ s) (μ 1013 s) 1 58 = true := by simpa using b
      obtain ⟨k1, _⟩ := isC_t b'
      rw [mcR_mc (by omega) (by omega)] at h ⊢
      have g := prs_mc (t := intF μ s) (n := μ 1013 s) (f := 300) (by omega) (by omega)
      have hp : (prs (intF μ s) (μ 1013 s) 300 3 0 2).1 = true ∧ (prs (intF μ s) (μ 1013 s) 300 3 0 2).2.1 = μ 1013 s := by
        have g3 := ((P_all (t := intF μ s) (n := μ 1013 s) 300).2.2.2.1 2 [] [] (by omega) (by omega) trivial (by decide) (by decide) (by decide) (by decide)).2.1
        have hz : nst [] = 0 := rfl
        rw [hz] at g3
        by_cases c : (prs (intF μ s) (μ 1013 s) 300 3 0 2).1 = true ∧ (prs (intF μ s) (μ 1013 s) 300 3 0 2).2.1 = μ 1013 s
        · exact c
        · have g1 := g.1
          rw [if_neg c] at g1
          omega
      have e := g.2 hp.1 hp.2
      have w := prs_wf 300 3 0 2 hp.1 [] 0 (Int.le_refl 0)
      rw [if_pos (Or.inr (Or.inr rfl)), List.append_nil] at w
      rw [e]
      exact ⟨w rfl, by simpa using a, b', hp.1, hp.2, rfl⟩
theorem RuE_M {μ μ1 : ST} {s r : Int} (hn : μ 1013 s ≤ 60) (h : (ruP μ s).1 = -1) (he : RuE μ1 r (ruP μ s).2) : RuM μ1 r (ruP μ s).2 := ⟨he.1, he.2.1, he.2.2, (ruP_wf hn h).1⟩
