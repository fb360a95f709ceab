/-! RULES: what is told is well formed -/
theorem prs_wf {t : Int → Int} {n : Int} : ∀ (f m : Nat) (dep i : Int), (prs t n f m dep i).1 = true → ∀ (rest : List Tok) (h : Int), 0 ≤ h → (if m = 0 ∨ m = 1 ∨ m = 3 then wfT rest (h + 1) → wfT ((prs t n f m dep i).2.2 ++ rest) h else wfT rest (h + 1) → wfT ((prs t n f m dep i).2.2 ++ rest) (h + 1))
  | 0, _, _, _, z => by simp [prs] at z
  | f + 1, 0, dep, i, z => by
    intro rest h hh
    rw [if_pos (Or.inl rfl)]
    intro hr
    rw [prs] at z ⊢
    by_cases c1 : dep < 20 ∧ isC t n i 33 = true
    · rw [if_pos c1] at z ⊢
      by_cases c2 : (prs t n f 0 (dep + 1) (i + 1)).1 = true
      · rw [if_pos c2]
        have g := prs_wf f 0 (dep + 1) (i + 1) c2 (tNo :: rest) h hh
        rw [if_pos (Or.inl rfl)] at g
        simp only [List.append_assoc, List.cons_append, List.nil_append]
        exact g ⟨by omega, hr⟩
      · rw [if_neg c2] at z; simp at z
    · rw [if_neg c1] at z ⊢
      by_cases c3 : dep < 20 ∧ isC t n i 40 = true
      · rw [if_pos c3] at z ⊢
        by_cases c4 : (prs t n f 3 (dep + 1) (i + 1)).1 = true ∧ isC t n (prs t n f 3 (dep + 1) (i + 1)).2.1 41 = true
        · rw [if_pos c4]
          have g := prs_wf f 3 (dep + 1) (i + 1) c4.1 rest h hh
          rw [if_pos (Or.inr (Or.inr rfl))] at g
          exact g hr
        · rw [if_neg c4] at z; simp at z
      · rw [if_neg c3]
        exact hr
  | f + 1, 1, dep, i, z => by
    intro rest h hh
    rw [if_pos (Or.inr (Or.inl rfl))]
    intro hr
    rw [prs] at z ⊢
    by_cases c2 : (prs t n f 0 dep i).1 = true
    · rw [if_pos c2] at z ⊢
      have g2 := prs_wf f 2 dep (prs t n f 0 dep i).2.1 z rest h hh
      rw [if_neg (by omega)] at g2
      have g := prs_wf f 0 dep i c2 ((prs t n f 2 dep (prs t n f 0 dep i).2.1).2.2 ++ rest) h hh
      rw [if_pos (Or.inl rfl)] at g
      simp only [List.append_assoc]
      exact g (g2 hr)
    · rw [if_neg c2] at z; simp at z
  | f + 1, 2, dep, i, z => by
    intro rest h hh
    rw [if_neg (by omega)]
    intro hr
    rw [prs] at z ⊢
    by_cases c1 : isC t n i 38 = true
    · rw [if_pos c1] at z ⊢
      by_cases c2 : (prs t n f 0 dep (i + 1)).1 = true
      · rw [if_pos c2] at z ⊢
        have g2 := prs_wf f 2 dep (prs t n f 0 dep (i + 1)).2.1 z rest h hh
        rw [if_neg (by omega)] at g2
        have g := prs_wf f 0 dep (i + 1) c2 (tAn :: ((prs t n f 2 dep (prs t n f 0 dep (i + 1)).2.1).2.2 ++ rest)) (h + 1) (by omega)
        rw [if_pos (Or.inl rfl)] at g
        simp only [List.append_assoc, List.cons_append, List.nil_append]
        exact g ⟨by omega, by rw [show h + 1 + 1 - 1 = h + 1 by omega]; exact g2 hr⟩
      · rw [if_neg c2] at z; simp at z
    · rw [if_neg c1]
      exact hr
  | f + 1, 3, dep, i, z => by
    intro rest h hh
    rw [if_pos (Or.inr (Or.inr rfl))]
    intro hr
    rw [prs] at z ⊢
    by_cases c2 : (prs t n f 1 dep i).1 = true
    · rw [if_pos c2] at z ⊢
      have g2 := prs_wf f 4 dep (prs t n f 1 dep i).2.1 z rest h hh
      rw [if_neg (by omega)] at g2
      have g := prs_wf f 1 dep i c2 ((prs t n f 4 dep (prs t n f 1 dep i).2.1).2.2 ++ rest) h hh
      rw [if_pos (Or.inr (Or.inl rfl))] at g
      simp only [List.append_assoc]
      exact g (g2 hr)
    · rw [if_neg c2] at z; simp at z
  | f + 1, m + 4, dep, i, z => by
    intro rest h hh
    rw [if_neg (by omega)]
    intro hr
    rw [prs] at z ⊢
    · by_cases c1 : isC t n i 124 = true
      · rw [if_pos c1] at z ⊢
        by_cases c2 : (prs t n f 1 dep (i + 1)).1 = true
        · rw [if_pos c2] at z ⊢
          have g2 := prs_wf f 4 dep (prs t n f 1 dep (i + 1)).2.1 z rest h hh
          rw [if_neg (by omega)] at g2
          have g := prs_wf f 1 dep (i + 1) c2 (tOr :: ((prs t n f 4 dep (prs t n f 1 dep (i + 1)).2.1).2.2 ++ rest)) (h + 1) (by omega)
          rw [if_pos (Or.inr (Or.inl rfl))] at g
          simp only [List.append_assoc, List.cons_append, List.nil_append]
          exact g ⟨by omega, by rw [show h + 1 + 1 - 1 = h + 1 by omega]; exact g2 hr⟩
        · rw [if_neg c2] at z; simp at z
      · rw [if_neg c1]
        exact hr
    all_goals (intro z; omega)
