/-! RULES: the run reads what the descent reads, all of it -/
def P0 (t : Int → Int) (n : Int) (f : Nat) : Prop := ∀ i ops acc, 5 * (n - i) + 1 ≤ f → i ≤ n → okO ops → nst ops ≤ 20 → (prs t n f 0 (nst ops) i).2.1 ≤ n ∧ i ≤ (prs t n f 0 (nst ops) i).2.1 ∧ ((prs t n f 0 (nst ops) i).1 = false → (mcR t n true i ops acc).1 = (prs t n f 0 (nst ops) i).2.1) ∧ ((prs t n f 0 (nst ops) i).1 = true → i + 1 ≤ (prs t n f 0 (nst ops) i).2.1 ∧ mcR t n true i ops acc = mcR t n false (prs t n f 0 (nst ops) i).2.1 (clR ops) (acc ++ (prs t n f 0 (nst ops) i).2.2 ++ List.replicate (clK ops) tNo))
def P1 (t : Int → Int) (n : Int) (f : Nat) : Prop := ∀ i ops acc, 5 * (n - i) + 2 ≤ f → i ≤ n → okO ops → nst ops ≤ 20 → ops.headD 0 ≠ 33 → ops.headD 0 ≠ 38 → (prs t n f 1 (nst ops) i).2.1 ≤ n ∧ i ≤ (prs t n f 1 (nst ops) i).2.1 ∧ ((prs t n f 1 (nst ops) i).1 = false → (mcR t n true i ops acc).1 = (prs t n f 1 (nst ops) i).2.1) ∧ ((prs t n f 1 (nst ops) i).1 = true → i + 1 ≤ (prs t n f 1 (nst ops) i).2.1 ∧ ∃ X pre, poR true X = ops ∧ okO X ∧ X.headD 0 ≠ 33 ∧ mcR t n true i ops acc = mcR t n false (prs t n f 1 (nst ops) i).2.1 X (acc ++ pre) ∧ (prs t n f 1 (nst ops) i).2.2 = pre ++ poT true X ∧ isC t n (prs t n f 1 (nst ops) i).2.1 38 = false)
def P2 (t : Int → Int) (n : Int) (f : Nat) : Prop := ∀ i X ops acc, 5 * (n - i) + 2 ≤ f → i ≤ n → okO ops → nst ops ≤ 20 → ops.headD 0 ≠ 33 → ops.headD 0 ≠ 38 → poR true X = ops → okO X → X.headD 0 ≠ 33 → (prs t n f 2 (nst ops) i).2.1 ≤ n ∧ i ≤ (prs t n f 2 (nst ops) i).2.1 ∧ ((prs t n f 2 (nst ops) i).1 = false → (mcR t n false i X acc).1 = (prs t n f 2 (nst ops) i).2.1) ∧ ((prs t n f 2 (nst ops) i).1 = true → ∃ X' pre, poR true X' = ops ∧ okO X' ∧ X'.headD 0 ≠ 33 ∧ mcR t n false i X acc = mcR t n false (prs t n f 2 (nst ops) i).2.1 X' (acc ++ pre) ∧ poT true X ++ (prs t n f 2 (nst ops) i).2.2 = pre ++ poT true X' ∧ isC t n (prs t n f 2 (nst ops) i).2.1 38 = false)
def P3 (t : Int → Int) (n : Int) (f : Nat) : Prop := ∀ i ops acc, 5 * (n - i) + 3 ≤ f → i ≤ n → okO ops → nst ops ≤ 20 → ops.headD 0 ≠ 33 → ops.headD 0 ≠ 38 → ops.headD 0 ≠ 124 → (prs t n f 3 (nst ops) i).2.1 ≤ n ∧ i ≤ (prs t n f 3 (nst ops) i).2.1 ∧ ((prs t n f 3 (nst ops) i).1 = false → (mcR t n true i ops acc).1 = (prs t n f 3 (nst ops) i).2.1) ∧ ((prs t n f 3 (nst ops) i).1 = true → i + 1 ≤ (prs t n f 3 (nst ops) i).2.1 ∧ ∃ X pre, poR false X = ops ∧ okO X ∧ X.headD 0 ≠ 33 ∧ mcR t n true i ops acc = mcR t n false (prs t n f 3 (nst ops) i).2.1 X (acc ++ pre) ∧ (prs t n f 3 (nst ops) i).2.2 = pre ++ poT false X ∧ isC t n (prs t n f 3 (nst ops) i).2.1 38 = false ∧ isC t n (prs t n f 3 (nst ops) i).2.1 124 = false)
theorem P2_step {t : Int → Int} {n : Int} {f : Nat} (h0 : P0 t n f) (h2 : P2 t n f) : P2 t n (f + 1) := by
  intro i X ops acc hf hi hok hd hh1 hh2 hX1 hX2 hX3
  rw [prs]
  by_cases c1 : isC t n i 38 = true
  · rw [if_pos c1]
    obtain ⟨k1, k2⟩ := isC_t c1
    have hm := mcR_op (ops := X) (acc := acc) k1 (Or.inl k2)
    rw [show decide (t i = 38) = true from decide_eq_true k2, hX1, k2] at hm
    have hn : nst ((38 : Int) :: ops) = nst ops := by rw [nst, if_neg (by omega)]; omega
    have g := h0 (i + 1) (38 :: ops) (acc ++ poT true X) (by omega) (by omega) ⟨Or.inr (Or.inr ⟨Or.inl rfl, hh1⟩), hok⟩ (by omega)
    rw [hn] at g
    by_cases c2 : (prs t n f 0 (nst ops) (i + 1)).1 = true
    · rw [if_pos c2]
      have g2 := g.2.2.2 c2
      have hcl : clR ((38 : Int) :: ops) = 38 :: ops ∧ clK ((38 : Int) :: ops) = 0 := ⟨by rw [clR, if_neg (by omega)], by rw [clK, if_neg (by omega)]⟩
      rw [hcl.1, hcl.2] at g2
      have hp38 : poR true ((38 : Int) :: ops) = ops ∧ poT true ((38 : Int) :: ops) = [tAn] := by
        have := po_id (st := true) ops hh2 (Or.inl rfl)
        rw [poR, poT, if_pos (Or.inl rfl), if_pos (Or.inl rfl), this.1, this.2]
        exact ⟨rfl, rfl⟩
      have q := h2 (prs t n f 0 (nst ops) (i + 1)).2.1 (38 :: ops) ops (acc ++ poT true X ++ (prs t n f 0 (nst ops) (i + 1)).2.2) (by omega) g.1 hok hd hh1 hh2 hp38.1 ⟨Or.inr (Or.inr ⟨Or.inl rfl, hh1⟩), hok⟩ (show (38 : Int) ≠ 33 by decide)
      have hm2 : mcR t n false i X acc = mcR t n false (prs t n f 0 (nst ops) (i + 1)).2.1 (38 :: ops) (acc ++ poT true X ++ (prs t n f 0 (nst ops) (i + 1)).2.2) := by
        rw [hm, g2.2]
        simp only [List.replicate_zero, List.append_nil]
      refine ⟨q.1, by have := q.2.1; show i ≤ (prs t n f 2 (nst ops) (prs t n f 0 (nst ops) (i + 1)).2.1).2.1; omega, fun z => ?_, fun z => ?_⟩
      · rw [hm2]; exact q.2.2.1 z
      · obtain ⟨X', pre, q1, q2, q3, q4, q5, q6⟩ := q.2.2.2 z
        refine ⟨X', poT true X ++ (prs t n f 0 (nst ops) (i + 1)).2.2 ++ pre, q1, q2, q3, ?_, ?_, q6⟩
        · rw [hm2, q4]
          simp only [List.append_assoc]
        · rw [hp38.2] at q5
          show poT true X ++ ((prs t n f 0 (nst ops) (i + 1)).2.2 ++ [tAn] ++ (prs t n f 2 (nst ops) (prs t n f 0 (nst ops) (i + 1)).2.1).2.2) = _
          rw [List.append_assoc (prs t n f 0 (nst ops) (i + 1)).2.2, q5]
          simp only [List.append_assoc]
    · rw [if_neg c2]
      refine ⟨g.1, by show i ≤ (prs t n f 0 (nst ops) (i + 1)).2.1; omega, fun _ => ?_, fun z => by simp at z⟩
      rw [hm]
      exact g.2.2.1 (by simpa using c2)
  · rw [if_neg c1]
    refine ⟨hi, Int.le_refl i, fun z => by simp at z, fun _ => ⟨X, [], hX1, hX2, hX3, by rw [List.append_nil], by simp, by simpa using c1⟩⟩
theorem P1_step {t : Int → Int} {n : Int} {f : Nat} (h0 : P0 t n f) (h2 : P2 t n f) : P1 t n (f + 1) := by
  intro i ops acc hf hi hok hd hh1 hh2
  rw [prs]
  have g := h0 i ops acc (by omega) hi hok hd
  by_cases c2 : (prs t n f 0 (nst ops) i).1 = true
  · rw [if_pos c2]
    have g2 := g.2.2.2 c2
    have hcl : clR ops = ops ∧ clK ops = 0 := by
      cases ops with
      | nil => exact ⟨rfl, rfl⟩
      | cons x xs =>
        have hx : x ≠ 33 := hh1
        exact ⟨by rw [clR, if_neg hx], by rw [clK, if_neg hx]⟩
    rw [hcl.1, hcl.2] at g2
    have hid := po_id (st := true) ops hh2 (Or.inl rfl)
    have q := h2 (prs t n f 0 (nst ops) i).2.1 ops ops (acc ++ (prs t n f 0 (nst ops) i).2.2) (by omega) g.1 hok hd hh1 hh2 hid.1 hok hh1
    have hm2 : mcR t n true i ops acc = mcR t n false (prs t n f 0 (nst ops) i).2.1 ops (acc ++ (prs t n f 0 (nst ops) i).2.2) := by
      rw [g2.2]
      simp only [List.replicate_zero, List.append_nil]
    refine ⟨q.1, by have := q.2.1; show i ≤ (prs t n f 2 (nst ops) (prs t n f 0 (nst ops) i).2.1).2.1; omega, fun z => ?_, fun z => ⟨by have := q.2.1; show i + 1 ≤ (prs t n f 2 (nst ops) (prs t n f 0 (nst ops) i).2.1).2.1; omega, ?_⟩⟩
    · rw [hm2]; exact q.2.2.1 z
    · obtain ⟨X', pre, q1, q2, q3, q4, q5, q6⟩ := q.2.2.2 z
      refine ⟨X', (prs t n f 0 (nst ops) i).2.2 ++ pre, q1, q2, q3, ?_, ?_, q6⟩
      · rw [hm2, q4]
        simp only [List.append_assoc]
      · rw [hid.2, List.nil_append] at q5
        show (prs t n f 0 (nst ops) i).2.2 ++ (prs t n f 2 (nst ops) (prs t n f 0 (nst ops) i).2.1).2.2 = _
        rw [q5, List.append_assoc]
  · rw [if_neg c2]
    refine ⟨g.1, g.2.1, fun _ => g.2.2.1 (by simpa using c2), fun z => by simp at z⟩
