/-! RULES: the run reads what the descent reads: expressions, and the whole -/
theorem po_tf : ∀ l : List Int, poR false l = poR false (poR true l) ∧ poT false l = poT true l ++ poT false (poR true l)
  | [] => ⟨rfl, rfl⟩
  | x :: xs => by
    have ih := po_tf xs
    by_cases h : x = 38
    · have h1 : x = 38 ∨ (x = 124 ∧ true = false) := Or.inl h
      have h2 : x = 38 ∨ (x = 124 ∧ false = false) := Or.inl h
      have e1 : poR true (x :: xs) = poR true xs := by rw [poR, if_pos h1]
      have e2 : poT true (x :: xs) = tAn :: poT true xs := by rw [poT, if_pos h1, if_pos h]
      have e3 : poR false (x :: xs) = poR false xs := by rw [poR, if_pos h2]
      have e4 : poT false (x :: xs) = tAn :: poT false xs := by rw [poT, if_pos h2, if_pos h]
      rw [e1, e2, e3, e4, ih.1, ih.2]
      exact ⟨by rw [← ih.1], rfl⟩
    · have h1 : ¬ (x = 38 ∨ (x = 124 ∧ true = false)) := by rintro (z | z); exact h z; exact absurd z.2 (by decide)
      have e1 : poR true (x :: xs) = x :: xs := by rw [poR, if_neg h1]
      have e2 : poT true (x :: xs) = [] := by rw [poT, if_neg h1]
      rw [e1, e2]
      exact ⟨rfl, rfl⟩
def P4 (t : Int → Int) (n : Int) (f : Nat) : Prop := ∀ i X ops acc, 5 * (n - i) + 2 ≤ f → i ≤ n → okO ops → nst ops ≤ 20 → ops.headD 0 ≠ 33 → ops.headD 0 ≠ 38 → ops.headD 0 ≠ 124 → poR false X = ops → okO X → X.headD 0 ≠ 33 → isC t n i 38 = false → (prs t n f 4 (nst ops) i).2.1 ≤ n ∧ i ≤ (prs t n f 4 (nst ops) i).2.1 ∧ ((prs t n f 4 (nst ops) i).1 = false → (mcR t n false i X acc).1 = (prs t n f 4 (nst ops) i).2.1) ∧ ((prs t n f 4 (nst ops) i).1 = true → ∃ X' pre, poR false X' = ops ∧ okO X' ∧ X'.headD 0 ≠ 33 ∧ mcR t n false i X acc = mcR t n false (prs t n f 4 (nst ops) i).2.1 X' (acc ++ pre) ∧ poT false X ++ (prs t n f 4 (nst ops) i).2.2 = pre ++ poT false X' ∧ isC t n (prs t n f 4 (nst ops) i).2.1 38 = false ∧ isC t n (prs t n f 4 (nst ops) i).2.1 124 = false)
theorem P4_step {t : Int → Int} {n : Int} {f : Nat} (h1 : P1 t n f) (h4 : P4 t n f) : P4 t n (f + 1) := by
  intro i X ops acc hf hi hok hd hh1 hh2 hh3 hX1 hX2 hX3 h38
  rw [prs]
  by_cases c1 : isC t n i 124 = true
  · rw [if_pos c1]
    obtain ⟨k1, k2⟩ := isC_t c1
    have hm := mcR_op (ops := X) (acc := acc) k1 (Or.inr k2)
    rw [show decide (t i = 38) = false from decide_eq_false (by omega), hX1, k2] at hm
    have hn : nst ((124 : Int) :: ops) = nst ops := by rw [nst, if_neg (by omega)]; omega
    have g := h1 (i + 1) (124 :: ops) (acc ++ poT false X) (by omega) (by omega) ⟨Or.inr (Or.inr ⟨Or.inr rfl, hh1⟩), hok⟩ (by omega) (show (124 : Int) ≠ 33 by decide) (show (124 : Int) ≠ 38 by decide)
    rw [hn] at g
    by_cases c2 : (prs t n f 1 (nst ops) (i + 1)).1 = true
    · rw [if_pos c2]
      obtain ⟨g1, X1, pre1, g2, g3, g4, g5, g6, g7⟩ := g.2.2.2 c2
      have hid := po_id (st := false) ops hh2 (Or.inr hh3)
      have h124 : poR false ((124 : Int) :: ops) = ops ∧ poT false ((124 : Int) :: ops) = [tOr] := by
        have z : (124 : Int) = 38 ∨ ((124 : Int) = 124 ∧ false = false) := Or.inr ⟨rfl, rfl⟩
        rw [poR, poT, if_pos z, if_pos z, if_neg (by omega), hid.1, hid.2]
        exact ⟨rfl, rfl⟩
      have htf := po_tf X1
      rw [g2, h124.1, h124.2] at htf
      have q := h4 (prs t n f 1 (nst ops) (i + 1)).2.1 X1 ops (acc ++ poT false X ++ pre1) (by omega) g.1 hok hd hh1 hh2 hh3 htf.1 g3 g4 g7
      have hm2 := hm.trans g5
      refine ⟨q.1, by have := q.2.1; show i ≤ (prs t n f 4 (nst ops) (prs t n f 1 (nst ops) (i + 1)).2.1).2.1; omega, fun z => ?_, fun z => ?_⟩
      · rw [hm2]; exact q.2.2.1 z
      · obtain ⟨X', pre, q1, q2, q3, q4, q5, q6⟩ := q.2.2.2 z
        refine ⟨X', poT false X ++ pre1 ++ pre, q1, q2, q3, ?_, ?_, q6⟩
        · rw [hm2, q4]
          simp only [List.append_assoc]
        · rw [htf.2] at q5
          show poT false X ++ ((prs t n f 1 (nst ops) (i + 1)).2.2 ++ [tOr] ++ (prs t n f 4 (nst ops) (prs t n f 1 (nst ops) (i + 1)).2.1).2.2) = _
          rw [g6, List.append_assoc pre1, List.append_assoc pre1, q5]
          simp only [List.append_assoc]
    · rw [if_neg c2]
      refine ⟨g.1, by show i ≤ (prs t n f 1 (nst ops) (i + 1)).2.1; omega, fun _ => ?_, fun z => by simp at z⟩
      rw [hm]
      exact g.2.2.1 (by simpa using c2)
  · rw [if_neg c1]
    refine ⟨hi, Int.le_refl i, fun z => by simp at z, fun _ => ⟨X, [], hX1, hX2, hX3, by rw [List.append_nil], by simp, h38, by simpa using c1⟩⟩
  all_goals (intro z; omega)
theorem P3_step {t : Int → Int} {n : Int} {f : Nat} (h1 : P1 t n f) (h4 : P4 t n f) : P3 t n (f + 1) := by
  intro i ops acc hf hi hok hd hh1 hh2 hh3
  rw [prs]
  have g := h1 i ops acc (by omega) hi hok hd hh1 hh2
  by_cases c2 : (prs t n f 1 (nst ops) i).1 = true
  · rw [if_pos c2]
    obtain ⟨g1, X1, pre1, g2, g3, g4, g5, g6, g7⟩ := g.2.2.2 c2
    have hid := po_id (st := false) ops hh2 (Or.inr hh3)
    have htf := po_tf X1
    rw [g2, hid.1, hid.2, List.append_nil] at htf
    have q := h4 (prs t n f 1 (nst ops) i).2.1 X1 ops (acc ++ pre1) (by omega) g.1 hok hd hh1 hh2 hh3 htf.1 g3 g4 g7
    refine ⟨q.1, by have := q.2.1; show i ≤ (prs t n f 4 (nst ops) (prs t n f 1 (nst ops) i).2.1).2.1; omega, fun z => ?_, fun z => ⟨by have := q.2.1; show i + 1 ≤ (prs t n f 4 (nst ops) (prs t n f 1 (nst ops) i).2.1).2.1; omega, ?_⟩⟩
    · rw [g5]; exact q.2.2.1 z
    · obtain ⟨X', pre, q1, q2, q3, q4, q5, q6⟩ := q.2.2.2 z
      refine ⟨X', pre1 ++ pre, q1, q2, q3, ?_, ?_, q6⟩
      · rw [g5, q4]
        simp only [List.append_assoc]
      · rw [htf.2] at q5
        show (prs t n f 1 (nst ops) i).2.2 ++ (prs t n f 4 (nst ops) (prs t n f 1 (nst ops) i).2.1).2.2 = _
        rw [g6, List.append_assoc, q5, List.append_assoc]
  · rw [if_neg c2]
    refine ⟨g.1, g.2.1, fun _ => g.2.2.1 (by simpa using c2), fun z => by simp at z⟩
theorem P_all {t : Int → Int} {n : Int} : ∀ f : Nat, P0 t n f ∧ P1 t n f ∧ P2 t n f ∧ P3 t n f ∧ P4 t n f
  | 0 => ⟨fun i _ _ h hi => by omega, fun i _ _ h hi => by omega, fun i _ _ _ h hi => by omega, fun i _ _ h hi => by omega, fun i _ _ _ h hi => by omega⟩
  | f + 1 => by
    obtain ⟨h0, h1, h2, h3, h4⟩ := P_all f
    exact ⟨fun i ops acc a b c d => prs_part a b c d h0 h3, P1_step h0 h2, P2_step h0 h2, P3_step h1 h4, P4_step h1 h4⟩
/-- the whole row behind b: -/
theorem prs_mc {t : Int → Int} {n : Int} {f : Nat} (hf : 5 * (n - 2) + 3 ≤ f) (hn : 2 ≤ n) : (mcR t n true 2 [] []).1 = (if (prs t n f 3 0 2).1 = true ∧ (prs t n f 3 0 2).2.1 = n then -1 else (prs t n f 3 0 2).2.1) ∧ ((prs t n f 3 0 2).1 = true → (prs t n f 3 0 2).2.1 = n → (mcR t n true 2 [] []).2 = (prs t n f 3 0 2).2.2) := by
  have g := (P_all (t := t) (n := n) f).2.2.2.1 2 [] [] hf hn trivial (by decide) (by decide) (by decide) (by decide)
  have hz : nst [] = 0 := rfl
  rw [hz] at g
  by_cases c : (prs t n f 3 0 2).1 = true
  · obtain ⟨g1, X, pre, g2, g3, g4, g5, g6, g7, g8⟩ := g.2.2.2 c
    have hopn : opn X = 0 := by rw [← (po_nst (st := false) X).2, g2]; rfl
    rw [List.nil_append] at g5
    by_cases e : (prs t n f 3 0 2).2.1 = n
    · have h1 : mcR t n true 2 [] [] = (-1, pre ++ poT false X) := by
        rw [g5, e, mcR_end, if_neg (by rintro (z | z); exact absurd z (by decide); omega)]
      rw [if_pos ⟨c, e⟩, h1]
      exact ⟨rfl, fun _ _ => g6.symm⟩
    · have q2 := of_decide_eq_false g7
      have q3 := of_decide_eq_false g8
      have hl : (prs t n f 3 0 2).2.1 < n := by have := g.1; omega
      rw [if_neg (fun z => e z.2), g5, mcR_close hl (by omega), if_neg (by omega)]
      exact ⟨rfl, fun _ z => absurd z e⟩
  · rw [if_neg (fun z => c z.1)]
    exact ⟨g.2.2.1 (by simpa using c), fun z => absurd z c⟩
