/-! RULES: the run reads what the descent reads -/
theorem po_id {st : Bool} : ∀ l : List Int, l.headD 0 ≠ 38 → (st = true ∨ l.headD 0 ≠ 124) → poR st l = l ∧ poT st l = []
  | [], _, _ => ⟨rfl, rfl⟩
  | x :: xs, h, h2 => by
    have h : x ≠ 38 := h
    have hn : ¬ (x = 38 ∨ (x = 124 ∧ st = false)) := by
      rintro (z | ⟨z, y⟩)
      · exact h z
      · rcases h2 with w | w
        · rw [w] at y; exact absurd y (by decide)
        · exact w z
    rw [poR, poT, if_neg hn, if_neg hn]
    exact ⟨rfl, rfl⟩
theorem isC_t {t : Int → Int} {n i c : Int} (h : isC t n i c = true) : i < n ∧ t i = c := of_decide_eq_true h
theorem isC_f {t : Int → Int} {n i c : Int} (h : ¬ isC t n i c = true) : ¬ (i < n ∧ t i = c) := fun z => h (decide_eq_true z)
theorem tsF_no {t : Int → Int} {n i : Int} (hi : i ≤ n) (h : i = n ∨ t i = 33 ∨ t i = 40) : (tsF t n i).1 = false ∧ (tsF t n i).2.1 = i := by
  have h1 := sdF_in (t := t) (n := n) (i := i) hi
  have hs : (sdF t n i).1 = false := by
    unfold sdF
    have hf : isFd t n i = false := by
      unfold isFd
      refine decide_eq_false ?_
      rintro ⟨a, b⟩
      rcases h with z | z | z
      · omega
      · rw [z] at b; exact b (by decide)
      · rw [z] at b; exact b (by decide)
    rw [hf, if_neg (by decide)]
    have hd : dgG t n 4 i 0 0 = (i, 0, 0) := by
      show dgG t n (3 + 1) i 0 0 = _
      rw [dgG, if_neg (by omega)]
    rw [hd]
    rfl
  unfold tsF
  rw [if_pos hs]
  exact ⟨rfl, h1.2.2.2 hs⟩
theorem prs_part {t : Int → Int} {n : Int} {f : Nat} {i : Int} {ops : List Int} {acc : List Tok} (hf : 5 * (n - i) + 1 ≤ f + 1) (hi : i ≤ n) (hok : okO ops) (hd : nst ops ≤ 20)
    (h0 : ∀ i ops acc, 5 * (n - i) + 1 ≤ f → i ≤ n → okO ops → nst ops ≤ 20 → (prs t n f 0 (nst ops) i).2.1 ≤ n ∧ i ≤ (prs t n f 0 (nst ops) i).2.1 ∧ ((prs t n f 0 (nst ops) i).1 = false → (mcR t n true i ops acc).1 = (prs t n f 0 (nst ops) i).2.1) ∧ ((prs t n f 0 (nst ops) i).1 = true → i + 1 ≤ (prs t n f 0 (nst ops) i).2.1 ∧ mcR t n true i ops acc = mcR t n false (prs t n f 0 (nst ops) i).2.1 (clR ops) (acc ++ (prs t n f 0 (nst ops) i).2.2 ++ List.replicate (clK ops) tNo)))
    (h3 : ∀ i ops acc, 5 * (n - i) + 3 ≤ f → i ≤ n → okO ops → nst ops ≤ 20 → ops.headD 0 ≠ 33 → ops.headD 0 ≠ 38 → ops.headD 0 ≠ 124 → (prs t n f 3 (nst ops) i).2.1 ≤ n ∧ i ≤ (prs t n f 3 (nst ops) i).2.1 ∧ ((prs t n f 3 (nst ops) i).1 = false → (mcR t n true i ops acc).1 = (prs t n f 3 (nst ops) i).2.1) ∧ ((prs t n f 3 (nst ops) i).1 = true → i + 1 ≤ (prs t n f 3 (nst ops) i).2.1 ∧ ∃ X pre, poR false X = ops ∧ okO X ∧ X.headD 0 ≠ 33 ∧ mcR t n true i ops acc = mcR t n false (prs t n f 3 (nst ops) i).2.1 X (acc ++ pre) ∧ (prs t n f 3 (nst ops) i).2.2 = pre ++ poT false X ∧ isC t n (prs t n f 3 (nst ops) i).2.1 38 = false ∧ isC t n (prs t n f 3 (nst ops) i).2.1 124 = false)) :
    (prs t n (f + 1) 0 (nst ops) i).2.1 ≤ n ∧ i ≤ (prs t n (f + 1) 0 (nst ops) i).2.1 ∧ ((prs t n (f + 1) 0 (nst ops) i).1 = false → (mcR t n true i ops acc).1 = (prs t n (f + 1) 0 (nst ops) i).2.1) ∧ ((prs t n (f + 1) 0 (nst ops) i).1 = true → i + 1 ≤ (prs t n (f + 1) 0 (nst ops) i).2.1 ∧ mcR t n true i ops acc = mcR t n false (prs t n (f + 1) 0 (nst ops) i).2.1 (clR ops) (acc ++ (prs t n (f + 1) 0 (nst ops) i).2.2 ++ List.replicate (clK ops) tNo)) := by
  rw [prs]
  by_cases c1 : nst ops < 20 ∧ isC t n i 33 = true
  · rw [if_pos c1]
    obtain ⟨k1, k2⟩ := isC_t c1.2
    have hn : nst ((33 : Int) :: ops) = nst ops + 1 := by rw [nst, if_pos (Or.inl rfl)]; omega
    have g := h0 (i + 1) (33 :: ops) acc (by omega) (by omega) ⟨Or.inl rfl, hok⟩ (by omega)
    rw [hn] at g
    have hm := mcR_open (ops := ops) (acc := acc) k1 (Or.inl k2)
    rw [if_neg (by omega), k2] at hm
    by_cases c2 : (prs t n f 0 (nst ops + 1) (i + 1)).1 = true
    · rw [if_pos c2]
      have g2 := g.2.2.2 c2
      refine ⟨g.1, by show i ≤ (prs t n f 0 (nst ops + 1) (i + 1)).2.1; omega, fun z => by simp at z, fun _ => ⟨by show i + 1 ≤ (prs t n f 0 (nst ops + 1) (i + 1)).2.1; omega, ?_⟩⟩
      rw [hm, g2.2]
      simp only [clR, clK, if_true, List.replicate_succ, List.append_assoc, List.cons_append, List.nil_append]
    · rw [if_neg c2]
      refine ⟨g.1, by show i ≤ (prs t n f 0 (nst ops + 1) (i + 1)).2.1; omega, fun _ => ?_, fun z => by simp at z⟩
      rw [hm]
      exact g.2.2.1 (by simpa using c2)
  · rw [if_neg c1]
    by_cases c3 : nst ops < 20 ∧ isC t n i 40 = true
    · rw [if_pos c3]
      obtain ⟨k1, k2⟩ := isC_t c3.2
      have hn : nst ((40 : Int) :: ops) = nst ops + 1 := by rw [nst, if_pos (Or.inr rfl)]; omega
      have g := h3 (i + 1) (40 :: ops) acc (by omega) (by omega) ⟨Or.inr (Or.inl rfl), hok⟩ (by omega) (show (40 : Int) ≠ 33 by decide) (show (40 : Int) ≠ 38 by decide) (show (40 : Int) ≠ 124 by decide)
      rw [hn] at g
      have hm := mcR_open (ops := ops) (acc := acc) k1 (Or.inr k2)
      rw [if_neg (by omega), k2] at hm
      cases c2 : (prs t n f 3 (nst ops + 1) (i + 1)).1
      · rw [if_neg (fun z => by simp at z)]
        refine ⟨g.1, by show i ≤ (prs t n f 3 (nst ops + 1) (i + 1)).2.1; omega, fun _ => ?_, fun z => by simp at z⟩
        rw [hm]
        exact g.2.2.1 c2
      · obtain ⟨g1, X, pre, g2, g3, g4, g5, g6, g7, g8⟩ := g.2.2.2 c2
        have hopn : opn X = 1 + opn ops := by rw [← (po_nst (st := false) X).2, g2]; rfl
        have hon := (nst_in ops).1
        by_cases c4 : isC t n (prs t n f 3 (nst ops + 1) (i + 1)).2.1 41 = true
        · rw [if_pos ⟨rfl, c4⟩]
          obtain ⟨k3, k4⟩ := isC_t c4
          refine ⟨by show (prs t n f 3 (nst ops + 1) (i + 1)).2.1 + 1 ≤ n; omega, by show i ≤ (prs t n f 3 (nst ops + 1) (i + 1)).2.1 + 1; omega, fun z => by simp at z, fun _ => ⟨by show i + 1 ≤ (prs t n f 3 (nst ops + 1) (i + 1)).2.1 + 1; omega, ?_⟩⟩
          rw [hm, g5, mcR_close k3 (by omega), if_pos ⟨k4, by omega⟩, g2]
          simp only [List.tail_cons, g6, List.append_assoc]
        · rw [if_neg (fun z => c4 z.2)]
          refine ⟨g.1, by show i ≤ (prs t n f 3 (nst ops + 1) (i + 1)).2.1; omega, fun _ => ?_, fun z => by simp at z⟩
          rw [hm, g5]
          show _ = (prs t n f 3 (nst ops + 1) (i + 1)).2.1
          by_cases he : (prs t n f 3 (nst ops + 1) (i + 1)).2.1 = n
          · rw [he, mcR_end, if_pos (Or.inr (by omega))]
          · have hl : (prs t n f 3 (nst ops + 1) (i + 1)).2.1 < n := by omega
            have q1 := isC_f c4
            have q2 := of_decide_eq_false g7
            have q3 := of_decide_eq_false g8
            rw [mcR_close hl (by omega), if_neg (by omega)]
    · rw [if_neg c3]
      have hti := tsF_in (t := t) (n := n) (i := i) hi
      have q1 : ¬ (nst ops < 20 ∧ i < n ∧ t i = 33) := fun z => c1 ⟨z.1, decide_eq_true z.2⟩
      have q2 : ¬ (nst ops < 20 ∧ i < n ∧ t i = 40) := fun z => c3 ⟨z.1, decide_eq_true z.2⟩
      refine ⟨hti.2.1, hti.1, ?_, ?_⟩
      · intro z
        show _ = (tsF t n i).2.1
        by_cases hlt : i < n
        · by_cases hc : t i = 33 ∨ t i = 40
          · rw [mcR_open hlt hc, if_pos (by omega), (tsF_no hi (Or.inr hc)).2]
          · rw [mcR_test hlt hc, if_pos z]
        · have e : i = n := by omega
          subst e
          rw [mcR_end, if_pos (Or.inl rfl), (tsF_no hi (Or.inl rfl)).2]
      · intro z
        have hlt : i < n := by
          by_cases hlt : i < n
          · exact hlt
          · rw [(tsF_no hi (Or.inl (by omega))).1] at z; exact absurd z (by decide)
        have hc : ¬ (t i = 33 ∨ t i = 40) := fun hc => by rw [(tsF_no hi (Or.inr hc)).1] at z; exact absurd z (by decide)
        refine ⟨by have := hti.2.2 z; show i + 1 ≤ (tsF t n i).2.1; omega, ?_⟩
        rw [mcR_test hlt hc, if_neg (by rw [z]; decide)]
