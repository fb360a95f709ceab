/-! LISTS OF THE RELATION: one more -/
theorem m_lsAdd {d : Nat} {l rb n z : Int} {g : Int → Int} {K : KT} {S : ST} {Q : QF} (hk : K l = (1, 3)) (h7 : K 7 = (90, 0)) (hL : Ls K S l rb n g) (h0 : 0 ≤ n ∧ n ≤ 39) (hz : listed (K z).1) (hg : g n = z) (hgl : ∀ i, 0 ≤ i → i < n → listed (K (g i)).1) (hl : 7 < l ∧ l < 60 ∧ 600 ≤ rb)
    (hq : ∀ K' S', (∀ a, ¬ (rb < a ∧ a < rb + 60) → K' a = K a) → (∀ a, a ≠ l → ¬ (rb < a ∧ a < rb + 60) → S' a = S a) → Ls K' S' l rb (n + 1) g → Q [vI 1] K' S') : Mt (d + 7) 1 60 mJx4a65c_add_9ea2d [vR l, vR z] K S Q := by
  obtain ⟨l1, l2, l3, l4, l5, l6⟩ := hL
  have hcap : 0 ≤ (K (S l 1)).2 ∧ (K (S l 1)).2 < 60 ∧ ((K (S l 1)).2 = 0 ∨ 10 ≤ (K (S l 1)).2) ∧ (0 < (K (S l 1)).2 → S l 1 = rb + (K (S l 1)).2 ∧ (K (S l 1)).1 = 110) := by
    rcases l2 with ⟨a, b⟩ | ⟨a, b, c⟩
    · rw [a, b]; simp
    · refine ⟨by omega, c, Or.inr b, fun _ => ⟨?_, a⟩⟩
      rcases l4 with e | e
      · rw [e, h7] at b; simp at b
      · exact e
  have hlr : l ≠ S l 1 := by
    rcases l4 with e | e
    · omega
    · omega
  have hnx : n = (K (S l 1)).2 → (K (S l 1)).2 < nxt n ∧ n + 1 ≤ nxt n ∧ 10 ≤ nxt n ∧ nxt n < 60 := by
    intro e
    unfold nxt
    rw [← e] at hcap ⊢
    split <;> omega
  refine m_add (d := d) (x := rb + nxt n) hk h7 rfl l2 l1 h0 l3 hz (fun e j j0 j1 => Or.inr ?_) (fun e => ?_) ?_ hlr (fun e S' s1 s2 s3 s4 => ?_) (fun e S' s1 s2 s3 s4 s5 => ?_)
  · rw [l5 j j0 (by omega)]; exact hgl j j0 (by omega)
  · have := hnx e
    exact l6 _ this.1 this.2.2.2
  · unfold nxt; split <;> omega
  · obtain ⟨hr, hr1⟩ := hcap.2.2.2 (by omega)
    refine hq K S' (fun _ _ => rfl) (fun a a1 a2 => s1 a a1 (by omega)) ⟨s3, by rw [s2]; exact l2, by rw [s2]; omega, by rw [s2]; exact l4, fun i i0 i1 => ?_, fun c c0 c1 => ?_⟩
    · rw [s2, s4, up_at]
      by_cases ei : i = n
      · rw [if_pos ⟨rfl, ei⟩, ei, hg]
      · rw [if_neg (fun q => ei q.2)]; exact l5 i i0 (by omega)
    · rw [s2] at c0; exact l6 c c0 c1
  · have hn := hnx e
    have e2 : kup K (rb + nxt n) (110, nxt n) (rb + nxt n) = (110, nxt n) := kup_s _ _ _
    refine hq _ S' (fun a a1 => kup_n (by omega)) (fun a a1 a2 => s1 a a1 (by omega)) ⟨s3, ?_, ?_, ?_, fun i i0 i1 => ?_, fun c c0 c1 => ?_⟩
    · rw [s2]; exact Or.inr (by rw [e2]; exact ⟨rfl, hn.2.2.1, hn.2.2.2⟩)
    · rw [s2, e2]; exact hn.2.1
    · rw [s2, e2]; exact Or.inr rfl
    · rw [s2]
      by_cases ei : i = n
      · rw [ei, s5, hg]
      · rw [s4 i i0 (by omega)]; exact l5 i i0 (by omega)
    · rw [s2, e2] at c0
      rw [kup_n (by omega)]
      exact l6 c (by omega) c1
