/-! THE CLASS'S CALLS: least, the pure part -/
/-- r is the first of the fewest bits among the sets below lim that clear; -1: none -/
def LstB (clr : Int → Bool) (lim r : Int) : Prop := (r = -1 ∧ ∀ s, 0 ≤ s → s < lim → clr s = false) ∨ (0 ≤ r ∧ r < lim ∧ clr r = true ∧ (∀ s, 0 ≤ s → s < lim → clr s = true → bitsN r ≤ bitsN s) ∧ ∀ s, 0 ≤ s → s < r → clr s = true → bitsN r < bitsN s)
theorem leG_is {clr : Int → Bool} : ∀ (m : Nat) (s b : Int), 0 ≤ s → LstB clr s b → LstB clr (s + m) (leG clr s m b)
  | 0, s, b, _, h => by
    have e : s + ((0 : Nat) : Int) = s := by omega
    rw [e]; exact h
  | m + 1, s, b, h0, h => by
    have e : s + ((m + 1 : Nat) : Int) = (s + 1) + m := by omega
    rw [e]
    by_cases c : (b = -1 ∨ bitsN s < bitsN b) ∧ clr s = true
    · have e2 : leG clr s (m + 1) b = leG clr (s + 1) m s := if_pos c
      rw [e2]
      refine leG_is m (s + 1) s (by omega) (Or.inr ⟨h0, by omega, c.2, fun t t0 t1 t2 => ?_, fun t t0 t1 t2 => ?_⟩)
      · by_cases et : t = s
        · rw [et]; exact Int.le_refl _
        · rcases h with ⟨h1, h2⟩ | ⟨h1, h2, h3, h4, h5⟩
          · rw [h2 t t0 (by omega)] at t2; cases t2
          · have := h4 t t0 (by omega) t2
            rcases c.1 with q | q
            · omega
            · omega
      · rcases h with ⟨h1, h2⟩ | ⟨h1, h2, h3, h4, h5⟩
        · rw [h2 t t0 (by omega)] at t2; cases t2
        · have := h4 t t0 (by omega) t2
          rcases c.1 with q | q
          · omega
          · omega
    · have e2 : leG clr s (m + 1) b = leG clr (s + 1) m b := if_neg c
      rw [e2]
      refine leG_is m (s + 1) b (by omega) ?_
      rcases h with ⟨h1, h2⟩ | ⟨h1, h2, h3, h4, h5⟩
      · refine Or.inl ⟨h1, fun t t0 t1 => ?_⟩
        by_cases et : t = s
        · cases hc : clr t
          · rfl
          · exact absurd ⟨Or.inl h1, by rw [← et]; exact hc⟩ c
        · exact h2 t t0 (by omega)
      · refine Or.inr ⟨h1, by omega, h3, fun t t0 t1 t2 => ?_, h5⟩
        by_cases et : t = s
        · rw [et] at t2 ⊢
          have : ¬ bitsN s < bitsN b := fun q => c ⟨Or.inr q, t2⟩
          omega
        · exact h4 t t0 (by omega) t2
theorem LstB_u {clr : Int → Bool} {lim r r' : Int} (h : LstB clr lim r) (h' : LstB clr lim r') : r = r' := by
  rcases h with ⟨h1, h2⟩ | ⟨h1, h2, h3, h4, h5⟩ <;> rcases h' with ⟨g1, g2⟩ | ⟨g1, g2, g3, g4, g5⟩
  · omega
  · rw [h2 r' g1 g2] at g3; cases g3
  · rw [g2 r h1 h2] at h3; cases h3
  · have a := h4 r' g1 g2 g3
    have b := g4 r h1 h2 h3
    by_cases c : r < r'
    · have := g5 r h1 c h3; omega
    · by_cases c2 : r' < r
      · have := h5 r' g1 c2 g3; omega
      · omega
theorem leG_v {clr : Int → Bool} {n : Nat} {r : Int} (h : LstB clr n r) : leG clr 0 n (-1) = r := by
  refine LstB_u (lim := n) ?_ h
  have g := leG_is (clr := clr) n 0 (-1) (Int.le_refl 0) (Or.inl ⟨rfl, fun s s0 s1 => by omega⟩)
  rw [Int.zero_add] at g
  exact g
