/-! THE CLASS'S READER OF RULES: what the descent tells -/
theorem encC_app : ∀ a b : List Tok, encC (a ++ b) = encC a ++ encC b
  | [], _ => rfl
  | .inl (sg, l, r) :: ts, b => by
    show sg :: l :: r :: encC (ts ++ b) = _
    rw [encC_app ts b]; rfl
  | .inr (.inl u) :: ts, b => by
    show 33 :: encC (ts ++ b) = _
    rw [encC_app ts b]; rfl
  | .inr (.inr true) :: ts, b => by
    show 38 :: encC (ts ++ b) = _
    rw [encC_app ts b]; rfl
  | .inr (.inr false) :: ts, b => by
    show 124 :: encC (ts ++ b) = _
    rw [encC_app ts b]; rfl
theorem OkT_app : ∀ a b : List Tok, OkT a → OkT b → OkT (a ++ b)
  | [], _, _, h => h
  | .inl (sg, l, r) :: ts, b, h, g => ⟨h.1, h.2.1, h.2.2.1, OkT_app ts b h.2.2.2 g⟩
  | .inr (.inl u) :: ts, b, h, g => OkT_app ts b h g
  | .inr (.inr true) :: ts, b, h, g => OkT_app ts b h g
  | .inr (.inr false) :: ts, b, h, g => OkT_app ts b h g
theorem sdF_rg {t : Int → Int} {n i : Int} : -10 ≤ (sdF t n i).2.2 ∧ (sdF t n i).2.2 ≤ 9999 := by
  unfold sdF
  cases e : isFd t n i
  · rw [if_neg (by decide)]
    have h1 := dgG_in (t := t) (n := n) 4 i 0 0 (by omega) (by omega)
    have h2 := dgG_hi (t := t) (n := n) 4 i 0 0 (by omega)
    have h3 : ((0 : Int) + 1) * 10 ^ 4 = 10000 := by decide
    rw [h3] at h2
    show -10 ≤ (dgG t n 4 i 0 0).2.2 ∧ (dgG t n 4 i 0 0).2.2 ≤ 9999
    omega
  · rw [if_pos rfl]
    have z := of_decide_eq_true e
    have g := fidx_in z.2
    show -10 ≤ -1 - fidx (t i) ∧ -1 - fidx (t i) ≤ 9999
    omega
theorem tsF_ok {t : Int → Int} {n i : Int} (h : (tsF t n i).1 = true) : OkT [tkT t n i] := by
  unfold tkT
  unfold tsF at h ⊢
  by_cases a : (sdF t n i).1 = false
  · rw [if_pos a] at h; cases h
  · rw [if_neg a] at h ⊢
    by_cases b : sgC t n (sdF t n i).2.1 = false
    · rw [if_pos b] at h; cases h
    · rw [if_neg b] at h ⊢
      by_cases c : (sdF t n ((sdF t n i).2.1 + 1)).1 = false
      · rw [if_pos c] at h; cases h
      · rw [if_neg c]
        refine ⟨?_, sdF_rg, sdF_rg, trivial⟩
        unfold sgC isC at b
        simp only [Bool.or_eq_false_iff, decide_eq_false_iff_not] at b
        show t (sdF t n i).2.1 = 60 ∨ t (sdF t n i).2.1 = 61 ∨ t (sdF t n i).2.1 = 62
        omega
/-- what a descent from i tells, and where it ends -/
def PI (n i : Int) (st : Int) (r : Bool × Int × List Tok) : Prop := i ≤ r.2.1 ∧ r.2.1 ≤ n ∧ (r.1 = true → i + st ≤ r.2.1 ∧ ((encC r.2.2).length : Int) ≤ r.2.1 - i ∧ OkT r.2.2)
theorem PI_0 {t : Int → Int} {n : Int} {f : Nat} (h0 : ∀ dep i, i ≤ n → PI n i 1 (prs t n f 0 dep i)) (h3 : ∀ dep i, i ≤ n → PI n i 1 (prs t n f 3 dep i)) : ∀ dep i, i ≤ n → PI n i 1 (prs t n (f + 1) 0 dep i) := by
  intro dep i hi
  rw [prs]
  by_cases c1 : dep < 20 ∧ isC t n i 33 = true
  · rw [if_pos c1]
    obtain ⟨k1, k2⟩ := isC_t c1.2
    obtain ⟨g1, g2, g3⟩ := h0 (dep + 1) (i + 1) (by omega)
    by_cases c2 : (prs t n f 0 (dep + 1) (i + 1)).1 = true
    · rw [if_pos c2]
      obtain ⟨g4, g5, g6⟩ := g3 c2
      refine ⟨by show i ≤ (prs t n f 0 (dep + 1) (i + 1)).2.1; omega, g2, fun _ => ⟨by show i + 1 ≤ (prs t n f 0 (dep + 1) (i + 1)).2.1; omega, ?_, OkT_app _ _ g6 trivial⟩⟩
      show ((encC ((prs t n f 0 (dep + 1) (i + 1)).2.2 ++ [tNo])).length : Int) ≤ (prs t n f 0 (dep + 1) (i + 1)).2.1 - i
      rw [encC_app, List.length_append]
      show (((encC (prs t n f 0 (dep + 1) (i + 1)).2.2).length + 1 : Nat) : Int) ≤ _
      omega
    · rw [if_neg c2]
      exact ⟨by show i ≤ (prs t n f 0 (dep + 1) (i + 1)).2.1; omega, g2, fun z => by cases z⟩
  · rw [if_neg c1]
    by_cases c3 : dep < 20 ∧ isC t n i 40 = true
    · rw [if_pos c3]
      obtain ⟨k1, k2⟩ := isC_t c3.2
      obtain ⟨g1, g2, g3⟩ := h3 (dep + 1) (i + 1) (by omega)
      by_cases c4 : (prs t n f 3 (dep + 1) (i + 1)).1 = true ∧ isC t n (prs t n f 3 (dep + 1) (i + 1)).2.1 41 = true
      · rw [if_pos c4]
        obtain ⟨g4, g5, g6⟩ := g3 c4.1
        obtain ⟨k3, k4⟩ := isC_t c4.2
        refine ⟨by show i ≤ (prs t n f 3 (dep + 1) (i + 1)).2.1 + 1; omega, by show (prs t n f 3 (dep + 1) (i + 1)).2.1 + 1 ≤ n; omega, fun _ => ⟨by show i + 1 ≤ (prs t n f 3 (dep + 1) (i + 1)).2.1 + 1; omega, ?_, g6⟩⟩
        show ((encC (prs t n f 3 (dep + 1) (i + 1)).2.2).length : Int) ≤ (prs t n f 3 (dep + 1) (i + 1)).2.1 + 1 - i
        omega
      · rw [if_neg c4]
        exact ⟨by show i ≤ (prs t n f 3 (dep + 1) (i + 1)).2.1; omega, g2, fun z => by cases z⟩
    · rw [if_neg c3]
      have hti := tsF_in (t := t) (n := n) (i := i) hi
      refine ⟨hti.1, hti.2.1, fun z => ?_⟩
      have hz := hti.2.2 z
      refine ⟨by show i + 1 ≤ (tsF t n i).2.1; omega, ?_, tsF_ok z⟩
      show ((3 : Nat) : Int) ≤ (tsF t n i).2.1 - i
      omega
theorem PI_1 {t : Int → Int} {n : Int} {f : Nat} (h0 : ∀ dep i, i ≤ n → PI n i 1 (prs t n f 0 dep i)) (h2 : ∀ dep i, i ≤ n → PI n i 0 (prs t n f 2 dep i)) : ∀ dep i, i ≤ n → PI n i 1 (prs t n (f + 1) 1 dep i) := by
  intro dep i hi
  rw [prs]
  obtain ⟨g1, g2, g3⟩ := h0 dep i hi
  by_cases c2 : (prs t n f 0 dep i).1 = true
  · rw [if_pos c2]
    obtain ⟨g4, g5, g6⟩ := g3 c2
    obtain ⟨k1, k2, k3⟩ := h2 dep (prs t n f 0 dep i).2.1 g2
    refine ⟨by show i ≤ (prs t n f 2 dep (prs t n f 0 dep i).2.1).2.1; omega, k2, fun z => ?_⟩
    obtain ⟨k4, k5, k6⟩ := k3 z
    refine ⟨by show i + 1 ≤ (prs t n f 2 dep (prs t n f 0 dep i).2.1).2.1; omega, ?_, OkT_app _ _ g6 k6⟩
    show ((encC ((prs t n f 0 dep i).2.2 ++ (prs t n f 2 dep (prs t n f 0 dep i).2.1).2.2)).length : Int) ≤ (prs t n f 2 dep (prs t n f 0 dep i).2.1).2.1 - i
    rw [encC_app, List.length_append]
    omega
  · rw [if_neg c2]
    exact ⟨g1, g2, fun z => by cases z⟩
theorem PI_2 {t : Int → Int} {n : Int} {f : Nat} (h0 : ∀ dep i, i ≤ n → PI n i 1 (prs t n f 0 dep i)) (h2 : ∀ dep i, i ≤ n → PI n i 0 (prs t n f 2 dep i)) : ∀ dep i, i ≤ n → PI n i 0 (prs t n (f + 1) 2 dep i) := by
  intro dep i hi
  rw [prs]
  by_cases c1 : isC t n i 38 = true
  · rw [if_pos c1]
    obtain ⟨k1, k2⟩ := isC_t c1
    obtain ⟨g1, g2, g3⟩ := h0 dep (i + 1) (by omega)
    by_cases c2 : (prs t n f 0 dep (i + 1)).1 = true
    · rw [if_pos c2]
      obtain ⟨g4, g5, g6⟩ := g3 c2
      obtain ⟨l1, l2, l3⟩ := h2 dep (prs t n f 0 dep (i + 1)).2.1 g2
      refine ⟨by show i ≤ (prs t n f 2 dep (prs t n f 0 dep (i + 1)).2.1).2.1; omega, l2, fun z => ?_⟩
      obtain ⟨l4, l5, l6⟩ := l3 z
      refine ⟨by show i + 0 ≤ (prs t n f 2 dep (prs t n f 0 dep (i + 1)).2.1).2.1; omega, ?_, OkT_app _ _ (OkT_app _ _ g6 trivial) l6⟩
      show ((encC ((prs t n f 0 dep (i + 1)).2.2 ++ [tAn] ++ (prs t n f 2 dep (prs t n f 0 dep (i + 1)).2.1).2.2)).length : Int) ≤ (prs t n f 2 dep (prs t n f 0 dep (i + 1)).2.1).2.1 - i
      rw [encC_app, encC_app, List.length_append, List.length_append]
      show (((encC (prs t n f 0 dep (i + 1)).2.2).length + 1 + (encC (prs t n f 2 dep (prs t n f 0 dep (i + 1)).2.1).2.2).length : Nat) : Int) ≤ _
      omega
    · rw [if_neg c2]
      exact ⟨by show i ≤ (prs t n f 0 dep (i + 1)).2.1; omega, g2, fun z => by cases z⟩
  · rw [if_neg c1]
    exact ⟨Int.le_refl i, hi, fun _ => ⟨by show i + 0 ≤ i; omega, by show ((0 : Nat) : Int) ≤ i - i; omega, trivial⟩⟩
theorem PI_3 {t : Int → Int} {n : Int} {f : Nat} (h1 : ∀ dep i, i ≤ n → PI n i 1 (prs t n f 1 dep i)) (h4 : ∀ dep i, i ≤ n → PI n i 0 (prs t n f 4 dep i)) : ∀ dep i, i ≤ n → PI n i 1 (prs t n (f + 1) 3 dep i) := by
  intro dep i hi
  rw [prs]
  obtain ⟨g1, g2, g3⟩ := h1 dep i hi
  by_cases c2 : (prs t n f 1 dep i).1 = true
  · rw [if_pos c2]
    obtain ⟨g4, g5, g6⟩ := g3 c2
    obtain ⟨k1, k2, k3⟩ := h4 dep (prs t n f 1 dep i).2.1 g2
    refine ⟨by show i ≤ (prs t n f 4 dep (prs t n f 1 dep i).2.1).2.1; omega, k2, fun z => ?_⟩
    obtain ⟨k4, k5, k6⟩ := k3 z
    refine ⟨by show i + 1 ≤ (prs t n f 4 dep (prs t n f 1 dep i).2.1).2.1; omega, ?_, OkT_app _ _ g6 k6⟩
    show ((encC ((prs t n f 1 dep i).2.2 ++ (prs t n f 4 dep (prs t n f 1 dep i).2.1).2.2)).length : Int) ≤ (prs t n f 4 dep (prs t n f 1 dep i).2.1).2.1 - i
    rw [encC_app, List.length_append]
    omega
  · rw [if_neg c2]
    exact ⟨g1, g2, fun z => by cases z⟩
theorem PI_4 {t : Int → Int} {n : Int} {f : Nat} (h1 : ∀ dep i, i ≤ n → PI n i 1 (prs t n f 1 dep i)) (h4 : ∀ dep i, i ≤ n → PI n i 0 (prs t n f 4 dep i)) : ∀ dep i, i ≤ n → PI n i 0 (prs t n (f + 1) 4 dep i) := by
  intro dep i hi
  rw [prs]
  · by_cases c1 : isC t n i 124 = true
    · rw [if_pos c1]
      obtain ⟨k1, k2⟩ := isC_t c1
      obtain ⟨g1, g2, g3⟩ := h1 dep (i + 1) (by omega)
      by_cases c2 : (prs t n f 1 dep (i + 1)).1 = true
      · rw [if_pos c2]
        obtain ⟨g4, g5, g6⟩ := g3 c2
        obtain ⟨l1, l2, l3⟩ := h4 dep (prs t n f 1 dep (i + 1)).2.1 g2
        refine ⟨by show i ≤ (prs t n f 4 dep (prs t n f 1 dep (i + 1)).2.1).2.1; omega, l2, fun z => ?_⟩
        obtain ⟨l4, l5, l6⟩ := l3 z
        refine ⟨by show i + 0 ≤ (prs t n f 4 dep (prs t n f 1 dep (i + 1)).2.1).2.1; omega, ?_, OkT_app _ _ (OkT_app _ _ g6 trivial) l6⟩
        show ((encC ((prs t n f 1 dep (i + 1)).2.2 ++ [tOr] ++ (prs t n f 4 dep (prs t n f 1 dep (i + 1)).2.1).2.2)).length : Int) ≤ (prs t n f 4 dep (prs t n f 1 dep (i + 1)).2.1).2.1 - i
        rw [encC_app, encC_app, List.length_append, List.length_append]
        show (((encC (prs t n f 1 dep (i + 1)).2.2).length + 1 + (encC (prs t n f 4 dep (prs t n f 1 dep (i + 1)).2.1).2.2).length : Nat) : Int) ≤ _
        omega
      · rw [if_neg c2]
        exact ⟨by show i ≤ (prs t n f 1 dep (i + 1)).2.1; omega, g2, fun z => by cases z⟩
    · rw [if_neg c1]
      exact ⟨Int.le_refl i, hi, fun _ => ⟨by show i + 0 ≤ i; omega, by show ((0 : Nat) : Int) ≤ i - i; omega, trivial⟩⟩
  all_goals (intro z; omega)
theorem PI_all {t : Int → Int} {n : Int} : ∀ f : Nat, (∀ dep i, i ≤ n → PI n i 1 (prs t n f 0 dep i)) ∧ (∀ dep i, i ≤ n → PI n i 1 (prs t n f 1 dep i)) ∧ (∀ dep i, i ≤ n → PI n i 0 (prs t n f 2 dep i)) ∧ (∀ dep i, i ≤ n → PI n i 1 (prs t n f 3 dep i)) ∧ ∀ dep i, i ≤ n → PI n i 0 (prs t n f 4 dep i)
  | 0 => by
    have e : ∀ m dep i st, i ≤ n → PI n i st (prs t n 0 m dep i) := fun m dep i st hi => by
      rw [prs]
      exact ⟨Int.le_refl i, hi, fun z => by cases z⟩
    exact ⟨fun dep i hi => e _ _ _ _ hi, fun dep i hi => e _ _ _ _ hi, fun dep i hi => e _ _ _ _ hi, fun dep i hi => e _ _ _ _ hi, fun dep i hi => e _ _ _ _ hi⟩
  | f + 1 => by
    obtain ⟨h0, h1, h2, h3, h4⟩ := PI_all f
    exact ⟨PI_0 h0 h3, PI_1 h0 h2, PI_2 h0 h2, PI_3 h1 h4, PI_4 h1 h4⟩
