/-! THE READER OF RULES: its run over a row -/
def nst : List Int → Int
  | [] => 0
  | x :: xs => (if x = 33 ∨ x = 40 then 1 else 0) + nst xs
def opn : List Int → Int
  | [] => 0
  | x :: xs => (if x = 40 then 1 else 0) + opn xs
def okO : List Int → Prop
  | [] => True
  | x :: xs => (x = 33 ∨ x = 40 ∨ ((x = 38 ∨ x = 124) ∧ xs.headD 0 ≠ 33)) ∧ okO xs
def tkT (t : Int → Int) (n i : Int) : Tok := .inl ((tsF t n i).2.2.1, (tsF t n i).2.2.2.1, (tsF t n i).2.2.2.2)
/-- the run: where it stops (-1: nowhere), and the signs told -/
def mc (t : Int → Int) (n : Int) : Nat → Bool → Int → List Int → List Tok → Int × List Tok
  | 0, _, _, _, acc => (n, acc)
  | f + 1, w, i, ops, acc =>
    if ¬ i < n then (if w = true ∨ 0 < opn ops then (n, acc) else (-1, acc ++ poT false ops))
    else if w = true ∧ (t i = 33 ∨ t i = 40) then (if nst ops = 20 then (i, acc) else mc t n f true (i + 1) (t i :: ops) acc)
    else if w = true then (if (tsF t n i).1 = false then ((tsF t n i).2.1, acc) else mc t n f false (tsF t n i).2.1 (clR ops) (acc ++ [tkT t n i] ++ List.replicate (clK ops) tNo))
    else if t i = 38 ∨ t i = 124 then mc t n f true (i + 1) (t i :: poR (decide (t i = 38)) ops) (acc ++ poT (decide (t i = 38)) ops)
    else if t i = 41 ∧ 0 < opn ops then mc t n f false (i + 1) (clR (poR false ops).tail) (acc ++ poT false ops ++ List.replicate (clK (poR false ops).tail) tNo)
    else (i, acc)
theorem nst_in : ∀ l : List Int, 0 ≤ opn l ∧ opn l ≤ nst l ∧ nst l ≤ l.length
  | [] => by simp [nst, opn]
  | x :: xs => by
    have := nst_in xs
    simp only [nst, opn, List.length_cons]
    by_cases h : x = 40
    · rw [if_pos h, if_pos (Or.inr h)]; omega
    · rw [if_neg h]; split <;> omega
theorem cl_len : ∀ l : List Int, (clR l).length + clK l = l.length
  | [] => rfl
  | x :: xs => by
    have := cl_len xs
    rw [clR, clK]
    split <;> simp only [List.length_cons] <;> omega
theorem cl_nst : ∀ l : List Int, nst (clR l) = nst l - clK l ∧ opn (clR l) = opn l
  | [] => by simp [clR, clK, nst, opn]
  | x :: xs => by
    have := cl_nst xs
    rw [clR, clK]
    by_cases h : x = 33
    · rw [if_pos h, if_pos h, nst, opn, if_pos (Or.inl h), if_neg (by omega)]; push_cast; omega
    · rw [if_neg h, if_neg h]; simp
theorem cl_ok : ∀ l : List Int, okO l → okO (clR l) ∧ (clR l).headD 0 ≠ 33
  | [], _ => ⟨trivial, by simp [clR]⟩
  | x :: xs, h => by
    rw [clR]
    by_cases hx : x = 33
    · rw [if_pos hx]; exact cl_ok xs h.2
    · rw [if_neg hx]; exact ⟨h, hx⟩
theorem po_len {st : Bool} : ∀ l : List Int, (poR st l).length + (poT st l).length = l.length
  | [] => rfl
  | x :: xs => by
    have := po_len (st := st) xs
    rw [poR, poT]
    split <;> simp only [List.length_cons, List.length_nil] <;> omega
theorem po_nt {st : Bool} : ∀ l : List Int, ntT (poT st l) = 0
  | [] => rfl
  | x :: xs => by
    have := po_nt (st := st) xs
    rw [poT]
    split
    · split <;> exact this
    · rfl
theorem rep_nt : ∀ k : Nat, ntT (List.replicate k tNo) = 0
  | 0 => rfl
  | k + 1 => by rw [List.replicate_succ]; exact rep_nt k
theorem po_nst {st : Bool} : ∀ l : List Int, nst (poR st l) = nst l ∧ opn (poR st l) = opn l
  | [] => by simp [poR, nst, opn]
  | x :: xs => by
    have := po_nst (st := st) xs
    rw [poR]
    by_cases h : x = 38 ∨ (x = 124 ∧ st = false)
    · rw [if_pos h, nst, opn, if_neg (by omega), if_neg (by omega)]; omega
    · rw [if_neg h]; simp
theorem po_ok {st : Bool} : ∀ l : List Int, okO l → l.headD 0 ≠ 33 → okO (poR st l) ∧ (poR st l).headD 0 ≠ 33
  | [], _, _ => ⟨trivial, by simp [poR]⟩
  | x :: xs, h, hh => by
    rw [poR]
    by_cases hx : x = 38 ∨ (x = 124 ∧ st = false)
    · rw [if_pos hx]
      have := h.1
      exact po_ok xs h.2 (by rcases this with z | z | z; omega; omega; exact z.2)
    · rw [if_neg hx]; exact ⟨h, hh⟩
theorem po_top : ∀ l : List Int, okO l → l.headD 0 ≠ 33 → 0 < opn l → poR false l = 40 :: (poR false l).tail
  | [], _, _, h => by simp [opn] at h
  | x :: xs, h, hh, ho => by
    rw [poR]
    have h1 := h.1
    have hh : x ≠ 33 := hh
    by_cases hx : x = 38 ∨ (x = 124 ∧ false = false)
    · rw [if_pos hx]
      have hx' : x = 38 ∨ x = 124 := by rcases hx with z | z; exact Or.inl z; exact Or.inr z.1
      rw [opn, if_neg (by omega)] at ho
      exact po_top xs h.2 (by rcases h1 with z | z | z; omega; omega; exact z.2) (by omega)
    · rw [if_neg hx]
      have hx1 : x ≠ 38 := fun z => hx (Or.inl z)
      have hx2 : x ≠ 124 := fun z => hx (Or.inr ⟨z, rfl⟩)
      rw [show x = 40 by omega]
      rfl
theorem CS_at {S μ : ST} {r s n i j dep : Int} {ops : List Int} {acc : List Tok} (h : CS S μ r s n i ops dep acc) : CS (up S 1000 80 j) μ r s n j ops dep acc := by
  obtain ⟨⟨g1, g2, g3⟩, g4, g5, g6, g7, g8, g9⟩ := h
  refine ⟨⟨?_, ?_, ?_⟩, ?_, ?_, ?_, ?_, ?_, g9⟩
  · simp only [up_at, Int.reduceEq, and_false, if_false]; exact g1
  · simp only [up_at, Int.reduceEq, and_false, if_false]; exact g2
  · simp only [up_at, and_self, if_true]
  · simp only [up_at, Int.reduceEq, and_false, if_false]; exact g4
  · exact OS_same ops (fun j _ _ => by rw [up_na (by omega)]) g5
  · simp only [up_at, Int.reduceEq, and_false, if_false]; exact g6
  · simp only [up_at, Int.reduceEq, and_false, if_false]; exact g7
  · simp only [up_at, Int.reduceEq, and_false, if_false]; exact g8
theorem CS_push {S μ : ST} {r s n i dep x : Int} {ops : List Int} {acc : List Tok} (h : CS S μ r s n i ops dep acc) : CS (up (up S 1000 85 (ops.length + 1)) 1078 ops.length x) μ r s n i (x :: ops) dep acc := by
  obtain ⟨⟨g1, g2, g3⟩, g4, g5, g6, g7, g8, g9⟩ := h
  refine ⟨⟨?_, ?_, ?_⟩, ?_, ⟨?_, ?_⟩, ?_, ?_, ?_, g9⟩
  · rw [up_na (by omega), up_at, if_neg (by omega)]; exact g1
  · rw [up_na (by omega), up_at, if_neg (by omega)]; exact g2
  · rw [up_na (by omega), up_at, if_neg (by omega)]; exact g3
  · rw [up_na (by omega), up_at, if_pos ⟨rfl, rfl⟩]; simp
  · rw [up_at, if_pos ⟨rfl, rfl⟩]
  · exact OS_same ops (fun j a b => by rw [up_at, if_neg (by omega), up_na (by omega)]) g5
  · rw [up_na (by omega), up_at, if_neg (by omega)]; exact g6
  · rw [up_na (by omega), up_at, if_neg (by omega)]; exact g7
  · rw [up_na (by omega), up_at, if_neg (by omega)]; exact g8
theorem CS_dep {S μ : ST} {r s n i dep dep' : Int} {ops : List Int} {acc : List Tok} (h : CS S μ r s n i ops dep acc) : CS (up S 1000 86 dep') μ r s n i ops dep' acc := by
  obtain ⟨⟨g1, g2, g3⟩, g4, g5, g6, g7, g8, g9⟩ := h
  refine ⟨⟨?_, ?_, ?_⟩, ?_, ?_, ?_, ?_, ?_, g9⟩
  · simp only [up_at, Int.reduceEq, and_false, if_false]; exact g1
  · simp only [up_at, Int.reduceEq, and_false, if_false]; exact g2
  · simp only [up_at, Int.reduceEq, and_false, if_false]; exact g3
  · simp only [up_at, Int.reduceEq, and_false, if_false]; exact g4
  · exact OS_same ops (fun j _ _ => by rw [up_na (by omega)]) g5
  · simp only [up_at, and_self, if_true]
  · simp only [up_at, Int.reduceEq, and_false, if_false]; exact g7
  · simp only [up_at, Int.reduceEq, and_false, if_false]; exact g8
theorem CS_pop {S μ : ST} {r s n i dep x : Int} {ops : List Int} {acc : List Tok} (h : CS S μ r s n i (x :: ops) dep acc) : CS (up S 1000 85 ops.length) μ r s n i ops dep acc := by
  obtain ⟨⟨g1, g2, g3⟩, g4, g5, g6, g7, g8, g9⟩ := h
  refine ⟨⟨?_, ?_, ?_⟩, ?_, ?_, ?_, ?_, ?_, g9⟩
  · simp only [up_at, Int.reduceEq, and_false, if_false]; exact g1
  · simp only [up_at, Int.reduceEq, and_false, if_false]; exact g2
  · simp only [up_at, Int.reduceEq, and_false, if_false]; exact g3
  · simp only [up_at, and_self, if_true]
  · exact OS_same ops (fun j _ _ => by rw [up_na (by omega)]) g5.2
  · simp only [up_at, Int.reduceEq, and_false, if_false]; exact g6
  · simp only [up_at, Int.reduceEq, and_false, if_false]; exact g7
  · simp only [up_at, Int.reduceEq, and_false, if_false]; exact g8
