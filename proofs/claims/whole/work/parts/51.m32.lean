/-! RULES: recursive descent, as the class reads -/
def prs (t : Int → Int) (n : Int) : Nat → Nat → Int → Int → Bool × Int × List Tok
  | 0, _, _, i => (false, i, [])
  | f + 1, 0, dep, i =>
    if dep < 20 ∧ isC t n i 33 = true then (if (prs t n f 0 (dep + 1) (i + 1)).1 = true then (true, (prs t n f 0 (dep + 1) (i + 1)).2.1, (prs t n f 0 (dep + 1) (i + 1)).2.2 ++ [tNo]) else (false, (prs t n f 0 (dep + 1) (i + 1)).2.1, []))
    else if dep < 20 ∧ isC t n i 40 = true then (if (prs t n f 3 (dep + 1) (i + 1)).1 = true ∧ isC t n (prs t n f 3 (dep + 1) (i + 1)).2.1 41 = true then (true, (prs t n f 3 (dep + 1) (i + 1)).2.1 + 1, (prs t n f 3 (dep + 1) (i + 1)).2.2) else (false, (prs t n f 3 (dep + 1) (i + 1)).2.1, []))
    else ((tsF t n i).1, (tsF t n i).2.1, [tkT t n i])
  | f + 1, 1, dep, i =>
    if (prs t n f 0 dep i).1 = true then ((prs t n f 2 dep (prs t n f 0 dep i).2.1).1, (prs t n f 2 dep (prs t n f 0 dep i).2.1).2.1, (prs t n f 0 dep i).2.2 ++ (prs t n f 2 dep (prs t n f 0 dep i).2.1).2.2) else (false, (prs t n f 0 dep i).2.1, [])
  | f + 1, 2, dep, i =>
    if isC t n i 38 = true then (if (prs t n f 0 dep (i + 1)).1 = true then ((prs t n f 2 dep (prs t n f 0 dep (i + 1)).2.1).1, (prs t n f 2 dep (prs t n f 0 dep (i + 1)).2.1).2.1, (prs t n f 0 dep (i + 1)).2.2 ++ [tAn] ++ (prs t n f 2 dep (prs t n f 0 dep (i + 1)).2.1).2.2) else (false, (prs t n f 0 dep (i + 1)).2.1, []))
    else (true, i, [])
  | f + 1, 3, dep, i =>
    if (prs t n f 1 dep i).1 = true then ((prs t n f 4 dep (prs t n f 1 dep i).2.1).1, (prs t n f 4 dep (prs t n f 1 dep i).2.1).2.1, (prs t n f 1 dep i).2.2 ++ (prs t n f 4 dep (prs t n f 1 dep i).2.1).2.2) else (false, (prs t n f 1 dep i).2.1, [])
  | f + 1, _, dep, i =>
    if isC t n i 124 = true then (if (prs t n f 1 dep (i + 1)).1 = true then ((prs t n f 4 dep (prs t n f 1 dep (i + 1)).2.1).1, (prs t n f 4 dep (prs t n f 1 dep (i + 1)).2.1).2.1, (prs t n f 1 dep (i + 1)).2.2 ++ [tOr] ++ (prs t n f 4 dep (prs t n f 1 dep (i + 1)).2.1).2.2) else (false, (prs t n f 1 dep (i + 1)).2.1, []))
    else (true, i, [])
theorem mc_fuel {t : Int → Int} {n : Int} : ∀ (f g : Nat) (w : Bool) (i : Int) (ops : List Int) (acc : List Tok), n - i + 1 ≤ f → n - i + 1 ≤ g → i ≤ n → mc t n f w i ops acc = mc t n g w i ops acc
  | 0, _, _, _, _, _, h, _, hi => by omega
  | _ + 1, 0, _, _, _, _, _, h, hi => by omega
  | f + 1, g + 1, w, i, ops, acc, h, h2, hi => by
    rw [mc, mc]
    by_cases hlt : i < n
    · have ht := tsF_in (t := t) (n := n) (i := i) hi
      have hn : ¬ ¬ i < n := by omega
      rw [if_neg hn, if_neg hn]
      by_cases c1 : w = true ∧ (t i = 33 ∨ t i = 40)
      · rw [if_pos c1, if_pos c1]
        by_cases c2 : nst ops = 20
        · rw [if_pos c2, if_pos c2]
        · rw [if_neg c2, if_neg c2]; exact mc_fuel f g _ _ _ _ (by omega) (by omega) (by omega)
      · rw [if_neg c1, if_neg c1]
        by_cases c3 : w = true
        · rw [if_pos c3, if_pos c3]
          by_cases c4 : (tsF t n i).1 = false
          · rw [if_pos c4, if_pos c4]
          · rw [if_neg c4, if_neg c4]
            have := ht.2.2 (by simpa using c4)
            exact mc_fuel f g _ _ _ _ (by omega) (by omega) (by omega)
        · rw [if_neg c3, if_neg c3]
          by_cases c5 : t i = 38 ∨ t i = 124
          · rw [if_pos c5, if_pos c5]; exact mc_fuel f g _ _ _ _ (by omega) (by omega) (by omega)
          · rw [if_neg c5, if_neg c5]
            by_cases c6 : t i = 41 ∧ 0 < opn ops
            · rw [if_pos c6, if_pos c6]; exact mc_fuel f g _ _ _ _ (by omega) (by omega) (by omega)
            · rw [if_neg c6, if_neg c6]
    · rw [if_pos hlt, if_pos hlt]
def mcR (t : Int → Int) (n : Int) (w : Bool) (i : Int) (ops : List Int) (acc : List Tok) : Int × List Tok := mc t n (n - i + 1).toNat w i ops acc
theorem mcR_mc {t : Int → Int} {n i : Int} {f : Nat} {w : Bool} {ops : List Int} {acc : List Tok} (hf : n - i + 1 ≤ f) (hi : i ≤ n) : mc t n f w i ops acc = mcR t n w i ops acc := mc_fuel _ _ _ _ _ _ hf (by omega) hi
theorem mcR_end {t : Int → Int} {n : Int} {w : Bool} {ops : List Int} {acc : List Tok} : mcR t n w n ops acc = if w = true ∨ 0 < opn ops then (n, acc) else (-1, acc ++ poT false ops) := by
  unfold mcR
  rw [show (n - n + 1).toNat = 0 + 1 by omega, mc, if_pos (by omega)]
theorem mcR_open {t : Int → Int} {n i : Int} {ops : List Int} {acc : List Tok} (hi : i < n) (hc : t i = 33 ∨ t i = 40) : mcR t n true i ops acc = if nst ops = 20 then (i, acc) else mcR t n true (i + 1) (t i :: ops) acc := by
  rw [mcR, show (n - i + 1).toNat = (n - i).toNat + 1 by omega, mc, if_neg (by omega), if_pos ⟨rfl, hc⟩, mcR_mc (by omega) (by omega)]
theorem mcR_test {t : Int → Int} {n i : Int} {ops : List Int} {acc : List Tok} (hi : i < n) (hc : ¬ (t i = 33 ∨ t i = 40)) : mcR t n true i ops acc = if (tsF t n i).1 = false then ((tsF t n i).2.1, acc) else mcR t n false (tsF t n i).2.1 (clR ops) (acc ++ [tkT t n i] ++ List.replicate (clK ops) tNo) := by
  have ht := tsF_in (t := t) (n := n) (i := i) (by omega)
  rw [mcR, show (n - i + 1).toNat = (n - i).toNat + 1 by omega, mc, if_neg (by omega), if_neg (fun z => hc z.2), if_pos rfl]
  by_cases c4 : (tsF t n i).1 = false
  · rw [if_pos c4, if_pos c4]
  · rw [if_neg c4, if_neg c4]
    have := ht.2.2 (by simpa using c4)
    rw [mcR_mc (by omega) (by omega)]
theorem mcR_op {t : Int → Int} {n i : Int} {ops : List Int} {acc : List Tok} (hi : i < n) (hc : t i = 38 ∨ t i = 124) : mcR t n false i ops acc = mcR t n true (i + 1) (t i :: poR (decide (t i = 38)) ops) (acc ++ poT (decide (t i = 38)) ops) := by
  rw [mcR, show (n - i + 1).toNat = (n - i).toNat + 1 by omega, mc, if_neg (by omega), if_neg (fun z => by simp at z), if_neg (by decide), if_pos hc, mcR_mc (by omega) (by omega)]
theorem mcR_close {t : Int → Int} {n i : Int} {ops : List Int} {acc : List Tok} (hi : i < n) (hc : ¬ (t i = 38 ∨ t i = 124)) : mcR t n false i ops acc = if t i = 41 ∧ 0 < opn ops then mcR t n false (i + 1) (clR (poR false ops).tail) (acc ++ poT false ops ++ List.replicate (clK (poR false ops).tail) tNo) else (i, acc) := by
  rw [mcR, show (n - i + 1).toNat = (n - i).toNat + 1 by omega, mc, if_neg (by omega), if_neg (fun z => by simp at z), if_neg (by decide), if_neg hc]
  by_cases c6 : t i = 41 ∧ 0 < opn ops
  · rw [if_pos c6, if_pos c6, mcR_mc (by omega) (by omega)]
  · rw [if_neg c6, if_neg c6]
