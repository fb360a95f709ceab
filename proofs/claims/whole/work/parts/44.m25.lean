/-! THE READER OF RULES: the heap of signs -/
def SameR (r : Int) (μ μ' : ST) : Prop := ∀ a x, ¬ (a = 1048 ∧ x = r ∨ a = 1049 ∧ 100 * r ≤ x ∧ x < 100 * r + 100 ∨ 1050 ≤ a ∧ a ≤ 1054 ∧ 40 * r ≤ x ∧ x < 40 * r + 40) → μ' a x = μ a x
theorem SameR.rfl' {r : Int} {μ : ST} : SameR r μ μ := fun _ _ _ => rfl
theorem SameR.trans {r : Int} {μ μ' μ2 : ST} (h : SameR r μ μ') (h2 : SameR r μ' μ2) : SameR r μ μ2 := fun a x z => by rw [h2 a x z, h a x z]
theorem SameR.k {r t : Int} {μ μ' μ2 : ST} (h : SameR r μ μ') (ht : 0 ≤ t ∧ t < 40) (h2 : SameK (40 * r + t) μ' μ2) : SameR r μ μ2 := fun a x z => by rw [h2 a x (by omega), h a x z]
theorem SameR.c {r j v : Int} {μ μ' : ST} (h : SameR r μ μ') (hj : 0 ≤ j ∧ j < 100) : SameR r μ (up μ' 1049 (100 * r + j) v) := fun a x z => by rw [up_at, if_neg (by omega)]; exact h a x z
theorem SameR.int {r s : Int} {μ μ' : ST} (h : SameR r μ μ') : intF μ' s = intF μ s := by
  funext i
  unfold intF
  rw [h 1018 _ (by omega)]
/-- how many tests -/
def ntT : List Tok → Int
  | [] => 0
  | .inl _ :: ts => 1 + ntT ts
  | .inr _ :: ts => ntT ts
theorem ntT_in : ∀ ts : List Tok, 0 ≤ ntT ts ∧ ntT ts ≤ ts.length
  | [] => by simp [ntT]
  | .inl _ :: ts => by have := ntT_in ts; simp only [ntT, List.length_cons]; omega
  | .inr _ :: ts => by have := ntT_in ts; simp only [ntT, List.length_cons]; omega
theorem ntT_app : ∀ a b : List Tok, ntT (a ++ b) = ntT a + ntT b
  | [], b => by simp [ntT]
  | .inl _ :: ts, b => by have := ntT_app ts b; simp only [List.cons_append, ntT]; omega
  | .inr _ :: ts, b => by have := ntT_app ts b; simp only [List.cons_append, ntT]; omega
theorem EncM_app {μ : ST} {r : Int} : ∀ (a b : List Tok) (j t : Int), EncM μ r a j t → EncM μ r b (j + a.length) (t + ntT a) → EncM μ r (a ++ b) j t
  | [], b, j, t, _, h => by simpa [ntT] using h
  | .inl (sg, x, y) :: ts, b, j, t, h, h2 => by
    obtain ⟨h1, h3, h4, h5, h6, h7⟩ := h
    refine ⟨h1, h3, h4, h5, h6, EncM_app ts b (j + 1) (t + 1) h7 ?_⟩
    simp only [ntT, List.length_cons] at h2
    rw [show j + 1 + (ts.length : Int) = j + ((ts.length + 1 : Nat) : Int) by push_cast; omega, show t + 1 + ntT ts = t + (1 + ntT ts) by omega]
    exact h2
  | .inr (.inl _) :: ts, b, j, t, h, h2 => by
    refine ⟨h.1, EncM_app ts b (j + 1) t h.2 ?_⟩
    simp only [ntT, List.length_cons] at h2
    rw [show j + 1 + (ts.length : Int) = j + ((ts.length + 1 : Nat) : Int) by push_cast; omega]
    exact h2
  | .inr (.inr true) :: ts, b, j, t, h, h2 => by
    refine ⟨h.1, EncM_app ts b (j + 1) t h.2 ?_⟩
    simp only [ntT, List.length_cons] at h2
    rw [show j + 1 + (ts.length : Int) = j + ((ts.length + 1 : Nat) : Int) by push_cast; omega]
    exact h2
  | .inr (.inr false) :: ts, b, j, t, h, h2 => by
    refine ⟨h.1, EncM_app ts b (j + 1) t h.2 ?_⟩
    simp only [ntT, List.length_cons] at h2
    rw [show j + 1 + (ts.length : Int) = j + ((ts.length + 1 : Nat) : Int) by push_cast; omega]
    exact h2
/-- what is told stays told -/
theorem EncM_same {μ μ' : ST} {r : Int} : ∀ (a : List Tok) (j t : Int), (∀ x, j ≤ x → x < j + a.length → μ' 1049 (100 * r + x) = μ 1049 (100 * r + x)) → (∀ b x, 1050 ≤ b → b ≤ 1054 → t ≤ x → x < t + ntT a → μ' b (40 * r + x) = μ b (40 * r + x)) → EncM μ r a j t → EncM μ' r a j t
  | [], j, t, _, _, _ => trivial
  | .inl (sg, x, y) :: ts, j, t, hc, ht, h => by
    obtain ⟨h1, h3, h4, h5, h6, h7⟩ := h
    have hl : (((Sum.inl (sg, x, y) : Tok) :: ts).length : Int) = ts.length + 1 := by simp
    have hn := (ntT_in ts).1
    have hn2 : ntT ((Sum.inl (sg, x, y) : Tok) :: ts) = 1 + ntT ts := rfl
    refine ⟨by rw [hc j (by omega) (by omega)]; exact h1, h3, by rw [ht 1052 t (by omega) (by omega) (by omega) (by omega)]; exact h4, by rw [ht 1050 t (by omega) (by omega) (by omega) (by omega), ht 1051 t (by omega) (by omega) (by omega) (by omega)]; exact h5, by rw [ht 1053 t (by omega) (by omega) (by omega) (by omega), ht 1054 t (by omega) (by omega) (by omega) (by omega)]; exact h6, EncM_same ts (j + 1) (t + 1) (fun x a b => hc x (by omega) (by omega)) (fun b x a1 a2 a3 a4 => ht b x a1 a2 (by omega) (by omega)) h7⟩
  | .inr (.inl u) :: ts, j, t, hc, ht, h => by
    have hl : (((Sum.inr (.inl u) : Tok) :: ts).length : Int) = ts.length + 1 := by simp
    exact ⟨by rw [hc j (by omega) (by omega)]; exact h.1, EncM_same ts (j + 1) t (fun x a b => hc x (by omega) (by omega)) ht h.2⟩
  | .inr (.inr true) :: ts, j, t, hc, ht, h => by
    have hl : (((Sum.inr (.inr true) : Tok) :: ts).length : Int) = ts.length + 1 := by simp
    exact ⟨by rw [hc j (by omega) (by omega)]; exact h.1, EncM_same ts (j + 1) t (fun x a b => hc x (by omega) (by omega)) ht h.2⟩
  | .inr (.inr false) :: ts, j, t, hc, ht, h => by
    have hl : (((Sum.inr (.inr false) : Tok) :: ts).length : Int) = ts.length + 1 := by simp
    exact ⟨by rw [hc j (by omega) (by omega)]; exact h.1, EncM_same ts (j + 1) t (fun x a b => hc x (by omega) (by omega)) ht h.2⟩
/-- the heap of signs, top first -/
def OS (S : ST) : List Int → Prop
  | [] => True
  | x :: xs => S 1078 xs.length = x ∧ OS S xs
theorem OS_same {S S' : ST} : ∀ l : List Int, (∀ j, 0 ≤ j → j < l.length → S' 1078 j = S 1078 j) → OS S l → OS S' l
  | [], _, _ => trivial
  | x :: xs, h, ho => ⟨by rw [h _ (by omega) (by simp)]; exact ho.1, OS_same xs (fun j a b => h j a (by simp; omega)) ho.2⟩
def CS (S μ : ST) (r s n i : Int) (ops : List Int) (dep : Int) (acc : List Tok) : Prop := PS S s n i ∧ S 1000 85 = ops.length ∧ OS S ops ∧ S 1000 86 = dep ∧ S 1000 83 = acc.length ∧ S 1000 84 = ntT acc ∧ EncM μ r acc 0 0
def tkC : Tok → Int
  | .inl _ => 0
  | .inr (.inl _) => -1
  | .inr (.inr true) => -2
  | .inr (.inr false) => -3
theorem CS_emit {S μ : ST} {r s n i dep c : Int} {ops : List Int} {acc : List Tok} {u : Unit ⊕ Bool} (h : CS S μ r s n i ops dep acc) (hc : c = tkC (.inr u)) : CS (up (up S 1000 83 (acc.length + 1)) 1049 (100 * r + acc.length) c) (up μ 1049 (100 * r + acc.length) c) r s n i ops dep (acc ++ [.inr u]) := by
  obtain ⟨⟨h1, h2, h3⟩, h4, h5, h6, h7, h8, h9⟩ := h
  refine ⟨⟨?_, ?_, ?_⟩, ?_, ?_, ?_, ?_, ?_, ?_⟩
  · rw [up_na (by omega), up_at, if_neg (by omega)]; exact h1
  · rw [up_na (by omega), up_at, if_neg (by omega)]; exact h2
  · rw [up_na (by omega), up_at, if_neg (by omega)]; exact h3
  · rw [up_na (by omega), up_at, if_neg (by omega)]; exact h4
  · exact OS_same ops (fun j _ _ => by rw [up_na (by omega), up_na (by omega)]) h5
  · rw [up_na (by omega), up_at, if_neg (by omega)]; exact h6
  · rw [up_na (by omega), up_at, if_pos ⟨rfl, rfl⟩]; simp
  · rw [up_na (by omega), up_at, if_neg (by omega), h8, ntT_app]; simp [ntT]
  · refine EncM_app acc [.inr u] 0 0 (EncM_same acc 0 0 (fun x a b => ?_) (fun b x a1 a2 a3 a4 => ?_) h9) ?_
    · rw [up_at, if_neg (by omega)]
    · rw [up_na (by omega)]
    · subst hc
      rw [Int.zero_add]
      match u with
      | .inl _ => exact ⟨by rw [up_at, if_pos ⟨rfl, rfl⟩]; rfl, trivial⟩
      | .inr true => exact ⟨by rw [up_at, if_pos ⟨rfl, rfl⟩]; rfl, trivial⟩
      | .inr false => exact ⟨by rw [up_at, if_pos ⟨rfl, rfl⟩]; rfl, trivial⟩
def clK : List Int → Nat
  | [] => 0
  | x :: xs => if x = 33 then clK xs + 1 else 0
def clR : List Int → List Int
  | [] => []
  | x :: xs => if x = 33 then clR xs else x :: xs
def poR (st : Bool) : List Int → List Int
  | [] => []
  | x :: xs => if x = 38 ∨ (x = 124 ∧ st = false) then poR st xs else x :: xs
def poT (st : Bool) : List Int → List Tok
  | [] => []
  | x :: xs => if x = 38 ∨ (x = 124 ∧ st = false) then (if x = 38 then tAn else tOr) :: poT st xs else []
theorem closes_l {d : Nat} {r s n i : Int} {S0 : ST} {K : KT} {Q : QF} (hK : MK K) (hr : 0 ≤ r ∧ r < 17) :
    ∀ (ops : List Int) (dep : Int) (acc : List Tok) (μ S : ST), ops.length + acc.length ≤ 99 → -100 ≤ dep - ops.length → dep ≤ 100 → MS μ S0 S → CS S μ r s n i ops dep acc → (∀ μ' S', MS μ' S0 S' → SameR r μ μ' → CS S' μ' r s n i (clR ops) (dep - clK ops) (acc ++ List.replicate (clK ops) tNo) → Q [] K S') → TT mX12_closes (d + 2) 0 [vR 1000, vI r] [] K S 0 0 Q := by
  intro ops
  induction ops with
  | nil =>
    intro dep acc μ S hl hd hd2 hS hc hq
    have e1 : S 1000 85 = 0 := hc.2.1
    refine TT.go zX12_closes 200 ?_
    simp only [↓oPush, ↓oIload, ↓oLload, ↓oRload, ↓oIstore, ↓oLstore, ↓oRstore, ↓oIinc, ↓oIadd, ↓oIsub, ↓oImul, ↓oIand, ↓oIor, ↓oIshl, ↓oIshr, ↓oIushr, ↓oIdiv, ↓oIrem, ↓oIneg, ↓oLadd, ↓oLmul, ↓oLand, ↓oLor, ↓oLxor, ↓oLshl, ↓oLshr, ↓oLushr, ↓oLcmp, ↓oI2l, ↓oL2i, ↓oI2b, ↓oI2s, ↓oDup, ↓oPop, ↓oDupx1, ↓oDupx2, ↓oDup2, ↓oGoto, ↓oIfEq, ↓oIfNe, ↓oIfLt, ↓oIfGe, ↓oIfGt, ↓oIfLe, ↓oIcEq, ↓oIcNe, ↓oIcLt, ↓oIcGe, ↓oIcGt, ↓oIcLe, ↓oIfnull, ↓oIfnonnull, ↓oSwitch, ↓oGetf, ↓oPutf, ↓oNew, ↓oNewa, ↓oAlen, ↓oIald, ↓oLald, ↓oZald, ↓oAald, ↓oIast, ↓oLast, ↓oZast, ↓oAast, ↓oCast, ↓oObji, ↓oRetI, ↓oRetZ, ↓oRetL, ↓oRetA, ↓oRetV, ↓oInvS, ↓oInvV, ↓oInvI, ↓oFail, ↓oAcEq, ↓oGetE, ↓oAlenE, ↓oAastO, ↓oCopyL, ↓popI_I, ↓popL_L, ↓popR_R, ↓popS_I, ↓popS_R, ↓popN_0, ↓popN_s, ↓popT_0, ↓popT_1, ↓popT_2, ↓popT_3, ↓gI_0, ↓gI_s, ↓gL_0, ↓gL_s, ↓gR_0, ↓gR_s, ↓blk_s, ↓blk_0, goE_0, goE_1, goE_2, bst_0, bst_1, bst_2, TTf_e, st1_0, st1_1, st1_s, st2_0, st2_1, st2_s, jk_I, jk_R, jk_L, jk_J, mkT_0, mkT_1, mkT_2, mkT_3, sw_n, sw_c, nJ_n, nJ_I, nJ_L, nJ_R, stW_n, stW_I, stW_R, stW_L, true_and, and_true, Nat.reduceAdd, Nat.reduceLeDiff, Int.reduceAdd, up_at, Int.reduceEq, Int.reduceLE, Int.reduceLT, false_and, and_false, and_self, if_false, if_true, Int.reduceNeg, List.cons_append, List.nil_append, not_true_eq_false, not_false_eq_true, false_implies, true_implies, implies_true, true_or, or_true, false_or, or_false, aX12_closes_0, aX12_closes_1, aX12_closes_4, aX12_closes_7, aX12_closes_8, aX12_closes_11, aX12_closes_12, aX12_closes_15, aX12_closes_16, aX12_closes_17, aX12_closes_18, aX12_closes_20, aX12_closes_23, aX12_closes_24, aX12_closes_25, aX12_closes_28, aX12_closes_29, aX12_closes_30, aX12_closes_33, aX12_closes_34, aX12_closes_35, aX12_closes_38, aX12_closes_39, aX12_closes_40, aX12_closes_43, aX12_closes_44, aX12_closes_45, aX12_closes_46, aX12_closes_49, aX12_closes_52, MK_o hK, e1]
    repeat' (first | refine And.intro ?_ ?_ | refine imp_i (fun _ => ?_))
    all_goals first | omega | exact hq μ S hS SameR.rfl' (by simpa [clR, clK] using hc)
  | cons x xs ih =>
    intro dep acc μ S hl hd hd2 hS hc hq
    have e1 : S 1000 85 = xs.length + 1 := by rw [hc.2.1]; simp
    have e2 : S 1078 xs.length = x := hc.2.2.1.1
    have e3 : S 1000 86 = dep := hc.2.2.2.1
    have w1 : w32 ((xs.length : Int) + 1 - 1) = xs.length := by rw [w32_i (by simp at hl; omega) (by simp at hl; omega)]; omega
    simp only [List.length_cons] at hl hd
    by_cases hx : x = 33
    · have h1 := MS_scr (a := 1000) (i := 86) (v := dep - 1) (MS_scr (a := 1000) (i := 85) (v := (xs.length : Int)) hS (by unfold scr; omega)) (by unfold scr; omega)
      have hc1 : CS (up (up S 1000 85 (xs.length : Int)) 1000 86 (dep - 1)) μ r s n i xs (dep - 1) acc := by
        obtain ⟨⟨g1, g2, g3⟩, g4, g5, g6, g7, g8, g9⟩ := hc
        refine ⟨⟨?_, ?_, ?_⟩, ?_, ?_, ?_, ?_, ?_, g9⟩
        · simp only [up_at, Int.reduceEq, and_false, if_false]; exact g1
        · simp only [up_at, Int.reduceEq, and_false, if_false]; exact g2
        · simp only [up_at, Int.reduceEq, and_false, if_false]; exact g3
        · simp only [up_at, Int.reduceEq, and_false, if_false, and_self, if_true]
        · exact OS_same xs (fun j _ _ => by rw [up_na (by omega), up_na (by omega)]) g5.2
        · simp only [up_at, Int.reduceEq, and_false, if_false, and_self, if_true]
        · simp only [up_at, Int.reduceEq, and_false, if_false]; exact g7
        · simp only [up_at, Int.reduceEq, and_false, if_false]; exact g8
      refine TT.go zX12_closes 200 ?_
      simp only [↓oPush, ↓oIload, ↓oLload, ↓oRload, ↓oIstore, ↓oLstore, ↓oRstore, ↓oIinc, ↓oIadd, ↓oIsub, ↓oImul, ↓oIand, ↓oIor, ↓oIshl, ↓oIshr, ↓oIushr, ↓oIdiv, ↓oIrem, ↓oIneg, ↓oLadd, ↓oLmul, ↓oLand, ↓oLor, ↓oLxor, ↓oLshl, ↓oLshr, ↓oLushr, ↓oLcmp, ↓oI2l, ↓oL2i, ↓oI2b, ↓oI2s, ↓oDup, ↓oPop, ↓oDupx1, ↓oDupx2, ↓oDup2, ↓oGoto, ↓oIfEq, ↓oIfNe, ↓oIfLt, ↓oIfGe, ↓oIfGt, ↓oIfLe, ↓oIcEq, ↓oIcNe, ↓oIcLt, ↓oIcGe, ↓oIcGt, ↓oIcLe, ↓oIfnull, ↓oIfnonnull, ↓oSwitch, ↓oGetf, ↓oPutf, ↓oNew, ↓oNewa, ↓oAlen, ↓oIald, ↓oLald, ↓oZald, ↓oAald, ↓oIast, ↓oLast, ↓oZast, ↓oAast, ↓oCast, ↓oObji, ↓oRetI, ↓oRetZ, ↓oRetL, ↓oRetA, ↓oRetV, ↓oInvS, ↓oInvV, ↓oInvI, ↓oFail, ↓oAcEq, ↓oGetE, ↓oAlenE, ↓oAastO, ↓oCopyL, ↓popI_I, ↓popL_L, ↓popR_R, ↓popS_I, ↓popS_R, ↓popN_0, ↓popN_s, ↓popT_0, ↓popT_1, ↓popT_2, ↓popT_3, ↓gI_0, ↓gI_s, ↓gL_0, ↓gL_s, ↓gR_0, ↓gR_s, ↓blk_s, ↓blk_0, goE_0, goE_1, goE_2, bst_0, bst_1, bst_2, TTf_e, st1_0, st1_1, st1_s, st2_0, st2_1, st2_s, jk_I, jk_R, jk_L, jk_J, mkT_0, mkT_1, mkT_2, mkT_3, sw_n, sw_c, nJ_n, nJ_I, nJ_L, nJ_R, stW_n, stW_I, stW_R, stW_L, true_and, and_true, Nat.reduceAdd, Nat.reduceLeDiff, Int.reduceAdd, up_at, Int.reduceEq, Int.reduceLE, Int.reduceLT, false_and, and_false, and_self, if_false, if_true, Int.reduceNeg, List.cons_append, List.nil_append, not_true_eq_false, not_false_eq_true, false_implies, true_implies, implies_true, true_or, or_true, false_or, or_false, aX12_closes_0, aX12_closes_1, aX12_closes_4, aX12_closes_7, aX12_closes_8, aX12_closes_11, aX12_closes_12, aX12_closes_15, aX12_closes_16, aX12_closes_17, aX12_closes_18, aX12_closes_20, aX12_closes_23, aX12_closes_24, aX12_closes_25, aX12_closes_28, aX12_closes_29, aX12_closes_30, aX12_closes_33, aX12_closes_34, aX12_closes_35, aX12_closes_38, aX12_closes_39, aX12_closes_40, aX12_closes_43, aX12_closes_44, aX12_closes_45, aX12_closes_46, aX12_closes_49, aX12_closes_52, MK_o hK, e1, w1, e2, e3, MK_ops hK, MR_ops hS]
      repeat' (first | refine And.intro ?_ ?_ | refine imp_i (fun _ => ?_))
      all_goals (try simp (disch := omega) only [w32_i, w64_i] at *)
      all_goals first | omega | skip
      refine GG.of0 (m_emits (d := d) (n := acc.length) hK h1 hr (by omega) hc1.2.2.2.2.1 (fun S2 h2 e => ?_))
      refine TT.go zX12_closes 200 ?_
      simp only [↓oPush, ↓oIload, ↓oLload, ↓oRload, ↓oIstore, ↓oLstore, ↓oRstore, ↓oIinc, ↓oIadd, ↓oIsub, ↓oImul, ↓oIand, ↓oIor, ↓oIshl, ↓oIshr, ↓oIushr, ↓oIdiv, ↓oIrem, ↓oIneg, ↓oLadd, ↓oLmul, ↓oLand, ↓oLor, ↓oLxor, ↓oLshl, ↓oLshr, ↓oLushr, ↓oLcmp, ↓oI2l, ↓oL2i, ↓oI2b, ↓oI2s, ↓oDup, ↓oPop, ↓oDupx1, ↓oDupx2, ↓oDup2, ↓oGoto, ↓oIfEq, ↓oIfNe, ↓oIfLt, ↓oIfGe, ↓oIfGt, ↓oIfLe, ↓oIcEq, ↓oIcNe, ↓oIcLt, ↓oIcGe, ↓oIcGt, ↓oIcLe, ↓oIfnull, ↓oIfnonnull, ↓oSwitch, ↓oGetf, ↓oPutf, ↓oNew, ↓oNewa, ↓oAlen, ↓oIald, ↓oLald, ↓oZald, ↓oAald, ↓oIast, ↓oLast, ↓oZast, ↓oAast, ↓oCast, ↓oObji, ↓oRetI, ↓oRetZ, ↓oRetL, ↓oRetA, ↓oRetV, ↓oInvS, ↓oInvV, ↓oInvI, ↓oFail, ↓oAcEq, ↓oGetE, ↓oAlenE, ↓oAastO, ↓oCopyL, ↓popI_I, ↓popL_L, ↓popR_R, ↓popS_I, ↓popS_R, ↓popN_0, ↓popN_s, ↓popT_0, ↓popT_1, ↓popT_2, ↓popT_3, ↓gI_0, ↓gI_s, ↓gL_0, ↓gL_s, ↓gR_0, ↓gR_s, ↓blk_s, ↓blk_0, goE_0, goE_1, goE_2, bst_0, bst_1, bst_2, TTf_e, st1_0, st1_1, st1_s, st2_0, st2_1, st2_s, jk_I, jk_R, jk_L, jk_J, mkT_0, mkT_1, mkT_2, mkT_3, sw_n, sw_c, nJ_n, nJ_I, nJ_L, nJ_R, stW_n, stW_I, stW_R, stW_L, true_and, and_true, Nat.reduceAdd, Nat.reduceLeDiff, Int.reduceAdd, up_at, Int.reduceEq, Int.reduceLE, Int.reduceLT, false_and, and_false, and_self, if_false, if_true, Int.reduceNeg, List.cons_append, List.nil_append, not_true_eq_false, not_false_eq_true, false_implies, true_implies, implies_true, true_or, or_true, false_or, or_false, aX12_closes_0, aX12_closes_1, aX12_closes_4, aX12_closes_7, aX12_closes_8, aX12_closes_11, aX12_closes_12, aX12_closes_15, aX12_closes_16, aX12_closes_17, aX12_closes_18, aX12_closes_20, aX12_closes_23, aX12_closes_24, aX12_closes_25, aX12_closes_28, aX12_closes_29, aX12_closes_30, aX12_closes_33, aX12_closes_34, aX12_closes_35, aX12_closes_38, aX12_closes_39, aX12_closes_40, aX12_closes_43, aX12_closes_44, aX12_closes_45, aX12_closes_46, aX12_closes_49, aX12_closes_52, MK_o hK]
      have hc2 := CS_emit (u := .inl ()) (c := -1) hc1 rfl
      rw [← e] at hc2
      refine ih (dep - 1) (acc ++ [tNo]) _ S2 (by simp; omega) (by omega) (by omega) h2 hc2 (fun μ' S' k1 k2 k3 => hq μ' S' k1 (SameR.trans (SameR.rfl'.c (by omega)) k2) ?_)
      rw [clR, clK, if_pos hx, if_pos hx]
      rw [List.append_assoc] at k3
      rw [show dep - ((clK xs + 1 : Nat) : Int) = dep - 1 - (clK xs : Int) by push_cast; omega, List.replicate_succ]
      exact k3
    · have hq := hq μ S hS SameR.rfl'
      rw [clR, clK, if_neg hx, if_neg hx] at hq
      refine TT.go zX12_closes 200 ?_
      simp only [↓oPush, ↓oIload, ↓oLload, ↓oRload, ↓oIstore, ↓oLstore, ↓oRstore, ↓oIinc, ↓oIadd, ↓oIsub, ↓oImul, ↓oIand, ↓oIor, ↓oIshl, ↓oIshr, ↓oIushr, ↓oIdiv, ↓oIrem, ↓oIneg, ↓oLadd, ↓oLmul, ↓oLand, ↓oLor, ↓oLxor, ↓oLshl, ↓oLshr, ↓oLushr, ↓oLcmp, ↓oI2l, ↓oL2i, ↓oI2b, ↓oI2s, ↓oDup, ↓oPop, ↓oDupx1, ↓oDupx2, ↓oDup2, ↓oGoto, ↓oIfEq, ↓oIfNe, ↓oIfLt, ↓oIfGe, ↓oIfGt, ↓oIfLe, ↓oIcEq, ↓oIcNe, ↓oIcLt, ↓oIcGe, ↓oIcGt, ↓oIcLe, ↓oIfnull, ↓oIfnonnull, ↓oSwitch, ↓oGetf, ↓oPutf, ↓oNew, ↓oNewa, ↓oAlen, ↓oIald, ↓oLald, ↓oZald, ↓oAald, ↓oIast, ↓oLast, ↓oZast, ↓oAast, ↓oCast, ↓oObji, ↓oRetI, ↓oRetZ, ↓oRetL, ↓oRetA, ↓oRetV, ↓oInvS, ↓oInvV, ↓oInvI, ↓oFail, ↓oAcEq, ↓oGetE, ↓oAlenE, ↓oAastO, ↓oCopyL, ↓popI_I, ↓popL_L, ↓popR_R, ↓popS_I, ↓popS_R, ↓popN_0, ↓popN_s, ↓popT_0, ↓popT_1, ↓popT_2, ↓popT_3, ↓gI_0, ↓gI_s, ↓gL_0, ↓gL_s, ↓gR_0, ↓gR_s, ↓blk_s, ↓blk_0, goE_0, goE_1, goE_2, bst_0, bst_1, bst_2, TTf_e, st1_0, st1_1, st1_s, st2_0, st2_1, st2_s, jk_I, jk_R, jk_L, jk_J, mkT_0, mkT_1, mkT_2, mkT_3, sw_n, sw_c, nJ_n, nJ_I, nJ_L, nJ_R, stW_n, stW_I, stW_R, stW_L, true_and, and_true, Nat.reduceAdd, Nat.reduceLeDiff, Int.reduceAdd, up_at, Int.reduceEq, Int.reduceLE, Int.reduceLT, false_and, and_false, and_self, if_false, if_true, Int.reduceNeg, List.cons_append, List.nil_append, not_true_eq_false, not_false_eq_true, false_implies, true_implies, implies_true, true_or, or_true, false_or, or_false, aX12_closes_0, aX12_closes_1, aX12_closes_4, aX12_closes_7, aX12_closes_8, aX12_closes_11, aX12_closes_12, aX12_closes_15, aX12_closes_16, aX12_closes_17, aX12_closes_18, aX12_closes_20, aX12_closes_23, aX12_closes_24, aX12_closes_25, aX12_closes_28, aX12_closes_29, aX12_closes_30, aX12_closes_33, aX12_closes_34, aX12_closes_35, aX12_closes_38, aX12_closes_39, aX12_closes_40, aX12_closes_43, aX12_closes_44, aX12_closes_45, aX12_closes_46, aX12_closes_49, aX12_closes_52, MK_o hK, e1, w1, e2, MK_ops hK, MR_ops hS]
      repeat' (first | refine And.intro ?_ ?_ | refine imp_i (fun _ => ?_))
      all_goals first | omega | exact hq (by simpa using hc)
