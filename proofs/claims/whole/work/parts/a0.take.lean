/-! THE CLASS'S READER OF RULES: take, write -/
def KRd (K : KT) : Prop := K 48 = (9, 7) ∧ K 49 = (100, 60) ∧ K 50 = (100, 60) ∧ (K 8).1 = 91
/-- the reader stands at place i of a row t of n, and has told acc -/
def RD (Sb : ST) (t : Int → Int) (n : Int) (S : ST) (i : Int) (acc : List Int) : Prop := (0 ≤ i ∧ i ≤ n ∧ n ≤ 60) ∧ S 48 0 = 49 ∧ S 48 1 = n ∧ S 48 2 = i ∧ S 48 3 = ltF t n i ∧ S 48 4 = 50 ∧ (∃ z : Int, z = acc.length ∧ S 48 5 = z) ∧ (∀ a, a ≠ 48 → a ≠ 50 → S a = Sb a) ∧ (∀ j, 0 ≤ j → j < n → S 49 j = t j) ∧ ∀ j : Int, 0 ≤ j → j < acc.length → S 50 j = acc.getD j.toNat 0
theorem RD_mv {Sb : ST} {t : Int → Int} {n : Int} {S : ST} {i : Int} {acc : List Int} (h : RD Sb t n S i acc) (hi : i < n) : RD Sb t n (up (up S 48 2 (i + 1)) 48 3 (ltF t n (i + 1))) (i + 1) acc := by
  obtain ⟨⟨b0, b1, b2⟩, r0, r1, r2, r3, r4, ⟨z, hz, r5⟩, r6, r7, r8⟩ := h
  refine ⟨⟨by omega, by omega, b2⟩, ?_, ?_, ?_, ?_, ?_, ⟨z, hz, ?_⟩, fun a a0 a1 => ?_, fun j j0 j1 => ?_, fun j j0 j1 => ?_⟩
  · rw [up_ni (by decide), up_ni (by decide)]; exact r0
  · rw [up_ni (by decide), up_ni (by decide)]; exact r1
  · rw [up_ni (by decide), up_s]
  · rw [up_s]
  · rw [up_ni (by decide), up_ni (by decide)]; exact r4
  · rw [up_ni (by decide), up_ni (by decide)]; exact r5
  · rw [up_na a0, up_na a0]; exact r6 a a0 a1
  · rw [up_na (by decide), up_na (by decide)]; exact r7 j j0 j1
  · rw [up_na (by decide), up_na (by decide)]; exact r8 j j0 j1
theorem RD_sd {Sb : ST} {t : Int → Int} {n : Int} {S : ST} {i v : Int} {acc : List Int} (h : RD Sb t n S i acc) : RD Sb t n (up S 48 6 v) i acc := by
  obtain ⟨b, r0, r1, r2, r3, r4, ⟨z, hz, r5⟩, r6, r7, r8⟩ := h
  refine ⟨b, ?_, ?_, ?_, ?_, ?_, ⟨z, hz, ?_⟩, fun a a0 a1 => ?_, fun j j0 j1 => ?_, fun j j0 j1 => ?_⟩
  · rw [up_ni (by decide)]; exact r0
  · rw [up_ni (by decide)]; exact r1
  · rw [up_ni (by decide)]; exact r2
  · rw [up_ni (by decide)]; exact r3
  · rw [up_ni (by decide)]; exact r4
  · rw [up_ni (by decide)]; exact r5
  · rw [up_na a0]; exact r6 a a0 a1
  · rw [up_na (by decide)]; exact r7 j j0 j1
  · rw [up_na (by decide)]; exact r8 j j0 j1
theorem RD_wr {Sb : ST} {t : Int → Int} {n : Int} {S : ST} {i v z : Int} {acc : List Int} (h : RD Sb t n S i acc) (hz : z = acc.length) : RD Sb t n (up (up S 50 z v) 48 5 (z + 1)) i (acc ++ [v]) := by
  obtain ⟨b, r0, r1, r2, r3, r4, ⟨z', hz', r5⟩, r6, r7, r8⟩ := h
  have hl : ((acc ++ [v]).length : Int) = z + 1 := by rw [List.length_append]; simp; omega
  refine ⟨b, ?_, ?_, ?_, ?_, ?_, ⟨z + 1, hl.symm, ?_⟩, fun a a0 a1 => ?_, fun j j0 j1 => ?_, fun j j0 j1 => ?_⟩
  · rw [up_ni (by decide), up_na (by decide)]; exact r0
  · rw [up_ni (by decide), up_na (by decide)]; exact r1
  · rw [up_ni (by decide), up_na (by decide)]; exact r2
  · rw [up_ni (by decide), up_na (by decide)]; exact r3
  · rw [up_ni (by decide), up_na (by decide)]; exact r4
  · rw [up_s]
  · rw [up_na a0, up_na a1]; exact r6 a a0 a1
  · rw [up_na (by decide), up_na (by decide)]; exact r7 j j0 j1
  · rw [hl] at j1
    have e := rowL_snoc (l := acc) (x := v) j0 (by omega)
    unfold rowL at e
    rw [e, up_na (by decide)]
    by_cases q : j = z
    · rw [if_pos (by omega), q, up_s]
    · rw [if_neg (by omega), up_ni q]
      exact r8 j j0 (by omega)
set_option maxRecDepth 20000 in
theorem m_take {d : Nat} {w n i : Int} {t : Int → Int} {acc : List Int} {Sb : ST} {K : KT} {S : ST} {Q : QF} (hk : KRd K) (h : RD Sb t n S i acc) (h0 : isC t n i w = false → Q [vI 0] K S) (h1 : isC t n i w = true → ∀ S', RD Sb t n S' (i + 1) acc → S' 48 6 = S 48 6 → Q [vI 1] K S') : Mt (d + 1) 0 0 mX7_take [vR 48, vI w] K S Q := by
  obtain ⟨⟨b0, b1, b2⟩, r0, r1, r2, r3, r4, r5, r6, r7, r8⟩ := id h
  obtain ⟨k1, k2, k3, k4⟩ := hk
  refine Mt_of_TT (by decide +kernel) (Nat.le_of_ble_eq_true rfl) ?_
  show TT mX7_take _ 0 [vR 48, vI w] [] _ _ _ _ _
  by_cases hl : ltF t n i = w
  · have r3' : S 48 3 = w := r3.trans hl
    by_cases hi : i < n
    · have hc : isC t n i w = true := decide_eq_true ⟨hi, by rw [← hl]; exact (if_pos hi).symm⟩
      have e1 : w32 (i + 1) = i + 1 := w32_id (by unfold in32; omega)
      have g := RD_mv h hi
      by_cases c2 : n ≤ i + 1
      · have ev : ltF t n (i + 1) = -1 := if_neg (by omega)
        rw [ev] at g
        refine TT.go zX7_take 200 ?_
        simp only [↓oPush, ↓oIload, ↓oLload, ↓oRload, ↓oIstore, ↓oLstore, ↓oRstore, ↓oIinc, ↓oIadd, ↓oIsub, ↓oImul, ↓oIand, ↓oIor, ↓oIshl, ↓oIshr, ↓oIushr, ↓oIdiv, ↓oIrem, ↓oIneg, ↓oLadd, ↓oLmul, ↓oLand, ↓oLor, ↓oLxor, ↓oLshl, ↓oLshr, ↓oLushr, ↓oLcmp, ↓oI2l, ↓oL2i, ↓oI2b, ↓oI2s, ↓oDup, ↓oPop, ↓oDupx1, ↓oDupx2, ↓oDup2, ↓oGoto, ↓oIfEq, ↓oIfNe, ↓oIfLt, ↓oIfGe, ↓oIfGt, ↓oIfLe, ↓oIcEq, ↓oIcNe, ↓oIcLt, ↓oIcGe, ↓oIcGt, ↓oIcLe, ↓oIfnull, ↓oIfnonnull, ↓oSwitch, ↓oGetf, ↓oPutf, ↓oNew, ↓oNewa, ↓oAlen, ↓oIald, ↓oLald, ↓oZald, ↓oAald, ↓oIast, ↓oLast, ↓oZast, ↓oAast, ↓oCast, ↓oObji, ↓oRetI, ↓oRetZ, ↓oRetL, ↓oRetA, ↓oRetV, ↓oInvS, ↓oInvV, ↓oInvI, ↓oFail, ↓oAcEq, ↓oGetE, ↓oAlenE, ↓oAastO, ↓oCopyL, ↓oCopyK, ↓oInvS8, ↓oLdcS, ↓oMmax, ↓oMmin, ↓oMabs, ↓oAlenE, ↓popI_I, ↓popL_L, ↓popR_R, ↓popS_I, ↓popS_R, ↓popN_0, ↓popN_s, ↓popT_0, ↓popT_1, ↓popT_2, ↓popT_3, ↓gI_0, ↓gI_s, ↓gL_0, ↓gL_s, ↓gR_0, ↓gR_s, ↓blk_s, ↓blk_0, goE_0, goE_1, goE_2, bst_0, bst_1, bst_2, TTf_e, st1_0, st1_1, st1_s, st2_0, st2_1, st2_s, jk_I, jk_R, jk_L, jk_J, mkT_0, mkT_1, mkT_2, mkT_3, sw_n, sw_c, nJ_n, nJ_I, nJ_L, nJ_R, stW_n, stW_I, stW_R, stW_L, true_and, and_true, Nat.reduceAdd, Nat.reduceLeDiff, Int.reduceAdd, up_at, Int.reduceEq, Int.reduceLE, Int.reduceLT, false_and, and_false, and_self, if_false, if_true, Int.reduceNeg, List.cons_append, List.nil_append, not_true_eq_false, not_false_eq_true, false_implies, true_implies, implies_true, true_or, or_true, false_or, or_false, aX7_take_0, aX7_take_1, aX7_take_4, aX7_take_5, aX7_take_8, aX7_take_9, aX7_take_12, aX7_take_13, aX7_take_16, aX7_take_19, aX7_take_20, aX7_take_21, aX7_take_22, aX7_take_23, aX7_take_26, aX7_take_27, aX7_take_28, aX7_take_31, aX7_take_32, aX7_take_33, aX7_take_36, aX7_take_37, aX7_take_40, aX7_take_43, aX7_take_44, aX7_take_47, aX7_take_48, aX7_take_51, aX7_take_52, aX7_take_55, aX7_take_56, aX7_take_59, aX7_take_60, k1, r0, r1, r2, r3', hi, e1, c2]
        exact h1 hc _ g (by rw [up_ni (by decide), up_ni (by decide)])
      · have ev : ltF t n (i + 1) = t (i + 1) := if_pos (by omega)
        have et : S 49 (i + 1) = t (i + 1) := r7 _ (by omega) (by omega)
        rw [ev] at g
        refine TT.go zX7_take 200 ?_
        simp only [↓oPush, ↓oIload, ↓oLload, ↓oRload, ↓oIstore, ↓oLstore, ↓oRstore, ↓oIinc, ↓oIadd, ↓oIsub, ↓oImul, ↓oIand, ↓oIor, ↓oIshl, ↓oIshr, ↓oIushr, ↓oIdiv, ↓oIrem, ↓oIneg, ↓oLadd, ↓oLmul, ↓oLand, ↓oLor, ↓oLxor, ↓oLshl, ↓oLshr, ↓oLushr, ↓oLcmp, ↓oI2l, ↓oL2i, ↓oI2b, ↓oI2s, ↓oDup, ↓oPop, ↓oDupx1, ↓oDupx2, ↓oDup2, ↓oGoto, ↓oIfEq, ↓oIfNe, ↓oIfLt, ↓oIfGe, ↓oIfGt, ↓oIfLe, ↓oIcEq, ↓oIcNe, ↓oIcLt, ↓oIcGe, ↓oIcGt, ↓oIcLe, ↓oIfnull, ↓oIfnonnull, ↓oSwitch, ↓oGetf, ↓oPutf, ↓oNew, ↓oNewa, ↓oAlen, ↓oIald, ↓oLald, ↓oZald, ↓oAald, ↓oIast, ↓oLast, ↓oZast, ↓oAast, ↓oCast, ↓oObji, ↓oRetI, ↓oRetZ, ↓oRetL, ↓oRetA, ↓oRetV, ↓oInvS, ↓oInvV, ↓oInvI, ↓oFail, ↓oAcEq, ↓oGetE, ↓oAlenE, ↓oAastO, ↓oCopyL, ↓oCopyK, ↓oInvS8, ↓oLdcS, ↓oMmax, ↓oMmin, ↓oMabs, ↓oAlenE, ↓popI_I, ↓popL_L, ↓popR_R, ↓popS_I, ↓popS_R, ↓popN_0, ↓popN_s, ↓popT_0, ↓popT_1, ↓popT_2, ↓popT_3, ↓gI_0, ↓gI_s, ↓gL_0, ↓gL_s, ↓gR_0, ↓gR_s, ↓blk_s, ↓blk_0, goE_0, goE_1, goE_2, bst_0, bst_1, bst_2, TTf_e, st1_0, st1_1, st1_s, st2_0, st2_1, st2_s, jk_I, jk_R, jk_L, jk_J, mkT_0, mkT_1, mkT_2, mkT_3, sw_n, sw_c, nJ_n, nJ_I, nJ_L, nJ_R, stW_n, stW_I, stW_R, stW_L, true_and, and_true, Nat.reduceAdd, Nat.reduceLeDiff, Int.reduceAdd, up_at, Int.reduceEq, Int.reduceLE, Int.reduceLT, false_and, and_false, and_self, if_false, if_true, Int.reduceNeg, List.cons_append, List.nil_append, not_true_eq_false, not_false_eq_true, false_implies, true_implies, implies_true, true_or, or_true, false_or, or_false, aX7_take_0, aX7_take_1, aX7_take_4, aX7_take_5, aX7_take_8, aX7_take_9, aX7_take_12, aX7_take_13, aX7_take_16, aX7_take_19, aX7_take_20, aX7_take_21, aX7_take_22, aX7_take_23, aX7_take_26, aX7_take_27, aX7_take_28, aX7_take_31, aX7_take_32, aX7_take_33, aX7_take_36, aX7_take_37, aX7_take_40, aX7_take_43, aX7_take_44, aX7_take_47, aX7_take_48, aX7_take_51, aX7_take_52, aX7_take_55, aX7_take_56, aX7_take_59, aX7_take_60, k1, k2, r0, r1, r2, r3', hi, e1, c2, et]
        refine ⟨by omega, by omega, ?_⟩
        exact h1 hc _ g (by rw [up_ni (by decide), up_ni (by decide)])
    · have hc : isC t n i w = false := decide_eq_false (fun z => hi z.1)
      refine TT.go zX7_take 200 ?_
      simp only [↓oPush, ↓oIload, ↓oLload, ↓oRload, ↓oIstore, ↓oLstore, ↓oRstore, ↓oIinc, ↓oIadd, ↓oIsub, ↓oImul, ↓oIand, ↓oIor, ↓oIshl, ↓oIshr, ↓oIushr, ↓oIdiv, ↓oIrem, ↓oIneg, ↓oLadd, ↓oLmul, ↓oLand, ↓oLor, ↓oLxor, ↓oLshl, ↓oLshr, ↓oLushr, ↓oLcmp, ↓oI2l, ↓oL2i, ↓oI2b, ↓oI2s, ↓oDup, ↓oPop, ↓oDupx1, ↓oDupx2, ↓oDup2, ↓oGoto, ↓oIfEq, ↓oIfNe, ↓oIfLt, ↓oIfGe, ↓oIfGt, ↓oIfLe, ↓oIcEq, ↓oIcNe, ↓oIcLt, ↓oIcGe, ↓oIcGt, ↓oIcLe, ↓oIfnull, ↓oIfnonnull, ↓oSwitch, ↓oGetf, ↓oPutf, ↓oNew, ↓oNewa, ↓oAlen, ↓oIald, ↓oLald, ↓oZald, ↓oAald, ↓oIast, ↓oLast, ↓oZast, ↓oAast, ↓oCast, ↓oObji, ↓oRetI, ↓oRetZ, ↓oRetL, ↓oRetA, ↓oRetV, ↓oInvS, ↓oInvV, ↓oInvI, ↓oFail, ↓oAcEq, ↓oGetE, ↓oAlenE, ↓oAastO, ↓oCopyL, ↓oCopyK, ↓oInvS8, ↓oLdcS, ↓oMmax, ↓oMmin, ↓oMabs, ↓oAlenE, ↓popI_I, ↓popL_L, ↓popR_R, ↓popS_I, ↓popS_R, ↓popN_0, ↓popN_s, ↓popT_0, ↓popT_1, ↓popT_2, ↓popT_3, ↓gI_0, ↓gI_s, ↓gL_0, ↓gL_s, ↓gR_0, ↓gR_s, ↓blk_s, ↓blk_0, goE_0, goE_1, goE_2, bst_0, bst_1, bst_2, TTf_e, st1_0, st1_1, st1_s, st2_0, st2_1, st2_s, jk_I, jk_R, jk_L, jk_J, mkT_0, mkT_1, mkT_2, mkT_3, sw_n, sw_c, nJ_n, nJ_I, nJ_L, nJ_R, stW_n, stW_I, stW_R, stW_L, true_and, and_true, Nat.reduceAdd, Nat.reduceLeDiff, Int.reduceAdd, up_at, Int.reduceEq, Int.reduceLE, Int.reduceLT, false_and, and_false, and_self, if_false, if_true, Int.reduceNeg, List.cons_append, List.nil_append, not_true_eq_false, not_false_eq_true, false_implies, true_implies, implies_true, true_or, or_true, false_or, or_false, aX7_take_0, aX7_take_1, aX7_take_4, aX7_take_5, aX7_take_8, aX7_take_9, aX7_take_12, aX7_take_13, aX7_take_16, aX7_take_19, aX7_take_20, aX7_take_21, aX7_take_22, aX7_take_23, aX7_take_26, aX7_take_27, aX7_take_28, aX7_take_31, aX7_take_32, aX7_take_33, aX7_take_36, aX7_take_37, aX7_take_40, aX7_take_43, aX7_take_44, aX7_take_47, aX7_take_48, aX7_take_51, aX7_take_52, aX7_take_55, aX7_take_56, aX7_take_59, aX7_take_60, k1, r0, r1, r2, r3', hi]
      exact h0 hc
  · have hc : isC t n i w = false := decide_eq_false (fun z => hl ((if_pos z.1).trans z.2))
    refine TT.go zX7_take 200 ?_
    simp only [↓oPush, ↓oIload, ↓oLload, ↓oRload, ↓oIstore, ↓oLstore, ↓oRstore, ↓oIinc, ↓oIadd, ↓oIsub, ↓oImul, ↓oIand, ↓oIor, ↓oIshl, ↓oIshr, ↓oIushr, ↓oIdiv, ↓oIrem, ↓oIneg, ↓oLadd, ↓oLmul, ↓oLand, ↓oLor, ↓oLxor, ↓oLshl, ↓oLshr, ↓oLushr, ↓oLcmp, ↓oI2l, ↓oL2i, ↓oI2b, ↓oI2s, ↓oDup, ↓oPop, ↓oDupx1, ↓oDupx2, ↓oDup2, ↓oGoto, ↓oIfEq, ↓oIfNe, ↓oIfLt, ↓oIfGe, ↓oIfGt, ↓oIfLe, ↓oIcEq, ↓oIcNe, ↓oIcLt, ↓oIcGe, ↓oIcGt, ↓oIcLe, ↓oIfnull, ↓oIfnonnull, ↓oSwitch, ↓oGetf, ↓oPutf, ↓oNew, ↓oNewa, ↓oAlen, ↓oIald, ↓oLald, ↓oZald, ↓oAald, ↓oIast, ↓oLast, ↓oZast, ↓oAast, ↓oCast, ↓oObji, ↓oRetI, ↓oRetZ, ↓oRetL, ↓oRetA, ↓oRetV, ↓oInvS, ↓oInvV, ↓oInvI, ↓oFail, ↓oAcEq, ↓oGetE, ↓oAlenE, ↓oAastO, ↓oCopyL, ↓oCopyK, ↓oInvS8, ↓oLdcS, ↓oMmax, ↓oMmin, ↓oMabs, ↓oAlenE, ↓popI_I, ↓popL_L, ↓popR_R, ↓popS_I, ↓popS_R, ↓popN_0, ↓popN_s, ↓popT_0, ↓popT_1, ↓popT_2, ↓popT_3, ↓gI_0, ↓gI_s, ↓gL_0, ↓gL_s, ↓gR_0, ↓gR_s, ↓blk_s, ↓blk_0, goE_0, goE_1, goE_2, bst_0, bst_1, bst_2, TTf_e, st1_0, st1_1, st1_s, st2_0, st2_1, st2_s, jk_I, jk_R, jk_L, jk_J, mkT_0, mkT_1, mkT_2, mkT_3, sw_n, sw_c, nJ_n, nJ_I, nJ_L, nJ_R, stW_n, stW_I, stW_R, stW_L, true_and, and_true, Nat.reduceAdd, Nat.reduceLeDiff, Int.reduceAdd, up_at, Int.reduceEq, Int.reduceLE, Int.reduceLT, false_and, and_false, and_self, if_false, if_true, Int.reduceNeg, List.cons_append, List.nil_append, not_true_eq_false, not_false_eq_true, false_implies, true_implies, implies_true, true_or, or_true, false_or, or_false, aX7_take_0, aX7_take_1, aX7_take_4, aX7_take_5, aX7_take_8, aX7_take_9, aX7_take_12, aX7_take_13, aX7_take_16, aX7_take_19, aX7_take_20, aX7_take_21, aX7_take_22, aX7_take_23, aX7_take_26, aX7_take_27, aX7_take_28, aX7_take_31, aX7_take_32, aX7_take_33, aX7_take_36, aX7_take_37, aX7_take_40, aX7_take_43, aX7_take_44, aX7_take_47, aX7_take_48, aX7_take_51, aX7_take_52, aX7_take_55, aX7_take_56, aX7_take_59, aX7_take_60, k1, r3, hl]
    exact h0 hc
set_option maxRecDepth 20000 in
theorem m_write {d : Nat} {v n i : Int} {t : Int → Int} {acc : List Int} {Sb : ST} {K : KT} {S : ST} {Q : QF} (hk : KRd K) (h : RD Sb t n S i acc) (hl : acc.length < 60) (hq : ∀ S', RD Sb t n S' i (acc ++ [v]) → S' 48 6 = S 48 6 → Q [] K S') : Mt (d + 1) 0 0 mX7_write [vR 48, vI v] K S Q := by
  obtain ⟨⟨b0, b1, b2⟩, r0, r1, r2, r3, r4, ⟨z, hz, r5⟩, r6, r7, r8⟩ := id h
  obtain ⟨k1, k2, k3, k4⟩ := hk
  have hn : ¬ 60 ≤ z := by omega
  have hz0 : 0 ≤ z := by omega
  have e1 : w32 (z + 1) = z + 1 := w32_id (by unfold in32; omega)
  have g := RD_wr (v := v) h hz
  clear hz
  refine Mt_of_TT (by decide +kernel) (Nat.le_of_ble_eq_true rfl) ?_
  show TT mX7_write _ 0 [vR 48, vI v] [] _ _ _ _ _
  refine TT.go zX7_write 200 ?_
  simp only [↓oPush, ↓oIload, ↓oLload, ↓oRload, ↓oIstore, ↓oLstore, ↓oRstore, ↓oIinc, ↓oIadd, ↓oIsub, ↓oImul, ↓oIand, ↓oIor, ↓oIshl, ↓oIshr, ↓oIushr, ↓oIdiv, ↓oIrem, ↓oIneg, ↓oLadd, ↓oLmul, ↓oLand, ↓oLor, ↓oLxor, ↓oLshl, ↓oLshr, ↓oLushr, ↓oLcmp, ↓oI2l, ↓oL2i, ↓oI2b, ↓oI2s, ↓oDup, ↓oPop, ↓oDupx1, ↓oDupx2, ↓oDup2, ↓oGoto, ↓oIfEq, ↓oIfNe, ↓oIfLt, ↓oIfGe, ↓oIfGt, ↓oIfLe, ↓oIcEq, ↓oIcNe, ↓oIcLt, ↓oIcGe, ↓oIcGt, ↓oIcLe, ↓oIfnull, ↓oIfnonnull, ↓oSwitch, ↓oGetf, ↓oPutf, ↓oNew, ↓oNewa, ↓oAlen, ↓oIald, ↓oLald, ↓oZald, ↓oAald, ↓oIast, ↓oLast, ↓oZast, ↓oAast, ↓oCast, ↓oObji, ↓oRetI, ↓oRetZ, ↓oRetL, ↓oRetA, ↓oRetV, ↓oInvS, ↓oInvV, ↓oInvI, ↓oFail, ↓oAcEq, ↓oGetE, ↓oAlenE, ↓oAastO, ↓oCopyL, ↓oCopyK, ↓oInvS8, ↓oLdcS, ↓oMmax, ↓oMmin, ↓oMabs, ↓oAlenE, ↓popI_I, ↓popL_L, ↓popR_R, ↓popS_I, ↓popS_R, ↓popN_0, ↓popN_s, ↓popT_0, ↓popT_1, ↓popT_2, ↓popT_3, ↓gI_0, ↓gI_s, ↓gL_0, ↓gL_s, ↓gR_0, ↓gR_s, ↓blk_s, ↓blk_0, goE_0, goE_1, goE_2, bst_0, bst_1, bst_2, TTf_e, st1_0, st1_1, st1_s, st2_0, st2_1, st2_s, jk_I, jk_R, jk_L, jk_J, mkT_0, mkT_1, mkT_2, mkT_3, sw_n, sw_c, nJ_n, nJ_I, nJ_L, nJ_R, stW_n, stW_I, stW_R, stW_L, true_and, and_true, Nat.reduceAdd, Nat.reduceLeDiff, Int.reduceAdd, up_at, Int.reduceEq, Int.reduceLE, Int.reduceLT, false_and, and_false, and_self, if_false, if_true, Int.reduceNeg, List.cons_append, List.nil_append, not_true_eq_false, not_false_eq_true, false_implies, true_implies, implies_true, true_or, or_true, false_or, or_false, aX7_write_0, aX7_write_1, aX7_write_4, aX7_write_6, aX7_write_9, aX7_write_10, aX7_write_13, aX7_write_14, aX7_write_17, aX7_write_18, aX7_write_19, aX7_write_20, aX7_write_21, aX7_write_24, aX7_write_25, aX7_write_26, aX7_write_29, k1, k3, r4, r5, hn, e1]
  refine ⟨by omega, by omega, ?_⟩
  exact hq _ g (by rw [up_ni (by decide), up_na (by decide)])
