/-! THE LAW: its cases -/
set_option maxRecDepth 20000 in
theorem lw_c10 {d : Nat} {L i : Int} {T : Int → Int} {μ : ST} {R : RT} {K : KT} {S : ST} {cb nb : Nat} {Q : QF} (h : LI L T μ R K S) (hL : 0 ≤ L ∧ L ≤ 3072) (hT : ∀ j, 0 ≤ j → j < L → in32 (T j)) (hi : 0 ≤ i ∧ i + 6 ≤ L) (hc : 8 ≤ cb) (hn : 200 ≤ nb) (hgo : ∀ μ' R' K' S' cb' nb', cb ≤ cb' + 8 → nb ≤ nb' + 200 → LI L T μ' R' K' S' → TT mL_law (d + 72) 18 [vR 9, vR 1, vR 1000, vI (i + 6)] [] K' S' cb' nb' Q) : TT mL_law (d + 72) 629 [vR 9, vR 1, vR 1000, vI i] [] K S cb nb Q := by
  obtain ⟨hrc, hms, hmk, hI, hO, h9, hs⟩ := id h
  obtain ⟨⟨i0, iS, iA, iP, iF, iK, iU, iR⟩, iC⟩ := id hI
  have e1 : w32 (i + 1) = i + 1 := w32_id (by unfold in32; omega)
  have e2 : w32 (i + 2) = i + 2 := w32_id (by unfold in32; omega)
  have e3 : w32 (i + 3) = i + 3 := w32_id (by unfold in32; omega)
  have e4 : w32 (i + 4) = i + 4 := w32_id (by unfold in32; omega)
  have e5 : w32 (i + 5) = i + 5 := w32_id (by unfold in32; omega)
  have e6 : w32 (i + 6) = i + 6 := w32_id (by unfold in32; omega)
  have p1 : (0 ≤ i + 1) = True := eq_true (by omega)
  have q1 : (i + 1 < L) = True := eq_true (by omega)
  have s1 := hs (i + 1) (by omega) (by omega)
  have p2 : (0 ≤ i + 2) = True := eq_true (by omega)
  have q2 : (i + 2 < L) = True := eq_true (by omega)
  have s2 := hs (i + 2) (by omega) (by omega)
  have p3 : (0 ≤ i + 3) = True := eq_true (by omega)
  have q3 : (i + 3 < L) = True := eq_true (by omega)
  have s3 := hs (i + 3) (by omega) (by omega)
  have p4 : (0 ≤ i + 4) = True := eq_true (by omega)
  have q4 : (i + 4 < L) = True := eq_true (by omega)
  have s4 := hs (i + 4) (by omega) (by omega)
  have p5 : (0 ≤ i + 5) = True := eq_true (by omega)
  have q5 : (i + 5 < L) = True := eq_true (by omega)
  have s5 := hs (i + 5) (by omega) (by omega)
  have k1 := CK_1 hrc.1
  refine TT.go zL_law 200 ?_
  simp only [↓oPush, ↓oIload, ↓oLload, ↓oRload, ↓oIstore, ↓oLstore, ↓oRstore, ↓oIinc, ↓oIadd, ↓oIsub, ↓oImul, ↓oIand, ↓oIor, ↓oIshl, ↓oIshr, ↓oIushr, ↓oIdiv, ↓oIrem, ↓oIneg, ↓oLadd, ↓oLmul, ↓oLand, ↓oLor, ↓oLxor, ↓oLshl, ↓oLshr, ↓oLushr, ↓oLcmp, ↓oI2l, ↓oL2i, ↓oI2b, ↓oI2s, ↓oDup, ↓oPop, ↓oDupx1, ↓oDupx2, ↓oDup2, ↓oGoto, ↓oIfEq, ↓oIfNe, ↓oIfLt, ↓oIfGe, ↓oIfGt, ↓oIfLe, ↓oIcEq, ↓oIcNe, ↓oIcLt, ↓oIcGe, ↓oIcGt, ↓oIcLe, ↓oIfnull, ↓oIfnonnull, ↓oSwitch, ↓oGetf, ↓oPutf, ↓oNew, ↓oNewa, ↓oAlen, ↓oIald, ↓oLald, ↓oZald, ↓oAald, ↓oIast, ↓oLast, ↓oZast, ↓oAast, ↓oCast, ↓oObji, ↓oRetI, ↓oRetZ, ↓oRetL, ↓oRetA, ↓oRetV, ↓oInvS, ↓oInvV, ↓oInvI, ↓oFail, ↓oAcEq, ↓oGetE, ↓oAlenE, ↓oAastO, ↓oCopyL, ↓oCopyK, ↓oInvS8, ↓oLdcS, ↓oMmax, ↓oMmin, ↓oMabs, ↓oAlenE, ↓popI_I, ↓popL_L, ↓popR_R, ↓popS_I, ↓popS_R, ↓popN_0, ↓popN_s, ↓popT_0, ↓popT_1, ↓popT_2, ↓popT_3, ↓gI_0, ↓gI_s, ↓gL_0, ↓gL_s, ↓gR_0, ↓gR_s, ↓blk_s, ↓blk_0, goE_0, goE_1, goE_2, bst_0, bst_1, bst_2, TTf_e, st1_0, st1_1, st1_s, st2_0, st2_1, st2_s, jk_I, jk_R, jk_L, jk_J, mkT_0, mkT_1, mkT_2, mkT_3, sw_n, sw_c, nJ_n, nJ_I, nJ_L, nJ_R, stW_n, stW_I, stW_R, stW_L, true_and, and_true, Nat.reduceAdd, Nat.reduceLeDiff, Int.reduceAdd, up_at, Int.reduceEq, Int.reduceLE, Int.reduceLT, false_and, and_false, and_self, if_false, if_true, Int.reduceNeg, List.cons_append, List.nil_append, not_true_eq_false, not_false_eq_true, false_implies, true_implies, implies_true, true_or, or_true, false_or, or_false, ↓oIaldX, aL_law_629, aL_law_630, aL_law_631, aL_law_632, aL_law_633, aL_law_634, aL_law_635, aL_law_636, aL_law_637, aL_law_638, aL_law_639, aL_law_640, aL_law_643, aL_law_644, aL_law_645, aL_law_646, aL_law_647, aL_law_648, aL_law_649, aL_law_650, aL_law_651, aL_law_652, aL_law_653, aL_law_654, aL_law_657, aL_law_660, aL_law_661, aL_law_1718, aL_law_1721, k1, h9, e1, p1, q1, e2, p2, q2, e3, p3, q3, e4, p4, q4, e5, p5, q5, e6, s1, s2, s3, s4, s5]
  refine GG.of0 (Mt.scr h9 (c_about (d := d + 66) hrc (fun r9 g3 => ?_)))
  have hmk1 := hmk
  have g1 := hrc
  have g2 := Out_rfl S
  have ms1 := MS_out hms g2
  have m1 := MK_o hmk1
  have t1 := (g3 (i + 1) (by omega) (by omega)).trans s1
  have t2 := (g3 (i + 2) (by omega) (by omega)).trans s2
  have t3 := (g3 (i + 3) (by omega) (by omega)).trans s3
  have t4 := (g3 (i + 4) (by omega) (by omega)).trans s4
  have t5 := (g3 (i + 5) (by omega) (by omega)).trans s5
  refine TT.go zL_law 200 ?_
  simp only [↓oPush, ↓oIload, ↓oLload, ↓oRload, ↓oIstore, ↓oLstore, ↓oRstore, ↓oIinc, ↓oIadd, ↓oIsub, ↓oImul, ↓oIand, ↓oIor, ↓oIshl, ↓oIshr, ↓oIushr, ↓oIdiv, ↓oIrem, ↓oIneg, ↓oLadd, ↓oLmul, ↓oLand, ↓oLor, ↓oLxor, ↓oLshl, ↓oLshr, ↓oLushr, ↓oLcmp, ↓oI2l, ↓oL2i, ↓oI2b, ↓oI2s, ↓oDup, ↓oPop, ↓oDupx1, ↓oDupx2, ↓oDup2, ↓oGoto, ↓oIfEq, ↓oIfNe, ↓oIfLt, ↓oIfGe, ↓oIfGt, ↓oIfLe, ↓oIcEq, ↓oIcNe, ↓oIcLt, ↓oIcGe, ↓oIcGt, ↓oIcLe, ↓oIfnull, ↓oIfnonnull, ↓oSwitch, ↓oGetf, ↓oPutf, ↓oNew, ↓oNewa, ↓oAlen, ↓oIald, ↓oLald, ↓oZald, ↓oAald, ↓oIast, ↓oLast, ↓oZast, ↓oAast, ↓oCast, ↓oObji, ↓oRetI, ↓oRetZ, ↓oRetL, ↓oRetA, ↓oRetV, ↓oInvS, ↓oInvV, ↓oInvI, ↓oFail, ↓oAcEq, ↓oGetE, ↓oAlenE, ↓oAastO, ↓oCopyL, ↓oCopyK, ↓oInvS8, ↓oLdcS, ↓oMmax, ↓oMmin, ↓oMabs, ↓oAlenE, ↓popI_I, ↓popL_L, ↓popR_R, ↓popS_I, ↓popS_R, ↓popN_0, ↓popN_s, ↓popT_0, ↓popT_1, ↓popT_2, ↓popT_3, ↓gI_0, ↓gI_s, ↓gL_0, ↓gL_s, ↓gR_0, ↓gR_s, ↓blk_s, ↓blk_0, goE_0, goE_1, goE_2, bst_0, bst_1, bst_2, TTf_e, st1_0, st1_1, st1_s, st2_0, st2_1, st2_s, jk_I, jk_R, jk_L, jk_J, mkT_0, mkT_1, mkT_2, mkT_3, sw_n, sw_c, nJ_n, nJ_I, nJ_L, nJ_R, stW_n, stW_I, stW_R, stW_L, true_and, and_true, Nat.reduceAdd, Nat.reduceLeDiff, Int.reduceAdd, up_at, Int.reduceEq, Int.reduceLE, Int.reduceLT, false_and, and_false, and_self, if_false, if_true, Int.reduceNeg, List.cons_append, List.nil_append, not_true_eq_false, not_false_eq_true, false_implies, true_implies, implies_true, true_or, or_true, false_or, or_false, ↓oIaldX, aL_law_629, aL_law_630, aL_law_631, aL_law_632, aL_law_633, aL_law_634, aL_law_635, aL_law_636, aL_law_637, aL_law_638, aL_law_639, aL_law_640, aL_law_643, aL_law_644, aL_law_645, aL_law_646, aL_law_647, aL_law_648, aL_law_649, aL_law_650, aL_law_651, aL_law_652, aL_law_653, aL_law_654, aL_law_657, aL_law_660, aL_law_661, aL_law_1718, aL_law_1721, m1, r9, e1, p1, q1, e2, p2, q2, e3, p3, q3, e4, p4, q4, e5, p5, q5, e6, s1, s2, s3, s4, s5]
  refine GG.of0 (m_about (d := d + 69) hmk1 ms1 i0 ?_)
  refine TT.go zL_law 200 ?_
  simp only [↓oPush, ↓oIload, ↓oLload, ↓oRload, ↓oIstore, ↓oLstore, ↓oRstore, ↓oIinc, ↓oIadd, ↓oIsub, ↓oImul, ↓oIand, ↓oIor, ↓oIshl, ↓oIshr, ↓oIushr, ↓oIdiv, ↓oIrem, ↓oIneg, ↓oLadd, ↓oLmul, ↓oLand, ↓oLor, ↓oLxor, ↓oLshl, ↓oLshr, ↓oLushr, ↓oLcmp, ↓oI2l, ↓oL2i, ↓oI2b, ↓oI2s, ↓oDup, ↓oPop, ↓oDupx1, ↓oDupx2, ↓oDup2, ↓oGoto, ↓oIfEq, ↓oIfNe, ↓oIfLt, ↓oIfGe, ↓oIfGt, ↓oIfLe, ↓oIcEq, ↓oIcNe, ↓oIcLt, ↓oIcGe, ↓oIcGt, ↓oIcLe, ↓oIfnull, ↓oIfnonnull, ↓oSwitch, ↓oGetf, ↓oPutf, ↓oNew, ↓oNewa, ↓oAlen, ↓oIald, ↓oLald, ↓oZald, ↓oAald, ↓oIast, ↓oLast, ↓oZast, ↓oAast, ↓oCast, ↓oObji, ↓oRetI, ↓oRetZ, ↓oRetL, ↓oRetA, ↓oRetV, ↓oInvS, ↓oInvV, ↓oInvI, ↓oFail, ↓oAcEq, ↓oGetE, ↓oAlenE, ↓oAastO, ↓oCopyL, ↓oCopyK, ↓oInvS8, ↓oLdcS, ↓oMmax, ↓oMmin, ↓oMabs, ↓oAlenE, ↓popI_I, ↓popL_L, ↓popR_R, ↓popS_I, ↓popS_R, ↓popN_0, ↓popN_s, ↓popT_0, ↓popT_1, ↓popT_2, ↓popT_3, ↓gI_0, ↓gI_s, ↓gL_0, ↓gL_s, ↓gR_0, ↓gR_s, ↓blk_s, ↓blk_0, goE_0, goE_1, goE_2, bst_0, bst_1, bst_2, TTf_e, st1_0, st1_1, st1_s, st2_0, st2_1, st2_s, jk_I, jk_R, jk_L, jk_J, mkT_0, mkT_1, mkT_2, mkT_3, sw_n, sw_c, nJ_n, nJ_I, nJ_L, nJ_R, stW_n, stW_I, stW_R, stW_L, true_and, and_true, Nat.reduceAdd, Nat.reduceLeDiff, Int.reduceAdd, up_at, Int.reduceEq, Int.reduceLE, Int.reduceLT, false_and, and_false, and_self, if_false, if_true, Int.reduceNeg, List.cons_append, List.nil_append, not_true_eq_false, not_false_eq_true, false_implies, true_implies, implies_true, true_or, or_true, false_or, or_false, ↓oIaldX, aL_law_629, aL_law_630, aL_law_631, aL_law_632, aL_law_633, aL_law_634, aL_law_635, aL_law_636, aL_law_637, aL_law_638, aL_law_639, aL_law_640, aL_law_643, aL_law_644, aL_law_645, aL_law_646, aL_law_647, aL_law_648, aL_law_649, aL_law_650, aL_law_651, aL_law_652, aL_law_653, aL_law_654, aL_law_657, aL_law_660, aL_law_661, aL_law_1718, aL_law_1721, m1, r9, e1, p1, q1, e2, p2, q2, e3, p3, q3, e4, p4, q4, e5, p5, q5, e6, s1, s2, s3, s4, s5]
  exact hgo _ _ _ _ _ _ (by omega) (by omega) (LI_next h g1 hmk1 r9 g3 ms1 hI hO)
set_option maxRecDepth 20000 in
theorem lw_c11 {d : Nat} {L i : Int} {T : Int → Int} {μ : ST} {R : RT} {K : KT} {S : ST} {cb nb : Nat} {Q : QF} (h : LI L T μ R K S) (hL : 0 ≤ L ∧ L ≤ 3072) (hT : ∀ j, 0 ≤ j → j < L → in32 (T j)) (hi : 0 ≤ i ∧ i + 6 ≤ L) (hc : 8 ≤ cb) (hn : 200 ≤ nb) (hgo : ∀ μ' R' K' S' cb' nb', cb ≤ cb' + 8 → nb ≤ nb' + 200 → LI L T μ' R' K' S' → TT mL_law (d + 72) 18 [vR 9, vR 1, vR 1000, vI (i + 6)] [] K' S' cb' nb' Q) : TT mL_law (d + 72) 662 [vR 9, vR 1, vR 1000, vI i] [] K S cb nb Q := by
  obtain ⟨hrc, hms, hmk, hI, hO, h9, hs⟩ := id h
  obtain ⟨⟨i0, iS, iA, iP, iF, iK, iU, iR⟩, iC⟩ := id hI
  have e1 : w32 (i + 1) = i + 1 := w32_id (by unfold in32; omega)
  have e2 : w32 (i + 2) = i + 2 := w32_id (by unfold in32; omega)
  have e3 : w32 (i + 3) = i + 3 := w32_id (by unfold in32; omega)
  have e4 : w32 (i + 4) = i + 4 := w32_id (by unfold in32; omega)
  have e5 : w32 (i + 5) = i + 5 := w32_id (by unfold in32; omega)
  have e6 : w32 (i + 6) = i + 6 := w32_id (by unfold in32; omega)
  have p1 : (0 ≤ i + 1) = True := eq_true (by omega)
  have q1 : (i + 1 < L) = True := eq_true (by omega)
  have s1 := hs (i + 1) (by omega) (by omega)
  have p2 : (0 ≤ i + 2) = True := eq_true (by omega)
  have q2 : (i + 2 < L) = True := eq_true (by omega)
  have s2 := hs (i + 2) (by omega) (by omega)
  have p3 : (0 ≤ i + 3) = True := eq_true (by omega)
  have q3 : (i + 3 < L) = True := eq_true (by omega)
  have s3 := hs (i + 3) (by omega) (by omega)
  have p4 : (0 ≤ i + 4) = True := eq_true (by omega)
  have q4 : (i + 4 < L) = True := eq_true (by omega)
  have s4 := hs (i + 4) (by omega) (by omega)
  have p5 : (0 ≤ i + 5) = True := eq_true (by omega)
  have q5 : (i + 5 < L) = True := eq_true (by omega)
  have s5 := hs (i + 5) (by omega) (by omega)
  have k1 := CK_1 hrc.1
  refine TT.go zL_law 200 ?_
  simp only [↓oPush, ↓oIload, ↓oLload, ↓oRload, ↓oIstore, ↓oLstore, ↓oRstore, ↓oIinc, ↓oIadd, ↓oIsub, ↓oImul, ↓oIand, ↓oIor, ↓oIshl, ↓oIshr, ↓oIushr, ↓oIdiv, ↓oIrem, ↓oIneg, ↓oLadd, ↓oLmul, ↓oLand, ↓oLor, ↓oLxor, ↓oLshl, ↓oLshr, ↓oLushr, ↓oLcmp, ↓oI2l, ↓oL2i, ↓oI2b, ↓oI2s, ↓oDup, ↓oPop, ↓oDupx1, ↓oDupx2, ↓oDup2, ↓oGoto, ↓oIfEq, ↓oIfNe, ↓oIfLt, ↓oIfGe, ↓oIfGt, ↓oIfLe, ↓oIcEq, ↓oIcNe, ↓oIcLt, ↓oIcGe, ↓oIcGt, ↓oIcLe, ↓oIfnull, ↓oIfnonnull, ↓oSwitch, ↓oGetf, ↓oPutf, ↓oNew, ↓oNewa, ↓oAlen, ↓oIald, ↓oLald, ↓oZald, ↓oAald, ↓oIast, ↓oLast, ↓oZast, ↓oAast, ↓oCast, ↓oObji, ↓oRetI, ↓oRetZ, ↓oRetL, ↓oRetA, ↓oRetV, ↓oInvS, ↓oInvV, ↓oInvI, ↓oFail, ↓oAcEq, ↓oGetE, ↓oAlenE, ↓oAastO, ↓oCopyL, ↓oCopyK, ↓oInvS8, ↓oLdcS, ↓oMmax, ↓oMmin, ↓oMabs, ↓oAlenE, ↓popI_I, ↓popL_L, ↓popR_R, ↓popS_I, ↓popS_R, ↓popN_0, ↓popN_s, ↓popT_0, ↓popT_1, ↓popT_2, ↓popT_3, ↓gI_0, ↓gI_s, ↓gL_0, ↓gL_s, ↓gR_0, ↓gR_s, ↓blk_s, ↓blk_0, goE_0, goE_1, goE_2, bst_0, bst_1, bst_2, TTf_e, st1_0, st1_1, st1_s, st2_0, st2_1, st2_s, jk_I, jk_R, jk_L, jk_J, mkT_0, mkT_1, mkT_2, mkT_3, sw_n, sw_c, nJ_n, nJ_I, nJ_L, nJ_R, stW_n, stW_I, stW_R, stW_L, true_and, and_true, Nat.reduceAdd, Nat.reduceLeDiff, Int.reduceAdd, up_at, Int.reduceEq, Int.reduceLE, Int.reduceLT, false_and, and_false, and_self, if_false, if_true, Int.reduceNeg, List.cons_append, List.nil_append, not_true_eq_false, not_false_eq_true, false_implies, true_implies, implies_true, true_or, or_true, false_or, or_false, ↓oIaldX, aL_law_662, aL_law_663, aL_law_664, aL_law_665, aL_law_666, aL_law_667, aL_law_668, aL_law_669, aL_law_670, aL_law_671, aL_law_672, aL_law_673, aL_law_674, aL_law_675, aL_law_676, aL_law_677, aL_law_678, aL_law_679, aL_law_680, aL_law_681, aL_law_682, aL_law_683, aL_law_686, aL_law_687, aL_law_688, aL_law_689, aL_law_690, aL_law_691, aL_law_692, aL_law_693, aL_law_694, aL_law_695, aL_law_696, aL_law_697, aL_law_698, aL_law_699, aL_law_700, aL_law_701, aL_law_702, aL_law_703, aL_law_704, aL_law_705, aL_law_706, aL_law_707, aL_law_710, aL_law_713, aL_law_714, aL_law_1718, aL_law_1721, k1, h9, e1, p1, q1, e2, p2, q2, e3, p3, q3, e4, p4, q4, e5, p5, q5, e6, s1, s2, s3, s4, s5]
  refine GG.of (mc := 4) (ms := 140) (by omega) (by omega) (Mt.scr h9 (c_phrase (d := d + 62) hrc iS iP i0 (fun K1 S1 g1 g2 gk r9 g3 => ?_)))
  have hmk1 := MK_out hmk gk
  have ms1 := MS_out hms g2
  have m1 := MK_o hmk1
  have t1 := (g3 (i + 1) (by omega) (by omega)).trans s1
  have t2 := (g3 (i + 2) (by omega) (by omega)).trans s2
  have t3 := (g3 (i + 3) (by omega) (by omega)).trans s3
  have t4 := (g3 (i + 4) (by omega) (by omega)).trans s4
  have t5 := (g3 (i + 5) (by omega) (by omega)).trans s5
  refine TT.go zL_law 200 ?_
  simp only [↓oPush, ↓oIload, ↓oLload, ↓oRload, ↓oIstore, ↓oLstore, ↓oRstore, ↓oIinc, ↓oIadd, ↓oIsub, ↓oImul, ↓oIand, ↓oIor, ↓oIshl, ↓oIshr, ↓oIushr, ↓oIdiv, ↓oIrem, ↓oIneg, ↓oLadd, ↓oLmul, ↓oLand, ↓oLor, ↓oLxor, ↓oLshl, ↓oLshr, ↓oLushr, ↓oLcmp, ↓oI2l, ↓oL2i, ↓oI2b, ↓oI2s, ↓oDup, ↓oPop, ↓oDupx1, ↓oDupx2, ↓oDup2, ↓oGoto, ↓oIfEq, ↓oIfNe, ↓oIfLt, ↓oIfGe, ↓oIfGt, ↓oIfLe, ↓oIcEq, ↓oIcNe, ↓oIcLt, ↓oIcGe, ↓oIcGt, ↓oIcLe, ↓oIfnull, ↓oIfnonnull, ↓oSwitch, ↓oGetf, ↓oPutf, ↓oNew, ↓oNewa, ↓oAlen, ↓oIald, ↓oLald, ↓oZald, ↓oAald, ↓oIast, ↓oLast, ↓oZast, ↓oAast, ↓oCast, ↓oObji, ↓oRetI, ↓oRetZ, ↓oRetL, ↓oRetA, ↓oRetV, ↓oInvS, ↓oInvV, ↓oInvI, ↓oFail, ↓oAcEq, ↓oGetE, ↓oAlenE, ↓oAastO, ↓oCopyL, ↓oCopyK, ↓oInvS8, ↓oLdcS, ↓oMmax, ↓oMmin, ↓oMabs, ↓oAlenE, ↓popI_I, ↓popL_L, ↓popR_R, ↓popS_I, ↓popS_R, ↓popN_0, ↓popN_s, ↓popT_0, ↓popT_1, ↓popT_2, ↓popT_3, ↓gI_0, ↓gI_s, ↓gL_0, ↓gL_s, ↓gR_0, ↓gR_s, ↓blk_s, ↓blk_0, goE_0, goE_1, goE_2, bst_0, bst_1, bst_2, TTf_e, st1_0, st1_1, st1_s, st2_0, st2_1, st2_s, jk_I, jk_R, jk_L, jk_J, mkT_0, mkT_1, mkT_2, mkT_3, sw_n, sw_c, nJ_n, nJ_I, nJ_L, nJ_R, stW_n, stW_I, stW_R, stW_L, true_and, and_true, Nat.reduceAdd, Nat.reduceLeDiff, Int.reduceAdd, up_at, Int.reduceEq, Int.reduceLE, Int.reduceLT, false_and, and_false, and_self, if_false, if_true, Int.reduceNeg, List.cons_append, List.nil_append, not_true_eq_false, not_false_eq_true, false_implies, true_implies, implies_true, true_or, or_true, false_or, or_false, ↓oIaldX, aL_law_662, aL_law_663, aL_law_664, aL_law_665, aL_law_666, aL_law_667, aL_law_668, aL_law_669, aL_law_670, aL_law_671, aL_law_672, aL_law_673, aL_law_674, aL_law_675, aL_law_676, aL_law_677, aL_law_678, aL_law_679, aL_law_680, aL_law_681, aL_law_682, aL_law_683, aL_law_686, aL_law_687, aL_law_688, aL_law_689, aL_law_690, aL_law_691, aL_law_692, aL_law_693, aL_law_694, aL_law_695, aL_law_696, aL_law_697, aL_law_698, aL_law_699, aL_law_700, aL_law_701, aL_law_702, aL_law_703, aL_law_704, aL_law_705, aL_law_706, aL_law_707, aL_law_710, aL_law_713, aL_law_714, aL_law_1718, aL_law_1721, m1, r9, e1, p1, q1, e2, p2, q2, e3, p3, q3, e4, p4, q4, e5, p5, q5, e6, t1, t2, t3, t4, t5]
  refine GG.of0 (m_phrase (d := d + 68) hmk1 ms1 i0 iS (fun S2 g4 => ?_))
  refine TT.go zL_law 200 ?_
  simp only [↓oPush, ↓oIload, ↓oLload, ↓oRload, ↓oIstore, ↓oLstore, ↓oRstore, ↓oIinc, ↓oIadd, ↓oIsub, ↓oImul, ↓oIand, ↓oIor, ↓oIshl, ↓oIshr, ↓oIushr, ↓oIdiv, ↓oIrem, ↓oIneg, ↓oLadd, ↓oLmul, ↓oLand, ↓oLor, ↓oLxor, ↓oLshl, ↓oLshr, ↓oLushr, ↓oLcmp, ↓oI2l, ↓oL2i, ↓oI2b, ↓oI2s, ↓oDup, ↓oPop, ↓oDupx1, ↓oDupx2, ↓oDup2, ↓oGoto, ↓oIfEq, ↓oIfNe, ↓oIfLt, ↓oIfGe, ↓oIfGt, ↓oIfLe, ↓oIcEq, ↓oIcNe, ↓oIcLt, ↓oIcGe, ↓oIcGt, ↓oIcLe, ↓oIfnull, ↓oIfnonnull, ↓oSwitch, ↓oGetf, ↓oPutf, ↓oNew, ↓oNewa, ↓oAlen, ↓oIald, ↓oLald, ↓oZald, ↓oAald, ↓oIast, ↓oLast, ↓oZast, ↓oAast, ↓oCast, ↓oObji, ↓oRetI, ↓oRetZ, ↓oRetL, ↓oRetA, ↓oRetV, ↓oInvS, ↓oInvV, ↓oInvI, ↓oFail, ↓oAcEq, ↓oGetE, ↓oAlenE, ↓oAastO, ↓oCopyL, ↓oCopyK, ↓oInvS8, ↓oLdcS, ↓oMmax, ↓oMmin, ↓oMabs, ↓oAlenE, ↓popI_I, ↓popL_L, ↓popR_R, ↓popS_I, ↓popS_R, ↓popN_0, ↓popN_s, ↓popT_0, ↓popT_1, ↓popT_2, ↓popT_3, ↓gI_0, ↓gI_s, ↓gL_0, ↓gL_s, ↓gR_0, ↓gR_s, ↓blk_s, ↓blk_0, goE_0, goE_1, goE_2, bst_0, bst_1, bst_2, TTf_e, st1_0, st1_1, st1_s, st2_0, st2_1, st2_s, jk_I, jk_R, jk_L, jk_J, mkT_0, mkT_1, mkT_2, mkT_3, sw_n, sw_c, nJ_n, nJ_I, nJ_L, nJ_R, stW_n, stW_I, stW_R, stW_L, true_and, and_true, Nat.reduceAdd, Nat.reduceLeDiff, Int.reduceAdd, up_at, Int.reduceEq, Int.reduceLE, Int.reduceLT, false_and, and_false, and_self, if_false, if_true, Int.reduceNeg, List.cons_append, List.nil_append, not_true_eq_false, not_false_eq_true, false_implies, true_implies, implies_true, true_or, or_true, false_or, or_false, ↓oIaldX, aL_law_662, aL_law_663, aL_law_664, aL_law_665, aL_law_666, aL_law_667, aL_law_668, aL_law_669, aL_law_670, aL_law_671, aL_law_672, aL_law_673, aL_law_674, aL_law_675, aL_law_676, aL_law_677, aL_law_678, aL_law_679, aL_law_680, aL_law_681, aL_law_682, aL_law_683, aL_law_686, aL_law_687, aL_law_688, aL_law_689, aL_law_690, aL_law_691, aL_law_692, aL_law_693, aL_law_694, aL_law_695, aL_law_696, aL_law_697, aL_law_698, aL_law_699, aL_law_700, aL_law_701, aL_law_702, aL_law_703, aL_law_704, aL_law_705, aL_law_706, aL_law_707, aL_law_710, aL_law_713, aL_law_714, aL_law_1718, aL_law_1721, m1, r9, e1, p1, q1, e2, p2, q2, e3, p3, q3, e4, p4, q4, e5, p5, q5, e6, t1, t2, t3, t4, t5]
  exact hgo _ _ _ _ _ _ (by omega) (by omega) (LI_next h g1 hmk1 r9 g3 g4 (Iv_phrase hI) hO)
set_option maxRecDepth 20000 in
theorem lw_c12 {d : Nat} {L i : Int} {T : Int → Int} {μ : ST} {R : RT} {K : KT} {S : ST} {cb nb : Nat} {Q : QF} (h : LI L T μ R K S) (hL : 0 ≤ L ∧ L ≤ 3072) (hT : ∀ j, 0 ≤ j → j < L → in32 (T j)) (hi : 0 ≤ i ∧ i + 6 ≤ L) (hc : 8 ≤ cb) (hn : 200 ≤ nb) (hgo : ∀ μ' R' K' S' cb' nb', cb ≤ cb' + 8 → nb ≤ nb' + 200 → LI L T μ' R' K' S' → TT mL_law (d + 72) 18 [vR 9, vR 1, vR 1000, vI (i + 6)] [] K' S' cb' nb' Q) : TT mL_law (d + 72) 715 [vR 9, vR 1, vR 1000, vI i] [] K S cb nb Q := by
  obtain ⟨hrc, hms, hmk, hI, hO, h9, hs⟩ := id h
  obtain ⟨⟨i0, iS, iA, iP, iF, iK, iU, iR⟩, iC⟩ := id hI
  have e1 : w32 (i + 1) = i + 1 := w32_id (by unfold in32; omega)
  have e2 : w32 (i + 2) = i + 2 := w32_id (by unfold in32; omega)
  have e3 : w32 (i + 3) = i + 3 := w32_id (by unfold in32; omega)
  have e4 : w32 (i + 4) = i + 4 := w32_id (by unfold in32; omega)
  have e5 : w32 (i + 5) = i + 5 := w32_id (by unfold in32; omega)
  have e6 : w32 (i + 6) = i + 6 := w32_id (by unfold in32; omega)
  have p1 : (0 ≤ i + 1) = True := eq_true (by omega)
  have q1 : (i + 1 < L) = True := eq_true (by omega)
  have s1 := hs (i + 1) (by omega) (by omega)
  have p2 : (0 ≤ i + 2) = True := eq_true (by omega)
  have q2 : (i + 2 < L) = True := eq_true (by omega)
  have s2 := hs (i + 2) (by omega) (by omega)
  have p3 : (0 ≤ i + 3) = True := eq_true (by omega)
  have q3 : (i + 3 < L) = True := eq_true (by omega)
  have s3 := hs (i + 3) (by omega) (by omega)
  have p4 : (0 ≤ i + 4) = True := eq_true (by omega)
  have q4 : (i + 4 < L) = True := eq_true (by omega)
  have s4 := hs (i + 4) (by omega) (by omega)
  have p5 : (0 ≤ i + 5) = True := eq_true (by omega)
  have q5 : (i + 5 < L) = True := eq_true (by omega)
  have s5 := hs (i + 5) (by omega) (by omega)
  have k1 := CK_1 hrc.1
  refine TT.go zL_law 200 ?_
  simp only [↓oPush, ↓oIload, ↓oLload, ↓oRload, ↓oIstore, ↓oLstore, ↓oRstore, ↓oIinc, ↓oIadd, ↓oIsub, ↓oImul, ↓oIand, ↓oIor, ↓oIshl, ↓oIshr, ↓oIushr, ↓oIdiv, ↓oIrem, ↓oIneg, ↓oLadd, ↓oLmul, ↓oLand, ↓oLor, ↓oLxor, ↓oLshl, ↓oLshr, ↓oLushr, ↓oLcmp, ↓oI2l, ↓oL2i, ↓oI2b, ↓oI2s, ↓oDup, ↓oPop, ↓oDupx1, ↓oDupx2, ↓oDup2, ↓oGoto, ↓oIfEq, ↓oIfNe, ↓oIfLt, ↓oIfGe, ↓oIfGt, ↓oIfLe, ↓oIcEq, ↓oIcNe, ↓oIcLt, ↓oIcGe, ↓oIcGt, ↓oIcLe, ↓oIfnull, ↓oIfnonnull, ↓oSwitch, ↓oGetf, ↓oPutf, ↓oNew, ↓oNewa, ↓oAlen, ↓oIald, ↓oLald, ↓oZald, ↓oAald, ↓oIast, ↓oLast, ↓oZast, ↓oAast, ↓oCast, ↓oObji, ↓oRetI, ↓oRetZ, ↓oRetL, ↓oRetA, ↓oRetV, ↓oInvS, ↓oInvV, ↓oInvI, ↓oFail, ↓oAcEq, ↓oGetE, ↓oAlenE, ↓oAastO, ↓oCopyL, ↓oCopyK, ↓oInvS8, ↓oLdcS, ↓oMmax, ↓oMmin, ↓oMabs, ↓oAlenE, ↓popI_I, ↓popL_L, ↓popR_R, ↓popS_I, ↓popS_R, ↓popN_0, ↓popN_s, ↓popT_0, ↓popT_1, ↓popT_2, ↓popT_3, ↓gI_0, ↓gI_s, ↓gL_0, ↓gL_s, ↓gR_0, ↓gR_s, ↓blk_s, ↓blk_0, goE_0, goE_1, goE_2, bst_0, bst_1, bst_2, TTf_e, st1_0, st1_1, st1_s, st2_0, st2_1, st2_s, jk_I, jk_R, jk_L, jk_J, mkT_0, mkT_1, mkT_2, mkT_3, sw_n, sw_c, nJ_n, nJ_I, nJ_L, nJ_R, stW_n, stW_I, stW_R, stW_L, true_and, and_true, Nat.reduceAdd, Nat.reduceLeDiff, Int.reduceAdd, up_at, Int.reduceEq, Int.reduceLE, Int.reduceLT, false_and, and_false, and_self, if_false, if_true, Int.reduceNeg, List.cons_append, List.nil_append, not_true_eq_false, not_false_eq_true, false_implies, true_implies, implies_true, true_or, or_true, false_or, or_false, ↓oIaldX, aL_law_715, aL_law_716, aL_law_717, aL_law_718, aL_law_719, aL_law_720, aL_law_721, aL_law_724, aL_law_725, aL_law_726, aL_law_727, aL_law_728, aL_law_729, aL_law_730, aL_law_733, aL_law_736, aL_law_737, aL_law_1718, aL_law_1721, k1, h9, e1, p1, q1, e2, p2, q2, e3, p3, q3, e4, p4, q4, e5, p5, q5, e6, s1, s2, s3, s4, s5]
  refine GG.of0 (Mt.scr h9 (c_unphrase (d := d + 67) hrc (fun S1 g1 g2 r9 g3 => ?_)))
  have hmk1 := hmk
  have ms1 := MS_out hms g2
  have m1 := MK_o hmk1
  have t1 := (g3 (i + 1) (by omega) (by omega)).trans s1
  have t2 := (g3 (i + 2) (by omega) (by omega)).trans s2
  have t3 := (g3 (i + 3) (by omega) (by omega)).trans s3
  have t4 := (g3 (i + 4) (by omega) (by omega)).trans s4
  have t5 := (g3 (i + 5) (by omega) (by omega)).trans s5
  refine TT.go zL_law 200 ?_
  simp only [↓oPush, ↓oIload, ↓oLload, ↓oRload, ↓oIstore, ↓oLstore, ↓oRstore, ↓oIinc, ↓oIadd, ↓oIsub, ↓oImul, ↓oIand, ↓oIor, ↓oIshl, ↓oIshr, ↓oIushr, ↓oIdiv, ↓oIrem, ↓oIneg, ↓oLadd, ↓oLmul, ↓oLand, ↓oLor, ↓oLxor, ↓oLshl, ↓oLshr, ↓oLushr, ↓oLcmp, ↓oI2l, ↓oL2i, ↓oI2b, ↓oI2s, ↓oDup, ↓oPop, ↓oDupx1, ↓oDupx2, ↓oDup2, ↓oGoto, ↓oIfEq, ↓oIfNe, ↓oIfLt, ↓oIfGe, ↓oIfGt, ↓oIfLe, ↓oIcEq, ↓oIcNe, ↓oIcLt, ↓oIcGe, ↓oIcGt, ↓oIcLe, ↓oIfnull, ↓oIfnonnull, ↓oSwitch, ↓oGetf, ↓oPutf, ↓oNew, ↓oNewa, ↓oAlen, ↓oIald, ↓oLald, ↓oZald, ↓oAald, ↓oIast, ↓oLast, ↓oZast, ↓oAast, ↓oCast, ↓oObji, ↓oRetI, ↓oRetZ, ↓oRetL, ↓oRetA, ↓oRetV, ↓oInvS, ↓oInvV, ↓oInvI, ↓oFail, ↓oAcEq, ↓oGetE, ↓oAlenE, ↓oAastO, ↓oCopyL, ↓oCopyK, ↓oInvS8, ↓oLdcS, ↓oMmax, ↓oMmin, ↓oMabs, ↓oAlenE, ↓popI_I, ↓popL_L, ↓popR_R, ↓popS_I, ↓popS_R, ↓popN_0, ↓popN_s, ↓popT_0, ↓popT_1, ↓popT_2, ↓popT_3, ↓gI_0, ↓gI_s, ↓gL_0, ↓gL_s, ↓gR_0, ↓gR_s, ↓blk_s, ↓blk_0, goE_0, goE_1, goE_2, bst_0, bst_1, bst_2, TTf_e, st1_0, st1_1, st1_s, st2_0, st2_1, st2_s, jk_I, jk_R, jk_L, jk_J, mkT_0, mkT_1, mkT_2, mkT_3, sw_n, sw_c, nJ_n, nJ_I, nJ_L, nJ_R, stW_n, stW_I, stW_R, stW_L, true_and, and_true, Nat.reduceAdd, Nat.reduceLeDiff, Int.reduceAdd, up_at, Int.reduceEq, Int.reduceLE, Int.reduceLT, false_and, and_false, and_self, if_false, if_true, Int.reduceNeg, List.cons_append, List.nil_append, not_true_eq_false, not_false_eq_true, false_implies, true_implies, implies_true, true_or, or_true, false_or, or_false, ↓oIaldX, aL_law_715, aL_law_716, aL_law_717, aL_law_718, aL_law_719, aL_law_720, aL_law_721, aL_law_724, aL_law_725, aL_law_726, aL_law_727, aL_law_728, aL_law_729, aL_law_730, aL_law_733, aL_law_736, aL_law_737, aL_law_1718, aL_law_1721, m1, r9, e1, p1, q1, e2, p2, q2, e3, p3, q3, e4, p4, q4, e5, p5, q5, e6, t1, t2, t3, t4, t5]
  refine GG.of0 (m_unphrase (d := d + 69) hmk1 ms1 i0 (fun S2 g4 => ?_))
  refine TT.go zL_law 200 ?_
  simp only [↓oPush, ↓oIload, ↓oLload, ↓oRload, ↓oIstore, ↓oLstore, ↓oRstore, ↓oIinc, ↓oIadd, ↓oIsub, ↓oImul, ↓oIand, ↓oIor, ↓oIshl, ↓oIshr, ↓oIushr, ↓oIdiv, ↓oIrem, ↓oIneg, ↓oLadd, ↓oLmul, ↓oLand, ↓oLor, ↓oLxor, ↓oLshl, ↓oLshr, ↓oLushr, ↓oLcmp, ↓oI2l, ↓oL2i, ↓oI2b, ↓oI2s, ↓oDup, ↓oPop, ↓oDupx1, ↓oDupx2, ↓oDup2, ↓oGoto, ↓oIfEq, ↓oIfNe, ↓oIfLt, ↓oIfGe, ↓oIfGt, ↓oIfLe, ↓oIcEq, ↓oIcNe, ↓oIcLt, ↓oIcGe, ↓oIcGt, ↓oIcLe, ↓oIfnull, ↓oIfnonnull, ↓oSwitch, ↓oGetf, ↓oPutf, ↓oNew, ↓oNewa, ↓oAlen, ↓oIald, ↓oLald, ↓oZald, ↓oAald, ↓oIast, ↓oLast, ↓oZast, ↓oAast, ↓oCast, ↓oObji, ↓oRetI, ↓oRetZ, ↓oRetL, ↓oRetA, ↓oRetV, ↓oInvS, ↓oInvV, ↓oInvI, ↓oFail, ↓oAcEq, ↓oGetE, ↓oAlenE, ↓oAastO, ↓oCopyL, ↓oCopyK, ↓oInvS8, ↓oLdcS, ↓oMmax, ↓oMmin, ↓oMabs, ↓oAlenE, ↓popI_I, ↓popL_L, ↓popR_R, ↓popS_I, ↓popS_R, ↓popN_0, ↓popN_s, ↓popT_0, ↓popT_1, ↓popT_2, ↓popT_3, ↓gI_0, ↓gI_s, ↓gL_0, ↓gL_s, ↓gR_0, ↓gR_s, ↓blk_s, ↓blk_0, goE_0, goE_1, goE_2, bst_0, bst_1, bst_2, TTf_e, st1_0, st1_1, st1_s, st2_0, st2_1, st2_s, jk_I, jk_R, jk_L, jk_J, mkT_0, mkT_1, mkT_2, mkT_3, sw_n, sw_c, nJ_n, nJ_I, nJ_L, nJ_R, stW_n, stW_I, stW_R, stW_L, true_and, and_true, Nat.reduceAdd, Nat.reduceLeDiff, Int.reduceAdd, up_at, Int.reduceEq, Int.reduceLE, Int.reduceLT, false_and, and_false, and_self, if_false, if_true, Int.reduceNeg, List.cons_append, List.nil_append, not_true_eq_false, not_false_eq_true, false_implies, true_implies, implies_true, true_or, or_true, false_or, or_false, ↓oIaldX, aL_law_715, aL_law_716, aL_law_717, aL_law_718, aL_law_719, aL_law_720, aL_law_721, aL_law_724, aL_law_725, aL_law_726, aL_law_727, aL_law_728, aL_law_729, aL_law_730, aL_law_733, aL_law_736, aL_law_737, aL_law_1718, aL_law_1721, m1, r9, e1, p1, q1, e2, p2, q2, e3, p3, q3, e4, p4, q4, e5, p5, q5, e6, t1, t2, t3, t4, t5]
  exact hgo _ _ _ _ _ _ (by omega) (by omega) (LI_next h g1 hmk1 r9 g3 g4 (Iv_unphrase hI) hO)
set_option maxRecDepth 20000 in
theorem lw_c13 {d : Nat} {L i : Int} {T : Int → Int} {μ : ST} {R : RT} {K : KT} {S : ST} {cb nb : Nat} {Q : QF} (h : LI L T μ R K S) (hL : 0 ≤ L ∧ L ≤ 3072) (hT : ∀ j, 0 ≤ j → j < L → in32 (T j)) (hi : 0 ≤ i ∧ i + 6 ≤ L) (hc : 8 ≤ cb) (hn : 200 ≤ nb) (hgo : ∀ μ' R' K' S' cb' nb', cb ≤ cb' + 8 → nb ≤ nb' + 200 → LI L T μ' R' K' S' → TT mL_law (d + 72) 18 [vR 9, vR 1, vR 1000, vI (i + 6)] [] K' S' cb' nb' Q) : TT mL_law (d + 72) 738 [vR 9, vR 1, vR 1000, vI i] [] K S cb nb Q := by
  obtain ⟨hrc, hms, hmk, hI, hO, h9, hs⟩ := id h
  obtain ⟨⟨i0, iS, iA, iP, iF, iK, iU, iR⟩, iC⟩ := id hI
  have e1 : w32 (i + 1) = i + 1 := w32_id (by unfold in32; omega)
  have e2 : w32 (i + 2) = i + 2 := w32_id (by unfold in32; omega)
  have e3 : w32 (i + 3) = i + 3 := w32_id (by unfold in32; omega)
  have e4 : w32 (i + 4) = i + 4 := w32_id (by unfold in32; omega)
  have e5 : w32 (i + 5) = i + 5 := w32_id (by unfold in32; omega)
  have e6 : w32 (i + 6) = i + 6 := w32_id (by unfold in32; omega)
  have p1 : (0 ≤ i + 1) = True := eq_true (by omega)
  have q1 : (i + 1 < L) = True := eq_true (by omega)
  have s1 := hs (i + 1) (by omega) (by omega)
  have p2 : (0 ≤ i + 2) = True := eq_true (by omega)
  have q2 : (i + 2 < L) = True := eq_true (by omega)
  have s2 := hs (i + 2) (by omega) (by omega)
  have p3 : (0 ≤ i + 3) = True := eq_true (by omega)
  have q3 : (i + 3 < L) = True := eq_true (by omega)
  have s3 := hs (i + 3) (by omega) (by omega)
  have p4 : (0 ≤ i + 4) = True := eq_true (by omega)
  have q4 : (i + 4 < L) = True := eq_true (by omega)
  have s4 := hs (i + 4) (by omega) (by omega)
  have p5 : (0 ≤ i + 5) = True := eq_true (by omega)
  have q5 : (i + 5 < L) = True := eq_true (by omega)
  have s5 := hs (i + 5) (by omega) (by omega)
  have k1 := CK_1 hrc.1
  refine TT.go zL_law 200 ?_
  simp only [↓oPush, ↓oIload, ↓oLload, ↓oRload, ↓oIstore, ↓oLstore, ↓oRstore, ↓oIinc, ↓oIadd, ↓oIsub, ↓oImul, ↓oIand, ↓oIor, ↓oIshl, ↓oIshr, ↓oIushr, ↓oIdiv, ↓oIrem, ↓oIneg, ↓oLadd, ↓oLmul, ↓oLand, ↓oLor, ↓oLxor, ↓oLshl, ↓oLshr, ↓oLushr, ↓oLcmp, ↓oI2l, ↓oL2i, ↓oI2b, ↓oI2s, ↓oDup, ↓oPop, ↓oDupx1, ↓oDupx2, ↓oDup2, ↓oGoto, ↓oIfEq, ↓oIfNe, ↓oIfLt, ↓oIfGe, ↓oIfGt, ↓oIfLe, ↓oIcEq, ↓oIcNe, ↓oIcLt, ↓oIcGe, ↓oIcGt, ↓oIcLe, ↓oIfnull, ↓oIfnonnull, ↓oSwitch, ↓oGetf, ↓oPutf, ↓oNew, ↓oNewa, ↓oAlen, ↓oIald, ↓oLald, ↓oZald, ↓oAald, ↓oIast, ↓oLast, ↓oZast, ↓oAast, ↓oCast, ↓oObji, ↓oRetI, ↓oRetZ, ↓oRetL, ↓oRetA, ↓oRetV, ↓oInvS, ↓oInvV, ↓oInvI, ↓oFail, ↓oAcEq, ↓oGetE, ↓oAlenE, ↓oAastO, ↓oCopyL, ↓oCopyK, ↓oInvS8, ↓oLdcS, ↓oMmax, ↓oMmin, ↓oMabs, ↓oAlenE, ↓popI_I, ↓popL_L, ↓popR_R, ↓popS_I, ↓popS_R, ↓popN_0, ↓popN_s, ↓popT_0, ↓popT_1, ↓popT_2, ↓popT_3, ↓gI_0, ↓gI_s, ↓gL_0, ↓gL_s, ↓gR_0, ↓gR_s, ↓blk_s, ↓blk_0, goE_0, goE_1, goE_2, bst_0, bst_1, bst_2, TTf_e, st1_0, st1_1, st1_s, st2_0, st2_1, st2_s, jk_I, jk_R, jk_L, jk_J, mkT_0, mkT_1, mkT_2, mkT_3, sw_n, sw_c, nJ_n, nJ_I, nJ_L, nJ_R, stW_n, stW_I, stW_R, stW_L, true_and, and_true, Nat.reduceAdd, Nat.reduceLeDiff, Int.reduceAdd, up_at, Int.reduceEq, Int.reduceLE, Int.reduceLT, false_and, and_false, and_self, if_false, if_true, Int.reduceNeg, List.cons_append, List.nil_append, not_true_eq_false, not_false_eq_true, false_implies, true_implies, implies_true, true_or, or_true, false_or, or_false, ↓oIaldX, aL_law_738, aL_law_739, aL_law_740, aL_law_741, aL_law_742, aL_law_743, aL_law_744, aL_law_745, aL_law_746, aL_law_747, aL_law_748, aL_law_749, aL_law_750, aL_law_751, aL_law_752, aL_law_753, aL_law_754, aL_law_757, aL_law_758, aL_law_759, aL_law_760, aL_law_761, aL_law_762, aL_law_763, aL_law_764, aL_law_765, aL_law_766, aL_law_767, aL_law_768, aL_law_769, aL_law_770, aL_law_771, aL_law_772, aL_law_773, aL_law_776, aL_law_779, aL_law_780, aL_law_1718, aL_law_1721, k1, h9, e1, p1, q1, e2, p2, q2, e3, p3, q3, e4, p4, q4, e5, p5, q5, e6, s1, s2, s3, s4, s5]
  refine GG.of0 (Mt.scr h9 (c_claims (d := d + 65) hrc iA iP (fun S1 g0 r9 g3 => ?_)))
  have hmk1 := hmk
  have g1 := Rc_s hrc g0
  have g2 := Scr_o g0
  have ms1 := MS_out hms g2
  have m1 := MK_o hmk1
  have t1 := (g3 (i + 1) (by omega) (by omega)).trans s1
  have t2 := (g3 (i + 2) (by omega) (by omega)).trans s2
  have t3 := (g3 (i + 3) (by omega) (by omega)).trans s3
  have t4 := (g3 (i + 4) (by omega) (by omega)).trans s4
  have t5 := (g3 (i + 5) (by omega) (by omega)).trans s5
  refine TT.go zL_law 200 ?_
  simp only [↓oPush, ↓oIload, ↓oLload, ↓oRload, ↓oIstore, ↓oLstore, ↓oRstore, ↓oIinc, ↓oIadd, ↓oIsub, ↓oImul, ↓oIand, ↓oIor, ↓oIshl, ↓oIshr, ↓oIushr, ↓oIdiv, ↓oIrem, ↓oIneg, ↓oLadd, ↓oLmul, ↓oLand, ↓oLor, ↓oLxor, ↓oLshl, ↓oLshr, ↓oLushr, ↓oLcmp, ↓oI2l, ↓oL2i, ↓oI2b, ↓oI2s, ↓oDup, ↓oPop, ↓oDupx1, ↓oDupx2, ↓oDup2, ↓oGoto, ↓oIfEq, ↓oIfNe, ↓oIfLt, ↓oIfGe, ↓oIfGt, ↓oIfLe, ↓oIcEq, ↓oIcNe, ↓oIcLt, ↓oIcGe, ↓oIcGt, ↓oIcLe, ↓oIfnull, ↓oIfnonnull, ↓oSwitch, ↓oGetf, ↓oPutf, ↓oNew, ↓oNewa, ↓oAlen, ↓oIald, ↓oLald, ↓oZald, ↓oAald, ↓oIast, ↓oLast, ↓oZast, ↓oAast, ↓oCast, ↓oObji, ↓oRetI, ↓oRetZ, ↓oRetL, ↓oRetA, ↓oRetV, ↓oInvS, ↓oInvV, ↓oInvI, ↓oFail, ↓oAcEq, ↓oGetE, ↓oAlenE, ↓oAastO, ↓oCopyL, ↓oCopyK, ↓oInvS8, ↓oLdcS, ↓oMmax, ↓oMmin, ↓oMabs, ↓oAlenE, ↓popI_I, ↓popL_L, ↓popR_R, ↓popS_I, ↓popS_R, ↓popN_0, ↓popN_s, ↓popT_0, ↓popT_1, ↓popT_2, ↓popT_3, ↓gI_0, ↓gI_s, ↓gL_0, ↓gL_s, ↓gR_0, ↓gR_s, ↓blk_s, ↓blk_0, goE_0, goE_1, goE_2, bst_0, bst_1, bst_2, TTf_e, st1_0, st1_1, st1_s, st2_0, st2_1, st2_s, jk_I, jk_R, jk_L, jk_J, mkT_0, mkT_1, mkT_2, mkT_3, sw_n, sw_c, nJ_n, nJ_I, nJ_L, nJ_R, stW_n, stW_I, stW_R, stW_L, true_and, and_true, Nat.reduceAdd, Nat.reduceLeDiff, Int.reduceAdd, up_at, Int.reduceEq, Int.reduceLE, Int.reduceLT, false_and, and_false, and_self, if_false, if_true, Int.reduceNeg, List.cons_append, List.nil_append, not_true_eq_false, not_false_eq_true, false_implies, true_implies, implies_true, true_or, or_true, false_or, or_false, ↓oIaldX, aL_law_738, aL_law_739, aL_law_740, aL_law_741, aL_law_742, aL_law_743, aL_law_744, aL_law_745, aL_law_746, aL_law_747, aL_law_748, aL_law_749, aL_law_750, aL_law_751, aL_law_752, aL_law_753, aL_law_754, aL_law_757, aL_law_758, aL_law_759, aL_law_760, aL_law_761, aL_law_762, aL_law_763, aL_law_764, aL_law_765, aL_law_766, aL_law_767, aL_law_768, aL_law_769, aL_law_770, aL_law_771, aL_law_772, aL_law_773, aL_law_776, aL_law_779, aL_law_780, aL_law_1718, aL_law_1721, m1, r9, e1, p1, q1, e2, p2, q2, e3, p3, q3, e4, p4, q4, e5, p5, q5, e6, t1, t2, t3, t4, t5]
  refine GG.of0 (m_claims (d := d + 66) hmk1 ms1 i0 iA iP (fun S2 g4 => ?_))
  refine TT.go zL_law 200 ?_
  simp only [↓oPush, ↓oIload, ↓oLload, ↓oRload, ↓oIstore, ↓oLstore, ↓oRstore, ↓oIinc, ↓oIadd, ↓oIsub, ↓oImul, ↓oIand, ↓oIor, ↓oIshl, ↓oIshr, ↓oIushr, ↓oIdiv, ↓oIrem, ↓oIneg, ↓oLadd, ↓oLmul, ↓oLand, ↓oLor, ↓oLxor, ↓oLshl, ↓oLshr, ↓oLushr, ↓oLcmp, ↓oI2l, ↓oL2i, ↓oI2b, ↓oI2s, ↓oDup, ↓oPop, ↓oDupx1, ↓oDupx2, ↓oDup2, ↓oGoto, ↓oIfEq, ↓oIfNe, ↓oIfLt, ↓oIfGe, ↓oIfGt, ↓oIfLe, ↓oIcEq, ↓oIcNe, ↓oIcLt, ↓oIcGe, ↓oIcGt, ↓oIcLe, ↓oIfnull, ↓oIfnonnull, ↓oSwitch, ↓oGetf, ↓oPutf, ↓oNew, ↓oNewa, ↓oAlen, ↓oIald, ↓oLald, ↓oZald, ↓oAald, ↓oIast, ↓oLast, ↓oZast, ↓oAast, ↓oCast, ↓oObji, ↓oRetI, ↓oRetZ, ↓oRetL, ↓oRetA, ↓oRetV, ↓oInvS, ↓oInvV, ↓oInvI, ↓oFail, ↓oAcEq, ↓oGetE, ↓oAlenE, ↓oAastO, ↓oCopyL, ↓oCopyK, ↓oInvS8, ↓oLdcS, ↓oMmax, ↓oMmin, ↓oMabs, ↓oAlenE, ↓popI_I, ↓popL_L, ↓popR_R, ↓popS_I, ↓popS_R, ↓popN_0, ↓popN_s, ↓popT_0, ↓popT_1, ↓popT_2, ↓popT_3, ↓gI_0, ↓gI_s, ↓gL_0, ↓gL_s, ↓gR_0, ↓gR_s, ↓blk_s, ↓blk_0, goE_0, goE_1, goE_2, bst_0, bst_1, bst_2, TTf_e, st1_0, st1_1, st1_s, st2_0, st2_1, st2_s, jk_I, jk_R, jk_L, jk_J, mkT_0, mkT_1, mkT_2, mkT_3, sw_n, sw_c, nJ_n, nJ_I, nJ_L, nJ_R, stW_n, stW_I, stW_R, stW_L, true_and, and_true, Nat.reduceAdd, Nat.reduceLeDiff, Int.reduceAdd, up_at, Int.reduceEq, Int.reduceLE, Int.reduceLT, false_and, and_false, and_self, if_false, if_true, Int.reduceNeg, List.cons_append, List.nil_append, not_true_eq_false, not_false_eq_true, false_implies, true_implies, implies_true, true_or, or_true, false_or, or_false, ↓oIaldX, aL_law_738, aL_law_739, aL_law_740, aL_law_741, aL_law_742, aL_law_743, aL_law_744, aL_law_745, aL_law_746, aL_law_747, aL_law_748, aL_law_749, aL_law_750, aL_law_751, aL_law_752, aL_law_753, aL_law_754, aL_law_757, aL_law_758, aL_law_759, aL_law_760, aL_law_761, aL_law_762, aL_law_763, aL_law_764, aL_law_765, aL_law_766, aL_law_767, aL_law_768, aL_law_769, aL_law_770, aL_law_771, aL_law_772, aL_law_773, aL_law_776, aL_law_779, aL_law_780, aL_law_1718, aL_law_1721, m1, r9, e1, p1, q1, e2, p2, q2, e3, p3, q3, e4, p4, q4, e5, p5, q5, e6, t1, t2, t3, t4, t5]
  exact hgo _ _ _ _ _ _ (by omega) (by omega) (LI_next h g1 hmk1 r9 g3 g4 hI hO)
set_option maxRecDepth 20000 in
theorem lw_c14 {d : Nat} {L i : Int} {T : Int → Int} {μ : ST} {R : RT} {K : KT} {S : ST} {cb nb : Nat} {Q : QF} (h : LI L T μ R K S) (hL : 0 ≤ L ∧ L ≤ 3072) (hT : ∀ j, 0 ≤ j → j < L → in32 (T j)) (hi : 0 ≤ i ∧ i + 6 ≤ L) (hc : 8 ≤ cb) (hn : 200 ≤ nb) (hgo : ∀ μ' R' K' S' cb' nb', cb ≤ cb' + 8 → nb ≤ nb' + 200 → LI L T μ' R' K' S' → TT mL_law (d + 72) 18 [vR 9, vR 1, vR 1000, vI (i + 6)] [] K' S' cb' nb' Q) : TT mL_law (d + 72) 781 [vR 9, vR 1, vR 1000, vI i] [] K S cb nb Q := by
  obtain ⟨hrc, hms, hmk, hI, hO, h9, hs⟩ := id h
  obtain ⟨⟨i0, iS, iA, iP, iF, iK, iU, iR⟩, iC⟩ := id hI
  have e1 : w32 (i + 1) = i + 1 := w32_id (by unfold in32; omega)
  have e2 : w32 (i + 2) = i + 2 := w32_id (by unfold in32; omega)
  have e3 : w32 (i + 3) = i + 3 := w32_id (by unfold in32; omega)
  have e4 : w32 (i + 4) = i + 4 := w32_id (by unfold in32; omega)
  have e5 : w32 (i + 5) = i + 5 := w32_id (by unfold in32; omega)
  have e6 : w32 (i + 6) = i + 6 := w32_id (by unfold in32; omega)
  have p1 : (0 ≤ i + 1) = True := eq_true (by omega)
  have q1 : (i + 1 < L) = True := eq_true (by omega)
  have s1 := hs (i + 1) (by omega) (by omega)
  have p2 : (0 ≤ i + 2) = True := eq_true (by omega)
  have q2 : (i + 2 < L) = True := eq_true (by omega)
  have s2 := hs (i + 2) (by omega) (by omega)
  have p3 : (0 ≤ i + 3) = True := eq_true (by omega)
  have q3 : (i + 3 < L) = True := eq_true (by omega)
  have s3 := hs (i + 3) (by omega) (by omega)
  have p4 : (0 ≤ i + 4) = True := eq_true (by omega)
  have q4 : (i + 4 < L) = True := eq_true (by omega)
  have s4 := hs (i + 4) (by omega) (by omega)
  have p5 : (0 ≤ i + 5) = True := eq_true (by omega)
  have q5 : (i + 5 < L) = True := eq_true (by omega)
  have s5 := hs (i + 5) (by omega) (by omega)
  have k1 := CK_1 hrc.1
  refine TT.go zL_law 200 ?_
  simp only [↓oPush, ↓oIload, ↓oLload, ↓oRload, ↓oIstore, ↓oLstore, ↓oRstore, ↓oIinc, ↓oIadd, ↓oIsub, ↓oImul, ↓oIand, ↓oIor, ↓oIshl, ↓oIshr, ↓oIushr, ↓oIdiv, ↓oIrem, ↓oIneg, ↓oLadd, ↓oLmul, ↓oLand, ↓oLor, ↓oLxor, ↓oLshl, ↓oLshr, ↓oLushr, ↓oLcmp, ↓oI2l, ↓oL2i, ↓oI2b, ↓oI2s, ↓oDup, ↓oPop, ↓oDupx1, ↓oDupx2, ↓oDup2, ↓oGoto, ↓oIfEq, ↓oIfNe, ↓oIfLt, ↓oIfGe, ↓oIfGt, ↓oIfLe, ↓oIcEq, ↓oIcNe, ↓oIcLt, ↓oIcGe, ↓oIcGt, ↓oIcLe, ↓oIfnull, ↓oIfnonnull, ↓oSwitch, ↓oGetf, ↓oPutf, ↓oNew, ↓oNewa, ↓oAlen, ↓oIald, ↓oLald, ↓oZald, ↓oAald, ↓oIast, ↓oLast, ↓oZast, ↓oAast, ↓oCast, ↓oObji, ↓oRetI, ↓oRetZ, ↓oRetL, ↓oRetA, ↓oRetV, ↓oInvS, ↓oInvV, ↓oInvI, ↓oFail, ↓oAcEq, ↓oGetE, ↓oAlenE, ↓oAastO, ↓oCopyL, ↓oCopyK, ↓oInvS8, ↓oLdcS, ↓oMmax, ↓oMmin, ↓oMabs, ↓oAlenE, ↓popI_I, ↓popL_L, ↓popR_R, ↓popS_I, ↓popS_R, ↓popN_0, ↓popN_s, ↓popT_0, ↓popT_1, ↓popT_2, ↓popT_3, ↓gI_0, ↓gI_s, ↓gL_0, ↓gL_s, ↓gR_0, ↓gR_s, ↓blk_s, ↓blk_0, goE_0, goE_1, goE_2, bst_0, bst_1, bst_2, TTf_e, st1_0, st1_1, st1_s, st2_0, st2_1, st2_s, jk_I, jk_R, jk_L, jk_J, mkT_0, mkT_1, mkT_2, mkT_3, sw_n, sw_c, nJ_n, nJ_I, nJ_L, nJ_R, stW_n, stW_I, stW_R, stW_L, true_and, and_true, Nat.reduceAdd, Nat.reduceLeDiff, Int.reduceAdd, up_at, Int.reduceEq, Int.reduceLE, Int.reduceLT, false_and, and_false, and_self, if_false, if_true, Int.reduceNeg, List.cons_append, List.nil_append, not_true_eq_false, not_false_eq_true, false_implies, true_implies, implies_true, true_or, or_true, false_or, or_false, ↓oIaldX, aL_law_781, aL_law_782, aL_law_783, aL_law_784, aL_law_785, aL_law_786, aL_law_787, aL_law_788, aL_law_789, aL_law_790, aL_law_791, aL_law_792, aL_law_793, aL_law_794, aL_law_795, aL_law_796, aL_law_797, aL_law_800, aL_law_801, aL_law_802, aL_law_803, aL_law_804, aL_law_805, aL_law_806, aL_law_807, aL_law_808, aL_law_809, aL_law_810, aL_law_811, aL_law_812, aL_law_813, aL_law_814, aL_law_815, aL_law_816, aL_law_819, aL_law_822, aL_law_823, aL_law_1718, aL_law_1721, k1, h9, e1, p1, q1, e2, p2, q2, e3, p3, q3, e4, p4, q4, e5, p5, q5, e6, s1, s2, s3, s4, s5]
  refine GG.of0 (Mt.scr h9 (c_claim (d := d + 63) hrc i0 iA iP iF (fun S1 g0 r9 g3 => ?_)))
  have hmk1 := hmk
  have g1 := Rc_s hrc g0
  have g2 := Scr_o g0
  have ms1 := MS_out hms g2
  have m1 := MK_o hmk1
  have t1 := (g3 (i + 1) (by omega) (by omega)).trans s1
  have t2 := (g3 (i + 2) (by omega) (by omega)).trans s2
  have t3 := (g3 (i + 3) (by omega) (by omega)).trans s3
  have t4 := (g3 (i + 4) (by omega) (by omega)).trans s4
  have t5 := (g3 (i + 5) (by omega) (by omega)).trans s5
  refine TT.go zL_law 200 ?_
  simp only [↓oPush, ↓oIload, ↓oLload, ↓oRload, ↓oIstore, ↓oLstore, ↓oRstore, ↓oIinc, ↓oIadd, ↓oIsub, ↓oImul, ↓oIand, ↓oIor, ↓oIshl, ↓oIshr, ↓oIushr, ↓oIdiv, ↓oIrem, ↓oIneg, ↓oLadd, ↓oLmul, ↓oLand, ↓oLor, ↓oLxor, ↓oLshl, ↓oLshr, ↓oLushr, ↓oLcmp, ↓oI2l, ↓oL2i, ↓oI2b, ↓oI2s, ↓oDup, ↓oPop, ↓oDupx1, ↓oDupx2, ↓oDup2, ↓oGoto, ↓oIfEq, ↓oIfNe, ↓oIfLt, ↓oIfGe, ↓oIfGt, ↓oIfLe, ↓oIcEq, ↓oIcNe, ↓oIcLt, ↓oIcGe, ↓oIcGt, ↓oIcLe, ↓oIfnull, ↓oIfnonnull, ↓oSwitch, ↓oGetf, ↓oPutf, ↓oNew, ↓oNewa, ↓oAlen, ↓oIald, ↓oLald, ↓oZald, ↓oAald, ↓oIast, ↓oLast, ↓oZast, ↓oAast, ↓oCast, ↓oObji, ↓oRetI, ↓oRetZ, ↓oRetL, ↓oRetA, ↓oRetV, ↓oInvS, ↓oInvV, ↓oInvI, ↓oFail, ↓oAcEq, ↓oGetE, ↓oAlenE, ↓oAastO, ↓oCopyL, ↓oCopyK, ↓oInvS8, ↓oLdcS, ↓oMmax, ↓oMmin, ↓oMabs, ↓oAlenE, ↓popI_I, ↓popL_L, ↓popR_R, ↓popS_I, ↓popS_R, ↓popN_0, ↓popN_s, ↓popT_0, ↓popT_1, ↓popT_2, ↓popT_3, ↓gI_0, ↓gI_s, ↓gL_0, ↓gL_s, ↓gR_0, ↓gR_s, ↓blk_s, ↓blk_0, goE_0, goE_1, goE_2, bst_0, bst_1, bst_2, TTf_e, st1_0, st1_1, st1_s, st2_0, st2_1, st2_s, jk_I, jk_R, jk_L, jk_J, mkT_0, mkT_1, mkT_2, mkT_3, sw_n, sw_c, nJ_n, nJ_I, nJ_L, nJ_R, stW_n, stW_I, stW_R, stW_L, true_and, and_true, Nat.reduceAdd, Nat.reduceLeDiff, Int.reduceAdd, up_at, Int.reduceEq, Int.reduceLE, Int.reduceLT, false_and, and_false, and_self, if_false, if_true, Int.reduceNeg, List.cons_append, List.nil_append, not_true_eq_false, not_false_eq_true, false_implies, true_implies, implies_true, true_or, or_true, false_or, or_false, ↓oIaldX, aL_law_781, aL_law_782, aL_law_783, aL_law_784, aL_law_785, aL_law_786, aL_law_787, aL_law_788, aL_law_789, aL_law_790, aL_law_791, aL_law_792, aL_law_793, aL_law_794, aL_law_795, aL_law_796, aL_law_797, aL_law_800, aL_law_801, aL_law_802, aL_law_803, aL_law_804, aL_law_805, aL_law_806, aL_law_807, aL_law_808, aL_law_809, aL_law_810, aL_law_811, aL_law_812, aL_law_813, aL_law_814, aL_law_815, aL_law_816, aL_law_819, aL_law_822, aL_law_823, aL_law_1718, aL_law_1721, m1, r9, e1, p1, q1, e2, p2, q2, e3, p3, q3, e4, p4, q4, e5, p5, q5, e6, t1, t2, t3, t4, t5]
  refine GG.of0 (m_claim (d := d + 65) hmk1 ms1 i0 iA iP iF (fun S2 g4 => ?_))
  refine TT.go zL_law 200 ?_
  simp only [↓oPush, ↓oIload, ↓oLload, ↓oRload, ↓oIstore, ↓oLstore, ↓oRstore, ↓oIinc, ↓oIadd, ↓oIsub, ↓oImul, ↓oIand, ↓oIor, ↓oIshl, ↓oIshr, ↓oIushr, ↓oIdiv, ↓oIrem, ↓oIneg, ↓oLadd, ↓oLmul, ↓oLand, ↓oLor, ↓oLxor, ↓oLshl, ↓oLshr, ↓oLushr, ↓oLcmp, ↓oI2l, ↓oL2i, ↓oI2b, ↓oI2s, ↓oDup, ↓oPop, ↓oDupx1, ↓oDupx2, ↓oDup2, ↓oGoto, ↓oIfEq, ↓oIfNe, ↓oIfLt, ↓oIfGe, ↓oIfGt, ↓oIfLe, ↓oIcEq, ↓oIcNe, ↓oIcLt, ↓oIcGe, ↓oIcGt, ↓oIcLe, ↓oIfnull, ↓oIfnonnull, ↓oSwitch, ↓oGetf, ↓oPutf, ↓oNew, ↓oNewa, ↓oAlen, ↓oIald, ↓oLald, ↓oZald, ↓oAald, ↓oIast, ↓oLast, ↓oZast, ↓oAast, ↓oCast, ↓oObji, ↓oRetI, ↓oRetZ, ↓oRetL, ↓oRetA, ↓oRetV, ↓oInvS, ↓oInvV, ↓oInvI, ↓oFail, ↓oAcEq, ↓oGetE, ↓oAlenE, ↓oAastO, ↓oCopyL, ↓oCopyK, ↓oInvS8, ↓oLdcS, ↓oMmax, ↓oMmin, ↓oMabs, ↓oAlenE, ↓popI_I, ↓popL_L, ↓popR_R, ↓popS_I, ↓popS_R, ↓popN_0, ↓popN_s, ↓popT_0, ↓popT_1, ↓popT_2, ↓popT_3, ↓gI_0, ↓gI_s, ↓gL_0, ↓gL_s, ↓gR_0, ↓gR_s, ↓blk_s, ↓blk_0, goE_0, goE_1, goE_2, bst_0, bst_1, bst_2, TTf_e, st1_0, st1_1, st1_s, st2_0, st2_1, st2_s, jk_I, jk_R, jk_L, jk_J, mkT_0, mkT_1, mkT_2, mkT_3, sw_n, sw_c, nJ_n, nJ_I, nJ_L, nJ_R, stW_n, stW_I, stW_R, stW_L, true_and, and_true, Nat.reduceAdd, Nat.reduceLeDiff, Int.reduceAdd, up_at, Int.reduceEq, Int.reduceLE, Int.reduceLT, false_and, and_false, and_self, if_false, if_true, Int.reduceNeg, List.cons_append, List.nil_append, not_true_eq_false, not_false_eq_true, false_implies, true_implies, implies_true, true_or, or_true, false_or, or_false, ↓oIaldX, aL_law_781, aL_law_782, aL_law_783, aL_law_784, aL_law_785, aL_law_786, aL_law_787, aL_law_788, aL_law_789, aL_law_790, aL_law_791, aL_law_792, aL_law_793, aL_law_794, aL_law_795, aL_law_796, aL_law_797, aL_law_800, aL_law_801, aL_law_802, aL_law_803, aL_law_804, aL_law_805, aL_law_806, aL_law_807, aL_law_808, aL_law_809, aL_law_810, aL_law_811, aL_law_812, aL_law_813, aL_law_814, aL_law_815, aL_law_816, aL_law_819, aL_law_822, aL_law_823, aL_law_1718, aL_law_1721, m1, r9, e1, p1, q1, e2, p2, q2, e3, p3, q3, e4, p4, q4, e5, p5, q5, e6, t1, t2, t3, t4, t5]
  exact hgo _ _ _ _ _ _ (by omega) (by omega) (LI_next h g1 hmk1 r9 g3 g4 hI hO)
set_option maxRecDepth 20000 in
theorem lw_c15 {d : Nat} {L i : Int} {T : Int → Int} {μ : ST} {R : RT} {K : KT} {S : ST} {cb nb : Nat} {Q : QF} (h : LI L T μ R K S) (hL : 0 ≤ L ∧ L ≤ 3072) (hT : ∀ j, 0 ≤ j → j < L → in32 (T j)) (hi : 0 ≤ i ∧ i + 6 ≤ L) (hc : 8 ≤ cb) (hn : 200 ≤ nb) (hgo : ∀ μ' R' K' S' cb' nb', cb ≤ cb' + 8 → nb ≤ nb' + 200 → LI L T μ' R' K' S' → TT mL_law (d + 72) 18 [vR 9, vR 1, vR 1000, vI (i + 6)] [] K' S' cb' nb' Q) : TT mL_law (d + 72) 824 [vR 9, vR 1, vR 1000, vI i] [] K S cb nb Q := by
  obtain ⟨hrc, hms, hmk, hI, hO, h9, hs⟩ := id h
  obtain ⟨⟨i0, iS, iA, iP, iF, iK, iU, iR⟩, iC⟩ := id hI
  have e1 : w32 (i + 1) = i + 1 := w32_id (by unfold in32; omega)
  have e2 : w32 (i + 2) = i + 2 := w32_id (by unfold in32; omega)
  have e3 : w32 (i + 3) = i + 3 := w32_id (by unfold in32; omega)
  have e4 : w32 (i + 4) = i + 4 := w32_id (by unfold in32; omega)
  have e5 : w32 (i + 5) = i + 5 := w32_id (by unfold in32; omega)
  have e6 : w32 (i + 6) = i + 6 := w32_id (by unfold in32; omega)
  have p1 : (0 ≤ i + 1) = True := eq_true (by omega)
  have q1 : (i + 1 < L) = True := eq_true (by omega)
  have s1 := hs (i + 1) (by omega) (by omega)
  have p2 : (0 ≤ i + 2) = True := eq_true (by omega)
  have q2 : (i + 2 < L) = True := eq_true (by omega)
  have s2 := hs (i + 2) (by omega) (by omega)
  have p3 : (0 ≤ i + 3) = True := eq_true (by omega)
  have q3 : (i + 3 < L) = True := eq_true (by omega)
  have s3 := hs (i + 3) (by omega) (by omega)
  have p4 : (0 ≤ i + 4) = True := eq_true (by omega)
  have q4 : (i + 4 < L) = True := eq_true (by omega)
  have s4 := hs (i + 4) (by omega) (by omega)
  have p5 : (0 ≤ i + 5) = True := eq_true (by omega)
  have q5 : (i + 5 < L) = True := eq_true (by omega)
  have s5 := hs (i + 5) (by omega) (by omega)
  have k1 := CK_1 hrc.1
  refine TT.go zL_law 200 ?_
  simp only [↓oPush, ↓oIload, ↓oLload, ↓oRload, ↓oIstore, ↓oLstore, ↓oRstore, ↓oIinc, ↓oIadd, ↓oIsub, ↓oImul, ↓oIand, ↓oIor, ↓oIshl, ↓oIshr, ↓oIushr, ↓oIdiv, ↓oIrem, ↓oIneg, ↓oLadd, ↓oLmul, ↓oLand, ↓oLor, ↓oLxor, ↓oLshl, ↓oLshr, ↓oLushr, ↓oLcmp, ↓oI2l, ↓oL2i, ↓oI2b, ↓oI2s, ↓oDup, ↓oPop, ↓oDupx1, ↓oDupx2, ↓oDup2, ↓oGoto, ↓oIfEq, ↓oIfNe, ↓oIfLt, ↓oIfGe, ↓oIfGt, ↓oIfLe, ↓oIcEq, ↓oIcNe, ↓oIcLt, ↓oIcGe, ↓oIcGt, ↓oIcLe, ↓oIfnull, ↓oIfnonnull, ↓oSwitch, ↓oGetf, ↓oPutf, ↓oNew, ↓oNewa, ↓oAlen, ↓oIald, ↓oLald, ↓oZald, ↓oAald, ↓oIast, ↓oLast, ↓oZast, ↓oAast, ↓oCast, ↓oObji, ↓oRetI, ↓oRetZ, ↓oRetL, ↓oRetA, ↓oRetV, ↓oInvS, ↓oInvV, ↓oInvI, ↓oFail, ↓oAcEq, ↓oGetE, ↓oAlenE, ↓oAastO, ↓oCopyL, ↓oCopyK, ↓oInvS8, ↓oLdcS, ↓oMmax, ↓oMmin, ↓oMabs, ↓oAlenE, ↓popI_I, ↓popL_L, ↓popR_R, ↓popS_I, ↓popS_R, ↓popN_0, ↓popN_s, ↓popT_0, ↓popT_1, ↓popT_2, ↓popT_3, ↓gI_0, ↓gI_s, ↓gL_0, ↓gL_s, ↓gR_0, ↓gR_s, ↓blk_s, ↓blk_0, goE_0, goE_1, goE_2, bst_0, bst_1, bst_2, TTf_e, st1_0, st1_1, st1_s, st2_0, st2_1, st2_s, jk_I, jk_R, jk_L, jk_J, mkT_0, mkT_1, mkT_2, mkT_3, sw_n, sw_c, nJ_n, nJ_I, nJ_L, nJ_R, stW_n, stW_I, stW_R, stW_L, true_and, and_true, Nat.reduceAdd, Nat.reduceLeDiff, Int.reduceAdd, up_at, Int.reduceEq, Int.reduceLE, Int.reduceLT, false_and, and_false, and_self, if_false, if_true, Int.reduceNeg, List.cons_append, List.nil_append, not_true_eq_false, not_false_eq_true, false_implies, true_implies, implies_true, true_or, or_true, false_or, or_false, ↓oIaldX, aL_law_824, aL_law_825, aL_law_826, aL_law_827, aL_law_828, aL_law_829, aL_law_830, aL_law_831, aL_law_832, aL_law_833, aL_law_834, aL_law_835, aL_law_836, aL_law_837, aL_law_838, aL_law_839, aL_law_840, aL_law_843, aL_law_844, aL_law_845, aL_law_846, aL_law_847, aL_law_848, aL_law_849, aL_law_850, aL_law_851, aL_law_852, aL_law_853, aL_law_854, aL_law_855, aL_law_856, aL_law_857, aL_law_858, aL_law_859, aL_law_862, aL_law_865, aL_law_866, aL_law_1718, aL_law_1721, k1, h9, e1, p1, q1, e2, p2, q2, e3, p3, q3, e4, p4, q4, e5, p5, q5, e6, s1, s2, s3, s4, s5]
  refine GG.of0 (Mt.scr h9 (c_keep (d := d + 63) hrc i0 iA iP (fun S1 g1 g2 r9 g3 => ?_)))
  have hmk1 := hmk
  have ms1 := MS_out hms g2
  have m1 := MK_o hmk1
  have t1 := (g3 (i + 1) (by omega) (by omega)).trans s1
  have t2 := (g3 (i + 2) (by omega) (by omega)).trans s2
  have t3 := (g3 (i + 3) (by omega) (by omega)).trans s3
  have t4 := (g3 (i + 4) (by omega) (by omega)).trans s4
  have t5 := (g3 (i + 5) (by omega) (by omega)).trans s5
  refine TT.go zL_law 200 ?_
  simp only [↓oPush, ↓oIload, ↓oLload, ↓oRload, ↓oIstore, ↓oLstore, ↓oRstore, ↓oIinc, ↓oIadd, ↓oIsub, ↓oImul, ↓oIand, ↓oIor, ↓oIshl, ↓oIshr, ↓oIushr, ↓oIdiv, ↓oIrem, ↓oIneg, ↓oLadd, ↓oLmul, ↓oLand, ↓oLor, ↓oLxor, ↓oLshl, ↓oLshr, ↓oLushr, ↓oLcmp, ↓oI2l, ↓oL2i, ↓oI2b, ↓oI2s, ↓oDup, ↓oPop, ↓oDupx1, ↓oDupx2, ↓oDup2, ↓oGoto, ↓oIfEq, ↓oIfNe, ↓oIfLt, ↓oIfGe, ↓oIfGt, ↓oIfLe, ↓oIcEq, ↓oIcNe, ↓oIcLt, ↓oIcGe, ↓oIcGt, ↓oIcLe, ↓oIfnull, ↓oIfnonnull, ↓oSwitch, ↓oGetf, ↓oPutf, ↓oNew, ↓oNewa, ↓oAlen, ↓oIald, ↓oLald, ↓oZald, ↓oAald, ↓oIast, ↓oLast, ↓oZast, ↓oAast, ↓oCast, ↓oObji, ↓oRetI, ↓oRetZ, ↓oRetL, ↓oRetA, ↓oRetV, ↓oInvS, ↓oInvV, ↓oInvI, ↓oFail, ↓oAcEq, ↓oGetE, ↓oAlenE, ↓oAastO, ↓oCopyL, ↓oCopyK, ↓oInvS8, ↓oLdcS, ↓oMmax, ↓oMmin, ↓oMabs, ↓oAlenE, ↓popI_I, ↓popL_L, ↓popR_R, ↓popS_I, ↓popS_R, ↓popN_0, ↓popN_s, ↓popT_0, ↓popT_1, ↓popT_2, ↓popT_3, ↓gI_0, ↓gI_s, ↓gL_0, ↓gL_s, ↓gR_0, ↓gR_s, ↓blk_s, ↓blk_0, goE_0, goE_1, goE_2, bst_0, bst_1, bst_2, TTf_e, st1_0, st1_1, st1_s, st2_0, st2_1, st2_s, jk_I, jk_R, jk_L, jk_J, mkT_0, mkT_1, mkT_2, mkT_3, sw_n, sw_c, nJ_n, nJ_I, nJ_L, nJ_R, stW_n, stW_I, stW_R, stW_L, true_and, and_true, Nat.reduceAdd, Nat.reduceLeDiff, Int.reduceAdd, up_at, Int.reduceEq, Int.reduceLE, Int.reduceLT, false_and, and_false, and_self, if_false, if_true, Int.reduceNeg, List.cons_append, List.nil_append, not_true_eq_false, not_false_eq_true, false_implies, true_implies, implies_true, true_or, or_true, false_or, or_false, ↓oIaldX, aL_law_824, aL_law_825, aL_law_826, aL_law_827, aL_law_828, aL_law_829, aL_law_830, aL_law_831, aL_law_832, aL_law_833, aL_law_834, aL_law_835, aL_law_836, aL_law_837, aL_law_838, aL_law_839, aL_law_840, aL_law_843, aL_law_844, aL_law_845, aL_law_846, aL_law_847, aL_law_848, aL_law_849, aL_law_850, aL_law_851, aL_law_852, aL_law_853, aL_law_854, aL_law_855, aL_law_856, aL_law_857, aL_law_858, aL_law_859, aL_law_862, aL_law_865, aL_law_866, aL_law_1718, aL_law_1721, m1, r9, e1, p1, q1, e2, p2, q2, e3, p3, q3, e4, p4, q4, e5, p5, q5, e6, t1, t2, t3, t4, t5]
  refine GG.of0 (m_keep (d := d + 65) hmk1 ms1 i0 iA iP (fun S2 g4 => ?_))
  refine TT.go zL_law 200 ?_
  simp only [↓oPush, ↓oIload, ↓oLload, ↓oRload, ↓oIstore, ↓oLstore, ↓oRstore, ↓oIinc, ↓oIadd, ↓oIsub, ↓oImul, ↓oIand, ↓oIor, ↓oIshl, ↓oIshr, ↓oIushr, ↓oIdiv, ↓oIrem, ↓oIneg, ↓oLadd, ↓oLmul, ↓oLand, ↓oLor, ↓oLxor, ↓oLshl, ↓oLshr, ↓oLushr, ↓oLcmp, ↓oI2l, ↓oL2i, ↓oI2b, ↓oI2s, ↓oDup, ↓oPop, ↓oDupx1, ↓oDupx2, ↓oDup2, ↓oGoto, ↓oIfEq, ↓oIfNe, ↓oIfLt, ↓oIfGe, ↓oIfGt, ↓oIfLe, ↓oIcEq, ↓oIcNe, ↓oIcLt, ↓oIcGe, ↓oIcGt, ↓oIcLe, ↓oIfnull, ↓oIfnonnull, ↓oSwitch, ↓oGetf, ↓oPutf, ↓oNew, ↓oNewa, ↓oAlen, ↓oIald, ↓oLald, ↓oZald, ↓oAald, ↓oIast, ↓oLast, ↓oZast, ↓oAast, ↓oCast, ↓oObji, ↓oRetI, ↓oRetZ, ↓oRetL, ↓oRetA, ↓oRetV, ↓oInvS, ↓oInvV, ↓oInvI, ↓oFail, ↓oAcEq, ↓oGetE, ↓oAlenE, ↓oAastO, ↓oCopyL, ↓oCopyK, ↓oInvS8, ↓oLdcS, ↓oMmax, ↓oMmin, ↓oMabs, ↓oAlenE, ↓popI_I, ↓popL_L, ↓popR_R, ↓popS_I, ↓popS_R, ↓popN_0, ↓popN_s, ↓popT_0, ↓popT_1, ↓popT_2, ↓popT_3, ↓gI_0, ↓gI_s, ↓gL_0, ↓gL_s, ↓gR_0, ↓gR_s, ↓blk_s, ↓blk_0, goE_0, goE_1, goE_2, bst_0, bst_1, bst_2, TTf_e, st1_0, st1_1, st1_s, st2_0, st2_1, st2_s, jk_I, jk_R, jk_L, jk_J, mkT_0, mkT_1, mkT_2, mkT_3, sw_n, sw_c, nJ_n, nJ_I, nJ_L, nJ_R, stW_n, stW_I, stW_R, stW_L, true_and, and_true, Nat.reduceAdd, Nat.reduceLeDiff, Int.reduceAdd, up_at, Int.reduceEq, Int.reduceLE, Int.reduceLT, false_and, and_false, and_self, if_false, if_true, Int.reduceNeg, List.cons_append, List.nil_append, not_true_eq_false, not_false_eq_true, false_implies, true_implies, implies_true, true_or, or_true, false_or, or_false, ↓oIaldX, aL_law_824, aL_law_825, aL_law_826, aL_law_827, aL_law_828, aL_law_829, aL_law_830, aL_law_831, aL_law_832, aL_law_833, aL_law_834, aL_law_835, aL_law_836, aL_law_837, aL_law_838, aL_law_839, aL_law_840, aL_law_843, aL_law_844, aL_law_845, aL_law_846, aL_law_847, aL_law_848, aL_law_849, aL_law_850, aL_law_851, aL_law_852, aL_law_853, aL_law_854, aL_law_855, aL_law_856, aL_law_857, aL_law_858, aL_law_859, aL_law_862, aL_law_865, aL_law_866, aL_law_1718, aL_law_1721, m1, r9, e1, p1, q1, e2, p2, q2, e3, p3, q3, e4, p4, q4, e5, p5, q5, e6, t1, t2, t3, t4, t5]
  exact hgo _ _ _ _ _ _ (by omega) (by omega) (LI_next h g1 hmk1 r9 g3 g4 (Iv_keep hI) hO)
set_option maxRecDepth 20000 in
theorem lw_c16 {d : Nat} {L i : Int} {T : Int → Int} {μ : ST} {R : RT} {K : KT} {S : ST} {cb nb : Nat} {Q : QF} (h : LI L T μ R K S) (hL : 0 ≤ L ∧ L ≤ 3072) (hT : ∀ j, 0 ≤ j → j < L → in32 (T j)) (hi : 0 ≤ i ∧ i + 6 ≤ L) (hc : 8 ≤ cb) (hn : 200 ≤ nb) (hgo : ∀ μ' R' K' S' cb' nb', cb ≤ cb' + 8 → nb ≤ nb' + 200 → LI L T μ' R' K' S' → TT mL_law (d + 72) 18 [vR 9, vR 1, vR 1000, vI (i + 6)] [] K' S' cb' nb' Q) : TT mL_law (d + 72) 867 [vR 9, vR 1, vR 1000, vI i] [] K S cb nb Q := by
  obtain ⟨hrc, hms, hmk, hI, hO, h9, hs⟩ := id h
  obtain ⟨⟨i0, iS, iA, iP, iF, iK, iU, iR⟩, iC⟩ := id hI
  have e1 : w32 (i + 1) = i + 1 := w32_id (by unfold in32; omega)
  have e2 : w32 (i + 2) = i + 2 := w32_id (by unfold in32; omega)
  have e3 : w32 (i + 3) = i + 3 := w32_id (by unfold in32; omega)
  have e4 : w32 (i + 4) = i + 4 := w32_id (by unfold in32; omega)
  have e5 : w32 (i + 5) = i + 5 := w32_id (by unfold in32; omega)
  have e6 : w32 (i + 6) = i + 6 := w32_id (by unfold in32; omega)
  have p1 : (0 ≤ i + 1) = True := eq_true (by omega)
  have q1 : (i + 1 < L) = True := eq_true (by omega)
  have s1 := hs (i + 1) (by omega) (by omega)
  have p2 : (0 ≤ i + 2) = True := eq_true (by omega)
  have q2 : (i + 2 < L) = True := eq_true (by omega)
  have s2 := hs (i + 2) (by omega) (by omega)
  have p3 : (0 ≤ i + 3) = True := eq_true (by omega)
  have q3 : (i + 3 < L) = True := eq_true (by omega)
  have s3 := hs (i + 3) (by omega) (by omega)
  have p4 : (0 ≤ i + 4) = True := eq_true (by omega)
  have q4 : (i + 4 < L) = True := eq_true (by omega)
  have s4 := hs (i + 4) (by omega) (by omega)
  have p5 : (0 ≤ i + 5) = True := eq_true (by omega)
  have q5 : (i + 5 < L) = True := eq_true (by omega)
  have s5 := hs (i + 5) (by omega) (by omega)
  have k1 := CK_1 hrc.1
  refine TT.go zL_law 200 ?_
  simp only [↓oPush, ↓oIload, ↓oLload, ↓oRload, ↓oIstore, ↓oLstore, ↓oRstore, ↓oIinc, ↓oIadd, ↓oIsub, ↓oImul, ↓oIand, ↓oIor, ↓oIshl, ↓oIshr, ↓oIushr, ↓oIdiv, ↓oIrem, ↓oIneg, ↓oLadd, ↓oLmul, ↓oLand, ↓oLor, ↓oLxor, ↓oLshl, ↓oLshr, ↓oLushr, ↓oLcmp, ↓oI2l, ↓oL2i, ↓oI2b, ↓oI2s, ↓oDup, ↓oPop, ↓oDupx1, ↓oDupx2, ↓oDup2, ↓oGoto, ↓oIfEq, ↓oIfNe, ↓oIfLt, ↓oIfGe, ↓oIfGt, ↓oIfLe, ↓oIcEq, ↓oIcNe, ↓oIcLt, ↓oIcGe, ↓oIcGt, ↓oIcLe, ↓oIfnull, ↓oIfnonnull, ↓oSwitch, ↓oGetf, ↓oPutf, ↓oNew, ↓oNewa, ↓oAlen, ↓oIald, ↓oLald, ↓oZald, ↓oAald, ↓oIast, ↓oLast, ↓oZast, ↓oAast, ↓oCast, ↓oObji, ↓oRetI, ↓oRetZ, ↓oRetL, ↓oRetA, ↓oRetV, ↓oInvS, ↓oInvV, ↓oInvI, ↓oFail, ↓oAcEq, ↓oGetE, ↓oAlenE, ↓oAastO, ↓oCopyL, ↓oCopyK, ↓oInvS8, ↓oLdcS, ↓oMmax, ↓oMmin, ↓oMabs, ↓oAlenE, ↓popI_I, ↓popL_L, ↓popR_R, ↓popS_I, ↓popS_R, ↓popN_0, ↓popN_s, ↓popT_0, ↓popT_1, ↓popT_2, ↓popT_3, ↓gI_0, ↓gI_s, ↓gL_0, ↓gL_s, ↓gR_0, ↓gR_s, ↓blk_s, ↓blk_0, goE_0, goE_1, goE_2, bst_0, bst_1, bst_2, TTf_e, st1_0, st1_1, st1_s, st2_0, st2_1, st2_s, jk_I, jk_R, jk_L, jk_J, mkT_0, mkT_1, mkT_2, mkT_3, sw_n, sw_c, nJ_n, nJ_I, nJ_L, nJ_R, stW_n, stW_I, stW_R, stW_L, true_and, and_true, Nat.reduceAdd, Nat.reduceLeDiff, Int.reduceAdd, up_at, Int.reduceEq, Int.reduceLE, Int.reduceLT, false_and, and_false, and_self, if_false, if_true, Int.reduceNeg, List.cons_append, List.nil_append, not_true_eq_false, not_false_eq_true, false_implies, true_implies, implies_true, true_or, or_true, false_or, or_false, ↓oIaldX, aL_law_867, aL_law_868, aL_law_869, aL_law_870, aL_law_871, aL_law_872, aL_law_873, aL_law_874, aL_law_875, aL_law_876, aL_law_877, aL_law_878, aL_law_879, aL_law_880, aL_law_881, aL_law_882, aL_law_883, aL_law_886, aL_law_887, aL_law_888, aL_law_889, aL_law_890, aL_law_891, aL_law_892, aL_law_893, aL_law_894, aL_law_895, aL_law_896, aL_law_897, aL_law_898, aL_law_899, aL_law_900, aL_law_901, aL_law_902, aL_law_905, aL_law_908, aL_law_909, aL_law_1718, aL_law_1721, k1, h9, e1, p1, q1, e2, p2, q2, e3, p3, q3, e4, p4, q4, e5, p5, q5, e6, s1, s2, s3, s4, s5]
  refine GG.of (mc := 3) (ms := 130) (by omega) (by omega) (Mt.scr h9 (c_proof (d := d + 62) hrc iS iF (fun K1 S1 g1 g2 gk r9 g3 => ?_)))
  have hmk1 := MK_out hmk gk
  have ms1 := MS_out hms g2
  have m1 := MK_o hmk1
  have t1 := (g3 (i + 1) (by omega) (by omega)).trans s1
  have t2 := (g3 (i + 2) (by omega) (by omega)).trans s2
  have t3 := (g3 (i + 3) (by omega) (by omega)).trans s3
  have t4 := (g3 (i + 4) (by omega) (by omega)).trans s4
  have t5 := (g3 (i + 5) (by omega) (by omega)).trans s5
  refine TT.go zL_law 200 ?_
  simp only [↓oPush, ↓oIload, ↓oLload, ↓oRload, ↓oIstore, ↓oLstore, ↓oRstore, ↓oIinc, ↓oIadd, ↓oIsub, ↓oImul, ↓oIand, ↓oIor, ↓oIshl, ↓oIshr, ↓oIushr, ↓oIdiv, ↓oIrem, ↓oIneg, ↓oLadd, ↓oLmul, ↓oLand, ↓oLor, ↓oLxor, ↓oLshl, ↓oLshr, ↓oLushr, ↓oLcmp, ↓oI2l, ↓oL2i, ↓oI2b, ↓oI2s, ↓oDup, ↓oPop, ↓oDupx1, ↓oDupx2, ↓oDup2, ↓oGoto, ↓oIfEq, ↓oIfNe, ↓oIfLt, ↓oIfGe, ↓oIfGt, ↓oIfLe, ↓oIcEq, ↓oIcNe, ↓oIcLt, ↓oIcGe, ↓oIcGt, ↓oIcLe, ↓oIfnull, ↓oIfnonnull, ↓oSwitch, ↓oGetf, ↓oPutf, ↓oNew, ↓oNewa, ↓oAlen, ↓oIald, ↓oLald, ↓oZald, ↓oAald, ↓oIast, ↓oLast, ↓oZast, ↓oAast, ↓oCast, ↓oObji, ↓oRetI, ↓oRetZ, ↓oRetL, ↓oRetA, ↓oRetV, ↓oInvS, ↓oInvV, ↓oInvI, ↓oFail, ↓oAcEq, ↓oGetE, ↓oAlenE, ↓oAastO, ↓oCopyL, ↓oCopyK, ↓oInvS8, ↓oLdcS, ↓oMmax, ↓oMmin, ↓oMabs, ↓oAlenE, ↓popI_I, ↓popL_L, ↓popR_R, ↓popS_I, ↓popS_R, ↓popN_0, ↓popN_s, ↓popT_0, ↓popT_1, ↓popT_2, ↓popT_3, ↓gI_0, ↓gI_s, ↓gL_0, ↓gL_s, ↓gR_0, ↓gR_s, ↓blk_s, ↓blk_0, goE_0, goE_1, goE_2, bst_0, bst_1, bst_2, TTf_e, st1_0, st1_1, st1_s, st2_0, st2_1, st2_s, jk_I, jk_R, jk_L, jk_J, mkT_0, mkT_1, mkT_2, mkT_3, sw_n, sw_c, nJ_n, nJ_I, nJ_L, nJ_R, stW_n, stW_I, stW_R, stW_L, true_and, and_true, Nat.reduceAdd, Nat.reduceLeDiff, Int.reduceAdd, up_at, Int.reduceEq, Int.reduceLE, Int.reduceLT, false_and, and_false, and_self, if_false, if_true, Int.reduceNeg, List.cons_append, List.nil_append, not_true_eq_false, not_false_eq_true, false_implies, true_implies, implies_true, true_or, or_true, false_or, or_false, ↓oIaldX, aL_law_867, aL_law_868, aL_law_869, aL_law_870, aL_law_871, aL_law_872, aL_law_873, aL_law_874, aL_law_875, aL_law_876, aL_law_877, aL_law_878, aL_law_879, aL_law_880, aL_law_881, aL_law_882, aL_law_883, aL_law_886, aL_law_887, aL_law_888, aL_law_889, aL_law_890, aL_law_891, aL_law_892, aL_law_893, aL_law_894, aL_law_895, aL_law_896, aL_law_897, aL_law_898, aL_law_899, aL_law_900, aL_law_901, aL_law_902, aL_law_905, aL_law_908, aL_law_909, aL_law_1718, aL_law_1721, m1, r9, e1, p1, q1, e2, p2, q2, e3, p3, q3, e4, p4, q4, e5, p5, q5, e6, t1, t2, t3, t4, t5]
  refine GG.of0 (m_proof (d := d + 68) hmk1 ms1 i0 iS (fun S2 g4 => ?_))
  refine TT.go zL_law 200 ?_
  simp only [↓oPush, ↓oIload, ↓oLload, ↓oRload, ↓oIstore, ↓oLstore, ↓oRstore, ↓oIinc, ↓oIadd, ↓oIsub, ↓oImul, ↓oIand, ↓oIor, ↓oIshl, ↓oIshr, ↓oIushr, ↓oIdiv, ↓oIrem, ↓oIneg, ↓oLadd, ↓oLmul, ↓oLand, ↓oLor, ↓oLxor, ↓oLshl, ↓oLshr, ↓oLushr, ↓oLcmp, ↓oI2l, ↓oL2i, ↓oI2b, ↓oI2s, ↓oDup, ↓oPop, ↓oDupx1, ↓oDupx2, ↓oDup2, ↓oGoto, ↓oIfEq, ↓oIfNe, ↓oIfLt, ↓oIfGe, ↓oIfGt, ↓oIfLe, ↓oIcEq, ↓oIcNe, ↓oIcLt, ↓oIcGe, ↓oIcGt, ↓oIcLe, ↓oIfnull, ↓oIfnonnull, ↓oSwitch, ↓oGetf, ↓oPutf, ↓oNew, ↓oNewa, ↓oAlen, ↓oIald, ↓oLald, ↓oZald, ↓oAald, ↓oIast, ↓oLast, ↓oZast, ↓oAast, ↓oCast, ↓oObji, ↓oRetI, ↓oRetZ, ↓oRetL, ↓oRetA, ↓oRetV, ↓oInvS, ↓oInvV, ↓oInvI, ↓oFail, ↓oAcEq, ↓oGetE, ↓oAlenE, ↓oAastO, ↓oCopyL, ↓oCopyK, ↓oInvS8, ↓oLdcS, ↓oMmax, ↓oMmin, ↓oMabs, ↓oAlenE, ↓popI_I, ↓popL_L, ↓popR_R, ↓popS_I, ↓popS_R, ↓popN_0, ↓popN_s, ↓popT_0, ↓popT_1, ↓popT_2, ↓popT_3, ↓gI_0, ↓gI_s, ↓gL_0, ↓gL_s, ↓gR_0, ↓gR_s, ↓blk_s, ↓blk_0, goE_0, goE_1, goE_2, bst_0, bst_1, bst_2, TTf_e, st1_0, st1_1, st1_s, st2_0, st2_1, st2_s, jk_I, jk_R, jk_L, jk_J, mkT_0, mkT_1, mkT_2, mkT_3, sw_n, sw_c, nJ_n, nJ_I, nJ_L, nJ_R, stW_n, stW_I, stW_R, stW_L, true_and, and_true, Nat.reduceAdd, Nat.reduceLeDiff, Int.reduceAdd, up_at, Int.reduceEq, Int.reduceLE, Int.reduceLT, false_and, and_false, and_self, if_false, if_true, Int.reduceNeg, List.cons_append, List.nil_append, not_true_eq_false, not_false_eq_true, false_implies, true_implies, implies_true, true_or, or_true, false_or, or_false, ↓oIaldX, aL_law_867, aL_law_868, aL_law_869, aL_law_870, aL_law_871, aL_law_872, aL_law_873, aL_law_874, aL_law_875, aL_law_876, aL_law_877, aL_law_878, aL_law_879, aL_law_880, aL_law_881, aL_law_882, aL_law_883, aL_law_886, aL_law_887, aL_law_888, aL_law_889, aL_law_890, aL_law_891, aL_law_892, aL_law_893, aL_law_894, aL_law_895, aL_law_896, aL_law_897, aL_law_898, aL_law_899, aL_law_900, aL_law_901, aL_law_902, aL_law_905, aL_law_908, aL_law_909, aL_law_1718, aL_law_1721, m1, r9, e1, p1, q1, e2, p2, q2, e3, p3, q3, e4, p4, q4, e5, p5, q5, e6, t1, t2, t3, t4, t5]
  exact hgo _ _ _ _ _ _ (by omega) (by omega) (LI_next h g1 hmk1 r9 g3 g4 (Iv_proof hI) hO)
set_option maxRecDepth 20000 in
theorem lw_c17 {d : Nat} {L i : Int} {T : Int → Int} {μ : ST} {R : RT} {K : KT} {S : ST} {cb nb : Nat} {Q : QF} (h : LI L T μ R K S) (hL : 0 ≤ L ∧ L ≤ 3072) (hT : ∀ j, 0 ≤ j → j < L → in32 (T j)) (hi : 0 ≤ i ∧ i + 6 ≤ L) (hc : 8 ≤ cb) (hn : 200 ≤ nb) (hgo : ∀ μ' R' K' S' cb' nb', cb ≤ cb' + 8 → nb ≤ nb' + 200 → LI L T μ' R' K' S' → TT mL_law (d + 72) 18 [vR 9, vR 1, vR 1000, vI (i + 6)] [] K' S' cb' nb' Q) : TT mL_law (d + 72) 910 [vR 9, vR 1, vR 1000, vI i] [] K S cb nb Q := by
  obtain ⟨hrc, hms, hmk, hI, hO, h9, hs⟩ := id h
  obtain ⟨⟨i0, iS, iA, iP, iF, iK, iU, iR⟩, iC⟩ := id hI
  have e1 : w32 (i + 1) = i + 1 := w32_id (by unfold in32; omega)
  have e2 : w32 (i + 2) = i + 2 := w32_id (by unfold in32; omega)
  have e3 : w32 (i + 3) = i + 3 := w32_id (by unfold in32; omega)
  have e4 : w32 (i + 4) = i + 4 := w32_id (by unfold in32; omega)
  have e5 : w32 (i + 5) = i + 5 := w32_id (by unfold in32; omega)
  have e6 : w32 (i + 6) = i + 6 := w32_id (by unfold in32; omega)
  have p1 : (0 ≤ i + 1) = True := eq_true (by omega)
  have q1 : (i + 1 < L) = True := eq_true (by omega)
  have s1 := hs (i + 1) (by omega) (by omega)
  have p2 : (0 ≤ i + 2) = True := eq_true (by omega)
  have q2 : (i + 2 < L) = True := eq_true (by omega)
  have s2 := hs (i + 2) (by omega) (by omega)
  have p3 : (0 ≤ i + 3) = True := eq_true (by omega)
  have q3 : (i + 3 < L) = True := eq_true (by omega)
  have s3 := hs (i + 3) (by omega) (by omega)
  have p4 : (0 ≤ i + 4) = True := eq_true (by omega)
  have q4 : (i + 4 < L) = True := eq_true (by omega)
  have s4 := hs (i + 4) (by omega) (by omega)
  have p5 : (0 ≤ i + 5) = True := eq_true (by omega)
  have q5 : (i + 5 < L) = True := eq_true (by omega)
  have s5 := hs (i + 5) (by omega) (by omega)
  have k1 := CK_1 hrc.1
  refine TT.go zL_law 200 ?_
  simp only [↓oPush, ↓oIload, ↓oLload, ↓oRload, ↓oIstore, ↓oLstore, ↓oRstore, ↓oIinc, ↓oIadd, ↓oIsub, ↓oImul, ↓oIand, ↓oIor, ↓oIshl, ↓oIshr, ↓oIushr, ↓oIdiv, ↓oIrem, ↓oIneg, ↓oLadd, ↓oLmul, ↓oLand, ↓oLor, ↓oLxor, ↓oLshl, ↓oLshr, ↓oLushr, ↓oLcmp, ↓oI2l, ↓oL2i, ↓oI2b, ↓oI2s, ↓oDup, ↓oPop, ↓oDupx1, ↓oDupx2, ↓oDup2, ↓oGoto, ↓oIfEq, ↓oIfNe, ↓oIfLt, ↓oIfGe, ↓oIfGt, ↓oIfLe, ↓oIcEq, ↓oIcNe, ↓oIcLt, ↓oIcGe, ↓oIcGt, ↓oIcLe, ↓oIfnull, ↓oIfnonnull, ↓oSwitch, ↓oGetf, ↓oPutf, ↓oNew, ↓oNewa, ↓oAlen, ↓oIald, ↓oLald, ↓oZald, ↓oAald, ↓oIast, ↓oLast, ↓oZast, ↓oAast, ↓oCast, ↓oObji, ↓oRetI, ↓oRetZ, ↓oRetL, ↓oRetA, ↓oRetV, ↓oInvS, ↓oInvV, ↓oInvI, ↓oFail, ↓oAcEq, ↓oGetE, ↓oAlenE, ↓oAastO, ↓oCopyL, ↓oCopyK, ↓oInvS8, ↓oLdcS, ↓oMmax, ↓oMmin, ↓oMabs, ↓oAlenE, ↓popI_I, ↓popL_L, ↓popR_R, ↓popS_I, ↓popS_R, ↓popN_0, ↓popN_s, ↓popT_0, ↓popT_1, ↓popT_2, ↓popT_3, ↓gI_0, ↓gI_s, ↓gL_0, ↓gL_s, ↓gR_0, ↓gR_s, ↓blk_s, ↓blk_0, goE_0, goE_1, goE_2, bst_0, bst_1, bst_2, TTf_e, st1_0, st1_1, st1_s, st2_0, st2_1, st2_s, jk_I, jk_R, jk_L, jk_J, mkT_0, mkT_1, mkT_2, mkT_3, sw_n, sw_c, nJ_n, nJ_I, nJ_L, nJ_R, stW_n, stW_I, stW_R, stW_L, true_and, and_true, Nat.reduceAdd, Nat.reduceLeDiff, Int.reduceAdd, up_at, Int.reduceEq, Int.reduceLE, Int.reduceLT, false_and, and_false, and_self, if_false, if_true, Int.reduceNeg, List.cons_append, List.nil_append, not_true_eq_false, not_false_eq_true, false_implies, true_implies, implies_true, true_or, or_true, false_or, or_false, ↓oIaldX, aL_law_910, aL_law_911, aL_law_912, aL_law_913, aL_law_914, aL_law_915, aL_law_916, aL_law_917, aL_law_918, aL_law_919, aL_law_920, aL_law_921, aL_law_922, aL_law_923, aL_law_924, aL_law_925, aL_law_926, aL_law_927, aL_law_928, aL_law_929, aL_law_930, aL_law_931, aL_law_934, aL_law_935, aL_law_936, aL_law_937, aL_law_938, aL_law_939, aL_law_940, aL_law_941, aL_law_942, aL_law_943, aL_law_944, aL_law_945, aL_law_946, aL_law_947, aL_law_948, aL_law_949, aL_law_950, aL_law_951, aL_law_952, aL_law_953, aL_law_954, aL_law_955, aL_law_958, aL_law_959, aL_law_962, aL_law_963, aL_law_1718, aL_law_1721, k1, h9, e1, p1, q1, e2, p2, q2, e3, p3, q3, e4, p4, q4, e5, p5, q5, e6, s1, s2, s3, s4, s5]
  refine GG.of0 (Mt.scr h9 (c_results (d := d + 66) hrc i0 iF (fun r9 g3 => ?_)))
  have hmk1 := hmk
  have g1 := hrc
  have g2 := Out_rfl S
  have ms1 := MS_out hms g2
  have m1 := MK_o hmk1
  have t1 := (g3 (i + 1) (by omega) (by omega)).trans s1
  have t2 := (g3 (i + 2) (by omega) (by omega)).trans s2
  have t3 := (g3 (i + 3) (by omega) (by omega)).trans s3
  have t4 := (g3 (i + 4) (by omega) (by omega)).trans s4
  have t5 := (g3 (i + 5) (by omega) (by omega)).trans s5
  refine TT.go zL_law 200 ?_
  simp only [↓oPush, ↓oIload, ↓oLload, ↓oRload, ↓oIstore, ↓oLstore, ↓oRstore, ↓oIinc, ↓oIadd, ↓oIsub, ↓oImul, ↓oIand, ↓oIor, ↓oIshl, ↓oIshr, ↓oIushr, ↓oIdiv, ↓oIrem, ↓oIneg, ↓oLadd, ↓oLmul, ↓oLand, ↓oLor, ↓oLxor, ↓oLshl, ↓oLshr, ↓oLushr, ↓oLcmp, ↓oI2l, ↓oL2i, ↓oI2b, ↓oI2s, ↓oDup, ↓oPop, ↓oDupx1, ↓oDupx2, ↓oDup2, ↓oGoto, ↓oIfEq, ↓oIfNe, ↓oIfLt, ↓oIfGe, ↓oIfGt, ↓oIfLe, ↓oIcEq, ↓oIcNe, ↓oIcLt, ↓oIcGe, ↓oIcGt, ↓oIcLe, ↓oIfnull, ↓oIfnonnull, ↓oSwitch, ↓oGetf, ↓oPutf, ↓oNew, ↓oNewa, ↓oAlen, ↓oIald, ↓oLald, ↓oZald, ↓oAald, ↓oIast, ↓oLast, ↓oZast, ↓oAast, ↓oCast, ↓oObji, ↓oRetI, ↓oRetZ, ↓oRetL, ↓oRetA, ↓oRetV, ↓oInvS, ↓oInvV, ↓oInvI, ↓oFail, ↓oAcEq, ↓oGetE, ↓oAlenE, ↓oAastO, ↓oCopyL, ↓oCopyK, ↓oInvS8, ↓oLdcS, ↓oMmax, ↓oMmin, ↓oMabs, ↓oAlenE, ↓popI_I, ↓popL_L, ↓popR_R, ↓popS_I, ↓popS_R, ↓popN_0, ↓popN_s, ↓popT_0, ↓popT_1, ↓popT_2, ↓popT_3, ↓gI_0, ↓gI_s, ↓gL_0, ↓gL_s, ↓gR_0, ↓gR_s, ↓blk_s, ↓blk_0, goE_0, goE_1, goE_2, bst_0, bst_1, bst_2, TTf_e, st1_0, st1_1, st1_s, st2_0, st2_1, st2_s, jk_I, jk_R, jk_L, jk_J, mkT_0, mkT_1, mkT_2, mkT_3, sw_n, sw_c, nJ_n, nJ_I, nJ_L, nJ_R, stW_n, stW_I, stW_R, stW_L, true_and, and_true, Nat.reduceAdd, Nat.reduceLeDiff, Int.reduceAdd, up_at, Int.reduceEq, Int.reduceLE, Int.reduceLT, false_and, and_false, and_self, if_false, if_true, Int.reduceNeg, List.cons_append, List.nil_append, not_true_eq_false, not_false_eq_true, false_implies, true_implies, implies_true, true_or, or_true, false_or, or_false, ↓oIaldX, aL_law_910, aL_law_911, aL_law_912, aL_law_913, aL_law_914, aL_law_915, aL_law_916, aL_law_917, aL_law_918, aL_law_919, aL_law_920, aL_law_921, aL_law_922, aL_law_923, aL_law_924, aL_law_925, aL_law_926, aL_law_927, aL_law_928, aL_law_929, aL_law_930, aL_law_931, aL_law_934, aL_law_935, aL_law_936, aL_law_937, aL_law_938, aL_law_939, aL_law_940, aL_law_941, aL_law_942, aL_law_943, aL_law_944, aL_law_945, aL_law_946, aL_law_947, aL_law_948, aL_law_949, aL_law_950, aL_law_951, aL_law_952, aL_law_953, aL_law_954, aL_law_955, aL_law_958, aL_law_959, aL_law_962, aL_law_963, aL_law_1718, aL_law_1721, m1, r9, e1, p1, q1, e2, p2, q2, e3, p3, q3, e4, p4, q4, e5, p5, q5, e6, s1, s2, s3, s4, s5]
  refine GG.of0 (m_results (d := d + 69) hmk1 ms1 i0 iF (fun S2 g4 => ?_))
  refine TT.go zL_law 200 ?_
  simp only [↓oPush, ↓oIload, ↓oLload, ↓oRload, ↓oIstore, ↓oLstore, ↓oRstore, ↓oIinc, ↓oIadd, ↓oIsub, ↓oImul, ↓oIand, ↓oIor, ↓oIshl, ↓oIshr, ↓oIushr, ↓oIdiv, ↓oIrem, ↓oIneg, ↓oLadd, ↓oLmul, ↓oLand, ↓oLor, ↓oLxor, ↓oLshl, ↓oLshr, ↓oLushr, ↓oLcmp, ↓oI2l, ↓oL2i, ↓oI2b, ↓oI2s, ↓oDup, ↓oPop, ↓oDupx1, ↓oDupx2, ↓oDup2, ↓oGoto, ↓oIfEq, ↓oIfNe, ↓oIfLt, ↓oIfGe, ↓oIfGt, ↓oIfLe, ↓oIcEq, ↓oIcNe, ↓oIcLt, ↓oIcGe, ↓oIcGt, ↓oIcLe, ↓oIfnull, ↓oIfnonnull, ↓oSwitch, ↓oGetf, ↓oPutf, ↓oNew, ↓oNewa, ↓oAlen, ↓oIald, ↓oLald, ↓oZald, ↓oAald, ↓oIast, ↓oLast, ↓oZast, ↓oAast, ↓oCast, ↓oObji, ↓oRetI, ↓oRetZ, ↓oRetL, ↓oRetA, ↓oRetV, ↓oInvS, ↓oInvV, ↓oInvI, ↓oFail, ↓oAcEq, ↓oGetE, ↓oAlenE, ↓oAastO, ↓oCopyL, ↓oCopyK, ↓oInvS8, ↓oLdcS, ↓oMmax, ↓oMmin, ↓oMabs, ↓oAlenE, ↓popI_I, ↓popL_L, ↓popR_R, ↓popS_I, ↓popS_R, ↓popN_0, ↓popN_s, ↓popT_0, ↓popT_1, ↓popT_2, ↓popT_3, ↓gI_0, ↓gI_s, ↓gL_0, ↓gL_s, ↓gR_0, ↓gR_s, ↓blk_s, ↓blk_0, goE_0, goE_1, goE_2, bst_0, bst_1, bst_2, TTf_e, st1_0, st1_1, st1_s, st2_0, st2_1, st2_s, jk_I, jk_R, jk_L, jk_J, mkT_0, mkT_1, mkT_2, mkT_3, sw_n, sw_c, nJ_n, nJ_I, nJ_L, nJ_R, stW_n, stW_I, stW_R, stW_L, true_and, and_true, Nat.reduceAdd, Nat.reduceLeDiff, Int.reduceAdd, up_at, Int.reduceEq, Int.reduceLE, Int.reduceLT, false_and, and_false, and_self, if_false, if_true, Int.reduceNeg, List.cons_append, List.nil_append, not_true_eq_false, not_false_eq_true, false_implies, true_implies, implies_true, true_or, or_true, false_or, or_false, ↓oIaldX, aL_law_910, aL_law_911, aL_law_912, aL_law_913, aL_law_914, aL_law_915, aL_law_916, aL_law_917, aL_law_918, aL_law_919, aL_law_920, aL_law_921, aL_law_922, aL_law_923, aL_law_924, aL_law_925, aL_law_926, aL_law_927, aL_law_928, aL_law_929, aL_law_930, aL_law_931, aL_law_934, aL_law_935, aL_law_936, aL_law_937, aL_law_938, aL_law_939, aL_law_940, aL_law_941, aL_law_942, aL_law_943, aL_law_944, aL_law_945, aL_law_946, aL_law_947, aL_law_948, aL_law_949, aL_law_950, aL_law_951, aL_law_952, aL_law_953, aL_law_954, aL_law_955, aL_law_958, aL_law_959, aL_law_962, aL_law_963, aL_law_1718, aL_law_1721, m1, r9, e1, p1, q1, e2, p2, q2, e3, p3, q3, e4, p4, q4, e5, p5, q5, e6, s1, s2, s3, s4, s5, lcmpv_s]
  exact hgo _ _ _ _ _ _ (by omega) (by omega) (LI_next h g1 hmk1 r9 g3 g4 hI hO)
set_option maxRecDepth 20000 in
theorem lw_c18 {d : Nat} {L i : Int} {T : Int → Int} {μ : ST} {R : RT} {K : KT} {S : ST} {cb nb : Nat} {Q : QF} (h : LI L T μ R K S) (hL : 0 ≤ L ∧ L ≤ 3072) (hT : ∀ j, 0 ≤ j → j < L → in32 (T j)) (hi : 0 ≤ i ∧ i + 6 ≤ L) (hc : 8 ≤ cb) (hn : 200 ≤ nb) (hgo : ∀ μ' R' K' S' cb' nb', cb ≤ cb' + 8 → nb ≤ nb' + 200 → LI L T μ' R' K' S' → TT mL_law (d + 72) 18 [vR 9, vR 1, vR 1000, vI (i + 6)] [] K' S' cb' nb' Q) : TT mL_law (d + 72) 964 [vR 9, vR 1, vR 1000, vI i] [] K S cb nb Q := by
  obtain ⟨hrc, hms, hmk, hI, hO, h9, hs⟩ := id h
  obtain ⟨⟨i0, iS, iA, iP, iF, iK, iU, iR⟩, iC⟩ := id hI
  have e1 : w32 (i + 1) = i + 1 := w32_id (by unfold in32; omega)
  have e2 : w32 (i + 2) = i + 2 := w32_id (by unfold in32; omega)
  have e3 : w32 (i + 3) = i + 3 := w32_id (by unfold in32; omega)
  have e4 : w32 (i + 4) = i + 4 := w32_id (by unfold in32; omega)
  have e5 : w32 (i + 5) = i + 5 := w32_id (by unfold in32; omega)
  have e6 : w32 (i + 6) = i + 6 := w32_id (by unfold in32; omega)
  have p1 : (0 ≤ i + 1) = True := eq_true (by omega)
  have q1 : (i + 1 < L) = True := eq_true (by omega)
  have s1 := hs (i + 1) (by omega) (by omega)
  have p2 : (0 ≤ i + 2) = True := eq_true (by omega)
  have q2 : (i + 2 < L) = True := eq_true (by omega)
  have s2 := hs (i + 2) (by omega) (by omega)
  have p3 : (0 ≤ i + 3) = True := eq_true (by omega)
  have q3 : (i + 3 < L) = True := eq_true (by omega)
  have s3 := hs (i + 3) (by omega) (by omega)
  have p4 : (0 ≤ i + 4) = True := eq_true (by omega)
  have q4 : (i + 4 < L) = True := eq_true (by omega)
  have s4 := hs (i + 4) (by omega) (by omega)
  have p5 : (0 ≤ i + 5) = True := eq_true (by omega)
  have q5 : (i + 5 < L) = True := eq_true (by omega)
  have s5 := hs (i + 5) (by omega) (by omega)
  have k1 := CK_1 hrc.1
  refine TT.go zL_law 200 ?_
  simp only [↓oPush, ↓oIload, ↓oLload, ↓oRload, ↓oIstore, ↓oLstore, ↓oRstore, ↓oIinc, ↓oIadd, ↓oIsub, ↓oImul, ↓oIand, ↓oIor, ↓oIshl, ↓oIshr, ↓oIushr, ↓oIdiv, ↓oIrem, ↓oIneg, ↓oLadd, ↓oLmul, ↓oLand, ↓oLor, ↓oLxor, ↓oLshl, ↓oLshr, ↓oLushr, ↓oLcmp, ↓oI2l, ↓oL2i, ↓oI2b, ↓oI2s, ↓oDup, ↓oPop, ↓oDupx1, ↓oDupx2, ↓oDup2, ↓oGoto, ↓oIfEq, ↓oIfNe, ↓oIfLt, ↓oIfGe, ↓oIfGt, ↓oIfLe, ↓oIcEq, ↓oIcNe, ↓oIcLt, ↓oIcGe, ↓oIcGt, ↓oIcLe, ↓oIfnull, ↓oIfnonnull, ↓oSwitch, ↓oGetf, ↓oPutf, ↓oNew, ↓oNewa, ↓oAlen, ↓oIald, ↓oLald, ↓oZald, ↓oAald, ↓oIast, ↓oLast, ↓oZast, ↓oAast, ↓oCast, ↓oObji, ↓oRetI, ↓oRetZ, ↓oRetL, ↓oRetA, ↓oRetV, ↓oInvS, ↓oInvV, ↓oInvI, ↓oFail, ↓oAcEq, ↓oGetE, ↓oAlenE, ↓oAastO, ↓oCopyL, ↓oCopyK, ↓oInvS8, ↓oLdcS, ↓oMmax, ↓oMmin, ↓oMabs, ↓oAlenE, ↓popI_I, ↓popL_L, ↓popR_R, ↓popS_I, ↓popS_R, ↓popN_0, ↓popN_s, ↓popT_0, ↓popT_1, ↓popT_2, ↓popT_3, ↓gI_0, ↓gI_s, ↓gL_0, ↓gL_s, ↓gR_0, ↓gR_s, ↓blk_s, ↓blk_0, goE_0, goE_1, goE_2, bst_0, bst_1, bst_2, TTf_e, st1_0, st1_1, st1_s, st2_0, st2_1, st2_s, jk_I, jk_R, jk_L, jk_J, mkT_0, mkT_1, mkT_2, mkT_3, sw_n, sw_c, nJ_n, nJ_I, nJ_L, nJ_R, stW_n, stW_I, stW_R, stW_L, true_and, and_true, Nat.reduceAdd, Nat.reduceLeDiff, Int.reduceAdd, up_at, Int.reduceEq, Int.reduceLE, Int.reduceLT, false_and, and_false, and_self, if_false, if_true, Int.reduceNeg, List.cons_append, List.nil_append, not_true_eq_false, not_false_eq_true, false_implies, true_implies, implies_true, true_or, or_true, false_or, or_false, ↓oIaldX, aL_law_964, aL_law_965, aL_law_966, aL_law_967, aL_law_968, aL_law_969, aL_law_970, aL_law_971, aL_law_972, aL_law_973, aL_law_974, aL_law_975, aL_law_978, aL_law_979, aL_law_980, aL_law_981, aL_law_982, aL_law_983, aL_law_984, aL_law_985, aL_law_986, aL_law_987, aL_law_988, aL_law_989, aL_law_992, aL_law_995, aL_law_996, aL_law_1718, aL_law_1721, k1, h9, e1, p1, q1, e2, p2, q2, e3, p3, q3, e4, p4, q4, e5, p5, q5, e6, s1, s2, s3, s4, s5]
  refine GG.of0 (Mt.scr h9 (c_measure (d := d + 69) hrc (fun S1 g1 g2 r9 g3 => ?_)))
  have hmk1 := hmk
  have ms1 := MS_out hms g2
  have m1 := MK_o hmk1
  have t1 := (g3 (i + 1) (by omega) (by omega)).trans s1
  have t2 := (g3 (i + 2) (by omega) (by omega)).trans s2
  have t3 := (g3 (i + 3) (by omega) (by omega)).trans s3
  have t4 := (g3 (i + 4) (by omega) (by omega)).trans s4
  have t5 := (g3 (i + 5) (by omega) (by omega)).trans s5
  refine TT.go zL_law 200 ?_
  simp only [↓oPush, ↓oIload, ↓oLload, ↓oRload, ↓oIstore, ↓oLstore, ↓oRstore, ↓oIinc, ↓oIadd, ↓oIsub, ↓oImul, ↓oIand, ↓oIor, ↓oIshl, ↓oIshr, ↓oIushr, ↓oIdiv, ↓oIrem, ↓oIneg, ↓oLadd, ↓oLmul, ↓oLand, ↓oLor, ↓oLxor, ↓oLshl, ↓oLshr, ↓oLushr, ↓oLcmp, ↓oI2l, ↓oL2i, ↓oI2b, ↓oI2s, ↓oDup, ↓oPop, ↓oDupx1, ↓oDupx2, ↓oDup2, ↓oGoto, ↓oIfEq, ↓oIfNe, ↓oIfLt, ↓oIfGe, ↓oIfGt, ↓oIfLe, ↓oIcEq, ↓oIcNe, ↓oIcLt, ↓oIcGe, ↓oIcGt, ↓oIcLe, ↓oIfnull, ↓oIfnonnull, ↓oSwitch, ↓oGetf, ↓oPutf, ↓oNew, ↓oNewa, ↓oAlen, ↓oIald, ↓oLald, ↓oZald, ↓oAald, ↓oIast, ↓oLast, ↓oZast, ↓oAast, ↓oCast, ↓oObji, ↓oRetI, ↓oRetZ, ↓oRetL, ↓oRetA, ↓oRetV, ↓oInvS, ↓oInvV, ↓oInvI, ↓oFail, ↓oAcEq, ↓oGetE, ↓oAlenE, ↓oAastO, ↓oCopyL, ↓oCopyK, ↓oInvS8, ↓oLdcS, ↓oMmax, ↓oMmin, ↓oMabs, ↓oAlenE, ↓popI_I, ↓popL_L, ↓popR_R, ↓popS_I, ↓popS_R, ↓popN_0, ↓popN_s, ↓popT_0, ↓popT_1, ↓popT_2, ↓popT_3, ↓gI_0, ↓gI_s, ↓gL_0, ↓gL_s, ↓gR_0, ↓gR_s, ↓blk_s, ↓blk_0, goE_0, goE_1, goE_2, bst_0, bst_1, bst_2, TTf_e, st1_0, st1_1, st1_s, st2_0, st2_1, st2_s, jk_I, jk_R, jk_L, jk_J, mkT_0, mkT_1, mkT_2, mkT_3, sw_n, sw_c, nJ_n, nJ_I, nJ_L, nJ_R, stW_n, stW_I, stW_R, stW_L, true_and, and_true, Nat.reduceAdd, Nat.reduceLeDiff, Int.reduceAdd, up_at, Int.reduceEq, Int.reduceLE, Int.reduceLT, false_and, and_false, and_self, if_false, if_true, Int.reduceNeg, List.cons_append, List.nil_append, not_true_eq_false, not_false_eq_true, false_implies, true_implies, implies_true, true_or, or_true, false_or, or_false, ↓oIaldX, aL_law_964, aL_law_965, aL_law_966, aL_law_967, aL_law_968, aL_law_969, aL_law_970, aL_law_971, aL_law_972, aL_law_973, aL_law_974, aL_law_975, aL_law_978, aL_law_979, aL_law_980, aL_law_981, aL_law_982, aL_law_983, aL_law_984, aL_law_985, aL_law_986, aL_law_987, aL_law_988, aL_law_989, aL_law_992, aL_law_995, aL_law_996, aL_law_1718, aL_law_1721, m1, r9, e1, p1, q1, e2, p2, q2, e3, p3, q3, e4, p4, q4, e5, p5, q5, e6, t1, t2, t3, t4, t5]
  refine GG.of0 (m_measure (d := d + 69) hmk1 ms1 (fun S2 g4 => ?_))
  refine TT.go zL_law 200 ?_
  simp only [↓oPush, ↓oIload, ↓oLload, ↓oRload, ↓oIstore, ↓oLstore, ↓oRstore, ↓oIinc, ↓oIadd, ↓oIsub, ↓oImul, ↓oIand, ↓oIor, ↓oIshl, ↓oIshr, ↓oIushr, ↓oIdiv, ↓oIrem, ↓oIneg, ↓oLadd, ↓oLmul, ↓oLand, ↓oLor, ↓oLxor, ↓oLshl, ↓oLshr, ↓oLushr, ↓oLcmp, ↓oI2l, ↓oL2i, ↓oI2b, ↓oI2s, ↓oDup, ↓oPop, ↓oDupx1, ↓oDupx2, ↓oDup2, ↓oGoto, ↓oIfEq, ↓oIfNe, ↓oIfLt, ↓oIfGe, ↓oIfGt, ↓oIfLe, ↓oIcEq, ↓oIcNe, ↓oIcLt, ↓oIcGe, ↓oIcGt, ↓oIcLe, ↓oIfnull, ↓oIfnonnull, ↓oSwitch, ↓oGetf, ↓oPutf, ↓oNew, ↓oNewa, ↓oAlen, ↓oIald, ↓oLald, ↓oZald, ↓oAald, ↓oIast, ↓oLast, ↓oZast, ↓oAast, ↓oCast, ↓oObji, ↓oRetI, ↓oRetZ, ↓oRetL, ↓oRetA, ↓oRetV, ↓oInvS, ↓oInvV, ↓oInvI, ↓oFail, ↓oAcEq, ↓oGetE, ↓oAlenE, ↓oAastO, ↓oCopyL, ↓oCopyK, ↓oInvS8, ↓oLdcS, ↓oMmax, ↓oMmin, ↓oMabs, ↓oAlenE, ↓popI_I, ↓popL_L, ↓popR_R, ↓popS_I, ↓popS_R, ↓popN_0, ↓popN_s, ↓popT_0, ↓popT_1, ↓popT_2, ↓popT_3, ↓gI_0, ↓gI_s, ↓gL_0, ↓gL_s, ↓gR_0, ↓gR_s, ↓blk_s, ↓blk_0, goE_0, goE_1, goE_2, bst_0, bst_1, bst_2, TTf_e, st1_0, st1_1, st1_s, st2_0, st2_1, st2_s, jk_I, jk_R, jk_L, jk_J, mkT_0, mkT_1, mkT_2, mkT_3, sw_n, sw_c, nJ_n, nJ_I, nJ_L, nJ_R, stW_n, stW_I, stW_R, stW_L, true_and, and_true, Nat.reduceAdd, Nat.reduceLeDiff, Int.reduceAdd, up_at, Int.reduceEq, Int.reduceLE, Int.reduceLT, false_and, and_false, and_self, if_false, if_true, Int.reduceNeg, List.cons_append, List.nil_append, not_true_eq_false, not_false_eq_true, false_implies, true_implies, implies_true, true_or, or_true, false_or, or_false, ↓oIaldX, aL_law_964, aL_law_965, aL_law_966, aL_law_967, aL_law_968, aL_law_969, aL_law_970, aL_law_971, aL_law_972, aL_law_973, aL_law_974, aL_law_975, aL_law_978, aL_law_979, aL_law_980, aL_law_981, aL_law_982, aL_law_983, aL_law_984, aL_law_985, aL_law_986, aL_law_987, aL_law_988, aL_law_989, aL_law_992, aL_law_995, aL_law_996, aL_law_1718, aL_law_1721, m1, r9, e1, p1, q1, e2, p2, q2, e3, p3, q3, e4, p4, q4, e5, p5, q5, e6, t1, t2, t3, t4, t5]
  exact hgo _ _ _ _ _ _ (by omega) (by omega) (LI_next h g1 hmk1 r9 g3 g4 (Iv_measure hI) hO)
set_option maxRecDepth 20000 in
theorem lw_c19 {d : Nat} {L i : Int} {T : Int → Int} {μ : ST} {R : RT} {K : KT} {S : ST} {cb nb : Nat} {Q : QF} (h : LI L T μ R K S) (hL : 0 ≤ L ∧ L ≤ 3072) (hT : ∀ j, 0 ≤ j → j < L → in32 (T j)) (hi : 0 ≤ i ∧ i + 6 ≤ L) (hc : 8 ≤ cb) (hn : 200 ≤ nb) (hgo : ∀ μ' R' K' S' cb' nb', cb ≤ cb' + 8 → nb ≤ nb' + 200 → LI L T μ' R' K' S' → TT mL_law (d + 72) 18 [vR 9, vR 1, vR 1000, vI (i + 6)] [] K' S' cb' nb' Q) : TT mL_law (d + 72) 997 [vR 9, vR 1, vR 1000, vI i] [] K S cb nb Q := by
  obtain ⟨hrc, hms, hmk, hI, hO, h9, hs⟩ := id h
  obtain ⟨⟨i0, iS, iA, iP, iF, iK, iU, iR⟩, iC⟩ := id hI
  have e1 : w32 (i + 1) = i + 1 := w32_id (by unfold in32; omega)
  have e2 : w32 (i + 2) = i + 2 := w32_id (by unfold in32; omega)
  have e3 : w32 (i + 3) = i + 3 := w32_id (by unfold in32; omega)
  have e4 : w32 (i + 4) = i + 4 := w32_id (by unfold in32; omega)
  have e5 : w32 (i + 5) = i + 5 := w32_id (by unfold in32; omega)
  have e6 : w32 (i + 6) = i + 6 := w32_id (by unfold in32; omega)
  have p1 : (0 ≤ i + 1) = True := eq_true (by omega)
  have q1 : (i + 1 < L) = True := eq_true (by omega)
  have s1 := hs (i + 1) (by omega) (by omega)
  have p2 : (0 ≤ i + 2) = True := eq_true (by omega)
  have q2 : (i + 2 < L) = True := eq_true (by omega)
  have s2 := hs (i + 2) (by omega) (by omega)
  have p3 : (0 ≤ i + 3) = True := eq_true (by omega)
  have q3 : (i + 3 < L) = True := eq_true (by omega)
  have s3 := hs (i + 3) (by omega) (by omega)
  have p4 : (0 ≤ i + 4) = True := eq_true (by omega)
  have q4 : (i + 4 < L) = True := eq_true (by omega)
  have s4 := hs (i + 4) (by omega) (by omega)
  have p5 : (0 ≤ i + 5) = True := eq_true (by omega)
  have q5 : (i + 5 < L) = True := eq_true (by omega)
  have s5 := hs (i + 5) (by omega) (by omega)
  have k1 := CK_1 hrc.1
  refine TT.go zL_law 200 ?_
  simp only [↓oPush, ↓oIload, ↓oLload, ↓oRload, ↓oIstore, ↓oLstore, ↓oRstore, ↓oIinc, ↓oIadd, ↓oIsub, ↓oImul, ↓oIand, ↓oIor, ↓oIshl, ↓oIshr, ↓oIushr, ↓oIdiv, ↓oIrem, ↓oIneg, ↓oLadd, ↓oLmul, ↓oLand, ↓oLor, ↓oLxor, ↓oLshl, ↓oLshr, ↓oLushr, ↓oLcmp, ↓oI2l, ↓oL2i, ↓oI2b, ↓oI2s, ↓oDup, ↓oPop, ↓oDupx1, ↓oDupx2, ↓oDup2, ↓oGoto, ↓oIfEq, ↓oIfNe, ↓oIfLt, ↓oIfGe, ↓oIfGt, ↓oIfLe, ↓oIcEq, ↓oIcNe, ↓oIcLt, ↓oIcGe, ↓oIcGt, ↓oIcLe, ↓oIfnull, ↓oIfnonnull, ↓oSwitch, ↓oGetf, ↓oPutf, ↓oNew, ↓oNewa, ↓oAlen, ↓oIald, ↓oLald, ↓oZald, ↓oAald, ↓oIast, ↓oLast, ↓oZast, ↓oAast, ↓oCast, ↓oObji, ↓oRetI, ↓oRetZ, ↓oRetL, ↓oRetA, ↓oRetV, ↓oInvS, ↓oInvV, ↓oInvI, ↓oFail, ↓oAcEq, ↓oGetE, ↓oAlenE, ↓oAastO, ↓oCopyL, ↓oCopyK, ↓oInvS8, ↓oLdcS, ↓oMmax, ↓oMmin, ↓oMabs, ↓oAlenE, ↓popI_I, ↓popL_L, ↓popR_R, ↓popS_I, ↓popS_R, ↓popN_0, ↓popN_s, ↓popT_0, ↓popT_1, ↓popT_2, ↓popT_3, ↓gI_0, ↓gI_s, ↓gL_0, ↓gL_s, ↓gR_0, ↓gR_s, ↓blk_s, ↓blk_0, goE_0, goE_1, goE_2, bst_0, bst_1, bst_2, TTf_e, st1_0, st1_1, st1_s, st2_0, st2_1, st2_s, jk_I, jk_R, jk_L, jk_J, mkT_0, mkT_1, mkT_2, mkT_3, sw_n, sw_c, nJ_n, nJ_I, nJ_L, nJ_R, stW_n, stW_I, stW_R, stW_L, true_and, and_true, Nat.reduceAdd, Nat.reduceLeDiff, Int.reduceAdd, up_at, Int.reduceEq, Int.reduceLE, Int.reduceLT, false_and, and_false, and_self, if_false, if_true, Int.reduceNeg, List.cons_append, List.nil_append, not_true_eq_false, not_false_eq_true, false_implies, true_implies, implies_true, true_or, or_true, false_or, or_false, ↓oIaldX, aL_law_997, aL_law_998, aL_law_999, aL_law_1000, aL_law_1001, aL_law_1002, aL_law_1003, aL_law_1004, aL_law_1005, aL_law_1006, aL_law_1007, aL_law_1008, aL_law_1011, aL_law_1012, aL_law_1013, aL_law_1014, aL_law_1015, aL_law_1016, aL_law_1017, aL_law_1018, aL_law_1019, aL_law_1020, aL_law_1021, aL_law_1022, aL_law_1025, aL_law_1028, aL_law_1029, aL_law_1718, aL_law_1721, k1, h9, e1, p1, q1, e2, p2, q2, e3, p3, q3, e4, p4, q4, e5, p5, q5, e6, s1, s2, s3, s4, s5]
  refine GG.of (mc := 4) (ms := 130) (by omega) (by omega) (Mt.scr h9 (c_rule (d := d + 0) hrc iS (fun K1 S1 g1 g2 gk r9 g3 => ?_)))
  have hmk1 := MK_out hmk gk
  have ms1 := MS_out hms g2
  have m1 := MK_o hmk1
  have t1 := (g3 (i + 1) (by omega) (by omega)).trans s1
  have t2 := (g3 (i + 2) (by omega) (by omega)).trans s2
  have t3 := (g3 (i + 3) (by omega) (by omega)).trans s3
  have t4 := (g3 (i + 4) (by omega) (by omega)).trans s4
  have t5 := (g3 (i + 5) (by omega) (by omega)).trans s5
  refine TT.go zL_law 200 ?_
  simp only [↓oPush, ↓oIload, ↓oLload, ↓oRload, ↓oIstore, ↓oLstore, ↓oRstore, ↓oIinc, ↓oIadd, ↓oIsub, ↓oImul, ↓oIand, ↓oIor, ↓oIshl, ↓oIshr, ↓oIushr, ↓oIdiv, ↓oIrem, ↓oIneg, ↓oLadd, ↓oLmul, ↓oLand, ↓oLor, ↓oLxor, ↓oLshl, ↓oLshr, ↓oLushr, ↓oLcmp, ↓oI2l, ↓oL2i, ↓oI2b, ↓oI2s, ↓oDup, ↓oPop, ↓oDupx1, ↓oDupx2, ↓oDup2, ↓oGoto, ↓oIfEq, ↓oIfNe, ↓oIfLt, ↓oIfGe, ↓oIfGt, ↓oIfLe, ↓oIcEq, ↓oIcNe, ↓oIcLt, ↓oIcGe, ↓oIcGt, ↓oIcLe, ↓oIfnull, ↓oIfnonnull, ↓oSwitch, ↓oGetf, ↓oPutf, ↓oNew, ↓oNewa, ↓oAlen, ↓oIald, ↓oLald, ↓oZald, ↓oAald, ↓oIast, ↓oLast, ↓oZast, ↓oAast, ↓oCast, ↓oObji, ↓oRetI, ↓oRetZ, ↓oRetL, ↓oRetA, ↓oRetV, ↓oInvS, ↓oInvV, ↓oInvI, ↓oFail, ↓oAcEq, ↓oGetE, ↓oAlenE, ↓oAastO, ↓oCopyL, ↓oCopyK, ↓oInvS8, ↓oLdcS, ↓oMmax, ↓oMmin, ↓oMabs, ↓oAlenE, ↓popI_I, ↓popL_L, ↓popR_R, ↓popS_I, ↓popS_R, ↓popN_0, ↓popN_s, ↓popT_0, ↓popT_1, ↓popT_2, ↓popT_3, ↓gI_0, ↓gI_s, ↓gL_0, ↓gL_s, ↓gR_0, ↓gR_s, ↓blk_s, ↓blk_0, goE_0, goE_1, goE_2, bst_0, bst_1, bst_2, TTf_e, st1_0, st1_1, st1_s, st2_0, st2_1, st2_s, jk_I, jk_R, jk_L, jk_J, mkT_0, mkT_1, mkT_2, mkT_3, sw_n, sw_c, nJ_n, nJ_I, nJ_L, nJ_R, stW_n, stW_I, stW_R, stW_L, true_and, and_true, Nat.reduceAdd, Nat.reduceLeDiff, Int.reduceAdd, up_at, Int.reduceEq, Int.reduceLE, Int.reduceLT, false_and, and_false, and_self, if_false, if_true, Int.reduceNeg, List.cons_append, List.nil_append, not_true_eq_false, not_false_eq_true, false_implies, true_implies, implies_true, true_or, or_true, false_or, or_false, ↓oIaldX, aL_law_997, aL_law_998, aL_law_999, aL_law_1000, aL_law_1001, aL_law_1002, aL_law_1003, aL_law_1004, aL_law_1005, aL_law_1006, aL_law_1007, aL_law_1008, aL_law_1011, aL_law_1012, aL_law_1013, aL_law_1014, aL_law_1015, aL_law_1016, aL_law_1017, aL_law_1018, aL_law_1019, aL_law_1020, aL_law_1021, aL_law_1022, aL_law_1025, aL_law_1028, aL_law_1029, aL_law_1718, aL_law_1721, m1, r9, e1, p1, q1, e2, p2, q2, e3, p3, q3, e4, p4, q4, e5, p5, q5, e6, t1, t2, t3, t4, t5]
  refine GG.of0 (m_rule (d := d + 64) hmk1 ms1 i0 iS (fun μ2 S2 g4 hu => ?_))
  refine TT.go zL_law 200 ?_
  simp only [↓oPush, ↓oIload, ↓oLload, ↓oRload, ↓oIstore, ↓oLstore, ↓oRstore, ↓oIinc, ↓oIadd, ↓oIsub, ↓oImul, ↓oIand, ↓oIor, ↓oIshl, ↓oIshr, ↓oIushr, ↓oIdiv, ↓oIrem, ↓oIneg, ↓oLadd, ↓oLmul, ↓oLand, ↓oLor, ↓oLxor, ↓oLshl, ↓oLshr, ↓oLushr, ↓oLcmp, ↓oI2l, ↓oL2i, ↓oI2b, ↓oI2s, ↓oDup, ↓oPop, ↓oDupx1, ↓oDupx2, ↓oDup2, ↓oGoto, ↓oIfEq, ↓oIfNe, ↓oIfLt, ↓oIfGe, ↓oIfGt, ↓oIfLe, ↓oIcEq, ↓oIcNe, ↓oIcLt, ↓oIcGe, ↓oIcGt, ↓oIcLe, ↓oIfnull, ↓oIfnonnull, ↓oSwitch, ↓oGetf, ↓oPutf, ↓oNew, ↓oNewa, ↓oAlen, ↓oIald, ↓oLald, ↓oZald, ↓oAald, ↓oIast, ↓oLast, ↓oZast, ↓oAast, ↓oCast, ↓oObji, ↓oRetI, ↓oRetZ, ↓oRetL, ↓oRetA, ↓oRetV, ↓oInvS, ↓oInvV, ↓oInvI, ↓oFail, ↓oAcEq, ↓oGetE, ↓oAlenE, ↓oAastO, ↓oCopyL, ↓oCopyK, ↓oInvS8, ↓oLdcS, ↓oMmax, ↓oMmin, ↓oMabs, ↓oAlenE, ↓popI_I, ↓popL_L, ↓popR_R, ↓popS_I, ↓popS_R, ↓popN_0, ↓popN_s, ↓popT_0, ↓popT_1, ↓popT_2, ↓popT_3, ↓gI_0, ↓gI_s, ↓gL_0, ↓gL_s, ↓gR_0, ↓gR_s, ↓blk_s, ↓blk_0, goE_0, goE_1, goE_2, bst_0, bst_1, bst_2, TTf_e, st1_0, st1_1, st1_s, st2_0, st2_1, st2_s, jk_I, jk_R, jk_L, jk_J, mkT_0, mkT_1, mkT_2, mkT_3, sw_n, sw_c, nJ_n, nJ_I, nJ_L, nJ_R, stW_n, stW_I, stW_R, stW_L, true_and, and_true, Nat.reduceAdd, Nat.reduceLeDiff, Int.reduceAdd, up_at, Int.reduceEq, Int.reduceLE, Int.reduceLT, false_and, and_false, and_self, if_false, if_true, Int.reduceNeg, List.cons_append, List.nil_append, not_true_eq_false, not_false_eq_true, false_implies, true_implies, implies_true, true_or, or_true, false_or, or_false, ↓oIaldX, aL_law_997, aL_law_998, aL_law_999, aL_law_1000, aL_law_1001, aL_law_1002, aL_law_1003, aL_law_1004, aL_law_1005, aL_law_1006, aL_law_1007, aL_law_1008, aL_law_1011, aL_law_1012, aL_law_1013, aL_law_1014, aL_law_1015, aL_law_1016, aL_law_1017, aL_law_1018, aL_law_1019, aL_law_1020, aL_law_1021, aL_law_1022, aL_law_1025, aL_law_1028, aL_law_1029, aL_law_1718, aL_law_1721, m1, r9, e1, p1, q1, e2, p2, q2, e3, p3, q3, e4, p4, q4, e5, p5, q5, e6, t1, t2, t3, t4, t5]
  by_cases hsh : isSh (T (i + 1))
  · have hsz := iS (T (i + 1)) hsh.1 hsh.2
    exact hgo _ _ _ _ _ _ (by omega) (by omega) (LI_next h (g1 μ2 hu) hmk1 r9 g3 g4 (Iv_rule hI hu) (fun r => ruR_ok (fun _ => by omega) hO r))
  · have hw : wantF μ (T (i + 1)) ≠ 0 := by rw [wantF_1 hsh]; decide
    have e := RuU_a hw hu
    have hr : μ2 1000 4 = μ 1000 4 := by rw [e]; unfold rf; rw [up_na (by decide)]
    exact hgo _ _ _ _ _ _ (by omega) (by omega) (LI_next h (Rc_R (g1 μ2 hu) (fun r r0 r1 => (ruR_n (by rw [← hr]; exact r1)).symm)) hmk1 r9 g3 g4 (by rw [e]; exact IvB_rf hI) hO)
