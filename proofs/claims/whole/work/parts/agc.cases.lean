/-! THE LAW: its cases -/
set_option maxRecDepth 20000 in
theorem lw_c20 {d : Nat} {L i : Int} {T : Int → Int} {μ : ST} {R : RT} {K : KT} {S : ST} {cb nb : Nat} {Q : QF} (h : LI L T μ R K S) (hL : 0 ≤ L ∧ L ≤ 3072) (hT : ∀ j, 0 ≤ j → j < L → in32 (T j)) (hi : 0 ≤ i ∧ i + 6 ≤ L) (hc : 8 ≤ cb) (hn : 200 ≤ nb) (hgo : ∀ μ' R' K' S' cb' nb', cb ≤ cb' + 8 → nb ≤ nb' + 200 → LI L T μ' R' K' S' → TT mL_law (d + 72) 18 [vR 9, vR 1, vR 1000, vI (i + 6)] [] K' S' cb' nb' Q) : TT mL_law (d + 72) 1030 [vR 9, vR 1, vR 1000, vI i] [] K S cb nb Q := by
  obtain ⟨hrc, hms, hmk, hI, hO, h9, hs⟩ := id h
  obtain ⟨⟨i0, iS, iA, iP, iF, iK, iU, iR⟩, iC⟩ := id hI
  have e1 : w32 (i + 1) = i + 1 := w32_id (by unfold in32; omega)
  have e2 : w32 (i + 2) = i + 2 := w32_id (by unfold in32; omega)
  have e3 : w32 (i + 3) = i + 3 := w32_id (by unfold in32; omega)
  have e4 : w32 (i + 4) = i + 4 := w32_id (by unfold in32; omega)
  have e5 : w32 (i + 5) = i + 5 := w32_id (by unfold in32; omega)
  have e6 : w32 (i + 6) = i + 6 := w32_id (by unfold in32; omega)
  have p1 : (0 ≤ i + 1) = True := eq_true (by omega)
  have q1 : (i + 1 < L) = True := eq_true (by omega)
  have s1 := hs (i + 1) (by omega) (by omega)
  have p2 : (0 ≤ i + 2) = True := eq_true (by omega)
  have q2 : (i + 2 < L) = True := eq_true (by omega)
  have s2 := hs (i + 2) (by omega) (by omega)
  have p3 : (0 ≤ i + 3) = True := eq_true (by omega)
  have q3 : (i + 3 < L) = True := eq_true (by omega)
  have s3 := hs (i + 3) (by omega) (by omega)
  have p4 : (0 ≤ i + 4) = True := eq_true (by omega)
  have q4 : (i + 4 < L) = True := eq_true (by omega)
  have s4 := hs (i + 4) (by omega) (by omega)
  have p5 : (0 ≤ i + 5) = True := eq_true (by omega)
  have q5 : (i + 5 < L) = True := eq_true (by omega)
  have s5 := hs (i + 5) (by omega) (by omega)
  have k1 := CK_1 hrc.1
  refine TT.go zL_law 200 ?_
  simp only [↓oPush, ↓oIload, ↓oLload, ↓oRload, ↓oIstore, ↓oLstore, ↓oRstore, ↓oIinc, ↓oIadd, ↓oIsub, ↓oImul, ↓oIand, ↓oIor, ↓oIshl, ↓oIshr, ↓oIushr, ↓oIdiv, ↓oIrem, ↓oIneg, ↓oLadd, ↓oLmul, ↓oLand, ↓oLor, ↓oLxor, ↓oLshl, ↓oLshr, ↓oLushr, ↓oLcmp, ↓oI2l, ↓oL2i, ↓oI2b, ↓oI2s, ↓oDup, ↓oPop, ↓oDupx1, ↓oDupx2, ↓oDup2, ↓oGoto, ↓oIfEq, ↓oIfNe, ↓oIfLt, ↓oIfGe, ↓oIfGt, ↓oIfLe, ↓oIcEq, ↓oIcNe, ↓oIcLt, ↓oIcGe, ↓oIcGt, ↓oIcLe, ↓oIfnull, ↓oIfnonnull, ↓oSwitch, ↓oGetf, ↓oPutf, ↓oNew, ↓oNewa, ↓oAlen, ↓oIald, ↓oLald, ↓oZald, ↓oAald, ↓oIast, ↓oLast, ↓oZast, ↓oAast, ↓oCast, ↓oObji, ↓oRetI, ↓oRetZ, ↓oRetL, ↓oRetA, ↓oRetV, ↓oInvS, ↓oInvV, ↓oInvI, ↓oFail, ↓oAcEq, ↓oGetE, ↓oAlenE, ↓oAastO, ↓oCopyL, ↓oCopyK, ↓oInvS8, ↓oLdcS, ↓oMmax, ↓oMmin, ↓oMabs, ↓oAlenE, ↓popI_I, ↓popL_L, ↓popR_R, ↓popS_I, ↓popS_R, ↓popN_0, ↓popN_s, ↓popT_0, ↓popT_1, ↓popT_2, ↓popT_3, ↓gI_0, ↓gI_s, ↓gL_0, ↓gL_s, ↓gR_0, ↓gR_s, ↓blk_s, ↓blk_0, goE_0, goE_1, goE_2, bst_0, bst_1, bst_2, TTf_e, st1_0, st1_1, st1_s, st2_0, st2_1, st2_s, jk_I, jk_R, jk_L, jk_J, mkT_0, mkT_1, mkT_2, mkT_3, sw_n, sw_c, nJ_n, nJ_I, nJ_L, nJ_R, stW_n, stW_I, stW_R, stW_L, true_and, and_true, Nat.reduceAdd, Nat.reduceLeDiff, Int.reduceAdd, up_at, Int.reduceEq, Int.reduceLE, Int.reduceLT, false_and, and_false, and_self, if_false, if_true, Int.reduceNeg, List.cons_append, List.nil_append, not_true_eq_false, not_false_eq_true, false_implies, true_implies, implies_true, true_or, or_true, false_or, or_false, ↓oIaldX, aL_law_1030, aL_law_1031, aL_law_1034, aL_law_1035, aL_law_1038, aL_law_1041, aL_law_1042, aL_law_1718, aL_law_1721, k1, h9, e1, p1, q1, e2, p2, q2, e3, p3, q3, e4, p4, q4, e5, p5, q5, e6, s1, s2, s3, s4, s5]
  refine GG.of0 (Mt.scr h9 (c_fault (d := d + 70) hrc (fun r9 g3 => ?_)))
  have hmk1 := hmk
  have g1 := hrc
  have g2 := Out_rfl S
  have ms1 := MS_out hms g2
  have m1 := MK_o hmk1
  have t1 := (g3 (i + 1) (by omega) (by omega)).trans s1
  have t2 := (g3 (i + 2) (by omega) (by omega)).trans s2
  have t3 := (g3 (i + 3) (by omega) (by omega)).trans s3
  have t4 := (g3 (i + 4) (by omega) (by omega)).trans s4
  have t5 := (g3 (i + 5) (by omega) (by omega)).trans s5
  refine TT.go zL_law 200 ?_
  simp only [↓oPush, ↓oIload, ↓oLload, ↓oRload, ↓oIstore, ↓oLstore, ↓oRstore, ↓oIinc, ↓oIadd, ↓oIsub, ↓oImul, ↓oIand, ↓oIor, ↓oIshl, ↓oIshr, ↓oIushr, ↓oIdiv, ↓oIrem, ↓oIneg, ↓oLadd, ↓oLmul, ↓oLand, ↓oLor, ↓oLxor, ↓oLshl, ↓oLshr, ↓oLushr, ↓oLcmp, ↓oI2l, ↓oL2i, ↓oI2b, ↓oI2s, ↓oDup, ↓oPop, ↓oDupx1, ↓oDupx2, ↓oDup2, ↓oGoto, ↓oIfEq, ↓oIfNe, ↓oIfLt, ↓oIfGe, ↓oIfGt, ↓oIfLe, ↓oIcEq, ↓oIcNe, ↓oIcLt, ↓oIcGe, ↓oIcGt, ↓oIcLe, ↓oIfnull, ↓oIfnonnull, ↓oSwitch, ↓oGetf, ↓oPutf, ↓oNew, ↓oNewa, ↓oAlen, ↓oIald, ↓oLald, ↓oZald, ↓oAald, ↓oIast, ↓oLast, ↓oZast, ↓oAast, ↓oCast, ↓oObji, ↓oRetI, ↓oRetZ, ↓oRetL, ↓oRetA, ↓oRetV, ↓oInvS, ↓oInvV, ↓oInvI, ↓oFail, ↓oAcEq, ↓oGetE, ↓oAlenE, ↓oAastO, ↓oCopyL, ↓oCopyK, ↓oInvS8, ↓oLdcS, ↓oMmax, ↓oMmin, ↓oMabs, ↓oAlenE, ↓popI_I, ↓popL_L, ↓popR_R, ↓popS_I, ↓popS_R, ↓popN_0, ↓popN_s, ↓popT_0, ↓popT_1, ↓popT_2, ↓popT_3, ↓gI_0, ↓gI_s, ↓gL_0, ↓gL_s, ↓gR_0, ↓gR_s, ↓blk_s, ↓blk_0, goE_0, goE_1, goE_2, bst_0, bst_1, bst_2, TTf_e, st1_0, st1_1, st1_s, st2_0, st2_1, st2_s, jk_I, jk_R, jk_L, jk_J, mkT_0, mkT_1, mkT_2, mkT_3, sw_n, sw_c, nJ_n, nJ_I, nJ_L, nJ_R, stW_n, stW_I, stW_R, stW_L, true_and, and_true, Nat.reduceAdd, Nat.reduceLeDiff, Int.reduceAdd, up_at, Int.reduceEq, Int.reduceLE, Int.reduceLT, false_and, and_false, and_self, if_false, if_true, Int.reduceNeg, List.cons_append, List.nil_append, not_true_eq_false, not_false_eq_true, false_implies, true_implies, implies_true, true_or, or_true, false_or, or_false, ↓oIaldX, aL_law_1030, aL_law_1031, aL_law_1034, aL_law_1035, aL_law_1038, aL_law_1041, aL_law_1042, aL_law_1718, aL_law_1721, m1, r9, e1, p1, q1, e2, p2, q2, e3, p3, q3, e4, p4, q4, e5, p5, q5, e6, s1, s2, s3, s4, s5]
  refine GG.of0 (m_fault (d := d + 70) hmk1 ms1 ?_)
  refine TT.go zL_law 200 ?_
  simp only [↓oPush, ↓oIload, ↓oLload, ↓oRload, ↓oIstore, ↓oLstore, ↓oRstore, ↓oIinc, ↓oIadd, ↓oIsub, ↓oImul, ↓oIand, ↓oIor, ↓oIshl, ↓oIshr, ↓oIushr, ↓oIdiv, ↓oIrem, ↓oIneg, ↓oLadd, ↓oLmul, ↓oLand, ↓oLor, ↓oLxor, ↓oLshl, ↓oLshr, ↓oLushr, ↓oLcmp, ↓oI2l, ↓oL2i, ↓oI2b, ↓oI2s, ↓oDup, ↓oPop, ↓oDupx1, ↓oDupx2, ↓oDup2, ↓oGoto, ↓oIfEq, ↓oIfNe, ↓oIfLt, ↓oIfGe, ↓oIfGt, ↓oIfLe, ↓oIcEq, ↓oIcNe, ↓oIcLt, ↓oIcGe, ↓oIcGt, ↓oIcLe, ↓oIfnull, ↓oIfnonnull, ↓oSwitch, ↓oGetf, ↓oPutf, ↓oNew, ↓oNewa, ↓oAlen, ↓oIald, ↓oLald, ↓oZald, ↓oAald, ↓oIast, ↓oLast, ↓oZast, ↓oAast, ↓oCast, ↓oObji, ↓oRetI, ↓oRetZ, ↓oRetL, ↓oRetA, ↓oRetV, ↓oInvS, ↓oInvV, ↓oInvI, ↓oFail, ↓oAcEq, ↓oGetE, ↓oAlenE, ↓oAastO, ↓oCopyL, ↓oCopyK, ↓oInvS8, ↓oLdcS, ↓oMmax, ↓oMmin, ↓oMabs, ↓oAlenE, ↓popI_I, ↓popL_L, ↓popR_R, ↓popS_I, ↓popS_R, ↓popN_0, ↓popN_s, ↓popT_0, ↓popT_1, ↓popT_2, ↓popT_3, ↓gI_0, ↓gI_s, ↓gL_0, ↓gL_s, ↓gR_0, ↓gR_s, ↓blk_s, ↓blk_0, goE_0, goE_1, goE_2, bst_0, bst_1, bst_2, TTf_e, st1_0, st1_1, st1_s, st2_0, st2_1, st2_s, jk_I, jk_R, jk_L, jk_J, mkT_0, mkT_1, mkT_2, mkT_3, sw_n, sw_c, nJ_n, nJ_I, nJ_L, nJ_R, stW_n, stW_I, stW_R, stW_L, true_and, and_true, Nat.reduceAdd, Nat.reduceLeDiff, Int.reduceAdd, up_at, Int.reduceEq, Int.reduceLE, Int.reduceLT, false_and, and_false, and_self, if_false, if_true, Int.reduceNeg, List.cons_append, List.nil_append, not_true_eq_false, not_false_eq_true, false_implies, true_implies, implies_true, true_or, or_true, false_or, or_false, ↓oIaldX, aL_law_1030, aL_law_1031, aL_law_1034, aL_law_1035, aL_law_1038, aL_law_1041, aL_law_1042, aL_law_1718, aL_law_1721, m1, r9, e1, p1, q1, e2, p2, q2, e3, p3, q3, e4, p4, q4, e5, p5, q5, e6, s1, s2, s3, s4, s5]
  exact hgo _ _ _ _ _ _ (by omega) (by omega) (LI_next h g1 hmk1 r9 g3 ms1 hI hO)
set_option maxRecDepth 20000 in
theorem lw_c21 {d : Nat} {L i : Int} {T : Int → Int} {μ : ST} {R : RT} {K : KT} {S : ST} {cb nb : Nat} {Q : QF} (h : LI L T μ R K S) (hL : 0 ≤ L ∧ L ≤ 3072) (hT : ∀ j, 0 ≤ j → j < L → in32 (T j)) (hi : 0 ≤ i ∧ i + 6 ≤ L) (hc : 8 ≤ cb) (hn : 200 ≤ nb) (hgo : ∀ μ' R' K' S' cb' nb', cb ≤ cb' + 8 → nb ≤ nb' + 200 → LI L T μ' R' K' S' → TT mL_law (d + 72) 18 [vR 9, vR 1, vR 1000, vI (i + 6)] [] K' S' cb' nb' Q) : TT mL_law (d + 72) 1043 [vR 9, vR 1, vR 1000, vI i] [] K S cb nb Q := by
  obtain ⟨hrc, hms, hmk, hI, hO, h9, hs⟩ := id h
  obtain ⟨⟨i0, iS, iA, iP, iF, iK, iU, iR⟩, iC⟩ := id hI
  have e1 : w32 (i + 1) = i + 1 := w32_id (by unfold in32; omega)
  have e2 : w32 (i + 2) = i + 2 := w32_id (by unfold in32; omega)
  have e3 : w32 (i + 3) = i + 3 := w32_id (by unfold in32; omega)
  have e4 : w32 (i + 4) = i + 4 := w32_id (by unfold in32; omega)
  have e5 : w32 (i + 5) = i + 5 := w32_id (by unfold in32; omega)
  have e6 : w32 (i + 6) = i + 6 := w32_id (by unfold in32; omega)
  have p1 : (0 ≤ i + 1) = True := eq_true (by omega)
  have q1 : (i + 1 < L) = True := eq_true (by omega)
  have s1 := hs (i + 1) (by omega) (by omega)
  have p2 : (0 ≤ i + 2) = True := eq_true (by omega)
  have q2 : (i + 2 < L) = True := eq_true (by omega)
  have s2 := hs (i + 2) (by omega) (by omega)
  have p3 : (0 ≤ i + 3) = True := eq_true (by omega)
  have q3 : (i + 3 < L) = True := eq_true (by omega)
  have s3 := hs (i + 3) (by omega) (by omega)
  have p4 : (0 ≤ i + 4) = True := eq_true (by omega)
  have q4 : (i + 4 < L) = True := eq_true (by omega)
  have s4 := hs (i + 4) (by omega) (by omega)
  have p5 : (0 ≤ i + 5) = True := eq_true (by omega)
  have q5 : (i + 5 < L) = True := eq_true (by omega)
  have s5 := hs (i + 5) (by omega) (by omega)
  have k1 := CK_1 hrc.1
  refine TT.go zL_law 200 ?_
  simp only [↓oPush, ↓oIload, ↓oLload, ↓oRload, ↓oIstore, ↓oLstore, ↓oRstore, ↓oIinc, ↓oIadd, ↓oIsub, ↓oImul, ↓oIand, ↓oIor, ↓oIshl, ↓oIshr, ↓oIushr, ↓oIdiv, ↓oIrem, ↓oIneg, ↓oLadd, ↓oLmul, ↓oLand, ↓oLor, ↓oLxor, ↓oLshl, ↓oLshr, ↓oLushr, ↓oLcmp, ↓oI2l, ↓oL2i, ↓oI2b, ↓oI2s, ↓oDup, ↓oPop, ↓oDupx1, ↓oDupx2, ↓oDup2, ↓oGoto, ↓oIfEq, ↓oIfNe, ↓oIfLt, ↓oIfGe, ↓oIfGt, ↓oIfLe, ↓oIcEq, ↓oIcNe, ↓oIcLt, ↓oIcGe, ↓oIcGt, ↓oIcLe, ↓oIfnull, ↓oIfnonnull, ↓oSwitch, ↓oGetf, ↓oPutf, ↓oNew, ↓oNewa, ↓oAlen, ↓oIald, ↓oLald, ↓oZald, ↓oAald, ↓oIast, ↓oLast, ↓oZast, ↓oAast, ↓oCast, ↓oObji, ↓oRetI, ↓oRetZ, ↓oRetL, ↓oRetA, ↓oRetV, ↓oInvS, ↓oInvV, ↓oInvI, ↓oFail, ↓oAcEq, ↓oGetE, ↓oAlenE, ↓oAastO, ↓oCopyL, ↓oCopyK, ↓oInvS8, ↓oLdcS, ↓oMmax, ↓oMmin, ↓oMabs, ↓oAlenE, ↓popI_I, ↓popL_L, ↓popR_R, ↓popS_I, ↓popS_R, ↓popN_0, ↓popN_s, ↓popT_0, ↓popT_1, ↓popT_2, ↓popT_3, ↓gI_0, ↓gI_s, ↓gL_0, ↓gL_s, ↓gR_0, ↓gR_s, ↓blk_s, ↓blk_0, goE_0, goE_1, goE_2, bst_0, bst_1, bst_2, TTf_e, st1_0, st1_1, st1_s, st2_0, st2_1, st2_s, jk_I, jk_R, jk_L, jk_J, mkT_0, mkT_1, mkT_2, mkT_3, sw_n, sw_c, nJ_n, nJ_I, nJ_L, nJ_R, stW_n, stW_I, stW_R, stW_L, true_and, and_true, Nat.reduceAdd, Nat.reduceLeDiff, Int.reduceAdd, up_at, Int.reduceEq, Int.reduceLE, Int.reduceLT, false_and, and_false, and_self, if_false, if_true, Int.reduceNeg, List.cons_append, List.nil_append, not_true_eq_false, not_false_eq_true, false_implies, true_implies, implies_true, true_or, or_true, false_or, or_false, ↓oIaldX, aL_law_1043, aL_law_1044, aL_law_1045, aL_law_1046, aL_law_1047, aL_law_1048, aL_law_1049, aL_law_1052, aL_law_1053, aL_law_1054, aL_law_1055, aL_law_1056, aL_law_1057, aL_law_1058, aL_law_1061, aL_law_1064, aL_law_1065, aL_law_1718, aL_law_1721, k1, h9, e1, p1, q1, e2, p2, q2, e3, p3, q3, e4, p4, q4, e5, p5, q5, e6, s1, s2, s3, s4, s5]
  refine GG.of0 (Mt.scr h9 (c_strike (d := d + 67) hrc (fun S1 g1 g2 r9 g3 => ?_)))
  have hmk1 := hmk
  have ms1 := MS_out hms g2
  have m1 := MK_o hmk1
  have t1 := (g3 (i + 1) (by omega) (by omega)).trans s1
  have t2 := (g3 (i + 2) (by omega) (by omega)).trans s2
  have t3 := (g3 (i + 3) (by omega) (by omega)).trans s3
  have t4 := (g3 (i + 4) (by omega) (by omega)).trans s4
  have t5 := (g3 (i + 5) (by omega) (by omega)).trans s5
  refine TT.go zL_law 200 ?_
  simp only [↓oPush, ↓oIload, ↓oLload, ↓oRload, ↓oIstore, ↓oLstore, ↓oRstore, ↓oIinc, ↓oIadd, ↓oIsub, ↓oImul, ↓oIand, ↓oIor, ↓oIshl, ↓oIshr, ↓oIushr, ↓oIdiv, ↓oIrem, ↓oIneg, ↓oLadd, ↓oLmul, ↓oLand, ↓oLor, ↓oLxor, ↓oLshl, ↓oLshr, ↓oLushr, ↓oLcmp, ↓oI2l, ↓oL2i, ↓oI2b, ↓oI2s, ↓oDup, ↓oPop, ↓oDupx1, ↓oDupx2, ↓oDup2, ↓oGoto, ↓oIfEq, ↓oIfNe, ↓oIfLt, ↓oIfGe, ↓oIfGt, ↓oIfLe, ↓oIcEq, ↓oIcNe, ↓oIcLt, ↓oIcGe, ↓oIcGt, ↓oIcLe, ↓oIfnull, ↓oIfnonnull, ↓oSwitch, ↓oGetf, ↓oPutf, ↓oNew, ↓oNewa, ↓oAlen, ↓oIald, ↓oLald, ↓oZald, ↓oAald, ↓oIast, ↓oLast, ↓oZast, ↓oAast, ↓oCast, ↓oObji, ↓oRetI, ↓oRetZ, ↓oRetL, ↓oRetA, ↓oRetV, ↓oInvS, ↓oInvV, ↓oInvI, ↓oFail, ↓oAcEq, ↓oGetE, ↓oAlenE, ↓oAastO, ↓oCopyL, ↓oCopyK, ↓oInvS8, ↓oLdcS, ↓oMmax, ↓oMmin, ↓oMabs, ↓oAlenE, ↓popI_I, ↓popL_L, ↓popR_R, ↓popS_I, ↓popS_R, ↓popN_0, ↓popN_s, ↓popT_0, ↓popT_1, ↓popT_2, ↓popT_3, ↓gI_0, ↓gI_s, ↓gL_0, ↓gL_s, ↓gR_0, ↓gR_s, ↓blk_s, ↓blk_0, goE_0, goE_1, goE_2, bst_0, bst_1, bst_2, TTf_e, st1_0, st1_1, st1_s, st2_0, st2_1, st2_s, jk_I, jk_R, jk_L, jk_J, mkT_0, mkT_1, mkT_2, mkT_3, sw_n, sw_c, nJ_n, nJ_I, nJ_L, nJ_R, stW_n, stW_I, stW_R, stW_L, true_and, and_true, Nat.reduceAdd, Nat.reduceLeDiff, Int.reduceAdd, up_at, Int.reduceEq, Int.reduceLE, Int.reduceLT, false_and, and_false, and_self, if_false, if_true, Int.reduceNeg, List.cons_append, List.nil_append, not_true_eq_false, not_false_eq_true, false_implies, true_implies, implies_true, true_or, or_true, false_or, or_false, ↓oIaldX, aL_law_1043, aL_law_1044, aL_law_1045, aL_law_1046, aL_law_1047, aL_law_1048, aL_law_1049, aL_law_1052, aL_law_1053, aL_law_1054, aL_law_1055, aL_law_1056, aL_law_1057, aL_law_1058, aL_law_1061, aL_law_1064, aL_law_1065, aL_law_1718, aL_law_1721, m1, r9, e1, p1, q1, e2, p2, q2, e3, p3, q3, e4, p4, q4, e5, p5, q5, e6, t1, t2, t3, t4, t5]
  refine GG.of0 (m_strike (d := d + 69) hmk1 ms1 i0 (fun S2 g4 => ?_))
  refine TT.go zL_law 200 ?_
  simp only [↓oPush, ↓oIload, ↓oLload, ↓oRload, ↓oIstore, ↓oLstore, ↓oRstore, ↓oIinc, ↓oIadd, ↓oIsub, ↓oImul, ↓oIand, ↓oIor, ↓oIshl, ↓oIshr, ↓oIushr, ↓oIdiv, ↓oIrem, ↓oIneg, ↓oLadd, ↓oLmul, ↓oLand, ↓oLor, ↓oLxor, ↓oLshl, ↓oLshr, ↓oLushr, ↓oLcmp, ↓oI2l, ↓oL2i, ↓oI2b, ↓oI2s, ↓oDup, ↓oPop, ↓oDupx1, ↓oDupx2, ↓oDup2, ↓oGoto, ↓oIfEq, ↓oIfNe, ↓oIfLt, ↓oIfGe, ↓oIfGt, ↓oIfLe, ↓oIcEq, ↓oIcNe, ↓oIcLt, ↓oIcGe, ↓oIcGt, ↓oIcLe, ↓oIfnull, ↓oIfnonnull, ↓oSwitch, ↓oGetf, ↓oPutf, ↓oNew, ↓oNewa, ↓oAlen, ↓oIald, ↓oLald, ↓oZald, ↓oAald, ↓oIast, ↓oLast, ↓oZast, ↓oAast, ↓oCast, ↓oObji, ↓oRetI, ↓oRetZ, ↓oRetL, ↓oRetA, ↓oRetV, ↓oInvS, ↓oInvV, ↓oInvI, ↓oFail, ↓oAcEq, ↓oGetE, ↓oAlenE, ↓oAastO, ↓oCopyL, ↓oCopyK, ↓oInvS8, ↓oLdcS, ↓oMmax, ↓oMmin, ↓oMabs, ↓oAlenE, ↓popI_I, ↓popL_L, ↓popR_R, ↓popS_I, ↓popS_R, ↓popN_0, ↓popN_s, ↓popT_0, ↓popT_1, ↓popT_2, ↓popT_3, ↓gI_0, ↓gI_s, ↓gL_0, ↓gL_s, ↓gR_0, ↓gR_s, ↓blk_s, ↓blk_0, goE_0, goE_1, goE_2, bst_0, bst_1, bst_2, TTf_e, st1_0, st1_1, st1_s, st2_0, st2_1, st2_s, jk_I, jk_R, jk_L, jk_J, mkT_0, mkT_1, mkT_2, mkT_3, sw_n, sw_c, nJ_n, nJ_I, nJ_L, nJ_R, stW_n, stW_I, stW_R, stW_L, true_and, and_true, Nat.reduceAdd, Nat.reduceLeDiff, Int.reduceAdd, up_at, Int.reduceEq, Int.reduceLE, Int.reduceLT, false_and, and_false, and_self, if_false, if_true, Int.reduceNeg, List.cons_append, List.nil_append, not_true_eq_false, not_false_eq_true, false_implies, true_implies, implies_true, true_or, or_true, false_or, or_false, ↓oIaldX, aL_law_1043, aL_law_1044, aL_law_1045, aL_law_1046, aL_law_1047, aL_law_1048, aL_law_1049, aL_law_1052, aL_law_1053, aL_law_1054, aL_law_1055, aL_law_1056, aL_law_1057, aL_law_1058, aL_law_1061, aL_law_1064, aL_law_1065, aL_law_1718, aL_law_1721, m1, r9, e1, p1, q1, e2, p2, q2, e3, p3, q3, e4, p4, q4, e5, p5, q5, e6, t1, t2, t3, t4, t5]
  exact hgo _ _ _ _ _ _ (by omega) (by omega) (LI_next h g1 hmk1 r9 g3 g4 (Iv_strike hI) hO)
set_option maxRecDepth 20000 in
theorem lw_c22 {d : Nat} {L i : Int} {T : Int → Int} {μ : ST} {R : RT} {K : KT} {S : ST} {cb nb : Nat} {Q : QF} (h : LI L T μ R K S) (hL : 0 ≤ L ∧ L ≤ 3072) (hT : ∀ j, 0 ≤ j → j < L → in32 (T j)) (hi : 0 ≤ i ∧ i + 6 ≤ L) (hc : 8 ≤ cb) (hn : 200 ≤ nb) (hgo : ∀ μ' R' K' S' cb' nb', cb ≤ cb' + 8 → nb ≤ nb' + 200 → LI L T μ' R' K' S' → TT mL_law (d + 72) 18 [vR 9, vR 1, vR 1000, vI (i + 6)] [] K' S' cb' nb' Q) : TT mL_law (d + 72) 1066 [vR 9, vR 1, vR 1000, vI i] [] K S cb nb Q := by
  obtain ⟨hrc, hms, hmk, hI, hO, h9, hs⟩ := id h
  obtain ⟨⟨i0, iS, iA, iP, iF, iK, iU, iR⟩, iC⟩ := id hI
  have e1 : w32 (i + 1) = i + 1 := w32_id (by unfold in32; omega)
  have e2 : w32 (i + 2) = i + 2 := w32_id (by unfold in32; omega)
  have e3 : w32 (i + 3) = i + 3 := w32_id (by unfold in32; omega)
  have e4 : w32 (i + 4) = i + 4 := w32_id (by unfold in32; omega)
  have e5 : w32 (i + 5) = i + 5 := w32_id (by unfold in32; omega)
  have e6 : w32 (i + 6) = i + 6 := w32_id (by unfold in32; omega)
  have p1 : (0 ≤ i + 1) = True := eq_true (by omega)
  have q1 : (i + 1 < L) = True := eq_true (by omega)
  have s1 := hs (i + 1) (by omega) (by omega)
  have p2 : (0 ≤ i + 2) = True := eq_true (by omega)
  have q2 : (i + 2 < L) = True := eq_true (by omega)
  have s2 := hs (i + 2) (by omega) (by omega)
  have p3 : (0 ≤ i + 3) = True := eq_true (by omega)
  have q3 : (i + 3 < L) = True := eq_true (by omega)
  have s3 := hs (i + 3) (by omega) (by omega)
  have p4 : (0 ≤ i + 4) = True := eq_true (by omega)
  have q4 : (i + 4 < L) = True := eq_true (by omega)
  have s4 := hs (i + 4) (by omega) (by omega)
  have p5 : (0 ≤ i + 5) = True := eq_true (by omega)
  have q5 : (i + 5 < L) = True := eq_true (by omega)
  have s5 := hs (i + 5) (by omega) (by omega)
  have k1 := CK_1 hrc.1
  refine TT.go zL_law 200 ?_
  simp only [↓oPush, ↓oIload, ↓oLload, ↓oRload, ↓oIstore, ↓oLstore, ↓oRstore, ↓oIinc, ↓oIadd, ↓oIsub, ↓oImul, ↓oIand, ↓oIor, ↓oIshl, ↓oIshr, ↓oIushr, ↓oIdiv, ↓oIrem, ↓oIneg, ↓oLadd, ↓oLmul, ↓oLand, ↓oLor, ↓oLxor, ↓oLshl, ↓oLshr, ↓oLushr, ↓oLcmp, ↓oI2l, ↓oL2i, ↓oI2b, ↓oI2s, ↓oDup, ↓oPop, ↓oDupx1, ↓oDupx2, ↓oDup2, ↓oGoto, ↓oIfEq, ↓oIfNe, ↓oIfLt, ↓oIfGe, ↓oIfGt, ↓oIfLe, ↓oIcEq, ↓oIcNe, ↓oIcLt, ↓oIcGe, ↓oIcGt, ↓oIcLe, ↓oIfnull, ↓oIfnonnull, ↓oSwitch, ↓oGetf, ↓oPutf, ↓oNew, ↓oNewa, ↓oAlen, ↓oIald, ↓oLald, ↓oZald, ↓oAald, ↓oIast, ↓oLast, ↓oZast, ↓oAast, ↓oCast, ↓oObji, ↓oRetI, ↓oRetZ, ↓oRetL, ↓oRetA, ↓oRetV, ↓oInvS, ↓oInvV, ↓oInvI, ↓oFail, ↓oAcEq, ↓oGetE, ↓oAlenE, ↓oAastO, ↓oCopyL, ↓oCopyK, ↓oInvS8, ↓oLdcS, ↓oMmax, ↓oMmin, ↓oMabs, ↓oAlenE, ↓popI_I, ↓popL_L, ↓popR_R, ↓popS_I, ↓popS_R, ↓popN_0, ↓popN_s, ↓popT_0, ↓popT_1, ↓popT_2, ↓popT_3, ↓gI_0, ↓gI_s, ↓gL_0, ↓gL_s, ↓gR_0, ↓gR_s, ↓blk_s, ↓blk_0, goE_0, goE_1, goE_2, bst_0, bst_1, bst_2, TTf_e, st1_0, st1_1, st1_s, st2_0, st2_1, st2_s, jk_I, jk_R, jk_L, jk_J, mkT_0, mkT_1, mkT_2, mkT_3, sw_n, sw_c, nJ_n, nJ_I, nJ_L, nJ_R, stW_n, stW_I, stW_R, stW_L, true_and, and_true, Nat.reduceAdd, Nat.reduceLeDiff, Int.reduceAdd, up_at, Int.reduceEq, Int.reduceLE, Int.reduceLT, false_and, and_false, and_self, if_false, if_true, Int.reduceNeg, List.cons_append, List.nil_append, not_true_eq_false, not_false_eq_true, false_implies, true_implies, implies_true, true_or, or_true, false_or, or_false, ↓oIaldX, aL_law_1066, aL_law_1067, aL_law_1068, aL_law_1069, aL_law_1070, aL_law_1071, aL_law_1072, aL_law_1073, aL_law_1074, aL_law_1075, aL_law_1076, aL_law_1077, aL_law_1078, aL_law_1079, aL_law_1080, aL_law_1081, aL_law_1082, aL_law_1083, aL_law_1084, aL_law_1085, aL_law_1086, aL_law_1087, aL_law_1090, aL_law_1091, aL_law_1092, aL_law_1093, aL_law_1094, aL_law_1095, aL_law_1096, aL_law_1097, aL_law_1098, aL_law_1099, aL_law_1100, aL_law_1101, aL_law_1102, aL_law_1103, aL_law_1104, aL_law_1105, aL_law_1106, aL_law_1107, aL_law_1108, aL_law_1109, aL_law_1110, aL_law_1111, aL_law_1114, aL_law_1117, aL_law_1118, aL_law_1718, aL_law_1721, k1, h9, e1, p1, q1, e2, p2, q2, e3, p3, q3, e4, p4, q4, e5, p5, q5, e6, s1, s2, s3, s4, s5]
  refine GG.of0 (Mt.scr h9 (c_bars (d := d + 63) hrc i0 iA iP iF (RuOk_of iR hO) (hT _ (by omega) (by omega)) (fun S1 g0 r9 g3 => ?_)))
  have hmk1 := hmk
  have g1 := Rc_s hrc g0
  have g2 := Scr_o g0
  have ms1 := MS_out hms g2
  have m1 := MK_o hmk1
  have t1 := (g3 (i + 1) (by omega) (by omega)).trans s1
  have t2 := (g3 (i + 2) (by omega) (by omega)).trans s2
  have t3 := (g3 (i + 3) (by omega) (by omega)).trans s3
  have t4 := (g3 (i + 4) (by omega) (by omega)).trans s4
  have t5 := (g3 (i + 5) (by omega) (by omega)).trans s5
  refine TT.go zL_law 200 ?_
  simp only [↓oPush, ↓oIload, ↓oLload, ↓oRload, ↓oIstore, ↓oLstore, ↓oRstore, ↓oIinc, ↓oIadd, ↓oIsub, ↓oImul, ↓oIand, ↓oIor, ↓oIshl, ↓oIshr, ↓oIushr, ↓oIdiv, ↓oIrem, ↓oIneg, ↓oLadd, ↓oLmul, ↓oLand, ↓oLor, ↓oLxor, ↓oLshl, ↓oLshr, ↓oLushr, ↓oLcmp, ↓oI2l, ↓oL2i, ↓oI2b, ↓oI2s, ↓oDup, ↓oPop, ↓oDupx1, ↓oDupx2, ↓oDup2, ↓oGoto, ↓oIfEq, ↓oIfNe, ↓oIfLt, ↓oIfGe, ↓oIfGt, ↓oIfLe, ↓oIcEq, ↓oIcNe, ↓oIcLt, ↓oIcGe, ↓oIcGt, ↓oIcLe, ↓oIfnull, ↓oIfnonnull, ↓oSwitch, ↓oGetf, ↓oPutf, ↓oNew, ↓oNewa, ↓oAlen, ↓oIald, ↓oLald, ↓oZald, ↓oAald, ↓oIast, ↓oLast, ↓oZast, ↓oAast, ↓oCast, ↓oObji, ↓oRetI, ↓oRetZ, ↓oRetL, ↓oRetA, ↓oRetV, ↓oInvS, ↓oInvV, ↓oInvI, ↓oFail, ↓oAcEq, ↓oGetE, ↓oAlenE, ↓oAastO, ↓oCopyL, ↓oCopyK, ↓oInvS8, ↓oLdcS, ↓oMmax, ↓oMmin, ↓oMabs, ↓oAlenE, ↓popI_I, ↓popL_L, ↓popR_R, ↓popS_I, ↓popS_R, ↓popN_0, ↓popN_s, ↓popT_0, ↓popT_1, ↓popT_2, ↓popT_3, ↓gI_0, ↓gI_s, ↓gL_0, ↓gL_s, ↓gR_0, ↓gR_s, ↓blk_s, ↓blk_0, goE_0, goE_1, goE_2, bst_0, bst_1, bst_2, TTf_e, st1_0, st1_1, st1_s, st2_0, st2_1, st2_s, jk_I, jk_R, jk_L, jk_J, mkT_0, mkT_1, mkT_2, mkT_3, sw_n, sw_c, nJ_n, nJ_I, nJ_L, nJ_R, stW_n, stW_I, stW_R, stW_L, true_and, and_true, Nat.reduceAdd, Nat.reduceLeDiff, Int.reduceAdd, up_at, Int.reduceEq, Int.reduceLE, Int.reduceLT, false_and, and_false, and_self, if_false, if_true, Int.reduceNeg, List.cons_append, List.nil_append, not_true_eq_false, not_false_eq_true, false_implies, true_implies, implies_true, true_or, or_true, false_or, or_false, ↓oIaldX, aL_law_1066, aL_law_1067, aL_law_1068, aL_law_1069, aL_law_1070, aL_law_1071, aL_law_1072, aL_law_1073, aL_law_1074, aL_law_1075, aL_law_1076, aL_law_1077, aL_law_1078, aL_law_1079, aL_law_1080, aL_law_1081, aL_law_1082, aL_law_1083, aL_law_1084, aL_law_1085, aL_law_1086, aL_law_1087, aL_law_1090, aL_law_1091, aL_law_1092, aL_law_1093, aL_law_1094, aL_law_1095, aL_law_1096, aL_law_1097, aL_law_1098, aL_law_1099, aL_law_1100, aL_law_1101, aL_law_1102, aL_law_1103, aL_law_1104, aL_law_1105, aL_law_1106, aL_law_1107, aL_law_1108, aL_law_1109, aL_law_1110, aL_law_1111, aL_law_1114, aL_law_1117, aL_law_1118, aL_law_1718, aL_law_1721, m1, r9, e1, p1, q1, e2, p2, q2, e3, p3, q3, e4, p4, q4, e5, p5, q5, e6, t1, t2, t3, t4, t5]
  refine GG.of0 (m_bars (d := d + 64) hmk1 ms1 i0 iA iP iF iR (hT _ (by omega) (by omega)) (fun S2 g4 => ?_))
  refine TT.go zL_law 200 ?_
  simp only [↓oPush, ↓oIload, ↓oLload, ↓oRload, ↓oIstore, ↓oLstore, ↓oRstore, ↓oIinc, ↓oIadd, ↓oIsub, ↓oImul, ↓oIand, ↓oIor, ↓oIshl, ↓oIshr, ↓oIushr, ↓oIdiv, ↓oIrem, ↓oIneg, ↓oLadd, ↓oLmul, ↓oLand, ↓oLor, ↓oLxor, ↓oLshl, ↓oLshr, ↓oLushr, ↓oLcmp, ↓oI2l, ↓oL2i, ↓oI2b, ↓oI2s, ↓oDup, ↓oPop, ↓oDupx1, ↓oDupx2, ↓oDup2, ↓oGoto, ↓oIfEq, ↓oIfNe, ↓oIfLt, ↓oIfGe, ↓oIfGt, ↓oIfLe, ↓oIcEq, ↓oIcNe, ↓oIcLt, ↓oIcGe, ↓oIcGt, ↓oIcLe, ↓oIfnull, ↓oIfnonnull, ↓oSwitch, ↓oGetf, ↓oPutf, ↓oNew, ↓oNewa, ↓oAlen, ↓oIald, ↓oLald, ↓oZald, ↓oAald, ↓oIast, ↓oLast, ↓oZast, ↓oAast, ↓oCast, ↓oObji, ↓oRetI, ↓oRetZ, ↓oRetL, ↓oRetA, ↓oRetV, ↓oInvS, ↓oInvV, ↓oInvI, ↓oFail, ↓oAcEq, ↓oGetE, ↓oAlenE, ↓oAastO, ↓oCopyL, ↓oCopyK, ↓oInvS8, ↓oLdcS, ↓oMmax, ↓oMmin, ↓oMabs, ↓oAlenE, ↓popI_I, ↓popL_L, ↓popR_R, ↓popS_I, ↓popS_R, ↓popN_0, ↓popN_s, ↓popT_0, ↓popT_1, ↓popT_2, ↓popT_3, ↓gI_0, ↓gI_s, ↓gL_0, ↓gL_s, ↓gR_0, ↓gR_s, ↓blk_s, ↓blk_0, goE_0, goE_1, goE_2, bst_0, bst_1, bst_2, TTf_e, st1_0, st1_1, st1_s, st2_0, st2_1, st2_s, jk_I, jk_R, jk_L, jk_J, mkT_0, mkT_1, mkT_2, mkT_3, sw_n, sw_c, nJ_n, nJ_I, nJ_L, nJ_R, stW_n, stW_I, stW_R, stW_L, true_and, and_true, Nat.reduceAdd, Nat.reduceLeDiff, Int.reduceAdd, up_at, Int.reduceEq, Int.reduceLE, Int.reduceLT, false_and, and_false, and_self, if_false, if_true, Int.reduceNeg, List.cons_append, List.nil_append, not_true_eq_false, not_false_eq_true, false_implies, true_implies, implies_true, true_or, or_true, false_or, or_false, ↓oIaldX, aL_law_1066, aL_law_1067, aL_law_1068, aL_law_1069, aL_law_1070, aL_law_1071, aL_law_1072, aL_law_1073, aL_law_1074, aL_law_1075, aL_law_1076, aL_law_1077, aL_law_1078, aL_law_1079, aL_law_1080, aL_law_1081, aL_law_1082, aL_law_1083, aL_law_1084, aL_law_1085, aL_law_1086, aL_law_1087, aL_law_1090, aL_law_1091, aL_law_1092, aL_law_1093, aL_law_1094, aL_law_1095, aL_law_1096, aL_law_1097, aL_law_1098, aL_law_1099, aL_law_1100, aL_law_1101, aL_law_1102, aL_law_1103, aL_law_1104, aL_law_1105, aL_law_1106, aL_law_1107, aL_law_1108, aL_law_1109, aL_law_1110, aL_law_1111, aL_law_1114, aL_law_1117, aL_law_1118, aL_law_1718, aL_law_1721, m1, r9, e1, p1, q1, e2, p2, q2, e3, p3, q3, e4, p4, q4, e5, p5, q5, e6, t1, t2, t3, t4, t5]
  exact hgo _ _ _ _ _ _ (by omega) (by omega) (LI_next h g1 hmk1 r9 g3 g4 hI hO)
set_option maxRecDepth 20000 in
theorem lw_c23 {d : Nat} {L i : Int} {T : Int → Int} {μ : ST} {R : RT} {K : KT} {S : ST} {cb nb : Nat} {Q : QF} (h : LI L T μ R K S) (hL : 0 ≤ L ∧ L ≤ 3072) (hT : ∀ j, 0 ≤ j → j < L → in32 (T j)) (hi : 0 ≤ i ∧ i + 6 ≤ L) (hc : 8 ≤ cb) (hn : 200 ≤ nb) (hgo : ∀ μ' R' K' S' cb' nb', cb ≤ cb' + 8 → nb ≤ nb' + 200 → LI L T μ' R' K' S' → TT mL_law (d + 72) 18 [vR 9, vR 1, vR 1000, vI (i + 6)] [] K' S' cb' nb' Q) : TT mL_law (d + 72) 1119 [vR 9, vR 1, vR 1000, vI i] [] K S cb nb Q := by
  obtain ⟨hrc, hms, hmk, hI, hO, h9, hs⟩ := id h
  obtain ⟨⟨i0, iS, iA, iP, iF, iK, iU, iR⟩, iC⟩ := id hI
  have e1 : w32 (i + 1) = i + 1 := w32_id (by unfold in32; omega)
  have e2 : w32 (i + 2) = i + 2 := w32_id (by unfold in32; omega)
  have e3 : w32 (i + 3) = i + 3 := w32_id (by unfold in32; omega)
  have e4 : w32 (i + 4) = i + 4 := w32_id (by unfold in32; omega)
  have e5 : w32 (i + 5) = i + 5 := w32_id (by unfold in32; omega)
  have e6 : w32 (i + 6) = i + 6 := w32_id (by unfold in32; omega)
  have p1 : (0 ≤ i + 1) = True := eq_true (by omega)
  have q1 : (i + 1 < L) = True := eq_true (by omega)
  have s1 := hs (i + 1) (by omega) (by omega)
  have p2 : (0 ≤ i + 2) = True := eq_true (by omega)
  have q2 : (i + 2 < L) = True := eq_true (by omega)
  have s2 := hs (i + 2) (by omega) (by omega)
  have p3 : (0 ≤ i + 3) = True := eq_true (by omega)
  have q3 : (i + 3 < L) = True := eq_true (by omega)
  have s3 := hs (i + 3) (by omega) (by omega)
  have p4 : (0 ≤ i + 4) = True := eq_true (by omega)
  have q4 : (i + 4 < L) = True := eq_true (by omega)
  have s4 := hs (i + 4) (by omega) (by omega)
  have p5 : (0 ≤ i + 5) = True := eq_true (by omega)
  have q5 : (i + 5 < L) = True := eq_true (by omega)
  have s5 := hs (i + 5) (by omega) (by omega)
  have k1 := CK_1 hrc.1
  refine TT.go zL_law 200 ?_
  simp only [↓oPush, ↓oIload, ↓oLload, ↓oRload, ↓oIstore, ↓oLstore, ↓oRstore, ↓oIinc, ↓oIadd, ↓oIsub, ↓oImul, ↓oIand, ↓oIor, ↓oIshl, ↓oIshr, ↓oIushr, ↓oIdiv, ↓oIrem, ↓oIneg, ↓oLadd, ↓oLmul, ↓oLand, ↓oLor, ↓oLxor, ↓oLshl, ↓oLshr, ↓oLushr, ↓oLcmp, ↓oI2l, ↓oL2i, ↓oI2b, ↓oI2s, ↓oDup, ↓oPop, ↓oDupx1, ↓oDupx2, ↓oDup2, ↓oGoto, ↓oIfEq, ↓oIfNe, ↓oIfLt, ↓oIfGe, ↓oIfGt, ↓oIfLe, ↓oIcEq, ↓oIcNe, ↓oIcLt, ↓oIcGe, ↓oIcGt, ↓oIcLe, ↓oIfnull, ↓oIfnonnull, ↓oSwitch, ↓oGetf, ↓oPutf, ↓oNew, ↓oNewa, ↓oAlen, ↓oIald, ↓oLald, ↓oZald, ↓oAald, ↓oIast, ↓oLast, ↓oZast, ↓oAast, ↓oCast, ↓oObji, ↓oRetI, ↓oRetZ, ↓oRetL, ↓oRetA, ↓oRetV, ↓oInvS, ↓oInvV, ↓oInvI, ↓oFail, ↓oAcEq, ↓oGetE, ↓oAlenE, ↓oAastO, ↓oCopyL, ↓oCopyK, ↓oInvS8, ↓oLdcS, ↓oMmax, ↓oMmin, ↓oMabs, ↓oAlenE, ↓popI_I, ↓popL_L, ↓popR_R, ↓popS_I, ↓popS_R, ↓popN_0, ↓popN_s, ↓popT_0, ↓popT_1, ↓popT_2, ↓popT_3, ↓gI_0, ↓gI_s, ↓gL_0, ↓gL_s, ↓gR_0, ↓gR_s, ↓blk_s, ↓blk_0, goE_0, goE_1, goE_2, bst_0, bst_1, bst_2, TTf_e, st1_0, st1_1, st1_s, st2_0, st2_1, st2_s, jk_I, jk_R, jk_L, jk_J, mkT_0, mkT_1, mkT_2, mkT_3, sw_n, sw_c, nJ_n, nJ_I, nJ_L, nJ_R, stW_n, stW_I, stW_R, stW_L, true_and, and_true, Nat.reduceAdd, Nat.reduceLeDiff, Int.reduceAdd, up_at, Int.reduceEq, Int.reduceLE, Int.reduceLT, false_and, and_false, and_self, if_false, if_true, Int.reduceNeg, List.cons_append, List.nil_append, not_true_eq_false, not_false_eq_true, false_implies, true_implies, implies_true, true_or, or_true, false_or, or_false, ↓oIaldX, aL_law_1119, aL_law_1120, aL_law_1121, aL_law_1122, aL_law_1123, aL_law_1124, aL_law_1125, aL_law_1128, aL_law_1129, aL_law_1130, aL_law_1131, aL_law_1132, aL_law_1133, aL_law_1134, aL_law_1137, aL_law_1140, aL_law_1141, aL_law_1718, aL_law_1721, k1, h9, e1, p1, q1, e2, p2, q2, e3, p3, q3, e4, p4, q4, e5, p5, q5, e6, s1, s2, s3, s4, s5]
  refine GG.of0 (Mt.scr h9 (c_seat (d := d + 69) hrc (hT _ (by omega) (by omega)) (fun S1 g1 g2 r9 g3 => ?_)))
  have hmk1 := hmk
  have ms1 := MS_out hms g2
  have m1 := MK_o hmk1
  have t1 := (g3 (i + 1) (by omega) (by omega)).trans s1
  have t2 := (g3 (i + 2) (by omega) (by omega)).trans s2
  have t3 := (g3 (i + 3) (by omega) (by omega)).trans s3
  have t4 := (g3 (i + 4) (by omega) (by omega)).trans s4
  have t5 := (g3 (i + 5) (by omega) (by omega)).trans s5
  refine TT.go zL_law 200 ?_
  simp only [↓oPush, ↓oIload, ↓oLload, ↓oRload, ↓oIstore, ↓oLstore, ↓oRstore, ↓oIinc, ↓oIadd, ↓oIsub, ↓oImul, ↓oIand, ↓oIor, ↓oIshl, ↓oIshr, ↓oIushr, ↓oIdiv, ↓oIrem, ↓oIneg, ↓oLadd, ↓oLmul, ↓oLand, ↓oLor, ↓oLxor, ↓oLshl, ↓oLshr, ↓oLushr, ↓oLcmp, ↓oI2l, ↓oL2i, ↓oI2b, ↓oI2s, ↓oDup, ↓oPop, ↓oDupx1, ↓oDupx2, ↓oDup2, ↓oGoto, ↓oIfEq, ↓oIfNe, ↓oIfLt, ↓oIfGe, ↓oIfGt, ↓oIfLe, ↓oIcEq, ↓oIcNe, ↓oIcLt, ↓oIcGe, ↓oIcGt, ↓oIcLe, ↓oIfnull, ↓oIfnonnull, ↓oSwitch, ↓oGetf, ↓oPutf, ↓oNew, ↓oNewa, ↓oAlen, ↓oIald, ↓oLald, ↓oZald, ↓oAald, ↓oIast, ↓oLast, ↓oZast, ↓oAast, ↓oCast, ↓oObji, ↓oRetI, ↓oRetZ, ↓oRetL, ↓oRetA, ↓oRetV, ↓oInvS, ↓oInvV, ↓oInvI, ↓oFail, ↓oAcEq, ↓oGetE, ↓oAlenE, ↓oAastO, ↓oCopyL, ↓oCopyK, ↓oInvS8, ↓oLdcS, ↓oMmax, ↓oMmin, ↓oMabs, ↓oAlenE, ↓popI_I, ↓popL_L, ↓popR_R, ↓popS_I, ↓popS_R, ↓popN_0, ↓popN_s, ↓popT_0, ↓popT_1, ↓popT_2, ↓popT_3, ↓gI_0, ↓gI_s, ↓gL_0, ↓gL_s, ↓gR_0, ↓gR_s, ↓blk_s, ↓blk_0, goE_0, goE_1, goE_2, bst_0, bst_1, bst_2, TTf_e, st1_0, st1_1, st1_s, st2_0, st2_1, st2_s, jk_I, jk_R, jk_L, jk_J, mkT_0, mkT_1, mkT_2, mkT_3, sw_n, sw_c, nJ_n, nJ_I, nJ_L, nJ_R, stW_n, stW_I, stW_R, stW_L, true_and, and_true, Nat.reduceAdd, Nat.reduceLeDiff, Int.reduceAdd, up_at, Int.reduceEq, Int.reduceLE, Int.reduceLT, false_and, and_false, and_self, if_false, if_true, Int.reduceNeg, List.cons_append, List.nil_append, not_true_eq_false, not_false_eq_true, false_implies, true_implies, implies_true, true_or, or_true, false_or, or_false, ↓oIaldX, aL_law_1119, aL_law_1120, aL_law_1121, aL_law_1122, aL_law_1123, aL_law_1124, aL_law_1125, aL_law_1128, aL_law_1129, aL_law_1130, aL_law_1131, aL_law_1132, aL_law_1133, aL_law_1134, aL_law_1137, aL_law_1140, aL_law_1141, aL_law_1718, aL_law_1721, m1, r9, e1, p1, q1, e2, p2, q2, e3, p3, q3, e4, p4, q4, e5, p5, q5, e6, t1, t2, t3, t4, t5]
  refine GG.of0 (m_seat (d := d + 69) hmk1 ms1 i0 (fun S2 g4 => ?_))
  refine TT.go zL_law 200 ?_
  simp only [↓oPush, ↓oIload, ↓oLload, ↓oRload, ↓oIstore, ↓oLstore, ↓oRstore, ↓oIinc, ↓oIadd, ↓oIsub, ↓oImul, ↓oIand, ↓oIor, ↓oIshl, ↓oIshr, ↓oIushr, ↓oIdiv, ↓oIrem, ↓oIneg, ↓oLadd, ↓oLmul, ↓oLand, ↓oLor, ↓oLxor, ↓oLshl, ↓oLshr, ↓oLushr, ↓oLcmp, ↓oI2l, ↓oL2i, ↓oI2b, ↓oI2s, ↓oDup, ↓oPop, ↓oDupx1, ↓oDupx2, ↓oDup2, ↓oGoto, ↓oIfEq, ↓oIfNe, ↓oIfLt, ↓oIfGe, ↓oIfGt, ↓oIfLe, ↓oIcEq, ↓oIcNe, ↓oIcLt, ↓oIcGe, ↓oIcGt, ↓oIcLe, ↓oIfnull, ↓oIfnonnull, ↓oSwitch, ↓oGetf, ↓oPutf, ↓oNew, ↓oNewa, ↓oAlen, ↓oIald, ↓oLald, ↓oZald, ↓oAald, ↓oIast, ↓oLast, ↓oZast, ↓oAast, ↓oCast, ↓oObji, ↓oRetI, ↓oRetZ, ↓oRetL, ↓oRetA, ↓oRetV, ↓oInvS, ↓oInvV, ↓oInvI, ↓oFail, ↓oAcEq, ↓oGetE, ↓oAlenE, ↓oAastO, ↓oCopyL, ↓oCopyK, ↓oInvS8, ↓oLdcS, ↓oMmax, ↓oMmin, ↓oMabs, ↓oAlenE, ↓popI_I, ↓popL_L, ↓popR_R, ↓popS_I, ↓popS_R, ↓popN_0, ↓popN_s, ↓popT_0, ↓popT_1, ↓popT_2, ↓popT_3, ↓gI_0, ↓gI_s, ↓gL_0, ↓gL_s, ↓gR_0, ↓gR_s, ↓blk_s, ↓blk_0, goE_0, goE_1, goE_2, bst_0, bst_1, bst_2, TTf_e, st1_0, st1_1, st1_s, st2_0, st2_1, st2_s, jk_I, jk_R, jk_L, jk_J, mkT_0, mkT_1, mkT_2, mkT_3, sw_n, sw_c, nJ_n, nJ_I, nJ_L, nJ_R, stW_n, stW_I, stW_R, stW_L, true_and, and_true, Nat.reduceAdd, Nat.reduceLeDiff, Int.reduceAdd, up_at, Int.reduceEq, Int.reduceLE, Int.reduceLT, false_and, and_false, and_self, if_false, if_true, Int.reduceNeg, List.cons_append, List.nil_append, not_true_eq_false, not_false_eq_true, false_implies, true_implies, implies_true, true_or, or_true, false_or, or_false, ↓oIaldX, aL_law_1119, aL_law_1120, aL_law_1121, aL_law_1122, aL_law_1123, aL_law_1124, aL_law_1125, aL_law_1128, aL_law_1129, aL_law_1130, aL_law_1131, aL_law_1132, aL_law_1133, aL_law_1134, aL_law_1137, aL_law_1140, aL_law_1141, aL_law_1718, aL_law_1721, m1, r9, e1, p1, q1, e2, p2, q2, e3, p3, q3, e4, p4, q4, e5, p5, q5, e6, t1, t2, t3, t4, t5]
  exact hgo _ _ _ _ _ _ (by omega) (by omega) (LI_next h g1 hmk1 r9 g3 g4 (Iv_seat hI) hO)
set_option maxRecDepth 20000 in
theorem lw_c24 {d : Nat} {L i : Int} {T : Int → Int} {μ : ST} {R : RT} {K : KT} {S : ST} {cb nb : Nat} {Q : QF} (h : LI L T μ R K S) (hL : 0 ≤ L ∧ L ≤ 3072) (hT : ∀ j, 0 ≤ j → j < L → in32 (T j)) (hi : 0 ≤ i ∧ i + 6 ≤ L) (hc : 8 ≤ cb) (hn : 200 ≤ nb) (hgo : ∀ μ' R' K' S' cb' nb', cb ≤ cb' + 8 → nb ≤ nb' + 200 → LI L T μ' R' K' S' → TT mL_law (d + 72) 18 [vR 9, vR 1, vR 1000, vI (i + 6)] [] K' S' cb' nb' Q) : TT mL_law (d + 72) 1142 [vR 9, vR 1, vR 1000, vI i] [] K S cb nb Q := by
  obtain ⟨hrc, hms, hmk, hI, hO, h9, hs⟩ := id h
  obtain ⟨⟨i0, iS, iA, iP, iF, iK, iU, iR⟩, iC⟩ := id hI
  have e1 : w32 (i + 1) = i + 1 := w32_id (by unfold in32; omega)
  have e2 : w32 (i + 2) = i + 2 := w32_id (by unfold in32; omega)
  have e3 : w32 (i + 3) = i + 3 := w32_id (by unfold in32; omega)
  have e4 : w32 (i + 4) = i + 4 := w32_id (by unfold in32; omega)
  have e5 : w32 (i + 5) = i + 5 := w32_id (by unfold in32; omega)
  have e6 : w32 (i + 6) = i + 6 := w32_id (by unfold in32; omega)
  have p1 : (0 ≤ i + 1) = True := eq_true (by omega)
  have q1 : (i + 1 < L) = True := eq_true (by omega)
  have s1 := hs (i + 1) (by omega) (by omega)
  have p2 : (0 ≤ i + 2) = True := eq_true (by omega)
  have q2 : (i + 2 < L) = True := eq_true (by omega)
  have s2 := hs (i + 2) (by omega) (by omega)
  have p3 : (0 ≤ i + 3) = True := eq_true (by omega)
  have q3 : (i + 3 < L) = True := eq_true (by omega)
  have s3 := hs (i + 3) (by omega) (by omega)
  have p4 : (0 ≤ i + 4) = True := eq_true (by omega)
  have q4 : (i + 4 < L) = True := eq_true (by omega)
  have s4 := hs (i + 4) (by omega) (by omega)
  have p5 : (0 ≤ i + 5) = True := eq_true (by omega)
  have q5 : (i + 5 < L) = True := eq_true (by omega)
  have s5 := hs (i + 5) (by omega) (by omega)
  have k1 := CK_1 hrc.1
  refine TT.go zL_law 200 ?_
  simp only [↓oPush, ↓oIload, ↓oLload, ↓oRload, ↓oIstore, ↓oLstore, ↓oRstore, ↓oIinc, ↓oIadd, ↓oIsub, ↓oImul, ↓oIand, ↓oIor, ↓oIshl, ↓oIshr, ↓oIushr, ↓oIdiv, ↓oIrem, ↓oIneg, ↓oLadd, ↓oLmul, ↓oLand, ↓oLor, ↓oLxor, ↓oLshl, ↓oLshr, ↓oLushr, ↓oLcmp, ↓oI2l, ↓oL2i, ↓oI2b, ↓oI2s, ↓oDup, ↓oPop, ↓oDupx1, ↓oDupx2, ↓oDup2, ↓oGoto, ↓oIfEq, ↓oIfNe, ↓oIfLt, ↓oIfGe, ↓oIfGt, ↓oIfLe, ↓oIcEq, ↓oIcNe, ↓oIcLt, ↓oIcGe, ↓oIcGt, ↓oIcLe, ↓oIfnull, ↓oIfnonnull, ↓oSwitch, ↓oGetf, ↓oPutf, ↓oNew, ↓oNewa, ↓oAlen, ↓oIald, ↓oLald, ↓oZald, ↓oAald, ↓oIast, ↓oLast, ↓oZast, ↓oAast, ↓oCast, ↓oObji, ↓oRetI, ↓oRetZ, ↓oRetL, ↓oRetA, ↓oRetV, ↓oInvS, ↓oInvV, ↓oInvI, ↓oFail, ↓oAcEq, ↓oGetE, ↓oAlenE, ↓oAastO, ↓oCopyL, ↓oCopyK, ↓oInvS8, ↓oLdcS, ↓oMmax, ↓oMmin, ↓oMabs, ↓oAlenE, ↓popI_I, ↓popL_L, ↓popR_R, ↓popS_I, ↓popS_R, ↓popN_0, ↓popN_s, ↓popT_0, ↓popT_1, ↓popT_2, ↓popT_3, ↓gI_0, ↓gI_s, ↓gL_0, ↓gL_s, ↓gR_0, ↓gR_s, ↓blk_s, ↓blk_0, goE_0, goE_1, goE_2, bst_0, bst_1, bst_2, TTf_e, st1_0, st1_1, st1_s, st2_0, st2_1, st2_s, jk_I, jk_R, jk_L, jk_J, mkT_0, mkT_1, mkT_2, mkT_3, sw_n, sw_c, nJ_n, nJ_I, nJ_L, nJ_R, stW_n, stW_I, stW_R, stW_L, true_and, and_true, Nat.reduceAdd, Nat.reduceLeDiff, Int.reduceAdd, up_at, Int.reduceEq, Int.reduceLE, Int.reduceLT, false_and, and_false, and_self, if_false, if_true, Int.reduceNeg, List.cons_append, List.nil_append, not_true_eq_false, not_false_eq_true, false_implies, true_implies, implies_true, true_or, or_true, false_or, or_false, ↓oIaldX, aL_law_1142, aL_law_1143, aL_law_1144, aL_law_1145, aL_law_1146, aL_law_1147, aL_law_1148, aL_law_1149, aL_law_1150, aL_law_1151, aL_law_1152, aL_law_1153, aL_law_1154, aL_law_1155, aL_law_1156, aL_law_1157, aL_law_1158, aL_law_1159, aL_law_1160, aL_law_1161, aL_law_1162, aL_law_1163, aL_law_1166, aL_law_1167, aL_law_1168, aL_law_1169, aL_law_1170, aL_law_1171, aL_law_1172, aL_law_1173, aL_law_1174, aL_law_1175, aL_law_1176, aL_law_1177, aL_law_1178, aL_law_1179, aL_law_1180, aL_law_1181, aL_law_1182, aL_law_1183, aL_law_1184, aL_law_1185, aL_law_1186, aL_law_1187, aL_law_1190, aL_law_1193, aL_law_1194, aL_law_1718, aL_law_1721, k1, h9, e1, p1, q1, e2, p2, q2, e3, p3, q3, e4, p4, q4, e5, p5, q5, e6, s1, s2, s3, s4, s5]
  refine GG.of (mc := 3) (ms := 100) (by omega) (by omega) (Mt.scr h9 (c_decide (d := d + 62) hrc i0 iA iP iU iC (hT _ (by omega) (by omega)) (hT _ (by omega) (by omega)) (fun K1 S1 g1 g2 gk r9 g3 => ?_)))
  have hmk1 := MK_out hmk gk
  have ms1 := MS_out hms g2
  have m1 := MK_o hmk1
  have t1 := (g3 (i + 1) (by omega) (by omega)).trans s1
  have t2 := (g3 (i + 2) (by omega) (by omega)).trans s2
  have t3 := (g3 (i + 3) (by omega) (by omega)).trans s3
  have t4 := (g3 (i + 4) (by omega) (by omega)).trans s4
  have t5 := (g3 (i + 5) (by omega) (by omega)).trans s5
  refine TT.go zL_law 200 ?_
  simp only [↓oPush, ↓oIload, ↓oLload, ↓oRload, ↓oIstore, ↓oLstore, ↓oRstore, ↓oIinc, ↓oIadd, ↓oIsub, ↓oImul, ↓oIand, ↓oIor, ↓oIshl, ↓oIshr, ↓oIushr, ↓oIdiv, ↓oIrem, ↓oIneg, ↓oLadd, ↓oLmul, ↓oLand, ↓oLor, ↓oLxor, ↓oLshl, ↓oLshr, ↓oLushr, ↓oLcmp, ↓oI2l, ↓oL2i, ↓oI2b, ↓oI2s, ↓oDup, ↓oPop, ↓oDupx1, ↓oDupx2, ↓oDup2, ↓oGoto, ↓oIfEq, ↓oIfNe, ↓oIfLt, ↓oIfGe, ↓oIfGt, ↓oIfLe, ↓oIcEq, ↓oIcNe, ↓oIcLt, ↓oIcGe, ↓oIcGt, ↓oIcLe, ↓oIfnull, ↓oIfnonnull, ↓oSwitch, ↓oGetf, ↓oPutf, ↓oNew, ↓oNewa, ↓oAlen, ↓oIald, ↓oLald, ↓oZald, ↓oAald, ↓oIast, ↓oLast, ↓oZast, ↓oAast, ↓oCast, ↓oObji, ↓oRetI, ↓oRetZ, ↓oRetL, ↓oRetA, ↓oRetV, ↓oInvS, ↓oInvV, ↓oInvI, ↓oFail, ↓oAcEq, ↓oGetE, ↓oAlenE, ↓oAastO, ↓oCopyL, ↓oCopyK, ↓oInvS8, ↓oLdcS, ↓oMmax, ↓oMmin, ↓oMabs, ↓oAlenE, ↓popI_I, ↓popL_L, ↓popR_R, ↓popS_I, ↓popS_R, ↓popN_0, ↓popN_s, ↓popT_0, ↓popT_1, ↓popT_2, ↓popT_3, ↓gI_0, ↓gI_s, ↓gL_0, ↓gL_s, ↓gR_0, ↓gR_s, ↓blk_s, ↓blk_0, goE_0, goE_1, goE_2, bst_0, bst_1, bst_2, TTf_e, st1_0, st1_1, st1_s, st2_0, st2_1, st2_s, jk_I, jk_R, jk_L, jk_J, mkT_0, mkT_1, mkT_2, mkT_3, sw_n, sw_c, nJ_n, nJ_I, nJ_L, nJ_R, stW_n, stW_I, stW_R, stW_L, true_and, and_true, Nat.reduceAdd, Nat.reduceLeDiff, Int.reduceAdd, up_at, Int.reduceEq, Int.reduceLE, Int.reduceLT, false_and, and_false, and_self, if_false, if_true, Int.reduceNeg, List.cons_append, List.nil_append, not_true_eq_false, not_false_eq_true, false_implies, true_implies, implies_true, true_or, or_true, false_or, or_false, ↓oIaldX, aL_law_1142, aL_law_1143, aL_law_1144, aL_law_1145, aL_law_1146, aL_law_1147, aL_law_1148, aL_law_1149, aL_law_1150, aL_law_1151, aL_law_1152, aL_law_1153, aL_law_1154, aL_law_1155, aL_law_1156, aL_law_1157, aL_law_1158, aL_law_1159, aL_law_1160, aL_law_1161, aL_law_1162, aL_law_1163, aL_law_1166, aL_law_1167, aL_law_1168, aL_law_1169, aL_law_1170, aL_law_1171, aL_law_1172, aL_law_1173, aL_law_1174, aL_law_1175, aL_law_1176, aL_law_1177, aL_law_1178, aL_law_1179, aL_law_1180, aL_law_1181, aL_law_1182, aL_law_1183, aL_law_1184, aL_law_1185, aL_law_1186, aL_law_1187, aL_law_1190, aL_law_1193, aL_law_1194, aL_law_1718, aL_law_1721, m1, r9, e1, p1, q1, e2, p2, q2, e3, p3, q3, e4, p4, q4, e5, p5, q5, e6, t1, t2, t3, t4, t5]
  refine GG.of0 (m_decide (d := d + 65) hmk1 ms1 i0 iA iP iK iU (fun S2 g4 => ?_))
  refine TT.go zL_law 200 ?_
  simp only [↓oPush, ↓oIload, ↓oLload, ↓oRload, ↓oIstore, ↓oLstore, ↓oRstore, ↓oIinc, ↓oIadd, ↓oIsub, ↓oImul, ↓oIand, ↓oIor, ↓oIshl, ↓oIshr, ↓oIushr, ↓oIdiv, ↓oIrem, ↓oIneg, ↓oLadd, ↓oLmul, ↓oLand, ↓oLor, ↓oLxor, ↓oLshl, ↓oLshr, ↓oLushr, ↓oLcmp, ↓oI2l, ↓oL2i, ↓oI2b, ↓oI2s, ↓oDup, ↓oPop, ↓oDupx1, ↓oDupx2, ↓oDup2, ↓oGoto, ↓oIfEq, ↓oIfNe, ↓oIfLt, ↓oIfGe, ↓oIfGt, ↓oIfLe, ↓oIcEq, ↓oIcNe, ↓oIcLt, ↓oIcGe, ↓oIcGt, ↓oIcLe, ↓oIfnull, ↓oIfnonnull, ↓oSwitch, ↓oGetf, ↓oPutf, ↓oNew, ↓oNewa, ↓oAlen, ↓oIald, ↓oLald, ↓oZald, ↓oAald, ↓oIast, ↓oLast, ↓oZast, ↓oAast, ↓oCast, ↓oObji, ↓oRetI, ↓oRetZ, ↓oRetL, ↓oRetA, ↓oRetV, ↓oInvS, ↓oInvV, ↓oInvI, ↓oFail, ↓oAcEq, ↓oGetE, ↓oAlenE, ↓oAastO, ↓oCopyL, ↓oCopyK, ↓oInvS8, ↓oLdcS, ↓oMmax, ↓oMmin, ↓oMabs, ↓oAlenE, ↓popI_I, ↓popL_L, ↓popR_R, ↓popS_I, ↓popS_R, ↓popN_0, ↓popN_s, ↓popT_0, ↓popT_1, ↓popT_2, ↓popT_3, ↓gI_0, ↓gI_s, ↓gL_0, ↓gL_s, ↓gR_0, ↓gR_s, ↓blk_s, ↓blk_0, goE_0, goE_1, goE_2, bst_0, bst_1, bst_2, TTf_e, st1_0, st1_1, st1_s, st2_0, st2_1, st2_s, jk_I, jk_R, jk_L, jk_J, mkT_0, mkT_1, mkT_2, mkT_3, sw_n, sw_c, nJ_n, nJ_I, nJ_L, nJ_R, stW_n, stW_I, stW_R, stW_L, true_and, and_true, Nat.reduceAdd, Nat.reduceLeDiff, Int.reduceAdd, up_at, Int.reduceEq, Int.reduceLE, Int.reduceLT, false_and, and_false, and_self, if_false, if_true, Int.reduceNeg, List.cons_append, List.nil_append, not_true_eq_false, not_false_eq_true, false_implies, true_implies, implies_true, true_or, or_true, false_or, or_false, ↓oIaldX, aL_law_1142, aL_law_1143, aL_law_1144, aL_law_1145, aL_law_1146, aL_law_1147, aL_law_1148, aL_law_1149, aL_law_1150, aL_law_1151, aL_law_1152, aL_law_1153, aL_law_1154, aL_law_1155, aL_law_1156, aL_law_1157, aL_law_1158, aL_law_1159, aL_law_1160, aL_law_1161, aL_law_1162, aL_law_1163, aL_law_1166, aL_law_1167, aL_law_1168, aL_law_1169, aL_law_1170, aL_law_1171, aL_law_1172, aL_law_1173, aL_law_1174, aL_law_1175, aL_law_1176, aL_law_1177, aL_law_1178, aL_law_1179, aL_law_1180, aL_law_1181, aL_law_1182, aL_law_1183, aL_law_1184, aL_law_1185, aL_law_1186, aL_law_1187, aL_law_1190, aL_law_1193, aL_law_1194, aL_law_1718, aL_law_1721, m1, r9, e1, p1, q1, e2, p2, q2, e3, p3, q3, e4, p4, q4, e5, p5, q5, e6, t1, t2, t3, t4, t5]
  exact hgo _ _ _ _ _ _ (by omega) (by omega) (LI_next h g1 hmk1 r9 g3 g4 (Iv_decide hI) hO)
set_option maxRecDepth 20000 in
theorem lw_c25 {d : Nat} {L i : Int} {T : Int → Int} {μ : ST} {R : RT} {K : KT} {S : ST} {cb nb : Nat} {Q : QF} (h : LI L T μ R K S) (hL : 0 ≤ L ∧ L ≤ 3072) (hT : ∀ j, 0 ≤ j → j < L → in32 (T j)) (hi : 0 ≤ i ∧ i + 6 ≤ L) (hc : 8 ≤ cb) (hn : 200 ≤ nb) (hgo : ∀ μ' R' K' S' cb' nb', cb ≤ cb' + 8 → nb ≤ nb' + 200 → LI L T μ' R' K' S' → TT mL_law (d + 72) 18 [vR 9, vR 1, vR 1000, vI (i + 6)] [] K' S' cb' nb' Q) : TT mL_law (d + 72) 1195 [vR 9, vR 1, vR 1000, vI i] [] K S cb nb Q := by
  obtain ⟨hrc, hms, hmk, hI, hO, h9, hs⟩ := id h
  obtain ⟨⟨i0, iS, iA, iP, iF, iK, iU, iR⟩, iC⟩ := id hI
  have e1 : w32 (i + 1) = i + 1 := w32_id (by unfold in32; omega)
  have e2 : w32 (i + 2) = i + 2 := w32_id (by unfold in32; omega)
  have e3 : w32 (i + 3) = i + 3 := w32_id (by unfold in32; omega)
  have e4 : w32 (i + 4) = i + 4 := w32_id (by unfold in32; omega)
  have e5 : w32 (i + 5) = i + 5 := w32_id (by unfold in32; omega)
  have e6 : w32 (i + 6) = i + 6 := w32_id (by unfold in32; omega)
  have p1 : (0 ≤ i + 1) = True := eq_true (by omega)
  have q1 : (i + 1 < L) = True := eq_true (by omega)
  have s1 := hs (i + 1) (by omega) (by omega)
  have p2 : (0 ≤ i + 2) = True := eq_true (by omega)
  have q2 : (i + 2 < L) = True := eq_true (by omega)
  have s2 := hs (i + 2) (by omega) (by omega)
  have p3 : (0 ≤ i + 3) = True := eq_true (by omega)
  have q3 : (i + 3 < L) = True := eq_true (by omega)
  have s3 := hs (i + 3) (by omega) (by omega)
  have p4 : (0 ≤ i + 4) = True := eq_true (by omega)
  have q4 : (i + 4 < L) = True := eq_true (by omega)
  have s4 := hs (i + 4) (by omega) (by omega)
  have p5 : (0 ≤ i + 5) = True := eq_true (by omega)
  have q5 : (i + 5 < L) = True := eq_true (by omega)
  have s5 := hs (i + 5) (by omega) (by omega)
  have k1 := CK_1 hrc.1
  refine TT.go zL_law 200 ?_
  simp only [↓oPush, ↓oIload, ↓oLload, ↓oRload, ↓oIstore, ↓oLstore, ↓oRstore, ↓oIinc, ↓oIadd, ↓oIsub, ↓oImul, ↓oIand, ↓oIor, ↓oIshl, ↓oIshr, ↓oIushr, ↓oIdiv, ↓oIrem, ↓oIneg, ↓oLadd, ↓oLmul, ↓oLand, ↓oLor, ↓oLxor, ↓oLshl, ↓oLshr, ↓oLushr, ↓oLcmp, ↓oI2l, ↓oL2i, ↓oI2b, ↓oI2s, ↓oDup, ↓oPop, ↓oDupx1, ↓oDupx2, ↓oDup2, ↓oGoto, ↓oIfEq, ↓oIfNe, ↓oIfLt, ↓oIfGe, ↓oIfGt, ↓oIfLe, ↓oIcEq, ↓oIcNe, ↓oIcLt, ↓oIcGe, ↓oIcGt, ↓oIcLe, ↓oIfnull, ↓oIfnonnull, ↓oSwitch, ↓oGetf, ↓oPutf, ↓oNew, ↓oNewa, ↓oAlen, ↓oIald, ↓oLald, ↓oZald, ↓oAald, ↓oIast, ↓oLast, ↓oZast, ↓oAast, ↓oCast, ↓oObji, ↓oRetI, ↓oRetZ, ↓oRetL, ↓oRetA, ↓oRetV, ↓oInvS, ↓oInvV, ↓oInvI, ↓oFail, ↓oAcEq, ↓oGetE, ↓oAlenE, ↓oAastO, ↓oCopyL, ↓oCopyK, ↓oInvS8, ↓oLdcS, ↓oMmax, ↓oMmin, ↓oMabs, ↓oAlenE, ↓popI_I, ↓popL_L, ↓popR_R, ↓popS_I, ↓popS_R, ↓popN_0, ↓popN_s, ↓popT_0, ↓popT_1, ↓popT_2, ↓popT_3, ↓gI_0, ↓gI_s, ↓gL_0, ↓gL_s, ↓gR_0, ↓gR_s, ↓blk_s, ↓blk_0, goE_0, goE_1, goE_2, bst_0, bst_1, bst_2, TTf_e, st1_0, st1_1, st1_s, st2_0, st2_1, st2_s, jk_I, jk_R, jk_L, jk_J, mkT_0, mkT_1, mkT_2, mkT_3, sw_n, sw_c, nJ_n, nJ_I, nJ_L, nJ_R, stW_n, stW_I, stW_R, stW_L, true_and, and_true, Nat.reduceAdd, Nat.reduceLeDiff, Int.reduceAdd, up_at, Int.reduceEq, Int.reduceLE, Int.reduceLT, false_and, and_false, and_self, if_false, if_true, Int.reduceNeg, List.cons_append, List.nil_append, not_true_eq_false, not_false_eq_true, false_implies, true_implies, implies_true, true_or, or_true, false_or, or_false, ↓oIaldX, aL_law_1195, aL_law_1196, aL_law_1197, aL_law_1198, aL_law_1199, aL_law_1200, aL_law_1201, aL_law_1202, aL_law_1203, aL_law_1204, aL_law_1205, aL_law_1206, aL_law_1209, aL_law_1210, aL_law_1211, aL_law_1212, aL_law_1213, aL_law_1214, aL_law_1215, aL_law_1216, aL_law_1217, aL_law_1218, aL_law_1219, aL_law_1220, aL_law_1223, aL_law_1226, aL_law_1227, aL_law_1718, aL_law_1721, k1, h9, e1, p1, q1, e2, p2, q2, e3, p3, q3, e4, p4, q4, e5, p5, q5, e6, s1, s2, s3, s4, s5]
  refine GG.of0 (Mt.scr h9 (c_ruling (d := d + 66) hrc iU (fun r9 g3 => ?_)))
  have hmk1 := hmk
  have g1 := hrc
  have g2 := Out_rfl S
  have ms1 := MS_out hms g2
  have m1 := MK_o hmk1
  have t1 := (g3 (i + 1) (by omega) (by omega)).trans s1
  have t2 := (g3 (i + 2) (by omega) (by omega)).trans s2
  have t3 := (g3 (i + 3) (by omega) (by omega)).trans s3
  have t4 := (g3 (i + 4) (by omega) (by omega)).trans s4
  have t5 := (g3 (i + 5) (by omega) (by omega)).trans s5
  refine TT.go zL_law 200 ?_
  simp only [↓oPush, ↓oIload, ↓oLload, ↓oRload, ↓oIstore, ↓oLstore, ↓oRstore, ↓oIinc, ↓oIadd, ↓oIsub, ↓oImul, ↓oIand, ↓oIor, ↓oIshl, ↓oIshr, ↓oIushr, ↓oIdiv, ↓oIrem, ↓oIneg, ↓oLadd, ↓oLmul, ↓oLand, ↓oLor, ↓oLxor, ↓oLshl, ↓oLshr, ↓oLushr, ↓oLcmp, ↓oI2l, ↓oL2i, ↓oI2b, ↓oI2s, ↓oDup, ↓oPop, ↓oDupx1, ↓oDupx2, ↓oDup2, ↓oGoto, ↓oIfEq, ↓oIfNe, ↓oIfLt, ↓oIfGe, ↓oIfGt, ↓oIfLe, ↓oIcEq, ↓oIcNe, ↓oIcLt, ↓oIcGe, ↓oIcGt, ↓oIcLe, ↓oIfnull, ↓oIfnonnull, ↓oSwitch, ↓oGetf, ↓oPutf, ↓oNew, ↓oNewa, ↓oAlen, ↓oIald, ↓oLald, ↓oZald, ↓oAald, ↓oIast, ↓oLast, ↓oZast, ↓oAast, ↓oCast, ↓oObji, ↓oRetI, ↓oRetZ, ↓oRetL, ↓oRetA, ↓oRetV, ↓oInvS, ↓oInvV, ↓oInvI, ↓oFail, ↓oAcEq, ↓oGetE, ↓oAlenE, ↓oAastO, ↓oCopyL, ↓oCopyK, ↓oInvS8, ↓oLdcS, ↓oMmax, ↓oMmin, ↓oMabs, ↓oAlenE, ↓popI_I, ↓popL_L, ↓popR_R, ↓popS_I, ↓popS_R, ↓popN_0, ↓popN_s, ↓popT_0, ↓popT_1, ↓popT_2, ↓popT_3, ↓gI_0, ↓gI_s, ↓gL_0, ↓gL_s, ↓gR_0, ↓gR_s, ↓blk_s, ↓blk_0, goE_0, goE_1, goE_2, bst_0, bst_1, bst_2, TTf_e, st1_0, st1_1, st1_s, st2_0, st2_1, st2_s, jk_I, jk_R, jk_L, jk_J, mkT_0, mkT_1, mkT_2, mkT_3, sw_n, sw_c, nJ_n, nJ_I, nJ_L, nJ_R, stW_n, stW_I, stW_R, stW_L, true_and, and_true, Nat.reduceAdd, Nat.reduceLeDiff, Int.reduceAdd, up_at, Int.reduceEq, Int.reduceLE, Int.reduceLT, false_and, and_false, and_self, if_false, if_true, Int.reduceNeg, List.cons_append, List.nil_append, not_true_eq_false, not_false_eq_true, false_implies, true_implies, implies_true, true_or, or_true, false_or, or_false, ↓oIaldX, aL_law_1195, aL_law_1196, aL_law_1197, aL_law_1198, aL_law_1199, aL_law_1200, aL_law_1201, aL_law_1202, aL_law_1203, aL_law_1204, aL_law_1205, aL_law_1206, aL_law_1209, aL_law_1210, aL_law_1211, aL_law_1212, aL_law_1213, aL_law_1214, aL_law_1215, aL_law_1216, aL_law_1217, aL_law_1218, aL_law_1219, aL_law_1220, aL_law_1223, aL_law_1226, aL_law_1227, aL_law_1718, aL_law_1721, m1, r9, e1, p1, q1, e2, p2, q2, e3, p3, q3, e4, p4, q4, e5, p5, q5, e6, s1, s2, s3, s4, s5]
  refine GG.of0 (m_ruling (d := d + 69) hmk1 ms1 i0 ?_)
  refine TT.go zL_law 200 ?_
  simp only [↓oPush, ↓oIload, ↓oLload, ↓oRload, ↓oIstore, ↓oLstore, ↓oRstore, ↓oIinc, ↓oIadd, ↓oIsub, ↓oImul, ↓oIand, ↓oIor, ↓oIshl, ↓oIshr, ↓oIushr, ↓oIdiv, ↓oIrem, ↓oIneg, ↓oLadd, ↓oLmul, ↓oLand, ↓oLor, ↓oLxor, ↓oLshl, ↓oLshr, ↓oLushr, ↓oLcmp, ↓oI2l, ↓oL2i, ↓oI2b, ↓oI2s, ↓oDup, ↓oPop, ↓oDupx1, ↓oDupx2, ↓oDup2, ↓oGoto, ↓oIfEq, ↓oIfNe, ↓oIfLt, ↓oIfGe, ↓oIfGt, ↓oIfLe, ↓oIcEq, ↓oIcNe, ↓oIcLt, ↓oIcGe, ↓oIcGt, ↓oIcLe, ↓oIfnull, ↓oIfnonnull, ↓oSwitch, ↓oGetf, ↓oPutf, ↓oNew, ↓oNewa, ↓oAlen, ↓oIald, ↓oLald, ↓oZald, ↓oAald, ↓oIast, ↓oLast, ↓oZast, ↓oAast, ↓oCast, ↓oObji, ↓oRetI, ↓oRetZ, ↓oRetL, ↓oRetA, ↓oRetV, ↓oInvS, ↓oInvV, ↓oInvI, ↓oFail, ↓oAcEq, ↓oGetE, ↓oAlenE, ↓oAastO, ↓oCopyL, ↓oCopyK, ↓oInvS8, ↓oLdcS, ↓oMmax, ↓oMmin, ↓oMabs, ↓oAlenE, ↓popI_I, ↓popL_L, ↓popR_R, ↓popS_I, ↓popS_R, ↓popN_0, ↓popN_s, ↓popT_0, ↓popT_1, ↓popT_2, ↓popT_3, ↓gI_0, ↓gI_s, ↓gL_0, ↓gL_s, ↓gR_0, ↓gR_s, ↓blk_s, ↓blk_0, goE_0, goE_1, goE_2, bst_0, bst_1, bst_2, TTf_e, st1_0, st1_1, st1_s, st2_0, st2_1, st2_s, jk_I, jk_R, jk_L, jk_J, mkT_0, mkT_1, mkT_2, mkT_3, sw_n, sw_c, nJ_n, nJ_I, nJ_L, nJ_R, stW_n, stW_I, stW_R, stW_L, true_and, and_true, Nat.reduceAdd, Nat.reduceLeDiff, Int.reduceAdd, up_at, Int.reduceEq, Int.reduceLE, Int.reduceLT, false_and, and_false, and_self, if_false, if_true, Int.reduceNeg, List.cons_append, List.nil_append, not_true_eq_false, not_false_eq_true, false_implies, true_implies, implies_true, true_or, or_true, false_or, or_false, ↓oIaldX, aL_law_1195, aL_law_1196, aL_law_1197, aL_law_1198, aL_law_1199, aL_law_1200, aL_law_1201, aL_law_1202, aL_law_1203, aL_law_1204, aL_law_1205, aL_law_1206, aL_law_1209, aL_law_1210, aL_law_1211, aL_law_1212, aL_law_1213, aL_law_1214, aL_law_1215, aL_law_1216, aL_law_1217, aL_law_1218, aL_law_1219, aL_law_1220, aL_law_1223, aL_law_1226, aL_law_1227, aL_law_1718, aL_law_1721, m1, r9, e1, p1, q1, e2, p2, q2, e3, p3, q3, e4, p4, q4, e5, p5, q5, e6, s1, s2, s3, s4, s5]
  exact hgo _ _ _ _ _ _ (by omega) (by omega) (LI_next h g1 hmk1 r9 g3 ms1 hI hO)
set_option maxRecDepth 20000 in
theorem lw_c26 {d : Nat} {L i : Int} {T : Int → Int} {μ : ST} {R : RT} {K : KT} {S : ST} {cb nb : Nat} {Q : QF} (h : LI L T μ R K S) (hL : 0 ≤ L ∧ L ≤ 3072) (hT : ∀ j, 0 ≤ j → j < L → in32 (T j)) (hi : 0 ≤ i ∧ i + 6 ≤ L) (hc : 8 ≤ cb) (hn : 200 ≤ nb) (hgo : ∀ μ' R' K' S' cb' nb', cb ≤ cb' + 8 → nb ≤ nb' + 200 → LI L T μ' R' K' S' → TT mL_law (d + 72) 18 [vR 9, vR 1, vR 1000, vI (i + 6)] [] K' S' cb' nb' Q) : TT mL_law (d + 72) 1228 [vR 9, vR 1, vR 1000, vI i] [] K S cb nb Q := by
  obtain ⟨hrc, hms, hmk, hI, hO, h9, hs⟩ := id h
  obtain ⟨⟨i0, iS, iA, iP, iF, iK, iU, iR⟩, iC⟩ := id hI
  have e1 : w32 (i + 1) = i + 1 := w32_id (by unfold in32; omega)
  have e2 : w32 (i + 2) = i + 2 := w32_id (by unfold in32; omega)
  have e3 : w32 (i + 3) = i + 3 := w32_id (by unfold in32; omega)
  have e4 : w32 (i + 4) = i + 4 := w32_id (by unfold in32; omega)
  have e5 : w32 (i + 5) = i + 5 := w32_id (by unfold in32; omega)
  have e6 : w32 (i + 6) = i + 6 := w32_id (by unfold in32; omega)
  have p1 : (0 ≤ i + 1) = True := eq_true (by omega)
  have q1 : (i + 1 < L) = True := eq_true (by omega)
  have s1 := hs (i + 1) (by omega) (by omega)
  have p2 : (0 ≤ i + 2) = True := eq_true (by omega)
  have q2 : (i + 2 < L) = True := eq_true (by omega)
  have s2 := hs (i + 2) (by omega) (by omega)
  have p3 : (0 ≤ i + 3) = True := eq_true (by omega)
  have q3 : (i + 3 < L) = True := eq_true (by omega)
  have s3 := hs (i + 3) (by omega) (by omega)
  have p4 : (0 ≤ i + 4) = True := eq_true (by omega)
  have q4 : (i + 4 < L) = True := eq_true (by omega)
  have s4 := hs (i + 4) (by omega) (by omega)
  have p5 : (0 ≤ i + 5) = True := eq_true (by omega)
  have q5 : (i + 5 < L) = True := eq_true (by omega)
  have s5 := hs (i + 5) (by omega) (by omega)
  have k1 := CK_1 hrc.1
  refine TT.go zL_law 200 ?_
  simp only [↓oPush, ↓oIload, ↓oLload, ↓oRload, ↓oIstore, ↓oLstore, ↓oRstore, ↓oIinc, ↓oIadd, ↓oIsub, ↓oImul, ↓oIand, ↓oIor, ↓oIshl, ↓oIshr, ↓oIushr, ↓oIdiv, ↓oIrem, ↓oIneg, ↓oLadd, ↓oLmul, ↓oLand, ↓oLor, ↓oLxor, ↓oLshl, ↓oLshr, ↓oLushr, ↓oLcmp, ↓oI2l, ↓oL2i, ↓oI2b, ↓oI2s, ↓oDup, ↓oPop, ↓oDupx1, ↓oDupx2, ↓oDup2, ↓oGoto, ↓oIfEq, ↓oIfNe, ↓oIfLt, ↓oIfGe, ↓oIfGt, ↓oIfLe, ↓oIcEq, ↓oIcNe, ↓oIcLt, ↓oIcGe, ↓oIcGt, ↓oIcLe, ↓oIfnull, ↓oIfnonnull, ↓oSwitch, ↓oGetf, ↓oPutf, ↓oNew, ↓oNewa, ↓oAlen, ↓oIald, ↓oLald, ↓oZald, ↓oAald, ↓oIast, ↓oLast, ↓oZast, ↓oAast, ↓oCast, ↓oObji, ↓oRetI, ↓oRetZ, ↓oRetL, ↓oRetA, ↓oRetV, ↓oInvS, ↓oInvV, ↓oInvI, ↓oFail, ↓oAcEq, ↓oGetE, ↓oAlenE, ↓oAastO, ↓oCopyL, ↓oCopyK, ↓oInvS8, ↓oLdcS, ↓oMmax, ↓oMmin, ↓oMabs, ↓oAlenE, ↓popI_I, ↓popL_L, ↓popR_R, ↓popS_I, ↓popS_R, ↓popN_0, ↓popN_s, ↓popT_0, ↓popT_1, ↓popT_2, ↓popT_3, ↓gI_0, ↓gI_s, ↓gL_0, ↓gL_s, ↓gR_0, ↓gR_s, ↓blk_s, ↓blk_0, goE_0, goE_1, goE_2, bst_0, bst_1, bst_2, TTf_e, st1_0, st1_1, st1_s, st2_0, st2_1, st2_s, jk_I, jk_R, jk_L, jk_J, mkT_0, mkT_1, mkT_2, mkT_3, sw_n, sw_c, nJ_n, nJ_I, nJ_L, nJ_R, stW_n, stW_I, stW_R, stW_L, true_and, and_true, Nat.reduceAdd, Nat.reduceLeDiff, Int.reduceAdd, up_at, Int.reduceEq, Int.reduceLE, Int.reduceLT, false_and, and_false, and_self, if_false, if_true, Int.reduceNeg, List.cons_append, List.nil_append, not_true_eq_false, not_false_eq_true, false_implies, true_implies, implies_true, true_or, or_true, false_or, or_false, ↓oIaldX, aL_law_1228, aL_law_1229, aL_law_1230, aL_law_1231, aL_law_1232, aL_law_1233, aL_law_1234, aL_law_1235, aL_law_1236, aL_law_1237, aL_law_1238, aL_law_1239, aL_law_1242, aL_law_1243, aL_law_1244, aL_law_1245, aL_law_1246, aL_law_1247, aL_law_1248, aL_law_1249, aL_law_1250, aL_law_1251, aL_law_1252, aL_law_1253, aL_law_1256, aL_law_1259, aL_law_1260, aL_law_1718, aL_law_1721, k1, h9, e1, p1, q1, e2, p2, q2, e3, p3, q3, e4, p4, q4, e5, p5, q5, e6, s1, s2, s3, s4, s5]
  refine GG.of0 (Mt.scr h9 (c_kin (d := d + 65) hrc iU (fun S1 g1 g2 r9 g3 => ?_)))
  have hmk1 := hmk
  have ms1 := MS_out hms g2
  have m1 := MK_o hmk1
  have t1 := (g3 (i + 1) (by omega) (by omega)).trans s1
  have t2 := (g3 (i + 2) (by omega) (by omega)).trans s2
  have t3 := (g3 (i + 3) (by omega) (by omega)).trans s3
  have t4 := (g3 (i + 4) (by omega) (by omega)).trans s4
  have t5 := (g3 (i + 5) (by omega) (by omega)).trans s5
  refine TT.go zL_law 200 ?_
  simp only [↓oPush, ↓oIload, ↓oLload, ↓oRload, ↓oIstore, ↓oLstore, ↓oRstore, ↓oIinc, ↓oIadd, ↓oIsub, ↓oImul, ↓oIand, ↓oIor, ↓oIshl, ↓oIshr, ↓oIushr, ↓oIdiv, ↓oIrem, ↓oIneg, ↓oLadd, ↓oLmul, ↓oLand, ↓oLor, ↓oLxor, ↓oLshl, ↓oLshr, ↓oLushr, ↓oLcmp, ↓oI2l, ↓oL2i, ↓oI2b, ↓oI2s, ↓oDup, ↓oPop, ↓oDupx1, ↓oDupx2, ↓oDup2, ↓oGoto, ↓oIfEq, ↓oIfNe, ↓oIfLt, ↓oIfGe, ↓oIfGt, ↓oIfLe, ↓oIcEq, ↓oIcNe, ↓oIcLt, ↓oIcGe, ↓oIcGt, ↓oIcLe, ↓oIfnull, ↓oIfnonnull, ↓oSwitch, ↓oGetf, ↓oPutf, ↓oNew, ↓oNewa, ↓oAlen, ↓oIald, ↓oLald, ↓oZald, ↓oAald, ↓oIast, ↓oLast, ↓oZast, ↓oAast, ↓oCast, ↓oObji, ↓oRetI, ↓oRetZ, ↓oRetL, ↓oRetA, ↓oRetV, ↓oInvS, ↓oInvV, ↓oInvI, ↓oFail, ↓oAcEq, ↓oGetE, ↓oAlenE, ↓oAastO, ↓oCopyL, ↓oCopyK, ↓oInvS8, ↓oLdcS, ↓oMmax, ↓oMmin, ↓oMabs, ↓oAlenE, ↓popI_I, ↓popL_L, ↓popR_R, ↓popS_I, ↓popS_R, ↓popN_0, ↓popN_s, ↓popT_0, ↓popT_1, ↓popT_2, ↓popT_3, ↓gI_0, ↓gI_s, ↓gL_0, ↓gL_s, ↓gR_0, ↓gR_s, ↓blk_s, ↓blk_0, goE_0, goE_1, goE_2, bst_0, bst_1, bst_2, TTf_e, st1_0, st1_1, st1_s, st2_0, st2_1, st2_s, jk_I, jk_R, jk_L, jk_J, mkT_0, mkT_1, mkT_2, mkT_3, sw_n, sw_c, nJ_n, nJ_I, nJ_L, nJ_R, stW_n, stW_I, stW_R, stW_L, true_and, and_true, Nat.reduceAdd, Nat.reduceLeDiff, Int.reduceAdd, up_at, Int.reduceEq, Int.reduceLE, Int.reduceLT, false_and, and_false, and_self, if_false, if_true, Int.reduceNeg, List.cons_append, List.nil_append, not_true_eq_false, not_false_eq_true, false_implies, true_implies, implies_true, true_or, or_true, false_or, or_false, ↓oIaldX, aL_law_1228, aL_law_1229, aL_law_1230, aL_law_1231, aL_law_1232, aL_law_1233, aL_law_1234, aL_law_1235, aL_law_1236, aL_law_1237, aL_law_1238, aL_law_1239, aL_law_1242, aL_law_1243, aL_law_1244, aL_law_1245, aL_law_1246, aL_law_1247, aL_law_1248, aL_law_1249, aL_law_1250, aL_law_1251, aL_law_1252, aL_law_1253, aL_law_1256, aL_law_1259, aL_law_1260, aL_law_1718, aL_law_1721, m1, r9, e1, p1, q1, e2, p2, q2, e3, p3, q3, e4, p4, q4, e5, p5, q5, e6, t1, t2, t3, t4, t5]
  refine GG.of0 (m_kin (d := d + 69) hmk1 ms1 i0 iK iU (fun S2 g4 => ?_))
  refine TT.go zL_law 200 ?_
  simp only [↓oPush, ↓oIload, ↓oLload, ↓oRload, ↓oIstore, ↓oLstore, ↓oRstore, ↓oIinc, ↓oIadd, ↓oIsub, ↓oImul, ↓oIand, ↓oIor, ↓oIshl, ↓oIshr, ↓oIushr, ↓oIdiv, ↓oIrem, ↓oIneg, ↓oLadd, ↓oLmul, ↓oLand, ↓oLor, ↓oLxor, ↓oLshl, ↓oLshr, ↓oLushr, ↓oLcmp, ↓oI2l, ↓oL2i, ↓oI2b, ↓oI2s, ↓oDup, ↓oPop, ↓oDupx1, ↓oDupx2, ↓oDup2, ↓oGoto, ↓oIfEq, ↓oIfNe, ↓oIfLt, ↓oIfGe, ↓oIfGt, ↓oIfLe, ↓oIcEq, ↓oIcNe, ↓oIcLt, ↓oIcGe, ↓oIcGt, ↓oIcLe, ↓oIfnull, ↓oIfnonnull, ↓oSwitch, ↓oGetf, ↓oPutf, ↓oNew, ↓oNewa, ↓oAlen, ↓oIald, ↓oLald, ↓oZald, ↓oAald, ↓oIast, ↓oLast, ↓oZast, ↓oAast, ↓oCast, ↓oObji, ↓oRetI, ↓oRetZ, ↓oRetL, ↓oRetA, ↓oRetV, ↓oInvS, ↓oInvV, ↓oInvI, ↓oFail, ↓oAcEq, ↓oGetE, ↓oAlenE, ↓oAastO, ↓oCopyL, ↓oCopyK, ↓oInvS8, ↓oLdcS, ↓oMmax, ↓oMmin, ↓oMabs, ↓oAlenE, ↓popI_I, ↓popL_L, ↓popR_R, ↓popS_I, ↓popS_R, ↓popN_0, ↓popN_s, ↓popT_0, ↓popT_1, ↓popT_2, ↓popT_3, ↓gI_0, ↓gI_s, ↓gL_0, ↓gL_s, ↓gR_0, ↓gR_s, ↓blk_s, ↓blk_0, goE_0, goE_1, goE_2, bst_0, bst_1, bst_2, TTf_e, st1_0, st1_1, st1_s, st2_0, st2_1, st2_s, jk_I, jk_R, jk_L, jk_J, mkT_0, mkT_1, mkT_2, mkT_3, sw_n, sw_c, nJ_n, nJ_I, nJ_L, nJ_R, stW_n, stW_I, stW_R, stW_L, true_and, and_true, Nat.reduceAdd, Nat.reduceLeDiff, Int.reduceAdd, up_at, Int.reduceEq, Int.reduceLE, Int.reduceLT, false_and, and_false, and_self, if_false, if_true, Int.reduceNeg, List.cons_append, List.nil_append, not_true_eq_false, not_false_eq_true, false_implies, true_implies, implies_true, true_or, or_true, false_or, or_false, ↓oIaldX, aL_law_1228, aL_law_1229, aL_law_1230, aL_law_1231, aL_law_1232, aL_law_1233, aL_law_1234, aL_law_1235, aL_law_1236, aL_law_1237, aL_law_1238, aL_law_1239, aL_law_1242, aL_law_1243, aL_law_1244, aL_law_1245, aL_law_1246, aL_law_1247, aL_law_1248, aL_law_1249, aL_law_1250, aL_law_1251, aL_law_1252, aL_law_1253, aL_law_1256, aL_law_1259, aL_law_1260, aL_law_1718, aL_law_1721, m1, r9, e1, p1, q1, e2, p2, q2, e3, p3, q3, e4, p4, q4, e5, p5, q5, e6, t1, t2, t3, t4, t5]
  exact hgo _ _ _ _ _ _ (by omega) (by omega) (LI_next h g1 hmk1 r9 g3 g4 (Iv_kin hI) hO)
set_option maxRecDepth 20000 in
theorem lw_c27 {d : Nat} {L i : Int} {T : Int → Int} {μ : ST} {R : RT} {K : KT} {S : ST} {cb nb : Nat} {Q : QF} (h : LI L T μ R K S) (hL : 0 ≤ L ∧ L ≤ 3072) (hT : ∀ j, 0 ≤ j → j < L → in32 (T j)) (hi : 0 ≤ i ∧ i + 6 ≤ L) (hc : 8 ≤ cb) (hn : 200 ≤ nb) (hgo : ∀ μ' R' K' S' cb' nb', cb ≤ cb' + 8 → nb ≤ nb' + 200 → LI L T μ' R' K' S' → TT mL_law (d + 72) 18 [vR 9, vR 1, vR 1000, vI (i + 6)] [] K' S' cb' nb' Q) : TT mL_law (d + 72) 1261 [vR 9, vR 1, vR 1000, vI i] [] K S cb nb Q := by
  obtain ⟨hrc, hms, hmk, hI, hO, h9, hs⟩ := id h
  obtain ⟨⟨i0, iS, iA, iP, iF, iK, iU, iR⟩, iC⟩ := id hI
  have e1 : w32 (i + 1) = i + 1 := w32_id (by unfold in32; omega)
  have e2 : w32 (i + 2) = i + 2 := w32_id (by unfold in32; omega)
  have e3 : w32 (i + 3) = i + 3 := w32_id (by unfold in32; omega)
  have e4 : w32 (i + 4) = i + 4 := w32_id (by unfold in32; omega)
  have e5 : w32 (i + 5) = i + 5 := w32_id (by unfold in32; omega)
  have e6 : w32 (i + 6) = i + 6 := w32_id (by unfold in32; omega)
  have p1 : (0 ≤ i + 1) = True := eq_true (by omega)
  have q1 : (i + 1 < L) = True := eq_true (by omega)
  have s1 := hs (i + 1) (by omega) (by omega)
  have p2 : (0 ≤ i + 2) = True := eq_true (by omega)
  have q2 : (i + 2 < L) = True := eq_true (by omega)
  have s2 := hs (i + 2) (by omega) (by omega)
  have p3 : (0 ≤ i + 3) = True := eq_true (by omega)
  have q3 : (i + 3 < L) = True := eq_true (by omega)
  have s3 := hs (i + 3) (by omega) (by omega)
  have p4 : (0 ≤ i + 4) = True := eq_true (by omega)
  have q4 : (i + 4 < L) = True := eq_true (by omega)
  have s4 := hs (i + 4) (by omega) (by omega)
  have p5 : (0 ≤ i + 5) = True := eq_true (by omega)
  have q5 : (i + 5 < L) = True := eq_true (by omega)
  have s5 := hs (i + 5) (by omega) (by omega)
  have k1 := CK_1 hrc.1
  refine TT.go zL_law 200 ?_
  simp only [↓oPush, ↓oIload, ↓oLload, ↓oRload, ↓oIstore, ↓oLstore, ↓oRstore, ↓oIinc, ↓oIadd, ↓oIsub, ↓oImul, ↓oIand, ↓oIor, ↓oIshl, ↓oIshr, ↓oIushr, ↓oIdiv, ↓oIrem, ↓oIneg, ↓oLadd, ↓oLmul, ↓oLand, ↓oLor, ↓oLxor, ↓oLshl, ↓oLshr, ↓oLushr, ↓oLcmp, ↓oI2l, ↓oL2i, ↓oI2b, ↓oI2s, ↓oDup, ↓oPop, ↓oDupx1, ↓oDupx2, ↓oDup2, ↓oGoto, ↓oIfEq, ↓oIfNe, ↓oIfLt, ↓oIfGe, ↓oIfGt, ↓oIfLe, ↓oIcEq, ↓oIcNe, ↓oIcLt, ↓oIcGe, ↓oIcGt, ↓oIcLe, ↓oIfnull, ↓oIfnonnull, ↓oSwitch, ↓oGetf, ↓oPutf, ↓oNew, ↓oNewa, ↓oAlen, ↓oIald, ↓oLald, ↓oZald, ↓oAald, ↓oIast, ↓oLast, ↓oZast, ↓oAast, ↓oCast, ↓oObji, ↓oRetI, ↓oRetZ, ↓oRetL, ↓oRetA, ↓oRetV, ↓oInvS, ↓oInvV, ↓oInvI, ↓oFail, ↓oAcEq, ↓oGetE, ↓oAlenE, ↓oAastO, ↓oCopyL, ↓oCopyK, ↓oInvS8, ↓oLdcS, ↓oMmax, ↓oMmin, ↓oMabs, ↓oAlenE, ↓popI_I, ↓popL_L, ↓popR_R, ↓popS_I, ↓popS_R, ↓popN_0, ↓popN_s, ↓popT_0, ↓popT_1, ↓popT_2, ↓popT_3, ↓gI_0, ↓gI_s, ↓gL_0, ↓gL_s, ↓gR_0, ↓gR_s, ↓blk_s, ↓blk_0, goE_0, goE_1, goE_2, bst_0, bst_1, bst_2, TTf_e, st1_0, st1_1, st1_s, st2_0, st2_1, st2_s, jk_I, jk_R, jk_L, jk_J, mkT_0, mkT_1, mkT_2, mkT_3, sw_n, sw_c, nJ_n, nJ_I, nJ_L, nJ_R, stW_n, stW_I, stW_R, stW_L, true_and, and_true, Nat.reduceAdd, Nat.reduceLeDiff, Int.reduceAdd, up_at, Int.reduceEq, Int.reduceLE, Int.reduceLT, false_and, and_false, and_self, if_false, if_true, Int.reduceNeg, List.cons_append, List.nil_append, not_true_eq_false, not_false_eq_true, false_implies, true_implies, implies_true, true_or, or_true, false_or, or_false, ↓oIaldX, aL_law_1261, aL_law_1262, aL_law_1263, aL_law_1264, aL_law_1265, aL_law_1266, aL_law_1267, aL_law_1268, aL_law_1269, aL_law_1270, aL_law_1271, aL_law_1272, aL_law_1273, aL_law_1274, aL_law_1275, aL_law_1276, aL_law_1277, aL_law_1280, aL_law_1281, aL_law_1282, aL_law_1283, aL_law_1284, aL_law_1285, aL_law_1286, aL_law_1287, aL_law_1288, aL_law_1289, aL_law_1290, aL_law_1291, aL_law_1292, aL_law_1293, aL_law_1294, aL_law_1295, aL_law_1296, aL_law_1299, aL_law_1302, aL_law_1303, aL_law_1718, aL_law_1721, k1, h9, e1, p1, q1, e2, p2, q2, e3, p3, q3, e4, p4, q4, e5, p5, q5, e6, s1, s2, s3, s4, s5]
  refine GG.of0 (Mt.scr h9 (c_like (d := d + 63) hrc i0 iA iP iU (fun S1 g0 r9 g3 => ?_)))
  have hmk1 := hmk
  have g1 := Rc_s hrc g0
  have g2 := Scr_o g0
  have ms1 := MS_out hms g2
  have m1 := MK_o hmk1
  have t1 := (g3 (i + 1) (by omega) (by omega)).trans s1
  have t2 := (g3 (i + 2) (by omega) (by omega)).trans s2
  have t3 := (g3 (i + 3) (by omega) (by omega)).trans s3
  have t4 := (g3 (i + 4) (by omega) (by omega)).trans s4
  have t5 := (g3 (i + 5) (by omega) (by omega)).trans s5
  refine TT.go zL_law 200 ?_
  simp only [↓oPush, ↓oIload, ↓oLload, ↓oRload, ↓oIstore, ↓oLstore, ↓oRstore, ↓oIinc, ↓oIadd, ↓oIsub, ↓oImul, ↓oIand, ↓oIor, ↓oIshl, ↓oIshr, ↓oIushr, ↓oIdiv, ↓oIrem, ↓oIneg, ↓oLadd, ↓oLmul, ↓oLand, ↓oLor, ↓oLxor, ↓oLshl, ↓oLshr, ↓oLushr, ↓oLcmp, ↓oI2l, ↓oL2i, ↓oI2b, ↓oI2s, ↓oDup, ↓oPop, ↓oDupx1, ↓oDupx2, ↓oDup2, ↓oGoto, ↓oIfEq, ↓oIfNe, ↓oIfLt, ↓oIfGe, ↓oIfGt, ↓oIfLe, ↓oIcEq, ↓oIcNe, ↓oIcLt, ↓oIcGe, ↓oIcGt, ↓oIcLe, ↓oIfnull, ↓oIfnonnull, ↓oSwitch, ↓oGetf, ↓oPutf, ↓oNew, ↓oNewa, ↓oAlen, ↓oIald, ↓oLald, ↓oZald, ↓oAald, ↓oIast, ↓oLast, ↓oZast, ↓oAast, ↓oCast, ↓oObji, ↓oRetI, ↓oRetZ, ↓oRetL, ↓oRetA, ↓oRetV, ↓oInvS, ↓oInvV, ↓oInvI, ↓oFail, ↓oAcEq, ↓oGetE, ↓oAlenE, ↓oAastO, ↓oCopyL, ↓oCopyK, ↓oInvS8, ↓oLdcS, ↓oMmax, ↓oMmin, ↓oMabs, ↓oAlenE, ↓popI_I, ↓popL_L, ↓popR_R, ↓popS_I, ↓popS_R, ↓popN_0, ↓popN_s, ↓popT_0, ↓popT_1, ↓popT_2, ↓popT_3, ↓gI_0, ↓gI_s, ↓gL_0, ↓gL_s, ↓gR_0, ↓gR_s, ↓blk_s, ↓blk_0, goE_0, goE_1, goE_2, bst_0, bst_1, bst_2, TTf_e, st1_0, st1_1, st1_s, st2_0, st2_1, st2_s, jk_I, jk_R, jk_L, jk_J, mkT_0, mkT_1, mkT_2, mkT_3, sw_n, sw_c, nJ_n, nJ_I, nJ_L, nJ_R, stW_n, stW_I, stW_R, stW_L, true_and, and_true, Nat.reduceAdd, Nat.reduceLeDiff, Int.reduceAdd, up_at, Int.reduceEq, Int.reduceLE, Int.reduceLT, false_and, and_false, and_self, if_false, if_true, Int.reduceNeg, List.cons_append, List.nil_append, not_true_eq_false, not_false_eq_true, false_implies, true_implies, implies_true, true_or, or_true, false_or, or_false, ↓oIaldX, aL_law_1261, aL_law_1262, aL_law_1263, aL_law_1264, aL_law_1265, aL_law_1266, aL_law_1267, aL_law_1268, aL_law_1269, aL_law_1270, aL_law_1271, aL_law_1272, aL_law_1273, aL_law_1274, aL_law_1275, aL_law_1276, aL_law_1277, aL_law_1280, aL_law_1281, aL_law_1282, aL_law_1283, aL_law_1284, aL_law_1285, aL_law_1286, aL_law_1287, aL_law_1288, aL_law_1289, aL_law_1290, aL_law_1291, aL_law_1292, aL_law_1293, aL_law_1294, aL_law_1295, aL_law_1296, aL_law_1299, aL_law_1302, aL_law_1303, aL_law_1718, aL_law_1721, m1, r9, e1, p1, q1, e2, p2, q2, e3, p3, q3, e4, p4, q4, e5, p5, q5, e6, t1, t2, t3, t4, t5]
  refine GG.of0 (m_like (d := d + 65) hmk1 ms1 i0 iA iP iU (hT _ (by omega) (by omega)) (fun S2 g4 => ?_))
  refine TT.go zL_law 200 ?_
  simp only [↓oPush, ↓oIload, ↓oLload, ↓oRload, ↓oIstore, ↓oLstore, ↓oRstore, ↓oIinc, ↓oIadd, ↓oIsub, ↓oImul, ↓oIand, ↓oIor, ↓oIshl, ↓oIshr, ↓oIushr, ↓oIdiv, ↓oIrem, ↓oIneg, ↓oLadd, ↓oLmul, ↓oLand, ↓oLor, ↓oLxor, ↓oLshl, ↓oLshr, ↓oLushr, ↓oLcmp, ↓oI2l, ↓oL2i, ↓oI2b, ↓oI2s, ↓oDup, ↓oPop, ↓oDupx1, ↓oDupx2, ↓oDup2, ↓oGoto, ↓oIfEq, ↓oIfNe, ↓oIfLt, ↓oIfGe, ↓oIfGt, ↓oIfLe, ↓oIcEq, ↓oIcNe, ↓oIcLt, ↓oIcGe, ↓oIcGt, ↓oIcLe, ↓oIfnull, ↓oIfnonnull, ↓oSwitch, ↓oGetf, ↓oPutf, ↓oNew, ↓oNewa, ↓oAlen, ↓oIald, ↓oLald, ↓oZald, ↓oAald, ↓oIast, ↓oLast, ↓oZast, ↓oAast, ↓oCast, ↓oObji, ↓oRetI, ↓oRetZ, ↓oRetL, ↓oRetA, ↓oRetV, ↓oInvS, ↓oInvV, ↓oInvI, ↓oFail, ↓oAcEq, ↓oGetE, ↓oAlenE, ↓oAastO, ↓oCopyL, ↓oCopyK, ↓oInvS8, ↓oLdcS, ↓oMmax, ↓oMmin, ↓oMabs, ↓oAlenE, ↓popI_I, ↓popL_L, ↓popR_R, ↓popS_I, ↓popS_R, ↓popN_0, ↓popN_s, ↓popT_0, ↓popT_1, ↓popT_2, ↓popT_3, ↓gI_0, ↓gI_s, ↓gL_0, ↓gL_s, ↓gR_0, ↓gR_s, ↓blk_s, ↓blk_0, goE_0, goE_1, goE_2, bst_0, bst_1, bst_2, TTf_e, st1_0, st1_1, st1_s, st2_0, st2_1, st2_s, jk_I, jk_R, jk_L, jk_J, mkT_0, mkT_1, mkT_2, mkT_3, sw_n, sw_c, nJ_n, nJ_I, nJ_L, nJ_R, stW_n, stW_I, stW_R, stW_L, true_and, and_true, Nat.reduceAdd, Nat.reduceLeDiff, Int.reduceAdd, up_at, Int.reduceEq, Int.reduceLE, Int.reduceLT, false_and, and_false, and_self, if_false, if_true, Int.reduceNeg, List.cons_append, List.nil_append, not_true_eq_false, not_false_eq_true, false_implies, true_implies, implies_true, true_or, or_true, false_or, or_false, ↓oIaldX, aL_law_1261, aL_law_1262, aL_law_1263, aL_law_1264, aL_law_1265, aL_law_1266, aL_law_1267, aL_law_1268, aL_law_1269, aL_law_1270, aL_law_1271, aL_law_1272, aL_law_1273, aL_law_1274, aL_law_1275, aL_law_1276, aL_law_1277, aL_law_1280, aL_law_1281, aL_law_1282, aL_law_1283, aL_law_1284, aL_law_1285, aL_law_1286, aL_law_1287, aL_law_1288, aL_law_1289, aL_law_1290, aL_law_1291, aL_law_1292, aL_law_1293, aL_law_1294, aL_law_1295, aL_law_1296, aL_law_1299, aL_law_1302, aL_law_1303, aL_law_1718, aL_law_1721, m1, r9, e1, p1, q1, e2, p2, q2, e3, p3, q3, e4, p4, q4, e5, p5, q5, e6, t1, t2, t3, t4, t5]
  exact hgo _ _ _ _ _ _ (by omega) (by omega) (LI_next h g1 hmk1 r9 g3 g4 hI hO)
set_option maxRecDepth 20000 in
theorem lw_c28 {d : Nat} {L i : Int} {T : Int → Int} {μ : ST} {R : RT} {K : KT} {S : ST} {cb nb : Nat} {Q : QF} (h : LI L T μ R K S) (hL : 0 ≤ L ∧ L ≤ 3072) (hT : ∀ j, 0 ≤ j → j < L → in32 (T j)) (hi : 0 ≤ i ∧ i + 6 ≤ L) (hc : 8 ≤ cb) (hn : 200 ≤ nb) (hgo : ∀ μ' R' K' S' cb' nb', cb ≤ cb' + 8 → nb ≤ nb' + 200 → LI L T μ' R' K' S' → TT mL_law (d + 72) 18 [vR 9, vR 1, vR 1000, vI (i + 6)] [] K' S' cb' nb' Q) : TT mL_law (d + 72) 1304 [vR 9, vR 1, vR 1000, vI i] [] K S cb nb Q := by
  obtain ⟨hrc, hms, hmk, hI, hO, h9, hs⟩ := id h
  obtain ⟨⟨i0, iS, iA, iP, iF, iK, iU, iR⟩, iC⟩ := id hI
  have e1 : w32 (i + 1) = i + 1 := w32_id (by unfold in32; omega)
  have e2 : w32 (i + 2) = i + 2 := w32_id (by unfold in32; omega)
  have e3 : w32 (i + 3) = i + 3 := w32_id (by unfold in32; omega)
  have e4 : w32 (i + 4) = i + 4 := w32_id (by unfold in32; omega)
  have e5 : w32 (i + 5) = i + 5 := w32_id (by unfold in32; omega)
  have e6 : w32 (i + 6) = i + 6 := w32_id (by unfold in32; omega)
  have p1 : (0 ≤ i + 1) = True := eq_true (by omega)
  have q1 : (i + 1 < L) = True := eq_true (by omega)
  have s1 := hs (i + 1) (by omega) (by omega)
  have p2 : (0 ≤ i + 2) = True := eq_true (by omega)
  have q2 : (i + 2 < L) = True := eq_true (by omega)
  have s2 := hs (i + 2) (by omega) (by omega)
  have p3 : (0 ≤ i + 3) = True := eq_true (by omega)
  have q3 : (i + 3 < L) = True := eq_true (by omega)
  have s3 := hs (i + 3) (by omega) (by omega)
  have p4 : (0 ≤ i + 4) = True := eq_true (by omega)
  have q4 : (i + 4 < L) = True := eq_true (by omega)
  have s4 := hs (i + 4) (by omega) (by omega)
  have p5 : (0 ≤ i + 5) = True := eq_true (by omega)
  have q5 : (i + 5 < L) = True := eq_true (by omega)
  have s5 := hs (i + 5) (by omega) (by omega)
  have k1 := CK_1 hrc.1
  refine TT.go zL_law 200 ?_
  simp only [↓oPush, ↓oIload, ↓oLload, ↓oRload, ↓oIstore, ↓oLstore, ↓oRstore, ↓oIinc, ↓oIadd, ↓oIsub, ↓oImul, ↓oIand, ↓oIor, ↓oIshl, ↓oIshr, ↓oIushr, ↓oIdiv, ↓oIrem, ↓oIneg, ↓oLadd, ↓oLmul, ↓oLand, ↓oLor, ↓oLxor, ↓oLshl, ↓oLshr, ↓oLushr, ↓oLcmp, ↓oI2l, ↓oL2i, ↓oI2b, ↓oI2s, ↓oDup, ↓oPop, ↓oDupx1, ↓oDupx2, ↓oDup2, ↓oGoto, ↓oIfEq, ↓oIfNe, ↓oIfLt, ↓oIfGe, ↓oIfGt, ↓oIfLe, ↓oIcEq, ↓oIcNe, ↓oIcLt, ↓oIcGe, ↓oIcGt, ↓oIcLe, ↓oIfnull, ↓oIfnonnull, ↓oSwitch, ↓oGetf, ↓oPutf, ↓oNew, ↓oNewa, ↓oAlen, ↓oIald, ↓oLald, ↓oZald, ↓oAald, ↓oIast, ↓oLast, ↓oZast, ↓oAast, ↓oCast, ↓oObji, ↓oRetI, ↓oRetZ, ↓oRetL, ↓oRetA, ↓oRetV, ↓oInvS, ↓oInvV, ↓oInvI, ↓oFail, ↓oAcEq, ↓oGetE, ↓oAlenE, ↓oAastO, ↓oCopyL, ↓oCopyK, ↓oInvS8, ↓oLdcS, ↓oMmax, ↓oMmin, ↓oMabs, ↓oAlenE, ↓popI_I, ↓popL_L, ↓popR_R, ↓popS_I, ↓popS_R, ↓popN_0, ↓popN_s, ↓popT_0, ↓popT_1, ↓popT_2, ↓popT_3, ↓gI_0, ↓gI_s, ↓gL_0, ↓gL_s, ↓gR_0, ↓gR_s, ↓blk_s, ↓blk_0, goE_0, goE_1, goE_2, bst_0, bst_1, bst_2, TTf_e, st1_0, st1_1, st1_s, st2_0, st2_1, st2_s, jk_I, jk_R, jk_L, jk_J, mkT_0, mkT_1, mkT_2, mkT_3, sw_n, sw_c, nJ_n, nJ_I, nJ_L, nJ_R, stW_n, stW_I, stW_R, stW_L, true_and, and_true, Nat.reduceAdd, Nat.reduceLeDiff, Int.reduceAdd, up_at, Int.reduceEq, Int.reduceLE, Int.reduceLT, false_and, and_false, and_self, if_false, if_true, Int.reduceNeg, List.cons_append, List.nil_append, not_true_eq_false, not_false_eq_true, false_implies, true_implies, implies_true, true_or, or_true, false_or, or_false, ↓oIaldX, aL_law_1304, aL_law_1305, aL_law_1306, aL_law_1307, aL_law_1308, aL_law_1309, aL_law_1310, aL_law_1311, aL_law_1312, aL_law_1313, aL_law_1314, aL_law_1315, aL_law_1316, aL_law_1317, aL_law_1318, aL_law_1319, aL_law_1320, aL_law_1323, aL_law_1324, aL_law_1325, aL_law_1326, aL_law_1327, aL_law_1328, aL_law_1329, aL_law_1330, aL_law_1331, aL_law_1332, aL_law_1333, aL_law_1334, aL_law_1335, aL_law_1336, aL_law_1337, aL_law_1338, aL_law_1339, aL_law_1342, aL_law_1345, aL_law_1346, aL_law_1718, aL_law_1721, k1, h9, e1, p1, q1, e2, p2, q2, e3, p3, q3, e4, p4, q4, e5, p5, q5, e6, s1, s2, s3, s4, s5]
  refine GG.of0 (Mt.scr h9 (c_apart (d := d + 63) hrc i0 iA iP iU (fun S1 g0 r9 g3 => ?_)))
  have hmk1 := hmk
  have g1 := Rc_s hrc g0
  have g2 := Scr_o g0
  have ms1 := MS_out hms g2
  have m1 := MK_o hmk1
  have t1 := (g3 (i + 1) (by omega) (by omega)).trans s1
  have t2 := (g3 (i + 2) (by omega) (by omega)).trans s2
  have t3 := (g3 (i + 3) (by omega) (by omega)).trans s3
  have t4 := (g3 (i + 4) (by omega) (by omega)).trans s4
  have t5 := (g3 (i + 5) (by omega) (by omega)).trans s5
  refine TT.go zL_law 200 ?_
  simp only [↓oPush, ↓oIload, ↓oLload, ↓oRload, ↓oIstore, ↓oLstore, ↓oRstore, ↓oIinc, ↓oIadd, ↓oIsub, ↓oImul, ↓oIand, ↓oIor, ↓oIshl, ↓oIshr, ↓oIushr, ↓oIdiv, ↓oIrem, ↓oIneg, ↓oLadd, ↓oLmul, ↓oLand, ↓oLor, ↓oLxor, ↓oLshl, ↓oLshr, ↓oLushr, ↓oLcmp, ↓oI2l, ↓oL2i, ↓oI2b, ↓oI2s, ↓oDup, ↓oPop, ↓oDupx1, ↓oDupx2, ↓oDup2, ↓oGoto, ↓oIfEq, ↓oIfNe, ↓oIfLt, ↓oIfGe, ↓oIfGt, ↓oIfLe, ↓oIcEq, ↓oIcNe, ↓oIcLt, ↓oIcGe, ↓oIcGt, ↓oIcLe, ↓oIfnull, ↓oIfnonnull, ↓oSwitch, ↓oGetf, ↓oPutf, ↓oNew, ↓oNewa, ↓oAlen, ↓oIald, ↓oLald, ↓oZald, ↓oAald, ↓oIast, ↓oLast, ↓oZast, ↓oAast, ↓oCast, ↓oObji, ↓oRetI, ↓oRetZ, ↓oRetL, ↓oRetA, ↓oRetV, ↓oInvS, ↓oInvV, ↓oInvI, ↓oFail, ↓oAcEq, ↓oGetE, ↓oAlenE, ↓oAastO, ↓oCopyL, ↓oCopyK, ↓oInvS8, ↓oLdcS, ↓oMmax, ↓oMmin, ↓oMabs, ↓oAlenE, ↓popI_I, ↓popL_L, ↓popR_R, ↓popS_I, ↓popS_R, ↓popN_0, ↓popN_s, ↓popT_0, ↓popT_1, ↓popT_2, ↓popT_3, ↓gI_0, ↓gI_s, ↓gL_0, ↓gL_s, ↓gR_0, ↓gR_s, ↓blk_s, ↓blk_0, goE_0, goE_1, goE_2, bst_0, bst_1, bst_2, TTf_e, st1_0, st1_1, st1_s, st2_0, st2_1, st2_s, jk_I, jk_R, jk_L, jk_J, mkT_0, mkT_1, mkT_2, mkT_3, sw_n, sw_c, nJ_n, nJ_I, nJ_L, nJ_R, stW_n, stW_I, stW_R, stW_L, true_and, and_true, Nat.reduceAdd, Nat.reduceLeDiff, Int.reduceAdd, up_at, Int.reduceEq, Int.reduceLE, Int.reduceLT, false_and, and_false, and_self, if_false, if_true, Int.reduceNeg, List.cons_append, List.nil_append, not_true_eq_false, not_false_eq_true, false_implies, true_implies, implies_true, true_or, or_true, false_or, or_false, ↓oIaldX, aL_law_1304, aL_law_1305, aL_law_1306, aL_law_1307, aL_law_1308, aL_law_1309, aL_law_1310, aL_law_1311, aL_law_1312, aL_law_1313, aL_law_1314, aL_law_1315, aL_law_1316, aL_law_1317, aL_law_1318, aL_law_1319, aL_law_1320, aL_law_1323, aL_law_1324, aL_law_1325, aL_law_1326, aL_law_1327, aL_law_1328, aL_law_1329, aL_law_1330, aL_law_1331, aL_law_1332, aL_law_1333, aL_law_1334, aL_law_1335, aL_law_1336, aL_law_1337, aL_law_1338, aL_law_1339, aL_law_1342, aL_law_1345, aL_law_1346, aL_law_1718, aL_law_1721, m1, r9, e1, p1, q1, e2, p2, q2, e3, p3, q3, e4, p4, q4, e5, p5, q5, e6, t1, t2, t3, t4, t5]
  refine GG.of0 (m_apart (d := d + 65) hmk1 ms1 i0 iA iP iU (fun S2 g4 => ?_))
  refine TT.go zL_law 200 ?_
  simp only [↓oPush, ↓oIload, ↓oLload, ↓oRload, ↓oIstore, ↓oLstore, ↓oRstore, ↓oIinc, ↓oIadd, ↓oIsub, ↓oImul, ↓oIand, ↓oIor, ↓oIshl, ↓oIshr, ↓oIushr, ↓oIdiv, ↓oIrem, ↓oIneg, ↓oLadd, ↓oLmul, ↓oLand, ↓oLor, ↓oLxor, ↓oLshl, ↓oLshr, ↓oLushr, ↓oLcmp, ↓oI2l, ↓oL2i, ↓oI2b, ↓oI2s, ↓oDup, ↓oPop, ↓oDupx1, ↓oDupx2, ↓oDup2, ↓oGoto, ↓oIfEq, ↓oIfNe, ↓oIfLt, ↓oIfGe, ↓oIfGt, ↓oIfLe, ↓oIcEq, ↓oIcNe, ↓oIcLt, ↓oIcGe, ↓oIcGt, ↓oIcLe, ↓oIfnull, ↓oIfnonnull, ↓oSwitch, ↓oGetf, ↓oPutf, ↓oNew, ↓oNewa, ↓oAlen, ↓oIald, ↓oLald, ↓oZald, ↓oAald, ↓oIast, ↓oLast, ↓oZast, ↓oAast, ↓oCast, ↓oObji, ↓oRetI, ↓oRetZ, ↓oRetL, ↓oRetA, ↓oRetV, ↓oInvS, ↓oInvV, ↓oInvI, ↓oFail, ↓oAcEq, ↓oGetE, ↓oAlenE, ↓oAastO, ↓oCopyL, ↓oCopyK, ↓oInvS8, ↓oLdcS, ↓oMmax, ↓oMmin, ↓oMabs, ↓oAlenE, ↓popI_I, ↓popL_L, ↓popR_R, ↓popS_I, ↓popS_R, ↓popN_0, ↓popN_s, ↓popT_0, ↓popT_1, ↓popT_2, ↓popT_3, ↓gI_0, ↓gI_s, ↓gL_0, ↓gL_s, ↓gR_0, ↓gR_s, ↓blk_s, ↓blk_0, goE_0, goE_1, goE_2, bst_0, bst_1, bst_2, TTf_e, st1_0, st1_1, st1_s, st2_0, st2_1, st2_s, jk_I, jk_R, jk_L, jk_J, mkT_0, mkT_1, mkT_2, mkT_3, sw_n, sw_c, nJ_n, nJ_I, nJ_L, nJ_R, stW_n, stW_I, stW_R, stW_L, true_and, and_true, Nat.reduceAdd, Nat.reduceLeDiff, Int.reduceAdd, up_at, Int.reduceEq, Int.reduceLE, Int.reduceLT, false_and, and_false, and_self, if_false, if_true, Int.reduceNeg, List.cons_append, List.nil_append, not_true_eq_false, not_false_eq_true, false_implies, true_implies, implies_true, true_or, or_true, false_or, or_false, ↓oIaldX, aL_law_1304, aL_law_1305, aL_law_1306, aL_law_1307, aL_law_1308, aL_law_1309, aL_law_1310, aL_law_1311, aL_law_1312, aL_law_1313, aL_law_1314, aL_law_1315, aL_law_1316, aL_law_1317, aL_law_1318, aL_law_1319, aL_law_1320, aL_law_1323, aL_law_1324, aL_law_1325, aL_law_1326, aL_law_1327, aL_law_1328, aL_law_1329, aL_law_1330, aL_law_1331, aL_law_1332, aL_law_1333, aL_law_1334, aL_law_1335, aL_law_1336, aL_law_1337, aL_law_1338, aL_law_1339, aL_law_1342, aL_law_1345, aL_law_1346, aL_law_1718, aL_law_1721, m1, r9, e1, p1, q1, e2, p2, q2, e3, p3, q3, e4, p4, q4, e5, p5, q5, e6, t1, t2, t3, t4, t5]
  exact hgo _ _ _ _ _ _ (by omega) (by omega) (LI_next h g1 hmk1 r9 g3 g4 hI hO)
set_option maxRecDepth 20000 in
theorem lw_c29 {d : Nat} {L i : Int} {T : Int → Int} {μ : ST} {R : RT} {K : KT} {S : ST} {cb nb : Nat} {Q : QF} (h : LI L T μ R K S) (hL : 0 ≤ L ∧ L ≤ 3072) (hT : ∀ j, 0 ≤ j → j < L → in32 (T j)) (hi : 0 ≤ i ∧ i + 6 ≤ L) (hc : 8 ≤ cb) (hn : 200 ≤ nb) (hgo : ∀ μ' R' K' S' cb' nb', cb ≤ cb' + 8 → nb ≤ nb' + 200 → LI L T μ' R' K' S' → TT mL_law (d + 72) 18 [vR 9, vR 1, vR 1000, vI (i + 6)] [] K' S' cb' nb' Q) : TT mL_law (d + 72) 1347 [vR 9, vR 1, vR 1000, vI i] [] K S cb nb Q := by
  obtain ⟨hrc, hms, hmk, hI, hO, h9, hs⟩ := id h
  obtain ⟨⟨i0, iS, iA, iP, iF, iK, iU, iR⟩, iC⟩ := id hI
  have e1 : w32 (i + 1) = i + 1 := w32_id (by unfold in32; omega)
  have e2 : w32 (i + 2) = i + 2 := w32_id (by unfold in32; omega)
  have e3 : w32 (i + 3) = i + 3 := w32_id (by unfold in32; omega)
  have e4 : w32 (i + 4) = i + 4 := w32_id (by unfold in32; omega)
  have e5 : w32 (i + 5) = i + 5 := w32_id (by unfold in32; omega)
  have e6 : w32 (i + 6) = i + 6 := w32_id (by unfold in32; omega)
  have p1 : (0 ≤ i + 1) = True := eq_true (by omega)
  have q1 : (i + 1 < L) = True := eq_true (by omega)
  have s1 := hs (i + 1) (by omega) (by omega)
  have p2 : (0 ≤ i + 2) = True := eq_true (by omega)
  have q2 : (i + 2 < L) = True := eq_true (by omega)
  have s2 := hs (i + 2) (by omega) (by omega)
  have p3 : (0 ≤ i + 3) = True := eq_true (by omega)
  have q3 : (i + 3 < L) = True := eq_true (by omega)
  have s3 := hs (i + 3) (by omega) (by omega)
  have p4 : (0 ≤ i + 4) = True := eq_true (by omega)
  have q4 : (i + 4 < L) = True := eq_true (by omega)
  have s4 := hs (i + 4) (by omega) (by omega)
  have p5 : (0 ≤ i + 5) = True := eq_true (by omega)
  have q5 : (i + 5 < L) = True := eq_true (by omega)
  have s5 := hs (i + 5) (by omega) (by omega)
  have k1 := CK_1 hrc.1
  refine TT.go zL_law 200 ?_
  simp only [↓oPush, ↓oIload, ↓oLload, ↓oRload, ↓oIstore, ↓oLstore, ↓oRstore, ↓oIinc, ↓oIadd, ↓oIsub, ↓oImul, ↓oIand, ↓oIor, ↓oIshl, ↓oIshr, ↓oIushr, ↓oIdiv, ↓oIrem, ↓oIneg, ↓oLadd, ↓oLmul, ↓oLand, ↓oLor, ↓oLxor, ↓oLshl, ↓oLshr, ↓oLushr, ↓oLcmp, ↓oI2l, ↓oL2i, ↓oI2b, ↓oI2s, ↓oDup, ↓oPop, ↓oDupx1, ↓oDupx2, ↓oDup2, ↓oGoto, ↓oIfEq, ↓oIfNe, ↓oIfLt, ↓oIfGe, ↓oIfGt, ↓oIfLe, ↓oIcEq, ↓oIcNe, ↓oIcLt, ↓oIcGe, ↓oIcGt, ↓oIcLe, ↓oIfnull, ↓oIfnonnull, ↓oSwitch, ↓oGetf, ↓oPutf, ↓oNew, ↓oNewa, ↓oAlen, ↓oIald, ↓oLald, ↓oZald, ↓oAald, ↓oIast, ↓oLast, ↓oZast, ↓oAast, ↓oCast, ↓oObji, ↓oRetI, ↓oRetZ, ↓oRetL, ↓oRetA, ↓oRetV, ↓oInvS, ↓oInvV, ↓oInvI, ↓oFail, ↓oAcEq, ↓oGetE, ↓oAlenE, ↓oAastO, ↓oCopyL, ↓oCopyK, ↓oInvS8, ↓oLdcS, ↓oMmax, ↓oMmin, ↓oMabs, ↓oAlenE, ↓popI_I, ↓popL_L, ↓popR_R, ↓popS_I, ↓popS_R, ↓popN_0, ↓popN_s, ↓popT_0, ↓popT_1, ↓popT_2, ↓popT_3, ↓gI_0, ↓gI_s, ↓gL_0, ↓gL_s, ↓gR_0, ↓gR_s, ↓blk_s, ↓blk_0, goE_0, goE_1, goE_2, bst_0, bst_1, bst_2, TTf_e, st1_0, st1_1, st1_s, st2_0, st2_1, st2_s, jk_I, jk_R, jk_L, jk_J, mkT_0, mkT_1, mkT_2, mkT_3, sw_n, sw_c, nJ_n, nJ_I, nJ_L, nJ_R, stW_n, stW_I, stW_R, stW_L, true_and, and_true, Nat.reduceAdd, Nat.reduceLeDiff, Int.reduceAdd, up_at, Int.reduceEq, Int.reduceLE, Int.reduceLT, false_and, and_false, and_self, if_false, if_true, Int.reduceNeg, List.cons_append, List.nil_append, not_true_eq_false, not_false_eq_true, false_implies, true_implies, implies_true, true_or, or_true, false_or, or_false, ↓oIaldX, aL_law_1347, aL_law_1348, aL_law_1349, aL_law_1350, aL_law_1351, aL_law_1352, aL_law_1353, aL_law_1354, aL_law_1355, aL_law_1356, aL_law_1357, aL_law_1358, aL_law_1361, aL_law_1362, aL_law_1363, aL_law_1364, aL_law_1365, aL_law_1366, aL_law_1367, aL_law_1368, aL_law_1369, aL_law_1370, aL_law_1371, aL_law_1372, aL_law_1375, aL_law_1378, aL_law_1379, aL_law_1718, aL_law_1721, k1, h9, e1, p1, q1, e2, p2, q2, e3, p3, q3, e4, p4, q4, e5, p5, q5, e6, s1, s2, s3, s4, s5]
  refine GG.of0 (Mt.scr h9 (c_binding (d := d + 63) hrc i0 iA iP iU (fun S1 g0 r9 g3 => ?_)))
  have hmk1 := hmk
  have g1 := Rc_s hrc g0
  have g2 := Scr_o g0
  have ms1 := MS_out hms g2
  have m1 := MK_o hmk1
  have t1 := (g3 (i + 1) (by omega) (by omega)).trans s1
  have t2 := (g3 (i + 2) (by omega) (by omega)).trans s2
  have t3 := (g3 (i + 3) (by omega) (by omega)).trans s3
  have t4 := (g3 (i + 4) (by omega) (by omega)).trans s4
  have t5 := (g3 (i + 5) (by omega) (by omega)).trans s5
  refine TT.go zL_law 200 ?_
  simp only [↓oPush, ↓oIload, ↓oLload, ↓oRload, ↓oIstore, ↓oLstore, ↓oRstore, ↓oIinc, ↓oIadd, ↓oIsub, ↓oImul, ↓oIand, ↓oIor, ↓oIshl, ↓oIshr, ↓oIushr, ↓oIdiv, ↓oIrem, ↓oIneg, ↓oLadd, ↓oLmul, ↓oLand, ↓oLor, ↓oLxor, ↓oLshl, ↓oLshr, ↓oLushr, ↓oLcmp, ↓oI2l, ↓oL2i, ↓oI2b, ↓oI2s, ↓oDup, ↓oPop, ↓oDupx1, ↓oDupx2, ↓oDup2, ↓oGoto, ↓oIfEq, ↓oIfNe, ↓oIfLt, ↓oIfGe, ↓oIfGt, ↓oIfLe, ↓oIcEq, ↓oIcNe, ↓oIcLt, ↓oIcGe, ↓oIcGt, ↓oIcLe, ↓oIfnull, ↓oIfnonnull, ↓oSwitch, ↓oGetf, ↓oPutf, ↓oNew, ↓oNewa, ↓oAlen, ↓oIald, ↓oLald, ↓oZald, ↓oAald, ↓oIast, ↓oLast, ↓oZast, ↓oAast, ↓oCast, ↓oObji, ↓oRetI, ↓oRetZ, ↓oRetL, ↓oRetA, ↓oRetV, ↓oInvS, ↓oInvV, ↓oInvI, ↓oFail, ↓oAcEq, ↓oGetE, ↓oAlenE, ↓oAastO, ↓oCopyL, ↓oCopyK, ↓oInvS8, ↓oLdcS, ↓oMmax, ↓oMmin, ↓oMabs, ↓oAlenE, ↓popI_I, ↓popL_L, ↓popR_R, ↓popS_I, ↓popS_R, ↓popN_0, ↓popN_s, ↓popT_0, ↓popT_1, ↓popT_2, ↓popT_3, ↓gI_0, ↓gI_s, ↓gL_0, ↓gL_s, ↓gR_0, ↓gR_s, ↓blk_s, ↓blk_0, goE_0, goE_1, goE_2, bst_0, bst_1, bst_2, TTf_e, st1_0, st1_1, st1_s, st2_0, st2_1, st2_s, jk_I, jk_R, jk_L, jk_J, mkT_0, mkT_1, mkT_2, mkT_3, sw_n, sw_c, nJ_n, nJ_I, nJ_L, nJ_R, stW_n, stW_I, stW_R, stW_L, true_and, and_true, Nat.reduceAdd, Nat.reduceLeDiff, Int.reduceAdd, up_at, Int.reduceEq, Int.reduceLE, Int.reduceLT, false_and, and_false, and_self, if_false, if_true, Int.reduceNeg, List.cons_append, List.nil_append, not_true_eq_false, not_false_eq_true, false_implies, true_implies, implies_true, true_or, or_true, false_or, or_false, ↓oIaldX, aL_law_1347, aL_law_1348, aL_law_1349, aL_law_1350, aL_law_1351, aL_law_1352, aL_law_1353, aL_law_1354, aL_law_1355, aL_law_1356, aL_law_1357, aL_law_1358, aL_law_1361, aL_law_1362, aL_law_1363, aL_law_1364, aL_law_1365, aL_law_1366, aL_law_1367, aL_law_1368, aL_law_1369, aL_law_1370, aL_law_1371, aL_law_1372, aL_law_1375, aL_law_1378, aL_law_1379, aL_law_1718, aL_law_1721, m1, r9, e1, p1, q1, e2, p2, q2, e3, p3, q3, e4, p4, q4, e5, p5, q5, e6, t1, t2, t3, t4, t5]
  refine GG.of0 (m_binding (d := d + 65) hmk1 ms1 i0 iA iP iU (fun S2 g4 => ?_))
  refine TT.go zL_law 200 ?_
  simp only [↓oPush, ↓oIload, ↓oLload, ↓oRload, ↓oIstore, ↓oLstore, ↓oRstore, ↓oIinc, ↓oIadd, ↓oIsub, ↓oImul, ↓oIand, ↓oIor, ↓oIshl, ↓oIshr, ↓oIushr, ↓oIdiv, ↓oIrem, ↓oIneg, ↓oLadd, ↓oLmul, ↓oLand, ↓oLor, ↓oLxor, ↓oLshl, ↓oLshr, ↓oLushr, ↓oLcmp, ↓oI2l, ↓oL2i, ↓oI2b, ↓oI2s, ↓oDup, ↓oPop, ↓oDupx1, ↓oDupx2, ↓oDup2, ↓oGoto, ↓oIfEq, ↓oIfNe, ↓oIfLt, ↓oIfGe, ↓oIfGt, ↓oIfLe, ↓oIcEq, ↓oIcNe, ↓oIcLt, ↓oIcGe, ↓oIcGt, ↓oIcLe, ↓oIfnull, ↓oIfnonnull, ↓oSwitch, ↓oGetf, ↓oPutf, ↓oNew, ↓oNewa, ↓oAlen, ↓oIald, ↓oLald, ↓oZald, ↓oAald, ↓oIast, ↓oLast, ↓oZast, ↓oAast, ↓oCast, ↓oObji, ↓oRetI, ↓oRetZ, ↓oRetL, ↓oRetA, ↓oRetV, ↓oInvS, ↓oInvV, ↓oInvI, ↓oFail, ↓oAcEq, ↓oGetE, ↓oAlenE, ↓oAastO, ↓oCopyL, ↓oCopyK, ↓oInvS8, ↓oLdcS, ↓oMmax, ↓oMmin, ↓oMabs, ↓oAlenE, ↓popI_I, ↓popL_L, ↓popR_R, ↓popS_I, ↓popS_R, ↓popN_0, ↓popN_s, ↓popT_0, ↓popT_1, ↓popT_2, ↓popT_3, ↓gI_0, ↓gI_s, ↓gL_0, ↓gL_s, ↓gR_0, ↓gR_s, ↓blk_s, ↓blk_0, goE_0, goE_1, goE_2, bst_0, bst_1, bst_2, TTf_e, st1_0, st1_1, st1_s, st2_0, st2_1, st2_s, jk_I, jk_R, jk_L, jk_J, mkT_0, mkT_1, mkT_2, mkT_3, sw_n, sw_c, nJ_n, nJ_I, nJ_L, nJ_R, stW_n, stW_I, stW_R, stW_L, true_and, and_true, Nat.reduceAdd, Nat.reduceLeDiff, Int.reduceAdd, up_at, Int.reduceEq, Int.reduceLE, Int.reduceLT, false_and, and_false, and_self, if_false, if_true, Int.reduceNeg, List.cons_append, List.nil_append, not_true_eq_false, not_false_eq_true, false_implies, true_implies, implies_true, true_or, or_true, false_or, or_false, ↓oIaldX, aL_law_1347, aL_law_1348, aL_law_1349, aL_law_1350, aL_law_1351, aL_law_1352, aL_law_1353, aL_law_1354, aL_law_1355, aL_law_1356, aL_law_1357, aL_law_1358, aL_law_1361, aL_law_1362, aL_law_1363, aL_law_1364, aL_law_1365, aL_law_1366, aL_law_1367, aL_law_1368, aL_law_1369, aL_law_1370, aL_law_1371, aL_law_1372, aL_law_1375, aL_law_1378, aL_law_1379, aL_law_1718, aL_law_1721, m1, r9, e1, p1, q1, e2, p2, q2, e3, p3, q3, e4, p4, q4, e5, p5, q5, e6, t1, t2, t3, t4, t5]
  exact hgo _ _ _ _ _ _ (by omega) (by omega) (LI_next h g1 hmk1 r9 g3 g4 hI hO)
