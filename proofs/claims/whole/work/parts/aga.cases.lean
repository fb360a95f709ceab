/-! THE LAW: its cases -/
theorem lcmpv_s (x : Int) : lcmpv x x = 0 := by
  unfold lcmpv lg_cmp
  simp
set_option maxRecDepth 20000 in
theorem lw_c0 {d : Nat} {L i : Int} {T : Int → Int} {μ : ST} {R : RT} {K : KT} {S : ST} {cb nb : Nat} {Q : QF} (h : LI L T μ R K S) (hL : 0 ≤ L ∧ L ≤ 3072) (hT : ∀ j, 0 ≤ j → j < L → in32 (T j)) (hi : 0 ≤ i ∧ i + 6 ≤ L) (hc : 8 ≤ cb) (hn : 200 ≤ nb) (hgo : ∀ μ' R' K' S' cb' nb', cb ≤ cb' + 8 → nb ≤ nb' + 200 → LI L T μ' R' K' S' → TT mL_law (d + 72) 18 [vR 9, vR 1, vR 1000, vI (i + 6)] [] K' S' cb' nb' Q) : TT mL_law (d + 72) 208 [vR 9, vR 1, vR 1000, vI i] [] K S cb nb Q := by
  obtain ⟨hrc, hms, hmk, hI, hO, h9, hs⟩ := id h
  obtain ⟨⟨i0, iS, iA, iP, iF, iK, iU, iR⟩, iC⟩ := id hI
  have e1 : w32 (i + 1) = i + 1 := w32_id (by unfold in32; omega)
  have e2 : w32 (i + 2) = i + 2 := w32_id (by unfold in32; omega)
  have e3 : w32 (i + 3) = i + 3 := w32_id (by unfold in32; omega)
  have e4 : w32 (i + 4) = i + 4 := w32_id (by unfold in32; omega)
  have e5 : w32 (i + 5) = i + 5 := w32_id (by unfold in32; omega)
  have e6 : w32 (i + 6) = i + 6 := w32_id (by unfold in32; omega)
  have p1 : (0 ≤ i + 1) = True := eq_true (by omega)
  have q1 : (i + 1 < L) = True := eq_true (by omega)
  have s1 := hs (i + 1) (by omega) (by omega)
  have p2 : (0 ≤ i + 2) = True := eq_true (by omega)
  have q2 : (i + 2 < L) = True := eq_true (by omega)
  have s2 := hs (i + 2) (by omega) (by omega)
  have p3 : (0 ≤ i + 3) = True := eq_true (by omega)
  have q3 : (i + 3 < L) = True := eq_true (by omega)
  have s3 := hs (i + 3) (by omega) (by omega)
  have p4 : (0 ≤ i + 4) = True := eq_true (by omega)
  have q4 : (i + 4 < L) = True := eq_true (by omega)
  have s4 := hs (i + 4) (by omega) (by omega)
  have p5 : (0 ≤ i + 5) = True := eq_true (by omega)
  have q5 : (i + 5 < L) = True := eq_true (by omega)
  have s5 := hs (i + 5) (by omega) (by omega)
  have k1 := CK_1 hrc.1
  refine TT.go zL_law 200 ?_
  simp only [↓oPush, ↓oIload, ↓oLload, ↓oRload, ↓oIstore, ↓oLstore, ↓oRstore, ↓oIinc, ↓oIadd, ↓oIsub, ↓oImul, ↓oIand, ↓oIor, ↓oIshl, ↓oIshr, ↓oIushr, ↓oIdiv, ↓oIrem, ↓oIneg, ↓oLadd, ↓oLmul, ↓oLand, ↓oLor, ↓oLxor, ↓oLshl, ↓oLshr, ↓oLushr, ↓oLcmp, ↓oI2l, ↓oL2i, ↓oI2b, ↓oI2s, ↓oDup, ↓oPop, ↓oDupx1, ↓oDupx2, ↓oDup2, ↓oGoto, ↓oIfEq, ↓oIfNe, ↓oIfLt, ↓oIfGe, ↓oIfGt, ↓oIfLe, ↓oIcEq, ↓oIcNe, ↓oIcLt, ↓oIcGe, ↓oIcGt, ↓oIcLe, ↓oIfnull, ↓oIfnonnull, ↓oSwitch, ↓oGetf, ↓oPutf, ↓oNew, ↓oNewa, ↓oAlen, ↓oIald, ↓oLald, ↓oZald, ↓oAald, ↓oIast, ↓oLast, ↓oZast, ↓oAast, ↓oCast, ↓oObji, ↓oRetI, ↓oRetZ, ↓oRetL, ↓oRetA, ↓oRetV, ↓oInvS, ↓oInvV, ↓oInvI, ↓oFail, ↓oAcEq, ↓oGetE, ↓oAlenE, ↓oAastO, ↓oCopyL, ↓oCopyK, ↓oInvS8, ↓oLdcS, ↓oMmax, ↓oMmin, ↓oMabs, ↓oAlenE, ↓popI_I, ↓popL_L, ↓popR_R, ↓popS_I, ↓popS_R, ↓popN_0, ↓popN_s, ↓popT_0, ↓popT_1, ↓popT_2, ↓popT_3, ↓gI_0, ↓gI_s, ↓gL_0, ↓gL_s, ↓gR_0, ↓gR_s, ↓blk_s, ↓blk_0, goE_0, goE_1, goE_2, bst_0, bst_1, bst_2, TTf_e, st1_0, st1_1, st1_s, st2_0, st2_1, st2_s, jk_I, jk_R, jk_L, jk_J, mkT_0, mkT_1, mkT_2, mkT_3, sw_n, sw_c, nJ_n, nJ_I, nJ_L, nJ_R, stW_n, stW_I, stW_R, stW_L, true_and, and_true, Nat.reduceAdd, Nat.reduceLeDiff, Int.reduceAdd, up_at, Int.reduceEq, Int.reduceLE, Int.reduceLT, false_and, and_false, and_self, if_false, if_true, Int.reduceNeg, List.cons_append, List.nil_append, not_true_eq_false, not_false_eq_true, false_implies, true_implies, implies_true, true_or, or_true, false_or, or_false, ↓oIaldX, aL_law_208, aL_law_209, aL_law_210, aL_law_211, aL_law_212, aL_law_213, aL_law_214, aL_law_217, aL_law_218, aL_law_219, aL_law_220, aL_law_221, aL_law_222, aL_law_223, aL_law_226, aL_law_229, aL_law_230, aL_law_1718, aL_law_1721, k1, h9, e1, p1, q1, e2, p2, q2, e3, p3, q3, e4, p4, q4, e5, p5, q5, e6, s1, s2, s3, s4, s5]
  refine GG.of0 (Mt.scr h9 (c_days (d := d + 69) hrc i0 (fun S1 g1 g2 r9 g3 => ?_)))
  have hmk1 := hmk
  have ms1 := MS_out hms g2
  have m1 := MK_o hmk1
  have t1 := (g3 (i + 1) (by omega) (by omega)).trans s1
  have t2 := (g3 (i + 2) (by omega) (by omega)).trans s2
  have t3 := (g3 (i + 3) (by omega) (by omega)).trans s3
  have t4 := (g3 (i + 4) (by omega) (by omega)).trans s4
  have t5 := (g3 (i + 5) (by omega) (by omega)).trans s5
  refine TT.go zL_law 200 ?_
  simp only [↓oPush, ↓oIload, ↓oLload, ↓oRload, ↓oIstore, ↓oLstore, ↓oRstore, ↓oIinc, ↓oIadd, ↓oIsub, ↓oImul, ↓oIand, ↓oIor, ↓oIshl, ↓oIshr, ↓oIushr, ↓oIdiv, ↓oIrem, ↓oIneg, ↓oLadd, ↓oLmul, ↓oLand, ↓oLor, ↓oLxor, ↓oLshl, ↓oLshr, ↓oLushr, ↓oLcmp, ↓oI2l, ↓oL2i, ↓oI2b, ↓oI2s, ↓oDup, ↓oPop, ↓oDupx1, ↓oDupx2, ↓oDup2, ↓oGoto, ↓oIfEq, ↓oIfNe, ↓oIfLt, ↓oIfGe, ↓oIfGt, ↓oIfLe, ↓oIcEq, ↓oIcNe, ↓oIcLt, ↓oIcGe, ↓oIcGt, ↓oIcLe, ↓oIfnull, ↓oIfnonnull, ↓oSwitch, ↓oGetf, ↓oPutf, ↓oNew, ↓oNewa, ↓oAlen, ↓oIald, ↓oLald, ↓oZald, ↓oAald, ↓oIast, ↓oLast, ↓oZast, ↓oAast, ↓oCast, ↓oObji, ↓oRetI, ↓oRetZ, ↓oRetL, ↓oRetA, ↓oRetV, ↓oInvS, ↓oInvV, ↓oInvI, ↓oFail, ↓oAcEq, ↓oGetE, ↓oAlenE, ↓oAastO, ↓oCopyL, ↓oCopyK, ↓oInvS8, ↓oLdcS, ↓oMmax, ↓oMmin, ↓oMabs, ↓oAlenE, ↓popI_I, ↓popL_L, ↓popR_R, ↓popS_I, ↓popS_R, ↓popN_0, ↓popN_s, ↓popT_0, ↓popT_1, ↓popT_2, ↓popT_3, ↓gI_0, ↓gI_s, ↓gL_0, ↓gL_s, ↓gR_0, ↓gR_s, ↓blk_s, ↓blk_0, goE_0, goE_1, goE_2, bst_0, bst_1, bst_2, TTf_e, st1_0, st1_1, st1_s, st2_0, st2_1, st2_s, jk_I, jk_R, jk_L, jk_J, mkT_0, mkT_1, mkT_2, mkT_3, sw_n, sw_c, nJ_n, nJ_I, nJ_L, nJ_R, stW_n, stW_I, stW_R, stW_L, true_and, and_true, Nat.reduceAdd, Nat.reduceLeDiff, Int.reduceAdd, up_at, Int.reduceEq, Int.reduceLE, Int.reduceLT, false_and, and_false, and_self, if_false, if_true, Int.reduceNeg, List.cons_append, List.nil_append, not_true_eq_false, not_false_eq_true, false_implies, true_implies, implies_true, true_or, or_true, false_or, or_false, ↓oIaldX, aL_law_208, aL_law_209, aL_law_210, aL_law_211, aL_law_212, aL_law_213, aL_law_214, aL_law_217, aL_law_218, aL_law_219, aL_law_220, aL_law_221, aL_law_222, aL_law_223, aL_law_226, aL_law_229, aL_law_230, aL_law_1718, aL_law_1721, m1, r9, e1, p1, q1, e2, p2, q2, e3, p3, q3, e4, p4, q4, e5, p5, q5, e6, t1, t2, t3, t4, t5]
  refine GG.of0 (m_days (d := d + 69) hmk1 ms1 i0 (fun S2 g4 => ?_))
  refine TT.go zL_law 200 ?_
  simp only [↓oPush, ↓oIload, ↓oLload, ↓oRload, ↓oIstore, ↓oLstore, ↓oRstore, ↓oIinc, ↓oIadd, ↓oIsub, ↓oImul, ↓oIand, ↓oIor, ↓oIshl, ↓oIshr, ↓oIushr, ↓oIdiv, ↓oIrem, ↓oIneg, ↓oLadd, ↓oLmul, ↓oLand, ↓oLor, ↓oLxor, ↓oLshl, ↓oLshr, ↓oLushr, ↓oLcmp, ↓oI2l, ↓oL2i, ↓oI2b, ↓oI2s, ↓oDup, ↓oPop, ↓oDupx1, ↓oDupx2, ↓oDup2, ↓oGoto, ↓oIfEq, ↓oIfNe, ↓oIfLt, ↓oIfGe, ↓oIfGt, ↓oIfLe, ↓oIcEq, ↓oIcNe, ↓oIcLt, ↓oIcGe, ↓oIcGt, ↓oIcLe, ↓oIfnull, ↓oIfnonnull, ↓oSwitch, ↓oGetf, ↓oPutf, ↓oNew, ↓oNewa, ↓oAlen, ↓oIald, ↓oLald, ↓oZald, ↓oAald, ↓oIast, ↓oLast, ↓oZast, ↓oAast, ↓oCast, ↓oObji, ↓oRetI, ↓oRetZ, ↓oRetL, ↓oRetA, ↓oRetV, ↓oInvS, ↓oInvV, ↓oInvI, ↓oFail, ↓oAcEq, ↓oGetE, ↓oAlenE, ↓oAastO, ↓oCopyL, ↓oCopyK, ↓oInvS8, ↓oLdcS, ↓oMmax, ↓oMmin, ↓oMabs, ↓oAlenE, ↓popI_I, ↓popL_L, ↓popR_R, ↓popS_I, ↓popS_R, ↓popN_0, ↓popN_s, ↓popT_0, ↓popT_1, ↓popT_2, ↓popT_3, ↓gI_0, ↓gI_s, ↓gL_0, ↓gL_s, ↓gR_0, ↓gR_s, ↓blk_s, ↓blk_0, goE_0, goE_1, goE_2, bst_0, bst_1, bst_2, TTf_e, st1_0, st1_1, st1_s, st2_0, st2_1, st2_s, jk_I, jk_R, jk_L, jk_J, mkT_0, mkT_1, mkT_2, mkT_3, sw_n, sw_c, nJ_n, nJ_I, nJ_L, nJ_R, stW_n, stW_I, stW_R, stW_L, true_and, and_true, Nat.reduceAdd, Nat.reduceLeDiff, Int.reduceAdd, up_at, Int.reduceEq, Int.reduceLE, Int.reduceLT, false_and, and_false, and_self, if_false, if_true, Int.reduceNeg, List.cons_append, List.nil_append, not_true_eq_false, not_false_eq_true, false_implies, true_implies, implies_true, true_or, or_true, false_or, or_false, ↓oIaldX, aL_law_208, aL_law_209, aL_law_210, aL_law_211, aL_law_212, aL_law_213, aL_law_214, aL_law_217, aL_law_218, aL_law_219, aL_law_220, aL_law_221, aL_law_222, aL_law_223, aL_law_226, aL_law_229, aL_law_230, aL_law_1718, aL_law_1721, m1, r9, e1, p1, q1, e2, p2, q2, e3, p3, q3, e4, p4, q4, e5, p5, q5, e6, t1, t2, t3, t4, t5]
  exact hgo _ _ _ _ _ _ (by omega) (by omega) (LI_next h g1 hmk1 r9 g3 g4 (Iv_days hI) hO)
set_option maxRecDepth 20000 in
theorem lw_c1 {d : Nat} {L i : Int} {T : Int → Int} {μ : ST} {R : RT} {K : KT} {S : ST} {cb nb : Nat} {Q : QF} (h : LI L T μ R K S) (hL : 0 ≤ L ∧ L ≤ 3072) (hT : ∀ j, 0 ≤ j → j < L → in32 (T j)) (hi : 0 ≤ i ∧ i + 6 ≤ L) (hc : 8 ≤ cb) (hn : 200 ≤ nb) (hgo : ∀ μ' R' K' S' cb' nb', cb ≤ cb' + 8 → nb ≤ nb' + 200 → LI L T μ' R' K' S' → TT mL_law (d + 72) 18 [vR 9, vR 1, vR 1000, vI (i + 6)] [] K' S' cb' nb' Q) : TT mL_law (d + 72) 231 [vR 9, vR 1, vR 1000, vI i] [] K S cb nb Q := by
  obtain ⟨hrc, hms, hmk, hI, hO, h9, hs⟩ := id h
  obtain ⟨⟨i0, iS, iA, iP, iF, iK, iU, iR⟩, iC⟩ := id hI
  have e1 : w32 (i + 1) = i + 1 := w32_id (by unfold in32; omega)
  have e2 : w32 (i + 2) = i + 2 := w32_id (by unfold in32; omega)
  have e3 : w32 (i + 3) = i + 3 := w32_id (by unfold in32; omega)
  have e4 : w32 (i + 4) = i + 4 := w32_id (by unfold in32; omega)
  have e5 : w32 (i + 5) = i + 5 := w32_id (by unfold in32; omega)
  have e6 : w32 (i + 6) = i + 6 := w32_id (by unfold in32; omega)
  have p1 : (0 ≤ i + 1) = True := eq_true (by omega)
  have q1 : (i + 1 < L) = True := eq_true (by omega)
  have s1 := hs (i + 1) (by omega) (by omega)
  have p2 : (0 ≤ i + 2) = True := eq_true (by omega)
  have q2 : (i + 2 < L) = True := eq_true (by omega)
  have s2 := hs (i + 2) (by omega) (by omega)
  have p3 : (0 ≤ i + 3) = True := eq_true (by omega)
  have q3 : (i + 3 < L) = True := eq_true (by omega)
  have s3 := hs (i + 3) (by omega) (by omega)
  have p4 : (0 ≤ i + 4) = True := eq_true (by omega)
  have q4 : (i + 4 < L) = True := eq_true (by omega)
  have s4 := hs (i + 4) (by omega) (by omega)
  have p5 : (0 ≤ i + 5) = True := eq_true (by omega)
  have q5 : (i + 5 < L) = True := eq_true (by omega)
  have s5 := hs (i + 5) (by omega) (by omega)
  have k1 := CK_1 hrc.1
  refine TT.go zL_law 200 ?_
  simp only [↓oPush, ↓oIload, ↓oLload, ↓oRload, ↓oIstore, ↓oLstore, ↓oRstore, ↓oIinc, ↓oIadd, ↓oIsub, ↓oImul, ↓oIand, ↓oIor, ↓oIshl, ↓oIshr, ↓oIushr, ↓oIdiv, ↓oIrem, ↓oIneg, ↓oLadd, ↓oLmul, ↓oLand, ↓oLor, ↓oLxor, ↓oLshl, ↓oLshr, ↓oLushr, ↓oLcmp, ↓oI2l, ↓oL2i, ↓oI2b, ↓oI2s, ↓oDup, ↓oPop, ↓oDupx1, ↓oDupx2, ↓oDup2, ↓oGoto, ↓oIfEq, ↓oIfNe, ↓oIfLt, ↓oIfGe, ↓oIfGt, ↓oIfLe, ↓oIcEq, ↓oIcNe, ↓oIcLt, ↓oIcGe, ↓oIcGt, ↓oIcLe, ↓oIfnull, ↓oIfnonnull, ↓oSwitch, ↓oGetf, ↓oPutf, ↓oNew, ↓oNewa, ↓oAlen, ↓oIald, ↓oLald, ↓oZald, ↓oAald, ↓oIast, ↓oLast, ↓oZast, ↓oAast, ↓oCast, ↓oObji, ↓oRetI, ↓oRetZ, ↓oRetL, ↓oRetA, ↓oRetV, ↓oInvS, ↓oInvV, ↓oInvI, ↓oFail, ↓oAcEq, ↓oGetE, ↓oAlenE, ↓oAastO, ↓oCopyL, ↓oCopyK, ↓oInvS8, ↓oLdcS, ↓oMmax, ↓oMmin, ↓oMabs, ↓oAlenE, ↓popI_I, ↓popL_L, ↓popR_R, ↓popS_I, ↓popS_R, ↓popN_0, ↓popN_s, ↓popT_0, ↓popT_1, ↓popT_2, ↓popT_3, ↓gI_0, ↓gI_s, ↓gL_0, ↓gL_s, ↓gR_0, ↓gR_s, ↓blk_s, ↓blk_0, goE_0, goE_1, goE_2, bst_0, bst_1, bst_2, TTf_e, st1_0, st1_1, st1_s, st2_0, st2_1, st2_s, jk_I, jk_R, jk_L, jk_J, mkT_0, mkT_1, mkT_2, mkT_3, sw_n, sw_c, nJ_n, nJ_I, nJ_L, nJ_R, stW_n, stW_I, stW_R, stW_L, true_and, and_true, Nat.reduceAdd, Nat.reduceLeDiff, Int.reduceAdd, up_at, Int.reduceEq, Int.reduceLE, Int.reduceLT, false_and, and_false, and_self, if_false, if_true, Int.reduceNeg, List.cons_append, List.nil_append, not_true_eq_false, not_false_eq_true, false_implies, true_implies, implies_true, true_or, or_true, false_or, or_false, ↓oIaldX, aL_law_231, aL_law_232, aL_law_233, aL_law_234, aL_law_235, aL_law_236, aL_law_237, aL_law_238, aL_law_239, aL_law_240, aL_law_241, aL_law_242, aL_law_243, aL_law_244, aL_law_245, aL_law_246, aL_law_247, aL_law_250, aL_law_251, aL_law_252, aL_law_253, aL_law_254, aL_law_255, aL_law_256, aL_law_257, aL_law_258, aL_law_259, aL_law_260, aL_law_261, aL_law_262, aL_law_263, aL_law_264, aL_law_265, aL_law_266, aL_law_269, aL_law_272, aL_law_273, aL_law_1718, aL_law_1721, k1, h9, e1, p1, q1, e2, p2, q2, e3, p3, q3, e4, p4, q4, e5, p5, q5, e6, s1, s2, s3, s4, s5]
  refine GG.of0 (Mt.scr h9 (c_row (d := d + 69) hrc (fun S1 g1 g2 r9 g3 => ?_)))
  have hmk1 := hmk
  have ms1 := MS_out hms g2
  have m1 := MK_o hmk1
  have t1 := (g3 (i + 1) (by omega) (by omega)).trans s1
  have t2 := (g3 (i + 2) (by omega) (by omega)).trans s2
  have t3 := (g3 (i + 3) (by omega) (by omega)).trans s3
  have t4 := (g3 (i + 4) (by omega) (by omega)).trans s4
  have t5 := (g3 (i + 5) (by omega) (by omega)).trans s5
  refine TT.go zL_law 200 ?_
  simp only [↓oPush, ↓oIload, ↓oLload, ↓oRload, ↓oIstore, ↓oLstore, ↓oRstore, ↓oIinc, ↓oIadd, ↓oIsub, ↓oImul, ↓oIand, ↓oIor, ↓oIshl, ↓oIshr, ↓oIushr, ↓oIdiv, ↓oIrem, ↓oIneg, ↓oLadd, ↓oLmul, ↓oLand, ↓oLor, ↓oLxor, ↓oLshl, ↓oLshr, ↓oLushr, ↓oLcmp, ↓oI2l, ↓oL2i, ↓oI2b, ↓oI2s, ↓oDup, ↓oPop, ↓oDupx1, ↓oDupx2, ↓oDup2, ↓oGoto, ↓oIfEq, ↓oIfNe, ↓oIfLt, ↓oIfGe, ↓oIfGt, ↓oIfLe, ↓oIcEq, ↓oIcNe, ↓oIcLt, ↓oIcGe, ↓oIcGt, ↓oIcLe, ↓oIfnull, ↓oIfnonnull, ↓oSwitch, ↓oGetf, ↓oPutf, ↓oNew, ↓oNewa, ↓oAlen, ↓oIald, ↓oLald, ↓oZald, ↓oAald, ↓oIast, ↓oLast, ↓oZast, ↓oAast, ↓oCast, ↓oObji, ↓oRetI, ↓oRetZ, ↓oRetL, ↓oRetA, ↓oRetV, ↓oInvS, ↓oInvV, ↓oInvI, ↓oFail, ↓oAcEq, ↓oGetE, ↓oAlenE, ↓oAastO, ↓oCopyL, ↓oCopyK, ↓oInvS8, ↓oLdcS, ↓oMmax, ↓oMmin, ↓oMabs, ↓oAlenE, ↓popI_I, ↓popL_L, ↓popR_R, ↓popS_I, ↓popS_R, ↓popN_0, ↓popN_s, ↓popT_0, ↓popT_1, ↓popT_2, ↓popT_3, ↓gI_0, ↓gI_s, ↓gL_0, ↓gL_s, ↓gR_0, ↓gR_s, ↓blk_s, ↓blk_0, goE_0, goE_1, goE_2, bst_0, bst_1, bst_2, TTf_e, st1_0, st1_1, st1_s, st2_0, st2_1, st2_s, jk_I, jk_R, jk_L, jk_J, mkT_0, mkT_1, mkT_2, mkT_3, sw_n, sw_c, nJ_n, nJ_I, nJ_L, nJ_R, stW_n, stW_I, stW_R, stW_L, true_and, and_true, Nat.reduceAdd, Nat.reduceLeDiff, Int.reduceAdd, up_at, Int.reduceEq, Int.reduceLE, Int.reduceLT, false_and, and_false, and_self, if_false, if_true, Int.reduceNeg, List.cons_append, List.nil_append, not_true_eq_false, not_false_eq_true, false_implies, true_implies, implies_true, true_or, or_true, false_or, or_false, ↓oIaldX, aL_law_231, aL_law_232, aL_law_233, aL_law_234, aL_law_235, aL_law_236, aL_law_237, aL_law_238, aL_law_239, aL_law_240, aL_law_241, aL_law_242, aL_law_243, aL_law_244, aL_law_245, aL_law_246, aL_law_247, aL_law_250, aL_law_251, aL_law_252, aL_law_253, aL_law_254, aL_law_255, aL_law_256, aL_law_257, aL_law_258, aL_law_259, aL_law_260, aL_law_261, aL_law_262, aL_law_263, aL_law_264, aL_law_265, aL_law_266, aL_law_269, aL_law_272, aL_law_273, aL_law_1718, aL_law_1721, m1, r9, e1, p1, q1, e2, p2, q2, e3, p3, q3, e4, p4, q4, e5, p5, q5, e6, t1, t2, t3, t4, t5]
  refine GG.of0 (m_row (d := d + 69) hmk1 ms1 (fun S2 g4 => ?_))
  refine TT.go zL_law 200 ?_
  simp only [↓oPush, ↓oIload, ↓oLload, ↓oRload, ↓oIstore, ↓oLstore, ↓oRstore, ↓oIinc, ↓oIadd, ↓oIsub, ↓oImul, ↓oIand, ↓oIor, ↓oIshl, ↓oIshr, ↓oIushr, ↓oIdiv, ↓oIrem, ↓oIneg, ↓oLadd, ↓oLmul, ↓oLand, ↓oLor, ↓oLxor, ↓oLshl, ↓oLshr, ↓oLushr, ↓oLcmp, ↓oI2l, ↓oL2i, ↓oI2b, ↓oI2s, ↓oDup, ↓oPop, ↓oDupx1, ↓oDupx2, ↓oDup2, ↓oGoto, ↓oIfEq, ↓oIfNe, ↓oIfLt, ↓oIfGe, ↓oIfGt, ↓oIfLe, ↓oIcEq, ↓oIcNe, ↓oIcLt, ↓oIcGe, ↓oIcGt, ↓oIcLe, ↓oIfnull, ↓oIfnonnull, ↓oSwitch, ↓oGetf, ↓oPutf, ↓oNew, ↓oNewa, ↓oAlen, ↓oIald, ↓oLald, ↓oZald, ↓oAald, ↓oIast, ↓oLast, ↓oZast, ↓oAast, ↓oCast, ↓oObji, ↓oRetI, ↓oRetZ, ↓oRetL, ↓oRetA, ↓oRetV, ↓oInvS, ↓oInvV, ↓oInvI, ↓oFail, ↓oAcEq, ↓oGetE, ↓oAlenE, ↓oAastO, ↓oCopyL, ↓oCopyK, ↓oInvS8, ↓oLdcS, ↓oMmax, ↓oMmin, ↓oMabs, ↓oAlenE, ↓popI_I, ↓popL_L, ↓popR_R, ↓popS_I, ↓popS_R, ↓popN_0, ↓popN_s, ↓popT_0, ↓popT_1, ↓popT_2, ↓popT_3, ↓gI_0, ↓gI_s, ↓gL_0, ↓gL_s, ↓gR_0, ↓gR_s, ↓blk_s, ↓blk_0, goE_0, goE_1, goE_2, bst_0, bst_1, bst_2, TTf_e, st1_0, st1_1, st1_s, st2_0, st2_1, st2_s, jk_I, jk_R, jk_L, jk_J, mkT_0, mkT_1, mkT_2, mkT_3, sw_n, sw_c, nJ_n, nJ_I, nJ_L, nJ_R, stW_n, stW_I, stW_R, stW_L, true_and, and_true, Nat.reduceAdd, Nat.reduceLeDiff, Int.reduceAdd, up_at, Int.reduceEq, Int.reduceLE, Int.reduceLT, false_and, and_false, and_self, if_false, if_true, Int.reduceNeg, List.cons_append, List.nil_append, not_true_eq_false, not_false_eq_true, false_implies, true_implies, implies_true, true_or, or_true, false_or, or_false, ↓oIaldX, aL_law_231, aL_law_232, aL_law_233, aL_law_234, aL_law_235, aL_law_236, aL_law_237, aL_law_238, aL_law_239, aL_law_240, aL_law_241, aL_law_242, aL_law_243, aL_law_244, aL_law_245, aL_law_246, aL_law_247, aL_law_250, aL_law_251, aL_law_252, aL_law_253, aL_law_254, aL_law_255, aL_law_256, aL_law_257, aL_law_258, aL_law_259, aL_law_260, aL_law_261, aL_law_262, aL_law_263, aL_law_264, aL_law_265, aL_law_266, aL_law_269, aL_law_272, aL_law_273, aL_law_1718, aL_law_1721, m1, r9, e1, p1, q1, e2, p2, q2, e3, p3, q3, e4, p4, q4, e5, p5, q5, e6, t1, t2, t3, t4, t5]
  exact hgo _ _ _ _ _ _ (by omega) (by omega) (LI_next h g1 hmk1 r9 g3 g4 (Iv_row hI) hO)
set_option maxRecDepth 20000 in
theorem lw_c2 {d : Nat} {L i : Int} {T : Int → Int} {μ : ST} {R : RT} {K : KT} {S : ST} {cb nb : Nat} {Q : QF} (h : LI L T μ R K S) (hL : 0 ≤ L ∧ L ≤ 3072) (hT : ∀ j, 0 ≤ j → j < L → in32 (T j)) (hi : 0 ≤ i ∧ i + 6 ≤ L) (hc : 8 ≤ cb) (hn : 200 ≤ nb) (hgo : ∀ μ' R' K' S' cb' nb', cb ≤ cb' + 8 → nb ≤ nb' + 200 → LI L T μ' R' K' S' → TT mL_law (d + 72) 18 [vR 9, vR 1, vR 1000, vI (i + 6)] [] K' S' cb' nb' Q) : TT mL_law (d + 72) 274 [vR 9, vR 1, vR 1000, vI i] [] K S cb nb Q := by
  obtain ⟨hrc, hms, hmk, hI, hO, h9, hs⟩ := id h
  obtain ⟨⟨i0, iS, iA, iP, iF, iK, iU, iR⟩, iC⟩ := id hI
  have e1 : w32 (i + 1) = i + 1 := w32_id (by unfold in32; omega)
  have e2 : w32 (i + 2) = i + 2 := w32_id (by unfold in32; omega)
  have e3 : w32 (i + 3) = i + 3 := w32_id (by unfold in32; omega)
  have e4 : w32 (i + 4) = i + 4 := w32_id (by unfold in32; omega)
  have e5 : w32 (i + 5) = i + 5 := w32_id (by unfold in32; omega)
  have e6 : w32 (i + 6) = i + 6 := w32_id (by unfold in32; omega)
  have p1 : (0 ≤ i + 1) = True := eq_true (by omega)
  have q1 : (i + 1 < L) = True := eq_true (by omega)
  have s1 := hs (i + 1) (by omega) (by omega)
  have p2 : (0 ≤ i + 2) = True := eq_true (by omega)
  have q2 : (i + 2 < L) = True := eq_true (by omega)
  have s2 := hs (i + 2) (by omega) (by omega)
  have p3 : (0 ≤ i + 3) = True := eq_true (by omega)
  have q3 : (i + 3 < L) = True := eq_true (by omega)
  have s3 := hs (i + 3) (by omega) (by omega)
  have p4 : (0 ≤ i + 4) = True := eq_true (by omega)
  have q4 : (i + 4 < L) = True := eq_true (by omega)
  have s4 := hs (i + 4) (by omega) (by omega)
  have p5 : (0 ≤ i + 5) = True := eq_true (by omega)
  have q5 : (i + 5 < L) = True := eq_true (by omega)
  have s5 := hs (i + 5) (by omega) (by omega)
  have k1 := CK_1 hrc.1
  refine TT.go zL_law 200 ?_
  simp only [↓oPush, ↓oIload, ↓oLload, ↓oRload, ↓oIstore, ↓oLstore, ↓oRstore, ↓oIinc, ↓oIadd, ↓oIsub, ↓oImul, ↓oIand, ↓oIor, ↓oIshl, ↓oIshr, ↓oIushr, ↓oIdiv, ↓oIrem, ↓oIneg, ↓oLadd, ↓oLmul, ↓oLand, ↓oLor, ↓oLxor, ↓oLshl, ↓oLshr, ↓oLushr, ↓oLcmp, ↓oI2l, ↓oL2i, ↓oI2b, ↓oI2s, ↓oDup, ↓oPop, ↓oDupx1, ↓oDupx2, ↓oDup2, ↓oGoto, ↓oIfEq, ↓oIfNe, ↓oIfLt, ↓oIfGe, ↓oIfGt, ↓oIfLe, ↓oIcEq, ↓oIcNe, ↓oIcLt, ↓oIcGe, ↓oIcGt, ↓oIcLe, ↓oIfnull, ↓oIfnonnull, ↓oSwitch, ↓oGetf, ↓oPutf, ↓oNew, ↓oNewa, ↓oAlen, ↓oIald, ↓oLald, ↓oZald, ↓oAald, ↓oIast, ↓oLast, ↓oZast, ↓oAast, ↓oCast, ↓oObji, ↓oRetI, ↓oRetZ, ↓oRetL, ↓oRetA, ↓oRetV, ↓oInvS, ↓oInvV, ↓oInvI, ↓oFail, ↓oAcEq, ↓oGetE, ↓oAlenE, ↓oAastO, ↓oCopyL, ↓oCopyK, ↓oInvS8, ↓oLdcS, ↓oMmax, ↓oMmin, ↓oMabs, ↓oAlenE, ↓popI_I, ↓popL_L, ↓popR_R, ↓popS_I, ↓popS_R, ↓popN_0, ↓popN_s, ↓popT_0, ↓popT_1, ↓popT_2, ↓popT_3, ↓gI_0, ↓gI_s, ↓gL_0, ↓gL_s, ↓gR_0, ↓gR_s, ↓blk_s, ↓blk_0, goE_0, goE_1, goE_2, bst_0, bst_1, bst_2, TTf_e, st1_0, st1_1, st1_s, st2_0, st2_1, st2_s, jk_I, jk_R, jk_L, jk_J, mkT_0, mkT_1, mkT_2, mkT_3, sw_n, sw_c, nJ_n, nJ_I, nJ_L, nJ_R, stW_n, stW_I, stW_R, stW_L, true_and, and_true, Nat.reduceAdd, Nat.reduceLeDiff, Int.reduceAdd, up_at, Int.reduceEq, Int.reduceLE, Int.reduceLT, false_and, and_false, and_self, if_false, if_true, Int.reduceNeg, List.cons_append, List.nil_append, not_true_eq_false, not_false_eq_true, false_implies, true_implies, implies_true, true_or, or_true, false_or, or_false, ↓oIaldX, aL_law_274, aL_law_275, aL_law_276, aL_law_277, aL_law_278, aL_law_279, aL_law_280, aL_law_281, aL_law_282, aL_law_283, aL_law_284, aL_law_285, aL_law_286, aL_law_287, aL_law_288, aL_law_289, aL_law_290, aL_law_291, aL_law_293, aL_law_294, aL_law_295, aL_law_296, aL_law_297, aL_law_298, aL_law_299, aL_law_300, aL_law_303, aL_law_304, aL_law_305, aL_law_308, aL_law_309, aL_law_310, aL_law_311, aL_law_312, aL_law_313, aL_law_314, aL_law_315, aL_law_316, aL_law_317, aL_law_318, aL_law_319, aL_law_320, aL_law_321, aL_law_322, aL_law_323, aL_law_324, aL_law_325, aL_law_327, aL_law_328, aL_law_329, aL_law_330, aL_law_331, aL_law_332, aL_law_333, aL_law_334, aL_law_337, aL_law_338, aL_law_339, aL_law_342, aL_law_345, aL_law_346, aL_law_1718, aL_law_1721, k1, h9, e1, p1, q1, e2, p2, q2, e3, p3, q3, e4, p4, q4, e5, p5, q5, e6, s1, s2, s3, s4, s5]
  refine GG.of0 (Mt.scr h9 (c_set (d := d + 68) hrc iS (in64_of _) (fun S1 g1 g2 r9 g3 => ?_)))
  have hmk1 := hmk
  have ms1 := MS_out hms g2
  have m1 := MK_o hmk1
  have t1 := (g3 (i + 1) (by omega) (by omega)).trans s1
  have t2 := (g3 (i + 2) (by omega) (by omega)).trans s2
  have t3 := (g3 (i + 3) (by omega) (by omega)).trans s3
  have t4 := (g3 (i + 4) (by omega) (by omega)).trans s4
  have t5 := (g3 (i + 5) (by omega) (by omega)).trans s5
  refine TT.go zL_law 200 ?_
  simp only [↓oPush, ↓oIload, ↓oLload, ↓oRload, ↓oIstore, ↓oLstore, ↓oRstore, ↓oIinc, ↓oIadd, ↓oIsub, ↓oImul, ↓oIand, ↓oIor, ↓oIshl, ↓oIshr, ↓oIushr, ↓oIdiv, ↓oIrem, ↓oIneg, ↓oLadd, ↓oLmul, ↓oLand, ↓oLor, ↓oLxor, ↓oLshl, ↓oLshr, ↓oLushr, ↓oLcmp, ↓oI2l, ↓oL2i, ↓oI2b, ↓oI2s, ↓oDup, ↓oPop, ↓oDupx1, ↓oDupx2, ↓oDup2, ↓oGoto, ↓oIfEq, ↓oIfNe, ↓oIfLt, ↓oIfGe, ↓oIfGt, ↓oIfLe, ↓oIcEq, ↓oIcNe, ↓oIcLt, ↓oIcGe, ↓oIcGt, ↓oIcLe, ↓oIfnull, ↓oIfnonnull, ↓oSwitch, ↓oGetf, ↓oPutf, ↓oNew, ↓oNewa, ↓oAlen, ↓oIald, ↓oLald, ↓oZald, ↓oAald, ↓oIast, ↓oLast, ↓oZast, ↓oAast, ↓oCast, ↓oObji, ↓oRetI, ↓oRetZ, ↓oRetL, ↓oRetA, ↓oRetV, ↓oInvS, ↓oInvV, ↓oInvI, ↓oFail, ↓oAcEq, ↓oGetE, ↓oAlenE, ↓oAastO, ↓oCopyL, ↓oCopyK, ↓oInvS8, ↓oLdcS, ↓oMmax, ↓oMmin, ↓oMabs, ↓oAlenE, ↓popI_I, ↓popL_L, ↓popR_R, ↓popS_I, ↓popS_R, ↓popN_0, ↓popN_s, ↓popT_0, ↓popT_1, ↓popT_2, ↓popT_3, ↓gI_0, ↓gI_s, ↓gL_0, ↓gL_s, ↓gR_0, ↓gR_s, ↓blk_s, ↓blk_0, goE_0, goE_1, goE_2, bst_0, bst_1, bst_2, TTf_e, st1_0, st1_1, st1_s, st2_0, st2_1, st2_s, jk_I, jk_R, jk_L, jk_J, mkT_0, mkT_1, mkT_2, mkT_3, sw_n, sw_c, nJ_n, nJ_I, nJ_L, nJ_R, stW_n, stW_I, stW_R, stW_L, true_and, and_true, Nat.reduceAdd, Nat.reduceLeDiff, Int.reduceAdd, up_at, Int.reduceEq, Int.reduceLE, Int.reduceLT, false_and, and_false, and_self, if_false, if_true, Int.reduceNeg, List.cons_append, List.nil_append, not_true_eq_false, not_false_eq_true, false_implies, true_implies, implies_true, true_or, or_true, false_or, or_false, ↓oIaldX, aL_law_274, aL_law_275, aL_law_276, aL_law_277, aL_law_278, aL_law_279, aL_law_280, aL_law_281, aL_law_282, aL_law_283, aL_law_284, aL_law_285, aL_law_286, aL_law_287, aL_law_288, aL_law_289, aL_law_290, aL_law_291, aL_law_293, aL_law_294, aL_law_295, aL_law_296, aL_law_297, aL_law_298, aL_law_299, aL_law_300, aL_law_303, aL_law_304, aL_law_305, aL_law_308, aL_law_309, aL_law_310, aL_law_311, aL_law_312, aL_law_313, aL_law_314, aL_law_315, aL_law_316, aL_law_317, aL_law_318, aL_law_319, aL_law_320, aL_law_321, aL_law_322, aL_law_323, aL_law_324, aL_law_325, aL_law_327, aL_law_328, aL_law_329, aL_law_330, aL_law_331, aL_law_332, aL_law_333, aL_law_334, aL_law_337, aL_law_338, aL_law_339, aL_law_342, aL_law_345, aL_law_346, aL_law_1718, aL_law_1721, m1, r9, e1, p1, q1, e2, p2, q2, e3, p3, q3, e4, p4, q4, e5, p5, q5, e6, t1, t2, t3, t4, t5]
  refine GG.of0 (m_set (d := d + 69) hmk1 ms1 iS (in64_of _) (fun S2 g4 => ?_))
  refine TT.go zL_law 200 ?_
  simp only [↓oPush, ↓oIload, ↓oLload, ↓oRload, ↓oIstore, ↓oLstore, ↓oRstore, ↓oIinc, ↓oIadd, ↓oIsub, ↓oImul, ↓oIand, ↓oIor, ↓oIshl, ↓oIshr, ↓oIushr, ↓oIdiv, ↓oIrem, ↓oIneg, ↓oLadd, ↓oLmul, ↓oLand, ↓oLor, ↓oLxor, ↓oLshl, ↓oLshr, ↓oLushr, ↓oLcmp, ↓oI2l, ↓oL2i, ↓oI2b, ↓oI2s, ↓oDup, ↓oPop, ↓oDupx1, ↓oDupx2, ↓oDup2, ↓oGoto, ↓oIfEq, ↓oIfNe, ↓oIfLt, ↓oIfGe, ↓oIfGt, ↓oIfLe, ↓oIcEq, ↓oIcNe, ↓oIcLt, ↓oIcGe, ↓oIcGt, ↓oIcLe, ↓oIfnull, ↓oIfnonnull, ↓oSwitch, ↓oGetf, ↓oPutf, ↓oNew, ↓oNewa, ↓oAlen, ↓oIald, ↓oLald, ↓oZald, ↓oAald, ↓oIast, ↓oLast, ↓oZast, ↓oAast, ↓oCast, ↓oObji, ↓oRetI, ↓oRetZ, ↓oRetL, ↓oRetA, ↓oRetV, ↓oInvS, ↓oInvV, ↓oInvI, ↓oFail, ↓oAcEq, ↓oGetE, ↓oAlenE, ↓oAastO, ↓oCopyL, ↓oCopyK, ↓oInvS8, ↓oLdcS, ↓oMmax, ↓oMmin, ↓oMabs, ↓oAlenE, ↓popI_I, ↓popL_L, ↓popR_R, ↓popS_I, ↓popS_R, ↓popN_0, ↓popN_s, ↓popT_0, ↓popT_1, ↓popT_2, ↓popT_3, ↓gI_0, ↓gI_s, ↓gL_0, ↓gL_s, ↓gR_0, ↓gR_s, ↓blk_s, ↓blk_0, goE_0, goE_1, goE_2, bst_0, bst_1, bst_2, TTf_e, st1_0, st1_1, st1_s, st2_0, st2_1, st2_s, jk_I, jk_R, jk_L, jk_J, mkT_0, mkT_1, mkT_2, mkT_3, sw_n, sw_c, nJ_n, nJ_I, nJ_L, nJ_R, stW_n, stW_I, stW_R, stW_L, true_and, and_true, Nat.reduceAdd, Nat.reduceLeDiff, Int.reduceAdd, up_at, Int.reduceEq, Int.reduceLE, Int.reduceLT, false_and, and_false, and_self, if_false, if_true, Int.reduceNeg, List.cons_append, List.nil_append, not_true_eq_false, not_false_eq_true, false_implies, true_implies, implies_true, true_or, or_true, false_or, or_false, ↓oIaldX, aL_law_274, aL_law_275, aL_law_276, aL_law_277, aL_law_278, aL_law_279, aL_law_280, aL_law_281, aL_law_282, aL_law_283, aL_law_284, aL_law_285, aL_law_286, aL_law_287, aL_law_288, aL_law_289, aL_law_290, aL_law_291, aL_law_293, aL_law_294, aL_law_295, aL_law_296, aL_law_297, aL_law_298, aL_law_299, aL_law_300, aL_law_303, aL_law_304, aL_law_305, aL_law_308, aL_law_309, aL_law_310, aL_law_311, aL_law_312, aL_law_313, aL_law_314, aL_law_315, aL_law_316, aL_law_317, aL_law_318, aL_law_319, aL_law_320, aL_law_321, aL_law_322, aL_law_323, aL_law_324, aL_law_325, aL_law_327, aL_law_328, aL_law_329, aL_law_330, aL_law_331, aL_law_332, aL_law_333, aL_law_334, aL_law_337, aL_law_338, aL_law_339, aL_law_342, aL_law_345, aL_law_346, aL_law_1718, aL_law_1721, m1, r9, e1, p1, q1, e2, p2, q2, e3, p3, q3, e4, p4, q4, e5, p5, q5, e6, t1, t2, t3, t4, t5]
  exact hgo _ _ _ _ _ _ (by omega) (by omega) (LI_next h g1 hmk1 r9 g3 g4 (Iv_set hI) hO)
set_option maxRecDepth 20000 in
theorem lw_c3 {d : Nat} {L i : Int} {T : Int → Int} {μ : ST} {R : RT} {K : KT} {S : ST} {cb nb : Nat} {Q : QF} (h : LI L T μ R K S) (hL : 0 ≤ L ∧ L ≤ 3072) (hT : ∀ j, 0 ≤ j → j < L → in32 (T j)) (hi : 0 ≤ i ∧ i + 6 ≤ L) (hc : 8 ≤ cb) (hn : 200 ≤ nb) (hgo : ∀ μ' R' K' S' cb' nb', cb ≤ cb' + 8 → nb ≤ nb' + 200 → LI L T μ' R' K' S' → TT mL_law (d + 72) 18 [vR 9, vR 1, vR 1000, vI (i + 6)] [] K' S' cb' nb' Q) : TT mL_law (d + 72) 347 [vR 9, vR 1, vR 1000, vI i] [] K S cb nb Q := by
  obtain ⟨hrc, hms, hmk, hI, hO, h9, hs⟩ := id h
  obtain ⟨⟨i0, iS, iA, iP, iF, iK, iU, iR⟩, iC⟩ := id hI
  have e1 : w32 (i + 1) = i + 1 := w32_id (by unfold in32; omega)
  have e2 : w32 (i + 2) = i + 2 := w32_id (by unfold in32; omega)
  have e3 : w32 (i + 3) = i + 3 := w32_id (by unfold in32; omega)
  have e4 : w32 (i + 4) = i + 4 := w32_id (by unfold in32; omega)
  have e5 : w32 (i + 5) = i + 5 := w32_id (by unfold in32; omega)
  have e6 : w32 (i + 6) = i + 6 := w32_id (by unfold in32; omega)
  have p1 : (0 ≤ i + 1) = True := eq_true (by omega)
  have q1 : (i + 1 < L) = True := eq_true (by omega)
  have s1 := hs (i + 1) (by omega) (by omega)
  have p2 : (0 ≤ i + 2) = True := eq_true (by omega)
  have q2 : (i + 2 < L) = True := eq_true (by omega)
  have s2 := hs (i + 2) (by omega) (by omega)
  have p3 : (0 ≤ i + 3) = True := eq_true (by omega)
  have q3 : (i + 3 < L) = True := eq_true (by omega)
  have s3 := hs (i + 3) (by omega) (by omega)
  have p4 : (0 ≤ i + 4) = True := eq_true (by omega)
  have q4 : (i + 4 < L) = True := eq_true (by omega)
  have s4 := hs (i + 4) (by omega) (by omega)
  have p5 : (0 ≤ i + 5) = True := eq_true (by omega)
  have q5 : (i + 5 < L) = True := eq_true (by omega)
  have s5 := hs (i + 5) (by omega) (by omega)
  have k1 := CK_1 hrc.1
  refine TT.go zL_law 200 ?_
  simp only [↓oPush, ↓oIload, ↓oLload, ↓oRload, ↓oIstore, ↓oLstore, ↓oRstore, ↓oIinc, ↓oIadd, ↓oIsub, ↓oImul, ↓oIand, ↓oIor, ↓oIshl, ↓oIshr, ↓oIushr, ↓oIdiv, ↓oIrem, ↓oIneg, ↓oLadd, ↓oLmul, ↓oLand, ↓oLor, ↓oLxor, ↓oLshl, ↓oLshr, ↓oLushr, ↓oLcmp, ↓oI2l, ↓oL2i, ↓oI2b, ↓oI2s, ↓oDup, ↓oPop, ↓oDupx1, ↓oDupx2, ↓oDup2, ↓oGoto, ↓oIfEq, ↓oIfNe, ↓oIfLt, ↓oIfGe, ↓oIfGt, ↓oIfLe, ↓oIcEq, ↓oIcNe, ↓oIcLt, ↓oIcGe, ↓oIcGt, ↓oIcLe, ↓oIfnull, ↓oIfnonnull, ↓oSwitch, ↓oGetf, ↓oPutf, ↓oNew, ↓oNewa, ↓oAlen, ↓oIald, ↓oLald, ↓oZald, ↓oAald, ↓oIast, ↓oLast, ↓oZast, ↓oAast, ↓oCast, ↓oObji, ↓oRetI, ↓oRetZ, ↓oRetL, ↓oRetA, ↓oRetV, ↓oInvS, ↓oInvV, ↓oInvI, ↓oFail, ↓oAcEq, ↓oGetE, ↓oAlenE, ↓oAastO, ↓oCopyL, ↓oCopyK, ↓oInvS8, ↓oLdcS, ↓oMmax, ↓oMmin, ↓oMabs, ↓oAlenE, ↓popI_I, ↓popL_L, ↓popR_R, ↓popS_I, ↓popS_R, ↓popN_0, ↓popN_s, ↓popT_0, ↓popT_1, ↓popT_2, ↓popT_3, ↓gI_0, ↓gI_s, ↓gL_0, ↓gL_s, ↓gR_0, ↓gR_s, ↓blk_s, ↓blk_0, goE_0, goE_1, goE_2, bst_0, bst_1, bst_2, TTf_e, st1_0, st1_1, st1_s, st2_0, st2_1, st2_s, jk_I, jk_R, jk_L, jk_J, mkT_0, mkT_1, mkT_2, mkT_3, sw_n, sw_c, nJ_n, nJ_I, nJ_L, nJ_R, stW_n, stW_I, stW_R, stW_L, true_and, and_true, Nat.reduceAdd, Nat.reduceLeDiff, Int.reduceAdd, up_at, Int.reduceEq, Int.reduceLE, Int.reduceLT, false_and, and_false, and_self, if_false, if_true, Int.reduceNeg, List.cons_append, List.nil_append, not_true_eq_false, not_false_eq_true, false_implies, true_implies, implies_true, true_or, or_true, false_or, or_false, ↓oIaldX, aL_law_347, aL_law_348, aL_law_349, aL_law_350, aL_law_351, aL_law_352, aL_law_353, aL_law_354, aL_law_355, aL_law_356, aL_law_357, aL_law_358, aL_law_359, aL_law_360, aL_law_361, aL_law_362, aL_law_363, aL_law_364, aL_law_365, aL_law_366, aL_law_367, aL_law_368, aL_law_369, aL_law_370, aL_law_371, aL_law_372, aL_law_373, aL_law_376, aL_law_377, aL_law_378, aL_law_379, aL_law_380, aL_law_381, aL_law_382, aL_law_383, aL_law_384, aL_law_385, aL_law_386, aL_law_387, aL_law_388, aL_law_389, aL_law_390, aL_law_391, aL_law_392, aL_law_393, aL_law_394, aL_law_395, aL_law_396, aL_law_397, aL_law_398, aL_law_399, aL_law_400, aL_law_401, aL_law_402, aL_law_405, aL_law_408, aL_law_409, aL_law_1718, aL_law_1721, k1, h9, e1, p1, q1, e2, p2, q2, e3, p3, q3, e4, p4, q4, e5, p5, q5, e6, s1, s2, s3, s4, s5]
  refine GG.of0 (Mt.scr h9 (c_copy (d := d + 69) hrc iS (hT _ (by omega) (by omega)) (fun S1 g1 g2 r9 g3 => ?_)))
  have hmk1 := hmk
  have ms1 := MS_out hms g2
  have m1 := MK_o hmk1
  have t1 := (g3 (i + 1) (by omega) (by omega)).trans s1
  have t2 := (g3 (i + 2) (by omega) (by omega)).trans s2
  have t3 := (g3 (i + 3) (by omega) (by omega)).trans s3
  have t4 := (g3 (i + 4) (by omega) (by omega)).trans s4
  have t5 := (g3 (i + 5) (by omega) (by omega)).trans s5
  refine TT.go zL_law 200 ?_
  simp only [↓oPush, ↓oIload, ↓oLload, ↓oRload, ↓oIstore, ↓oLstore, ↓oRstore, ↓oIinc, ↓oIadd, ↓oIsub, ↓oImul, ↓oIand, ↓oIor, ↓oIshl, ↓oIshr, ↓oIushr, ↓oIdiv, ↓oIrem, ↓oIneg, ↓oLadd, ↓oLmul, ↓oLand, ↓oLor, ↓oLxor, ↓oLshl, ↓oLshr, ↓oLushr, ↓oLcmp, ↓oI2l, ↓oL2i, ↓oI2b, ↓oI2s, ↓oDup, ↓oPop, ↓oDupx1, ↓oDupx2, ↓oDup2, ↓oGoto, ↓oIfEq, ↓oIfNe, ↓oIfLt, ↓oIfGe, ↓oIfGt, ↓oIfLe, ↓oIcEq, ↓oIcNe, ↓oIcLt, ↓oIcGe, ↓oIcGt, ↓oIcLe, ↓oIfnull, ↓oIfnonnull, ↓oSwitch, ↓oGetf, ↓oPutf, ↓oNew, ↓oNewa, ↓oAlen, ↓oIald, ↓oLald, ↓oZald, ↓oAald, ↓oIast, ↓oLast, ↓oZast, ↓oAast, ↓oCast, ↓oObji, ↓oRetI, ↓oRetZ, ↓oRetL, ↓oRetA, ↓oRetV, ↓oInvS, ↓oInvV, ↓oInvI, ↓oFail, ↓oAcEq, ↓oGetE, ↓oAlenE, ↓oAastO, ↓oCopyL, ↓oCopyK, ↓oInvS8, ↓oLdcS, ↓oMmax, ↓oMmin, ↓oMabs, ↓oAlenE, ↓popI_I, ↓popL_L, ↓popR_R, ↓popS_I, ↓popS_R, ↓popN_0, ↓popN_s, ↓popT_0, ↓popT_1, ↓popT_2, ↓popT_3, ↓gI_0, ↓gI_s, ↓gL_0, ↓gL_s, ↓gR_0, ↓gR_s, ↓blk_s, ↓blk_0, goE_0, goE_1, goE_2, bst_0, bst_1, bst_2, TTf_e, st1_0, st1_1, st1_s, st2_0, st2_1, st2_s, jk_I, jk_R, jk_L, jk_J, mkT_0, mkT_1, mkT_2, mkT_3, sw_n, sw_c, nJ_n, nJ_I, nJ_L, nJ_R, stW_n, stW_I, stW_R, stW_L, true_and, and_true, Nat.reduceAdd, Nat.reduceLeDiff, Int.reduceAdd, up_at, Int.reduceEq, Int.reduceLE, Int.reduceLT, false_and, and_false, and_self, if_false, if_true, Int.reduceNeg, List.cons_append, List.nil_append, not_true_eq_false, not_false_eq_true, false_implies, true_implies, implies_true, true_or, or_true, false_or, or_false, ↓oIaldX, aL_law_347, aL_law_348, aL_law_349, aL_law_350, aL_law_351, aL_law_352, aL_law_353, aL_law_354, aL_law_355, aL_law_356, aL_law_357, aL_law_358, aL_law_359, aL_law_360, aL_law_361, aL_law_362, aL_law_363, aL_law_364, aL_law_365, aL_law_366, aL_law_367, aL_law_368, aL_law_369, aL_law_370, aL_law_371, aL_law_372, aL_law_373, aL_law_376, aL_law_377, aL_law_378, aL_law_379, aL_law_380, aL_law_381, aL_law_382, aL_law_383, aL_law_384, aL_law_385, aL_law_386, aL_law_387, aL_law_388, aL_law_389, aL_law_390, aL_law_391, aL_law_392, aL_law_393, aL_law_394, aL_law_395, aL_law_396, aL_law_397, aL_law_398, aL_law_399, aL_law_400, aL_law_401, aL_law_402, aL_law_405, aL_law_408, aL_law_409, aL_law_1718, aL_law_1721, m1, r9, e1, p1, q1, e2, p2, q2, e3, p3, q3, e4, p4, q4, e5, p5, q5, e6, t1, t2, t3, t4, t5]
  refine GG.of0 (m_copy (d := d + 69) hmk1 ms1 iS (hT _ (by omega) (by omega)) (fun S2 g4 => ?_))
  refine TT.go zL_law 200 ?_
  simp only [↓oPush, ↓oIload, ↓oLload, ↓oRload, ↓oIstore, ↓oLstore, ↓oRstore, ↓oIinc, ↓oIadd, ↓oIsub, ↓oImul, ↓oIand, ↓oIor, ↓oIshl, ↓oIshr, ↓oIushr, ↓oIdiv, ↓oIrem, ↓oIneg, ↓oLadd, ↓oLmul, ↓oLand, ↓oLor, ↓oLxor, ↓oLshl, ↓oLshr, ↓oLushr, ↓oLcmp, ↓oI2l, ↓oL2i, ↓oI2b, ↓oI2s, ↓oDup, ↓oPop, ↓oDupx1, ↓oDupx2, ↓oDup2, ↓oGoto, ↓oIfEq, ↓oIfNe, ↓oIfLt, ↓oIfGe, ↓oIfGt, ↓oIfLe, ↓oIcEq, ↓oIcNe, ↓oIcLt, ↓oIcGe, ↓oIcGt, ↓oIcLe, ↓oIfnull, ↓oIfnonnull, ↓oSwitch, ↓oGetf, ↓oPutf, ↓oNew, ↓oNewa, ↓oAlen, ↓oIald, ↓oLald, ↓oZald, ↓oAald, ↓oIast, ↓oLast, ↓oZast, ↓oAast, ↓oCast, ↓oObji, ↓oRetI, ↓oRetZ, ↓oRetL, ↓oRetA, ↓oRetV, ↓oInvS, ↓oInvV, ↓oInvI, ↓oFail, ↓oAcEq, ↓oGetE, ↓oAlenE, ↓oAastO, ↓oCopyL, ↓oCopyK, ↓oInvS8, ↓oLdcS, ↓oMmax, ↓oMmin, ↓oMabs, ↓oAlenE, ↓popI_I, ↓popL_L, ↓popR_R, ↓popS_I, ↓popS_R, ↓popN_0, ↓popN_s, ↓popT_0, ↓popT_1, ↓popT_2, ↓popT_3, ↓gI_0, ↓gI_s, ↓gL_0, ↓gL_s, ↓gR_0, ↓gR_s, ↓blk_s, ↓blk_0, goE_0, goE_1, goE_2, bst_0, bst_1, bst_2, TTf_e, st1_0, st1_1, st1_s, st2_0, st2_1, st2_s, jk_I, jk_R, jk_L, jk_J, mkT_0, mkT_1, mkT_2, mkT_3, sw_n, sw_c, nJ_n, nJ_I, nJ_L, nJ_R, stW_n, stW_I, stW_R, stW_L, true_and, and_true, Nat.reduceAdd, Nat.reduceLeDiff, Int.reduceAdd, up_at, Int.reduceEq, Int.reduceLE, Int.reduceLT, false_and, and_false, and_self, if_false, if_true, Int.reduceNeg, List.cons_append, List.nil_append, not_true_eq_false, not_false_eq_true, false_implies, true_implies, implies_true, true_or, or_true, false_or, or_false, ↓oIaldX, aL_law_347, aL_law_348, aL_law_349, aL_law_350, aL_law_351, aL_law_352, aL_law_353, aL_law_354, aL_law_355, aL_law_356, aL_law_357, aL_law_358, aL_law_359, aL_law_360, aL_law_361, aL_law_362, aL_law_363, aL_law_364, aL_law_365, aL_law_366, aL_law_367, aL_law_368, aL_law_369, aL_law_370, aL_law_371, aL_law_372, aL_law_373, aL_law_376, aL_law_377, aL_law_378, aL_law_379, aL_law_380, aL_law_381, aL_law_382, aL_law_383, aL_law_384, aL_law_385, aL_law_386, aL_law_387, aL_law_388, aL_law_389, aL_law_390, aL_law_391, aL_law_392, aL_law_393, aL_law_394, aL_law_395, aL_law_396, aL_law_397, aL_law_398, aL_law_399, aL_law_400, aL_law_401, aL_law_402, aL_law_405, aL_law_408, aL_law_409, aL_law_1718, aL_law_1721, m1, r9, e1, p1, q1, e2, p2, q2, e3, p3, q3, e4, p4, q4, e5, p5, q5, e6, t1, t2, t3, t4, t5]
  exact hgo _ _ _ _ _ _ (by omega) (by omega) (LI_next h g1 hmk1 r9 g3 g4 (Iv_copy hI) hO)
set_option maxRecDepth 20000 in
theorem lw_c4 {d : Nat} {L i : Int} {T : Int → Int} {μ : ST} {R : RT} {K : KT} {S : ST} {cb nb : Nat} {Q : QF} (h : LI L T μ R K S) (hL : 0 ≤ L ∧ L ≤ 3072) (hT : ∀ j, 0 ≤ j → j < L → in32 (T j)) (hi : 0 ≤ i ∧ i + 6 ≤ L) (hc : 8 ≤ cb) (hn : 200 ≤ nb) (hgo : ∀ μ' R' K' S' cb' nb', cb ≤ cb' + 8 → nb ≤ nb' + 200 → LI L T μ' R' K' S' → TT mL_law (d + 72) 18 [vR 9, vR 1, vR 1000, vI (i + 6)] [] K' S' cb' nb' Q) : TT mL_law (d + 72) 410 [vR 9, vR 1, vR 1000, vI i] [] K S cb nb Q := by
  obtain ⟨hrc, hms, hmk, hI, hO, h9, hs⟩ := id h
  obtain ⟨⟨i0, iS, iA, iP, iF, iK, iU, iR⟩, iC⟩ := id hI
  have e1 : w32 (i + 1) = i + 1 := w32_id (by unfold in32; omega)
  have e2 : w32 (i + 2) = i + 2 := w32_id (by unfold in32; omega)
  have e3 : w32 (i + 3) = i + 3 := w32_id (by unfold in32; omega)
  have e4 : w32 (i + 4) = i + 4 := w32_id (by unfold in32; omega)
  have e5 : w32 (i + 5) = i + 5 := w32_id (by unfold in32; omega)
  have e6 : w32 (i + 6) = i + 6 := w32_id (by unfold in32; omega)
  have p1 : (0 ≤ i + 1) = True := eq_true (by omega)
  have q1 : (i + 1 < L) = True := eq_true (by omega)
  have s1 := hs (i + 1) (by omega) (by omega)
  have p2 : (0 ≤ i + 2) = True := eq_true (by omega)
  have q2 : (i + 2 < L) = True := eq_true (by omega)
  have s2 := hs (i + 2) (by omega) (by omega)
  have p3 : (0 ≤ i + 3) = True := eq_true (by omega)
  have q3 : (i + 3 < L) = True := eq_true (by omega)
  have s3 := hs (i + 3) (by omega) (by omega)
  have p4 : (0 ≤ i + 4) = True := eq_true (by omega)
  have q4 : (i + 4 < L) = True := eq_true (by omega)
  have s4 := hs (i + 4) (by omega) (by omega)
  have p5 : (0 ≤ i + 5) = True := eq_true (by omega)
  have q5 : (i + 5 < L) = True := eq_true (by omega)
  have s5 := hs (i + 5) (by omega) (by omega)
  have k1 := CK_1 hrc.1
  refine TT.go zL_law 200 ?_
  simp only [↓oPush, ↓oIload, ↓oLload, ↓oRload, ↓oIstore, ↓oLstore, ↓oRstore, ↓oIinc, ↓oIadd, ↓oIsub, ↓oImul, ↓oIand, ↓oIor, ↓oIshl, ↓oIshr, ↓oIushr, ↓oIdiv, ↓oIrem, ↓oIneg, ↓oLadd, ↓oLmul, ↓oLand, ↓oLor, ↓oLxor, ↓oLshl, ↓oLshr, ↓oLushr, ↓oLcmp, ↓oI2l, ↓oL2i, ↓oI2b, ↓oI2s, ↓oDup, ↓oPop, ↓oDupx1, ↓oDupx2, ↓oDup2, ↓oGoto, ↓oIfEq, ↓oIfNe, ↓oIfLt, ↓oIfGe, ↓oIfGt, ↓oIfLe, ↓oIcEq, ↓oIcNe, ↓oIcLt, ↓oIcGe, ↓oIcGt, ↓oIcLe, ↓oIfnull, ↓oIfnonnull, ↓oSwitch, ↓oGetf, ↓oPutf, ↓oNew, ↓oNewa, ↓oAlen, ↓oIald, ↓oLald, ↓oZald, ↓oAald, ↓oIast, ↓oLast, ↓oZast, ↓oAast, ↓oCast, ↓oObji, ↓oRetI, ↓oRetZ, ↓oRetL, ↓oRetA, ↓oRetV, ↓oInvS, ↓oInvV, ↓oInvI, ↓oFail, ↓oAcEq, ↓oGetE, ↓oAlenE, ↓oAastO, ↓oCopyL, ↓oCopyK, ↓oInvS8, ↓oLdcS, ↓oMmax, ↓oMmin, ↓oMabs, ↓oAlenE, ↓popI_I, ↓popL_L, ↓popR_R, ↓popS_I, ↓popS_R, ↓popN_0, ↓popN_s, ↓popT_0, ↓popT_1, ↓popT_2, ↓popT_3, ↓gI_0, ↓gI_s, ↓gL_0, ↓gL_s, ↓gR_0, ↓gR_s, ↓blk_s, ↓blk_0, goE_0, goE_1, goE_2, bst_0, bst_1, bst_2, TTf_e, st1_0, st1_1, st1_s, st2_0, st2_1, st2_s, jk_I, jk_R, jk_L, jk_J, mkT_0, mkT_1, mkT_2, mkT_3, sw_n, sw_c, nJ_n, nJ_I, nJ_L, nJ_R, stW_n, stW_I, stW_R, stW_L, true_and, and_true, Nat.reduceAdd, Nat.reduceLeDiff, Int.reduceAdd, up_at, Int.reduceEq, Int.reduceLE, Int.reduceLT, false_and, and_false, and_self, if_false, if_true, Int.reduceNeg, List.cons_append, List.nil_append, not_true_eq_false, not_false_eq_true, false_implies, true_implies, implies_true, true_or, or_true, false_or, or_false, ↓oIaldX, aL_law_410, aL_law_411, aL_law_412, aL_law_413, aL_law_414, aL_law_415, aL_law_416, aL_law_417, aL_law_418, aL_law_419, aL_law_420, aL_law_421, aL_law_424, aL_law_425, aL_law_426, aL_law_427, aL_law_428, aL_law_429, aL_law_430, aL_law_431, aL_law_432, aL_law_433, aL_law_434, aL_law_435, aL_law_438, aL_law_439, aL_law_442, aL_law_443, aL_law_1718, aL_law_1721, k1, h9, e1, p1, q1, e2, p2, q2, e3, p3, q3, e4, p4, q4, e5, p5, q5, e6, s1, s2, s3, s4, s5]
  refine GG.of0 (Mt.scr h9 (c_element (d := d + 68) hrc iS (fun r9 g3 => ?_)))
  have hmk1 := hmk
  have g1 := hrc
  have g2 := Out_rfl S
  have ms1 := MS_out hms g2
  have m1 := MK_o hmk1
  have t1 := (g3 (i + 1) (by omega) (by omega)).trans s1
  have t2 := (g3 (i + 2) (by omega) (by omega)).trans s2
  have t3 := (g3 (i + 3) (by omega) (by omega)).trans s3
  have t4 := (g3 (i + 4) (by omega) (by omega)).trans s4
  have t5 := (g3 (i + 5) (by omega) (by omega)).trans s5
  refine TT.go zL_law 200 ?_
  simp only [↓oPush, ↓oIload, ↓oLload, ↓oRload, ↓oIstore, ↓oLstore, ↓oRstore, ↓oIinc, ↓oIadd, ↓oIsub, ↓oImul, ↓oIand, ↓oIor, ↓oIshl, ↓oIshr, ↓oIushr, ↓oIdiv, ↓oIrem, ↓oIneg, ↓oLadd, ↓oLmul, ↓oLand, ↓oLor, ↓oLxor, ↓oLshl, ↓oLshr, ↓oLushr, ↓oLcmp, ↓oI2l, ↓oL2i, ↓oI2b, ↓oI2s, ↓oDup, ↓oPop, ↓oDupx1, ↓oDupx2, ↓oDup2, ↓oGoto, ↓oIfEq, ↓oIfNe, ↓oIfLt, ↓oIfGe, ↓oIfGt, ↓oIfLe, ↓oIcEq, ↓oIcNe, ↓oIcLt, ↓oIcGe, ↓oIcGt, ↓oIcLe, ↓oIfnull, ↓oIfnonnull, ↓oSwitch, ↓oGetf, ↓oPutf, ↓oNew, ↓oNewa, ↓oAlen, ↓oIald, ↓oLald, ↓oZald, ↓oAald, ↓oIast, ↓oLast, ↓oZast, ↓oAast, ↓oCast, ↓oObji, ↓oRetI, ↓oRetZ, ↓oRetL, ↓oRetA, ↓oRetV, ↓oInvS, ↓oInvV, ↓oInvI, ↓oFail, ↓oAcEq, ↓oGetE, ↓oAlenE, ↓oAastO, ↓oCopyL, ↓oCopyK, ↓oInvS8, ↓oLdcS, ↓oMmax, ↓oMmin, ↓oMabs, ↓oAlenE, ↓popI_I, ↓popL_L, ↓popR_R, ↓popS_I, ↓popS_R, ↓popN_0, ↓popN_s, ↓popT_0, ↓popT_1, ↓popT_2, ↓popT_3, ↓gI_0, ↓gI_s, ↓gL_0, ↓gL_s, ↓gR_0, ↓gR_s, ↓blk_s, ↓blk_0, goE_0, goE_1, goE_2, bst_0, bst_1, bst_2, TTf_e, st1_0, st1_1, st1_s, st2_0, st2_1, st2_s, jk_I, jk_R, jk_L, jk_J, mkT_0, mkT_1, mkT_2, mkT_3, sw_n, sw_c, nJ_n, nJ_I, nJ_L, nJ_R, stW_n, stW_I, stW_R, stW_L, true_and, and_true, Nat.reduceAdd, Nat.reduceLeDiff, Int.reduceAdd, up_at, Int.reduceEq, Int.reduceLE, Int.reduceLT, false_and, and_false, and_self, if_false, if_true, Int.reduceNeg, List.cons_append, List.nil_append, not_true_eq_false, not_false_eq_true, false_implies, true_implies, implies_true, true_or, or_true, false_or, or_false, ↓oIaldX, aL_law_410, aL_law_411, aL_law_412, aL_law_413, aL_law_414, aL_law_415, aL_law_416, aL_law_417, aL_law_418, aL_law_419, aL_law_420, aL_law_421, aL_law_424, aL_law_425, aL_law_426, aL_law_427, aL_law_428, aL_law_429, aL_law_430, aL_law_431, aL_law_432, aL_law_433, aL_law_434, aL_law_435, aL_law_438, aL_law_439, aL_law_442, aL_law_443, aL_law_1718, aL_law_1721, m1, r9, e1, p1, q1, e2, p2, q2, e3, p3, q3, e4, p4, q4, e5, p5, q5, e6, s1, s2, s3, s4, s5]
  refine GG.of0 (m_element (d := d + 69) hmk1 ms1 iS ?_)
  refine TT.go zL_law 200 ?_
  simp only [↓oPush, ↓oIload, ↓oLload, ↓oRload, ↓oIstore, ↓oLstore, ↓oRstore, ↓oIinc, ↓oIadd, ↓oIsub, ↓oImul, ↓oIand, ↓oIor, ↓oIshl, ↓oIshr, ↓oIushr, ↓oIdiv, ↓oIrem, ↓oIneg, ↓oLadd, ↓oLmul, ↓oLand, ↓oLor, ↓oLxor, ↓oLshl, ↓oLshr, ↓oLushr, ↓oLcmp, ↓oI2l, ↓oL2i, ↓oI2b, ↓oI2s, ↓oDup, ↓oPop, ↓oDupx1, ↓oDupx2, ↓oDup2, ↓oGoto, ↓oIfEq, ↓oIfNe, ↓oIfLt, ↓oIfGe, ↓oIfGt, ↓oIfLe, ↓oIcEq, ↓oIcNe, ↓oIcLt, ↓oIcGe, ↓oIcGt, ↓oIcLe, ↓oIfnull, ↓oIfnonnull, ↓oSwitch, ↓oGetf, ↓oPutf, ↓oNew, ↓oNewa, ↓oAlen, ↓oIald, ↓oLald, ↓oZald, ↓oAald, ↓oIast, ↓oLast, ↓oZast, ↓oAast, ↓oCast, ↓oObji, ↓oRetI, ↓oRetZ, ↓oRetL, ↓oRetA, ↓oRetV, ↓oInvS, ↓oInvV, ↓oInvI, ↓oFail, ↓oAcEq, ↓oGetE, ↓oAlenE, ↓oAastO, ↓oCopyL, ↓oCopyK, ↓oInvS8, ↓oLdcS, ↓oMmax, ↓oMmin, ↓oMabs, ↓oAlenE, ↓popI_I, ↓popL_L, ↓popR_R, ↓popS_I, ↓popS_R, ↓popN_0, ↓popN_s, ↓popT_0, ↓popT_1, ↓popT_2, ↓popT_3, ↓gI_0, ↓gI_s, ↓gL_0, ↓gL_s, ↓gR_0, ↓gR_s, ↓blk_s, ↓blk_0, goE_0, goE_1, goE_2, bst_0, bst_1, bst_2, TTf_e, st1_0, st1_1, st1_s, st2_0, st2_1, st2_s, jk_I, jk_R, jk_L, jk_J, mkT_0, mkT_1, mkT_2, mkT_3, sw_n, sw_c, nJ_n, nJ_I, nJ_L, nJ_R, stW_n, stW_I, stW_R, stW_L, true_and, and_true, Nat.reduceAdd, Nat.reduceLeDiff, Int.reduceAdd, up_at, Int.reduceEq, Int.reduceLE, Int.reduceLT, false_and, and_false, and_self, if_false, if_true, Int.reduceNeg, List.cons_append, List.nil_append, not_true_eq_false, not_false_eq_true, false_implies, true_implies, implies_true, true_or, or_true, false_or, or_false, ↓oIaldX, aL_law_410, aL_law_411, aL_law_412, aL_law_413, aL_law_414, aL_law_415, aL_law_416, aL_law_417, aL_law_418, aL_law_419, aL_law_420, aL_law_421, aL_law_424, aL_law_425, aL_law_426, aL_law_427, aL_law_428, aL_law_429, aL_law_430, aL_law_431, aL_law_432, aL_law_433, aL_law_434, aL_law_435, aL_law_438, aL_law_439, aL_law_442, aL_law_443, aL_law_1718, aL_law_1721, m1, r9, e1, p1, q1, e2, p2, q2, e3, p3, q3, e4, p4, q4, e5, p5, q5, e6, s1, s2, s3, s4, s5, lcmpv_s]
  exact hgo _ _ _ _ _ _ (by omega) (by omega) (LI_next h g1 hmk1 r9 g3 ms1 hI hO)
set_option maxRecDepth 20000 in
theorem lw_c5 {d : Nat} {L i : Int} {T : Int → Int} {μ : ST} {R : RT} {K : KT} {S : ST} {cb nb : Nat} {Q : QF} (h : LI L T μ R K S) (hL : 0 ≤ L ∧ L ≤ 3072) (hT : ∀ j, 0 ≤ j → j < L → in32 (T j)) (hi : 0 ≤ i ∧ i + 6 ≤ L) (hc : 8 ≤ cb) (hn : 200 ≤ nb) (hgo : ∀ μ' R' K' S' cb' nb', cb ≤ cb' + 8 → nb ≤ nb' + 200 → LI L T μ' R' K' S' → TT mL_law (d + 72) 18 [vR 9, vR 1, vR 1000, vI (i + 6)] [] K' S' cb' nb' Q) : TT mL_law (d + 72) 444 [vR 9, vR 1, vR 1000, vI i] [] K S cb nb Q := by
  obtain ⟨hrc, hms, hmk, hI, hO, h9, hs⟩ := id h
  obtain ⟨⟨i0, iS, iA, iP, iF, iK, iU, iR⟩, iC⟩ := id hI
  have e1 : w32 (i + 1) = i + 1 := w32_id (by unfold in32; omega)
  have e2 : w32 (i + 2) = i + 2 := w32_id (by unfold in32; omega)
  have e3 : w32 (i + 3) = i + 3 := w32_id (by unfold in32; omega)
  have e4 : w32 (i + 4) = i + 4 := w32_id (by unfold in32; omega)
  have e5 : w32 (i + 5) = i + 5 := w32_id (by unfold in32; omega)
  have e6 : w32 (i + 6) = i + 6 := w32_id (by unfold in32; omega)
  have p1 : (0 ≤ i + 1) = True := eq_true (by omega)
  have q1 : (i + 1 < L) = True := eq_true (by omega)
  have s1 := hs (i + 1) (by omega) (by omega)
  have p2 : (0 ≤ i + 2) = True := eq_true (by omega)
  have q2 : (i + 2 < L) = True := eq_true (by omega)
  have s2 := hs (i + 2) (by omega) (by omega)
  have p3 : (0 ≤ i + 3) = True := eq_true (by omega)
  have q3 : (i + 3 < L) = True := eq_true (by omega)
  have s3 := hs (i + 3) (by omega) (by omega)
  have p4 : (0 ≤ i + 4) = True := eq_true (by omega)
  have q4 : (i + 4 < L) = True := eq_true (by omega)
  have s4 := hs (i + 4) (by omega) (by omega)
  have p5 : (0 ≤ i + 5) = True := eq_true (by omega)
  have q5 : (i + 5 < L) = True := eq_true (by omega)
  have s5 := hs (i + 5) (by omega) (by omega)
  have k1 := CK_1 hrc.1
  refine TT.go zL_law 200 ?_
  simp only [↓oPush, ↓oIload, ↓oLload, ↓oRload, ↓oIstore, ↓oLstore, ↓oRstore, ↓oIinc, ↓oIadd, ↓oIsub, ↓oImul, ↓oIand, ↓oIor, ↓oIshl, ↓oIshr, ↓oIushr, ↓oIdiv, ↓oIrem, ↓oIneg, ↓oLadd, ↓oLmul, ↓oLand, ↓oLor, ↓oLxor, ↓oLshl, ↓oLshr, ↓oLushr, ↓oLcmp, ↓oI2l, ↓oL2i, ↓oI2b, ↓oI2s, ↓oDup, ↓oPop, ↓oDupx1, ↓oDupx2, ↓oDup2, ↓oGoto, ↓oIfEq, ↓oIfNe, ↓oIfLt, ↓oIfGe, ↓oIfGt, ↓oIfLe, ↓oIcEq, ↓oIcNe, ↓oIcLt, ↓oIcGe, ↓oIcGt, ↓oIcLe, ↓oIfnull, ↓oIfnonnull, ↓oSwitch, ↓oGetf, ↓oPutf, ↓oNew, ↓oNewa, ↓oAlen, ↓oIald, ↓oLald, ↓oZald, ↓oAald, ↓oIast, ↓oLast, ↓oZast, ↓oAast, ↓oCast, ↓oObji, ↓oRetI, ↓oRetZ, ↓oRetL, ↓oRetA, ↓oRetV, ↓oInvS, ↓oInvV, ↓oInvI, ↓oFail, ↓oAcEq, ↓oGetE, ↓oAlenE, ↓oAastO, ↓oCopyL, ↓oCopyK, ↓oInvS8, ↓oLdcS, ↓oMmax, ↓oMmin, ↓oMabs, ↓oAlenE, ↓popI_I, ↓popL_L, ↓popR_R, ↓popS_I, ↓popS_R, ↓popN_0, ↓popN_s, ↓popT_0, ↓popT_1, ↓popT_2, ↓popT_3, ↓gI_0, ↓gI_s, ↓gL_0, ↓gL_s, ↓gR_0, ↓gR_s, ↓blk_s, ↓blk_0, goE_0, goE_1, goE_2, bst_0, bst_1, bst_2, TTf_e, st1_0, st1_1, st1_s, st2_0, st2_1, st2_s, jk_I, jk_R, jk_L, jk_J, mkT_0, mkT_1, mkT_2, mkT_3, sw_n, sw_c, nJ_n, nJ_I, nJ_L, nJ_R, stW_n, stW_I, stW_R, stW_L, true_and, and_true, Nat.reduceAdd, Nat.reduceLeDiff, Int.reduceAdd, up_at, Int.reduceEq, Int.reduceLE, Int.reduceLT, false_and, and_false, and_self, if_false, if_true, Int.reduceNeg, List.cons_append, List.nil_append, not_true_eq_false, not_false_eq_true, false_implies, true_implies, implies_true, true_or, or_true, false_or, or_false, ↓oIaldX, aL_law_444, aL_law_445, aL_law_446, aL_law_447, aL_law_448, aL_law_449, aL_law_450, aL_law_453, aL_law_454, aL_law_455, aL_law_456, aL_law_457, aL_law_458, aL_law_459, aL_law_462, aL_law_465, aL_law_466, aL_law_1718, aL_law_1721, k1, h9, e1, p1, q1, e2, p2, q2, e3, p3, q3, e4, p4, q4, e5, p5, q5, e6, s1, s2, s3, s4, s5]
  refine GG.of0 (Mt.scr h9 (c_holds (d := d + 69) hrc iS iC (fun r9 g3 => ?_)))
  have hmk1 := hmk
  have g1 := hrc
  have g2 := Out_rfl S
  have ms1 := MS_out hms g2
  have m1 := MK_o hmk1
  have t1 := (g3 (i + 1) (by omega) (by omega)).trans s1
  have t2 := (g3 (i + 2) (by omega) (by omega)).trans s2
  have t3 := (g3 (i + 3) (by omega) (by omega)).trans s3
  have t4 := (g3 (i + 4) (by omega) (by omega)).trans s4
  have t5 := (g3 (i + 5) (by omega) (by omega)).trans s5
  refine TT.go zL_law 200 ?_
  simp only [↓oPush, ↓oIload, ↓oLload, ↓oRload, ↓oIstore, ↓oLstore, ↓oRstore, ↓oIinc, ↓oIadd, ↓oIsub, ↓oImul, ↓oIand, ↓oIor, ↓oIshl, ↓oIshr, ↓oIushr, ↓oIdiv, ↓oIrem, ↓oIneg, ↓oLadd, ↓oLmul, ↓oLand, ↓oLor, ↓oLxor, ↓oLshl, ↓oLshr, ↓oLushr, ↓oLcmp, ↓oI2l, ↓oL2i, ↓oI2b, ↓oI2s, ↓oDup, ↓oPop, ↓oDupx1, ↓oDupx2, ↓oDup2, ↓oGoto, ↓oIfEq, ↓oIfNe, ↓oIfLt, ↓oIfGe, ↓oIfGt, ↓oIfLe, ↓oIcEq, ↓oIcNe, ↓oIcLt, ↓oIcGe, ↓oIcGt, ↓oIcLe, ↓oIfnull, ↓oIfnonnull, ↓oSwitch, ↓oGetf, ↓oPutf, ↓oNew, ↓oNewa, ↓oAlen, ↓oIald, ↓oLald, ↓oZald, ↓oAald, ↓oIast, ↓oLast, ↓oZast, ↓oAast, ↓oCast, ↓oObji, ↓oRetI, ↓oRetZ, ↓oRetL, ↓oRetA, ↓oRetV, ↓oInvS, ↓oInvV, ↓oInvI, ↓oFail, ↓oAcEq, ↓oGetE, ↓oAlenE, ↓oAastO, ↓oCopyL, ↓oCopyK, ↓oInvS8, ↓oLdcS, ↓oMmax, ↓oMmin, ↓oMabs, ↓oAlenE, ↓popI_I, ↓popL_L, ↓popR_R, ↓popS_I, ↓popS_R, ↓popN_0, ↓popN_s, ↓popT_0, ↓popT_1, ↓popT_2, ↓popT_3, ↓gI_0, ↓gI_s, ↓gL_0, ↓gL_s, ↓gR_0, ↓gR_s, ↓blk_s, ↓blk_0, goE_0, goE_1, goE_2, bst_0, bst_1, bst_2, TTf_e, st1_0, st1_1, st1_s, st2_0, st2_1, st2_s, jk_I, jk_R, jk_L, jk_J, mkT_0, mkT_1, mkT_2, mkT_3, sw_n, sw_c, nJ_n, nJ_I, nJ_L, nJ_R, stW_n, stW_I, stW_R, stW_L, true_and, and_true, Nat.reduceAdd, Nat.reduceLeDiff, Int.reduceAdd, up_at, Int.reduceEq, Int.reduceLE, Int.reduceLT, false_and, and_false, and_self, if_false, if_true, Int.reduceNeg, List.cons_append, List.nil_append, not_true_eq_false, not_false_eq_true, false_implies, true_implies, implies_true, true_or, or_true, false_or, or_false, ↓oIaldX, aL_law_444, aL_law_445, aL_law_446, aL_law_447, aL_law_448, aL_law_449, aL_law_450, aL_law_453, aL_law_454, aL_law_455, aL_law_456, aL_law_457, aL_law_458, aL_law_459, aL_law_462, aL_law_465, aL_law_466, aL_law_1718, aL_law_1721, m1, r9, e1, p1, q1, e2, p2, q2, e3, p3, q3, e4, p4, q4, e5, p5, q5, e6, s1, s2, s3, s4, s5]
  refine GG.of0 (m_holds (d := d + 69) hmk1 ms1 iS ?_)
  refine TT.go zL_law 200 ?_
  simp only [↓oPush, ↓oIload, ↓oLload, ↓oRload, ↓oIstore, ↓oLstore, ↓oRstore, ↓oIinc, ↓oIadd, ↓oIsub, ↓oImul, ↓oIand, ↓oIor, ↓oIshl, ↓oIshr, ↓oIushr, ↓oIdiv, ↓oIrem, ↓oIneg, ↓oLadd, ↓oLmul, ↓oLand, ↓oLor, ↓oLxor, ↓oLshl, ↓oLshr, ↓oLushr, ↓oLcmp, ↓oI2l, ↓oL2i, ↓oI2b, ↓oI2s, ↓oDup, ↓oPop, ↓oDupx1, ↓oDupx2, ↓oDup2, ↓oGoto, ↓oIfEq, ↓oIfNe, ↓oIfLt, ↓oIfGe, ↓oIfGt, ↓oIfLe, ↓oIcEq, ↓oIcNe, ↓oIcLt, ↓oIcGe, ↓oIcGt, ↓oIcLe, ↓oIfnull, ↓oIfnonnull, ↓oSwitch, ↓oGetf, ↓oPutf, ↓oNew, ↓oNewa, ↓oAlen, ↓oIald, ↓oLald, ↓oZald, ↓oAald, ↓oIast, ↓oLast, ↓oZast, ↓oAast, ↓oCast, ↓oObji, ↓oRetI, ↓oRetZ, ↓oRetL, ↓oRetA, ↓oRetV, ↓oInvS, ↓oInvV, ↓oInvI, ↓oFail, ↓oAcEq, ↓oGetE, ↓oAlenE, ↓oAastO, ↓oCopyL, ↓oCopyK, ↓oInvS8, ↓oLdcS, ↓oMmax, ↓oMmin, ↓oMabs, ↓oAlenE, ↓popI_I, ↓popL_L, ↓popR_R, ↓popS_I, ↓popS_R, ↓popN_0, ↓popN_s, ↓popT_0, ↓popT_1, ↓popT_2, ↓popT_3, ↓gI_0, ↓gI_s, ↓gL_0, ↓gL_s, ↓gR_0, ↓gR_s, ↓blk_s, ↓blk_0, goE_0, goE_1, goE_2, bst_0, bst_1, bst_2, TTf_e, st1_0, st1_1, st1_s, st2_0, st2_1, st2_s, jk_I, jk_R, jk_L, jk_J, mkT_0, mkT_1, mkT_2, mkT_3, sw_n, sw_c, nJ_n, nJ_I, nJ_L, nJ_R, stW_n, stW_I, stW_R, stW_L, true_and, and_true, Nat.reduceAdd, Nat.reduceLeDiff, Int.reduceAdd, up_at, Int.reduceEq, Int.reduceLE, Int.reduceLT, false_and, and_false, and_self, if_false, if_true, Int.reduceNeg, List.cons_append, List.nil_append, not_true_eq_false, not_false_eq_true, false_implies, true_implies, implies_true, true_or, or_true, false_or, or_false, ↓oIaldX, aL_law_444, aL_law_445, aL_law_446, aL_law_447, aL_law_448, aL_law_449, aL_law_450, aL_law_453, aL_law_454, aL_law_455, aL_law_456, aL_law_457, aL_law_458, aL_law_459, aL_law_462, aL_law_465, aL_law_466, aL_law_1718, aL_law_1721, m1, r9, e1, p1, q1, e2, p2, q2, e3, p3, q3, e4, p4, q4, e5, p5, q5, e6, s1, s2, s3, s4, s5]
  exact hgo _ _ _ _ _ _ (by omega) (by omega) (LI_next h g1 hmk1 r9 g3 ms1 hI hO)
set_option maxRecDepth 20000 in
theorem lw_c6 {d : Nat} {L i : Int} {T : Int → Int} {μ : ST} {R : RT} {K : KT} {S : ST} {cb nb : Nat} {Q : QF} (h : LI L T μ R K S) (hL : 0 ≤ L ∧ L ≤ 3072) (hT : ∀ j, 0 ≤ j → j < L → in32 (T j)) (hi : 0 ≤ i ∧ i + 6 ≤ L) (hc : 8 ≤ cb) (hn : 200 ≤ nb) (hgo : ∀ μ' R' K' S' cb' nb', cb ≤ cb' + 8 → nb ≤ nb' + 200 → LI L T μ' R' K' S' → TT mL_law (d + 72) 18 [vR 9, vR 1, vR 1000, vI (i + 6)] [] K' S' cb' nb' Q) : TT mL_law (d + 72) 467 [vR 9, vR 1, vR 1000, vI i] [] K S cb nb Q := by
  obtain ⟨hrc, hms, hmk, hI, hO, h9, hs⟩ := id h
  obtain ⟨⟨i0, iS, iA, iP, iF, iK, iU, iR⟩, iC⟩ := id hI
  have e1 : w32 (i + 1) = i + 1 := w32_id (by unfold in32; omega)
  have e2 : w32 (i + 2) = i + 2 := w32_id (by unfold in32; omega)
  have e3 : w32 (i + 3) = i + 3 := w32_id (by unfold in32; omega)
  have e4 : w32 (i + 4) = i + 4 := w32_id (by unfold in32; omega)
  have e5 : w32 (i + 5) = i + 5 := w32_id (by unfold in32; omega)
  have e6 : w32 (i + 6) = i + 6 := w32_id (by unfold in32; omega)
  have p1 : (0 ≤ i + 1) = True := eq_true (by omega)
  have q1 : (i + 1 < L) = True := eq_true (by omega)
  have s1 := hs (i + 1) (by omega) (by omega)
  have p2 : (0 ≤ i + 2) = True := eq_true (by omega)
  have q2 : (i + 2 < L) = True := eq_true (by omega)
  have s2 := hs (i + 2) (by omega) (by omega)
  have p3 : (0 ≤ i + 3) = True := eq_true (by omega)
  have q3 : (i + 3 < L) = True := eq_true (by omega)
  have s3 := hs (i + 3) (by omega) (by omega)
  have p4 : (0 ≤ i + 4) = True := eq_true (by omega)
  have q4 : (i + 4 < L) = True := eq_true (by omega)
  have s4 := hs (i + 4) (by omega) (by omega)
  have p5 : (0 ≤ i + 5) = True := eq_true (by omega)
  have q5 : (i + 5 < L) = True := eq_true (by omega)
  have s5 := hs (i + 5) (by omega) (by omega)
  have k1 := CK_1 hrc.1
  refine TT.go zL_law 200 ?_
  simp only [↓oPush, ↓oIload, ↓oLload, ↓oRload, ↓oIstore, ↓oLstore, ↓oRstore, ↓oIinc, ↓oIadd, ↓oIsub, ↓oImul, ↓oIand, ↓oIor, ↓oIshl, ↓oIshr, ↓oIushr, ↓oIdiv, ↓oIrem, ↓oIneg, ↓oLadd, ↓oLmul, ↓oLand, ↓oLor, ↓oLxor, ↓oLshl, ↓oLshr, ↓oLushr, ↓oLcmp, ↓oI2l, ↓oL2i, ↓oI2b, ↓oI2s, ↓oDup, ↓oPop, ↓oDupx1, ↓oDupx2, ↓oDup2, ↓oGoto, ↓oIfEq, ↓oIfNe, ↓oIfLt, ↓oIfGe, ↓oIfGt, ↓oIfLe, ↓oIcEq, ↓oIcNe, ↓oIcLt, ↓oIcGe, ↓oIcGt, ↓oIcLe, ↓oIfnull, ↓oIfnonnull, ↓oSwitch, ↓oGetf, ↓oPutf, ↓oNew, ↓oNewa, ↓oAlen, ↓oIald, ↓oLald, ↓oZald, ↓oAald, ↓oIast, ↓oLast, ↓oZast, ↓oAast, ↓oCast, ↓oObji, ↓oRetI, ↓oRetZ, ↓oRetL, ↓oRetA, ↓oRetV, ↓oInvS, ↓oInvV, ↓oInvI, ↓oFail, ↓oAcEq, ↓oGetE, ↓oAlenE, ↓oAastO, ↓oCopyL, ↓oCopyK, ↓oInvS8, ↓oLdcS, ↓oMmax, ↓oMmin, ↓oMabs, ↓oAlenE, ↓popI_I, ↓popL_L, ↓popR_R, ↓popS_I, ↓popS_R, ↓popN_0, ↓popN_s, ↓popT_0, ↓popT_1, ↓popT_2, ↓popT_3, ↓gI_0, ↓gI_s, ↓gL_0, ↓gL_s, ↓gR_0, ↓gR_s, ↓blk_s, ↓blk_0, goE_0, goE_1, goE_2, bst_0, bst_1, bst_2, TTf_e, st1_0, st1_1, st1_s, st2_0, st2_1, st2_s, jk_I, jk_R, jk_L, jk_J, mkT_0, mkT_1, mkT_2, mkT_3, sw_n, sw_c, nJ_n, nJ_I, nJ_L, nJ_R, stW_n, stW_I, stW_R, stW_L, true_and, and_true, Nat.reduceAdd, Nat.reduceLeDiff, Int.reduceAdd, up_at, Int.reduceEq, Int.reduceLE, Int.reduceLT, false_and, and_false, and_self, if_false, if_true, Int.reduceNeg, List.cons_append, List.nil_append, not_true_eq_false, not_false_eq_true, false_implies, true_implies, implies_true, true_or, or_true, false_or, or_false, ↓oIaldX, aL_law_467, aL_law_468, aL_law_469, aL_law_470, aL_law_471, aL_law_472, aL_law_473, aL_law_474, aL_law_475, aL_law_476, aL_law_477, aL_law_478, aL_law_481, aL_law_482, aL_law_483, aL_law_484, aL_law_485, aL_law_486, aL_law_487, aL_law_488, aL_law_489, aL_law_490, aL_law_491, aL_law_492, aL_law_495, aL_law_498, aL_law_499, aL_law_1718, aL_law_1721, k1, h9, e1, p1, q1, e2, p2, q2, e3, p3, q3, e4, p4, q4, e5, p5, q5, e6, s1, s2, s3, s4, s5]
  refine GG.of0 (Mt.scr h9 (c_says (d := d + 68) hrc iS iP iC (fun S1 g1 g2 r9 g3 => ?_)))
  have hmk1 := hmk
  have ms1 := MS_out hms g2
  have m1 := MK_o hmk1
  have t1 := (g3 (i + 1) (by omega) (by omega)).trans s1
  have t2 := (g3 (i + 2) (by omega) (by omega)).trans s2
  have t3 := (g3 (i + 3) (by omega) (by omega)).trans s3
  have t4 := (g3 (i + 4) (by omega) (by omega)).trans s4
  have t5 := (g3 (i + 5) (by omega) (by omega)).trans s5
  refine TT.go zL_law 200 ?_
  simp only [↓oPush, ↓oIload, ↓oLload, ↓oRload, ↓oIstore, ↓oLstore, ↓oRstore, ↓oIinc, ↓oIadd, ↓oIsub, ↓oImul, ↓oIand, ↓oIor, ↓oIshl, ↓oIshr, ↓oIushr, ↓oIdiv, ↓oIrem, ↓oIneg, ↓oLadd, ↓oLmul, ↓oLand, ↓oLor, ↓oLxor, ↓oLshl, ↓oLshr, ↓oLushr, ↓oLcmp, ↓oI2l, ↓oL2i, ↓oI2b, ↓oI2s, ↓oDup, ↓oPop, ↓oDupx1, ↓oDupx2, ↓oDup2, ↓oGoto, ↓oIfEq, ↓oIfNe, ↓oIfLt, ↓oIfGe, ↓oIfGt, ↓oIfLe, ↓oIcEq, ↓oIcNe, ↓oIcLt, ↓oIcGe, ↓oIcGt, ↓oIcLe, ↓oIfnull, ↓oIfnonnull, ↓oSwitch, ↓oGetf, ↓oPutf, ↓oNew, ↓oNewa, ↓oAlen, ↓oIald, ↓oLald, ↓oZald, ↓oAald, ↓oIast, ↓oLast, ↓oZast, ↓oAast, ↓oCast, ↓oObji, ↓oRetI, ↓oRetZ, ↓oRetL, ↓oRetA, ↓oRetV, ↓oInvS, ↓oInvV, ↓oInvI, ↓oFail, ↓oAcEq, ↓oGetE, ↓oAlenE, ↓oAastO, ↓oCopyL, ↓oCopyK, ↓oInvS8, ↓oLdcS, ↓oMmax, ↓oMmin, ↓oMabs, ↓oAlenE, ↓popI_I, ↓popL_L, ↓popR_R, ↓popS_I, ↓popS_R, ↓popN_0, ↓popN_s, ↓popT_0, ↓popT_1, ↓popT_2, ↓popT_3, ↓gI_0, ↓gI_s, ↓gL_0, ↓gL_s, ↓gR_0, ↓gR_s, ↓blk_s, ↓blk_0, goE_0, goE_1, goE_2, bst_0, bst_1, bst_2, TTf_e, st1_0, st1_1, st1_s, st2_0, st2_1, st2_s, jk_I, jk_R, jk_L, jk_J, mkT_0, mkT_1, mkT_2, mkT_3, sw_n, sw_c, nJ_n, nJ_I, nJ_L, nJ_R, stW_n, stW_I, stW_R, stW_L, true_and, and_true, Nat.reduceAdd, Nat.reduceLeDiff, Int.reduceAdd, up_at, Int.reduceEq, Int.reduceLE, Int.reduceLT, false_and, and_false, and_self, if_false, if_true, Int.reduceNeg, List.cons_append, List.nil_append, not_true_eq_false, not_false_eq_true, false_implies, true_implies, implies_true, true_or, or_true, false_or, or_false, ↓oIaldX, aL_law_467, aL_law_468, aL_law_469, aL_law_470, aL_law_471, aL_law_472, aL_law_473, aL_law_474, aL_law_475, aL_law_476, aL_law_477, aL_law_478, aL_law_481, aL_law_482, aL_law_483, aL_law_484, aL_law_485, aL_law_486, aL_law_487, aL_law_488, aL_law_489, aL_law_490, aL_law_491, aL_law_492, aL_law_495, aL_law_498, aL_law_499, aL_law_1718, aL_law_1721, m1, r9, e1, p1, q1, e2, p2, q2, e3, p3, q3, e4, p4, q4, e5, p5, q5, e6, t1, t2, t3, t4, t5]
  refine GG.of0 (m_says (d := d + 69) hmk1 ms1 iS (fun S2 g4 => ?_))
  refine TT.go zL_law 200 ?_
  simp only [↓oPush, ↓oIload, ↓oLload, ↓oRload, ↓oIstore, ↓oLstore, ↓oRstore, ↓oIinc, ↓oIadd, ↓oIsub, ↓oImul, ↓oIand, ↓oIor, ↓oIshl, ↓oIshr, ↓oIushr, ↓oIdiv, ↓oIrem, ↓oIneg, ↓oLadd, ↓oLmul, ↓oLand, ↓oLor, ↓oLxor, ↓oLshl, ↓oLshr, ↓oLushr, ↓oLcmp, ↓oI2l, ↓oL2i, ↓oI2b, ↓oI2s, ↓oDup, ↓oPop, ↓oDupx1, ↓oDupx2, ↓oDup2, ↓oGoto, ↓oIfEq, ↓oIfNe, ↓oIfLt, ↓oIfGe, ↓oIfGt, ↓oIfLe, ↓oIcEq, ↓oIcNe, ↓oIcLt, ↓oIcGe, ↓oIcGt, ↓oIcLe, ↓oIfnull, ↓oIfnonnull, ↓oSwitch, ↓oGetf, ↓oPutf, ↓oNew, ↓oNewa, ↓oAlen, ↓oIald, ↓oLald, ↓oZald, ↓oAald, ↓oIast, ↓oLast, ↓oZast, ↓oAast, ↓oCast, ↓oObji, ↓oRetI, ↓oRetZ, ↓oRetL, ↓oRetA, ↓oRetV, ↓oInvS, ↓oInvV, ↓oInvI, ↓oFail, ↓oAcEq, ↓oGetE, ↓oAlenE, ↓oAastO, ↓oCopyL, ↓oCopyK, ↓oInvS8, ↓oLdcS, ↓oMmax, ↓oMmin, ↓oMabs, ↓oAlenE, ↓popI_I, ↓popL_L, ↓popR_R, ↓popS_I, ↓popS_R, ↓popN_0, ↓popN_s, ↓popT_0, ↓popT_1, ↓popT_2, ↓popT_3, ↓gI_0, ↓gI_s, ↓gL_0, ↓gL_s, ↓gR_0, ↓gR_s, ↓blk_s, ↓blk_0, goE_0, goE_1, goE_2, bst_0, bst_1, bst_2, TTf_e, st1_0, st1_1, st1_s, st2_0, st2_1, st2_s, jk_I, jk_R, jk_L, jk_J, mkT_0, mkT_1, mkT_2, mkT_3, sw_n, sw_c, nJ_n, nJ_I, nJ_L, nJ_R, stW_n, stW_I, stW_R, stW_L, true_and, and_true, Nat.reduceAdd, Nat.reduceLeDiff, Int.reduceAdd, up_at, Int.reduceEq, Int.reduceLE, Int.reduceLT, false_and, and_false, and_self, if_false, if_true, Int.reduceNeg, List.cons_append, List.nil_append, not_true_eq_false, not_false_eq_true, false_implies, true_implies, implies_true, true_or, or_true, false_or, or_false, ↓oIaldX, aL_law_467, aL_law_468, aL_law_469, aL_law_470, aL_law_471, aL_law_472, aL_law_473, aL_law_474, aL_law_475, aL_law_476, aL_law_477, aL_law_478, aL_law_481, aL_law_482, aL_law_483, aL_law_484, aL_law_485, aL_law_486, aL_law_487, aL_law_488, aL_law_489, aL_law_490, aL_law_491, aL_law_492, aL_law_495, aL_law_498, aL_law_499, aL_law_1718, aL_law_1721, m1, r9, e1, p1, q1, e2, p2, q2, e3, p3, q3, e4, p4, q4, e5, p5, q5, e6, t1, t2, t3, t4, t5]
  exact hgo _ _ _ _ _ _ (by omega) (by omega) (LI_next h g1 hmk1 r9 g3 g4 (Iv_says hI) hO)
set_option maxRecDepth 20000 in
theorem lw_c7 {d : Nat} {L i : Int} {T : Int → Int} {μ : ST} {R : RT} {K : KT} {S : ST} {cb nb : Nat} {Q : QF} (h : LI L T μ R K S) (hL : 0 ≤ L ∧ L ≤ 3072) (hT : ∀ j, 0 ≤ j → j < L → in32 (T j)) (hi : 0 ≤ i ∧ i + 6 ≤ L) (hc : 8 ≤ cb) (hn : 200 ≤ nb) (hgo : ∀ μ' R' K' S' cb' nb', cb ≤ cb' + 8 → nb ≤ nb' + 200 → LI L T μ' R' K' S' → TT mL_law (d + 72) 18 [vR 9, vR 1, vR 1000, vI (i + 6)] [] K' S' cb' nb' Q) : TT mL_law (d + 72) 500 [vR 9, vR 1, vR 1000, vI i] [] K S cb nb Q := by
  obtain ⟨hrc, hms, hmk, hI, hO, h9, hs⟩ := id h
  obtain ⟨⟨i0, iS, iA, iP, iF, iK, iU, iR⟩, iC⟩ := id hI
  have e1 : w32 (i + 1) = i + 1 := w32_id (by unfold in32; omega)
  have e2 : w32 (i + 2) = i + 2 := w32_id (by unfold in32; omega)
  have e3 : w32 (i + 3) = i + 3 := w32_id (by unfold in32; omega)
  have e4 : w32 (i + 4) = i + 4 := w32_id (by unfold in32; omega)
  have e5 : w32 (i + 5) = i + 5 := w32_id (by unfold in32; omega)
  have e6 : w32 (i + 6) = i + 6 := w32_id (by unfold in32; omega)
  have p1 : (0 ≤ i + 1) = True := eq_true (by omega)
  have q1 : (i + 1 < L) = True := eq_true (by omega)
  have s1 := hs (i + 1) (by omega) (by omega)
  have p2 : (0 ≤ i + 2) = True := eq_true (by omega)
  have q2 : (i + 2 < L) = True := eq_true (by omega)
  have s2 := hs (i + 2) (by omega) (by omega)
  have p3 : (0 ≤ i + 3) = True := eq_true (by omega)
  have q3 : (i + 3 < L) = True := eq_true (by omega)
  have s3 := hs (i + 3) (by omega) (by omega)
  have p4 : (0 ≤ i + 4) = True := eq_true (by omega)
  have q4 : (i + 4 < L) = True := eq_true (by omega)
  have s4 := hs (i + 4) (by omega) (by omega)
  have p5 : (0 ≤ i + 5) = True := eq_true (by omega)
  have q5 : (i + 5 < L) = True := eq_true (by omega)
  have s5 := hs (i + 5) (by omega) (by omega)
  have k1 := CK_1 hrc.1
  refine TT.go zL_law 200 ?_
  simp only [↓oPush, ↓oIload, ↓oLload, ↓oRload, ↓oIstore, ↓oLstore, ↓oRstore, ↓oIinc, ↓oIadd, ↓oIsub, ↓oImul, ↓oIand, ↓oIor, ↓oIshl, ↓oIshr, ↓oIushr, ↓oIdiv, ↓oIrem, ↓oIneg, ↓oLadd, ↓oLmul, ↓oLand, ↓oLor, ↓oLxor, ↓oLshl, ↓oLshr, ↓oLushr, ↓oLcmp, ↓oI2l, ↓oL2i, ↓oI2b, ↓oI2s, ↓oDup, ↓oPop, ↓oDupx1, ↓oDupx2, ↓oDup2, ↓oGoto, ↓oIfEq, ↓oIfNe, ↓oIfLt, ↓oIfGe, ↓oIfGt, ↓oIfLe, ↓oIcEq, ↓oIcNe, ↓oIcLt, ↓oIcGe, ↓oIcGt, ↓oIcLe, ↓oIfnull, ↓oIfnonnull, ↓oSwitch, ↓oGetf, ↓oPutf, ↓oNew, ↓oNewa, ↓oAlen, ↓oIald, ↓oLald, ↓oZald, ↓oAald, ↓oIast, ↓oLast, ↓oZast, ↓oAast, ↓oCast, ↓oObji, ↓oRetI, ↓oRetZ, ↓oRetL, ↓oRetA, ↓oRetV, ↓oInvS, ↓oInvV, ↓oInvI, ↓oFail, ↓oAcEq, ↓oGetE, ↓oAlenE, ↓oAastO, ↓oCopyL, ↓oCopyK, ↓oInvS8, ↓oLdcS, ↓oMmax, ↓oMmin, ↓oMabs, ↓oAlenE, ↓popI_I, ↓popL_L, ↓popR_R, ↓popS_I, ↓popS_R, ↓popN_0, ↓popN_s, ↓popT_0, ↓popT_1, ↓popT_2, ↓popT_3, ↓gI_0, ↓gI_s, ↓gL_0, ↓gL_s, ↓gR_0, ↓gR_s, ↓blk_s, ↓blk_0, goE_0, goE_1, goE_2, bst_0, bst_1, bst_2, TTf_e, st1_0, st1_1, st1_s, st2_0, st2_1, st2_s, jk_I, jk_R, jk_L, jk_J, mkT_0, mkT_1, mkT_2, mkT_3, sw_n, sw_c, nJ_n, nJ_I, nJ_L, nJ_R, stW_n, stW_I, stW_R, stW_L, true_and, and_true, Nat.reduceAdd, Nat.reduceLeDiff, Int.reduceAdd, up_at, Int.reduceEq, Int.reduceLE, Int.reduceLT, false_and, and_false, and_self, if_false, if_true, Int.reduceNeg, List.cons_append, List.nil_append, not_true_eq_false, not_false_eq_true, false_implies, true_implies, implies_true, true_or, or_true, false_or, or_false, ↓oIaldX, aL_law_500, aL_law_501, aL_law_502, aL_law_503, aL_law_504, aL_law_505, aL_law_506, aL_law_507, aL_law_508, aL_law_509, aL_law_510, aL_law_511, aL_law_512, aL_law_513, aL_law_514, aL_law_515, aL_law_516, aL_law_519, aL_law_520, aL_law_521, aL_law_522, aL_law_523, aL_law_524, aL_law_525, aL_law_526, aL_law_527, aL_law_528, aL_law_529, aL_law_530, aL_law_531, aL_law_532, aL_law_533, aL_law_534, aL_law_535, aL_law_538, aL_law_541, aL_law_542, aL_law_1718, aL_law_1721, k1, h9, e1, p1, q1, e2, p2, q2, e3, p3, q3, e4, p4, q4, e5, p5, q5, e6, s1, s2, s3, s4, s5]
  refine GG.of (mc := 8) (ms := 200) (by omega) (by omega) (Mt.scr h9 (c_advert (d := d + 62) hrc iS iA iC i0 (fun K1 S1 g1 g2 gk r9 g3 => ?_)))
  have hmk1 := MK_out hmk gk
  have ms1 := MS_out hms g2
  have m1 := MK_o hmk1
  have t1 := (g3 (i + 1) (by omega) (by omega)).trans s1
  have t2 := (g3 (i + 2) (by omega) (by omega)).trans s2
  have t3 := (g3 (i + 3) (by omega) (by omega)).trans s3
  have t4 := (g3 (i + 4) (by omega) (by omega)).trans s4
  have t5 := (g3 (i + 5) (by omega) (by omega)).trans s5
  refine TT.go zL_law 200 ?_
  simp only [↓oPush, ↓oIload, ↓oLload, ↓oRload, ↓oIstore, ↓oLstore, ↓oRstore, ↓oIinc, ↓oIadd, ↓oIsub, ↓oImul, ↓oIand, ↓oIor, ↓oIshl, ↓oIshr, ↓oIushr, ↓oIdiv, ↓oIrem, ↓oIneg, ↓oLadd, ↓oLmul, ↓oLand, ↓oLor, ↓oLxor, ↓oLshl, ↓oLshr, ↓oLushr, ↓oLcmp, ↓oI2l, ↓oL2i, ↓oI2b, ↓oI2s, ↓oDup, ↓oPop, ↓oDupx1, ↓oDupx2, ↓oDup2, ↓oGoto, ↓oIfEq, ↓oIfNe, ↓oIfLt, ↓oIfGe, ↓oIfGt, ↓oIfLe, ↓oIcEq, ↓oIcNe, ↓oIcLt, ↓oIcGe, ↓oIcGt, ↓oIcLe, ↓oIfnull, ↓oIfnonnull, ↓oSwitch, ↓oGetf, ↓oPutf, ↓oNew, ↓oNewa, ↓oAlen, ↓oIald, ↓oLald, ↓oZald, ↓oAald, ↓oIast, ↓oLast, ↓oZast, ↓oAast, ↓oCast, ↓oObji, ↓oRetI, ↓oRetZ, ↓oRetL, ↓oRetA, ↓oRetV, ↓oInvS, ↓oInvV, ↓oInvI, ↓oFail, ↓oAcEq, ↓oGetE, ↓oAlenE, ↓oAastO, ↓oCopyL, ↓oCopyK, ↓oInvS8, ↓oLdcS, ↓oMmax, ↓oMmin, ↓oMabs, ↓oAlenE, ↓popI_I, ↓popL_L, ↓popR_R, ↓popS_I, ↓popS_R, ↓popN_0, ↓popN_s, ↓popT_0, ↓popT_1, ↓popT_2, ↓popT_3, ↓gI_0, ↓gI_s, ↓gL_0, ↓gL_s, ↓gR_0, ↓gR_s, ↓blk_s, ↓blk_0, goE_0, goE_1, goE_2, bst_0, bst_1, bst_2, TTf_e, st1_0, st1_1, st1_s, st2_0, st2_1, st2_s, jk_I, jk_R, jk_L, jk_J, mkT_0, mkT_1, mkT_2, mkT_3, sw_n, sw_c, nJ_n, nJ_I, nJ_L, nJ_R, stW_n, stW_I, stW_R, stW_L, true_and, and_true, Nat.reduceAdd, Nat.reduceLeDiff, Int.reduceAdd, up_at, Int.reduceEq, Int.reduceLE, Int.reduceLT, false_and, and_false, and_self, if_false, if_true, Int.reduceNeg, List.cons_append, List.nil_append, not_true_eq_false, not_false_eq_true, false_implies, true_implies, implies_true, true_or, or_true, false_or, or_false, ↓oIaldX, aL_law_500, aL_law_501, aL_law_502, aL_law_503, aL_law_504, aL_law_505, aL_law_506, aL_law_507, aL_law_508, aL_law_509, aL_law_510, aL_law_511, aL_law_512, aL_law_513, aL_law_514, aL_law_515, aL_law_516, aL_law_519, aL_law_520, aL_law_521, aL_law_522, aL_law_523, aL_law_524, aL_law_525, aL_law_526, aL_law_527, aL_law_528, aL_law_529, aL_law_530, aL_law_531, aL_law_532, aL_law_533, aL_law_534, aL_law_535, aL_law_538, aL_law_541, aL_law_542, aL_law_1718, aL_law_1721, m1, r9, e1, p1, q1, e2, p2, q2, e3, p3, q3, e4, p4, q4, e5, p5, q5, e6, t1, t2, t3, t4, t5]
  refine GG.of0 (m_advert (d := d + 68) hmk1 ms1 i0 iS (fun S2 g4 => ?_))
  refine TT.go zL_law 200 ?_
  simp only [↓oPush, ↓oIload, ↓oLload, ↓oRload, ↓oIstore, ↓oLstore, ↓oRstore, ↓oIinc, ↓oIadd, ↓oIsub, ↓oImul, ↓oIand, ↓oIor, ↓oIshl, ↓oIshr, ↓oIushr, ↓oIdiv, ↓oIrem, ↓oIneg, ↓oLadd, ↓oLmul, ↓oLand, ↓oLor, ↓oLxor, ↓oLshl, ↓oLshr, ↓oLushr, ↓oLcmp, ↓oI2l, ↓oL2i, ↓oI2b, ↓oI2s, ↓oDup, ↓oPop, ↓oDupx1, ↓oDupx2, ↓oDup2, ↓oGoto, ↓oIfEq, ↓oIfNe, ↓oIfLt, ↓oIfGe, ↓oIfGt, ↓oIfLe, ↓oIcEq, ↓oIcNe, ↓oIcLt, ↓oIcGe, ↓oIcGt, ↓oIcLe, ↓oIfnull, ↓oIfnonnull, ↓oSwitch, ↓oGetf, ↓oPutf, ↓oNew, ↓oNewa, ↓oAlen, ↓oIald, ↓oLald, ↓oZald, ↓oAald, ↓oIast, ↓oLast, ↓oZast, ↓oAast, ↓oCast, ↓oObji, ↓oRetI, ↓oRetZ, ↓oRetL, ↓oRetA, ↓oRetV, ↓oInvS, ↓oInvV, ↓oInvI, ↓oFail, ↓oAcEq, ↓oGetE, ↓oAlenE, ↓oAastO, ↓oCopyL, ↓oCopyK, ↓oInvS8, ↓oLdcS, ↓oMmax, ↓oMmin, ↓oMabs, ↓oAlenE, ↓popI_I, ↓popL_L, ↓popR_R, ↓popS_I, ↓popS_R, ↓popN_0, ↓popN_s, ↓popT_0, ↓popT_1, ↓popT_2, ↓popT_3, ↓gI_0, ↓gI_s, ↓gL_0, ↓gL_s, ↓gR_0, ↓gR_s, ↓blk_s, ↓blk_0, goE_0, goE_1, goE_2, bst_0, bst_1, bst_2, TTf_e, st1_0, st1_1, st1_s, st2_0, st2_1, st2_s, jk_I, jk_R, jk_L, jk_J, mkT_0, mkT_1, mkT_2, mkT_3, sw_n, sw_c, nJ_n, nJ_I, nJ_L, nJ_R, stW_n, stW_I, stW_R, stW_L, true_and, and_true, Nat.reduceAdd, Nat.reduceLeDiff, Int.reduceAdd, up_at, Int.reduceEq, Int.reduceLE, Int.reduceLT, false_and, and_false, and_self, if_false, if_true, Int.reduceNeg, List.cons_append, List.nil_append, not_true_eq_false, not_false_eq_true, false_implies, true_implies, implies_true, true_or, or_true, false_or, or_false, ↓oIaldX, aL_law_500, aL_law_501, aL_law_502, aL_law_503, aL_law_504, aL_law_505, aL_law_506, aL_law_507, aL_law_508, aL_law_509, aL_law_510, aL_law_511, aL_law_512, aL_law_513, aL_law_514, aL_law_515, aL_law_516, aL_law_519, aL_law_520, aL_law_521, aL_law_522, aL_law_523, aL_law_524, aL_law_525, aL_law_526, aL_law_527, aL_law_528, aL_law_529, aL_law_530, aL_law_531, aL_law_532, aL_law_533, aL_law_534, aL_law_535, aL_law_538, aL_law_541, aL_law_542, aL_law_1718, aL_law_1721, m1, r9, e1, p1, q1, e2, p2, q2, e3, p3, q3, e4, p4, q4, e5, p5, q5, e6, t1, t2, t3, t4, t5]
  exact hgo _ _ _ _ _ _ (by omega) (by omega) (LI_next h g1 hmk1 r9 g3 g4 (Iv_advert hI) hO)
set_option maxRecDepth 20000 in
theorem lw_c8 {d : Nat} {L i : Int} {T : Int → Int} {μ : ST} {R : RT} {K : KT} {S : ST} {cb nb : Nat} {Q : QF} (h : LI L T μ R K S) (hL : 0 ≤ L ∧ L ≤ 3072) (hT : ∀ j, 0 ≤ j → j < L → in32 (T j)) (hi : 0 ≤ i ∧ i + 6 ≤ L) (hc : 8 ≤ cb) (hn : 200 ≤ nb) (hgo : ∀ μ' R' K' S' cb' nb', cb ≤ cb' + 8 → nb ≤ nb' + 200 → LI L T μ' R' K' S' → TT mL_law (d + 72) 18 [vR 9, vR 1, vR 1000, vI (i + 6)] [] K' S' cb' nb' Q) : TT mL_law (d + 72) 543 [vR 9, vR 1, vR 1000, vI i] [] K S cb nb Q := by
  obtain ⟨hrc, hms, hmk, hI, hO, h9, hs⟩ := id h
  obtain ⟨⟨i0, iS, iA, iP, iF, iK, iU, iR⟩, iC⟩ := id hI
  have e1 : w32 (i + 1) = i + 1 := w32_id (by unfold in32; omega)
  have e2 : w32 (i + 2) = i + 2 := w32_id (by unfold in32; omega)
  have e3 : w32 (i + 3) = i + 3 := w32_id (by unfold in32; omega)
  have e4 : w32 (i + 4) = i + 4 := w32_id (by unfold in32; omega)
  have e5 : w32 (i + 5) = i + 5 := w32_id (by unfold in32; omega)
  have e6 : w32 (i + 6) = i + 6 := w32_id (by unfold in32; omega)
  have p1 : (0 ≤ i + 1) = True := eq_true (by omega)
  have q1 : (i + 1 < L) = True := eq_true (by omega)
  have s1 := hs (i + 1) (by omega) (by omega)
  have p2 : (0 ≤ i + 2) = True := eq_true (by omega)
  have q2 : (i + 2 < L) = True := eq_true (by omega)
  have s2 := hs (i + 2) (by omega) (by omega)
  have p3 : (0 ≤ i + 3) = True := eq_true (by omega)
  have q3 : (i + 3 < L) = True := eq_true (by omega)
  have s3 := hs (i + 3) (by omega) (by omega)
  have p4 : (0 ≤ i + 4) = True := eq_true (by omega)
  have q4 : (i + 4 < L) = True := eq_true (by omega)
  have s4 := hs (i + 4) (by omega) (by omega)
  have p5 : (0 ≤ i + 5) = True := eq_true (by omega)
  have q5 : (i + 5 < L) = True := eq_true (by omega)
  have s5 := hs (i + 5) (by omega) (by omega)
  have k1 := CK_1 hrc.1
  refine TT.go zL_law 200 ?_
  simp only [↓oPush, ↓oIload, ↓oLload, ↓oRload, ↓oIstore, ↓oLstore, ↓oRstore, ↓oIinc, ↓oIadd, ↓oIsub, ↓oImul, ↓oIand, ↓oIor, ↓oIshl, ↓oIshr, ↓oIushr, ↓oIdiv, ↓oIrem, ↓oIneg, ↓oLadd, ↓oLmul, ↓oLand, ↓oLor, ↓oLxor, ↓oLshl, ↓oLshr, ↓oLushr, ↓oLcmp, ↓oI2l, ↓oL2i, ↓oI2b, ↓oI2s, ↓oDup, ↓oPop, ↓oDupx1, ↓oDupx2, ↓oDup2, ↓oGoto, ↓oIfEq, ↓oIfNe, ↓oIfLt, ↓oIfGe, ↓oIfGt, ↓oIfLe, ↓oIcEq, ↓oIcNe, ↓oIcLt, ↓oIcGe, ↓oIcGt, ↓oIcLe, ↓oIfnull, ↓oIfnonnull, ↓oSwitch, ↓oGetf, ↓oPutf, ↓oNew, ↓oNewa, ↓oAlen, ↓oIald, ↓oLald, ↓oZald, ↓oAald, ↓oIast, ↓oLast, ↓oZast, ↓oAast, ↓oCast, ↓oObji, ↓oRetI, ↓oRetZ, ↓oRetL, ↓oRetA, ↓oRetV, ↓oInvS, ↓oInvV, ↓oInvI, ↓oFail, ↓oAcEq, ↓oGetE, ↓oAlenE, ↓oAastO, ↓oCopyL, ↓oCopyK, ↓oInvS8, ↓oLdcS, ↓oMmax, ↓oMmin, ↓oMabs, ↓oAlenE, ↓popI_I, ↓popL_L, ↓popR_R, ↓popS_I, ↓popS_R, ↓popN_0, ↓popN_s, ↓popT_0, ↓popT_1, ↓popT_2, ↓popT_3, ↓gI_0, ↓gI_s, ↓gL_0, ↓gL_s, ↓gR_0, ↓gR_s, ↓blk_s, ↓blk_0, goE_0, goE_1, goE_2, bst_0, bst_1, bst_2, TTf_e, st1_0, st1_1, st1_s, st2_0, st2_1, st2_s, jk_I, jk_R, jk_L, jk_J, mkT_0, mkT_1, mkT_2, mkT_3, sw_n, sw_c, nJ_n, nJ_I, nJ_L, nJ_R, stW_n, stW_I, stW_R, stW_L, true_and, and_true, Nat.reduceAdd, Nat.reduceLeDiff, Int.reduceAdd, up_at, Int.reduceEq, Int.reduceLE, Int.reduceLT, false_and, and_false, and_self, if_false, if_true, Int.reduceNeg, List.cons_append, List.nil_append, not_true_eq_false, not_false_eq_true, false_implies, true_implies, implies_true, true_or, or_true, false_or, or_false, ↓oIaldX, aL_law_543, aL_law_544, aL_law_545, aL_law_546, aL_law_547, aL_law_548, aL_law_549, aL_law_550, aL_law_551, aL_law_552, aL_law_553, aL_law_554, aL_law_555, aL_law_556, aL_law_557, aL_law_558, aL_law_559, aL_law_562, aL_law_563, aL_law_564, aL_law_565, aL_law_566, aL_law_567, aL_law_568, aL_law_569, aL_law_570, aL_law_571, aL_law_572, aL_law_573, aL_law_574, aL_law_575, aL_law_576, aL_law_577, aL_law_578, aL_law_581, aL_law_584, aL_law_585, aL_law_1718, aL_law_1721, k1, h9, e1, p1, q1, e2, p2, q2, e3, p3, q3, e4, p4, q4, e5, p5, q5, e6, s1, s2, s3, s4, s5]
  refine GG.of (mc := 1) (ms := 60) (by omega) (by omega) (Mt.scr h9 (c_print (d := d + 65) hrc iS iA (fun K1 S1 g1 g2 gk r9 g3 => ?_)))
  have hmk1 := MK_out hmk gk
  have ms1 := MS_out hms g2
  have m1 := MK_o hmk1
  have t1 := (g3 (i + 1) (by omega) (by omega)).trans s1
  have t2 := (g3 (i + 2) (by omega) (by omega)).trans s2
  have t3 := (g3 (i + 3) (by omega) (by omega)).trans s3
  have t4 := (g3 (i + 4) (by omega) (by omega)).trans s4
  have t5 := (g3 (i + 5) (by omega) (by omega)).trans s5
  refine TT.go zL_law 200 ?_
  simp only [↓oPush, ↓oIload, ↓oLload, ↓oRload, ↓oIstore, ↓oLstore, ↓oRstore, ↓oIinc, ↓oIadd, ↓oIsub, ↓oImul, ↓oIand, ↓oIor, ↓oIshl, ↓oIshr, ↓oIushr, ↓oIdiv, ↓oIrem, ↓oIneg, ↓oLadd, ↓oLmul, ↓oLand, ↓oLor, ↓oLxor, ↓oLshl, ↓oLshr, ↓oLushr, ↓oLcmp, ↓oI2l, ↓oL2i, ↓oI2b, ↓oI2s, ↓oDup, ↓oPop, ↓oDupx1, ↓oDupx2, ↓oDup2, ↓oGoto, ↓oIfEq, ↓oIfNe, ↓oIfLt, ↓oIfGe, ↓oIfGt, ↓oIfLe, ↓oIcEq, ↓oIcNe, ↓oIcLt, ↓oIcGe, ↓oIcGt, ↓oIcLe, ↓oIfnull, ↓oIfnonnull, ↓oSwitch, ↓oGetf, ↓oPutf, ↓oNew, ↓oNewa, ↓oAlen, ↓oIald, ↓oLald, ↓oZald, ↓oAald, ↓oIast, ↓oLast, ↓oZast, ↓oAast, ↓oCast, ↓oObji, ↓oRetI, ↓oRetZ, ↓oRetL, ↓oRetA, ↓oRetV, ↓oInvS, ↓oInvV, ↓oInvI, ↓oFail, ↓oAcEq, ↓oGetE, ↓oAlenE, ↓oAastO, ↓oCopyL, ↓oCopyK, ↓oInvS8, ↓oLdcS, ↓oMmax, ↓oMmin, ↓oMabs, ↓oAlenE, ↓popI_I, ↓popL_L, ↓popR_R, ↓popS_I, ↓popS_R, ↓popN_0, ↓popN_s, ↓popT_0, ↓popT_1, ↓popT_2, ↓popT_3, ↓gI_0, ↓gI_s, ↓gL_0, ↓gL_s, ↓gR_0, ↓gR_s, ↓blk_s, ↓blk_0, goE_0, goE_1, goE_2, bst_0, bst_1, bst_2, TTf_e, st1_0, st1_1, st1_s, st2_0, st2_1, st2_s, jk_I, jk_R, jk_L, jk_J, mkT_0, mkT_1, mkT_2, mkT_3, sw_n, sw_c, nJ_n, nJ_I, nJ_L, nJ_R, stW_n, stW_I, stW_R, stW_L, true_and, and_true, Nat.reduceAdd, Nat.reduceLeDiff, Int.reduceAdd, up_at, Int.reduceEq, Int.reduceLE, Int.reduceLT, false_and, and_false, and_self, if_false, if_true, Int.reduceNeg, List.cons_append, List.nil_append, not_true_eq_false, not_false_eq_true, false_implies, true_implies, implies_true, true_or, or_true, false_or, or_false, ↓oIaldX, aL_law_543, aL_law_544, aL_law_545, aL_law_546, aL_law_547, aL_law_548, aL_law_549, aL_law_550, aL_law_551, aL_law_552, aL_law_553, aL_law_554, aL_law_555, aL_law_556, aL_law_557, aL_law_558, aL_law_559, aL_law_562, aL_law_563, aL_law_564, aL_law_565, aL_law_566, aL_law_567, aL_law_568, aL_law_569, aL_law_570, aL_law_571, aL_law_572, aL_law_573, aL_law_574, aL_law_575, aL_law_576, aL_law_577, aL_law_578, aL_law_581, aL_law_584, aL_law_585, aL_law_1718, aL_law_1721, m1, r9, e1, p1, q1, e2, p2, q2, e3, p3, q3, e4, p4, q4, e5, p5, q5, e6, t1, t2, t3, t4, t5]
  refine GG.of0 (m_print (d := d + 68) hmk1 ms1 i0 iS (fun S2 g4 => ?_))
  refine TT.go zL_law 200 ?_
  simp only [↓oPush, ↓oIload, ↓oLload, ↓oRload, ↓oIstore, ↓oLstore, ↓oRstore, ↓oIinc, ↓oIadd, ↓oIsub, ↓oImul, ↓oIand, ↓oIor, ↓oIshl, ↓oIshr, ↓oIushr, ↓oIdiv, ↓oIrem, ↓oIneg, ↓oLadd, ↓oLmul, ↓oLand, ↓oLor, ↓oLxor, ↓oLshl, ↓oLshr, ↓oLushr, ↓oLcmp, ↓oI2l, ↓oL2i, ↓oI2b, ↓oI2s, ↓oDup, ↓oPop, ↓oDupx1, ↓oDupx2, ↓oDup2, ↓oGoto, ↓oIfEq, ↓oIfNe, ↓oIfLt, ↓oIfGe, ↓oIfGt, ↓oIfLe, ↓oIcEq, ↓oIcNe, ↓oIcLt, ↓oIcGe, ↓oIcGt, ↓oIcLe, ↓oIfnull, ↓oIfnonnull, ↓oSwitch, ↓oGetf, ↓oPutf, ↓oNew, ↓oNewa, ↓oAlen, ↓oIald, ↓oLald, ↓oZald, ↓oAald, ↓oIast, ↓oLast, ↓oZast, ↓oAast, ↓oCast, ↓oObji, ↓oRetI, ↓oRetZ, ↓oRetL, ↓oRetA, ↓oRetV, ↓oInvS, ↓oInvV, ↓oInvI, ↓oFail, ↓oAcEq, ↓oGetE, ↓oAlenE, ↓oAastO, ↓oCopyL, ↓oCopyK, ↓oInvS8, ↓oLdcS, ↓oMmax, ↓oMmin, ↓oMabs, ↓oAlenE, ↓popI_I, ↓popL_L, ↓popR_R, ↓popS_I, ↓popS_R, ↓popN_0, ↓popN_s, ↓popT_0, ↓popT_1, ↓popT_2, ↓popT_3, ↓gI_0, ↓gI_s, ↓gL_0, ↓gL_s, ↓gR_0, ↓gR_s, ↓blk_s, ↓blk_0, goE_0, goE_1, goE_2, bst_0, bst_1, bst_2, TTf_e, st1_0, st1_1, st1_s, st2_0, st2_1, st2_s, jk_I, jk_R, jk_L, jk_J, mkT_0, mkT_1, mkT_2, mkT_3, sw_n, sw_c, nJ_n, nJ_I, nJ_L, nJ_R, stW_n, stW_I, stW_R, stW_L, true_and, and_true, Nat.reduceAdd, Nat.reduceLeDiff, Int.reduceAdd, up_at, Int.reduceEq, Int.reduceLE, Int.reduceLT, false_and, and_false, and_self, if_false, if_true, Int.reduceNeg, List.cons_append, List.nil_append, not_true_eq_false, not_false_eq_true, false_implies, true_implies, implies_true, true_or, or_true, false_or, or_false, ↓oIaldX, aL_law_543, aL_law_544, aL_law_545, aL_law_546, aL_law_547, aL_law_548, aL_law_549, aL_law_550, aL_law_551, aL_law_552, aL_law_553, aL_law_554, aL_law_555, aL_law_556, aL_law_557, aL_law_558, aL_law_559, aL_law_562, aL_law_563, aL_law_564, aL_law_565, aL_law_566, aL_law_567, aL_law_568, aL_law_569, aL_law_570, aL_law_571, aL_law_572, aL_law_573, aL_law_574, aL_law_575, aL_law_576, aL_law_577, aL_law_578, aL_law_581, aL_law_584, aL_law_585, aL_law_1718, aL_law_1721, m1, r9, e1, p1, q1, e2, p2, q2, e3, p3, q3, e4, p4, q4, e5, p5, q5, e6, t1, t2, t3, t4, t5]
  exact hgo _ _ _ _ _ _ (by omega) (by omega) (LI_next h g1 hmk1 r9 g3 g4 (Iv_print hI) hO)
set_option maxRecDepth 20000 in
theorem lw_c9 {d : Nat} {L i : Int} {T : Int → Int} {μ : ST} {R : RT} {K : KT} {S : ST} {cb nb : Nat} {Q : QF} (h : LI L T μ R K S) (hL : 0 ≤ L ∧ L ≤ 3072) (hT : ∀ j, 0 ≤ j → j < L → in32 (T j)) (hi : 0 ≤ i ∧ i + 6 ≤ L) (hc : 8 ≤ cb) (hn : 200 ≤ nb) (hgo : ∀ μ' R' K' S' cb' nb', cb ≤ cb' + 8 → nb ≤ nb' + 200 → LI L T μ' R' K' S' → TT mL_law (d + 72) 18 [vR 9, vR 1, vR 1000, vI (i + 6)] [] K' S' cb' nb' Q) : TT mL_law (d + 72) 586 [vR 9, vR 1, vR 1000, vI i] [] K S cb nb Q := by
  obtain ⟨hrc, hms, hmk, hI, hO, h9, hs⟩ := id h
  obtain ⟨⟨i0, iS, iA, iP, iF, iK, iU, iR⟩, iC⟩ := id hI
  have e1 : w32 (i + 1) = i + 1 := w32_id (by unfold in32; omega)
  have e2 : w32 (i + 2) = i + 2 := w32_id (by unfold in32; omega)
  have e3 : w32 (i + 3) = i + 3 := w32_id (by unfold in32; omega)
  have e4 : w32 (i + 4) = i + 4 := w32_id (by unfold in32; omega)
  have e5 : w32 (i + 5) = i + 5 := w32_id (by unfold in32; omega)
  have e6 : w32 (i + 6) = i + 6 := w32_id (by unfold in32; omega)
  have p1 : (0 ≤ i + 1) = True := eq_true (by omega)
  have q1 : (i + 1 < L) = True := eq_true (by omega)
  have s1 := hs (i + 1) (by omega) (by omega)
  have p2 : (0 ≤ i + 2) = True := eq_true (by omega)
  have q2 : (i + 2 < L) = True := eq_true (by omega)
  have s2 := hs (i + 2) (by omega) (by omega)
  have p3 : (0 ≤ i + 3) = True := eq_true (by omega)
  have q3 : (i + 3 < L) = True := eq_true (by omega)
  have s3 := hs (i + 3) (by omega) (by omega)
  have p4 : (0 ≤ i + 4) = True := eq_true (by omega)
  have q4 : (i + 4 < L) = True := eq_true (by omega)
  have s4 := hs (i + 4) (by omega) (by omega)
  have p5 : (0 ≤ i + 5) = True := eq_true (by omega)
  have q5 : (i + 5 < L) = True := eq_true (by omega)
  have s5 := hs (i + 5) (by omega) (by omega)
  have k1 := CK_1 hrc.1
  refine TT.go zL_law 200 ?_
  simp only [↓oPush, ↓oIload, ↓oLload, ↓oRload, ↓oIstore, ↓oLstore, ↓oRstore, ↓oIinc, ↓oIadd, ↓oIsub, ↓oImul, ↓oIand, ↓oIor, ↓oIshl, ↓oIshr, ↓oIushr, ↓oIdiv, ↓oIrem, ↓oIneg, ↓oLadd, ↓oLmul, ↓oLand, ↓oLor, ↓oLxor, ↓oLshl, ↓oLshr, ↓oLushr, ↓oLcmp, ↓oI2l, ↓oL2i, ↓oI2b, ↓oI2s, ↓oDup, ↓oPop, ↓oDupx1, ↓oDupx2, ↓oDup2, ↓oGoto, ↓oIfEq, ↓oIfNe, ↓oIfLt, ↓oIfGe, ↓oIfGt, ↓oIfLe, ↓oIcEq, ↓oIcNe, ↓oIcLt, ↓oIcGe, ↓oIcGt, ↓oIcLe, ↓oIfnull, ↓oIfnonnull, ↓oSwitch, ↓oGetf, ↓oPutf, ↓oNew, ↓oNewa, ↓oAlen, ↓oIald, ↓oLald, ↓oZald, ↓oAald, ↓oIast, ↓oLast, ↓oZast, ↓oAast, ↓oCast, ↓oObji, ↓oRetI, ↓oRetZ, ↓oRetL, ↓oRetA, ↓oRetV, ↓oInvS, ↓oInvV, ↓oInvI, ↓oFail, ↓oAcEq, ↓oGetE, ↓oAlenE, ↓oAastO, ↓oCopyL, ↓oCopyK, ↓oInvS8, ↓oLdcS, ↓oMmax, ↓oMmin, ↓oMabs, ↓oAlenE, ↓popI_I, ↓popL_L, ↓popR_R, ↓popS_I, ↓popS_R, ↓popN_0, ↓popN_s, ↓popT_0, ↓popT_1, ↓popT_2, ↓popT_3, ↓gI_0, ↓gI_s, ↓gL_0, ↓gL_s, ↓gR_0, ↓gR_s, ↓blk_s, ↓blk_0, goE_0, goE_1, goE_2, bst_0, bst_1, bst_2, TTf_e, st1_0, st1_1, st1_s, st2_0, st2_1, st2_s, jk_I, jk_R, jk_L, jk_J, mkT_0, mkT_1, mkT_2, mkT_3, sw_n, sw_c, nJ_n, nJ_I, nJ_L, nJ_R, stW_n, stW_I, stW_R, stW_L, true_and, and_true, Nat.reduceAdd, Nat.reduceLeDiff, Int.reduceAdd, up_at, Int.reduceEq, Int.reduceLE, Int.reduceLT, false_and, and_false, and_self, if_false, if_true, Int.reduceNeg, List.cons_append, List.nil_append, not_true_eq_false, not_false_eq_true, false_implies, true_implies, implies_true, true_or, or_true, false_or, or_false, ↓oIaldX, aL_law_586, aL_law_587, aL_law_588, aL_law_589, aL_law_590, aL_law_591, aL_law_592, aL_law_593, aL_law_594, aL_law_595, aL_law_596, aL_law_597, aL_law_598, aL_law_599, aL_law_600, aL_law_601, aL_law_602, aL_law_605, aL_law_606, aL_law_607, aL_law_608, aL_law_609, aL_law_610, aL_law_611, aL_law_612, aL_law_613, aL_law_614, aL_law_615, aL_law_616, aL_law_617, aL_law_618, aL_law_619, aL_law_620, aL_law_621, aL_law_624, aL_law_627, aL_law_628, aL_law_1718, aL_law_1721, k1, h9, e1, p1, q1, e2, p2, q2, e3, p3, q3, e4, p4, q4, e5, p5, q5, e6, s1, s2, s3, s4, s5]
  refine GG.of0 (Mt.scr h9 (c_saw (d := d + 66) hrc iA (fun S1 g1 g2 r9 g3 => ?_)))
  have hmk1 := hmk
  have ms1 := MS_out hms g2
  have m1 := MK_o hmk1
  have t1 := (g3 (i + 1) (by omega) (by omega)).trans s1
  have t2 := (g3 (i + 2) (by omega) (by omega)).trans s2
  have t3 := (g3 (i + 3) (by omega) (by omega)).trans s3
  have t4 := (g3 (i + 4) (by omega) (by omega)).trans s4
  have t5 := (g3 (i + 5) (by omega) (by omega)).trans s5
  refine TT.go zL_law 200 ?_
  simp only [↓oPush, ↓oIload, ↓oLload, ↓oRload, ↓oIstore, ↓oLstore, ↓oRstore, ↓oIinc, ↓oIadd, ↓oIsub, ↓oImul, ↓oIand, ↓oIor, ↓oIshl, ↓oIshr, ↓oIushr, ↓oIdiv, ↓oIrem, ↓oIneg, ↓oLadd, ↓oLmul, ↓oLand, ↓oLor, ↓oLxor, ↓oLshl, ↓oLshr, ↓oLushr, ↓oLcmp, ↓oI2l, ↓oL2i, ↓oI2b, ↓oI2s, ↓oDup, ↓oPop, ↓oDupx1, ↓oDupx2, ↓oDup2, ↓oGoto, ↓oIfEq, ↓oIfNe, ↓oIfLt, ↓oIfGe, ↓oIfGt, ↓oIfLe, ↓oIcEq, ↓oIcNe, ↓oIcLt, ↓oIcGe, ↓oIcGt, ↓oIcLe, ↓oIfnull, ↓oIfnonnull, ↓oSwitch, ↓oGetf, ↓oPutf, ↓oNew, ↓oNewa, ↓oAlen, ↓oIald, ↓oLald, ↓oZald, ↓oAald, ↓oIast, ↓oLast, ↓oZast, ↓oAast, ↓oCast, ↓oObji, ↓oRetI, ↓oRetZ, ↓oRetL, ↓oRetA, ↓oRetV, ↓oInvS, ↓oInvV, ↓oInvI, ↓oFail, ↓oAcEq, ↓oGetE, ↓oAlenE, ↓oAastO, ↓oCopyL, ↓oCopyK, ↓oInvS8, ↓oLdcS, ↓oMmax, ↓oMmin, ↓oMabs, ↓oAlenE, ↓popI_I, ↓popL_L, ↓popR_R, ↓popS_I, ↓popS_R, ↓popN_0, ↓popN_s, ↓popT_0, ↓popT_1, ↓popT_2, ↓popT_3, ↓gI_0, ↓gI_s, ↓gL_0, ↓gL_s, ↓gR_0, ↓gR_s, ↓blk_s, ↓blk_0, goE_0, goE_1, goE_2, bst_0, bst_1, bst_2, TTf_e, st1_0, st1_1, st1_s, st2_0, st2_1, st2_s, jk_I, jk_R, jk_L, jk_J, mkT_0, mkT_1, mkT_2, mkT_3, sw_n, sw_c, nJ_n, nJ_I, nJ_L, nJ_R, stW_n, stW_I, stW_R, stW_L, true_and, and_true, Nat.reduceAdd, Nat.reduceLeDiff, Int.reduceAdd, up_at, Int.reduceEq, Int.reduceLE, Int.reduceLT, false_and, and_false, and_self, if_false, if_true, Int.reduceNeg, List.cons_append, List.nil_append, not_true_eq_false, not_false_eq_true, false_implies, true_implies, implies_true, true_or, or_true, false_or, or_false, ↓oIaldX, aL_law_586, aL_law_587, aL_law_588, aL_law_589, aL_law_590, aL_law_591, aL_law_592, aL_law_593, aL_law_594, aL_law_595, aL_law_596, aL_law_597, aL_law_598, aL_law_599, aL_law_600, aL_law_601, aL_law_602, aL_law_605, aL_law_606, aL_law_607, aL_law_608, aL_law_609, aL_law_610, aL_law_611, aL_law_612, aL_law_613, aL_law_614, aL_law_615, aL_law_616, aL_law_617, aL_law_618, aL_law_619, aL_law_620, aL_law_621, aL_law_624, aL_law_627, aL_law_628, aL_law_1718, aL_law_1721, m1, r9, e1, p1, q1, e2, p2, q2, e3, p3, q3, e4, p4, q4, e5, p5, q5, e6, t1, t2, t3, t4, t5]
  refine GG.of0 (m_saw (d := d + 69) hmk1 ms1 i0 iA (fun S2 g4 => ?_))
  refine TT.go zL_law 200 ?_
  simp only [↓oPush, ↓oIload, ↓oLload, ↓oRload, ↓oIstore, ↓oLstore, ↓oRstore, ↓oIinc, ↓oIadd, ↓oIsub, ↓oImul, ↓oIand, ↓oIor, ↓oIshl, ↓oIshr, ↓oIushr, ↓oIdiv, ↓oIrem, ↓oIneg, ↓oLadd, ↓oLmul, ↓oLand, ↓oLor, ↓oLxor, ↓oLshl, ↓oLshr, ↓oLushr, ↓oLcmp, ↓oI2l, ↓oL2i, ↓oI2b, ↓oI2s, ↓oDup, ↓oPop, ↓oDupx1, ↓oDupx2, ↓oDup2, ↓oGoto, ↓oIfEq, ↓oIfNe, ↓oIfLt, ↓oIfGe, ↓oIfGt, ↓oIfLe, ↓oIcEq, ↓oIcNe, ↓oIcLt, ↓oIcGe, ↓oIcGt, ↓oIcLe, ↓oIfnull, ↓oIfnonnull, ↓oSwitch, ↓oGetf, ↓oPutf, ↓oNew, ↓oNewa, ↓oAlen, ↓oIald, ↓oLald, ↓oZald, ↓oAald, ↓oIast, ↓oLast, ↓oZast, ↓oAast, ↓oCast, ↓oObji, ↓oRetI, ↓oRetZ, ↓oRetL, ↓oRetA, ↓oRetV, ↓oInvS, ↓oInvV, ↓oInvI, ↓oFail, ↓oAcEq, ↓oGetE, ↓oAlenE, ↓oAastO, ↓oCopyL, ↓oCopyK, ↓oInvS8, ↓oLdcS, ↓oMmax, ↓oMmin, ↓oMabs, ↓oAlenE, ↓popI_I, ↓popL_L, ↓popR_R, ↓popS_I, ↓popS_R, ↓popN_0, ↓popN_s, ↓popT_0, ↓popT_1, ↓popT_2, ↓popT_3, ↓gI_0, ↓gI_s, ↓gL_0, ↓gL_s, ↓gR_0, ↓gR_s, ↓blk_s, ↓blk_0, goE_0, goE_1, goE_2, bst_0, bst_1, bst_2, TTf_e, st1_0, st1_1, st1_s, st2_0, st2_1, st2_s, jk_I, jk_R, jk_L, jk_J, mkT_0, mkT_1, mkT_2, mkT_3, sw_n, sw_c, nJ_n, nJ_I, nJ_L, nJ_R, stW_n, stW_I, stW_R, stW_L, true_and, and_true, Nat.reduceAdd, Nat.reduceLeDiff, Int.reduceAdd, up_at, Int.reduceEq, Int.reduceLE, Int.reduceLT, false_and, and_false, and_self, if_false, if_true, Int.reduceNeg, List.cons_append, List.nil_append, not_true_eq_false, not_false_eq_true, false_implies, true_implies, implies_true, true_or, or_true, false_or, or_false, ↓oIaldX, aL_law_586, aL_law_587, aL_law_588, aL_law_589, aL_law_590, aL_law_591, aL_law_592, aL_law_593, aL_law_594, aL_law_595, aL_law_596, aL_law_597, aL_law_598, aL_law_599, aL_law_600, aL_law_601, aL_law_602, aL_law_605, aL_law_606, aL_law_607, aL_law_608, aL_law_609, aL_law_610, aL_law_611, aL_law_612, aL_law_613, aL_law_614, aL_law_615, aL_law_616, aL_law_617, aL_law_618, aL_law_619, aL_law_620, aL_law_621, aL_law_624, aL_law_627, aL_law_628, aL_law_1718, aL_law_1721, m1, r9, e1, p1, q1, e2, p2, q2, e3, p3, q3, e4, p4, q4, e5, p5, q5, e6, t1, t2, t3, t4, t5]
  exact hgo _ _ _ _ _ _ (by omega) (by omega) (LI_next h g1 hmk1 r9 g3 g4 (Iv_saw hI) hO)
