theorem dJ7_copyOf_6403c_0 : decode cJ7_copyOf_6403c 0 = .ok (.aload_n 2, 1) := by decide +kernel
theorem dJ7_copyOf_6403c_1 : decode cJ7_copyOf_6403c 1 = .ok (.ldc 110, 2) := by decide +kernel
theorem dJ7_copyOf_6403c_3 : decode cJ7_copyOf_6403c 3 = .ok (.if_acmp .ne 10, 3) := by decide +kernel
theorem dJ7_copyOf_1904c_9 : decode cJ7_copyOf_1904c 9 = .ok (.areturn, 1) := by decide +kernel
theorem dJ7_copyOf_1904c_0 : decode cJ7_copyOf_1904c 0 = .ok (.aload_n 0, 1) := by decide +kernel
theorem dJ7_copyOf_1904c_1 : decode cJ7_copyOf_1904c 1 = .ok (.iload_n 1, 1) := by decide +kernel
theorem dJ7_copyOf_1904c_2 : decode cJ7_copyOf_1904c 2 = .ok (.aload_n 0, 1) := by decide +kernel
theorem dJ7_copyOf_1904c_3 : decode cJ7_copyOf_1904c 3 = .ok (.invokevirtual 86, 3) := by decide +kernel
theorem dJ7_copyOf_1904c_6 : decode cJ7_copyOf_1904c 6 = .ok (.invokestatic 300, 3) := by decide +kernel
theorem w_2_153 : (Jvm.Cond.methodLink "java/util/Arrays" (86 : Nat) ({ cls := "java/lang/Object", name := "getClass", desc := "()Ljava/lang/Class;" } : Jvm.MethodName)) ∈ lwG := lwG_2 (List.mem_of_getElem? (i := 153) (by decide +kernel)) rfl
theorem w_2_154 : (Jvm.Cond.instanceMethod ({ cls := "java/lang/Object", name := "getClass", desc := "()Ljava/lang/Class;" } : Jvm.MethodName)) ∈ lwG := lwG_2 (List.mem_of_getElem? (i := 154) (by decide +kernel)) rfl
theorem w_2_170 : (Jvm.Cond.native ({ cls := "java/lang/Object", name := "getClass", desc := "()Ljava/lang/Class;" } : Jvm.MethodName)) ∈ lwG := lwG_2 (List.mem_of_getElem? (i := 170) (by decide +kernel)) rfl
theorem w_2_171 : (Jvm.Cond.methodLink "java/util/Arrays" (300 : Nat) ({ cls := "java/util/Arrays", name := "copyOf", desc := "([Ljava/lang/Object;ILjava/lang/Class;)[Ljava/lang/Object;" } : Jvm.MethodName)) ∈ lwG := lwG_2 (List.mem_of_getElem? (i := 171) (by decide +kernel)) rfl
theorem w_2_172 : (Jvm.Cond.static ({ cls := "java/util/Arrays", name := "copyOf", desc := "([Ljava/lang/Object;ILjava/lang/Class;)[Ljava/lang/Object;" } : Jvm.MethodName)) ∈ lwG := lwG_2 (List.mem_of_getElem? (i := 172) (by decide +kernel)) rfl
theorem w_2_174 : (Jvm.Cond.classLink "java/util/Arrays" (110 : Nat) "[Ljava/lang/Object;") ∈ lwG := lwG_2 (List.mem_of_getElem? (i := 174) (by decide +kernel)) rfl
theorem w_2_176 : (Jvm.Cond.classLink "java/util/Arrays" (2 : Nat) "java/lang/Object") ∈ lwG := lwG_2 (List.mem_of_getElem? (i := 176) (by decide +kernel)) rfl
theorem w_2_177 : (Jvm.Cond.methodLink "java/util/Arrays" (304 : Nat) ({ cls := "java/lang/Math", name := "min", desc := "(II)I" } : Jvm.MethodName)) ∈ lwG := lwG_2 (List.mem_of_getElem? (i := 177) (by decide +kernel)) rfl
theorem w_2_180 : (Jvm.Cond.methodLink "java/util/Arrays" (150 : Nat) ({ cls := "java/lang/System", name := "arraycopy", desc := "(Ljava/lang/Object;ILjava/lang/Object;II)V" } : Jvm.MethodName)) ∈ lwG := lwG_2 (List.mem_of_getElem? (i := 180) (by decide +kernel)) rfl
theorem w_7_220 : (Jvm.Cond.selects "[Ljava/lang/Object;" ({ cls := "java/lang/Object", name := "getClass", desc := "()Ljava/lang/Class;" } : Jvm.MethodName) ({ cls := "java/lang/Object", name := "getClass", desc := "()Ljava/lang/Class;" } : Jvm.MethodName)) ∈ lwG := lwG_7 (List.mem_of_getElem? (i := 220) (by decide +kernel)) rfl
/-! LISTS and the Math of the library -/
set_option maxRecDepth 20000 in
theorem m_chk3 {d : Nat} {i n f : Int} {K : KT} {S : ST} {Q : QF} (hi : 0 ≤ i ∧ i < n) (hq : Q [vI i] K S) : Mt (d + 1) 0 0 mJ3_checkIndex_8e157 [vI i, vI n, vR f] K S Q := by
  refine Mt_of_TT (by decide +kernel) (Nat.le_of_ble_eq_true rfl) ?_
  show TT mJ3_checkIndex_8e157 _ 0 [vI i, vI n, vR f] [] _ _ _ _ _
  refine TT.go zJ3_checkIndex_8e157 200 ?_
  simp only [↓oPush, ↓oIload, ↓oLload, ↓oRload, ↓oIstore, ↓oLstore, ↓oRstore, ↓oIinc, ↓oIadd, ↓oIsub, ↓oImul, ↓oIand, ↓oIor, ↓oIshl, ↓oIshr, ↓oIushr, ↓oIdiv, ↓oIrem, ↓oIneg, ↓oLadd, ↓oLmul, ↓oLand, ↓oLor, ↓oLxor, ↓oLshl, ↓oLshr, ↓oLushr, ↓oLcmp, ↓oI2l, ↓oL2i, ↓oI2b, ↓oI2s, ↓oDup, ↓oPop, ↓oDupx1, ↓oDupx2, ↓oDup2, ↓oGoto, ↓oIfEq, ↓oIfNe, ↓oIfLt, ↓oIfGe, ↓oIfGt, ↓oIfLe, ↓oIcEq, ↓oIcNe, ↓oIcLt, ↓oIcGe, ↓oIcGt, ↓oIcLe, ↓oIfnull, ↓oIfnonnull, ↓oSwitch, ↓oGetf, ↓oPutf, ↓oNew, ↓oNewa, ↓oAlen, ↓oIald, ↓oLald, ↓oZald, ↓oAald, ↓oIast, ↓oLast, ↓oZast, ↓oAast, ↓oCast, ↓oObji, ↓oRetI, ↓oRetZ, ↓oRetL, ↓oRetA, ↓oRetV, ↓oInvS, ↓oInvV, ↓oInvI, ↓oFail, ↓oAcEq, ↓oGetE, ↓oAlenE, ↓oAastO, ↓oCopyL, ↓oCopyK, ↓oInvS8, ↓oLdcS, ↓oMmax, ↓oMmin, ↓oMabs, ↓oAlenE, ↓popI_I, ↓popL_L, ↓popR_R, ↓popS_I, ↓popS_R, ↓popN_0, ↓popN_s, ↓popT_0, ↓popT_1, ↓popT_2, ↓popT_3, ↓gI_0, ↓gI_s, ↓gL_0, ↓gL_s, ↓gR_0, ↓gR_s, ↓blk_s, ↓blk_0, goE_0, goE_1, goE_2, bst_0, bst_1, bst_2, TTf_e, st1_0, st1_1, st1_s, st2_0, st2_1, st2_s, jk_I, jk_R, jk_L, jk_J, mkT_0, mkT_1, mkT_2, mkT_3, sw_n, sw_c, nJ_n, nJ_I, nJ_L, nJ_R, stW_n, stW_I, stW_R, stW_L, true_and, and_true, Nat.reduceAdd, Nat.reduceLeDiff, Int.reduceAdd, up_at, Int.reduceEq, Int.reduceLE, Int.reduceLT, false_and, and_false, and_self, if_false, if_true, Int.reduceNeg, List.cons_append, List.nil_append, not_true_eq_false, not_false_eq_true, false_implies, true_implies, implies_true, true_or, or_true, false_or, or_false, aJ3_checkIndex_8e157_0, aJ3_checkIndex_8e157_1, aJ3_checkIndex_8e157_4, aJ3_checkIndex_8e157_5, aJ3_checkIndex_8e157_6, aJ3_checkIndex_8e157_9, aJ3_checkIndex_8e157_10, aJ3_checkIndex_8e157_11, aJ3_checkIndex_8e157_12, aJ3_checkIndex_8e157_15, aJ3_checkIndex_8e157_16, aJ3_checkIndex_8e157_17]
  repeat' (first | refine And.intro ?_ ?_ | refine imp_i (fun _ => ?_))
  all_goals first | omega | exact hq
set_option maxRecDepth 20000 in
theorem m_chk2 {d : Nat} {i n : Int} {K : KT} {S : ST} {Q : QF} (hi : 0 ≤ i ∧ i < n) (hq : Q [vI i] K S) : Mt (d + 2) 0 0 mJ15_checkIndex_7cf53 [vI i, vI n] K S Q := by
  refine Mt_of_TT (by decide +kernel) (Nat.le_of_ble_eq_true rfl) ?_
  show TT mJ15_checkIndex_7cf53 _ 0 [vI i, vI n] [] _ _ _ _ _
  refine TT.go zJ15_checkIndex_7cf53 200 ?_
  simp only [↓oPush, ↓oIload, ↓oLload, ↓oRload, ↓oIstore, ↓oLstore, ↓oRstore, ↓oIinc, ↓oIadd, ↓oIsub, ↓oImul, ↓oIand, ↓oIor, ↓oIshl, ↓oIshr, ↓oIushr, ↓oIdiv, ↓oIrem, ↓oIneg, ↓oLadd, ↓oLmul, ↓oLand, ↓oLor, ↓oLxor, ↓oLshl, ↓oLshr, ↓oLushr, ↓oLcmp, ↓oI2l, ↓oL2i, ↓oI2b, ↓oI2s, ↓oDup, ↓oPop, ↓oDupx1, ↓oDupx2, ↓oDup2, ↓oGoto, ↓oIfEq, ↓oIfNe, ↓oIfLt, ↓oIfGe, ↓oIfGt, ↓oIfLe, ↓oIcEq, ↓oIcNe, ↓oIcLt, ↓oIcGe, ↓oIcGt, ↓oIcLe, ↓oIfnull, ↓oIfnonnull, ↓oSwitch, ↓oGetf, ↓oPutf, ↓oNew, ↓oNewa, ↓oAlen, ↓oIald, ↓oLald, ↓oZald, ↓oAald, ↓oIast, ↓oLast, ↓oZast, ↓oAast, ↓oCast, ↓oObji, ↓oRetI, ↓oRetZ, ↓oRetL, ↓oRetA, ↓oRetV, ↓oInvS, ↓oInvV, ↓oInvI, ↓oFail, ↓oAcEq, ↓oGetE, ↓oAlenE, ↓oAastO, ↓oCopyL, ↓oCopyK, ↓oInvS8, ↓oLdcS, ↓oMmax, ↓oMmin, ↓oMabs, ↓oAlenE, ↓popI_I, ↓popL_L, ↓popR_R, ↓popS_I, ↓popS_R, ↓popN_0, ↓popN_s, ↓popT_0, ↓popT_1, ↓popT_2, ↓popT_3, ↓gI_0, ↓gI_s, ↓gL_0, ↓gL_s, ↓gR_0, ↓gR_s, ↓blk_s, ↓blk_0, goE_0, goE_1, goE_2, bst_0, bst_1, bst_2, TTf_e, st1_0, st1_1, st1_s, st2_0, st2_1, st2_s, jk_I, jk_R, jk_L, jk_J, mkT_0, mkT_1, mkT_2, mkT_3, sw_n, sw_c, nJ_n, nJ_I, nJ_L, nJ_R, stW_n, stW_I, stW_R, stW_L, true_and, and_true, Nat.reduceAdd, Nat.reduceLeDiff, Int.reduceAdd, up_at, Int.reduceEq, Int.reduceLE, Int.reduceLT, false_and, and_false, and_self, if_false, if_true, Int.reduceNeg, List.cons_append, List.nil_append, not_true_eq_false, not_false_eq_true, false_implies, true_implies, implies_true, true_or, or_true, false_or, or_false, aJ15_checkIndex_7cf53_0, aJ15_checkIndex_7cf53_1, aJ15_checkIndex_7cf53_2, aJ15_checkIndex_7cf53_3, aJ15_checkIndex_7cf53_6]
  refine GG.of0 (m_chk3 hi ?_)
  refine TT.go zJ15_checkIndex_7cf53 200 ?_
  simp only [↓oPush, ↓oIload, ↓oLload, ↓oRload, ↓oIstore, ↓oLstore, ↓oRstore, ↓oIinc, ↓oIadd, ↓oIsub, ↓oImul, ↓oIand, ↓oIor, ↓oIshl, ↓oIshr, ↓oIushr, ↓oIdiv, ↓oIrem, ↓oIneg, ↓oLadd, ↓oLmul, ↓oLand, ↓oLor, ↓oLxor, ↓oLshl, ↓oLshr, ↓oLushr, ↓oLcmp, ↓oI2l, ↓oL2i, ↓oI2b, ↓oI2s, ↓oDup, ↓oPop, ↓oDupx1, ↓oDupx2, ↓oDup2, ↓oGoto, ↓oIfEq, ↓oIfNe, ↓oIfLt, ↓oIfGe, ↓oIfGt, ↓oIfLe, ↓oIcEq, ↓oIcNe, ↓oIcLt, ↓oIcGe, ↓oIcGt, ↓oIcLe, ↓oIfnull, ↓oIfnonnull, ↓oSwitch, ↓oGetf, ↓oPutf, ↓oNew, ↓oNewa, ↓oAlen, ↓oIald, ↓oLald, ↓oZald, ↓oAald, ↓oIast, ↓oLast, ↓oZast, ↓oAast, ↓oCast, ↓oObji, ↓oRetI, ↓oRetZ, ↓oRetL, ↓oRetA, ↓oRetV, ↓oInvS, ↓oInvV, ↓oInvI, ↓oFail, ↓oAcEq, ↓oGetE, ↓oAlenE, ↓oAastO, ↓oCopyL, ↓oCopyK, ↓oInvS8, ↓oLdcS, ↓oMmax, ↓oMmin, ↓oMabs, ↓oAlenE, ↓popI_I, ↓popL_L, ↓popR_R, ↓popS_I, ↓popS_R, ↓popN_0, ↓popN_s, ↓popT_0, ↓popT_1, ↓popT_2, ↓popT_3, ↓gI_0, ↓gI_s, ↓gL_0, ↓gL_s, ↓gR_0, ↓gR_s, ↓blk_s, ↓blk_0, goE_0, goE_1, goE_2, bst_0, bst_1, bst_2, TTf_e, st1_0, st1_1, st1_s, st2_0, st2_1, st2_s, jk_I, jk_R, jk_L, jk_J, mkT_0, mkT_1, mkT_2, mkT_3, sw_n, sw_c, nJ_n, nJ_I, nJ_L, nJ_R, stW_n, stW_I, stW_R, stW_L, true_and, and_true, Nat.reduceAdd, Nat.reduceLeDiff, Int.reduceAdd, up_at, Int.reduceEq, Int.reduceLE, Int.reduceLT, false_and, and_false, and_self, if_false, if_true, Int.reduceNeg, List.cons_append, List.nil_append, not_true_eq_false, not_false_eq_true, false_implies, true_implies, implies_true, true_or, or_true, false_or, or_false, aJ15_checkIndex_7cf53_0, aJ15_checkIndex_7cf53_1, aJ15_checkIndex_7cf53_2, aJ15_checkIndex_7cf53_3, aJ15_checkIndex_7cf53_6]
  exact hq
set_option maxRecDepth 20000 in
theorem m_size {d : Nat} {l : Int} {K : KT} {S : ST} {Q : QF} (hl : K l = (1, 3)) (hq : Q [vI (S l 2)] K S) : Mt (d + 1) 0 0 mJx4a65c_size_8abf5 [vR l] K S Q := by
  refine Mt_of_TT (by decide +kernel) (Nat.le_of_ble_eq_true rfl) ?_
  show TT mJx4a65c_size_8abf5 _ 0 [vR l] [] _ _ _ _ _
  refine TT.go zJx4a65c_size_8abf5 200 ?_
  simp only [↓oPush, ↓oIload, ↓oLload, ↓oRload, ↓oIstore, ↓oLstore, ↓oRstore, ↓oIinc, ↓oIadd, ↓oIsub, ↓oImul, ↓oIand, ↓oIor, ↓oIshl, ↓oIshr, ↓oIushr, ↓oIdiv, ↓oIrem, ↓oIneg, ↓oLadd, ↓oLmul, ↓oLand, ↓oLor, ↓oLxor, ↓oLshl, ↓oLshr, ↓oLushr, ↓oLcmp, ↓oI2l, ↓oL2i, ↓oI2b, ↓oI2s, ↓oDup, ↓oPop, ↓oDupx1, ↓oDupx2, ↓oDup2, ↓oGoto, ↓oIfEq, ↓oIfNe, ↓oIfLt, ↓oIfGe, ↓oIfGt, ↓oIfLe, ↓oIcEq, ↓oIcNe, ↓oIcLt, ↓oIcGe, ↓oIcGt, ↓oIcLe, ↓oIfnull, ↓oIfnonnull, ↓oSwitch, ↓oGetf, ↓oPutf, ↓oNew, ↓oNewa, ↓oAlen, ↓oIald, ↓oLald, ↓oZald, ↓oAald, ↓oIast, ↓oLast, ↓oZast, ↓oAast, ↓oCast, ↓oObji, ↓oRetI, ↓oRetZ, ↓oRetL, ↓oRetA, ↓oRetV, ↓oInvS, ↓oInvV, ↓oInvI, ↓oFail, ↓oAcEq, ↓oGetE, ↓oAlenE, ↓oAastO, ↓oCopyL, ↓oCopyK, ↓oInvS8, ↓oLdcS, ↓oMmax, ↓oMmin, ↓oMabs, ↓oAlenE, ↓popI_I, ↓popL_L, ↓popR_R, ↓popS_I, ↓popS_R, ↓popN_0, ↓popN_s, ↓popT_0, ↓popT_1, ↓popT_2, ↓popT_3, ↓gI_0, ↓gI_s, ↓gL_0, ↓gL_s, ↓gR_0, ↓gR_s, ↓blk_s, ↓blk_0, goE_0, goE_1, goE_2, bst_0, bst_1, bst_2, TTf_e, st1_0, st1_1, st1_s, st2_0, st2_1, st2_s, jk_I, jk_R, jk_L, jk_J, mkT_0, mkT_1, mkT_2, mkT_3, sw_n, sw_c, nJ_n, nJ_I, nJ_L, nJ_R, stW_n, stW_I, stW_R, stW_L, true_and, and_true, Nat.reduceAdd, Nat.reduceLeDiff, Int.reduceAdd, up_at, Int.reduceEq, Int.reduceLE, Int.reduceLT, false_and, and_false, and_self, if_false, if_true, Int.reduceNeg, List.cons_append, List.nil_append, not_true_eq_false, not_false_eq_true, false_implies, true_implies, implies_true, true_or, or_true, false_or, or_false, aJx4a65c_size_8abf5_0, aJx4a65c_size_8abf5_1, aJx4a65c_size_8abf5_4, hl]
  exact hq
set_option maxRecDepth 20000 in
theorem m_elData {d : Nat} {l i row : Int} {K : KT} {S : ST} {Q : QF} (hl : K l = (1, 3)) (hr : S l 1 = row) (hk : (K row).1 = 110) (hi : 0 ≤ i ∧ i < (K row).2) (hq : Q [vR (S row i)] K S) : Mt (d + 1) 0 0 mJx4a65c_elementData_915e3 [vR l, vI i] K S Q := by
  refine Mt_of_TT (by decide +kernel) (Nat.le_of_ble_eq_true rfl) ?_
  show TT mJx4a65c_elementData_915e3 _ 0 [vR l, vI i] [] _ _ _ _ _
  refine TT.go zJx4a65c_elementData_915e3 200 ?_
  simp only [↓oPush, ↓oIload, ↓oLload, ↓oRload, ↓oIstore, ↓oLstore, ↓oRstore, ↓oIinc, ↓oIadd, ↓oIsub, ↓oImul, ↓oIand, ↓oIor, ↓oIshl, ↓oIshr, ↓oIushr, ↓oIdiv, ↓oIrem, ↓oIneg, ↓oLadd, ↓oLmul, ↓oLand, ↓oLor, ↓oLxor, ↓oLshl, ↓oLshr, ↓oLushr, ↓oLcmp, ↓oI2l, ↓oL2i, ↓oI2b, ↓oI2s, ↓oDup, ↓oPop, ↓oDupx1, ↓oDupx2, ↓oDup2, ↓oGoto, ↓oIfEq, ↓oIfNe, ↓oIfLt, ↓oIfGe, ↓oIfGt, ↓oIfLe, ↓oIcEq, ↓oIcNe, ↓oIcLt, ↓oIcGe, ↓oIcGt, ↓oIcLe, ↓oIfnull, ↓oIfnonnull, ↓oSwitch, ↓oGetf, ↓oPutf, ↓oNew, ↓oNewa, ↓oAlen, ↓oIald, ↓oLald, ↓oZald, ↓oAald, ↓oIast, ↓oLast, ↓oZast, ↓oAast, ↓oCast, ↓oObji, ↓oRetI, ↓oRetZ, ↓oRetL, ↓oRetA, ↓oRetV, ↓oInvS, ↓oInvV, ↓oInvI, ↓oFail, ↓oAcEq, ↓oGetE, ↓oAlenE, ↓oAastO, ↓oCopyL, ↓oCopyK, ↓oInvS8, ↓oLdcS, ↓oMmax, ↓oMmin, ↓oMabs, ↓oAlenE, ↓popI_I, ↓popL_L, ↓popR_R, ↓popS_I, ↓popS_R, ↓popN_0, ↓popN_s, ↓popT_0, ↓popT_1, ↓popT_2, ↓popT_3, ↓gI_0, ↓gI_s, ↓gL_0, ↓gL_s, ↓gR_0, ↓gR_s, ↓blk_s, ↓blk_0, goE_0, goE_1, goE_2, bst_0, bst_1, bst_2, TTf_e, st1_0, st1_1, st1_s, st2_0, st2_1, st2_s, jk_I, jk_R, jk_L, jk_J, mkT_0, mkT_1, mkT_2, mkT_3, sw_n, sw_c, nJ_n, nJ_I, nJ_L, nJ_R, stW_n, stW_I, stW_R, stW_L, true_and, and_true, Nat.reduceAdd, Nat.reduceLeDiff, Int.reduceAdd, up_at, Int.reduceEq, Int.reduceLE, Int.reduceLT, false_and, and_false, and_self, if_false, if_true, Int.reduceNeg, List.cons_append, List.nil_append, not_true_eq_false, not_false_eq_true, false_implies, true_implies, implies_true, true_or, or_true, false_or, or_false, aJx4a65c_elementData_915e3_0, aJx4a65c_elementData_915e3_1, aJx4a65c_elementData_915e3_4, aJx4a65c_elementData_915e3_5, aJx4a65c_elementData_915e3_6, hl, hr, hk]
  exact ⟨hi.1, hi.2, hq⟩
set_option maxRecDepth 20000 in
theorem m_get {d : Nat} {l i row : Int} {K : KT} {S : ST} {Q : QF} (hl : K l = (1, 3)) (hr : S l 1 = row) (hk : (K row).1 = 110) (hn : S l 2 ≤ (K row).2) (hi : 0 ≤ i ∧ i < S l 2) (hq : Q [vR (S row i)] K S) : Mt (d + 3) 0 0 mJx4a65c_get_915e3 [vR l, vI i] K S Q := by
  refine Mt_of_TT (by decide +kernel) (Nat.le_of_ble_eq_true rfl) ?_
  show TT mJx4a65c_get_915e3 _ 0 [vR l, vI i] [] _ _ _ _ _
  refine TT.go zJx4a65c_get_915e3 200 ?_
  simp only [↓oPush, ↓oIload, ↓oLload, ↓oRload, ↓oIstore, ↓oLstore, ↓oRstore, ↓oIinc, ↓oIadd, ↓oIsub, ↓oImul, ↓oIand, ↓oIor, ↓oIshl, ↓oIshr, ↓oIushr, ↓oIdiv, ↓oIrem, ↓oIneg, ↓oLadd, ↓oLmul, ↓oLand, ↓oLor, ↓oLxor, ↓oLshl, ↓oLshr, ↓oLushr, ↓oLcmp, ↓oI2l, ↓oL2i, ↓oI2b, ↓oI2s, ↓oDup, ↓oPop, ↓oDupx1, ↓oDupx2, ↓oDup2, ↓oGoto, ↓oIfEq, ↓oIfNe, ↓oIfLt, ↓oIfGe, ↓oIfGt, ↓oIfLe, ↓oIcEq, ↓oIcNe, ↓oIcLt, ↓oIcGe, ↓oIcGt, ↓oIcLe, ↓oIfnull, ↓oIfnonnull, ↓oSwitch, ↓oGetf, ↓oPutf, ↓oNew, ↓oNewa, ↓oAlen, ↓oIald, ↓oLald, ↓oZald, ↓oAald, ↓oIast, ↓oLast, ↓oZast, ↓oAast, ↓oCast, ↓oObji, ↓oRetI, ↓oRetZ, ↓oRetL, ↓oRetA, ↓oRetV, ↓oInvS, ↓oInvV, ↓oInvI, ↓oFail, ↓oAcEq, ↓oGetE, ↓oAlenE, ↓oAastO, ↓oCopyL, ↓oCopyK, ↓oInvS8, ↓oLdcS, ↓oMmax, ↓oMmin, ↓oMabs, ↓oAlenE, ↓popI_I, ↓popL_L, ↓popR_R, ↓popS_I, ↓popS_R, ↓popN_0, ↓popN_s, ↓popT_0, ↓popT_1, ↓popT_2, ↓popT_3, ↓gI_0, ↓gI_s, ↓gL_0, ↓gL_s, ↓gR_0, ↓gR_s, ↓blk_s, ↓blk_0, goE_0, goE_1, goE_2, bst_0, bst_1, bst_2, TTf_e, st1_0, st1_1, st1_s, st2_0, st2_1, st2_s, jk_I, jk_R, jk_L, jk_J, mkT_0, mkT_1, mkT_2, mkT_3, sw_n, sw_c, nJ_n, nJ_I, nJ_L, nJ_R, stW_n, stW_I, stW_R, stW_L, true_and, and_true, Nat.reduceAdd, Nat.reduceLeDiff, Int.reduceAdd, up_at, Int.reduceEq, Int.reduceLE, Int.reduceLT, false_and, and_false, and_self, if_false, if_true, Int.reduceNeg, List.cons_append, List.nil_append, not_true_eq_false, not_false_eq_true, false_implies, true_implies, implies_true, true_or, or_true, false_or, or_false, aJx4a65c_get_915e3_0, aJx4a65c_get_915e3_1, aJx4a65c_get_915e3_2, aJx4a65c_get_915e3_5, aJx4a65c_get_915e3_8, aJx4a65c_get_915e3_9, aJx4a65c_get_915e3_10, aJx4a65c_get_915e3_11, aJx4a65c_get_915e3_14, hl]
  refine GG.of0 (m_chk2 hi ?_)
  refine TT.go zJx4a65c_get_915e3 200 ?_
  simp only [↓oPush, ↓oIload, ↓oLload, ↓oRload, ↓oIstore, ↓oLstore, ↓oRstore, ↓oIinc, ↓oIadd, ↓oIsub, ↓oImul, ↓oIand, ↓oIor, ↓oIshl, ↓oIshr, ↓oIushr, ↓oIdiv, ↓oIrem, ↓oIneg, ↓oLadd, ↓oLmul, ↓oLand, ↓oLor, ↓oLxor, ↓oLshl, ↓oLshr, ↓oLushr, ↓oLcmp, ↓oI2l, ↓oL2i, ↓oI2b, ↓oI2s, ↓oDup, ↓oPop, ↓oDupx1, ↓oDupx2, ↓oDup2, ↓oGoto, ↓oIfEq, ↓oIfNe, ↓oIfLt, ↓oIfGe, ↓oIfGt, ↓oIfLe, ↓oIcEq, ↓oIcNe, ↓oIcLt, ↓oIcGe, ↓oIcGt, ↓oIcLe, ↓oIfnull, ↓oIfnonnull, ↓oSwitch, ↓oGetf, ↓oPutf, ↓oNew, ↓oNewa, ↓oAlen, ↓oIald, ↓oLald, ↓oZald, ↓oAald, ↓oIast, ↓oLast, ↓oZast, ↓oAast, ↓oCast, ↓oObji, ↓oRetI, ↓oRetZ, ↓oRetL, ↓oRetA, ↓oRetV, ↓oInvS, ↓oInvV, ↓oInvI, ↓oFail, ↓oAcEq, ↓oGetE, ↓oAlenE, ↓oAastO, ↓oCopyL, ↓oCopyK, ↓oInvS8, ↓oLdcS, ↓oMmax, ↓oMmin, ↓oMabs, ↓oAlenE, ↓popI_I, ↓popL_L, ↓popR_R, ↓popS_I, ↓popS_R, ↓popN_0, ↓popN_s, ↓popT_0, ↓popT_1, ↓popT_2, ↓popT_3, ↓gI_0, ↓gI_s, ↓gL_0, ↓gL_s, ↓gR_0, ↓gR_s, ↓blk_s, ↓blk_0, goE_0, goE_1, goE_2, bst_0, bst_1, bst_2, TTf_e, st1_0, st1_1, st1_s, st2_0, st2_1, st2_s, jk_I, jk_R, jk_L, jk_J, mkT_0, mkT_1, mkT_2, mkT_3, sw_n, sw_c, nJ_n, nJ_I, nJ_L, nJ_R, stW_n, stW_I, stW_R, stW_L, true_and, and_true, Nat.reduceAdd, Nat.reduceLeDiff, Int.reduceAdd, up_at, Int.reduceEq, Int.reduceLE, Int.reduceLT, false_and, and_false, and_self, if_false, if_true, Int.reduceNeg, List.cons_append, List.nil_append, not_true_eq_false, not_false_eq_true, false_implies, true_implies, implies_true, true_or, or_true, false_or, or_false, aJx4a65c_get_915e3_0, aJx4a65c_get_915e3_1, aJx4a65c_get_915e3_2, aJx4a65c_get_915e3_5, aJx4a65c_get_915e3_8, aJx4a65c_get_915e3_9, aJx4a65c_get_915e3_10, aJx4a65c_get_915e3_11, aJx4a65c_get_915e3_14, hl]
  refine GG.of0 (m_elData (d := d + 1) hl hr hk ⟨hi.1, by omega⟩ ?_)
  refine TT.go zJx4a65c_get_915e3 200 ?_
  simp only [↓oPush, ↓oIload, ↓oLload, ↓oRload, ↓oIstore, ↓oLstore, ↓oRstore, ↓oIinc, ↓oIadd, ↓oIsub, ↓oImul, ↓oIand, ↓oIor, ↓oIshl, ↓oIshr, ↓oIushr, ↓oIdiv, ↓oIrem, ↓oIneg, ↓oLadd, ↓oLmul, ↓oLand, ↓oLor, ↓oLxor, ↓oLshl, ↓oLshr, ↓oLushr, ↓oLcmp, ↓oI2l, ↓oL2i, ↓oI2b, ↓oI2s, ↓oDup, ↓oPop, ↓oDupx1, ↓oDupx2, ↓oDup2, ↓oGoto, ↓oIfEq, ↓oIfNe, ↓oIfLt, ↓oIfGe, ↓oIfGt, ↓oIfLe, ↓oIcEq, ↓oIcNe, ↓oIcLt, ↓oIcGe, ↓oIcGt, ↓oIcLe, ↓oIfnull, ↓oIfnonnull, ↓oSwitch, ↓oGetf, ↓oPutf, ↓oNew, ↓oNewa, ↓oAlen, ↓oIald, ↓oLald, ↓oZald, ↓oAald, ↓oIast, ↓oLast, ↓oZast, ↓oAast, ↓oCast, ↓oObji, ↓oRetI, ↓oRetZ, ↓oRetL, ↓oRetA, ↓oRetV, ↓oInvS, ↓oInvV, ↓oInvI, ↓oFail, ↓oAcEq, ↓oGetE, ↓oAlenE, ↓oAastO, ↓oCopyL, ↓oCopyK, ↓oInvS8, ↓oLdcS, ↓oMmax, ↓oMmin, ↓oMabs, ↓oAlenE, ↓popI_I, ↓popL_L, ↓popR_R, ↓popS_I, ↓popS_R, ↓popN_0, ↓popN_s, ↓popT_0, ↓popT_1, ↓popT_2, ↓popT_3, ↓gI_0, ↓gI_s, ↓gL_0, ↓gL_s, ↓gR_0, ↓gR_s, ↓blk_s, ↓blk_0, goE_0, goE_1, goE_2, bst_0, bst_1, bst_2, TTf_e, st1_0, st1_1, st1_s, st2_0, st2_1, st2_s, jk_I, jk_R, jk_L, jk_J, mkT_0, mkT_1, mkT_2, mkT_3, sw_n, sw_c, nJ_n, nJ_I, nJ_L, nJ_R, stW_n, stW_I, stW_R, stW_L, true_and, and_true, Nat.reduceAdd, Nat.reduceLeDiff, Int.reduceAdd, up_at, Int.reduceEq, Int.reduceLE, Int.reduceLT, false_and, and_false, and_self, if_false, if_true, Int.reduceNeg, List.cons_append, List.nil_append, not_true_eq_false, not_false_eq_true, false_implies, true_implies, implies_true, true_or, or_true, false_or, or_false, aJx4a65c_get_915e3_0, aJx4a65c_get_915e3_1, aJx4a65c_get_915e3_2, aJx4a65c_get_915e3_5, aJx4a65c_get_915e3_8, aJx4a65c_get_915e3_9, aJx4a65c_get_915e3_10, aJx4a65c_get_915e3_11, aJx4a65c_get_915e3_14, hl]
  exact hq
/-! Arrays.copyOf: its first instructions hold a class object, which lies outside the picture -/
def kJ7_copyOf_6403c_0 : List En := [(0, oRload 2 1), (0, oFail), (1, oFail), (0, oFail), (1, oFail), (1, oFail), (0, oIload 1 7), (0, oNewa 110 10), (1, oFail), (1, oFail), (0, oGoto 24), (1, oFail), (1, oFail), (0, oRload 2 14), (0, oFail), (1, oFail)]
set_option maxRecDepth 20000 in
theorem zJ7_copyOf_6403c_0 : SndL mJ7_copyOf_6403c 0 kJ7_copyOf_6403c_0 := SndL.c (s_aload_n (k := 2) (by decide +kernel) rfl) (SndL.c (s_fail) (SndL.c (s_fail) (SndL.c (s_fail) (SndL.c (s_fail) (SndL.c (s_fail) (SndL.c (s_iload_n (k := 1) (by decide +kernel) rfl) (SndL.c (s_anewa (kd := 110) (akd_d (by decide)) rfl w_2_176 u_2_175 (by decide +kernel)) (SndL.c (s_fail) (SndL.c (s_fail) (SndL.c (s_goto (off := 14) (by decide +kernel) (by decide)) (SndL.c (s_fail) (SndL.c (s_fail) (SndL.c (s_aload_n (k := 2) (by decide +kernel) rfl) (SndL.c (s_fail) (SndL.c (s_fail) (SndL.n))))))))))))))))
def kJ7_copyOf_6403c_1 : List En := [(1, oFail), (0, oIload 1 18), (0, oFail), (1, oFail), (1, oFail), (0, oFail), (1, oFail), (1, oFail), (0, oRstore 3 25), (0, oRload 0 26), (0, oPush (vI 0) 27), (0, oRload 3 28), (0, oPush (vI 0) 29), (0, oRload 0 30), (0, oAlen 31), (0, oIload 1 32)]
set_option maxRecDepth 20000 in
theorem zJ7_copyOf_6403c_1 : SndL mJ7_copyOf_6403c 16 kJ7_copyOf_6403c_1 := SndL.c (s_fail) (SndL.c (s_iload_n (k := 1) (by decide +kernel) rfl) (SndL.c (s_fail) (SndL.c (s_fail) (SndL.c (s_fail) (SndL.c (s_fail) (SndL.c (s_fail) (SndL.c (s_fail) (SndL.c (s_astore_n (k := 3) (by decide +kernel) rfl (by decide)) (SndL.c (s_aload_n (k := 0) (by decide +kernel) rfl) (SndL.c (s_iconst (by decide +kernel) (in32_d (by decide))) (SndL.c (s_aload_n (k := 3) (by decide +kernel) rfl) (SndL.c (s_iconst (by decide +kernel) (in32_d (by decide))) (SndL.c (s_aload_n (k := 0) (by decide +kernel) rfl) (SndL.c (s_alen (by decide +kernel)) (SndL.c (s_iload_n (k := 1) (by decide +kernel) rfl) (SndL.n))))))))))))))))
def kJ7_copyOf_6403c_2 : List En := [(0, oMmin 35), (1, oFail), (1, oFail), (0, oCopyK 110 38), (1, oFail), (1, oFail), (0, oRload 3 39), (0, oRetA)]
set_option maxRecDepth 20000 in
theorem zJ7_copyOf_6403c_2 : SndL mJ7_copyOf_6403c 32 kJ7_copyOf_6403c_2 := SndL.c (s_mmin w_2_177 w_2_178 w_1_15 w_2_179 (by decide +kernel)) (SndL.c (s_fail) (SndL.c (s_fail) (SndL.c (s_copyK (kd := 110) (akd_d (by decide)) (Or.inr rfl) w_2_180 w_2_32 w_2_31 w_1_12 (by decide +kernel)) (SndL.c (s_fail) (SndL.c (s_fail) (SndL.c (s_aload_n (k := 3) (by decide +kernel) rfl) (SndL.c (s_ret_a rfl (Or.inr ⟨_, rfl⟩) (by decide +kernel)) (SndL.n))))))))
def kJ7_copyOf_6403c : Cd := [kJ7_copyOf_6403c_0, kJ7_copyOf_6403c_1, kJ7_copyOf_6403c_2]
theorem zJ7_copyOf_6403c : SndC mJ7_copyOf_6403c 0 kJ7_copyOf_6403c := SndC.c zJ7_copyOf_6403c_0 (by decide) (SndC.c zJ7_copyOf_6403c_1 (by decide) (SndC.c zJ7_copyOf_6403c_2 (by decide) (SndC.n)))
theorem aJ7_copyOf_6403c_0 : at_ kJ7_copyOf_6403c 0 = (0, oRload 2 1) := rfl
theorem aJ7_copyOf_6403c_1 : at_ kJ7_copyOf_6403c 1 = (0, oFail) := rfl
theorem aJ7_copyOf_6403c_3 : at_ kJ7_copyOf_6403c 3 = (0, oFail) := rfl
theorem aJ7_copyOf_6403c_6 : at_ kJ7_copyOf_6403c 6 = (0, oIload 1 7) := rfl
theorem aJ7_copyOf_6403c_7 : at_ kJ7_copyOf_6403c 7 = (0, oNewa 110 10) := rfl
theorem aJ7_copyOf_6403c_10 : at_ kJ7_copyOf_6403c 10 = (0, oGoto 24) := rfl
theorem aJ7_copyOf_6403c_13 : at_ kJ7_copyOf_6403c 13 = (0, oRload 2 14) := rfl
theorem aJ7_copyOf_6403c_14 : at_ kJ7_copyOf_6403c 14 = (0, oFail) := rfl
theorem aJ7_copyOf_6403c_17 : at_ kJ7_copyOf_6403c 17 = (0, oIload 1 18) := rfl
theorem aJ7_copyOf_6403c_18 : at_ kJ7_copyOf_6403c 18 = (0, oFail) := rfl
theorem aJ7_copyOf_6403c_21 : at_ kJ7_copyOf_6403c 21 = (0, oFail) := rfl
theorem aJ7_copyOf_6403c_24 : at_ kJ7_copyOf_6403c 24 = (0, oRstore 3 25) := rfl
theorem aJ7_copyOf_6403c_25 : at_ kJ7_copyOf_6403c 25 = (0, oRload 0 26) := rfl
theorem aJ7_copyOf_6403c_26 : at_ kJ7_copyOf_6403c 26 = (0, oPush (vI 0) 27) := rfl
theorem aJ7_copyOf_6403c_27 : at_ kJ7_copyOf_6403c 27 = (0, oRload 3 28) := rfl
theorem aJ7_copyOf_6403c_28 : at_ kJ7_copyOf_6403c 28 = (0, oPush (vI 0) 29) := rfl
theorem aJ7_copyOf_6403c_29 : at_ kJ7_copyOf_6403c 29 = (0, oRload 0 30) := rfl
theorem aJ7_copyOf_6403c_30 : at_ kJ7_copyOf_6403c 30 = (0, oAlen 31) := rfl
theorem aJ7_copyOf_6403c_31 : at_ kJ7_copyOf_6403c 31 = (0, oIload 1 32) := rfl
theorem aJ7_copyOf_6403c_32 : at_ kJ7_copyOf_6403c 32 = (0, oMmin 35) := rfl
theorem aJ7_copyOf_6403c_35 : at_ kJ7_copyOf_6403c 35 = (0, oCopyK 110 38) := rfl
theorem aJ7_copyOf_6403c_38 : at_ kJ7_copyOf_6403c 38 = (0, oRload 3 39) := rfl
theorem aJ7_copyOf_6403c_39 : at_ kJ7_copyOf_6403c 39 = (0, oRetA) := rfl
set_option maxRecDepth 20000 in
theorem t_copy3 {d : Nat} {a n x : Int} {K : KT} {S : ST} {Q : QF} (ha : (K a).1 = 110) (h0 : 0 ≤ (K a).2) (hn : (K a).2 ≤ n) (hn2 : n < 1000000) (hx : (K x).1 = 0) (hx0 : ¬ x = 0) (hv : ∀ j, 0 ≤ j → j < (K a).2 → S a j = 0 ∨ listed (K (S a j)).1) (hq : Q [vR x] (kup K x (110, n)) (cpS (S0 S x) a 0 x 0 (K a).2)) : TT mJ7_copyOf_6403c (d + 2) 6 [vR a, vI n, vJ, vJ] [] K S 1 n.toNat Q := by
  have hax : a ≠ x := fun e => by rw [e, hx] at ha; omega
  refine TT.go zJ7_copyOf_6403c 0 ?_
  simp only [↓oPush, ↓oIload, ↓oLload, ↓oRload, ↓oIstore, ↓oLstore, ↓oRstore, ↓oIinc, ↓oIadd, ↓oIsub, ↓oImul, ↓oIand, ↓oIor, ↓oIshl, ↓oIshr, ↓oIushr, ↓oIdiv, ↓oIrem, ↓oIneg, ↓oLadd, ↓oLmul, ↓oLand, ↓oLor, ↓oLxor, ↓oLshl, ↓oLshr, ↓oLushr, ↓oLcmp, ↓oI2l, ↓oL2i, ↓oI2b, ↓oI2s, ↓oDup, ↓oPop, ↓oDupx1, ↓oDupx2, ↓oDup2, ↓oGoto, ↓oIfEq, ↓oIfNe, ↓oIfLt, ↓oIfGe, ↓oIfGt, ↓oIfLe, ↓oIcEq, ↓oIcNe, ↓oIcLt, ↓oIcGe, ↓oIcGt, ↓oIcLe, ↓oIfnull, ↓oIfnonnull, ↓oSwitch, ↓oGetf, ↓oPutf, ↓oNew, ↓oNewa, ↓oAlen, ↓oIald, ↓oLald, ↓oZald, ↓oAald, ↓oIast, ↓oLast, ↓oZast, ↓oAast, ↓oCast, ↓oObji, ↓oRetI, ↓oRetZ, ↓oRetL, ↓oRetA, ↓oRetV, ↓oInvS, ↓oInvV, ↓oInvI, ↓oFail, ↓oAcEq, ↓oGetE, ↓oAlenE, ↓oAastO, ↓oCopyL, ↓oCopyK, ↓oInvS8, ↓oLdcS, ↓oMmax, ↓oMmin, ↓oMabs, ↓oAlenE, ↓popI_I, ↓popL_L, ↓popR_R, ↓popS_I, ↓popS_R, ↓popN_0, ↓popN_s, ↓popT_0, ↓popT_1, ↓popT_2, ↓popT_3, ↓gI_0, ↓gI_s, ↓gL_0, ↓gL_s, ↓gR_0, ↓gR_s, ↓blk_s, ↓blk_0, goE_0, goE_1, goE_2, bst_0, bst_1, bst_2, TTf_e, st1_0, st1_1, st1_s, st2_0, st2_1, st2_s, jk_I, jk_R, jk_L, jk_J, mkT_0, mkT_1, mkT_2, mkT_3, sw_n, sw_c, nJ_n, nJ_I, nJ_L, nJ_R, stW_n, stW_I, stW_R, stW_L, true_and, and_true, Nat.reduceAdd, Nat.reduceLeDiff, Int.reduceAdd, up_at, Int.reduceEq, Int.reduceLE, Int.reduceLT, false_and, and_false, and_self, if_false, if_true, Int.reduceNeg, List.cons_append, List.nil_append, not_true_eq_false, not_false_eq_true, false_implies, true_implies, implies_true, true_or, or_true, false_or, or_false, aJ7_copyOf_6403c_0, aJ7_copyOf_6403c_1, aJ7_copyOf_6403c_3, aJ7_copyOf_6403c_6, aJ7_copyOf_6403c_7, aJ7_copyOf_6403c_10, aJ7_copyOf_6403c_13, aJ7_copyOf_6403c_14, aJ7_copyOf_6403c_17, aJ7_copyOf_6403c_18, aJ7_copyOf_6403c_21, aJ7_copyOf_6403c_24, aJ7_copyOf_6403c_25, aJ7_copyOf_6403c_26, aJ7_copyOf_6403c_27, aJ7_copyOf_6403c_28, aJ7_copyOf_6403c_29, aJ7_copyOf_6403c_30, aJ7_copyOf_6403c_31, aJ7_copyOf_6403c_32, aJ7_copyOf_6403c_35, aJ7_copyOf_6403c_38, aJ7_copyOf_6403c_39]
  refine TT.go zJ7_copyOf_6403c 0 ?_
  simp only [↓oPush, ↓oIload, ↓oLload, ↓oRload, ↓oIstore, ↓oLstore, ↓oRstore, ↓oIinc, ↓oIadd, ↓oIsub, ↓oImul, ↓oIand, ↓oIor, ↓oIshl, ↓oIshr, ↓oIushr, ↓oIdiv, ↓oIrem, ↓oIneg, ↓oLadd, ↓oLmul, ↓oLand, ↓oLor, ↓oLxor, ↓oLshl, ↓oLshr, ↓oLushr, ↓oLcmp, ↓oI2l, ↓oL2i, ↓oI2b, ↓oI2s, ↓oDup, ↓oPop, ↓oDupx1, ↓oDupx2, ↓oDup2, ↓oGoto, ↓oIfEq, ↓oIfNe, ↓oIfLt, ↓oIfGe, ↓oIfGt, ↓oIfLe, ↓oIcEq, ↓oIcNe, ↓oIcLt, ↓oIcGe, ↓oIcGt, ↓oIcLe, ↓oIfnull, ↓oIfnonnull, ↓oSwitch, ↓oGetf, ↓oPutf, ↓oNew, ↓oNewa, ↓oAlen, ↓oIald, ↓oLald, ↓oZald, ↓oAald, ↓oIast, ↓oLast, ↓oZast, ↓oAast, ↓oCast, ↓oObji, ↓oRetI, ↓oRetZ, ↓oRetL, ↓oRetA, ↓oRetV, ↓oInvS, ↓oInvV, ↓oInvI, ↓oFail, ↓oAcEq, ↓oGetE, ↓oAlenE, ↓oAastO, ↓oCopyL, ↓oCopyK, ↓oInvS8, ↓oLdcS, ↓oMmax, ↓oMmin, ↓oMabs, ↓oAlenE, ↓popI_I, ↓popL_L, ↓popR_R, ↓popS_I, ↓popS_R, ↓popN_0, ↓popN_s, ↓popT_0, ↓popT_1, ↓popT_2, ↓popT_3, ↓gI_0, ↓gI_s, ↓gL_0, ↓gL_s, ↓gR_0, ↓gR_s, ↓blk_s, ↓blk_0, goE_0, goE_1, goE_2, bst_0, bst_1, bst_2, TTf_e, st1_0, st1_1, st1_s, st2_0, st2_1, st2_s, jk_I, jk_R, jk_L, jk_J, mkT_0, mkT_1, mkT_2, mkT_3, sw_n, sw_c, nJ_n, nJ_I, nJ_L, nJ_R, stW_n, stW_I, stW_R, stW_L, true_and, and_true, Nat.reduceAdd, Nat.reduceLeDiff, Int.reduceAdd, up_at, Int.reduceEq, Int.reduceLE, Int.reduceLT, false_and, and_false, and_self, if_false, if_true, Int.reduceNeg, List.cons_append, List.nil_append, not_true_eq_false, not_false_eq_true, false_implies, true_implies, implies_true, true_or, or_true, false_or, or_false, aJ7_copyOf_6403c_0, aJ7_copyOf_6403c_1, aJ7_copyOf_6403c_3, aJ7_copyOf_6403c_6, aJ7_copyOf_6403c_7, aJ7_copyOf_6403c_10, aJ7_copyOf_6403c_13, aJ7_copyOf_6403c_14, aJ7_copyOf_6403c_17, aJ7_copyOf_6403c_18, aJ7_copyOf_6403c_21, aJ7_copyOf_6403c_24, aJ7_copyOf_6403c_25, aJ7_copyOf_6403c_26, aJ7_copyOf_6403c_27, aJ7_copyOf_6403c_28, aJ7_copyOf_6403c_29, aJ7_copyOf_6403c_30, aJ7_copyOf_6403c_31, aJ7_copyOf_6403c_32, aJ7_copyOf_6403c_35, aJ7_copyOf_6403c_38, aJ7_copyOf_6403c_39]
  (repeat' refine And.intro (by omega) ?_)
  refine ⟨x, hx, hx0, ?_⟩
  have e1 : kup K x (110, n) a = K a := kup_n hax
  have e2 : kup K x (110, n) x = (110, n) := kup_s _ _ _
  have e3 : (if n < (K a).2 then n else (K a).2) = (K a).2 := if_neg (by omega)
  refine TT.go zJ7_copyOf_6403c 200 ?_
  simp only [↓oPush, ↓oIload, ↓oLload, ↓oRload, ↓oIstore, ↓oLstore, ↓oRstore, ↓oIinc, ↓oIadd, ↓oIsub, ↓oImul, ↓oIand, ↓oIor, ↓oIshl, ↓oIshr, ↓oIushr, ↓oIdiv, ↓oIrem, ↓oIneg, ↓oLadd, ↓oLmul, ↓oLand, ↓oLor, ↓oLxor, ↓oLshl, ↓oLshr, ↓oLushr, ↓oLcmp, ↓oI2l, ↓oL2i, ↓oI2b, ↓oI2s, ↓oDup, ↓oPop, ↓oDupx1, ↓oDupx2, ↓oDup2, ↓oGoto, ↓oIfEq, ↓oIfNe, ↓oIfLt, ↓oIfGe, ↓oIfGt, ↓oIfLe, ↓oIcEq, ↓oIcNe, ↓oIcLt, ↓oIcGe, ↓oIcGt, ↓oIcLe, ↓oIfnull, ↓oIfnonnull, ↓oSwitch, ↓oGetf, ↓oPutf, ↓oNew, ↓oNewa, ↓oAlen, ↓oIald, ↓oLald, ↓oZald, ↓oAald, ↓oIast, ↓oLast, ↓oZast, ↓oAast, ↓oCast, ↓oObji, ↓oRetI, ↓oRetZ, ↓oRetL, ↓oRetA, ↓oRetV, ↓oInvS, ↓oInvV, ↓oInvI, ↓oFail, ↓oAcEq, ↓oGetE, ↓oAlenE, ↓oAastO, ↓oCopyL, ↓oCopyK, ↓oInvS8, ↓oLdcS, ↓oMmax, ↓oMmin, ↓oMabs, ↓oAlenE, ↓popI_I, ↓popL_L, ↓popR_R, ↓popS_I, ↓popS_R, ↓popN_0, ↓popN_s, ↓popT_0, ↓popT_1, ↓popT_2, ↓popT_3, ↓gI_0, ↓gI_s, ↓gL_0, ↓gL_s, ↓gR_0, ↓gR_s, ↓blk_s, ↓blk_0, goE_0, goE_1, goE_2, bst_0, bst_1, bst_2, TTf_e, st1_0, st1_1, st1_s, st2_0, st2_1, st2_s, jk_I, jk_R, jk_L, jk_J, mkT_0, mkT_1, mkT_2, mkT_3, sw_n, sw_c, nJ_n, nJ_I, nJ_L, nJ_R, stW_n, stW_I, stW_R, stW_L, true_and, and_true, Nat.reduceAdd, Nat.reduceLeDiff, Int.reduceAdd, up_at, Int.reduceEq, Int.reduceLE, Int.reduceLT, false_and, and_false, and_self, if_false, if_true, Int.reduceNeg, List.cons_append, List.nil_append, not_true_eq_false, not_false_eq_true, false_implies, true_implies, implies_true, true_or, or_true, false_or, or_false, aJ7_copyOf_6403c_0, aJ7_copyOf_6403c_1, aJ7_copyOf_6403c_3, aJ7_copyOf_6403c_6, aJ7_copyOf_6403c_7, aJ7_copyOf_6403c_10, aJ7_copyOf_6403c_13, aJ7_copyOf_6403c_14, aJ7_copyOf_6403c_17, aJ7_copyOf_6403c_18, aJ7_copyOf_6403c_21, aJ7_copyOf_6403c_24, aJ7_copyOf_6403c_25, aJ7_copyOf_6403c_26, aJ7_copyOf_6403c_27, aJ7_copyOf_6403c_28, aJ7_copyOf_6403c_29, aJ7_copyOf_6403c_30, aJ7_copyOf_6403c_31, aJ7_copyOf_6403c_32, aJ7_copyOf_6403c_35, aJ7_copyOf_6403c_38, aJ7_copyOf_6403c_39, e1, e2, e3, ha]
  refine ⟨akd_d (by decide), ?_⟩
  repeat' (apply And.intro)
  all_goals try omega
  · intro j j0 j1
    rw [S0_n hax]
    rcases hv j j0 (by omega) with h | h
    · exact Or.inl h
    · refine Or.inr ?_
      rw [kup_n (fun e => by rw [e, hx] at h; unfold listed at h; omega)]
      exact h
/-- the class object of rows of objects -/
theorem mir_now {M : Mth} {d : Nat} {D : va_G} {AC : Int → ClassId} {ι0 : Int → Nat} {K0 : KT} {A : Nat → Prop} {mc ms : Nat} {p : Program} {R : Room} {s : State} {m : MethodId} {args : Array Value} {meth : Method} {c : Code} {H : Heap} {locs : List Loc} {cells slots cb nb : Nat} {ι : Int → Nat} {ls : Array Slot} {L st : List V} {K : KT} {S : ST}
    (hX1 : CX M d D AC ι0 K0 A mc ms p R s m args meth c) (hX : DX M D AC ι0 K0 A mc ms s H locs cells slots ι ls L st K S cb nb) (hk : (K 7).1 = 90) : (∃ mi, va_Mi "[Ljava/lang/Object;" mi s) ∧ va_Dc s := by
  obtain ⟨g1, g2, g3, g4, g5, g6, g7, g8, g9, g10⟩ := hX
  have e0 := g3 7 (Or.inl hk)
  have hk0 : (K0 7).1 = 90 := by rw [e0]; exact hk
  have hZ := hX1.2.2.2.2.2.2.2.2.2.2.2.2.2.1.1 hk0
  exact ⟨hZ.2.2.1, hZ.2.2.2⟩
/-- copyOf with its class object -/
theorem met_copy3 {d : Nat} {a n x : Int} {K : KT} {S : ST} {Q : QF} (ha : (K a).1 = 110) (h0 : 0 ≤ (K a).2) (hn : (K a).2 ≤ n) (hn2 : n < 1000000) (hx : (K x).1 = 0) (hx0 : ¬ x = 0) (hv : ∀ j, 0 ≤ j → j < (K a).2 → S a j = 0 ∨ listed (K (S a j)).1) (hq : Q [vR x] (kup K x (110, n)) (cpS (S0 S x) a 0 x 0 (K a).2)) (l : Launch) (D : va_G) (AC : Int → ClassId) (ι : Int → Nat) (sz mi : Nat) :
    Met l mJ7_copyOf_6403c.1 (Cond.code mJ7_copyOf_6403c.1 mJ7_copyOf_6403c.2.1 mJ7_copyOf_6403c.2.2.1 mJ7_copyOf_6403c.2.2.2 :: lwG) { frames := d + 2, cells := 1, slots := n.toNat, locals := 64 * (d + 2) }
      (va_Pc [cR ι a, .int (i32 n), .ref mi] (fun U => U.heap.size = sz ∧ RR D AC ι K S U.heap ∧ KK D AC U ∧ SW ι K (AA ι K sz) U U.heap ∧ va_Mi "[Ljava/lang/Object;" mi U)) (QC D AC ι K (AA ι K sz) Q) 1 n.toNat (AA ι K sz) := by
  refine Met.ofW (cc := mJ7_copyOf_6403c.2.1) (maxL := mJ7_copyOf_6403c.2.2.1) (ret := mJ7_copyOf_6403c.2.2.2) (by decide +kernel) rfl ?_
  intro p e s m args below meth c s₁ B hml hv'
  obtain ⟨rfl, hsz, hR, hK, hW, hM⟩ := hv'
  have hts := atoms_spec (ws := Cond.code mJ7_copyOf_6403c.1 mJ7_copyOf_6403c.2.1 mJ7_copyOf_6403c.2.2.1 mJ7_copyOf_6403c.2.2.2 :: lwG) B.pre
  have hown : s.vm.findClass mJ7_copyOf_6403c.1.cls = some m.cls := findClass_of_methodNamed B.named
  subst hsz
  have ha0 : a ≠ 0 := fun e => by rw [e, hR.1] at ha; omega
  rw [cR_n ha0] at B hts ⊢
  rw [lg_entry_eq]
  have hl := lv_entry [.ref (ι a), .int (i32 n), .ref mi] (n := 4) (Nat.le_of_ble_eq_true rfl)
  refine lv_aload_n B.exec B.bytes dJ7_copyOf_6403c_0 rfl (lv_at hl 2 rfl) ?_
  refine va_ldcM B.exec B.bytes hown (hts _ (List.mem_cons_of_mem _ w_2_174)) hM dJ7_copyOf_6403c_1 ?_
  refine lv_acmp_ne (rx := some mi) (ry := some mi) (tgt := 13) B.exec B.bytes dJ7_copyOf_6403c_3 (by decide) (fun q => absurd rfl q) (fun _ => ?_)
  have hLR : LR ι 4 [vR a, vI n, vJ, vJ] ((lg_sl [.ref (ι a), .int (i32 n), .ref mi] ++ List.replicate (4 - (lg_sl [.ref (ι a), .int (i32 n), .ref mi]).length) Slot.unset).toArray) := by
    refine ⟨rfl, hl.1, hl.2.1, fun j v hj hv => ?_⟩
    match j, hj with
    | 0, hj =>
      cases hj
      rw [conc_R, cR_n ha0]
      exact lv_at hl 0 rfl
    | 1, hj =>
      cases hj
      exact lv_at hl 1 rfl
    | 2, hj => cases hj; exact absurd rfl hv
    | 3, hj => cases hj; exact absurd rfl hv
    | j + 4, hj => simp at hj
  exact t_copy3 ha h0 hn hn2 hx hx0 hv hq p l e _ s m _ below meth c D AC ι K (AA ι K s.heap.size) 1 n.toNat s.heap [] 0 0 ι _ ⟨B.exec, B.bytes, B.returns, hml, fun w hw => hts w (List.mem_cons_of_mem _ hw), hown, B.notSynchronized, (name_of_methodNamed B.named B.method).1, Nat.le_refl _, Nat.le_refl _, rfl, rfl, hK, hW, fun q hq => Or.inr hq⟩
    ⟨hR, fun a _ => ⟨rfl, rfl⟩, fun a _ => rfl, fun a h1 h2 => Or.inl ⟨a, h1, h2, rfl⟩, va_S.rf, by omega, by omega, hLR, fun v hv => (by
      rcases List.mem_cons.mp hv with rfl | hv
      · exact Or.inr (by omega)
      rcases List.mem_cons.mp hv with rfl | hv
      · show in32 n
        unfold in32
        omega
      rcases List.mem_cons.mp hv with rfl | hv
      · trivial
      rcases List.mem_cons.mp hv with rfl | hv
      · trivial
      cases hv), fun v hv => by cases hv⟩
theorem m_copyOf {d : Nat} {a n x : Int} {K : KT} {S : ST} {Q : QF} (hk7 : (K 7).1 = 90) (ha : (K a).1 = 110) (h0 : 0 ≤ (K a).2) (hn : (K a).2 ≤ n) (hn2 : n < 1000000) (hx : (K x).1 = 0) (hx0 : ¬ x = 0) (hv : ∀ j, 0 ≤ j → j < (K a).2 → S a j = 0 ∨ listed (K (S a j)).1) (hq : Q [vR x] (kup K x (110, n)) (cpS (S0 S x) a 0 x 0 (K a).2)) : Mt (d + 3) 1 n.toNat mJ7_copyOf2 [vR a, vI n] K S Q := by
  refine Mt_of_TT (by decide +kernel) (Nat.le_of_ble_eq_true rfl) ?_
  show TT mJ7_copyOf2 _ 0 [vR a, vI n] [] _ _ _ _ _
  have h9 : ∀ K' S' cb nb, Q [vR x] K' S' → TT mJ7_copyOf2 (d + 3) 9 [vR a, vI n] [vR x] K' S' cb nb Q := fun K' S' cb nb hq => s_ret_a rfl (Or.inr ⟨_, rfl⟩) dJ7_copyOf_1904c_9 (d + 2) (TTq mJ7_copyOf2 (d + 3) Q) Q (fun _ _ _ _ _ _ _ q => q) _ _ _ _ _ _ ⟨rfl, hq⟩
  intro p l e R s m args below meth c D AC ι0 K0 A mc ms H locs cells slots ι ls hX1 hX
  obtain ⟨⟨mi, hM⟩, hDc⟩ := mir_now hX1 hX hk7
  obtain ⟨g1, g2, g3, g4, g5, g6, g7, g8, g9, g10⟩ := id hX
  have hRX := hX1.rx
  have hRc := hX1.2.2.2.2.2.2.2.2.2.2.1
  have hRs := hX1.2.2.2.2.2.2.2.2.2.2.2.1
  have hKK := hX1.2.2.2.2.2.2.2.2.2.2.2.2.1
  have ha0 : a ≠ 0 := fun e => by rw [e, g1.1] at ha; omega
  have l0 := g8.2.2.2 0 _ rfl (vR_ne a)
  rw [conc_R, cR_n ha0] at l0
  have l1 := g8.2.2.2 1 _ rfl (vI_ne n)
  rw [conc_I] at l1
  obtain ⟨x1, x2, x3, x4, hts, x6, x7, x8, x9⟩ := id hRX
  refine lv_aload_n x1 x2 dJ7_copyOf_1904c_0 rfl l0 ?_
  refine lv_iload_n x1 x2 dJ7_copyOf_1904c_1 rfl l1 ?_
  refine lv_aload_n x1 x2 dJ7_copyOf_1904c_2 rfl l0 ?_
  obtain ⟨n0, n1, n2, n3⟩ := g1.arr ha (by omega)
  have hra := (hKK.arr (kd := 110) (by decide)).2
  refine va_getC (C := "[Ljava/lang/Object;") x1 x2 (x4.trans g8.2.1.symm) x6 (hts _ w_2_153) hDc.use (hts _ w_7_220) (hts _ w_2_154) (hts _ w_2_170) hM ⟨_, n2, rfl, va_nmO hra (by decide +kernel)⟩ (by omega) (by show 1 + (1 + 0) + 14 ≤ R.locals; omega) dJ7_copyOf_1904c_3 ?_
  have hMet := met_copy3 (d := d) (Q := fun r K' S' => r = [vR x] ∧ K' = kup K x (110, n) ∧ S' = cpS (S0 S x) a 0 x 0 (K a).2) ha h0 hn hn2 hx hx0 hv ⟨rfl, rfl, rfl⟩ l D AC ι H.size mi
  rw [cR_n ha0] at hMet
  obtain ⟨P1, P2, P3⟩ := call_pre hX1 hX [vR a]
  have hMt := va_runS (p := p) (R := R) (s := s) (args := args) (m := m) (c := c) (meth := meth) (H := H) (locs := locs) (cells := cells) (slots := slots) (e := e) (below := below) (As := [.ref (ι a), .int (i32 n), .ref mi]) (n := 3) (rest := []) (g := F0 m 6 ls [.ref mi, .int (i32 n), .ref (ι a)]) ⟨x1, x2, x4, x6, hts⟩ hMet ⟨callB_of 3 hts (good_ws okJ7_copyOf_6403c) rfl rfl rfl (hts _ okJ7_copyOf_6403c.2.1) (hts _ w_2_171) okJ7_copyOf_6403c.2.2.2 ⟨by show d + 2 + 1 ≤ R.frames; omega, by show 8 + (4 + 11) + 64 * (d + 2) ≤ R.locals; omega⟩, hts _ w_2_172⟩
    ⟨fun aa U g mk q => ⟨q.1, q.2.1, q.2.2.1, KK.same (s := U) (U := U.calling g mk aa) rfl q.2.2.2.1, SW.same (s := U) (U := U.calling g mk aa) rfl q.2.2.2.2.1, va_Mi.moved (Vm.Alike.refl _) q.2.2.2.2.2⟩, fun U hU hW => by
      obtain ⟨-, r1, r2, r3, r4⟩ := P2 U hU hW
      exact ⟨rfl, r1, r2, r3, r4, hM.moved hW.alike⟩⟩ rfl rfl g8.2.1 rfl (Nat.le_of_ble_eq_true rfl) dJ7_copyOf_1904c_6 ⟨by omega, by omega⟩
  refine call_goes hMt g5 P3 (fun r K' S' ι' H1 locs1 k1 k2 k3 k4 k5 k6 k7 k8 => ?_)
  obtain ⟨rfl, rfl, rfl⟩ := k2
  have hk : ∀ b, (K b).1 ≠ 0 → kup K x (110, n) b = K b := fun b hb => (k4 b hb).1
  have hi : ∀ b, (K b).1 ≠ 0 → ι' b = ι b := fun b hb => (k4 b hb).2
  have hkk := h9 _ _ 0 0 hq p l e R s m args below meth c D AC ι0 K0 A mc ms H1 locs1 (cells + 1) (slots + n.toNat) ι' ls hX1 ⟨k3, fun b hb => by
      obtain ⟨e1, e2⟩ := g2 b hb
      have hb' : (K b).1 ≠ 0 := by rw [e1]; exact hb
      exact ⟨(k4 b hb').1.trans e1, (k4 b hb').2.trans e2⟩,
    fun b hb => by
      have e1 := k5 b hb
      have hb' : ROk (K b).1 := by rw [e1]; exact hb
      exact (g3 b hb').trans e1,
    fun b h1 h2 => P3 _ (k7 b h1 h2), k8, by omega, by omega, g8.agree hi g9, fun v hv => okV_mono hk (g9 v hv), fun v hv => by
      rcases List.mem_cons.mp hv with rfl | hv
      · exact k6 _ List.mem_cons_self
      · cases hv⟩
  exact hkk
/-! add: a place is there, or the row grows -/
set_option maxRecDepth 20000 in
theorem m_newLen {d : Nat} {n m p : Int} {K : KT} {S : ST} {Q : QF} (hn : 0 ≤ n ∧ n ≤ 1000) (hm : 0 < m ∧ m ≤ 1000) (hp : 0 ≤ p ∧ p ≤ 1000) (hq : Q [vI (n + (if m < p then p else m))] K S) : Mt (d + 1) 0 0 mJ8_newLength_cabcc [vI n, vI m, vI p] K S Q := by
  refine Mt_of_TT (by decide +kernel) (Nat.le_of_ble_eq_true rfl) ?_
  show TT mJ8_newLength_cabcc _ 0 [vI n, vI m, vI p, vJ] [] _ _ _ _ _
  refine TT.go zJ8_newLength_cabcc 200 ?_
  simp only [↓oPush, ↓oIload, ↓oLload, ↓oRload, ↓oIstore, ↓oLstore, ↓oRstore, ↓oIinc, ↓oIadd, ↓oIsub, ↓oImul, ↓oIand, ↓oIor, ↓oIshl, ↓oIshr, ↓oIushr, ↓oIdiv, ↓oIrem, ↓oIneg, ↓oLadd, ↓oLmul, ↓oLand, ↓oLor, ↓oLxor, ↓oLshl, ↓oLshr, ↓oLushr, ↓oLcmp, ↓oI2l, ↓oL2i, ↓oI2b, ↓oI2s, ↓oDup, ↓oPop, ↓oDupx1, ↓oDupx2, ↓oDup2, ↓oGoto, ↓oIfEq, ↓oIfNe, ↓oIfLt, ↓oIfGe, ↓oIfGt, ↓oIfLe, ↓oIcEq, ↓oIcNe, ↓oIcLt, ↓oIcGe, ↓oIcGt, ↓oIcLe, ↓oIfnull, ↓oIfnonnull, ↓oSwitch, ↓oGetf, ↓oPutf, ↓oNew, ↓oNewa, ↓oAlen, ↓oIald, ↓oLald, ↓oZald, ↓oAald, ↓oIast, ↓oLast, ↓oZast, ↓oAast, ↓oCast, ↓oObji, ↓oRetI, ↓oRetZ, ↓oRetL, ↓oRetA, ↓oRetV, ↓oInvS, ↓oInvV, ↓oInvI, ↓oFail, ↓oAcEq, ↓oGetE, ↓oAlenE, ↓oAastO, ↓oCopyL, ↓oCopyK, ↓oInvS8, ↓oLdcS, ↓oMmax, ↓oMmin, ↓oMabs, ↓oAlenE, ↓popI_I, ↓popL_L, ↓popR_R, ↓popS_I, ↓popS_R, ↓popN_0, ↓popN_s, ↓popT_0, ↓popT_1, ↓popT_2, ↓popT_3, ↓gI_0, ↓gI_s, ↓gL_0, ↓gL_s, ↓gR_0, ↓gR_s, ↓blk_s, ↓blk_0, goE_0, goE_1, goE_2, bst_0, bst_1, bst_2, TTf_e, st1_0, st1_1, st1_s, st2_0, st2_1, st2_s, jk_I, jk_R, jk_L, jk_J, mkT_0, mkT_1, mkT_2, mkT_3, sw_n, sw_c, nJ_n, nJ_I, nJ_L, nJ_R, stW_n, stW_I, stW_R, stW_L, true_and, and_true, Nat.reduceAdd, Nat.reduceLeDiff, Int.reduceAdd, up_at, Int.reduceEq, Int.reduceLE, Int.reduceLT, false_and, and_false, and_self, if_false, if_true, Int.reduceNeg, List.cons_append, List.nil_append, not_true_eq_false, not_false_eq_true, false_implies, true_implies, implies_true, true_or, or_true, false_or, or_false, aJ8_newLength_cabcc_0, aJ8_newLength_cabcc_1, aJ8_newLength_cabcc_2, aJ8_newLength_cabcc_3, aJ8_newLength_cabcc_6, aJ8_newLength_cabcc_7, aJ8_newLength_cabcc_8, aJ8_newLength_cabcc_9, aJ8_newLength_cabcc_10, aJ8_newLength_cabcc_13, aJ8_newLength_cabcc_14, aJ8_newLength_cabcc_16, aJ8_newLength_cabcc_19, aJ8_newLength_cabcc_20, aJ8_newLength_cabcc_21, aJ8_newLength_cabcc_22, aJ8_newLength_cabcc_23, aJ8_newLength_cabcc_26]
  repeat' (first | refine And.intro ?_ ?_ | refine imp_i (fun _ => ?_))
  all_goals (try simp (disch := omega) only [w32_i] at *)
  all_goals first | (exfalso; split at * <;> omega) | exact hq | omega
