/-! THE CLASS'S CALLS: beside -/
theorem countIn_l {d : Nat} {X L : Int} {l : List (Int × Int)} {μ : ST} {R : RT} {K : KT} {S : ST} {Q : QF} (h : Rc μ R K S) (hX : in32 X) (hg : Rdg S l) (hL : L = l.length) (hL2 : L ≤ 24) (hin : ∀ i : Int, 0 ≤ i → i < L → 0 ≤ (l.getD i.toNat (0, 0)).1 ∧ (l.getD i.toNat (0, 0)).1 < μ 1000 2) :
    ∀ (m : Nat) (i c : Int) (y : V), i + m = L → 0 ≤ i → 0 ≤ c ∧ c ≤ i → Q [vI (c + cntF (fun i => bt X (l.getD i.toNat (0, 0)).1) i m)] K S → TT mX5_countIn (d + 1) 4 [vR 51, vI X, vI c, vI i, y] [] K S 0 0 Q := by
  obtain ⟨g1, g2⟩ := hg
  rw [← hL] at g1 g2
  have hcap := (Rc_ph h).1
  intro m
  induction m with
  | zero =>
    intro i c y hm h0 hc hq
    have hn : L ≤ i := by omega
    refine TT.go zX5_countIn 200 ?_
    simp only [↓oPush, ↓oIload, ↓oLload, ↓oRload, ↓oIstore, ↓oLstore, ↓oRstore, ↓oIinc, ↓oIadd, ↓oIsub, ↓oImul, ↓oIand, ↓oIor, ↓oIshl, ↓oIshr, ↓oIushr, ↓oIdiv, ↓oIrem, ↓oIneg, ↓oLadd, ↓oLmul, ↓oLand, ↓oLor, ↓oLxor, ↓oLshl, ↓oLshr, ↓oLushr, ↓oLcmp, ↓oI2l, ↓oL2i, ↓oI2b, ↓oI2s, ↓oDup, ↓oPop, ↓oDupx1, ↓oDupx2, ↓oDup2, ↓oGoto, ↓oIfEq, ↓oIfNe, ↓oIfLt, ↓oIfGe, ↓oIfGt, ↓oIfLe, ↓oIcEq, ↓oIcNe, ↓oIcLt, ↓oIcGe, ↓oIcGt, ↓oIcLe, ↓oIfnull, ↓oIfnonnull, ↓oSwitch, ↓oGetf, ↓oPutf, ↓oNew, ↓oNewa, ↓oAlen, ↓oIald, ↓oLald, ↓oZald, ↓oAald, ↓oIast, ↓oLast, ↓oZast, ↓oAast, ↓oCast, ↓oObji, ↓oRetI, ↓oRetZ, ↓oRetL, ↓oRetA, ↓oRetV, ↓oInvS, ↓oInvV, ↓oInvI, ↓oFail, ↓oAcEq, ↓oGetE, ↓oAlenE, ↓oAastO, ↓oCopyL, ↓oCopyK, ↓oInvS8, ↓oLdcS, ↓oMmax, ↓oMmin, ↓oMabs, ↓oAlenE, ↓popI_I, ↓popL_L, ↓popR_R, ↓popS_I, ↓popS_R, ↓popN_0, ↓popN_s, ↓popT_0, ↓popT_1, ↓popT_2, ↓popT_3, ↓gI_0, ↓gI_s, ↓gL_0, ↓gL_s, ↓gR_0, ↓gR_s, ↓blk_s, ↓blk_0, goE_0, goE_1, goE_2, bst_0, bst_1, bst_2, TTf_e, st1_0, st1_1, st1_s, st2_0, st2_1, st2_s, jk_I, jk_R, jk_L, jk_J, mkT_0, mkT_1, mkT_2, mkT_3, sw_n, sw_c, nJ_n, nJ_I, nJ_L, nJ_R, stW_n, stW_I, stW_R, stW_L, true_and, and_true, Nat.reduceAdd, Nat.reduceLeDiff, Int.reduceAdd, up_at, Int.reduceEq, Int.reduceLE, Int.reduceLT, false_and, and_false, and_self, if_false, if_true, Int.reduceNeg, List.cons_append, List.nil_append, not_true_eq_false, not_false_eq_true, false_implies, true_implies, implies_true, true_or, or_true, false_or, or_false, aX5_countIn_0, aX5_countIn_1, aX5_countIn_2, aX5_countIn_3, aX5_countIn_4, aX5_countIn_5, aX5_countIn_6, aX5_countIn_9, aX5_countIn_12, aX5_countIn_13, aX5_countIn_16, aX5_countIn_17, aX5_countIn_18, aX5_countIn_20, aX5_countIn_22, aX5_countIn_25, aX5_countIn_26, aX5_countIn_28, aX5_countIn_31, aX5_countIn_32, aX5_countIn_33, aX5_countIn_34, aX5_countIn_35, aX5_countIn_38, aX5_countIn_41, aX5_countIn_44, aX5_countIn_47, aX5_countIn_48, CK_51 h.1, g1, hn]
    unfold cntF at hq
    rw [Int.add_zero] at hq
    exact hq
  | succ m ih =>
    intro i c y hm h0 hc hq
    have hn : ¬ L ≤ i := by omega
    have g3 := (g2 i h0 (by omega)).1
    have hp := hin i h0 (by omega)
    have hb : ∀ b, bt X (l.getD i.toNat (0, 0)).1 = b → cntF (fun i => bt X (l.getD i.toNat (0, 0)).1) i (m + 1) = (if b = true then 1 else 0) + cntF (fun i => bt X (l.getD i.toNat (0, 0)).1) (i + 1) m := by
      intro b hb
      cases b
      · have e := cntF_f (p := fun i : Int => bt X (l.getD i.toNat (0, 0)).1) (i := i) (m := m) hb
        rw [e]; simp
      · have e := cntF_t (p := fun i : Int => bt X (l.getD i.toNat (0, 0)).1) (i := i) (m := m) hb
        rw [e]; simp
    generalize (l.getD i.toNat (0, 0)).1 = p at *
    obtain ⟨p0, p1, p2⟩ := phE h hp.1 hp.2
    have hne : (130 + p = 0) = False := eq_false (by omega)
    have e2 := ushr_bt (s := p) hX hp.1 (by omega)
    cases hbb : bt X p
    · rw [hbb] at e2
      rw [hb false hbb] at hq
      refine TT.go zX5_countIn 200 ?_
      simp only [↓oPush, ↓oIload, ↓oLload, ↓oRload, ↓oIstore, ↓oLstore, ↓oRstore, ↓oIinc, ↓oIadd, ↓oIsub, ↓oImul, ↓oIand, ↓oIor, ↓oIshl, ↓oIshr, ↓oIushr, ↓oIdiv, ↓oIrem, ↓oIneg, ↓oLadd, ↓oLmul, ↓oLand, ↓oLor, ↓oLxor, ↓oLshl, ↓oLshr, ↓oLushr, ↓oLcmp, ↓oI2l, ↓oL2i, ↓oI2b, ↓oI2s, ↓oDup, ↓oPop, ↓oDupx1, ↓oDupx2, ↓oDup2, ↓oGoto, ↓oIfEq, ↓oIfNe, ↓oIfLt, ↓oIfGe, ↓oIfGt, ↓oIfLe, ↓oIcEq, ↓oIcNe, ↓oIcLt, ↓oIcGe, ↓oIcGt, ↓oIcLe, ↓oIfnull, ↓oIfnonnull, ↓oSwitch, ↓oGetf, ↓oPutf, ↓oNew, ↓oNewa, ↓oAlen, ↓oIald, ↓oLald, ↓oZald, ↓oAald, ↓oIast, ↓oLast, ↓oZast, ↓oAast, ↓oCast, ↓oObji, ↓oRetI, ↓oRetZ, ↓oRetL, ↓oRetA, ↓oRetV, ↓oInvS, ↓oInvV, ↓oInvI, ↓oFail, ↓oAcEq, ↓oGetE, ↓oAlenE, ↓oAastO, ↓oCopyL, ↓oCopyK, ↓oInvS8, ↓oLdcS, ↓oMmax, ↓oMmin, ↓oMabs, ↓oAlenE, ↓popI_I, ↓popL_L, ↓popR_R, ↓popS_I, ↓popS_R, ↓popN_0, ↓popN_s, ↓popT_0, ↓popT_1, ↓popT_2, ↓popT_3, ↓gI_0, ↓gI_s, ↓gL_0, ↓gL_s, ↓gR_0, ↓gR_s, ↓blk_s, ↓blk_0, goE_0, goE_1, goE_2, bst_0, bst_1, bst_2, TTf_e, st1_0, st1_1, st1_s, st2_0, st2_1, st2_s, jk_I, jk_R, jk_L, jk_J, mkT_0, mkT_1, mkT_2, mkT_3, sw_n, sw_c, nJ_n, nJ_I, nJ_L, nJ_R, stW_n, stW_I, stW_R, stW_L, true_and, and_true, Nat.reduceAdd, Nat.reduceLeDiff, Int.reduceAdd, up_at, Int.reduceEq, Int.reduceLE, Int.reduceLT, false_and, and_false, and_self, if_false, if_true, Int.reduceNeg, List.cons_append, List.nil_append, not_true_eq_false, not_false_eq_true, false_implies, true_implies, implies_true, true_or, or_true, false_or, or_false, aX5_countIn_0, aX5_countIn_1, aX5_countIn_2, aX5_countIn_3, aX5_countIn_4, aX5_countIn_5, aX5_countIn_6, aX5_countIn_9, aX5_countIn_12, aX5_countIn_13, aX5_countIn_16, aX5_countIn_17, aX5_countIn_18, aX5_countIn_20, aX5_countIn_22, aX5_countIn_25, aX5_countIn_26, aX5_countIn_28, aX5_countIn_31, aX5_countIn_32, aX5_countIn_33, aX5_countIn_34, aX5_countIn_35, aX5_countIn_38, aX5_countIn_41, aX5_countIn_44, aX5_countIn_47, aX5_countIn_48, CK_51 h.1, g1, hn, CF_51_0 h.2.1, CK_52 h.1, g3, hne, p0, p1, e2, bF0]
      refine ⟨h0, by omega, ?_⟩
      (try simp (disch := omega) only [w32_i] at *)
      refine ih (i + 1) c _ (by omega) (by omega) (by omega) ?_
      simpa using hq
    · rw [hbb] at e2
      rw [hb true hbb] at hq
      refine TT.go zX5_countIn 200 ?_
      simp only [↓oPush, ↓oIload, ↓oLload, ↓oRload, ↓oIstore, ↓oLstore, ↓oRstore, ↓oIinc, ↓oIadd, ↓oIsub, ↓oImul, ↓oIand, ↓oIor, ↓oIshl, ↓oIshr, ↓oIushr, ↓oIdiv, ↓oIrem, ↓oIneg, ↓oLadd, ↓oLmul, ↓oLand, ↓oLor, ↓oLxor, ↓oLshl, ↓oLshr, ↓oLushr, ↓oLcmp, ↓oI2l, ↓oL2i, ↓oI2b, ↓oI2s, ↓oDup, ↓oPop, ↓oDupx1, ↓oDupx2, ↓oDup2, ↓oGoto, ↓oIfEq, ↓oIfNe, ↓oIfLt, ↓oIfGe, ↓oIfGt, ↓oIfLe, ↓oIcEq, ↓oIcNe, ↓oIcLt, ↓oIcGe, ↓oIcGt, ↓oIcLe, ↓oIfnull, ↓oIfnonnull, ↓oSwitch, ↓oGetf, ↓oPutf, ↓oNew, ↓oNewa, ↓oAlen, ↓oIald, ↓oLald, ↓oZald, ↓oAald, ↓oIast, ↓oLast, ↓oZast, ↓oAast, ↓oCast, ↓oObji, ↓oRetI, ↓oRetZ, ↓oRetL, ↓oRetA, ↓oRetV, ↓oInvS, ↓oInvV, ↓oInvI, ↓oFail, ↓oAcEq, ↓oGetE, ↓oAlenE, ↓oAastO, ↓oCopyL, ↓oCopyK, ↓oInvS8, ↓oLdcS, ↓oMmax, ↓oMmin, ↓oMabs, ↓oAlenE, ↓popI_I, ↓popL_L, ↓popR_R, ↓popS_I, ↓popS_R, ↓popN_0, ↓popN_s, ↓popT_0, ↓popT_1, ↓popT_2, ↓popT_3, ↓gI_0, ↓gI_s, ↓gL_0, ↓gL_s, ↓gR_0, ↓gR_s, ↓blk_s, ↓blk_0, goE_0, goE_1, goE_2, bst_0, bst_1, bst_2, TTf_e, st1_0, st1_1, st1_s, st2_0, st2_1, st2_s, jk_I, jk_R, jk_L, jk_J, mkT_0, mkT_1, mkT_2, mkT_3, sw_n, sw_c, nJ_n, nJ_I, nJ_L, nJ_R, stW_n, stW_I, stW_R, stW_L, true_and, and_true, Nat.reduceAdd, Nat.reduceLeDiff, Int.reduceAdd, up_at, Int.reduceEq, Int.reduceLE, Int.reduceLT, false_and, and_false, and_self, if_false, if_true, Int.reduceNeg, List.cons_append, List.nil_append, not_true_eq_false, not_false_eq_true, false_implies, true_implies, implies_true, true_or, or_true, false_or, or_false, aX5_countIn_0, aX5_countIn_1, aX5_countIn_2, aX5_countIn_3, aX5_countIn_4, aX5_countIn_5, aX5_countIn_6, aX5_countIn_9, aX5_countIn_12, aX5_countIn_13, aX5_countIn_16, aX5_countIn_17, aX5_countIn_18, aX5_countIn_20, aX5_countIn_22, aX5_countIn_25, aX5_countIn_26, aX5_countIn_28, aX5_countIn_31, aX5_countIn_32, aX5_countIn_33, aX5_countIn_34, aX5_countIn_35, aX5_countIn_38, aX5_countIn_41, aX5_countIn_44, aX5_countIn_47, aX5_countIn_48, CK_51 h.1, g1, hn, CF_51_0 h.2.1, CK_52 h.1, g3, hne, p0, p1, e2, bT1]
      refine ⟨h0, by omega, ?_⟩
      (try simp (disch := omega) only [w32_i] at *)
      refine ih (i + 1) (c + 1) _ (by omega) (by omega) (by omega) ?_
      rw [Int.add_assoc]
      simpa using hq
set_option maxRecDepth 20000 in
theorem m_countIn {d : Nat} {X : Int} {l : List (Int × Int)} {μ : ST} {R : RT} {K : KT} {S : ST} {Q : QF} (h : Rc μ R K S) (hX : in32 X) (hg : Rdg S l) (hL2 : l.length ≤ 24) (hin : ∀ i : Int, 0 ≤ i → i < l.length → 0 ≤ (l.getD i.toNat (0, 0)).1 ∧ (l.getD i.toNat (0, 0)).1 < μ 1000 2) (hq : Q [vI (cntF (fun i => bt X (l.getD i.toNat (0, 0)).1) 0 l.length)] K S) : Mt (d + 1) 0 0 mX5_countIn [vR 51, vI X] K S Q := by
  refine Mt_of_TT (by decide +kernel) (Nat.le_of_ble_eq_true rfl) ?_
  show TT mX5_countIn _ 0 [vR 51, vI X, vJ, vJ, vJ] [] _ _ _ _ _
  refine TT.go zX5_countIn 200 ?_
  simp only [↓oPush, ↓oIload, ↓oLload, ↓oRload, ↓oIstore, ↓oLstore, ↓oRstore, ↓oIinc, ↓oIadd, ↓oIsub, ↓oImul, ↓oIand, ↓oIor, ↓oIshl, ↓oIshr, ↓oIushr, ↓oIdiv, ↓oIrem, ↓oIneg, ↓oLadd, ↓oLmul, ↓oLand, ↓oLor, ↓oLxor, ↓oLshl, ↓oLshr, ↓oLushr, ↓oLcmp, ↓oI2l, ↓oL2i, ↓oI2b, ↓oI2s, ↓oDup, ↓oPop, ↓oDupx1, ↓oDupx2, ↓oDup2, ↓oGoto, ↓oIfEq, ↓oIfNe, ↓oIfLt, ↓oIfGe, ↓oIfGt, ↓oIfLe, ↓oIcEq, ↓oIcNe, ↓oIcLt, ↓oIcGe, ↓oIcGt, ↓oIcLe, ↓oIfnull, ↓oIfnonnull, ↓oSwitch, ↓oGetf, ↓oPutf, ↓oNew, ↓oNewa, ↓oAlen, ↓oIald, ↓oLald, ↓oZald, ↓oAald, ↓oIast, ↓oLast, ↓oZast, ↓oAast, ↓oCast, ↓oObji, ↓oRetI, ↓oRetZ, ↓oRetL, ↓oRetA, ↓oRetV, ↓oInvS, ↓oInvV, ↓oInvI, ↓oFail, ↓oAcEq, ↓oGetE, ↓oAlenE, ↓oAastO, ↓oCopyL, ↓oCopyK, ↓oInvS8, ↓oLdcS, ↓oMmax, ↓oMmin, ↓oMabs, ↓oAlenE, ↓popI_I, ↓popL_L, ↓popR_R, ↓popS_I, ↓popS_R, ↓popN_0, ↓popN_s, ↓popT_0, ↓popT_1, ↓popT_2, ↓popT_3, ↓gI_0, ↓gI_s, ↓gL_0, ↓gL_s, ↓gR_0, ↓gR_s, ↓blk_s, ↓blk_0, goE_0, goE_1, goE_2, bst_0, bst_1, bst_2, TTf_e, st1_0, st1_1, st1_s, st2_0, st2_1, st2_s, jk_I, jk_R, jk_L, jk_J, mkT_0, mkT_1, mkT_2, mkT_3, sw_n, sw_c, nJ_n, nJ_I, nJ_L, nJ_R, stW_n, stW_I, stW_R, stW_L, true_and, and_true, Nat.reduceAdd, Nat.reduceLeDiff, Int.reduceAdd, up_at, Int.reduceEq, Int.reduceLE, Int.reduceLT, false_and, and_false, and_self, if_false, if_true, Int.reduceNeg, List.cons_append, List.nil_append, not_true_eq_false, not_false_eq_true, false_implies, true_implies, implies_true, true_or, or_true, false_or, or_false, aX5_countIn_0, aX5_countIn_1, aX5_countIn_2, aX5_countIn_3, aX5_countIn_4, aX5_countIn_5, aX5_countIn_6, aX5_countIn_9, aX5_countIn_12, aX5_countIn_13, aX5_countIn_16, aX5_countIn_17, aX5_countIn_18, aX5_countIn_20, aX5_countIn_22, aX5_countIn_25, aX5_countIn_26, aX5_countIn_28, aX5_countIn_31, aX5_countIn_32, aX5_countIn_33, aX5_countIn_34, aX5_countIn_35, aX5_countIn_38, aX5_countIn_41, aX5_countIn_44, aX5_countIn_47, aX5_countIn_48]
  exact countIn_l h hX hg rfl (by omega) hin l.length 0 0 _ (by omega) (by omega) (by omega) (by rw [Int.zero_add]; exact hq)
