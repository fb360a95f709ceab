/-! THE READER OF RULES: closes, pops -/
set_option maxRecDepth 20000 in
theorem m_closes {d : Nat} {r s n i dep : Int} {ops : List Int} {acc : List Tok} {μ S0 : ST} {K : KT} {S : ST} {Q : QF} (hK : MK K) (hr : 0 ≤ r ∧ r < 17) (hl : ops.length + acc.length ≤ 99) (hd : -100 ≤ dep - ops.length) (hd2 : dep ≤ 100) (hS : MS μ S0 S) (hc : CS S μ r s n i ops dep acc) (hq : ∀ μ' S', MS μ' S0 S' → SameR r μ μ' → CS S' μ' r s n i (clR ops) (dep - clK ops) (acc ++ List.replicate (clK ops) tNo) → Q [] K S') : Mt (d + 2) 0 0 mX12_closes [vR 1000, vI r] K S Q := by
  refine Mt_of_TT (by decide +kernel) (Nat.le_of_ble_eq_true rfl) ?_
  show TT mX12_closes _ 0 [vR 1000, vI r] [] _ _ _ _ _
  exact closes_l hK hr ops dep acc μ S hl hd hd2 hS hc hq
theorem pops_l {d : Nat} {r s n i dep : Int} {st : Bool} {S0 : ST} {K : KT} {Q : QF} (hK : MK K) (hr : 0 ≤ r ∧ r < 17) :
    ∀ (ops : List Int) (acc : List Tok) (μ S : ST), ops.length + acc.length ≤ 99 → MS μ S0 S → CS S μ r s n i ops dep acc → (∀ μ' S', MS μ' S0 S' → SameR r μ μ' → CS S' μ' r s n i (poR st ops) dep (acc ++ poT st ops) → Q [] K S') → TT mX12_pops (d + 2) 0 [vR 1000, vI r, vI (b01 st)] [] K S 0 0 Q := by
  intro ops
  induction ops with
  | nil =>
    intro acc μ S hl hS hc hq
    have e1 : S 1000 85 = 0 := hc.2.1
    refine TT.go zX12_pops 200 ?_
    simp only [↓oPush, ↓oIload, ↓oLload, ↓oRload, ↓oIstore, ↓oLstore, ↓oRstore, ↓oIinc, ↓oIadd, ↓oIsub, ↓oImul, ↓oIand, ↓oIor, ↓oIshl, ↓oIshr, ↓oIushr, ↓oIdiv, ↓oIrem, ↓oIneg, ↓oLadd, ↓oLmul, ↓oLand, ↓oLor, ↓oLxor, ↓oLshl, ↓oLshr, ↓oLushr, ↓oLcmp, ↓oI2l, ↓oL2i, ↓oI2b, ↓oI2s, ↓oDup, ↓oPop, ↓oDupx1, ↓oDupx2, ↓oDup2, ↓oGoto, ↓oIfEq, ↓oIfNe, ↓oIfLt, ↓oIfGe, ↓oIfGt, ↓oIfLe, ↓oIcEq, ↓oIcNe, ↓oIcLt, ↓oIcGe, ↓oIcGt, ↓oIcLe, ↓oIfnull, ↓oIfnonnull, ↓oSwitch, ↓oGetf, ↓oPutf, ↓oNew, ↓oNewa, ↓oAlen, ↓oIald, ↓oLald, ↓oZald, ↓oAald, ↓oIast, ↓oLast, ↓oZast, ↓oAast, ↓oCast, ↓oObji, ↓oRetI, ↓oRetZ, ↓oRetL, ↓oRetA, ↓oRetV, ↓oInvS, ↓oInvV, ↓oInvI, ↓oFail, ↓oAcEq, ↓oGetE, ↓oAlenE, ↓oAastO, ↓oCopyL, ↓popI_I, ↓popL_L, ↓popR_R, ↓popS_I, ↓popS_R, ↓popN_0, ↓popN_s, ↓popT_0, ↓popT_1, ↓popT_2, ↓popT_3, ↓gI_0, ↓gI_s, ↓gL_0, ↓gL_s, ↓gR_0, ↓gR_s, ↓blk_s, ↓blk_0, goE_0, goE_1, goE_2, bst_0, bst_1, bst_2, TTf_e, st1_0, st1_1, st1_s, st2_0, st2_1, st2_s, jk_I, jk_R, jk_L, jk_J, mkT_0, mkT_1, mkT_2, mkT_3, sw_n, sw_c, nJ_n, nJ_I, nJ_L, nJ_R, stW_n, stW_I, stW_R, stW_L, true_and, and_true, Nat.reduceAdd, Nat.reduceLeDiff, Int.reduceAdd, up_at, Int.reduceEq, Int.reduceLE, Int.reduceLT, false_and, and_false, and_self, if_false, if_true, Int.reduceNeg, List.cons_append, List.nil_append, not_true_eq_false, not_false_eq_true, false_implies, true_implies, implies_true, true_or, or_true, false_or, or_false, aX12_pops_0, aX12_pops_1, aX12_pops_4, aX12_pops_7, aX12_pops_8, aX12_pops_11, aX12_pops_12, aX12_pops_15, aX12_pops_16, aX12_pops_17, aX12_pops_18, aX12_pops_20, aX12_pops_23, aX12_pops_24, aX12_pops_27, aX12_pops_28, aX12_pops_31, aX12_pops_32, aX12_pops_33, aX12_pops_34, aX12_pops_36, aX12_pops_39, aX12_pops_40, aX12_pops_43, aX12_pops_44, aX12_pops_45, aX12_pops_48, aX12_pops_49, aX12_pops_50, aX12_pops_53, aX12_pops_54, aX12_pops_55, aX12_pops_56, aX12_pops_59, aX12_pops_60, aX12_pops_63, aX12_pops_64, aX12_pops_66, aX12_pops_69, aX12_pops_71, aX12_pops_74, aX12_pops_76, aX12_pops_79, aX12_pops_82, MK_o hK, e1]
    repeat' (first | refine And.intro ?_ ?_ | refine imp_i (fun _ => ?_))
    all_goals first | omega | exact hq μ S hS SameR.rfl' (by simpa [poR, poT] using hc)
  | cons x xs ih =>
    intro acc μ S hl hS hc hq
    have e1 : S 1000 85 = xs.length + 1 := by rw [hc.2.1]; simp
    have e2 : S 1078 xs.length = x := hc.2.2.1.1
    simp only [List.length_cons] at hl
    have w1 : w32 ((xs.length : Int) + 1 - 1) = xs.length := by rw [w32_i (by omega) (by omega)]; omega
    have hb := b01_in st
    by_cases hx : x = 38 ∨ (x = 124 ∧ st = false)
    · have hb0 : x ≠ 38 → b01 st = 0 := fun z => by rcases hx with h | h; exact absurd h z; rw [h.2]; rfl
      have h1 := MS_scr (a := 1000) (i := 85) (v := (xs.length : Int)) hS (by unfold scr; omega)
      have hc1 : CS (up S 1000 85 (xs.length : Int)) μ r s n i xs dep acc := by
        obtain ⟨⟨g1, g2, g3⟩, g4, g5, g6, g7, g8, g9⟩ := hc
        refine ⟨⟨?_, ?_, ?_⟩, ?_, ?_, ?_, ?_, ?_, g9⟩
        · simp only [up_at, Int.reduceEq, and_false, if_false]; exact g1
        · simp only [up_at, Int.reduceEq, and_false, if_false]; exact g2
        · simp only [up_at, Int.reduceEq, and_false, if_false]; exact g3
        · simp only [up_at, Int.reduceEq, and_false, if_false, and_self, if_true]
        · exact OS_same xs (fun j _ _ => by rw [up_na (by omega)]) g5.2
        · simp only [up_at, Int.reduceEq, and_false, if_false]; exact g6
        · simp only [up_at, Int.reduceEq, and_false, if_false]; exact g7
        · simp only [up_at, Int.reduceEq, and_false, if_false]; exact g8
      have hfin : ∀ c, c = (if x = 38 then -2 else -3) → GG (d + 1) mX12_emits [vR 1000, vI r, vI c] K (up S 1000 85 (xs.length : Int)) 0 0 (fun r' K' S' cb' nb' => TT mX12_pops (d + 2) 79 [vR 1000, vI r, vI (b01 st)] (r' ++ []) K' S' cb' nb' Q) := by
        intro c hcc
        refine GG.of0 (m_emits (d := d) (n := acc.length) hK h1 hr (by omega) hc1.2.2.2.2.1 (fun S2 h2 e => ?_))
        have hc2 := CS_emit (u := .inr (decide (x = 38))) (c := c) hc1 (by rw [hcc]; by_cases z : x = 38 <;> simp [z, tkC])
        rw [← e] at hc2
        refine TT.go zX12_pops 200 ?_
        simp only [↓oPush, ↓oIload, ↓oLload, ↓oRload, ↓oIstore, ↓oLstore, ↓oRstore, ↓oIinc, ↓oIadd, ↓oIsub, ↓oImul, ↓oIand, ↓oIor, ↓oIshl, ↓oIshr, ↓oIushr, ↓oIdiv, ↓oIrem, ↓oIneg, ↓oLadd, ↓oLmul, ↓oLand, ↓oLor, ↓oLxor, ↓oLshl, ↓oLshr, ↓oLushr, ↓oLcmp, ↓oI2l, ↓oL2i, ↓oI2b, ↓oI2s, ↓oDup, ↓oPop, ↓oDupx1, ↓oDupx2, ↓oDup2, ↓oGoto, ↓oIfEq, ↓oIfNe, ↓oIfLt, ↓oIfGe, ↓oIfGt, ↓oIfLe, ↓oIcEq, ↓oIcNe, ↓oIcLt, ↓oIcGe, ↓oIcGt, ↓oIcLe, ↓oIfnull, ↓oIfnonnull, ↓oSwitch, ↓oGetf, ↓oPutf, ↓oNew, ↓oNewa, ↓oAlen, ↓oIald, ↓oLald, ↓oZald, ↓oAald, ↓oIast, ↓oLast, ↓oZast, ↓oAast, ↓oCast, ↓oObji, ↓oRetI, ↓oRetZ, ↓oRetL, ↓oRetA, ↓oRetV, ↓oInvS, ↓oInvV, ↓oInvI, ↓oFail, ↓oAcEq, ↓oGetE, ↓oAlenE, ↓oAastO, ↓oCopyL, ↓popI_I, ↓popL_L, ↓popR_R, ↓popS_I, ↓popS_R, ↓popN_0, ↓popN_s, ↓popT_0, ↓popT_1, ↓popT_2, ↓popT_3, ↓gI_0, ↓gI_s, ↓gL_0, ↓gL_s, ↓gR_0, ↓gR_s, ↓blk_s, ↓blk_0, goE_0, goE_1, goE_2, bst_0, bst_1, bst_2, TTf_e, st1_0, st1_1, st1_s, st2_0, st2_1, st2_s, jk_I, jk_R, jk_L, jk_J, mkT_0, mkT_1, mkT_2, mkT_3, sw_n, sw_c, nJ_n, nJ_I, nJ_L, nJ_R, stW_n, stW_I, stW_R, stW_L, true_and, and_true, Nat.reduceAdd, Nat.reduceLeDiff, Int.reduceAdd, up_at, Int.reduceEq, Int.reduceLE, Int.reduceLT, false_and, and_false, and_self, if_false, if_true, Int.reduceNeg, List.cons_append, List.nil_append, not_true_eq_false, not_false_eq_true, false_implies, true_implies, implies_true, true_or, or_true, false_or, or_false, aX12_pops_0, aX12_pops_1, aX12_pops_4, aX12_pops_7, aX12_pops_8, aX12_pops_11, aX12_pops_12, aX12_pops_15, aX12_pops_16, aX12_pops_17, aX12_pops_18, aX12_pops_20, aX12_pops_23, aX12_pops_24, aX12_pops_27, aX12_pops_28, aX12_pops_31, aX12_pops_32, aX12_pops_33, aX12_pops_34, aX12_pops_36, aX12_pops_39, aX12_pops_40, aX12_pops_43, aX12_pops_44, aX12_pops_45, aX12_pops_48, aX12_pops_49, aX12_pops_50, aX12_pops_53, aX12_pops_54, aX12_pops_55, aX12_pops_56, aX12_pops_59, aX12_pops_60, aX12_pops_63, aX12_pops_64, aX12_pops_66, aX12_pops_69, aX12_pops_71, aX12_pops_74, aX12_pops_76, aX12_pops_79, aX12_pops_82, MK_o hK]
        refine ih (acc ++ [.inr (.inr (decide (x = 38)))]) _ S2 (by simp; omega) h2 hc2 (fun μ' S' k1 k2 k3 => hq μ' S' k1 (SameR.trans (SameR.rfl'.c (by omega)) k2) ?_)
        rw [poR, poT, if_pos hx, if_pos hx]
        rw [List.append_assoc] at k3
        have et : (if x = 38 then tAn else tOr) = (.inr (.inr (decide (x = 38))) : Tok) := by by_cases z : x = 38 <;> simp [z]
        rw [et]
        exact k3
      refine TT.go zX12_pops 200 ?_
      simp only [↓oPush, ↓oIload, ↓oLload, ↓oRload, ↓oIstore, ↓oLstore, ↓oRstore, ↓oIinc, ↓oIadd, ↓oIsub, ↓oImul, ↓oIand, ↓oIor, ↓oIshl, ↓oIshr, ↓oIushr, ↓oIdiv, ↓oIrem, ↓oIneg, ↓oLadd, ↓oLmul, ↓oLand, ↓oLor, ↓oLxor, ↓oLshl, ↓oLshr, ↓oLushr, ↓oLcmp, ↓oI2l, ↓oL2i, ↓oI2b, ↓oI2s, ↓oDup, ↓oPop, ↓oDupx1, ↓oDupx2, ↓oDup2, ↓oGoto, ↓oIfEq, ↓oIfNe, ↓oIfLt, ↓oIfGe, ↓oIfGt, ↓oIfLe, ↓oIcEq, ↓oIcNe, ↓oIcLt, ↓oIcGe, ↓oIcGt, ↓oIcLe, ↓oIfnull, ↓oIfnonnull, ↓oSwitch, ↓oGetf, ↓oPutf, ↓oNew, ↓oNewa, ↓oAlen, ↓oIald, ↓oLald, ↓oZald, ↓oAald, ↓oIast, ↓oLast, ↓oZast, ↓oAast, ↓oCast, ↓oObji, ↓oRetI, ↓oRetZ, ↓oRetL, ↓oRetA, ↓oRetV, ↓oInvS, ↓oInvV, ↓oInvI, ↓oFail, ↓oAcEq, ↓oGetE, ↓oAlenE, ↓oAastO, ↓oCopyL, ↓popI_I, ↓popL_L, ↓popR_R, ↓popS_I, ↓popS_R, ↓popN_0, ↓popN_s, ↓popT_0, ↓popT_1, ↓popT_2, ↓popT_3, ↓gI_0, ↓gI_s, ↓gL_0, ↓gL_s, ↓gR_0, ↓gR_s, ↓blk_s, ↓blk_0, goE_0, goE_1, goE_2, bst_0, bst_1, bst_2, TTf_e, st1_0, st1_1, st1_s, st2_0, st2_1, st2_s, jk_I, jk_R, jk_L, jk_J, mkT_0, mkT_1, mkT_2, mkT_3, sw_n, sw_c, nJ_n, nJ_I, nJ_L, nJ_R, stW_n, stW_I, stW_R, stW_L, true_and, and_true, Nat.reduceAdd, Nat.reduceLeDiff, Int.reduceAdd, up_at, Int.reduceEq, Int.reduceLE, Int.reduceLT, false_and, and_false, and_self, if_false, if_true, Int.reduceNeg, List.cons_append, List.nil_append, not_true_eq_false, not_false_eq_true, false_implies, true_implies, implies_true, true_or, or_true, false_or, or_false, aX12_pops_0, aX12_pops_1, aX12_pops_4, aX12_pops_7, aX12_pops_8, aX12_pops_11, aX12_pops_12, aX12_pops_15, aX12_pops_16, aX12_pops_17, aX12_pops_18, aX12_pops_20, aX12_pops_23, aX12_pops_24, aX12_pops_27, aX12_pops_28, aX12_pops_31, aX12_pops_32, aX12_pops_33, aX12_pops_34, aX12_pops_36, aX12_pops_39, aX12_pops_40, aX12_pops_43, aX12_pops_44, aX12_pops_45, aX12_pops_48, aX12_pops_49, aX12_pops_50, aX12_pops_53, aX12_pops_54, aX12_pops_55, aX12_pops_56, aX12_pops_59, aX12_pops_60, aX12_pops_63, aX12_pops_64, aX12_pops_66, aX12_pops_69, aX12_pops_71, aX12_pops_74, aX12_pops_76, aX12_pops_79, aX12_pops_82, MK_o hK, e1, w1, e2, MK_ops hK, MR_ops hS]
      repeat' (first | refine And.intro ?_ ?_ | refine imp_i (fun _ => ?_))
      all_goals (try simp (disch := omega) only [w32_i, w64_i] at *)
      all_goals first
        | omega
        | exact hfin _ (by rw [if_pos (by omega)])
        | exact hfin _ (by rw [if_neg (by omega)])
        | skip
    · have hq := hq μ S hS SameR.rfl'
      have hb1 : x = 124 → b01 st = 1 := fun z => by cases st; exact absurd (Or.inr ⟨z, rfl⟩) hx; rfl
      have hx38 : x ≠ 38 := fun z => hx (Or.inl z)
      rw [poR, poT, if_neg hx, if_neg hx] at hq
      refine TT.go zX12_pops 200 ?_
      simp only [↓oPush, ↓oIload, ↓oLload, ↓oRload, ↓oIstore, ↓oLstore, ↓oRstore, ↓oIinc, ↓oIadd, ↓oIsub, ↓oImul, ↓oIand, ↓oIor, ↓oIshl, ↓oIshr, ↓oIushr, ↓oIdiv, ↓oIrem, ↓oIneg, ↓oLadd, ↓oLmul, ↓oLand, ↓oLor, ↓oLxor, ↓oLshl, ↓oLshr, ↓oLushr, ↓oLcmp, ↓oI2l, ↓oL2i, ↓oI2b, ↓oI2s, ↓oDup, ↓oPop, ↓oDupx1, ↓oDupx2, ↓oDup2, ↓oGoto, ↓oIfEq, ↓oIfNe, ↓oIfLt, ↓oIfGe, ↓oIfGt, ↓oIfLe, ↓oIcEq, ↓oIcNe, ↓oIcLt, ↓oIcGe, ↓oIcGt, ↓oIcLe, ↓oIfnull, ↓oIfnonnull, ↓oSwitch, ↓oGetf, ↓oPutf, ↓oNew, ↓oNewa, ↓oAlen, ↓oIald, ↓oLald, ↓oZald, ↓oAald, ↓oIast, ↓oLast, ↓oZast, ↓oAast, ↓oCast, ↓oObji, ↓oRetI, ↓oRetZ, ↓oRetL, ↓oRetA, ↓oRetV, ↓oInvS, ↓oInvV, ↓oInvI, ↓oFail, ↓oAcEq, ↓oGetE, ↓oAlenE, ↓oAastO, ↓oCopyL, ↓popI_I, ↓popL_L, ↓popR_R, ↓popS_I, ↓popS_R, ↓popN_0, ↓popN_s, ↓popT_0, ↓popT_1, ↓popT_2, ↓popT_3, ↓gI_0, ↓gI_s, ↓gL_0, ↓gL_s, ↓gR_0, ↓gR_s, ↓blk_s, ↓blk_0, goE_0, goE_1, goE_2, bst_0, bst_1, bst_2, TTf_e, st1_0, st1_1, st1_s, st2_0, st2_1, st2_s, jk_I, jk_R, jk_L, jk_J, mkT_0, mkT_1, mkT_2, mkT_3, sw_n, sw_c, nJ_n, nJ_I, nJ_L, nJ_R, stW_n, stW_I, stW_R, stW_L, true_and, and_true, Nat.reduceAdd, Nat.reduceLeDiff, Int.reduceAdd, up_at, Int.reduceEq, Int.reduceLE, Int.reduceLT, false_and, and_false, and_self, if_false, if_true, Int.reduceNeg, List.cons_append, List.nil_append, not_true_eq_false, not_false_eq_true, false_implies, true_implies, implies_true, true_or, or_true, false_or, or_false, aX12_pops_0, aX12_pops_1, aX12_pops_4, aX12_pops_7, aX12_pops_8, aX12_pops_11, aX12_pops_12, aX12_pops_15, aX12_pops_16, aX12_pops_17, aX12_pops_18, aX12_pops_20, aX12_pops_23, aX12_pops_24, aX12_pops_27, aX12_pops_28, aX12_pops_31, aX12_pops_32, aX12_pops_33, aX12_pops_34, aX12_pops_36, aX12_pops_39, aX12_pops_40, aX12_pops_43, aX12_pops_44, aX12_pops_45, aX12_pops_48, aX12_pops_49, aX12_pops_50, aX12_pops_53, aX12_pops_54, aX12_pops_55, aX12_pops_56, aX12_pops_59, aX12_pops_60, aX12_pops_63, aX12_pops_64, aX12_pops_66, aX12_pops_69, aX12_pops_71, aX12_pops_74, aX12_pops_76, aX12_pops_79, aX12_pops_82, MK_o hK, e1, w1, e2, MK_ops hK, MR_ops hS]
      repeat' (first | refine And.intro ?_ ?_ | refine imp_i (fun _ => ?_))
      all_goals first | omega | exact hq (by simpa using hc)
set_option maxRecDepth 20000 in
theorem m_pops {d : Nat} {r s n i dep : Int} {st : Bool} {ops : List Int} {acc : List Tok} {μ S0 : ST} {K : KT} {S : ST} {Q : QF} (hK : MK K) (hr : 0 ≤ r ∧ r < 17) (hl : ops.length + acc.length ≤ 99) (hS : MS μ S0 S) (hc : CS S μ r s n i ops dep acc) (hq : ∀ μ' S', MS μ' S0 S' → SameR r μ μ' → CS S' μ' r s n i (poR st ops) dep (acc ++ poT st ops) → Q [] K S') : Mt (d + 2) 0 0 mX12_pops [vR 1000, vI r, vI (b01 st)] K S Q := by
  refine Mt_of_TT (by decide +kernel) (Nat.le_of_ble_eq_true rfl) ?_
  show TT mX12_pops _ 0 [vR 1000, vI r, vI (b01 st)] [] _ _ _ _ _
  exact pops_l hK hr ops acc μ S hl hS hc hq
