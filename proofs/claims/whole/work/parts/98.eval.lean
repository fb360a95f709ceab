/-! THE CLASS'S RULES: what a rule says of facts -/
def OkT : List Tok → Prop
  | [] => True
  | .inl (sg, l, r) :: ts => (sg = 60 ∨ sg = 61 ∨ sg = 62) ∧ (-10 ≤ l ∧ l ≤ 9999) ∧ (-10 ≤ r ∧ r ≤ 9999) ∧ OkT ts
  | .inr _ :: ts => OkT ts
/-- the heap of what waits, in the bits of one number -/
def hpk (g : Int → Bool) : Nat → Int
  | 0 => 0
  | n + 1 => 2 * hpk g n + b01 (g n)
theorem hpk_in (g : Int → Bool) : ∀ n, 0 ≤ hpk g n ∧ hpk g n < 2 ^ n
  | 0 => by simp [hpk]
  | n + 1 => by
    have h := hpk_in g n
    have e : (2 : Int) ^ (n + 1) = 2 ^ n * 2 := Int.pow_succ _ _
    have : b01 (g n) = 0 ∨ b01 (g n) = 1 := by cases g n <;> simp [b01]
    show 0 ≤ 2 * hpk g n + b01 (g n) ∧ 2 * hpk g n + b01 (g n) < 2 ^ (n + 1)
    omega
theorem hpk_g (g : Int → Bool) (i : Int) (b : Bool) : ∀ n : Nat, (n : Int) ≤ i → hpk (gup g i b) n = hpk g n
  | 0, _ => rfl
  | n + 1, h => by
    show 2 * hpk (gup g i b) n + b01 (gup g i b n) = 2 * hpk g n + b01 (g n)
    rw [hpk_g g i b n (by omega)]
    unfold gup
    rw [if_neg (by omega)]
theorem hpk_push (g : Int → Bool) (n : Nat) (b : Bool) : 2 * hpk g n + b01 b = hpk (gup g n b) (n + 1) := by
  show _ = 2 * hpk (gup g n b) n + b01 (gup g n b n)
  rw [hpk_g g n b n (Int.le_refl _)]
  unfold gup
  rw [if_pos rfl]
theorem hpk_2 (g : Int → Bool) (n : Nat) : hpk g (n + 1) / 2 = hpk g n ∧ hpk g (n + 1) % 2 = b01 (g n) := by
  have : b01 (g n) = 0 ∨ b01 (g n) = 1 := by cases g n <;> simp [b01]
  have e : hpk g (n + 1) = 2 * hpk g n + b01 (g n) := rfl
  omega
theorem hpk_not (g : Int → Bool) (n : Nat) : hpk g (n + 1) / 2 * 2 + (1 - hpk g (n + 1) % 2) = hpk (gup g n (!g n)) (n + 1) := by
  rw [← hpk_push, (hpk_2 g n).1, (hpk_2 g n).2]
  cases g n <;> simp [b01] <;> omega
theorem hpk_and (g : Int → Bool) (n : Nat) : (if hpk g (n + 2) % 2 = 1 then hpk g (n + 2) / 2 else hpk g (n + 2) / 2 / 2 * 2) = hpk (gup g n (g n && g (n + 1 : Nat))) (n + 1) := by
  rw [← hpk_push, (hpk_2 g (n + 1)).1, (hpk_2 g (n + 1)).2, (hpk_2 g n).1]
  have e : hpk g (n + 1) = 2 * hpk g n + b01 (g n) := rfl
  rw [e]
  cases g n <;> cases g (n + 1 : Nat) <;> simp [b01] <;> omega
theorem hpk_or (g : Int → Bool) (n : Nat) : (if hpk g (n + 2) % 2 = 1 then hpk g (n + 2) / 2 / 2 * 2 + 1 else hpk g (n + 2) / 2) = hpk (gup g n (g n || g (n + 1 : Nat))) (n + 1) := by
  rw [← hpk_push, (hpk_2 g (n + 1)).1, (hpk_2 g (n + 1)).2, (hpk_2 g n).1]
  have e : hpk g (n + 1) = 2 * hpk g n + b01 (g n) := rfl
  rw [e]
  cases g n <;> cases g (n + 1 : Nat) <;> simp [b01] <;> omega
set_option maxRecDepth 20000 in
theorem m_isMet {d : Nat} {sg x y : Int} {K : KT} {S : ST} {Q : QF} (hs : sg = 60 ∨ sg = 61 ∨ sg = 62) (hq : Q [vI (b01 (cmpT sg x y))] K S) : Mt (d + 1) 0 0 mX6_isMet [vI sg, vI x, vI y] K S Q := by
  unfold cmpT at hq
  refine Mt_of_TT (by decide +kernel) (Nat.le_of_ble_eq_true rfl) ?_
  show TT mX6_isMet _ 0 [vI sg, vI x, vI y] [] _ _ _ _ _
  rcases hs with rfl | rfl | rfl
  · by_cases c : x < y
    · rw [if_pos rfl, decide_eq_true c, bT1] at hq
      refine TT.go zX6_isMet 200 ?_
      simp only [↓oPush, ↓oIload, ↓oLload, ↓oRload, ↓oIstore, ↓oLstore, ↓oRstore, ↓oIinc, ↓oIadd, ↓oIsub, ↓oImul, ↓oIand, ↓oIor, ↓oIshl, ↓oIshr, ↓oIushr, ↓oIdiv, ↓oIrem, ↓oIneg, ↓oLadd, ↓oLmul, ↓oLand, ↓oLor, ↓oLxor, ↓oLshl, ↓oLshr, ↓oLushr, ↓oLcmp, ↓oI2l, ↓oL2i, ↓oI2b, ↓oI2s, ↓oDup, ↓oPop, ↓oDupx1, ↓oDupx2, ↓oDup2, ↓oGoto, ↓oIfEq, ↓oIfNe, ↓oIfLt, ↓oIfGe, ↓oIfGt, ↓oIfLe, ↓oIcEq, ↓oIcNe, ↓oIcLt, ↓oIcGe, ↓oIcGt, ↓oIcLe, ↓oIfnull, ↓oIfnonnull, ↓oSwitch, ↓oGetf, ↓oPutf, ↓oNew, ↓oNewa, ↓oAlen, ↓oIald, ↓oLald, ↓oZald, ↓oAald, ↓oIast, ↓oLast, ↓oZast, ↓oAast, ↓oCast, ↓oObji, ↓oRetI, ↓oRetZ, ↓oRetL, ↓oRetA, ↓oRetV, ↓oInvS, ↓oInvV, ↓oInvI, ↓oFail, ↓oAcEq, ↓oGetE, ↓oAlenE, ↓oAastO, ↓oCopyL, ↓oCopyK, ↓oInvS8, ↓oLdcS, ↓oMmax, ↓oMmin, ↓oMabs, ↓oAlenE, ↓popI_I, ↓popL_L, ↓popR_R, ↓popS_I, ↓popS_R, ↓popN_0, ↓popN_s, ↓popT_0, ↓popT_1, ↓popT_2, ↓popT_3, ↓gI_0, ↓gI_s, ↓gL_0, ↓gL_s, ↓gR_0, ↓gR_s, ↓blk_s, ↓blk_0, goE_0, goE_1, goE_2, bst_0, bst_1, bst_2, TTf_e, st1_0, st1_1, st1_s, st2_0, st2_1, st2_s, jk_I, jk_R, jk_L, jk_J, mkT_0, mkT_1, mkT_2, mkT_3, sw_n, sw_c, nJ_n, nJ_I, nJ_L, nJ_R, stW_n, stW_I, stW_R, stW_L, true_and, and_true, Nat.reduceAdd, Nat.reduceLeDiff, Int.reduceAdd, up_at, Int.reduceEq, Int.reduceLE, Int.reduceLT, false_and, and_false, and_self, if_false, if_true, Int.reduceNeg, List.cons_append, List.nil_append, not_true_eq_false, not_false_eq_true, false_implies, true_implies, implies_true, true_or, or_true, false_or, or_false, aX6_isMet_0, aX6_isMet_1, aX6_isMet_3, aX6_isMet_6, aX6_isMet_7, aX6_isMet_8, aX6_isMet_11, aX6_isMet_12, aX6_isMet_15, aX6_isMet_16, aX6_isMet_17, aX6_isMet_18, aX6_isMet_20, aX6_isMet_23, aX6_isMet_24, aX6_isMet_25, aX6_isMet_28, aX6_isMet_29, aX6_isMet_32, aX6_isMet_33, aX6_isMet_36, aX6_isMet_37, aX6_isMet_38, aX6_isMet_41, aX6_isMet_42, aX6_isMet_45, aX6_isMet_46, c]
      repeat' (first | refine And.intro ?_ ?_ | refine imp_i (fun _ => ?_))
      all_goals first | exact hq | (exfalso; omega)
    · rw [if_pos rfl, decide_eq_false c, bF0] at hq
      refine TT.go zX6_isMet 200 ?_
      simp only [↓oPush, ↓oIload, ↓oLload, ↓oRload, ↓oIstore, ↓oLstore, ↓oRstore, ↓oIinc, ↓oIadd, ↓oIsub, ↓oImul, ↓oIand, ↓oIor, ↓oIshl, ↓oIshr, ↓oIushr, ↓oIdiv, ↓oIrem, ↓oIneg, ↓oLadd, ↓oLmul, ↓oLand, ↓oLor, ↓oLxor, ↓oLshl, ↓oLshr, ↓oLushr, ↓oLcmp, ↓oI2l, ↓oL2i, ↓oI2b, ↓oI2s, ↓oDup, ↓oPop, ↓oDupx1, ↓oDupx2, ↓oDup2, ↓oGoto, ↓oIfEq, ↓oIfNe, ↓oIfLt, ↓oIfGe, ↓oIfGt, ↓oIfLe, ↓oIcEq, ↓oIcNe, ↓oIcLt, ↓oIcGe, ↓oIcGt, ↓oIcLe, ↓oIfnull, ↓oIfnonnull, ↓oSwitch, ↓oGetf, ↓oPutf, ↓oNew, ↓oNewa, ↓oAlen, ↓oIald, ↓oLald, ↓oZald, ↓oAald, ↓oIast, ↓oLast, ↓oZast, ↓oAast, ↓oCast, ↓oObji, ↓oRetI, ↓oRetZ, ↓oRetL, ↓oRetA, ↓oRetV, ↓oInvS, ↓oInvV, ↓oInvI, ↓oFail, ↓oAcEq, ↓oGetE, ↓oAlenE, ↓oAastO, ↓oCopyL, ↓oCopyK, ↓oInvS8, ↓oLdcS, ↓oMmax, ↓oMmin, ↓oMabs, ↓oAlenE, ↓popI_I, ↓popL_L, ↓popR_R, ↓popS_I, ↓popS_R, ↓popN_0, ↓popN_s, ↓popT_0, ↓popT_1, ↓popT_2, ↓popT_3, ↓gI_0, ↓gI_s, ↓gL_0, ↓gL_s, ↓gR_0, ↓gR_s, ↓blk_s, ↓blk_0, goE_0, goE_1, goE_2, bst_0, bst_1, bst_2, TTf_e, st1_0, st1_1, st1_s, st2_0, st2_1, st2_s, jk_I, jk_R, jk_L, jk_J, mkT_0, mkT_1, mkT_2, mkT_3, sw_n, sw_c, nJ_n, nJ_I, nJ_L, nJ_R, stW_n, stW_I, stW_R, stW_L, true_and, and_true, Nat.reduceAdd, Nat.reduceLeDiff, Int.reduceAdd, up_at, Int.reduceEq, Int.reduceLE, Int.reduceLT, false_and, and_false, and_self, if_false, if_true, Int.reduceNeg, List.cons_append, List.nil_append, not_true_eq_false, not_false_eq_true, false_implies, true_implies, implies_true, true_or, or_true, false_or, or_false, aX6_isMet_0, aX6_isMet_1, aX6_isMet_3, aX6_isMet_6, aX6_isMet_7, aX6_isMet_8, aX6_isMet_11, aX6_isMet_12, aX6_isMet_15, aX6_isMet_16, aX6_isMet_17, aX6_isMet_18, aX6_isMet_20, aX6_isMet_23, aX6_isMet_24, aX6_isMet_25, aX6_isMet_28, aX6_isMet_29, aX6_isMet_32, aX6_isMet_33, aX6_isMet_36, aX6_isMet_37, aX6_isMet_38, aX6_isMet_41, aX6_isMet_42, aX6_isMet_45, aX6_isMet_46, c]
      repeat' (first | refine And.intro ?_ ?_ | refine imp_i (fun _ => ?_))
      all_goals first | exact hq | (exfalso; omega)
  · by_cases c : x = y
    · rw [if_neg (by decide), if_neg (by decide), decide_eq_true c, bT1] at hq
      refine TT.go zX6_isMet 200 ?_
      simp only [↓oPush, ↓oIload, ↓oLload, ↓oRload, ↓oIstore, ↓oLstore, ↓oRstore, ↓oIinc, ↓oIadd, ↓oIsub, ↓oImul, ↓oIand, ↓oIor, ↓oIshl, ↓oIshr, ↓oIushr, ↓oIdiv, ↓oIrem, ↓oIneg, ↓oLadd, ↓oLmul, ↓oLand, ↓oLor, ↓oLxor, ↓oLshl, ↓oLshr, ↓oLushr, ↓oLcmp, ↓oI2l, ↓oL2i, ↓oI2b, ↓oI2s, ↓oDup, ↓oPop, ↓oDupx1, ↓oDupx2, ↓oDup2, ↓oGoto, ↓oIfEq, ↓oIfNe, ↓oIfLt, ↓oIfGe, ↓oIfGt, ↓oIfLe, ↓oIcEq, ↓oIcNe, ↓oIcLt, ↓oIcGe, ↓oIcGt, ↓oIcLe, ↓oIfnull, ↓oIfnonnull, ↓oSwitch, ↓oGetf, ↓oPutf, ↓oNew, ↓oNewa, ↓oAlen, ↓oIald, ↓oLald, ↓oZald, ↓oAald, ↓oIast, ↓oLast, ↓oZast, ↓oAast, ↓oCast, ↓oObji, ↓oRetI, ↓oRetZ, ↓oRetL, ↓oRetA, ↓oRetV, ↓oInvS, ↓oInvV, ↓oInvI, ↓oFail, ↓oAcEq, ↓oGetE, ↓oAlenE, ↓oAastO, ↓oCopyL, ↓oCopyK, ↓oInvS8, ↓oLdcS, ↓oMmax, ↓oMmin, ↓oMabs, ↓oAlenE, ↓popI_I, ↓popL_L, ↓popR_R, ↓popS_I, ↓popS_R, ↓popN_0, ↓popN_s, ↓popT_0, ↓popT_1, ↓popT_2, ↓popT_3, ↓gI_0, ↓gI_s, ↓gL_0, ↓gL_s, ↓gR_0, ↓gR_s, ↓blk_s, ↓blk_0, goE_0, goE_1, goE_2, bst_0, bst_1, bst_2, TTf_e, st1_0, st1_1, st1_s, st2_0, st2_1, st2_s, jk_I, jk_R, jk_L, jk_J, mkT_0, mkT_1, mkT_2, mkT_3, sw_n, sw_c, nJ_n, nJ_I, nJ_L, nJ_R, stW_n, stW_I, stW_R, stW_L, true_and, and_true, Nat.reduceAdd, Nat.reduceLeDiff, Int.reduceAdd, up_at, Int.reduceEq, Int.reduceLE, Int.reduceLT, false_and, and_false, and_self, if_false, if_true, Int.reduceNeg, List.cons_append, List.nil_append, not_true_eq_false, not_false_eq_true, false_implies, true_implies, implies_true, true_or, or_true, false_or, or_false, aX6_isMet_0, aX6_isMet_1, aX6_isMet_3, aX6_isMet_6, aX6_isMet_7, aX6_isMet_8, aX6_isMet_11, aX6_isMet_12, aX6_isMet_15, aX6_isMet_16, aX6_isMet_17, aX6_isMet_18, aX6_isMet_20, aX6_isMet_23, aX6_isMet_24, aX6_isMet_25, aX6_isMet_28, aX6_isMet_29, aX6_isMet_32, aX6_isMet_33, aX6_isMet_36, aX6_isMet_37, aX6_isMet_38, aX6_isMet_41, aX6_isMet_42, aX6_isMet_45, aX6_isMet_46, c]
      repeat' (first | refine And.intro ?_ ?_ | refine imp_i (fun _ => ?_))
      all_goals first | exact hq | (exfalso; omega)
    · rw [if_neg (by decide), if_neg (by decide), decide_eq_false c, bF0] at hq
      refine TT.go zX6_isMet 200 ?_
      simp only [↓oPush, ↓oIload, ↓oLload, ↓oRload, ↓oIstore, ↓oLstore, ↓oRstore, ↓oIinc, ↓oIadd, ↓oIsub, ↓oImul, ↓oIand, ↓oIor, ↓oIshl, ↓oIshr, ↓oIushr, ↓oIdiv, ↓oIrem, ↓oIneg, ↓oLadd, ↓oLmul, ↓oLand, ↓oLor, ↓oLxor, ↓oLshl, ↓oLshr, ↓oLushr, ↓oLcmp, ↓oI2l, ↓oL2i, ↓oI2b, ↓oI2s, ↓oDup, ↓oPop, ↓oDupx1, ↓oDupx2, ↓oDup2, ↓oGoto, ↓oIfEq, ↓oIfNe, ↓oIfLt, ↓oIfGe, ↓oIfGt, ↓oIfLe, ↓oIcEq, ↓oIcNe, ↓oIcLt, ↓oIcGe, ↓oIcGt, ↓oIcLe, ↓oIfnull, ↓oIfnonnull, ↓oSwitch, ↓oGetf, ↓oPutf, ↓oNew, ↓oNewa, ↓oAlen, ↓oIald, ↓oLald, ↓oZald, ↓oAald, ↓oIast, ↓oLast, ↓oZast, ↓oAast, ↓oCast, ↓oObji, ↓oRetI, ↓oRetZ, ↓oRetL, ↓oRetA, ↓oRetV, ↓oInvS, ↓oInvV, ↓oInvI, ↓oFail, ↓oAcEq, ↓oGetE, ↓oAlenE, ↓oAastO, ↓oCopyL, ↓oCopyK, ↓oInvS8, ↓oLdcS, ↓oMmax, ↓oMmin, ↓oMabs, ↓oAlenE, ↓popI_I, ↓popL_L, ↓popR_R, ↓popS_I, ↓popS_R, ↓popN_0, ↓popN_s, ↓popT_0, ↓popT_1, ↓popT_2, ↓popT_3, ↓gI_0, ↓gI_s, ↓gL_0, ↓gL_s, ↓gR_0, ↓gR_s, ↓blk_s, ↓blk_0, goE_0, goE_1, goE_2, bst_0, bst_1, bst_2, TTf_e, st1_0, st1_1, st1_s, st2_0, st2_1, st2_s, jk_I, jk_R, jk_L, jk_J, mkT_0, mkT_1, mkT_2, mkT_3, sw_n, sw_c, nJ_n, nJ_I, nJ_L, nJ_R, stW_n, stW_I, stW_R, stW_L, true_and, and_true, Nat.reduceAdd, Nat.reduceLeDiff, Int.reduceAdd, up_at, Int.reduceEq, Int.reduceLE, Int.reduceLT, false_and, and_false, and_self, if_false, if_true, Int.reduceNeg, List.cons_append, List.nil_append, not_true_eq_false, not_false_eq_true, false_implies, true_implies, implies_true, true_or, or_true, false_or, or_false, aX6_isMet_0, aX6_isMet_1, aX6_isMet_3, aX6_isMet_6, aX6_isMet_7, aX6_isMet_8, aX6_isMet_11, aX6_isMet_12, aX6_isMet_15, aX6_isMet_16, aX6_isMet_17, aX6_isMet_18, aX6_isMet_20, aX6_isMet_23, aX6_isMet_24, aX6_isMet_25, aX6_isMet_28, aX6_isMet_29, aX6_isMet_32, aX6_isMet_33, aX6_isMet_36, aX6_isMet_37, aX6_isMet_38, aX6_isMet_41, aX6_isMet_42, aX6_isMet_45, aX6_isMet_46, c]
      repeat' (first | refine And.intro ?_ ?_ | refine imp_i (fun _ => ?_))
      all_goals first | exact hq | (exfalso; omega)
  · by_cases c : y < x
    · rw [if_neg (by decide), if_pos rfl, decide_eq_true c, bT1] at hq
      refine TT.go zX6_isMet 200 ?_
      simp only [↓oPush, ↓oIload, ↓oLload, ↓oRload, ↓oIstore, ↓oLstore, ↓oRstore, ↓oIinc, ↓oIadd, ↓oIsub, ↓oImul, ↓oIand, ↓oIor, ↓oIshl, ↓oIshr, ↓oIushr, ↓oIdiv, ↓oIrem, ↓oIneg, ↓oLadd, ↓oLmul, ↓oLand, ↓oLor, ↓oLxor, ↓oLshl, ↓oLshr, ↓oLushr, ↓oLcmp, ↓oI2l, ↓oL2i, ↓oI2b, ↓oI2s, ↓oDup, ↓oPop, ↓oDupx1, ↓oDupx2, ↓oDup2, ↓oGoto, ↓oIfEq, ↓oIfNe, ↓oIfLt, ↓oIfGe, ↓oIfGt, ↓oIfLe, ↓oIcEq, ↓oIcNe, ↓oIcLt, ↓oIcGe, ↓oIcGt, ↓oIcLe, ↓oIfnull, ↓oIfnonnull, ↓oSwitch, ↓oGetf, ↓oPutf, ↓oNew, ↓oNewa, ↓oAlen, ↓oIald, ↓oLald, ↓oZald, ↓oAald, ↓oIast, ↓oLast, ↓oZast, ↓oAast, ↓oCast, ↓oObji, ↓oRetI, ↓oRetZ, ↓oRetL, ↓oRetA, ↓oRetV, ↓oInvS, ↓oInvV, ↓oInvI, ↓oFail, ↓oAcEq, ↓oGetE, ↓oAlenE, ↓oAastO, ↓oCopyL, ↓oCopyK, ↓oInvS8, ↓oLdcS, ↓oMmax, ↓oMmin, ↓oMabs, ↓oAlenE, ↓popI_I, ↓popL_L, ↓popR_R, ↓popS_I, ↓popS_R, ↓popN_0, ↓popN_s, ↓popT_0, ↓popT_1, ↓popT_2, ↓popT_3, ↓gI_0, ↓gI_s, ↓gL_0, ↓gL_s, ↓gR_0, ↓gR_s, ↓blk_s, ↓blk_0, goE_0, goE_1, goE_2, bst_0, bst_1, bst_2, TTf_e, st1_0, st1_1, st1_s, st2_0, st2_1, st2_s, jk_I, jk_R, jk_L, jk_J, mkT_0, mkT_1, mkT_2, mkT_3, sw_n, sw_c, nJ_n, nJ_I, nJ_L, nJ_R, stW_n, stW_I, stW_R, stW_L, true_and, and_true, Nat.reduceAdd, Nat.reduceLeDiff, Int.reduceAdd, up_at, Int.reduceEq, Int.reduceLE, Int.reduceLT, false_and, and_false, and_self, if_false, if_true, Int.reduceNeg, List.cons_append, List.nil_append, not_true_eq_false, not_false_eq_true, false_implies, true_implies, implies_true, true_or, or_true, false_or, or_false, aX6_isMet_0, aX6_isMet_1, aX6_isMet_3, aX6_isMet_6, aX6_isMet_7, aX6_isMet_8, aX6_isMet_11, aX6_isMet_12, aX6_isMet_15, aX6_isMet_16, aX6_isMet_17, aX6_isMet_18, aX6_isMet_20, aX6_isMet_23, aX6_isMet_24, aX6_isMet_25, aX6_isMet_28, aX6_isMet_29, aX6_isMet_32, aX6_isMet_33, aX6_isMet_36, aX6_isMet_37, aX6_isMet_38, aX6_isMet_41, aX6_isMet_42, aX6_isMet_45, aX6_isMet_46, c]
      repeat' (first | refine And.intro ?_ ?_ | refine imp_i (fun _ => ?_))
      all_goals first | exact hq | (exfalso; omega)
    · rw [if_neg (by decide), if_pos rfl, decide_eq_false c, bF0] at hq
      refine TT.go zX6_isMet 200 ?_
      simp only [↓oPush, ↓oIload, ↓oLload, ↓oRload, ↓oIstore, ↓oLstore, ↓oRstore, ↓oIinc, ↓oIadd, ↓oIsub, ↓oImul, ↓oIand, ↓oIor, ↓oIshl, ↓oIshr, ↓oIushr, ↓oIdiv, ↓oIrem, ↓oIneg, ↓oLadd, ↓oLmul, ↓oLand, ↓oLor, ↓oLxor, ↓oLshl, ↓oLshr, ↓oLushr, ↓oLcmp, ↓oI2l, ↓oL2i, ↓oI2b, ↓oI2s, ↓oDup, ↓oPop, ↓oDupx1, ↓oDupx2, ↓oDup2, ↓oGoto, ↓oIfEq, ↓oIfNe, ↓oIfLt, ↓oIfGe, ↓oIfGt, ↓oIfLe, ↓oIcEq, ↓oIcNe, ↓oIcLt, ↓oIcGe, ↓oIcGt, ↓oIcLe, ↓oIfnull, ↓oIfnonnull, ↓oSwitch, ↓oGetf, ↓oPutf, ↓oNew, ↓oNewa, ↓oAlen, ↓oIald, ↓oLald, ↓oZald, ↓oAald, ↓oIast, ↓oLast, ↓oZast, ↓oAast, ↓oCast, ↓oObji, ↓oRetI, ↓oRetZ, ↓oRetL, ↓oRetA, ↓oRetV, ↓oInvS, ↓oInvV, ↓oInvI, ↓oFail, ↓oAcEq, ↓oGetE, ↓oAlenE, ↓oAastO, ↓oCopyL, ↓oCopyK, ↓oInvS8, ↓oLdcS, ↓oMmax, ↓oMmin, ↓oMabs, ↓oAlenE, ↓popI_I, ↓popL_L, ↓popR_R, ↓popS_I, ↓popS_R, ↓popN_0, ↓popN_s, ↓popT_0, ↓popT_1, ↓popT_2, ↓popT_3, ↓gI_0, ↓gI_s, ↓gL_0, ↓gL_s, ↓gR_0, ↓gR_s, ↓blk_s, ↓blk_0, goE_0, goE_1, goE_2, bst_0, bst_1, bst_2, TTf_e, st1_0, st1_1, st1_s, st2_0, st2_1, st2_s, jk_I, jk_R, jk_L, jk_J, mkT_0, mkT_1, mkT_2, mkT_3, sw_n, sw_c, nJ_n, nJ_I, nJ_L, nJ_R, stW_n, stW_I, stW_R, stW_L, true_and, and_true, Nat.reduceAdd, Nat.reduceLeDiff, Int.reduceAdd, up_at, Int.reduceEq, Int.reduceLE, Int.reduceLT, false_and, and_false, and_self, if_false, if_true, Int.reduceNeg, List.cons_append, List.nil_append, not_true_eq_false, not_false_eq_true, false_implies, true_implies, implies_true, true_or, or_true, false_or, or_false, aX6_isMet_0, aX6_isMet_1, aX6_isMet_3, aX6_isMet_6, aX6_isMet_7, aX6_isMet_8, aX6_isMet_11, aX6_isMet_12, aX6_isMet_15, aX6_isMet_16, aX6_isMet_17, aX6_isMet_18, aX6_isMet_20, aX6_isMet_23, aX6_isMet_24, aX6_isMet_25, aX6_isMet_28, aX6_isMet_29, aX6_isMet_32, aX6_isMet_33, aX6_isMet_36, aX6_isMet_37, aX6_isMet_38, aX6_isMet_41, aX6_isMet_42, aX6_isMet_45, aX6_isMet_46, c]
      repeat' (first | refine And.intro ?_ ?_ | refine imp_i (fun _ => ?_))
      all_goals first | exact hq | (exfalso; omega)
set_option maxRecDepth 20000 in
theorem m_sideAt {d : Nat} {z c i s L : Int} {val : Int → Int} {K : KT} {S : ST} {Q : QF} (hk : K z = (8, 2)) (hc : S z 0 = c) (hkc : K c = (100, L)) (h54 : K 54 = (100, 10)) (hv : ∀ j, 0 ≤ j → j < 10 → S 54 j = val j) (hi : 0 ≤ i ∧ i < L) (hs : S c i = s) (hr : -10 ≤ s ∧ s ≤ 9999) (hq : Q [vI (sv val s)] K S) : Mt (d + 1) 0 0 mX6_sideAt [vR z, vI i, vR 54] K S Q := by
  unfold sv at hq
  have e1 : w32 (-1 - s) = -1 - s := w32_id (by unfold in32; omega)
  have hlt : ¬ L ≤ i := by omega
  refine Mt_of_TT (by decide +kernel) (Nat.le_of_ble_eq_true rfl) ?_
  show TT mX6_sideAt _ 0 [vR z, vI i, vR 54, vJ, vJ] [] _ _ _ _ _
  by_cases cs : s < 0
  · rw [if_pos cs, ← hv (-1 - s) (by omega) (by omega)] at hq
    refine TT.go zX6_sideAt 200 ?_
    simp only [↓oPush, ↓oIload, ↓oLload, ↓oRload, ↓oIstore, ↓oLstore, ↓oRstore, ↓oIinc, ↓oIadd, ↓oIsub, ↓oImul, ↓oIand, ↓oIor, ↓oIshl, ↓oIshr, ↓oIushr, ↓oIdiv, ↓oIrem, ↓oIneg, ↓oLadd, ↓oLmul, ↓oLand, ↓oLor, ↓oLxor, ↓oLshl, ↓oLshr, ↓oLushr, ↓oLcmp, ↓oI2l, ↓oL2i, ↓oI2b, ↓oI2s, ↓oDup, ↓oPop, ↓oDupx1, ↓oDupx2, ↓oDup2, ↓oGoto, ↓oIfEq, ↓oIfNe, ↓oIfLt, ↓oIfGe, ↓oIfGt, ↓oIfLe, ↓oIcEq, ↓oIcNe, ↓oIcLt, ↓oIcGe, ↓oIcGt, ↓oIcLe, ↓oIfnull, ↓oIfnonnull, ↓oSwitch, ↓oGetf, ↓oPutf, ↓oNew, ↓oNewa, ↓oAlen, ↓oIald, ↓oLald, ↓oZald, ↓oAald, ↓oIast, ↓oLast, ↓oZast, ↓oAast, ↓oCast, ↓oObji, ↓oRetI, ↓oRetZ, ↓oRetL, ↓oRetA, ↓oRetV, ↓oInvS, ↓oInvV, ↓oInvI, ↓oFail, ↓oAcEq, ↓oGetE, ↓oAlenE, ↓oAastO, ↓oCopyL, ↓oCopyK, ↓oInvS8, ↓oLdcS, ↓oMmax, ↓oMmin, ↓oMabs, ↓oAlenE, ↓popI_I, ↓popL_L, ↓popR_R, ↓popS_I, ↓popS_R, ↓popN_0, ↓popN_s, ↓popT_0, ↓popT_1, ↓popT_2, ↓popT_3, ↓gI_0, ↓gI_s, ↓gL_0, ↓gL_s, ↓gR_0, ↓gR_s, ↓blk_s, ↓blk_0, goE_0, goE_1, goE_2, bst_0, bst_1, bst_2, TTf_e, st1_0, st1_1, st1_s, st2_0, st2_1, st2_s, jk_I, jk_R, jk_L, jk_J, mkT_0, mkT_1, mkT_2, mkT_3, sw_n, sw_c, nJ_n, nJ_I, nJ_L, nJ_R, stW_n, stW_I, stW_R, stW_L, true_and, and_true, Nat.reduceAdd, Nat.reduceLeDiff, Int.reduceAdd, up_at, Int.reduceEq, Int.reduceLE, Int.reduceLT, false_and, and_false, and_self, if_false, if_true, Int.reduceNeg, List.cons_append, List.nil_append, not_true_eq_false, not_false_eq_true, false_implies, true_implies, implies_true, true_or, or_true, false_or, or_false, aX6_sideAt_0, aX6_sideAt_1, aX6_sideAt_2, aX6_sideAt_5, aX6_sideAt_6, aX6_sideAt_9, aX6_sideAt_10, aX6_sideAt_13, aX6_sideAt_14, aX6_sideAt_15, aX6_sideAt_18, aX6_sideAt_19, aX6_sideAt_20, aX6_sideAt_21, aX6_sideAt_22, aX6_sideAt_23, aX6_sideAt_25, aX6_sideAt_27, aX6_sideAt_30, aX6_sideAt_32, aX6_sideAt_33, aX6_sideAt_34, aX6_sideAt_37, aX6_sideAt_38, aX6_sideAt_40, aX6_sideAt_41, aX6_sideAt_44, aX6_sideAt_45, hk, hc, hkc, hlt, hs, e1, h54]
    repeat' (first | refine And.intro ?_ ?_ | refine imp_i (fun _ => ?_))
    all_goals first | exact hq | (rw [e1]; exact hq) | exact hi.1 | exact hi.2 | exact akd_d (by decide) | omega | (exfalso; omega)
  · rw [if_neg cs] at hq
    refine TT.go zX6_sideAt 200 ?_
    simp only [↓oPush, ↓oIload, ↓oLload, ↓oRload, ↓oIstore, ↓oLstore, ↓oRstore, ↓oIinc, ↓oIadd, ↓oIsub, ↓oImul, ↓oIand, ↓oIor, ↓oIshl, ↓oIshr, ↓oIushr, ↓oIdiv, ↓oIrem, ↓oIneg, ↓oLadd, ↓oLmul, ↓oLand, ↓oLor, ↓oLxor, ↓oLshl, ↓oLshr, ↓oLushr, ↓oLcmp, ↓oI2l, ↓oL2i, ↓oI2b, ↓oI2s, ↓oDup, ↓oPop, ↓oDupx1, ↓oDupx2, ↓oDup2, ↓oGoto, ↓oIfEq, ↓oIfNe, ↓oIfLt, ↓oIfGe, ↓oIfGt, ↓oIfLe, ↓oIcEq, ↓oIcNe, ↓oIcLt, ↓oIcGe, ↓oIcGt, ↓oIcLe, ↓oIfnull, ↓oIfnonnull, ↓oSwitch, ↓oGetf, ↓oPutf, ↓oNew, ↓oNewa, ↓oAlen, ↓oIald, ↓oLald, ↓oZald, ↓oAald, ↓oIast, ↓oLast, ↓oZast, ↓oAast, ↓oCast, ↓oObji, ↓oRetI, ↓oRetZ, ↓oRetL, ↓oRetA, ↓oRetV, ↓oInvS, ↓oInvV, ↓oInvI, ↓oFail, ↓oAcEq, ↓oGetE, ↓oAlenE, ↓oAastO, ↓oCopyL, ↓oCopyK, ↓oInvS8, ↓oLdcS, ↓oMmax, ↓oMmin, ↓oMabs, ↓oAlenE, ↓popI_I, ↓popL_L, ↓popR_R, ↓popS_I, ↓popS_R, ↓popN_0, ↓popN_s, ↓popT_0, ↓popT_1, ↓popT_2, ↓popT_3, ↓gI_0, ↓gI_s, ↓gL_0, ↓gL_s, ↓gR_0, ↓gR_s, ↓blk_s, ↓blk_0, goE_0, goE_1, goE_2, bst_0, bst_1, bst_2, TTf_e, st1_0, st1_1, st1_s, st2_0, st2_1, st2_s, jk_I, jk_R, jk_L, jk_J, mkT_0, mkT_1, mkT_2, mkT_3, sw_n, sw_c, nJ_n, nJ_I, nJ_L, nJ_R, stW_n, stW_I, stW_R, stW_L, true_and, and_true, Nat.reduceAdd, Nat.reduceLeDiff, Int.reduceAdd, up_at, Int.reduceEq, Int.reduceLE, Int.reduceLT, false_and, and_false, and_self, if_false, if_true, Int.reduceNeg, List.cons_append, List.nil_append, not_true_eq_false, not_false_eq_true, false_implies, true_implies, implies_true, true_or, or_true, false_or, or_false, aX6_sideAt_0, aX6_sideAt_1, aX6_sideAt_2, aX6_sideAt_5, aX6_sideAt_6, aX6_sideAt_9, aX6_sideAt_10, aX6_sideAt_13, aX6_sideAt_14, aX6_sideAt_15, aX6_sideAt_18, aX6_sideAt_19, aX6_sideAt_20, aX6_sideAt_21, aX6_sideAt_22, aX6_sideAt_23, aX6_sideAt_25, aX6_sideAt_27, aX6_sideAt_30, aX6_sideAt_32, aX6_sideAt_33, aX6_sideAt_34, aX6_sideAt_37, aX6_sideAt_38, aX6_sideAt_40, aX6_sideAt_41, aX6_sideAt_44, aX6_sideAt_45, hk, hc, hkc, hlt, hs, e1, h54]
    repeat' (first | refine And.intro ?_ ?_ | refine imp_i (fun _ => ?_))
    all_goals first | exact hq | (rw [e1]; exact hq) | exact hi.1 | exact hi.2 | exact akd_d (by decide) | omega | (exfalso; omega)
