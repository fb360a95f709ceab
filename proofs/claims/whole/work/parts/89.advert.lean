/-! ADVERTS: a new one -/
theorem newAd_l {d cb nb : Nat} {z xp xa xs : Int} {y0 y1 y2 : V} {K : KT} {Q : QF} (z1 : z ≠ xp) (z2 : z ≠ xa) (z3 : z ≠ xs) (n3 : xa ≠ xs) (hk : K z = (2, 10)) (ha : K xa = (100, 8)) (hs : K xs = (100, 8)) :
    ∀ (mm : Nat) (p : Int) (y3 : V) (S : ST), p + mm = 8 → 0 ≤ p → S z 8 = xa → S z 9 = xs → (∀ S', (∀ a, a ≠ xa → a ≠ xs → S' a = S a) → (∀ j, 0 ≤ j → j < p → S' xa j = S xa j ∧ S' xs j = S xs j) → (∀ j, p ≤ j → j < 8 → S' xa j = -1 ∧ S' xs j = -1) → Q [] K S') → TT mX0_init (d + 1) 66 [vR z, y0, y1, y2, y3, vI p] [] K S cb nb Q := by
  intro mm
  induction mm with
  | zero =>
    intro p y3 S hm h0 h8 h9 hq
    have hn : 8 ≤ p := by omega
    refine TT.go zX0_init 200 ?_
    simp only [↓oPush, ↓oIload, ↓oLload, ↓oRload, ↓oIstore, ↓oLstore, ↓oRstore, ↓oIinc, ↓oIadd, ↓oIsub, ↓oImul, ↓oIand, ↓oIor, ↓oIshl, ↓oIshr, ↓oIushr, ↓oIdiv, ↓oIrem, ↓oIneg, ↓oLadd, ↓oLmul, ↓oLand, ↓oLor, ↓oLxor, ↓oLshl, ↓oLshr, ↓oLushr, ↓oLcmp, ↓oI2l, ↓oL2i, ↓oI2b, ↓oI2s, ↓oDup, ↓oPop, ↓oDupx1, ↓oDupx2, ↓oDup2, ↓oGoto, ↓oIfEq, ↓oIfNe, ↓oIfLt, ↓oIfGe, ↓oIfGt, ↓oIfLe, ↓oIcEq, ↓oIcNe, ↓oIcLt, ↓oIcGe, ↓oIcGt, ↓oIcLe, ↓oIfnull, ↓oIfnonnull, ↓oSwitch, ↓oGetf, ↓oPutf, ↓oNew, ↓oNewa, ↓oAlen, ↓oIald, ↓oLald, ↓oZald, ↓oAald, ↓oIast, ↓oLast, ↓oZast, ↓oAast, ↓oCast, ↓oObji, ↓oRetI, ↓oRetZ, ↓oRetL, ↓oRetA, ↓oRetV, ↓oInvS, ↓oInvV, ↓oInvI, ↓oFail, ↓oAcEq, ↓oGetE, ↓oAlenE, ↓oAastO, ↓oCopyL, ↓oCopyK, ↓oInvS8, ↓oLdcS, ↓oMmax, ↓oMmin, ↓oMabs, ↓oAlenE, ↓popI_I, ↓popL_L, ↓popR_R, ↓popS_I, ↓popS_R, ↓popN_0, ↓popN_s, ↓popT_0, ↓popT_1, ↓popT_2, ↓popT_3, ↓gI_0, ↓gI_s, ↓gL_0, ↓gL_s, ↓gR_0, ↓gR_s, ↓blk_s, ↓blk_0, goE_0, goE_1, goE_2, bst_0, bst_1, bst_2, TTf_e, st1_0, st1_1, st1_s, st2_0, st2_1, st2_s, jk_I, jk_R, jk_L, jk_J, mkT_0, mkT_1, mkT_2, mkT_3, sw_n, sw_c, nJ_n, nJ_I, nJ_L, nJ_R, stW_n, stW_I, stW_R, stW_L, true_and, and_true, Nat.reduceAdd, Nat.reduceLeDiff, Int.reduceAdd, up_at, Int.reduceEq, Int.reduceLE, Int.reduceLT, false_and, and_false, and_self, if_false, if_true, Int.reduceNeg, List.cons_append, List.nil_append, not_true_eq_false, not_false_eq_true, false_implies, true_implies, implies_true, true_or, or_true, false_or, or_false, aX0_init_0, aX0_init_1, aX0_init_4, aX0_init_5, aX0_init_6, aX0_init_8, aX0_init_11, aX0_init_12, aX0_init_13, aX0_init_16, aX0_init_17, aX0_init_18, aX0_init_21, aX0_init_22, aX0_init_23, aX0_init_26, aX0_init_27, aX0_init_29, aX0_init_31, aX0_init_34, aX0_init_35, aX0_init_37, aX0_init_39, aX0_init_42, aX0_init_43, aX0_init_44, aX0_init_47, aX0_init_48, aX0_init_49, aX0_init_52, aX0_init_53, aX0_init_54, aX0_init_57, aX0_init_58, aX0_init_60, aX0_init_63, aX0_init_64, aX0_init_66, aX0_init_68, aX0_init_70, aX0_init_73, aX0_init_74, aX0_init_77, aX0_init_79, aX0_init_80, aX0_init_81, aX0_init_82, aX0_init_85, aX0_init_87, aX0_init_88, aX0_init_89, aX0_init_92, aX0_init_95, hn]
    exact hq S (fun _ _ _ => rfl) (fun _ _ _ => ⟨rfl, rfl⟩) (fun j j0 j1 => by omega)
  | succ mm ih =>
    intro p y3 S hm h0 h8 h9 hq
    have hn : ¬ 8 ≤ p := by omega
    have z2' : (z = xa) = False := eq_false z2
    have g8 : up S xa p (-1) z 8 = xa := by rw [up_na z2]; exact h8
    have g9 : up S xa p (-1) z 9 = xs := by rw [up_na z2]; exact h9
    refine TT.go zX0_init 200 ?_
    simp only [↓oPush, ↓oIload, ↓oLload, ↓oRload, ↓oIstore, ↓oLstore, ↓oRstore, ↓oIinc, ↓oIadd, ↓oIsub, ↓oImul, ↓oIand, ↓oIor, ↓oIshl, ↓oIshr, ↓oIushr, ↓oIdiv, ↓oIrem, ↓oIneg, ↓oLadd, ↓oLmul, ↓oLand, ↓oLor, ↓oLxor, ↓oLshl, ↓oLshr, ↓oLushr, ↓oLcmp, ↓oI2l, ↓oL2i, ↓oI2b, ↓oI2s, ↓oDup, ↓oPop, ↓oDupx1, ↓oDupx2, ↓oDup2, ↓oGoto, ↓oIfEq, ↓oIfNe, ↓oIfLt, ↓oIfGe, ↓oIfGt, ↓oIfLe, ↓oIcEq, ↓oIcNe, ↓oIcLt, ↓oIcGe, ↓oIcGt, ↓oIcLe, ↓oIfnull, ↓oIfnonnull, ↓oSwitch, ↓oGetf, ↓oPutf, ↓oNew, ↓oNewa, ↓oAlen, ↓oIald, ↓oLald, ↓oZald, ↓oAald, ↓oIast, ↓oLast, ↓oZast, ↓oAast, ↓oCast, ↓oObji, ↓oRetI, ↓oRetZ, ↓oRetL, ↓oRetA, ↓oRetV, ↓oInvS, ↓oInvV, ↓oInvI, ↓oFail, ↓oAcEq, ↓oGetE, ↓oAlenE, ↓oAastO, ↓oCopyL, ↓oCopyK, ↓oInvS8, ↓oLdcS, ↓oMmax, ↓oMmin, ↓oMabs, ↓oAlenE, ↓popI_I, ↓popL_L, ↓popR_R, ↓popS_I, ↓popS_R, ↓popN_0, ↓popN_s, ↓popT_0, ↓popT_1, ↓popT_2, ↓popT_3, ↓gI_0, ↓gI_s, ↓gL_0, ↓gL_s, ↓gR_0, ↓gR_s, ↓blk_s, ↓blk_0, goE_0, goE_1, goE_2, bst_0, bst_1, bst_2, TTf_e, st1_0, st1_1, st1_s, st2_0, st2_1, st2_s, jk_I, jk_R, jk_L, jk_J, mkT_0, mkT_1, mkT_2, mkT_3, sw_n, sw_c, nJ_n, nJ_I, nJ_L, nJ_R, stW_n, stW_I, stW_R, stW_L, true_and, and_true, Nat.reduceAdd, Nat.reduceLeDiff, Int.reduceAdd, up_at, Int.reduceEq, Int.reduceLE, Int.reduceLT, false_and, and_false, and_self, if_false, if_true, Int.reduceNeg, List.cons_append, List.nil_append, not_true_eq_false, not_false_eq_true, false_implies, true_implies, implies_true, true_or, or_true, false_or, or_false, aX0_init_0, aX0_init_1, aX0_init_4, aX0_init_5, aX0_init_6, aX0_init_8, aX0_init_11, aX0_init_12, aX0_init_13, aX0_init_16, aX0_init_17, aX0_init_18, aX0_init_21, aX0_init_22, aX0_init_23, aX0_init_26, aX0_init_27, aX0_init_29, aX0_init_31, aX0_init_34, aX0_init_35, aX0_init_37, aX0_init_39, aX0_init_42, aX0_init_43, aX0_init_44, aX0_init_47, aX0_init_48, aX0_init_49, aX0_init_52, aX0_init_53, aX0_init_54, aX0_init_57, aX0_init_58, aX0_init_60, aX0_init_63, aX0_init_64, aX0_init_66, aX0_init_68, aX0_init_70, aX0_init_73, aX0_init_74, aX0_init_77, aX0_init_79, aX0_init_80, aX0_init_81, aX0_init_82, aX0_init_85, aX0_init_87, aX0_init_88, aX0_init_89, aX0_init_92, aX0_init_95, hn, hk, ha, hs, h8, h9, g8, g9, z2']
    refine ⟨h0, by omega, h0, by omega, ?_⟩
    (try simp (disch := omega) only [w32_i] at *)
    refine ih (p + 1) _ (up (up S xa p (-1)) xs p (-1)) (by omega) (by omega) (by rw [up_na z3]; exact g8) (by rw [up_na z3]; exact g9) (fun S' s1 s2 s3 => hq S' (fun a a0 a1 => by rw [s1 a a0 a1, up_na a1, up_na a0]) (fun j j0 j1 => ?_) (fun j j0 j1 => ?_))
    · obtain ⟨q1, q2⟩ := s2 j j0 (by omega)
      rw [q1, q2, up_na n3, up_ni (by omega), up_ni (by omega), up_na (Ne.symm n3)]
      exact ⟨rfl, rfl⟩
    · by_cases e : j = p
      · obtain ⟨q1, q2⟩ := s2 j (by omega) (by omega)
        rw [q1, q2, e, up_na n3, up_s, up_s]
        exact ⟨rfl, rfl⟩
      · exact s3 j (by omega) j1
set_option maxRecDepth 20000 in
theorem m_newAdvert {d : Nat} {z f m w k xp xa xs : Int} {K : KT} {S : ST} {Q : QF} (hz : ¬ z = 0) (hk : K z = (2, 10)) (hp : (K xp).1 = 0 ∧ ¬ xp = 0) (ha : (K xa).1 = 0 ∧ ¬ xa = 0) (hs : (K xs).1 = 0 ∧ ¬ xs = 0) (n1 : xp ≠ xa) (n2 : xp ≠ xs) (n3 : xa ≠ xs) (hq : ∀ S', (∀ a, a ≠ z → a ≠ xp → a ≠ xa → a ≠ xs → S' a = S a) → (S' z 0 = f ∧ S' z 1 = m ∧ S' z 2 = w ∧ S' z 3 = k ∧ S' z 4 = xp ∧ S' z 5 = 0 ∧ S' z 6 = 0 ∧ S' z 7 = 0 ∧ S' z 8 = xa ∧ S' z 9 = xs) → (∀ p, 0 ≤ p → p < 8 → S' xa p = -1 ∧ S' xs p = -1) → Q [] (kup (kup (kup K xp (100, 0)) xa (100, 8)) xs (100, 8)) S') : Mt (d + 1) 3 16 mX0_init [vR z, vI f, vI m, vR w, vI k] K S Q := by
  have z1 : z ≠ xp := fun e => by rw [← e, hk] at hp; cases hp.1
  have z2 : z ≠ xa := fun e => by rw [← e, hk] at ha; cases ha.1
  have z3 : z ≠ xs := fun e => by rw [← e, hk] at hs; cases hs.1
  refine Mt_of_TT (by decide +kernel) (Nat.le_of_ble_eq_true rfl) ?_
  show TT mX0_init _ 0 [vR z, vI f, vI m, vR w, vI k, vJ] [] _ _ _ _ _
  refine TT.go zX0_init 200 ?_
  simp only [↓oPush, ↓oIload, ↓oLload, ↓oRload, ↓oIstore, ↓oLstore, ↓oRstore, ↓oIinc, ↓oIadd, ↓oIsub, ↓oImul, ↓oIand, ↓oIor, ↓oIshl, ↓oIshr, ↓oIushr, ↓oIdiv, ↓oIrem, ↓oIneg, ↓oLadd, ↓oLmul, ↓oLand, ↓oLor, ↓oLxor, ↓oLshl, ↓oLshr, ↓oLushr, ↓oLcmp, ↓oI2l, ↓oL2i, ↓oI2b, ↓oI2s, ↓oDup, ↓oPop, ↓oDupx1, ↓oDupx2, ↓oDup2, ↓oGoto, ↓oIfEq, ↓oIfNe, ↓oIfLt, ↓oIfGe, ↓oIfGt, ↓oIfLe, ↓oIcEq, ↓oIcNe, ↓oIcLt, ↓oIcGe, ↓oIcGt, ↓oIcLe, ↓oIfnull, ↓oIfnonnull, ↓oSwitch, ↓oGetf, ↓oPutf, ↓oNew, ↓oNewa, ↓oAlen, ↓oIald, ↓oLald, ↓oZald, ↓oAald, ↓oIast, ↓oLast, ↓oZast, ↓oAast, ↓oCast, ↓oObji, ↓oRetI, ↓oRetZ, ↓oRetL, ↓oRetA, ↓oRetV, ↓oInvS, ↓oInvV, ↓oInvI, ↓oFail, ↓oAcEq, ↓oGetE, ↓oAlenE, ↓oAastO, ↓oCopyL, ↓oCopyK, ↓oInvS8, ↓oLdcS, ↓oMmax, ↓oMmin, ↓oMabs, ↓oAlenE, ↓popI_I, ↓popL_L, ↓popR_R, ↓popS_I, ↓popS_R, ↓popN_0, ↓popN_s, ↓popT_0, ↓popT_1, ↓popT_2, ↓popT_3, ↓gI_0, ↓gI_s, ↓gL_0, ↓gL_s, ↓gR_0, ↓gR_s, ↓blk_s, ↓blk_0, goE_0, goE_1, goE_2, bst_0, bst_1, bst_2, TTf_e, st1_0, st1_1, st1_s, st2_0, st2_1, st2_s, jk_I, jk_R, jk_L, jk_J, mkT_0, mkT_1, mkT_2, mkT_3, sw_n, sw_c, nJ_n, nJ_I, nJ_L, nJ_R, stW_n, stW_I, stW_R, stW_L, true_and, and_true, Nat.reduceAdd, Nat.reduceLeDiff, Int.reduceAdd, up_at, Int.reduceEq, Int.reduceLE, Int.reduceLT, false_and, and_false, and_self, if_false, if_true, Int.reduceNeg, List.cons_append, List.nil_append, not_true_eq_false, not_false_eq_true, false_implies, true_implies, implies_true, true_or, or_true, false_or, or_false, aX0_init_0, aX0_init_1, aX0_init_4, aX0_init_5, aX0_init_6, aX0_init_8, aX0_init_11, aX0_init_12, aX0_init_13, aX0_init_16, aX0_init_17, aX0_init_18, aX0_init_21, aX0_init_22, aX0_init_23, aX0_init_26, aX0_init_27, aX0_init_29, aX0_init_31, aX0_init_34, aX0_init_35, aX0_init_37, aX0_init_39, aX0_init_42, aX0_init_43, aX0_init_44, aX0_init_47, aX0_init_48, aX0_init_49, aX0_init_52, aX0_init_53, aX0_init_54, aX0_init_57, aX0_init_58, aX0_init_60, aX0_init_63, aX0_init_64, aX0_init_66, aX0_init_68, aX0_init_70, aX0_init_73, aX0_init_74, aX0_init_77, aX0_init_79, aX0_init_80, aX0_init_81, aX0_init_82, aX0_init_85, aX0_init_87, aX0_init_88, aX0_init_89, aX0_init_92, aX0_init_95, hk]
  have e1 : kup K xp (100, 0) z = (2, 10) := by rw [kup_n z1, hk]
  have e2 : kup (kup K xp (100, 0)) xa (100, 8) z = (2, 10) := by rw [kup_n z2, e1]
  have e3 : kup (kup (kup K xp (100, 0)) xa (100, 8)) xs (100, 8) z = (2, 10) := by rw [kup_n z3, e2]
  refine ⟨hz, by decide, xp, hp.1, hp.2, by rw [e1], by rw [e1], by rw [e1], by rw [e1], by decide, by decide, xa, by rw [kup_n (Ne.symm n1)]; exact ha.1, ha.2, by rw [e2], by decide, by decide, xs, by rw [kup_n (Ne.symm n3), kup_n (Ne.symm n2)]; exact hs.1, hs.2, by rw [e3], by rw [e3], by rw [e3], by rw [e3], by rw [e3], ?_⟩
  generalize hK : kup (kup (kup K xp (100, 0)) xa (100, 8)) xs (100, 8) = K1 at *
  have e4 : K1 xa = (100, 8) := by rw [← hK, kup_n n3, kup_s]
  have e5 : K1 xs = (100, 8) := by rw [← hK, kup_s]
  generalize hS : up (up (up (up (up (S0 (up (S0 (up (up (up (up (S0 S xp) z 4 xp) z 5 0) z 6 0) z 7 0) xa) z 8 xa) xs) z 9 xs) z 0 f) z 1 m) z 2 w) z 3 k = S1
  have f1 : ∀ a, a ≠ z → a ≠ xp → a ≠ xa → a ≠ xs → S1 a = S a := by
    intro a a0 a1 a2 a3
    rw [← hS]
    simp only [up_na a0, S0_n a3, S0_n a2, S0_n a1]
  have f2 : S1 z 0 = f ∧ S1 z 1 = m ∧ S1 z 2 = w ∧ S1 z 3 = k ∧ S1 z 4 = xp ∧ S1 z 5 = 0 ∧ S1 z 6 = 0 ∧ S1 z 7 = 0 ∧ S1 z 8 = xa ∧ S1 z 9 = xs := by
    rw [← hS]
    simp (disch := decide) only [up_s, up_ni, S0_n z3, S0_n z2, and_self]
  clear hS hK
  refine newAd_l z1 z2 z3 n3 e3 e4 e5 8 0 _ S1 (by omega) (by omega) f2.2.2.2.2.2.2.2.2.1 f2.2.2.2.2.2.2.2.2.2 (fun S' s1 s2 s3 => ?_)
  refine hq S' (fun a a0 a1 a2 a3 => by rw [s1 a a2 a3, f1 a a0 a1 a2 a3]) (by rw [s1 z z2 z3]; exact f2) (fun p p0 p1 => s3 p p0 p1)
