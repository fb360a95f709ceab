/-! THE REFERENCE'S METHODS: reading -/
def KP (S : ST) (l : List Int) : Prop := S 1000 72 = l.length ∧ ∀ x : Int, 0 ≤ x → x < l.length → S 1071 x = rowL l x
def CL (S : ST) (c : List (Int × Int)) : Prop := S 1000 75 = c.length ∧ ∀ x : Int, 0 ≤ x → x < c.length → S 1073 x = (c.getD x.toNat (0, 0)).1 ∧ S 1074 x = (c.getD x.toNat (0, 0)).2
theorem rowL_lt {l : List Int} {v x : Int} (h0 : 0 ≤ x) (h : x < l.length) : rowL (l ++ [v]) x = rowL l x := by
  unfold rowL
  rw [List.getD_eq_getElem?_getD, List.getD_eq_getElem?_getD, List.getElem?_append_left (by omega)]
theorem rowL_eq {l : List Int} {v : Int} : rowL (l ++ [v]) l.length = v := by
  unfold rowL
  rw [List.getD_eq_getElem?_getD, List.getElem?_append_right (by omega), show (l.length : Int).toNat - l.length = 0 by omega]
  rfl
theorem getD_lt {l : List (Int × Int)} {v : Int × Int} {x : Int} (h0 : 0 ≤ x) (h : x < l.length) : (l ++ [v]).getD x.toNat (0, 0) = l.getD x.toNat (0, 0) := by
  rw [List.getD_eq_getElem?_getD, List.getD_eq_getElem?_getD, List.getElem?_append_left (by omega)]
theorem getD_eq {l : List (Int × Int)} {v : Int × Int} : (l ++ [v]).getD (l.length : Int).toNat (0, 0) = v := by
  rw [List.getD_eq_getElem?_getD, List.getElem?_append_right (by omega), show (l.length : Int).toNat - l.length = 0 by omega]
  rfl
theorem KP_snoc {S : ST} {l : List Int} {v n : Int} (h : KP S l) (hn : n = l.length) : KP (up (up S 1000 72 (n + 1)) 1071 n v) (l ++ [v]) := by
  subst hn
  refine ⟨?_, fun x h0 h1 => ?_⟩
  · rw [up_na (by omega), up_at, if_pos ⟨rfl, rfl⟩, List.length_append]; rfl
  · rw [List.length_append] at h1
    rw [up_at]
    by_cases e : x = l.length
    · rw [if_pos ⟨rfl, e⟩, e, rowL_eq]
    · rw [if_neg (fun z => e z.2), up_na (by omega), rowL_lt h0 (by simp at h1; omega)]
      exact h.2 x h0 (by simp at h1; omega)
theorem CL_snoc {S : ST} {c : List (Int × Int)} {p i n : Int} (h : CL S c) (hn : n = c.length) : CL (up (up (up S 1073 n p) 1000 75 (n + 1)) 1074 n i) (c ++ [(p, i)]) := by
  subst hn
  refine ⟨?_, fun x h0 h1 => ?_⟩
  · rw [up_na (by omega), up_at, if_pos ⟨rfl, rfl⟩, List.length_append]; rfl
  · rw [List.length_append] at h1
    rw [up_na (by omega), up_na (by omega), up_at, up_at]
    by_cases e : x = c.length
    · rw [if_pos ⟨rfl, e⟩, if_pos ⟨rfl, e⟩, e, getD_eq]
      exact ⟨rfl, rfl⟩
    · rw [if_neg (fun z => e z.2), if_neg (fun z => e z.2), up_na (by omega), up_na (by omega), getD_lt h0 (by simp at h1; omega)]
      exact h.2 x h0 (by simp at h1; omega)
theorem KP_up {S : ST} {l : List Int} {a i v : Int} (h : KP S l) (ha : a ≠ 1071) (hi : a ≠ 1000 ∨ i ≠ 72) : KP (up S a i v) l := by
  refine ⟨?_, fun x h0 h1 => ?_⟩
  · rw [up_at, if_neg (by omega)]; exact h.1
  · rw [up_na (Ne.symm ha)]; exact h.2 x h0 h1
theorem CL_up {S : ST} {c : List (Int × Int)} {a i v : Int} (h : CL S c) (ha : a ≠ 1073) (hb : a ≠ 1074) (hi : a ≠ 1000 ∨ i ≠ 75) : CL (up S a i v) c := by
  refine ⟨?_, fun x h0 h1 => ?_⟩
  · rw [up_at, if_neg (by omega)]; exact h.1
  · rw [up_na (Ne.symm ha), up_na (Ne.symm hb)]; exact h.2 x h0 h1
theorem KP_0 {S : ST} : KP (up S 1000 72 0) [] := ⟨by rw [up_at, if_pos ⟨rfl, rfl⟩]; rfl, fun x h0 h1 => by simp at h1; omega⟩
theorem CL_0 {S : ST} : CL (up S 1000 75 0) [] := ⟨by rw [up_at, if_pos ⟨rfl, rfl⟩]; rfl, fun x h0 h1 => by simp at h1; omega⟩
theorem wordsF_len (w : Int → Int) (set : Int) : ∀ (m : Nat) (i : Int), (wordsF w set i m).length ≤ m
  | 0, _ => Nat.le_refl 0
  | m + 1, i => by
    have := wordsF_len w set m (i + 1)
    unfold wordsF
    split <;> simp <;> omega
theorem textOf_len {μ : ST} {a set : Int} (h : μ 1022 a ≤ 20) : (textOf μ a set).length ≤ 20 := by
  have := wordsF_len (fun i => μ 1028 (20 * a + i)) set (μ 1022 a).toNat 0
  unfold textOf
  omega
theorem strikes_l {d : Nat} {a set : Int} {B : Int → Int} {μ S0 : ST} {K : KT} {Q : QF} (hK : MK K) (ha : 0 ≤ a ∧ a < 24) (hn : 0 ≤ μ 1022 a ∧ μ 1022 a ≤ 20) (hset : in32 set) :
    ∀ (m : Nat) (i : Int) (l : List Int) (S : ST), i + m = μ 1022 a → 0 ≤ i → l.length ≤ i → MS μ S0 S → KP S l → S 1089 = B → (∀ S', MS μ S0 S' → KP S' (l ++ wordsF (fun i => μ 1028 (20 * a + i)) set i m) → S' 1089 = B → Q [] K S') → TT mX12_strikes (d + 1) 7 [vR 1000, vI a, vI set, vI i] [] K S 0 0 Q := by
  intro m
  induction m with
  | zero =>
    intro i l S hi h0 hl hS hk hB hq
    have e : i = μ 1022 a := by omega
    subst e
    refine TT.go zX12_strikes 200 ?_
    simp only [↓oPush, ↓oIload, ↓oLload, ↓oRload, ↓oIstore, ↓oLstore, ↓oRstore, ↓oIinc, ↓oIadd, ↓oIsub, ↓oImul, ↓oIand, ↓oIor, ↓oIshl, ↓oIshr, ↓oIushr, ↓oIdiv, ↓oIrem, ↓oIneg, ↓oLadd, ↓oLmul, ↓oLand, ↓oLor, ↓oLxor, ↓oLshl, ↓oLshr, ↓oLushr, ↓oLcmp, ↓oI2l, ↓oL2i, ↓oI2b, ↓oI2s, ↓oDup, ↓oPop, ↓oDupx1, ↓oDupx2, ↓oDup2, ↓oGoto, ↓oIfEq, ↓oIfNe, ↓oIfLt, ↓oIfGe, ↓oIfGt, ↓oIfLe, ↓oIcEq, ↓oIcNe, ↓oIcLt, ↓oIcGe, ↓oIcGt, ↓oIcLe, ↓oIfnull, ↓oIfnonnull, ↓oSwitch, ↓oGetf, ↓oPutf, ↓oNew, ↓oNewa, ↓oAlen, ↓oIald, ↓oLald, ↓oZald, ↓oAald, ↓oIast, ↓oLast, ↓oZast, ↓oAast, ↓oCast, ↓oObji, ↓oRetI, ↓oRetZ, ↓oRetL, ↓oRetA, ↓oRetV, ↓oInvS, ↓oInvV, ↓oInvI, ↓oFail, ↓oAcEq, ↓oGetE, ↓oAlenE, ↓oAastO, ↓oCopyL, ↓popI_I, ↓popL_L, ↓popR_R, ↓popS_I, ↓popS_R, ↓popN_0, ↓popN_s, ↓popT_0, ↓popT_1, ↓popT_2, ↓popT_3, ↓gI_0, ↓gI_s, ↓gL_0, ↓gL_s, ↓gR_0, ↓gR_s, ↓blk_s, ↓blk_0, goE_0, goE_1, goE_2, bst_0, bst_1, bst_2, TTf_e, st1_0, st1_1, st1_s, st2_0, st2_1, st2_s, jk_I, jk_R, jk_L, jk_J, mkT_0, mkT_1, mkT_2, mkT_3, sw_n, sw_c, nJ_n, nJ_I, nJ_L, nJ_R, stW_n, stW_I, stW_R, stW_L, true_and, and_true, Nat.reduceAdd, Nat.reduceLeDiff, Int.reduceAdd, up_at, Int.reduceEq, Int.reduceLE, Int.reduceLT, false_and, and_false, and_self, if_false, if_true, Int.reduceNeg, List.cons_append, List.nil_append, not_true_eq_false, not_false_eq_true, false_implies, true_implies, implies_true, true_or, or_true, false_or, or_false, aX12_strikes_0, aX12_strikes_1, aX12_strikes_2, aX12_strikes_5, aX12_strikes_6, aX12_strikes_7, aX12_strikes_8, aX12_strikes_9, aX12_strikes_12, aX12_strikes_13, aX12_strikes_14, aX12_strikes_17, aX12_strikes_18, aX12_strikes_19, aX12_strikes_20, aX12_strikes_21, aX12_strikes_22, aX12_strikes_25, aX12_strikes_26, aX12_strikes_29, aX12_strikes_30, aX12_strikes_31, aX12_strikes_34, aX12_strikes_35, aX12_strikes_36, aX12_strikes_37, aX12_strikes_40, aX12_strikes_41, aX12_strikes_44, aX12_strikes_46, aX12_strikes_47, aX12_strikes_48, aX12_strikes_49, aX12_strikes_50, aX12_strikes_51, aX12_strikes_52, aX12_strikes_55, aX12_strikes_58, MK_o hK, MK_wordN hK, MR_wordN hS, MS_wordN hS]
    repeat' (first | refine And.intro ?_ ?_ | refine imp_i (fun _ => ?_))
    all_goals first | omega | exact hq _ hS (by simpa [wordsF] using hk) hB
  | succ m ih =>
    intro i l S hi h0 hl hS hk hB hq
    have e1 := shr_bt (x := set) (s := i) hset h0 (by omega)
    have e2 := hk.1
    refine TT.go zX12_strikes 200 ?_
    simp only [↓oPush, ↓oIload, ↓oLload, ↓oRload, ↓oIstore, ↓oLstore, ↓oRstore, ↓oIinc, ↓oIadd, ↓oIsub, ↓oImul, ↓oIand, ↓oIor, ↓oIshl, ↓oIshr, ↓oIushr, ↓oIdiv, ↓oIrem, ↓oIneg, ↓oLadd, ↓oLmul, ↓oLand, ↓oLor, ↓oLxor, ↓oLshl, ↓oLshr, ↓oLushr, ↓oLcmp, ↓oI2l, ↓oL2i, ↓oI2b, ↓oI2s, ↓oDup, ↓oPop, ↓oDupx1, ↓oDupx2, ↓oDup2, ↓oGoto, ↓oIfEq, ↓oIfNe, ↓oIfLt, ↓oIfGe, ↓oIfGt, ↓oIfLe, ↓oIcEq, ↓oIcNe, ↓oIcLt, ↓oIcGe, ↓oIcGt, ↓oIcLe, ↓oIfnull, ↓oIfnonnull, ↓oSwitch, ↓oGetf, ↓oPutf, ↓oNew, ↓oNewa, ↓oAlen, ↓oIald, ↓oLald, ↓oZald, ↓oAald, ↓oIast, ↓oLast, ↓oZast, ↓oAast, ↓oCast, ↓oObji, ↓oRetI, ↓oRetZ, ↓oRetL, ↓oRetA, ↓oRetV, ↓oInvS, ↓oInvV, ↓oInvI, ↓oFail, ↓oAcEq, ↓oGetE, ↓oAlenE, ↓oAastO, ↓oCopyL, ↓popI_I, ↓popL_L, ↓popR_R, ↓popS_I, ↓popS_R, ↓popN_0, ↓popN_s, ↓popT_0, ↓popT_1, ↓popT_2, ↓popT_3, ↓gI_0, ↓gI_s, ↓gL_0, ↓gL_s, ↓gR_0, ↓gR_s, ↓blk_s, ↓blk_0, goE_0, goE_1, goE_2, bst_0, bst_1, bst_2, TTf_e, st1_0, st1_1, st1_s, st2_0, st2_1, st2_s, jk_I, jk_R, jk_L, jk_J, mkT_0, mkT_1, mkT_2, mkT_3, sw_n, sw_c, nJ_n, nJ_I, nJ_L, nJ_R, stW_n, stW_I, stW_R, stW_L, true_and, and_true, Nat.reduceAdd, Nat.reduceLeDiff, Int.reduceAdd, up_at, Int.reduceEq, Int.reduceLE, Int.reduceLT, false_and, and_false, and_self, if_false, if_true, Int.reduceNeg, List.cons_append, List.nil_append, not_true_eq_false, not_false_eq_true, false_implies, true_implies, implies_true, true_or, or_true, false_or, or_false, aX12_strikes_0, aX12_strikes_1, aX12_strikes_2, aX12_strikes_5, aX12_strikes_6, aX12_strikes_7, aX12_strikes_8, aX12_strikes_9, aX12_strikes_12, aX12_strikes_13, aX12_strikes_14, aX12_strikes_17, aX12_strikes_18, aX12_strikes_19, aX12_strikes_20, aX12_strikes_21, aX12_strikes_22, aX12_strikes_25, aX12_strikes_26, aX12_strikes_29, aX12_strikes_30, aX12_strikes_31, aX12_strikes_34, aX12_strikes_35, aX12_strikes_36, aX12_strikes_37, aX12_strikes_40, aX12_strikes_41, aX12_strikes_44, aX12_strikes_46, aX12_strikes_47, aX12_strikes_48, aX12_strikes_49, aX12_strikes_50, aX12_strikes_51, aX12_strikes_52, aX12_strikes_55, aX12_strikes_58, MK_o hK, MK_wordN hK, MR_wordN hS, MS_wordN hS, MK_word hK, MR_word hS, MS_word hS, MK_kept hK, MR_kept hS, e1, e2, b01_0, bfn, btn]
    repeat' (first | refine And.intro ?_ ?_ | refine imp_i (fun _ => ?_))
    all_goals (try simp (disch := omega) only [w32_i] at *)
    all_goals first
      | omega
      | (refine ih _ _ _ (by omega) (by omega) ?_ (MS_scr (MS_scr hS (by unfold scr; omega)) (by unfold scr; omega)) (KP_snoc hk rfl) (by rw [up_na (by omega), up_na (by omega)]; exact hB) (fun S' hS' hk' hB' => hq S' hS' ?_ hB') <;> simp_all [wordsF] <;> omega)
      | (refine ih _ _ _ (by omega) (by omega) (by omega) hS hk hB (fun S' hS' hk' hB' => hq S' hS' ?_ hB'); simp_all [wordsF]; done)
set_option maxRecDepth 20000 in
theorem m_strikes {d : Nat} {a set : Int} {μ S0 : ST} {K : KT} {S : ST} {Q : QF} (hK : MK K) (hS : MS μ S0 S) (ha : 0 ≤ a ∧ a < 24) (hn : 0 ≤ μ 1022 a ∧ μ 1022 a ≤ 20) (hset : in32 set) (hq : ∀ S', MS μ S0 S' → KP S' (textOf μ a set) → S' 1089 = S 1089 → Q [] K S') : Mt (d + 1) 0 0 mX12_strikes [vR 1000, vI a, vI set] K S Q := by
  refine Mt_of_TT (by decide +kernel) (Nat.le_of_ble_eq_true rfl) ?_
  show TT mX12_strikes _ 0 [vR 1000, vI a, vI set, vJ] [] _ _ _ _ _
  refine TT.go zX12_strikes 200 ?_
  simp only [↓oPush, ↓oIload, ↓oLload, ↓oRload, ↓oIstore, ↓oLstore, ↓oRstore, ↓oIinc, ↓oIadd, ↓oIsub, ↓oImul, ↓oIand, ↓oIor, ↓oIshl, ↓oIshr, ↓oIushr, ↓oIdiv, ↓oIrem, ↓oIneg, ↓oLadd, ↓oLmul, ↓oLand, ↓oLor, ↓oLxor, ↓oLshl, ↓oLshr, ↓oLushr, ↓oLcmp, ↓oI2l, ↓oL2i, ↓oI2b, ↓oI2s, ↓oDup, ↓oPop, ↓oDupx1, ↓oDupx2, ↓oDup2, ↓oGoto, ↓oIfEq, ↓oIfNe, ↓oIfLt, ↓oIfGe, ↓oIfGt, ↓oIfLe, ↓oIcEq, ↓oIcNe, ↓oIcLt, ↓oIcGe, ↓oIcGt, ↓oIcLe, ↓oIfnull, ↓oIfnonnull, ↓oSwitch, ↓oGetf, ↓oPutf, ↓oNew, ↓oNewa, ↓oAlen, ↓oIald, ↓oLald, ↓oZald, ↓oAald, ↓oIast, ↓oLast, ↓oZast, ↓oAast, ↓oCast, ↓oObji, ↓oRetI, ↓oRetZ, ↓oRetL, ↓oRetA, ↓oRetV, ↓oInvS, ↓oInvV, ↓oInvI, ↓oFail, ↓oAcEq, ↓oGetE, ↓oAlenE, ↓oAastO, ↓oCopyL, ↓popI_I, ↓popL_L, ↓popR_R, ↓popS_I, ↓popS_R, ↓popN_0, ↓popN_s, ↓popT_0, ↓popT_1, ↓popT_2, ↓popT_3, ↓gI_0, ↓gI_s, ↓gL_0, ↓gL_s, ↓gR_0, ↓gR_s, ↓blk_s, ↓blk_0, goE_0, goE_1, goE_2, bst_0, bst_1, bst_2, TTf_e, st1_0, st1_1, st1_s, st2_0, st2_1, st2_s, jk_I, jk_R, jk_L, jk_J, mkT_0, mkT_1, mkT_2, mkT_3, sw_n, sw_c, nJ_n, nJ_I, nJ_L, nJ_R, stW_n, stW_I, stW_R, stW_L, true_and, and_true, Nat.reduceAdd, Nat.reduceLeDiff, Int.reduceAdd, up_at, Int.reduceEq, Int.reduceLE, Int.reduceLT, false_and, and_false, and_self, if_false, if_true, Int.reduceNeg, List.cons_append, List.nil_append, not_true_eq_false, not_false_eq_true, false_implies, true_implies, implies_true, true_or, or_true, false_or, or_false, aX12_strikes_0, aX12_strikes_1, aX12_strikes_2, aX12_strikes_5, aX12_strikes_6, aX12_strikes_7, aX12_strikes_8, aX12_strikes_9, aX12_strikes_12, aX12_strikes_13, aX12_strikes_14, aX12_strikes_17, aX12_strikes_18, aX12_strikes_19, aX12_strikes_20, aX12_strikes_21, aX12_strikes_22, aX12_strikes_25, aX12_strikes_26, aX12_strikes_29, aX12_strikes_30, aX12_strikes_31, aX12_strikes_34, aX12_strikes_35, aX12_strikes_36, aX12_strikes_37, aX12_strikes_40, aX12_strikes_41, aX12_strikes_44, aX12_strikes_46, aX12_strikes_47, aX12_strikes_48, aX12_strikes_49, aX12_strikes_50, aX12_strikes_51, aX12_strikes_52, aX12_strikes_55, aX12_strikes_58, MK_o hK]
  refine strikes_l hK ha hn hset (μ 1022 a).toNat 0 [] _ (by omega) (by omega) (by simp) (MS_scr hS (by unfold scr; omega)) KP_0 (by rw [up_na (by omega)]) ?_
  intro S' hS' hk hB
  exact hq S' hS' (by rw [List.nil_append] at hk; exact hk) hB
theorem standsAt_l {d : Nat} {p r from_ n at_ L : Int} {row : Int → Int} {μ S0 : ST} {K : KT} {S : ST} {Q : QF} (hK : MK K) (hS : MS μ S0 S) (hp : 0 ≤ p ∧ p < 20) (hpN : 1 ≤ μ 1032 p ∧ μ 1032 p ≤ 6) (hr : r ≠ 0) (hKr : K r = (100, L)) (hL : L < 1000) (hf : 0 ≤ from_ ∧ from_ + n ≤ L) (hrow : ∀ x, 0 ≤ x → x < n → S r (from_ + x) = row x) (hat : 0 ≤ at_ ∧ at_ + μ 1032 p ≤ n) :
    ∀ (m : Nat) (i : Int), i + m = μ 1032 p → 0 ≤ i → Q [vI (b01 (allF (fun i => decide (row (at_ + i) = μ 1033 (6 * p + i))) i m))] K S → TT mX12_standsAt (d + 1) 19 [vR 1000, vI p, vR r, vI from_, vI n, vI at_, vI i] [] K S 0 0 Q := by
  intro m
  induction m with
  | zero =>
    intro i hi h0 hq
    have e : i = μ 1032 p := by omega
    subst e
    refine TT.go zX12_standsAt 200 ?_
    simp only [↓oPush, ↓oIload, ↓oLload, ↓oRload, ↓oIstore, ↓oLstore, ↓oRstore, ↓oIinc, ↓oIadd, ↓oIsub, ↓oImul, ↓oIand, ↓oIor, ↓oIshl, ↓oIshr, ↓oIushr, ↓oIdiv, ↓oIrem, ↓oIneg, ↓oLadd, ↓oLmul, ↓oLand, ↓oLor, ↓oLxor, ↓oLshl, ↓oLshr, ↓oLushr, ↓oLcmp, ↓oI2l, ↓oL2i, ↓oI2b, ↓oI2s, ↓oDup, ↓oPop, ↓oDupx1, ↓oDupx2, ↓oDup2, ↓oGoto, ↓oIfEq, ↓oIfNe, ↓oIfLt, ↓oIfGe, ↓oIfGt, ↓oIfLe, ↓oIcEq, ↓oIcNe, ↓oIcLt, ↓oIcGe, ↓oIcGt, ↓oIcLe, ↓oIfnull, ↓oIfnonnull, ↓oSwitch, ↓oGetf, ↓oPutf, ↓oNew, ↓oNewa, ↓oAlen, ↓oIald, ↓oLald, ↓oZald, ↓oAald, ↓oIast, ↓oLast, ↓oZast, ↓oAast, ↓oCast, ↓oObji, ↓oRetI, ↓oRetZ, ↓oRetL, ↓oRetA, ↓oRetV, ↓oInvS, ↓oInvV, ↓oInvI, ↓oFail, ↓oAcEq, ↓oGetE, ↓oAlenE, ↓oAastO, ↓oCopyL, ↓popI_I, ↓popL_L, ↓popR_R, ↓popS_I, ↓popS_R, ↓popN_0, ↓popN_s, ↓popT_0, ↓popT_1, ↓popT_2, ↓popT_3, ↓gI_0, ↓gI_s, ↓gL_0, ↓gL_s, ↓gR_0, ↓gR_s, ↓blk_s, ↓blk_0, goE_0, goE_1, goE_2, bst_0, bst_1, bst_2, TTf_e, st1_0, st1_1, st1_s, st2_0, st2_1, st2_s, jk_I, jk_R, jk_L, jk_J, mkT_0, mkT_1, mkT_2, mkT_3, sw_n, sw_c, nJ_n, nJ_I, nJ_L, nJ_R, stW_n, stW_I, stW_R, stW_L, true_and, and_true, Nat.reduceAdd, Nat.reduceLeDiff, Int.reduceAdd, up_at, Int.reduceEq, Int.reduceLE, Int.reduceLT, false_and, and_false, and_self, if_false, if_true, Int.reduceNeg, List.cons_append, List.nil_append, not_true_eq_false, not_false_eq_true, false_implies, true_implies, implies_true, true_or, or_true, false_or, or_false, aX12_standsAt_0, aX12_standsAt_2, aX12_standsAt_3, aX12_standsAt_6, aX12_standsAt_7, aX12_standsAt_8, aX12_standsAt_9, aX12_standsAt_11, aX12_standsAt_14, aX12_standsAt_15, aX12_standsAt_16, aX12_standsAt_17, aX12_standsAt_19, aX12_standsAt_21, aX12_standsAt_22, aX12_standsAt_25, aX12_standsAt_26, aX12_standsAt_27, aX12_standsAt_30, aX12_standsAt_31, aX12_standsAt_32, aX12_standsAt_34, aX12_standsAt_35, aX12_standsAt_37, aX12_standsAt_38, aX12_standsAt_39, aX12_standsAt_40, aX12_standsAt_43, aX12_standsAt_45, aX12_standsAt_46, aX12_standsAt_47, aX12_standsAt_49, aX12_standsAt_50, aX12_standsAt_51, aX12_standsAt_54, aX12_standsAt_55, aX12_standsAt_56, aX12_standsAt_59, aX12_standsAt_62, aX12_standsAt_63, MK_o hK, MK_pN hK, MR_pN hS, MS_pN hS]
    repeat' (first | refine And.intro ?_ ?_ | refine imp_i (fun _ => ?_))
    all_goals first | omega | exact hq
  | succ m ih =>
    intro i hi h0 hq
    have e1 := hrow (at_ + i) (by omega) (by omega)
    rw [← Int.add_assoc] at e1
    refine TT.go zX12_standsAt 200 ?_
    simp only [↓oPush, ↓oIload, ↓oLload, ↓oRload, ↓oIstore, ↓oLstore, ↓oRstore, ↓oIinc, ↓oIadd, ↓oIsub, ↓oImul, ↓oIand, ↓oIor, ↓oIshl, ↓oIshr, ↓oIushr, ↓oIdiv, ↓oIrem, ↓oIneg, ↓oLadd, ↓oLmul, ↓oLand, ↓oLor, ↓oLxor, ↓oLshl, ↓oLshr, ↓oLushr, ↓oLcmp, ↓oI2l, ↓oL2i, ↓oI2b, ↓oI2s, ↓oDup, ↓oPop, ↓oDupx1, ↓oDupx2, ↓oDup2, ↓oGoto, ↓oIfEq, ↓oIfNe, ↓oIfLt, ↓oIfGe, ↓oIfGt, ↓oIfLe, ↓oIcEq, ↓oIcNe, ↓oIcLt, ↓oIcGe, ↓oIcGt, ↓oIcLe, ↓oIfnull, ↓oIfnonnull, ↓oSwitch, ↓oGetf, ↓oPutf, ↓oNew, ↓oNewa, ↓oAlen, ↓oIald, ↓oLald, ↓oZald, ↓oAald, ↓oIast, ↓oLast, ↓oZast, ↓oAast, ↓oCast, ↓oObji, ↓oRetI, ↓oRetZ, ↓oRetL, ↓oRetA, ↓oRetV, ↓oInvS, ↓oInvV, ↓oInvI, ↓oFail, ↓oAcEq, ↓oGetE, ↓oAlenE, ↓oAastO, ↓oCopyL, ↓popI_I, ↓popL_L, ↓popR_R, ↓popS_I, ↓popS_R, ↓popN_0, ↓popN_s, ↓popT_0, ↓popT_1, ↓popT_2, ↓popT_3, ↓gI_0, ↓gI_s, ↓gL_0, ↓gL_s, ↓gR_0, ↓gR_s, ↓blk_s, ↓blk_0, goE_0, goE_1, goE_2, bst_0, bst_1, bst_2, TTf_e, st1_0, st1_1, st1_s, st2_0, st2_1, st2_s, jk_I, jk_R, jk_L, jk_J, mkT_0, mkT_1, mkT_2, mkT_3, sw_n, sw_c, nJ_n, nJ_I, nJ_L, nJ_R, stW_n, stW_I, stW_R, stW_L, true_and, and_true, Nat.reduceAdd, Nat.reduceLeDiff, Int.reduceAdd, up_at, Int.reduceEq, Int.reduceLE, Int.reduceLT, false_and, and_false, and_self, if_false, if_true, Int.reduceNeg, List.cons_append, List.nil_append, not_true_eq_false, not_false_eq_true, false_implies, true_implies, implies_true, true_or, or_true, false_or, or_false, aX12_standsAt_0, aX12_standsAt_2, aX12_standsAt_3, aX12_standsAt_6, aX12_standsAt_7, aX12_standsAt_8, aX12_standsAt_9, aX12_standsAt_11, aX12_standsAt_14, aX12_standsAt_15, aX12_standsAt_16, aX12_standsAt_17, aX12_standsAt_19, aX12_standsAt_21, aX12_standsAt_22, aX12_standsAt_25, aX12_standsAt_26, aX12_standsAt_27, aX12_standsAt_30, aX12_standsAt_31, aX12_standsAt_32, aX12_standsAt_34, aX12_standsAt_35, aX12_standsAt_37, aX12_standsAt_38, aX12_standsAt_39, aX12_standsAt_40, aX12_standsAt_43, aX12_standsAt_45, aX12_standsAt_46, aX12_standsAt_47, aX12_standsAt_49, aX12_standsAt_50, aX12_standsAt_51, aX12_standsAt_54, aX12_standsAt_55, aX12_standsAt_56, aX12_standsAt_59, aX12_standsAt_62, aX12_standsAt_63, MK_o hK, MK_pN hK, MR_pN hS, MS_pN hS, MK_pWord hK, MR_pWord hS, MS_pWord hS, hKr]
    repeat' (first | refine And.intro ?_ ?_ | refine imp_i (fun _ => ?_))
    all_goals (try simp (disch := omega) only [w32_i] at *)
    all_goals first
      | omega
      | (refine ih _ (by omega) (by omega) (c1 hq ?_); rw [allF, decide_eq_true (by omega)]; rfl)
      | (refine c1 hq ?_; rw [allF, decide_eq_false (by omega)]; rfl)
set_option maxRecDepth 20000 in
theorem m_standsAt {d : Nat} {p r from_ n at_ L : Int} {row : Int → Int} {μ S0 : ST} {K : KT} {S : ST} {Q : QF} (hK : MK K) (hS : MS μ S0 S) (hp : 0 ≤ p ∧ p < 20) (hpN : 1 ≤ μ 1032 p ∧ μ 1032 p ≤ 6) (hr : r ≠ 0) (hKr : K r = (100, L)) (hL : L < 1000) (hf : 0 ≤ from_ ∧ from_ + n ≤ L) (hrow : ∀ x, 0 ≤ x → x < n → S r (from_ + x) = row x) (hat : 0 ≤ at_ ∧ at_ ≤ n) (hq : Q [vI (b01 (standF μ p row n at_))] K S) : Mt (d + 1) 0 0 mX12_standsAt [vR 1000, vI p, vR r, vI from_, vI n, vI at_] K S Q := by
  refine Mt_of_TT (by decide +kernel) (Nat.le_of_ble_eq_true rfl) ?_
  show TT mX12_standsAt _ 0 [vR 1000, vI p, vR r, vI from_, vI n, vI at_, vJ] [] _ _ _ _ _
  unfold standF at hq
  refine TT.go zX12_standsAt 200 ?_
  simp only [↓oPush, ↓oIload, ↓oLload, ↓oRload, ↓oIstore, ↓oLstore, ↓oRstore, ↓oIinc, ↓oIadd, ↓oIsub, ↓oImul, ↓oIand, ↓oIor, ↓oIshl, ↓oIshr, ↓oIushr, ↓oIdiv, ↓oIrem, ↓oIneg, ↓oLadd, ↓oLmul, ↓oLand, ↓oLor, ↓oLxor, ↓oLshl, ↓oLshr, ↓oLushr, ↓oLcmp, ↓oI2l, ↓oL2i, ↓oI2b, ↓oI2s, ↓oDup, ↓oPop, ↓oDupx1, ↓oDupx2, ↓oDup2, ↓oGoto, ↓oIfEq, ↓oIfNe, ↓oIfLt, ↓oIfGe, ↓oIfGt, ↓oIfLe, ↓oIcEq, ↓oIcNe, ↓oIcLt, ↓oIcGe, ↓oIcGt, ↓oIcLe, ↓oIfnull, ↓oIfnonnull, ↓oSwitch, ↓oGetf, ↓oPutf, ↓oNew, ↓oNewa, ↓oAlen, ↓oIald, ↓oLald, ↓oZald, ↓oAald, ↓oIast, ↓oLast, ↓oZast, ↓oAast, ↓oCast, ↓oObji, ↓oRetI, ↓oRetZ, ↓oRetL, ↓oRetA, ↓oRetV, ↓oInvS, ↓oInvV, ↓oInvI, ↓oFail, ↓oAcEq, ↓oGetE, ↓oAlenE, ↓oAastO, ↓oCopyL, ↓popI_I, ↓popL_L, ↓popR_R, ↓popS_I, ↓popS_R, ↓popN_0, ↓popN_s, ↓popT_0, ↓popT_1, ↓popT_2, ↓popT_3, ↓gI_0, ↓gI_s, ↓gL_0, ↓gL_s, ↓gR_0, ↓gR_s, ↓blk_s, ↓blk_0, goE_0, goE_1, goE_2, bst_0, bst_1, bst_2, TTf_e, st1_0, st1_1, st1_s, st2_0, st2_1, st2_s, jk_I, jk_R, jk_L, jk_J, mkT_0, mkT_1, mkT_2, mkT_3, sw_n, sw_c, nJ_n, nJ_I, nJ_L, nJ_R, stW_n, stW_I, stW_R, stW_L, true_and, and_true, Nat.reduceAdd, Nat.reduceLeDiff, Int.reduceAdd, up_at, Int.reduceEq, Int.reduceLE, Int.reduceLT, false_and, and_false, and_self, if_false, if_true, Int.reduceNeg, List.cons_append, List.nil_append, not_true_eq_false, not_false_eq_true, false_implies, true_implies, implies_true, true_or, or_true, false_or, or_false, aX12_standsAt_0, aX12_standsAt_2, aX12_standsAt_3, aX12_standsAt_6, aX12_standsAt_7, aX12_standsAt_8, aX12_standsAt_9, aX12_standsAt_11, aX12_standsAt_14, aX12_standsAt_15, aX12_standsAt_16, aX12_standsAt_17, aX12_standsAt_19, aX12_standsAt_21, aX12_standsAt_22, aX12_standsAt_25, aX12_standsAt_26, aX12_standsAt_27, aX12_standsAt_30, aX12_standsAt_31, aX12_standsAt_32, aX12_standsAt_34, aX12_standsAt_35, aX12_standsAt_37, aX12_standsAt_38, aX12_standsAt_39, aX12_standsAt_40, aX12_standsAt_43, aX12_standsAt_45, aX12_standsAt_46, aX12_standsAt_47, aX12_standsAt_49, aX12_standsAt_50, aX12_standsAt_51, aX12_standsAt_54, aX12_standsAt_55, aX12_standsAt_56, aX12_standsAt_59, aX12_standsAt_62, aX12_standsAt_63, MK_o hK, MK_pN hK, MR_pN hS, MS_pN hS]
  repeat' (first | refine And.intro ?_ ?_ | refine imp_i (fun _ => ?_))
  all_goals (try simp (disch := omega) only [w32_i] at *)
  all_goals first
    | omega
    | (refine standsAt_l hK hS hp hpN hr hKr hL hf hrow (by omega) (μ 1032 p).toNat 0 (by omega) (by omega) (c1 hq ?_); rw [decide_eq_true (by omega)]; rfl)
    | (refine c1 hq ?_; rw [decide_eq_false (by omega)]; rfl)
