/-! THE CLASS'S RULES: does an advert stand without words -/
theorem mem_hits {st : Int → Int → Bool} {i : Int} {z : Int × Int} : ∀ (m : Nat) (p : Int), z ∈ hitsG st i p m → st z.1 z.2 = true ∧ p ≤ z.1 ∧ z.1 < p + m
  | 0, _, h => by cases h
  | m + 1, p, h => by
    unfold hitsG at h
    split at h
    · rename_i c
      rcases List.mem_cons.mp h with e | e
      · rw [e]; exact ⟨c, Int.le_refl _, by show p < p + ((m + 1 : Nat) : Int); omega⟩
      · have g := mem_hits m (p + 1) e
        exact ⟨g.1, by omega, by omega⟩
    · have g := mem_hits m (p + 1) h
      exact ⟨g.1, by omega, by omega⟩
theorem mem_places {st : Int → Int → Bool} {n : Nat} {z : Int × Int} : ∀ (m : Nat) (i : Int), z ∈ placesG st n i m → st z.1 z.2 = true ∧ 0 ≤ z.1 ∧ z.1 < n
  | 0, _, h => by cases h
  | m + 1, i, h => by
    unfold placesG at h
    rcases List.mem_append.mp h with e | e
    · have g := mem_hits n 0 e
      exact ⟨g.1, g.2.1, by omega⟩
    · exact mem_places m (i + 1) e
theorem clrL_any {bad : Int → Bool} {l : List (Int × Int)} : ∀ (m : Nat) (i : Int), 0 ≤ i → i + m = l.length → clrL bad l i m = !((l.drop i.toNat).any (fun z => bad z.1))
  | 0, i, h0, h => by
    have e : l.drop i.toNat = [] := List.drop_eq_nil_of_le (by omega)
    rw [e]; rfl
  | m + 1, i, h0, h => by
    have hi : i.toNat < l.length := by omega
    have e : l.drop i.toNat = l[i.toNat] :: l.drop (i.toNat + 1) := List.drop_eq_getElem_cons hi
    have e2 : l.getD i.toNat (0, 0) = l[i.toNat] := by simp [List.getD, hi]
    unfold clrL
    rw [e, e2, List.any_cons, clrL_any m (i + 1) (by omega) (by omega), show (i + 1).toNat = i.toNat + 1 by omega]
    cases bad l[i.toNat].1 <;> simp
/-- what the class reads by T and B, against what the document asks of a set of words taken away -/
theorem clrF_any {μ : ST} {R : RT} {ad X T B set L : Int} {row : Int → Int} (hP : IvP μ) (hcap : 0 ≤ μ 1000 2) (hX : rifB μ (μ 1000 0) (μ 1000 0) X) (hT : telB μ (μ 1000 0) (μ 1000 0) T) (hB : brB μ R ad T X B) (hL : L = (textOf μ ad set).length) (hrow : ∀ j, 0 ≤ j → j < L → row j = rowL (textOf μ ad set) j) :
    clrF μ R ad set = !(((placesG (stX μ T row L) (μ 1000 2).toNat 0 L.toNat).take 24).any (fun z => bt B z.1)) := by
  have e := places_eq hP hcap hT hL hrow L.toNat 0 (Int.le_refl 0)
  unfold clrF
  have er : readF μ (textOf μ ad set) (μ 1000 0) (μ 1000 0) = (placesG (stX μ T row L) (μ 1000 2).toNat 0 L.toNat).take 24 := by
    unfold readF
    rw [e, hL, Int.toNat_natCast]
  rw [er, clrL_any _ 0 (Int.le_refl 0) (by omega)]
  congr 1
  rw [show (0 : Int).toNat = 0 from rfl, List.drop_zero]
  rw [Bool.eq_iff_iff, List.any_eq_true, List.any_eq_true]
  have key : ∀ z, z ∈ (placesG (stX μ T row L) (μ 1000 2).toNat 0 L.toNat).take 24 → badF μ R ad z.1 = bt B z.1 := by
    intro z hz
    have hm := mem_places _ _ (List.mem_of_mem_take hz)
    have hz2 : z.1 < μ 1000 2 := by have := hm.2.2; omega
    have ht : bt T z.1 = true := by
      have := hm.1
      unfold stX at this
      exact (Bool.and_eq_true_iff.mp this).1
    have ht2 := hT.2.2 z.1 hm.2.1 hz2
    rw [ht] at ht2
    have hk := (Bool.and_eq_true_iff.mp ht2.symm).1
    rw [hB.2.2 z.1 hm.2.1 hz2, ht, Bool.true_and]
    unfold badF brF barF
    rw [hk, Bool.true_and]
    have e : fndF (barsP μ R ad z.1 (μ 1000 0) (μ 1000 0)) 0 (μ 1000 4).toNat = fndF (fun r => bt X r && hoF μ (R r) ad z.1 (μ 1000 0) (μ 1000 0)) 0 (μ 1000 4).toNat := by
      refine fndF_c _ _ (fun j j0 j1 => ?_)
      unfold barsP
      rw [hX.2.2 j j0 (by omega)]
    rw [e]
  constructor
  · rintro ⟨z, h1, h2⟩
    exact ⟨z, h1, by rw [← key z h1]; exact h2⟩
  · rintro ⟨z, h1, h2⟩
    exact ⟨z, h1, by rw [key z h1]; exact h2⟩
theorem Scr_55 {S S' : ST} {i v : Int} (h : Scr S S') : Scr S (up S' 55 i v) := by
  refine Scr_tr h ⟨fun a a0 a1 => up_na (by omega), fun a a0 => up_na (by omega), ?_, ?_, ?_, ?_⟩ <;> rw [up_na (by omega)]
theorem rowL_snoc {l : List Int} {x j : Int} (h0 : 0 ≤ j) (h1 : j < (l.length : Int) + 1) : rowL (l ++ [x]) j = if j = l.length then x else rowL l j := by
  unfold rowL
  by_cases e : j = l.length
  · rw [if_pos e, e]; simp
  · rw [if_neg e]
    have hj : j.toNat < l.length := by omega
    simp [List.getD, List.getElem?_append_left hj]
theorem stands_l {d : Nat} {ad set T B X : Int} {μ : ST} {R : RT} {K : KT} {S0 : ST} {Q : QF} (hI : Iv0 μ) (hA : IvA μ) (hP : IvP μ) (ha : isAd μ ad) (hs : in32 set) (hX : rifB μ (μ 1000 0) (μ 1000 0) X) (hT : telB μ (μ 1000 0) (μ 1000 0) T) (hB : brB μ R ad T X B) (hq : ∀ S', Scr S0 S' → Q [vI (b01 (clrF μ R ad set))] K S') :
    ∀ (m : Nat) (p : Int) (pre : List Int) (S : ST), Scr S0 S → Rc μ R K S → p + m = μ 1022 ad → 0 ≤ p → (pre.length : Int) ≤ p → pre ++ wordsF (fun i => μ 1028 (20 * ad + i)) set p m = textOf μ ad set → (∀ j : Int, 0 ≤ j → j < pre.length → S 55 j = rowL pre j) → ∀ z : Int, z = pre.length → TT mX11_standsWithout (d + 5) 6 [vR 1, vR (100 + ad), vI set, vI T, vI B, vI z, vI p] [] K S 0 0 Q := by
  intro m
  induction m with
  | zero =>
    intro p pre S hsc h hm h0 hl he hrow z hz
    have hia := hA ad ha.1 ha.2
    have hcap := (Rc_ph h).1
    obtain ⟨e1, e2, e3, e4, e5, e6, e7, e8, e10, e11, e12, e13, e14, e15, e16, e17, e18, e19⟩ := adE h ha
    have hn : μ 1022 ad ≤ p := by omega
    have he' : pre = textOf μ ad set := by
      have : pre ++ [] = textOf μ ad set := he
      rw [List.append_nil] at this; exact this
    subst he'
    have hXb := pow2_le (a := (μ 1000 2).toNat) (b := 20) (by omega)
    have h20 : (2 : Int) ^ 20 = 1048576 := rfl
    refine TT.go zX11_standsWithout 200 ?_
    simp only [↓oPush, ↓oIload, ↓oLload, ↓oRload, ↓oIstore, ↓oLstore, ↓oRstore, ↓oIinc, ↓oIadd, ↓oIsub, ↓oImul, ↓oIand, ↓oIor, ↓oIshl, ↓oIshr, ↓oIushr, ↓oIdiv, ↓oIrem, ↓oIneg, ↓oLadd, ↓oLmul, ↓oLand, ↓oLor, ↓oLxor, ↓oLshl, ↓oLshr, ↓oLushr, ↓oLcmp, ↓oI2l, ↓oL2i, ↓oI2b, ↓oI2s, ↓oDup, ↓oPop, ↓oDupx1, ↓oDupx2, ↓oDup2, ↓oGoto, ↓oIfEq, ↓oIfNe, ↓oIfLt, ↓oIfGe, ↓oIfGt, ↓oIfLe, ↓oIcEq, ↓oIcNe, ↓oIcLt, ↓oIcGe, ↓oIcGt, ↓oIcLe, ↓oIfnull, ↓oIfnonnull, ↓oSwitch, ↓oGetf, ↓oPutf, ↓oNew, ↓oNewa, ↓oAlen, ↓oIald, ↓oLald, ↓oZald, ↓oAald, ↓oIast, ↓oLast, ↓oZast, ↓oAast, ↓oCast, ↓oObji, ↓oRetI, ↓oRetZ, ↓oRetL, ↓oRetA, ↓oRetV, ↓oInvS, ↓oInvV, ↓oInvI, ↓oFail, ↓oAcEq, ↓oGetE, ↓oAlenE, ↓oAastO, ↓oCopyL, ↓oCopyK, ↓oInvS8, ↓oLdcS, ↓oMmax, ↓oMmin, ↓oMabs, ↓oAlenE, ↓popI_I, ↓popL_L, ↓popR_R, ↓popS_I, ↓popS_R, ↓popN_0, ↓popN_s, ↓popT_0, ↓popT_1, ↓popT_2, ↓popT_3, ↓gI_0, ↓gI_s, ↓gL_0, ↓gL_s, ↓gR_0, ↓gR_s, ↓blk_s, ↓blk_0, goE_0, goE_1, goE_2, bst_0, bst_1, bst_2, TTf_e, st1_0, st1_1, st1_s, st2_0, st2_1, st2_s, jk_I, jk_R, jk_L, jk_J, mkT_0, mkT_1, mkT_2, mkT_3, sw_n, sw_c, nJ_n, nJ_I, nJ_L, nJ_R, stW_n, stW_I, stW_R, stW_L, true_and, and_true, Nat.reduceAdd, Nat.reduceLeDiff, Int.reduceAdd, up_at, Int.reduceEq, Int.reduceLE, Int.reduceLT, false_and, and_false, and_self, if_false, if_true, Int.reduceNeg, List.cons_append, List.nil_append, not_true_eq_false, not_false_eq_true, false_implies, true_implies, implies_true, true_or, or_true, false_or, or_false, aX11_standsWithout_0, aX11_standsWithout_1, aX11_standsWithout_3, aX11_standsWithout_4, aX11_standsWithout_6, aX11_standsWithout_8, aX11_standsWithout_9, aX11_standsWithout_12, aX11_standsWithout_13, aX11_standsWithout_16, aX11_standsWithout_18, aX11_standsWithout_20, aX11_standsWithout_23, aX11_standsWithout_24, aX11_standsWithout_26, aX11_standsWithout_27, aX11_standsWithout_28, aX11_standsWithout_29, aX11_standsWithout_32, aX11_standsWithout_33, aX11_standsWithout_36, aX11_standsWithout_38, aX11_standsWithout_39, aX11_standsWithout_42, aX11_standsWithout_44, aX11_standsWithout_45, aX11_standsWithout_46, aX11_standsWithout_49, aX11_standsWithout_52, aX11_standsWithout_55, aX11_standsWithout_56, aX11_standsWithout_59, aX11_standsWithout_60, aX11_standsWithout_63, aX11_standsWithout_64, aX11_standsWithout_66, aX11_standsWithout_67, aX11_standsWithout_70, aX11_standsWithout_72, aX11_standsWithout_75, aX11_standsWithout_78, aX11_standsWithout_79, aX11_standsWithout_82, aX11_standsWithout_83, hn, e1, e4, e12, CK_1 h.1, CF_1_7 h.2.1, CF_1_2 h.2.1, CF_1_9 h.2.1, CK_51 h.1, CK_55 h.1]
    refine ⟨akd_d (by decide), ?_⟩
    refine GG.of0 (m_read (d := d) (N := 20) h hP (by omega) (CK_55 h.1) ⟨by omega, by omega⟩ (by omega) (by have := hT.1; have := hT.2.1; unfold in32; omega) (by have := hB.1; have := hB.2.1; unfold in32; omega) (fun S' b g1 g2 g3 => ?_))
    have e := clrF_any (row := S 55) hP hcap.1 hX hT hB hz (fun j j0 j1 => hrow j j0 (by omega))
    rw [← g2] at e
    cases b
    · rw [bF0]
      have e' : clrF μ R ad set = true := e
      rw [e', bT1] at hq
      refine TT.go zX11_standsWithout 200 ?_
      simp only [↓oPush, ↓oIload, ↓oLload, ↓oRload, ↓oIstore, ↓oLstore, ↓oRstore, ↓oIinc, ↓oIadd, ↓oIsub, ↓oImul, ↓oIand, ↓oIor, ↓oIshl, ↓oIshr, ↓oIushr, ↓oIdiv, ↓oIrem, ↓oIneg, ↓oLadd, ↓oLmul, ↓oLand, ↓oLor, ↓oLxor, ↓oLshl, ↓oLshr, ↓oLushr, ↓oLcmp, ↓oI2l, ↓oL2i, ↓oI2b, ↓oI2s, ↓oDup, ↓oPop, ↓oDupx1, ↓oDupx2, ↓oDup2, ↓oGoto, ↓oIfEq, ↓oIfNe, ↓oIfLt, ↓oIfGe, ↓oIfGt, ↓oIfLe, ↓oIcEq, ↓oIcNe, ↓oIcLt, ↓oIcGe, ↓oIcGt, ↓oIcLe, ↓oIfnull, ↓oIfnonnull, ↓oSwitch, ↓oGetf, ↓oPutf, ↓oNew, ↓oNewa, ↓oAlen, ↓oIald, ↓oLald, ↓oZald, ↓oAald, ↓oIast, ↓oLast, ↓oZast, ↓oAast, ↓oCast, ↓oObji, ↓oRetI, ↓oRetZ, ↓oRetL, ↓oRetA, ↓oRetV, ↓oInvS, ↓oInvV, ↓oInvI, ↓oFail, ↓oAcEq, ↓oGetE, ↓oAlenE, ↓oAastO, ↓oCopyL, ↓oCopyK, ↓oInvS8, ↓oLdcS, ↓oMmax, ↓oMmin, ↓oMabs, ↓oAlenE, ↓popI_I, ↓popL_L, ↓popR_R, ↓popS_I, ↓popS_R, ↓popN_0, ↓popN_s, ↓popT_0, ↓popT_1, ↓popT_2, ↓popT_3, ↓gI_0, ↓gI_s, ↓gL_0, ↓gL_s, ↓gR_0, ↓gR_s, ↓blk_s, ↓blk_0, goE_0, goE_1, goE_2, bst_0, bst_1, bst_2, TTf_e, st1_0, st1_1, st1_s, st2_0, st2_1, st2_s, jk_I, jk_R, jk_L, jk_J, mkT_0, mkT_1, mkT_2, mkT_3, sw_n, sw_c, nJ_n, nJ_I, nJ_L, nJ_R, stW_n, stW_I, stW_R, stW_L, true_and, and_true, Nat.reduceAdd, Nat.reduceLeDiff, Int.reduceAdd, up_at, Int.reduceEq, Int.reduceLE, Int.reduceLT, false_and, and_false, and_self, if_false, if_true, Int.reduceNeg, List.cons_append, List.nil_append, not_true_eq_false, not_false_eq_true, false_implies, true_implies, implies_true, true_or, or_true, false_or, or_false, aX11_standsWithout_0, aX11_standsWithout_1, aX11_standsWithout_3, aX11_standsWithout_4, aX11_standsWithout_6, aX11_standsWithout_8, aX11_standsWithout_9, aX11_standsWithout_12, aX11_standsWithout_13, aX11_standsWithout_16, aX11_standsWithout_18, aX11_standsWithout_20, aX11_standsWithout_23, aX11_standsWithout_24, aX11_standsWithout_26, aX11_standsWithout_27, aX11_standsWithout_28, aX11_standsWithout_29, aX11_standsWithout_32, aX11_standsWithout_33, aX11_standsWithout_36, aX11_standsWithout_38, aX11_standsWithout_39, aX11_standsWithout_42, aX11_standsWithout_44, aX11_standsWithout_45, aX11_standsWithout_46, aX11_standsWithout_49, aX11_standsWithout_52, aX11_standsWithout_55, aX11_standsWithout_56, aX11_standsWithout_59, aX11_standsWithout_60, aX11_standsWithout_63, aX11_standsWithout_64, aX11_standsWithout_66, aX11_standsWithout_67, aX11_standsWithout_70, aX11_standsWithout_72, aX11_standsWithout_75, aX11_standsWithout_78, aX11_standsWithout_79, aX11_standsWithout_82, aX11_standsWithout_83]
      exact hq S' (Scr_tr hsc (Rdf_s g1))
    · rw [bT1]
      have e' : clrF μ R ad set = false := e
      rw [e', bF0] at hq
      refine TT.go zX11_standsWithout 200 ?_
      simp only [↓oPush, ↓oIload, ↓oLload, ↓oRload, ↓oIstore, ↓oLstore, ↓oRstore, ↓oIinc, ↓oIadd, ↓oIsub, ↓oImul, ↓oIand, ↓oIor, ↓oIshl, ↓oIshr, ↓oIushr, ↓oIdiv, ↓oIrem, ↓oIneg, ↓oLadd, ↓oLmul, ↓oLand, ↓oLor, ↓oLxor, ↓oLshl, ↓oLshr, ↓oLushr, ↓oLcmp, ↓oI2l, ↓oL2i, ↓oI2b, ↓oI2s, ↓oDup, ↓oPop, ↓oDupx1, ↓oDupx2, ↓oDup2, ↓oGoto, ↓oIfEq, ↓oIfNe, ↓oIfLt, ↓oIfGe, ↓oIfGt, ↓oIfLe, ↓oIcEq, ↓oIcNe, ↓oIcLt, ↓oIcGe, ↓oIcGt, ↓oIcLe, ↓oIfnull, ↓oIfnonnull, ↓oSwitch, ↓oGetf, ↓oPutf, ↓oNew, ↓oNewa, ↓oAlen, ↓oIald, ↓oLald, ↓oZald, ↓oAald, ↓oIast, ↓oLast, ↓oZast, ↓oAast, ↓oCast, ↓oObji, ↓oRetI, ↓oRetZ, ↓oRetL, ↓oRetA, ↓oRetV, ↓oInvS, ↓oInvV, ↓oInvI, ↓oFail, ↓oAcEq, ↓oGetE, ↓oAlenE, ↓oAastO, ↓oCopyL, ↓oCopyK, ↓oInvS8, ↓oLdcS, ↓oMmax, ↓oMmin, ↓oMabs, ↓oAlenE, ↓popI_I, ↓popL_L, ↓popR_R, ↓popS_I, ↓popS_R, ↓popN_0, ↓popN_s, ↓popT_0, ↓popT_1, ↓popT_2, ↓popT_3, ↓gI_0, ↓gI_s, ↓gL_0, ↓gL_s, ↓gR_0, ↓gR_s, ↓blk_s, ↓blk_0, goE_0, goE_1, goE_2, bst_0, bst_1, bst_2, TTf_e, st1_0, st1_1, st1_s, st2_0, st2_1, st2_s, jk_I, jk_R, jk_L, jk_J, mkT_0, mkT_1, mkT_2, mkT_3, sw_n, sw_c, nJ_n, nJ_I, nJ_L, nJ_R, stW_n, stW_I, stW_R, stW_L, true_and, and_true, Nat.reduceAdd, Nat.reduceLeDiff, Int.reduceAdd, up_at, Int.reduceEq, Int.reduceLE, Int.reduceLT, false_and, and_false, and_self, if_false, if_true, Int.reduceNeg, List.cons_append, List.nil_append, not_true_eq_false, not_false_eq_true, false_implies, true_implies, implies_true, true_or, or_true, false_or, or_false, aX11_standsWithout_0, aX11_standsWithout_1, aX11_standsWithout_3, aX11_standsWithout_4, aX11_standsWithout_6, aX11_standsWithout_8, aX11_standsWithout_9, aX11_standsWithout_12, aX11_standsWithout_13, aX11_standsWithout_16, aX11_standsWithout_18, aX11_standsWithout_20, aX11_standsWithout_23, aX11_standsWithout_24, aX11_standsWithout_26, aX11_standsWithout_27, aX11_standsWithout_28, aX11_standsWithout_29, aX11_standsWithout_32, aX11_standsWithout_33, aX11_standsWithout_36, aX11_standsWithout_38, aX11_standsWithout_39, aX11_standsWithout_42, aX11_standsWithout_44, aX11_standsWithout_45, aX11_standsWithout_46, aX11_standsWithout_49, aX11_standsWithout_52, aX11_standsWithout_55, aX11_standsWithout_56, aX11_standsWithout_59, aX11_standsWithout_60, aX11_standsWithout_63, aX11_standsWithout_64, aX11_standsWithout_66, aX11_standsWithout_67, aX11_standsWithout_70, aX11_standsWithout_72, aX11_standsWithout_75, aX11_standsWithout_78, aX11_standsWithout_79, aX11_standsWithout_82, aX11_standsWithout_83]
      exact hq S' (Scr_tr hsc (Rdf_s g1))
  | succ m ih =>
    intro p pre S hsc h hm h0 hl he hrow z hz
    have hia := hA ad ha.1 ha.2
    obtain ⟨e1, e2, e3, e4, e5, e6, e7, e8, e10, e11, e12, e13, e14, e15, e16, e17, e18, e19⟩ := adE h ha
    have hn : ¬ μ 1022 ad ≤ p := by omega
    have hz20 : ¬ 20 ≤ z := by omega
    have e2' := ushr_bt (s := p) hs h0 (by omega)
    cases hb : bt set p
    · rw [hb] at e2'
      have hw : wordsF (fun i => μ 1028 (20 * ad + i)) set p (m + 1) = μ 1028 (20 * ad + p) :: wordsF (fun i => μ 1028 (20 * ad + i)) set (p + 1) m := if_neg (by rw [hb]; decide)
      rw [hw] at he
      refine TT.go zX11_standsWithout 200 ?_
      simp only [↓oPush, ↓oIload, ↓oLload, ↓oRload, ↓oIstore, ↓oLstore, ↓oRstore, ↓oIinc, ↓oIadd, ↓oIsub, ↓oImul, ↓oIand, ↓oIor, ↓oIshl, ↓oIshr, ↓oIushr, ↓oIdiv, ↓oIrem, ↓oIneg, ↓oLadd, ↓oLmul, ↓oLand, ↓oLor, ↓oLxor, ↓oLshl, ↓oLshr, ↓oLushr, ↓oLcmp, ↓oI2l, ↓oL2i, ↓oI2b, ↓oI2s, ↓oDup, ↓oPop, ↓oDupx1, ↓oDupx2, ↓oDup2, ↓oGoto, ↓oIfEq, ↓oIfNe, ↓oIfLt, ↓oIfGe, ↓oIfGt, ↓oIfLe, ↓oIcEq, ↓oIcNe, ↓oIcLt, ↓oIcGe, ↓oIcGt, ↓oIcLe, ↓oIfnull, ↓oIfnonnull, ↓oSwitch, ↓oGetf, ↓oPutf, ↓oNew, ↓oNewa, ↓oAlen, ↓oIald, ↓oLald, ↓oZald, ↓oAald, ↓oIast, ↓oLast, ↓oZast, ↓oAast, ↓oCast, ↓oObji, ↓oRetI, ↓oRetZ, ↓oRetL, ↓oRetA, ↓oRetV, ↓oInvS, ↓oInvV, ↓oInvI, ↓oFail, ↓oAcEq, ↓oGetE, ↓oAlenE, ↓oAastO, ↓oCopyL, ↓oCopyK, ↓oInvS8, ↓oLdcS, ↓oMmax, ↓oMmin, ↓oMabs, ↓oAlenE, ↓popI_I, ↓popL_L, ↓popR_R, ↓popS_I, ↓popS_R, ↓popN_0, ↓popN_s, ↓popT_0, ↓popT_1, ↓popT_2, ↓popT_3, ↓gI_0, ↓gI_s, ↓gL_0, ↓gL_s, ↓gR_0, ↓gR_s, ↓blk_s, ↓blk_0, goE_0, goE_1, goE_2, bst_0, bst_1, bst_2, TTf_e, st1_0, st1_1, st1_s, st2_0, st2_1, st2_s, jk_I, jk_R, jk_L, jk_J, mkT_0, mkT_1, mkT_2, mkT_3, sw_n, sw_c, nJ_n, nJ_I, nJ_L, nJ_R, stW_n, stW_I, stW_R, stW_L, true_and, and_true, Nat.reduceAdd, Nat.reduceLeDiff, Int.reduceAdd, up_at, Int.reduceEq, Int.reduceLE, Int.reduceLT, false_and, and_false, and_self, if_false, if_true, Int.reduceNeg, List.cons_append, List.nil_append, not_true_eq_false, not_false_eq_true, false_implies, true_implies, implies_true, true_or, or_true, false_or, or_false, aX11_standsWithout_0, aX11_standsWithout_1, aX11_standsWithout_3, aX11_standsWithout_4, aX11_standsWithout_6, aX11_standsWithout_8, aX11_standsWithout_9, aX11_standsWithout_12, aX11_standsWithout_13, aX11_standsWithout_16, aX11_standsWithout_18, aX11_standsWithout_20, aX11_standsWithout_23, aX11_standsWithout_24, aX11_standsWithout_26, aX11_standsWithout_27, aX11_standsWithout_28, aX11_standsWithout_29, aX11_standsWithout_32, aX11_standsWithout_33, aX11_standsWithout_36, aX11_standsWithout_38, aX11_standsWithout_39, aX11_standsWithout_42, aX11_standsWithout_44, aX11_standsWithout_45, aX11_standsWithout_46, aX11_standsWithout_49, aX11_standsWithout_52, aX11_standsWithout_55, aX11_standsWithout_56, aX11_standsWithout_59, aX11_standsWithout_60, aX11_standsWithout_63, aX11_standsWithout_64, aX11_standsWithout_66, aX11_standsWithout_67, aX11_standsWithout_70, aX11_standsWithout_72, aX11_standsWithout_75, aX11_standsWithout_78, aX11_standsWithout_79, aX11_standsWithout_82, aX11_standsWithout_83, hn, hz20, e1, e4, e12, CK_1 h.1, CF_1_9 h.2.1, CK_55 h.1, e2', bF0]
      refine ⟨akd_d (by decide), h0, by omega, by omega, by omega, ?_⟩
      (try simp (disch := omega) only [w32_i] at *)
      have hr := e17 p h0 (by omega)
      refine ih (p + 1) (pre ++ [μ 1028 (20 * ad + p)]) (up S 55 z (S (200 + ad) p)) (Scr_55 hsc) (Rc_s h (Scr_55 (Scr_rfl S))) (by omega) (by omega) (by rw [List.length_append]; simp; omega) (by rw [List.append_assoc]; exact he) (fun j j0 j1 => ?_) (z + 1) (by rw [List.length_append]; simp; omega)
      have j2 : j < (pre.length : Int) + 1 := by rw [List.length_append] at j1; simp at j1; omega
      rw [rowL_snoc j0 j2, up_at, hr]
      by_cases ej : j = pre.length
      · rw [if_pos ⟨rfl, by omega⟩, if_pos ej]
      · rw [if_neg (fun q => ej (by omega)), if_neg ej]
        exact hrow j j0 (by omega)
    · rw [hb] at e2'
      have hw : wordsF (fun i => μ 1028 (20 * ad + i)) set p (m + 1) = wordsF (fun i => μ 1028 (20 * ad + i)) set (p + 1) m := if_pos hb
      rw [hw] at he
      refine TT.go zX11_standsWithout 200 ?_
      simp only [↓oPush, ↓oIload, ↓oLload, ↓oRload, ↓oIstore, ↓oLstore, ↓oRstore, ↓oIinc, ↓oIadd, ↓oIsub, ↓oImul, ↓oIand, ↓oIor, ↓oIshl, ↓oIshr, ↓oIushr, ↓oIdiv, ↓oIrem, ↓oIneg, ↓oLadd, ↓oLmul, ↓oLand, ↓oLor, ↓oLxor, ↓oLshl, ↓oLshr, ↓oLushr, ↓oLcmp, ↓oI2l, ↓oL2i, ↓oI2b, ↓oI2s, ↓oDup, ↓oPop, ↓oDupx1, ↓oDupx2, ↓oDup2, ↓oGoto, ↓oIfEq, ↓oIfNe, ↓oIfLt, ↓oIfGe, ↓oIfGt, ↓oIfLe, ↓oIcEq, ↓oIcNe, ↓oIcLt, ↓oIcGe, ↓oIcGt, ↓oIcLe, ↓oIfnull, ↓oIfnonnull, ↓oSwitch, ↓oGetf, ↓oPutf, ↓oNew, ↓oNewa, ↓oAlen, ↓oIald, ↓oLald, ↓oZald, ↓oAald, ↓oIast, ↓oLast, ↓oZast, ↓oAast, ↓oCast, ↓oObji, ↓oRetI, ↓oRetZ, ↓oRetL, ↓oRetA, ↓oRetV, ↓oInvS, ↓oInvV, ↓oInvI, ↓oFail, ↓oAcEq, ↓oGetE, ↓oAlenE, ↓oAastO, ↓oCopyL, ↓oCopyK, ↓oInvS8, ↓oLdcS, ↓oMmax, ↓oMmin, ↓oMabs, ↓oAlenE, ↓popI_I, ↓popL_L, ↓popR_R, ↓popS_I, ↓popS_R, ↓popN_0, ↓popN_s, ↓popT_0, ↓popT_1, ↓popT_2, ↓popT_3, ↓gI_0, ↓gI_s, ↓gL_0, ↓gL_s, ↓gR_0, ↓gR_s, ↓blk_s, ↓blk_0, goE_0, goE_1, goE_2, bst_0, bst_1, bst_2, TTf_e, st1_0, st1_1, st1_s, st2_0, st2_1, st2_s, jk_I, jk_R, jk_L, jk_J, mkT_0, mkT_1, mkT_2, mkT_3, sw_n, sw_c, nJ_n, nJ_I, nJ_L, nJ_R, stW_n, stW_I, stW_R, stW_L, true_and, and_true, Nat.reduceAdd, Nat.reduceLeDiff, Int.reduceAdd, up_at, Int.reduceEq, Int.reduceLE, Int.reduceLT, false_and, and_false, and_self, if_false, if_true, Int.reduceNeg, List.cons_append, List.nil_append, not_true_eq_false, not_false_eq_true, false_implies, true_implies, implies_true, true_or, or_true, false_or, or_false, aX11_standsWithout_0, aX11_standsWithout_1, aX11_standsWithout_3, aX11_standsWithout_4, aX11_standsWithout_6, aX11_standsWithout_8, aX11_standsWithout_9, aX11_standsWithout_12, aX11_standsWithout_13, aX11_standsWithout_16, aX11_standsWithout_18, aX11_standsWithout_20, aX11_standsWithout_23, aX11_standsWithout_24, aX11_standsWithout_26, aX11_standsWithout_27, aX11_standsWithout_28, aX11_standsWithout_29, aX11_standsWithout_32, aX11_standsWithout_33, aX11_standsWithout_36, aX11_standsWithout_38, aX11_standsWithout_39, aX11_standsWithout_42, aX11_standsWithout_44, aX11_standsWithout_45, aX11_standsWithout_46, aX11_standsWithout_49, aX11_standsWithout_52, aX11_standsWithout_55, aX11_standsWithout_56, aX11_standsWithout_59, aX11_standsWithout_60, aX11_standsWithout_63, aX11_standsWithout_64, aX11_standsWithout_66, aX11_standsWithout_67, aX11_standsWithout_70, aX11_standsWithout_72, aX11_standsWithout_75, aX11_standsWithout_78, aX11_standsWithout_79, aX11_standsWithout_82, aX11_standsWithout_83, hn, hz20, e1, e4, e12, CK_1 h.1, CF_1_9 h.2.1, CK_55 h.1, e2', bT1]
      refine ⟨akd_d (by decide), ?_⟩
      (try simp (disch := omega) only [w32_i] at *)
      exact ih (p + 1) pre S hsc h (by omega) (by omega) (by omega) he hrow z hz
set_option maxRecDepth 20000 in
theorem m_standsWithout {d : Nat} {ad set T B X : Int} {μ : ST} {R : RT} {K : KT} {S : ST} {Q : QF} (h : Rc μ R K S) (hI : Iv0 μ) (hA : IvA μ) (hP : IvP μ) (ha : isAd μ ad) (hs : in32 set) (hX : rifB μ (μ 1000 0) (μ 1000 0) X) (hT : telB μ (μ 1000 0) (μ 1000 0) T) (hB : brB μ R ad T X B) (hq : ∀ S', Scr S S' → Q [vI (b01 (clrF μ R ad set))] K S') : Mt (d + 5) 0 0 mX11_standsWithout [vR 1, vR (100 + ad), vI set, vI T, vI B] K S Q := by
  have hia := hA ad ha.1 ha.2
  refine Mt_of_TT (by decide +kernel) (Nat.le_of_ble_eq_true rfl) ?_
  show TT mX11_standsWithout _ 0 [vR 1, vR (100 + ad), vI set, vI T, vI B, vJ, vJ] [] _ _ _ _ _
  refine TT.go zX11_standsWithout 200 ?_
  simp only [↓oPush, ↓oIload, ↓oLload, ↓oRload, ↓oIstore, ↓oLstore, ↓oRstore, ↓oIinc, ↓oIadd, ↓oIsub, ↓oImul, ↓oIand, ↓oIor, ↓oIshl, ↓oIshr, ↓oIushr, ↓oIdiv, ↓oIrem, ↓oIneg, ↓oLadd, ↓oLmul, ↓oLand, ↓oLor, ↓oLxor, ↓oLshl, ↓oLshr, ↓oLushr, ↓oLcmp, ↓oI2l, ↓oL2i, ↓oI2b, ↓oI2s, ↓oDup, ↓oPop, ↓oDupx1, ↓oDupx2, ↓oDup2, ↓oGoto, ↓oIfEq, ↓oIfNe, ↓oIfLt, ↓oIfGe, ↓oIfGt, ↓oIfLe, ↓oIcEq, ↓oIcNe, ↓oIcLt, ↓oIcGe, ↓oIcGt, ↓oIcLe, ↓oIfnull, ↓oIfnonnull, ↓oSwitch, ↓oGetf, ↓oPutf, ↓oNew, ↓oNewa, ↓oAlen, ↓oIald, ↓oLald, ↓oZald, ↓oAald, ↓oIast, ↓oLast, ↓oZast, ↓oAast, ↓oCast, ↓oObji, ↓oRetI, ↓oRetZ, ↓oRetL, ↓oRetA, ↓oRetV, ↓oInvS, ↓oInvV, ↓oInvI, ↓oFail, ↓oAcEq, ↓oGetE, ↓oAlenE, ↓oAastO, ↓oCopyL, ↓oCopyK, ↓oInvS8, ↓oLdcS, ↓oMmax, ↓oMmin, ↓oMabs, ↓oAlenE, ↓popI_I, ↓popL_L, ↓popR_R, ↓popS_I, ↓popS_R, ↓popN_0, ↓popN_s, ↓popT_0, ↓popT_1, ↓popT_2, ↓popT_3, ↓gI_0, ↓gI_s, ↓gL_0, ↓gL_s, ↓gR_0, ↓gR_s, ↓blk_s, ↓blk_0, goE_0, goE_1, goE_2, bst_0, bst_1, bst_2, TTf_e, st1_0, st1_1, st1_s, st2_0, st2_1, st2_s, jk_I, jk_R, jk_L, jk_J, mkT_0, mkT_1, mkT_2, mkT_3, sw_n, sw_c, nJ_n, nJ_I, nJ_L, nJ_R, stW_n, stW_I, stW_R, stW_L, true_and, and_true, Nat.reduceAdd, Nat.reduceLeDiff, Int.reduceAdd, up_at, Int.reduceEq, Int.reduceLE, Int.reduceLT, false_and, and_false, and_self, if_false, if_true, Int.reduceNeg, List.cons_append, List.nil_append, not_true_eq_false, not_false_eq_true, false_implies, true_implies, implies_true, true_or, or_true, false_or, or_false, aX11_standsWithout_0, aX11_standsWithout_1, aX11_standsWithout_3, aX11_standsWithout_4, aX11_standsWithout_6, aX11_standsWithout_8, aX11_standsWithout_9, aX11_standsWithout_12, aX11_standsWithout_13, aX11_standsWithout_16, aX11_standsWithout_18, aX11_standsWithout_20, aX11_standsWithout_23, aX11_standsWithout_24, aX11_standsWithout_26, aX11_standsWithout_27, aX11_standsWithout_28, aX11_standsWithout_29, aX11_standsWithout_32, aX11_standsWithout_33, aX11_standsWithout_36, aX11_standsWithout_38, aX11_standsWithout_39, aX11_standsWithout_42, aX11_standsWithout_44, aX11_standsWithout_45, aX11_standsWithout_46, aX11_standsWithout_49, aX11_standsWithout_52, aX11_standsWithout_55, aX11_standsWithout_56, aX11_standsWithout_59, aX11_standsWithout_60, aX11_standsWithout_63, aX11_standsWithout_64, aX11_standsWithout_66, aX11_standsWithout_67, aX11_standsWithout_70, aX11_standsWithout_72, aX11_standsWithout_75, aX11_standsWithout_78, aX11_standsWithout_79, aX11_standsWithout_82, aX11_standsWithout_83]
  exact stands_l hI hA hP ha hs hX hT hB hq (μ 1022 ad).toNat 0 [] S (Scr_rfl S) h (by omega) (by omega) (by decide) rfl (fun j j0 j1 => absurd j1 (by show ¬ j < ((0 : Nat) : Int); omega)) 0 rfl
