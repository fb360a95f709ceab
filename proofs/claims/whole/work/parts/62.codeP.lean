def kX0_init_0 : List En := [(0, oRload 0 1), (0, oObji 4), (1, oFail), (1, oFail), (0, oRload 0 5), (0, oPush (vI 0) 6), (0, oNewa 100 8), (1, oFail), (0, oPutf 2 4 2 11), (1, oFail), (1, oFail), (0, oRload 0 12), (0, oPush (vI 0) 13), (0, oPutf 2 5 0 16), (1, oFail), (1, oFail)]
set_option maxRecDepth 20000 in
theorem zX0_init_0 : SndL mX0_init 0 kX0_init_0 := SndL.c (s_aload_n (k := 0) (by decide +kernel) rfl) (SndL.c (s_obji w_2_80 w_1_33 w_1_34 (by decide +kernel)) (SndL.c (s_fail) (SndL.c (s_fail) (SndL.c (s_aload_n (k := 0) (by decide +kernel) rfl) (SndL.c (s_iconst (by decide +kernel) (in32_d (by decide))) (SndL.c (s_newa (kd := 100) (atype := .int) (akd_d (by decide)) rfl (by decide) w_1_104 (fun _ _ h => h) (by decide +kernel)) (SndL.c (s_fail) (SndL.c (s_putf (k := 4) clok1 (by decide) rfl (by decide) rfl w_2_91 (Or.inl rfl) (Or.inl rfl) (by decide +kernel)) (SndL.c (s_fail) (SndL.c (s_fail) (SndL.c (s_aload_n (k := 0) (by decide +kernel) rfl) (SndL.c (s_iconst (by decide +kernel) (in32_d (by decide))) (SndL.c (s_putf (k := 5) clok1 (by decide) rfl (by decide) rfl w_2_93 (Or.inl rfl) (Or.inl rfl) (by decide +kernel)) (SndL.c (s_fail) (SndL.c (s_fail) (SndL.n))))))))))))))))
def kX0_init_1 : List En := [(0, oRload 0 17), (0, oPush (vI 0) 18), (0, oPutf 2 6 0 21), (1, oFail), (1, oFail), (0, oRload 0 22), (0, oPush (vI 0) 23), (0, oPutf 2 7 0 26), (1, oFail), (1, oFail), (0, oRload 0 27), (0, oPush (vI 8) 29), (1, oFail), (0, oNewa 100 31), (1, oFail), (0, oPutf 2 8 2 34)]
set_option maxRecDepth 20000 in
theorem zX0_init_1 : SndL mX0_init 16 kX0_init_1 := SndL.c (s_aload_n (k := 0) (by decide +kernel) rfl) (SndL.c (s_iconst (by decide +kernel) (in32_d (by decide))) (SndL.c (s_putf (k := 6) clok1 (by decide) rfl (by decide) rfl w_2_95 (Or.inl rfl) (Or.inl rfl) (by decide +kernel)) (SndL.c (s_fail) (SndL.c (s_fail) (SndL.c (s_aload_n (k := 0) (by decide +kernel) rfl) (SndL.c (s_iconst (by decide +kernel) (in32_d (by decide))) (SndL.c (s_putf (k := 7) clok1 (by decide) rfl (by decide) rfl w_2_97 (Or.inl rfl) (Or.inl rfl) (by decide +kernel)) (SndL.c (s_fail) (SndL.c (s_fail) (SndL.c (s_aload_n (k := 0) (by decide +kernel) rfl) (SndL.c (s_bipush (by decide +kernel) (in32_d (by decide)) (by decide +kernel)) (SndL.c (s_fail) (SndL.c (s_newa (kd := 100) (atype := .int) (akd_d (by decide)) rfl (by decide) w_1_104 (fun _ _ h => h) (by decide +kernel)) (SndL.c (s_fail) (SndL.c (s_putf (k := 8) clok1 (by decide) rfl (by decide) rfl w_2_99 (Or.inl rfl) (Or.inr ⟨rfl, rfl, rfl⟩) (by decide +kernel)) (SndL.n))))))))))))))))
def kX0_init_2 : List En := [(1, oFail), (1, oFail), (0, oRload 0 35), (0, oPush (vI 8) 37), (1, oFail), (0, oNewa 100 39), (1, oFail), (0, oPutf 2 9 2 42), (1, oFail), (1, oFail), (0, oRload 0 43), (0, oIload 1 44), (0, oPutf 2 0 0 47), (1, oFail), (1, oFail), (0, oRload 0 48)]
set_option maxRecDepth 20000 in
theorem zX0_init_2 : SndL mX0_init 32 kX0_init_2 := SndL.c (s_fail) (SndL.c (s_fail) (SndL.c (s_aload_n (k := 0) (by decide +kernel) rfl) (SndL.c (s_bipush (by decide +kernel) (in32_d (by decide)) (by decide +kernel)) (SndL.c (s_fail) (SndL.c (s_newa (kd := 100) (atype := .int) (akd_d (by decide)) rfl (by decide) w_1_104 (fun _ _ h => h) (by decide +kernel)) (SndL.c (s_fail) (SndL.c (s_putf (k := 9) clok1 (by decide) rfl (by decide) rfl w_2_101 (Or.inl rfl) (Or.inr ⟨rfl, rfl, rfl⟩) (by decide +kernel)) (SndL.c (s_fail) (SndL.c (s_fail) (SndL.c (s_aload_n (k := 0) (by decide +kernel) rfl) (SndL.c (s_iload_n (k := 1) (by decide +kernel) rfl) (SndL.c (s_putf (k := 0) clok1 (by decide) rfl (by decide) rfl w_2_82 (Or.inl rfl) (Or.inr ⟨rfl, rfl, rfl⟩) (by decide +kernel)) (SndL.c (s_fail) (SndL.c (s_fail) (SndL.c (s_aload_n (k := 0) (by decide +kernel) rfl) (SndL.n))))))))))))))))
def kX0_init_3 : List En := [(0, oIload 2 49), (0, oPutf 2 1 0 52), (1, oFail), (1, oFail), (0, oRload 0 53), (0, oRload 3 54), (0, oPutf 2 2 2 57), (1, oFail), (1, oFail), (0, oRload 0 58), (0, oIload 4 60), (1, oFail), (0, oPutf 2 3 0 63), (1, oFail), (1, oFail), (0, oPush (vI 0) 64)]
set_option maxRecDepth 20000 in
theorem zX0_init_3 : SndL mX0_init 48 kX0_init_3 := SndL.c (s_iload_n (k := 2) (by decide +kernel) rfl) (SndL.c (s_putf (k := 1) clok1 (by decide) rfl (by decide) rfl w_2_85 (Or.inl rfl) (Or.inr ⟨rfl, rfl, rfl⟩) (by decide +kernel)) (SndL.c (s_fail) (SndL.c (s_fail) (SndL.c (s_aload_n (k := 0) (by decide +kernel) rfl) (SndL.c (s_aload_n (k := 3) (by decide +kernel) rfl) (SndL.c (s_putf (k := 2) clok1 (by decide) rfl (by decide) rfl w_2_87 (Or.inl rfl) (Or.inr ⟨rfl, rfl, rfl⟩) (by decide +kernel)) (SndL.c (s_fail) (SndL.c (s_fail) (SndL.c (s_aload_n (k := 0) (by decide +kernel) rfl) (SndL.c (s_iload (by decide +kernel)) (SndL.c (s_fail) (SndL.c (s_putf (k := 3) clok1 (by decide) rfl (by decide) rfl w_2_89 (Or.inl rfl) (Or.inr ⟨rfl, rfl, rfl⟩) (by decide +kernel)) (SndL.c (s_fail) (SndL.c (s_fail) (SndL.c (s_iconst (by decide +kernel) (in32_d (by decide))) (SndL.n))))))))))))))))
def kX0_init_4 : List En := [(0, oIstore 5 66), (1, oFail), (1, oIload 5 68), (1, oFail), (0, oPush (vI 8) 70), (1, oFail), (0, oIcGe 95 73), (1, oFail), (1, oFail), (0, oRload 0 74), (0, oGetf 2 8 2 77), (1, oFail), (1, oFail), (0, oIload 5 79), (1, oFail), (0, oPush (vI (-1)) 80)]
set_option maxRecDepth 20000 in
theorem zX0_init_4 : SndL mX0_init 64 kX0_init_4 := SndL.c (s_istore (by decide +kernel) (by decide)) (SndL.c (s_fail) (SndL.c (s_iload (by decide +kernel)) (SndL.c (s_fail) (SndL.c (s_bipush (by decide +kernel) (in32_d (by decide)) (by decide +kernel)) (SndL.c (s_fail) (SndL.c (s_ic_ge (off := 25) (by decide +kernel) (by decide)) (SndL.c (s_fail) (SndL.c (s_fail) (SndL.c (s_aload_n (k := 0) (by decide +kernel) rfl) (SndL.c (s_getf (k := 8) clok1 (by decide) rfl (by decide) rfl w_2_99 (Or.inl rfl) (by decide +kernel)) (SndL.c (s_fail) (SndL.c (s_fail) (SndL.c (s_iload (by decide +kernel)) (SndL.c (s_fail) (SndL.c (s_iconst (by decide +kernel) (in32_d (by decide))) (SndL.n))))))))))))))))
def kX0_init_5 : List En := [(0, oIast 81), (0, oRload 0 82), (0, oGetf 2 9 2 85), (1, oFail), (1, oFail), (0, oIload 5 87), (1, oFail), (0, oPush (vI (-1)) 88), (0, oIast 89), (0, oIinc 5 1 92), (1, oFail), (1, oFail), (0, oGoto 66), (1, oFail), (1, oFail), (0, oRetV)]
set_option maxRecDepth 20000 in
theorem zX0_init_5 : SndL mX0_init 80 kX0_init_5 := SndL.c (s_iast (by decide +kernel)) (SndL.c (s_aload_n (k := 0) (by decide +kernel) rfl) (SndL.c (s_getf (k := 9) clok1 (by decide) rfl (by decide) rfl w_2_101 (Or.inl rfl) (by decide +kernel)) (SndL.c (s_fail) (SndL.c (s_fail) (SndL.c (s_iload (by decide +kernel)) (SndL.c (s_fail) (SndL.c (s_iconst (by decide +kernel) (in32_d (by decide))) (SndL.c (s_iast (by decide +kernel)) (SndL.c (s_iinc (by decide +kernel) (by decide)) (SndL.c (s_fail) (SndL.c (s_fail) (SndL.c (s_goto (off := -26) (by decide +kernel) (by decide)) (SndL.c (s_fail) (SndL.c (s_fail) (SndL.c (s_ret_v rfl (by decide +kernel)) (SndL.n))))))))))))))))
def kX0_init : Cd := [kX0_init_0, kX0_init_1, kX0_init_2, kX0_init_3, kX0_init_4, kX0_init_5]
theorem zX0_init : SndC mX0_init 0 kX0_init := SndC.c zX0_init_0 (by decide) (SndC.c zX0_init_1 (by decide) (SndC.c zX0_init_2 (by decide) (SndC.c zX0_init_3 (by decide) (SndC.c zX0_init_4 (by decide) (SndC.c zX0_init_5 (by decide) (SndC.n))))))
theorem aX0_init_0 : at_ kX0_init 0 = (0, oRload 0 1) := rfl
theorem aX0_init_1 : at_ kX0_init 1 = (0, oObji 4) := rfl
theorem aX0_init_4 : at_ kX0_init 4 = (0, oRload 0 5) := rfl
theorem aX0_init_5 : at_ kX0_init 5 = (0, oPush (vI 0) 6) := rfl
theorem aX0_init_6 : at_ kX0_init 6 = (0, oNewa 100 8) := rfl
theorem aX0_init_8 : at_ kX0_init 8 = (0, oPutf 2 4 2 11) := rfl
theorem aX0_init_11 : at_ kX0_init 11 = (0, oRload 0 12) := rfl
theorem aX0_init_12 : at_ kX0_init 12 = (0, oPush (vI 0) 13) := rfl
theorem aX0_init_13 : at_ kX0_init 13 = (0, oPutf 2 5 0 16) := rfl
theorem aX0_init_16 : at_ kX0_init 16 = (0, oRload 0 17) := rfl
theorem aX0_init_17 : at_ kX0_init 17 = (0, oPush (vI 0) 18) := rfl
theorem aX0_init_18 : at_ kX0_init 18 = (0, oPutf 2 6 0 21) := rfl
theorem aX0_init_21 : at_ kX0_init 21 = (0, oRload 0 22) := rfl
theorem aX0_init_22 : at_ kX0_init 22 = (0, oPush (vI 0) 23) := rfl
theorem aX0_init_23 : at_ kX0_init 23 = (0, oPutf 2 7 0 26) := rfl
theorem aX0_init_26 : at_ kX0_init 26 = (0, oRload 0 27) := rfl
theorem aX0_init_27 : at_ kX0_init 27 = (0, oPush (vI 8) 29) := rfl
theorem aX0_init_29 : at_ kX0_init 29 = (0, oNewa 100 31) := rfl
theorem aX0_init_31 : at_ kX0_init 31 = (0, oPutf 2 8 2 34) := rfl
theorem aX0_init_34 : at_ kX0_init 34 = (0, oRload 0 35) := rfl
theorem aX0_init_35 : at_ kX0_init 35 = (0, oPush (vI 8) 37) := rfl
theorem aX0_init_37 : at_ kX0_init 37 = (0, oNewa 100 39) := rfl
theorem aX0_init_39 : at_ kX0_init 39 = (0, oPutf 2 9 2 42) := rfl
theorem aX0_init_42 : at_ kX0_init 42 = (0, oRload 0 43) := rfl
theorem aX0_init_43 : at_ kX0_init 43 = (0, oIload 1 44) := rfl
theorem aX0_init_44 : at_ kX0_init 44 = (0, oPutf 2 0 0 47) := rfl
theorem aX0_init_47 : at_ kX0_init 47 = (0, oRload 0 48) := rfl
theorem aX0_init_48 : at_ kX0_init 48 = (0, oIload 2 49) := rfl
theorem aX0_init_49 : at_ kX0_init 49 = (0, oPutf 2 1 0 52) := rfl
theorem aX0_init_52 : at_ kX0_init 52 = (0, oRload 0 53) := rfl
theorem aX0_init_53 : at_ kX0_init 53 = (0, oRload 3 54) := rfl
theorem aX0_init_54 : at_ kX0_init 54 = (0, oPutf 2 2 2 57) := rfl
theorem aX0_init_57 : at_ kX0_init 57 = (0, oRload 0 58) := rfl
theorem aX0_init_58 : at_ kX0_init 58 = (0, oIload 4 60) := rfl
theorem aX0_init_60 : at_ kX0_init 60 = (0, oPutf 2 3 0 63) := rfl
theorem aX0_init_63 : at_ kX0_init 63 = (0, oPush (vI 0) 64) := rfl
theorem aX0_init_64 : at_ kX0_init 64 = (0, oIstore 5 66) := rfl
theorem aX0_init_66 : at_ kX0_init 66 = (1, oIload 5 68) := rfl
theorem aX0_init_68 : at_ kX0_init 68 = (0, oPush (vI 8) 70) := rfl
theorem aX0_init_70 : at_ kX0_init 70 = (0, oIcGe 95 73) := rfl
theorem aX0_init_73 : at_ kX0_init 73 = (0, oRload 0 74) := rfl
theorem aX0_init_74 : at_ kX0_init 74 = (0, oGetf 2 8 2 77) := rfl
theorem aX0_init_77 : at_ kX0_init 77 = (0, oIload 5 79) := rfl
theorem aX0_init_79 : at_ kX0_init 79 = (0, oPush (vI (-1)) 80) := rfl
theorem aX0_init_80 : at_ kX0_init 80 = (0, oIast 81) := rfl
theorem aX0_init_81 : at_ kX0_init 81 = (0, oRload 0 82) := rfl
theorem aX0_init_82 : at_ kX0_init 82 = (0, oGetf 2 9 2 85) := rfl
theorem aX0_init_85 : at_ kX0_init 85 = (0, oIload 5 87) := rfl
theorem aX0_init_87 : at_ kX0_init 87 = (0, oPush (vI (-1)) 88) := rfl
theorem aX0_init_88 : at_ kX0_init 88 = (0, oIast 89) := rfl
theorem aX0_init_89 : at_ kX0_init 89 = (0, oIinc 5 1 92) := rfl
theorem aX0_init_92 : at_ kX0_init 92 = (0, oGoto 66) := rfl
theorem aX0_init_95 : at_ kX0_init 95 = (0, oRetV) := rfl
def kX0_childrenOf100_0 : List En := [(0, oRload 0 1), (0, oGetf 2 6 0 4), (1, oFail), (1, oFail), (0, oRload 0 5), (0, oGetf 2 7 0 8), (1, oFail), (1, oFail), (0, oIadd 9), (0, oIstore 1 10), (0, oIload 1 11), (0, oIfLe 26 14), (1, oFail), (1, oFail), (0, oRload 0 15), (0, oGetf 2 6 0 18)]
set_option maxRecDepth 20000 in
theorem zX0_childrenOf100_0 : SndL mX0_childrenOf100 0 kX0_childrenOf100_0 := SndL.c (s_aload_n (k := 0) (by decide +kernel) rfl) (SndL.c (s_getf (k := 6) clok1 (by decide) rfl (by decide) rfl w_2_95 (Or.inl rfl) (by decide +kernel)) (SndL.c (s_fail) (SndL.c (s_fail) (SndL.c (s_aload_n (k := 0) (by decide +kernel) rfl) (SndL.c (s_getf (k := 7) clok1 (by decide) rfl (by decide) rfl w_2_97 (Or.inl rfl) (by decide +kernel)) (SndL.c (s_fail) (SndL.c (s_fail) (SndL.c (s_iadd (by decide +kernel)) (SndL.c (s_istore_n (k := 1) (by decide +kernel) rfl (by decide)) (SndL.c (s_iload_n (k := 1) (by decide +kernel) rfl) (SndL.c (s_if_le (off := 15) (by decide +kernel) (by decide)) (SndL.c (s_fail) (SndL.c (s_fail) (SndL.c (s_aload_n (k := 0) (by decide +kernel) rfl) (SndL.c (s_getf (k := 6) clok1 (by decide) rfl (by decide) rfl w_2_95 (Or.inl rfl) (by decide +kernel)) (SndL.n))))))))))))))))
def kX0_childrenOf100_1 : List En := [(1, oFail), (1, oFail), (0, oPush (vI 100) 20), (1, oFail), (0, oImul 21), (0, oIload 1 22), (0, oIdiv 23), (0, oGoto 27), (1, oFail), (1, oFail), (0, oPush (vI 0) 27), (0, oRetI)]
set_option maxRecDepth 20000 in
theorem zX0_childrenOf100_1 : SndL mX0_childrenOf100 16 kX0_childrenOf100_1 := SndL.c (s_fail) (SndL.c (s_fail) (SndL.c (s_bipush (by decide +kernel) (in32_d (by decide)) (by decide +kernel)) (SndL.c (s_fail) (SndL.c (s_imul (by decide +kernel)) (SndL.c (s_iload_n (k := 1) (by decide +kernel) rfl) (SndL.c (s_idiv (by decide +kernel)) (SndL.c (s_goto (off := 4) (by decide +kernel) (by decide)) (SndL.c (s_fail) (SndL.c (s_fail) (SndL.c (s_iconst (by decide +kernel) (in32_d (by decide))) (SndL.c (s_ret_i rfl (by decide +kernel)) (SndL.n))))))))))))
def kX0_childrenOf100 : Cd := [kX0_childrenOf100_0, kX0_childrenOf100_1]
theorem zX0_childrenOf100 : SndC mX0_childrenOf100 0 kX0_childrenOf100 := SndC.c zX0_childrenOf100_0 (by decide) (SndC.c zX0_childrenOf100_1 (by decide) (SndC.n))
theorem aX0_childrenOf100_0 : at_ kX0_childrenOf100 0 = (0, oRload 0 1) := rfl
theorem aX0_childrenOf100_1 : at_ kX0_childrenOf100 1 = (0, oGetf 2 6 0 4) := rfl
theorem aX0_childrenOf100_4 : at_ kX0_childrenOf100 4 = (0, oRload 0 5) := rfl
theorem aX0_childrenOf100_5 : at_ kX0_childrenOf100 5 = (0, oGetf 2 7 0 8) := rfl
theorem aX0_childrenOf100_8 : at_ kX0_childrenOf100 8 = (0, oIadd 9) := rfl
theorem aX0_childrenOf100_9 : at_ kX0_childrenOf100 9 = (0, oIstore 1 10) := rfl
theorem aX0_childrenOf100_10 : at_ kX0_childrenOf100 10 = (0, oIload 1 11) := rfl
theorem aX0_childrenOf100_11 : at_ kX0_childrenOf100 11 = (0, oIfLe 26 14) := rfl
theorem aX0_childrenOf100_14 : at_ kX0_childrenOf100 14 = (0, oRload 0 15) := rfl
theorem aX0_childrenOf100_15 : at_ kX0_childrenOf100 15 = (0, oGetf 2 6 0 18) := rfl
theorem aX0_childrenOf100_18 : at_ kX0_childrenOf100 18 = (0, oPush (vI 100) 20) := rfl
theorem aX0_childrenOf100_20 : at_ kX0_childrenOf100 20 = (0, oImul 21) := rfl
theorem aX0_childrenOf100_21 : at_ kX0_childrenOf100 21 = (0, oIload 1 22) := rfl
theorem aX0_childrenOf100_22 : at_ kX0_childrenOf100 22 = (0, oIdiv 23) := rfl
theorem aX0_childrenOf100_23 : at_ kX0_childrenOf100 23 = (0, oGoto 27) := rfl
theorem aX0_childrenOf100_26 : at_ kX0_childrenOf100 26 = (0, oPush (vI 0) 27) := rfl
theorem aX0_childrenOf100_27 : at_ kX0_childrenOf100 27 = (0, oRetI) := rfl
def kX1_init_0 : List En := [(0, oRload 0 1), (0, oObji 4), (1, oFail), (1, oFail), (0, oRload 0 5), (0, oPush (vI 9) 7), (1, oFail), (0, oNewa 100 9), (1, oFail), (0, oPutf 3 0 2 12), (1, oFail), (1, oFail), (0, oRload 0 13), (0, oPush (vI 0) 14), (0, oPutf 3 1 0 17), (1, oFail)]
set_option maxRecDepth 20000 in
theorem zX1_init_0 : SndL mX1_init 0 kX1_init_0 := SndL.c (s_aload_n (k := 0) (by decide +kernel) rfl) (SndL.c (s_obji w_1_89 w_1_33 w_1_34 (by decide +kernel)) (SndL.c (s_fail) (SndL.c (s_fail) (SndL.c (s_aload_n (k := 0) (by decide +kernel) rfl) (SndL.c (s_bipush (by decide +kernel) (in32_d (by decide)) (by decide +kernel)) (SndL.c (s_fail) (SndL.c (s_newa (kd := 100) (atype := .int) (akd_d (by decide)) rfl (by decide) w_1_104 (fun _ _ h => h) (by decide +kernel)) (SndL.c (s_fail) (SndL.c (s_putf (k := 0) clok2 (by decide) rfl (by decide) rfl w_1_92 (Or.inl rfl) (Or.inr ⟨rfl, rfl, rfl⟩) (by decide +kernel)) (SndL.c (s_fail) (SndL.c (s_fail) (SndL.c (s_aload_n (k := 0) (by decide +kernel) rfl) (SndL.c (s_iconst (by decide +kernel) (in32_d (by decide))) (SndL.c (s_putf (k := 1) clok2 (by decide) rfl (by decide) rfl w_1_93 (Or.inl rfl) (Or.inl rfl) (by decide +kernel)) (SndL.c (s_fail) (SndL.n))))))))))))))))
def kX1_init_1 : List En := [(1, oFail), (0, oRload 0 18), (0, oNew 1 3 21), (1, oFail), (1, oFail), (0, oDup 22), (2, oInvI mJx4a65c_init_da8c8 0 25), (1, oFail), (1, oFail), (0, oPutf 3 2 2 28), (1, oFail), (1, oFail), (0, oRetV)]
set_option maxRecDepth 20000 in
theorem zX1_init_1 : SndL mX1_init 16 kX1_init_1 := SndL.c (s_fail) (SndL.c (s_aload_n (k := 0) (by decide +kernel) rfl) (SndL.c (s_new clok0 (by decide) rfl rfl w_1_90 w_1_38 w_1_4 (by decide +kernel)) (SndL.c (s_fail) (SndL.c (s_fail) (SndL.c (s_dup (by decide +kernel)) (SndL.c (s_invI okJx4a65c_init_da8c8 rfl rfl w_1_91 w_1_40 (by decide +kernel)) (SndL.c (s_fail) (SndL.c (s_fail) (SndL.c (s_putf (k := 2) clok2 (by decide) rfl (by decide) rfl w_1_95 (Or.inl rfl) (Or.inr ⟨rfl, rfl, rfl⟩) (by decide +kernel)) (SndL.c (s_fail) (SndL.c (s_fail) (SndL.c (s_ret_v rfl (by decide +kernel)) (SndL.n)))))))))))))
def kX1_init : Cd := [kX1_init_0, kX1_init_1]
theorem zX1_init : SndC mX1_init 0 kX1_init := SndC.c zX1_init_0 (by decide) (SndC.c zX1_init_1 (by decide) (SndC.n))
theorem aX1_init_0 : at_ kX1_init 0 = (0, oRload 0 1) := rfl
theorem aX1_init_1 : at_ kX1_init 1 = (0, oObji 4) := rfl
theorem aX1_init_4 : at_ kX1_init 4 = (0, oRload 0 5) := rfl
theorem aX1_init_5 : at_ kX1_init 5 = (0, oPush (vI 9) 7) := rfl
theorem aX1_init_7 : at_ kX1_init 7 = (0, oNewa 100 9) := rfl
theorem aX1_init_9 : at_ kX1_init 9 = (0, oPutf 3 0 2 12) := rfl
theorem aX1_init_12 : at_ kX1_init 12 = (0, oRload 0 13) := rfl
theorem aX1_init_13 : at_ kX1_init 13 = (0, oPush (vI 0) 14) := rfl
theorem aX1_init_14 : at_ kX1_init 14 = (0, oPutf 3 1 0 17) := rfl
theorem aX1_init_17 : at_ kX1_init 17 = (0, oRload 0 18) := rfl
theorem aX1_init_18 : at_ kX1_init 18 = (0, oNew 1 3 21) := rfl
theorem aX1_init_21 : at_ kX1_init 21 = (0, oDup 22) := rfl
theorem aX1_init_22 : at_ kX1_init 22 = (2, oInvI mJx4a65c_init_da8c8 0 25) := rfl
theorem aX1_init_25 : at_ kX1_init 25 = (0, oPutf 3 2 2 28) := rfl
theorem aX1_init_28 : at_ kX1_init 28 = (0, oRetV) := rfl
def kX1_addSeat_0 : List En := [(0, oRload 0 1), (0, oGetf 3 1 0 4), (1, oFail), (1, oFail), (0, oPush (vI 9) 6), (1, oFail), (0, oIcLt 11 9), (1, oFail), (1, oFail), (0, oPush (vI (-1)) 10), (0, oRetI), (0, oRload 0 12), (0, oGetf 3 0 2 15), (1, oFail), (1, oFail), (0, oRload 0 16)]
set_option maxRecDepth 20000 in
theorem zX1_addSeat_0 : SndL mX1_addSeat 0 kX1_addSeat_0 := SndL.c (s_aload_n (k := 0) (by decide +kernel) rfl) (SndL.c (s_getf (k := 1) clok2 (by decide) rfl (by decide) rfl w_1_93 (Or.inl rfl) (by decide +kernel)) (SndL.c (s_fail) (SndL.c (s_fail) (SndL.c (s_bipush (by decide +kernel) (in32_d (by decide)) (by decide +kernel)) (SndL.c (s_fail) (SndL.c (s_ic_lt (off := 5) (by decide +kernel) (by decide)) (SndL.c (s_fail) (SndL.c (s_fail) (SndL.c (s_iconst (by decide +kernel) (in32_d (by decide))) (SndL.c (s_ret_i rfl (by decide +kernel)) (SndL.c (s_aload_n (k := 0) (by decide +kernel) rfl) (SndL.c (s_getf (k := 0) clok2 (by decide) rfl (by decide) rfl w_1_92 (Or.inl rfl) (by decide +kernel)) (SndL.c (s_fail) (SndL.c (s_fail) (SndL.c (s_aload_n (k := 0) (by decide +kernel) rfl) (SndL.n))))))))))))))))
def kX1_addSeat_1 : List En := [(0, oGetf 3 1 0 19), (1, oFail), (1, oFail), (0, oIload 1 20), (0, oIast 21), (0, oRload 0 22), (0, oDup 23), (0, oGetf 3 1 0 26), (1, oFail), (1, oFail), (0, oPush (vI 1) 27), (0, oIadd 28), (0, oPutf 3 1 0 31), (1, oFail), (1, oFail), (0, oRload 0 32)]
set_option maxRecDepth 20000 in
theorem zX1_addSeat_1 : SndL mX1_addSeat 16 kX1_addSeat_1 := SndL.c (s_getf (k := 1) clok2 (by decide) rfl (by decide) rfl w_1_93 (Or.inl rfl) (by decide +kernel)) (SndL.c (s_fail) (SndL.c (s_fail) (SndL.c (s_iload_n (k := 1) (by decide +kernel) rfl) (SndL.c (s_iast (by decide +kernel)) (SndL.c (s_aload_n (k := 0) (by decide +kernel) rfl) (SndL.c (s_dup (by decide +kernel)) (SndL.c (s_getf (k := 1) clok2 (by decide) rfl (by decide) rfl w_1_93 (Or.inl rfl) (by decide +kernel)) (SndL.c (s_fail) (SndL.c (s_fail) (SndL.c (s_iconst (by decide +kernel) (in32_d (by decide))) (SndL.c (s_iadd (by decide +kernel)) (SndL.c (s_putf (k := 1) clok2 (by decide) rfl (by decide) rfl w_1_93 (Or.inl rfl) (Or.inl rfl) (by decide +kernel)) (SndL.c (s_fail) (SndL.c (s_fail) (SndL.c (s_aload_n (k := 0) (by decide +kernel) rfl) (SndL.n))))))))))))))))
def kX1_addSeat_2 : List En := [(0, oGetf 3 1 0 35), (1, oFail), (1, oFail), (0, oPush (vI 1) 36), (0, oIsub 37), (0, oRetI)]
set_option maxRecDepth 20000 in
theorem zX1_addSeat_2 : SndL mX1_addSeat 32 kX1_addSeat_2 := SndL.c (s_getf (k := 1) clok2 (by decide) rfl (by decide) rfl w_1_93 (Or.inl rfl) (by decide +kernel)) (SndL.c (s_fail) (SndL.c (s_fail) (SndL.c (s_iconst (by decide +kernel) (in32_d (by decide))) (SndL.c (s_isub (by decide +kernel)) (SndL.c (s_ret_i rfl (by decide +kernel)) (SndL.n))))))
def kX1_addSeat : Cd := [kX1_addSeat_0, kX1_addSeat_1, kX1_addSeat_2]
theorem zX1_addSeat : SndC mX1_addSeat 0 kX1_addSeat := SndC.c zX1_addSeat_0 (by decide) (SndC.c zX1_addSeat_1 (by decide) (SndC.c zX1_addSeat_2 (by decide) (SndC.n)))
theorem aX1_addSeat_0 : at_ kX1_addSeat 0 = (0, oRload 0 1) := rfl
theorem aX1_addSeat_1 : at_ kX1_addSeat 1 = (0, oGetf 3 1 0 4) := rfl
theorem aX1_addSeat_4 : at_ kX1_addSeat 4 = (0, oPush (vI 9) 6) := rfl
theorem aX1_addSeat_6 : at_ kX1_addSeat 6 = (0, oIcLt 11 9) := rfl
theorem aX1_addSeat_9 : at_ kX1_addSeat 9 = (0, oPush (vI (-1)) 10) := rfl
theorem aX1_addSeat_10 : at_ kX1_addSeat 10 = (0, oRetI) := rfl
theorem aX1_addSeat_11 : at_ kX1_addSeat 11 = (0, oRload 0 12) := rfl
theorem aX1_addSeat_12 : at_ kX1_addSeat 12 = (0, oGetf 3 0 2 15) := rfl
theorem aX1_addSeat_15 : at_ kX1_addSeat 15 = (0, oRload 0 16) := rfl
theorem aX1_addSeat_16 : at_ kX1_addSeat 16 = (0, oGetf 3 1 0 19) := rfl
theorem aX1_addSeat_19 : at_ kX1_addSeat 19 = (0, oIload 1 20) := rfl
theorem aX1_addSeat_20 : at_ kX1_addSeat 20 = (0, oIast 21) := rfl
theorem aX1_addSeat_21 : at_ kX1_addSeat 21 = (0, oRload 0 22) := rfl
theorem aX1_addSeat_22 : at_ kX1_addSeat 22 = (0, oDup 23) := rfl
theorem aX1_addSeat_23 : at_ kX1_addSeat 23 = (0, oGetf 3 1 0 26) := rfl
theorem aX1_addSeat_26 : at_ kX1_addSeat 26 = (0, oPush (vI 1) 27) := rfl
theorem aX1_addSeat_27 : at_ kX1_addSeat 27 = (0, oIadd 28) := rfl
theorem aX1_addSeat_28 : at_ kX1_addSeat 28 = (0, oPutf 3 1 0 31) := rfl
theorem aX1_addSeat_31 : at_ kX1_addSeat 31 = (0, oRload 0 32) := rfl
theorem aX1_addSeat_32 : at_ kX1_addSeat 32 = (0, oGetf 3 1 0 35) := rfl
theorem aX1_addSeat_35 : at_ kX1_addSeat 35 = (0, oPush (vI 1) 36) := rfl
theorem aX1_addSeat_36 : at_ kX1_addSeat 36 = (0, oIsub 37) := rfl
theorem aX1_addSeat_37 : at_ kX1_addSeat 37 = (0, oRetI) := rfl
def kX1_areSeats_0 : List En := [(0, oIload 1 1), (0, oRload 0 2), (0, oGetf 3 1 0 5), (1, oFail), (1, oFail), (0, oIushr 6), (0, oIfNe 13 9), (1, oFail), (1, oFail), (0, oPush (vI 1) 10), (0, oGoto 14), (1, oFail), (1, oFail), (0, oPush (vI 0) 14), (0, oRetZ)]
set_option maxRecDepth 20000 in
theorem zX1_areSeats_0 : SndL mX1_areSeats 0 kX1_areSeats_0 := SndL.c (s_iload_n (k := 1) (by decide +kernel) rfl) (SndL.c (s_aload_n (k := 0) (by decide +kernel) rfl) (SndL.c (s_getf (k := 1) clok2 (by decide) rfl (by decide) rfl w_1_93 (Or.inl rfl) (by decide +kernel)) (SndL.c (s_fail) (SndL.c (s_fail) (SndL.c (s_iushr (by decide +kernel)) (SndL.c (s_if_ne (off := 7) (by decide +kernel) (by decide)) (SndL.c (s_fail) (SndL.c (s_fail) (SndL.c (s_iconst (by decide +kernel) (in32_d (by decide))) (SndL.c (s_goto (off := 4) (by decide +kernel) (by decide)) (SndL.c (s_fail) (SndL.c (s_fail) (SndL.c (s_iconst (by decide +kernel) (in32_d (by decide))) (SndL.c (s_ret_z rfl (by decide +kernel)) (SndL.n)))))))))))))))
def kX1_areSeats : Cd := [kX1_areSeats_0]
theorem zX1_areSeats : SndC mX1_areSeats 0 kX1_areSeats := SndC.c zX1_areSeats_0 (by decide) (SndC.n)
theorem aX1_areSeats_0 : at_ kX1_areSeats 0 = (0, oIload 1 1) := rfl
theorem aX1_areSeats_1 : at_ kX1_areSeats 1 = (0, oRload 0 2) := rfl
theorem aX1_areSeats_2 : at_ kX1_areSeats 2 = (0, oGetf 3 1 0 5) := rfl
theorem aX1_areSeats_5 : at_ kX1_areSeats 5 = (0, oIushr 6) := rfl
theorem aX1_areSeats_6 : at_ kX1_areSeats 6 = (0, oIfNe 13 9) := rfl
theorem aX1_areSeats_9 : at_ kX1_areSeats 9 = (0, oPush (vI 1) 10) := rfl
theorem aX1_areSeats_10 : at_ kX1_areSeats 10 = (0, oGoto 14) := rfl
theorem aX1_areSeats_13 : at_ kX1_areSeats 13 = (0, oPush (vI 0) 14) := rfl
theorem aX1_areSeats_14 : at_ kX1_areSeats 14 = (0, oRetZ) := rfl
def kX1_isKin_0 : List En := [(0, oIload 1 1), (0, oIfLt 30 4), (1, oFail), (1, oFail), (0, oIload 1 5), (0, oRload 0 6), (0, oGetf 3 1 0 9), (1, oFail), (1, oFail), (0, oIcGe 30 12), (1, oFail), (1, oFail), (0, oRload 0 13), (0, oGetf 3 0 2 16), (1, oFail), (1, oFail)]
set_option maxRecDepth 20000 in
theorem zX1_isKin_0 : SndL mX1_isKin 0 kX1_isKin_0 := SndL.c (s_iload_n (k := 1) (by decide +kernel) rfl) (SndL.c (s_if_lt (off := 29) (by decide +kernel) (by decide)) (SndL.c (s_fail) (SndL.c (s_fail) (SndL.c (s_iload_n (k := 1) (by decide +kernel) rfl) (SndL.c (s_aload_n (k := 0) (by decide +kernel) rfl) (SndL.c (s_getf (k := 1) clok2 (by decide) rfl (by decide) rfl w_1_93 (Or.inl rfl) (by decide +kernel)) (SndL.c (s_fail) (SndL.c (s_fail) (SndL.c (s_ic_ge (off := 21) (by decide +kernel) (by decide)) (SndL.c (s_fail) (SndL.c (s_fail) (SndL.c (s_aload_n (k := 0) (by decide +kernel) rfl) (SndL.c (s_getf (k := 0) clok2 (by decide) rfl (by decide) rfl w_1_92 (Or.inl rfl) (by decide +kernel)) (SndL.c (s_fail) (SndL.c (s_fail) (SndL.n))))))))))))))))
def kX1_isKin_1 : List En := [(0, oIload 1 17), (0, oIald 18), (0, oIload 2 19), (0, oIushr 20), (0, oPush (vI 1) 21), (0, oIand 22), (0, oPush (vI 1) 23), (0, oIcNe 30 26), (1, oFail), (1, oFail), (0, oPush (vI 1) 27), (0, oGoto 31), (1, oFail), (1, oFail), (0, oPush (vI 0) 31), (0, oRetZ)]
set_option maxRecDepth 20000 in
theorem zX1_isKin_1 : SndL mX1_isKin 16 kX1_isKin_1 := SndL.c (s_iload_n (k := 1) (by decide +kernel) rfl) (SndL.c (s_iald (by decide +kernel)) (SndL.c (s_iload_n (k := 2) (by decide +kernel) rfl) (SndL.c (s_iushr (by decide +kernel)) (SndL.c (s_iconst (by decide +kernel) (in32_d (by decide))) (SndL.c (s_iand (by decide +kernel)) (SndL.c (s_iconst (by decide +kernel) (in32_d (by decide))) (SndL.c (s_ic_ne (off := 7) (by decide +kernel) (by decide)) (SndL.c (s_fail) (SndL.c (s_fail) (SndL.c (s_iconst (by decide +kernel) (in32_d (by decide))) (SndL.c (s_goto (off := 4) (by decide +kernel) (by decide)) (SndL.c (s_fail) (SndL.c (s_fail) (SndL.c (s_iconst (by decide +kernel) (in32_d (by decide))) (SndL.c (s_ret_z rfl (by decide +kernel)) (SndL.n))))))))))))))))
def kX1_isKin : Cd := [kX1_isKin_0, kX1_isKin_1]
theorem zX1_isKin : SndC mX1_isKin 0 kX1_isKin := SndC.c zX1_isKin_0 (by decide) (SndC.c zX1_isKin_1 (by decide) (SndC.n))
theorem aX1_isKin_0 : at_ kX1_isKin 0 = (0, oIload 1 1) := rfl
theorem aX1_isKin_1 : at_ kX1_isKin 1 = (0, oIfLt 30 4) := rfl
theorem aX1_isKin_4 : at_ kX1_isKin 4 = (0, oIload 1 5) := rfl
theorem aX1_isKin_5 : at_ kX1_isKin 5 = (0, oRload 0 6) := rfl
theorem aX1_isKin_6 : at_ kX1_isKin 6 = (0, oGetf 3 1 0 9) := rfl
theorem aX1_isKin_9 : at_ kX1_isKin 9 = (0, oIcGe 30 12) := rfl
theorem aX1_isKin_12 : at_ kX1_isKin 12 = (0, oRload 0 13) := rfl
theorem aX1_isKin_13 : at_ kX1_isKin 13 = (0, oGetf 3 0 2 16) := rfl
theorem aX1_isKin_16 : at_ kX1_isKin 16 = (0, oIload 1 17) := rfl
theorem aX1_isKin_17 : at_ kX1_isKin 17 = (0, oIald 18) := rfl
theorem aX1_isKin_18 : at_ kX1_isKin 18 = (0, oIload 2 19) := rfl
theorem aX1_isKin_19 : at_ kX1_isKin 19 = (0, oIushr 20) := rfl
theorem aX1_isKin_20 : at_ kX1_isKin 20 = (0, oPush (vI 1) 21) := rfl
theorem aX1_isKin_21 : at_ kX1_isKin 21 = (0, oIand 22) := rfl
theorem aX1_isKin_22 : at_ kX1_isKin 22 = (0, oPush (vI 1) 23) := rfl
theorem aX1_isKin_23 : at_ kX1_isKin 23 = (0, oIcNe 30 26) := rfl
theorem aX1_isKin_26 : at_ kX1_isKin 26 = (0, oPush (vI 1) 27) := rfl
theorem aX1_isKin_27 : at_ kX1_isKin 27 = (0, oGoto 31) := rfl
theorem aX1_isKin_30 : at_ kX1_isKin 30 = (0, oPush (vI 0) 31) := rfl
theorem aX1_isKin_31 : at_ kX1_isKin 31 = (0, oRetZ) := rfl
def kX1_countOf_0 : List En := [(0, oPush (vI 0) 1), (0, oIstore 3 2), (0, oPush (vI 0) 3), (0, oIstore 4 5), (1, oFail), (1, oIload 4 7), (1, oFail), (0, oRload 0 8), (0, oGetf 3 1 0 11), (1, oFail), (1, oFail), (0, oIcGe 43 14), (1, oFail), (1, oFail), (0, oIload 1 15), (0, oIload 4 17)]
set_option maxRecDepth 20000 in
theorem zX1_countOf_0 : SndL mX1_countOf 0 kX1_countOf_0 := SndL.c (s_iconst (by decide +kernel) (in32_d (by decide))) (SndL.c (s_istore_n (k := 3) (by decide +kernel) rfl (by decide)) (SndL.c (s_iconst (by decide +kernel) (in32_d (by decide))) (SndL.c (s_istore (by decide +kernel) (by decide)) (SndL.c (s_fail) (SndL.c (s_iload (by decide +kernel)) (SndL.c (s_fail) (SndL.c (s_aload_n (k := 0) (by decide +kernel) rfl) (SndL.c (s_getf (k := 1) clok2 (by decide) rfl (by decide) rfl w_1_93 (Or.inl rfl) (by decide +kernel)) (SndL.c (s_fail) (SndL.c (s_fail) (SndL.c (s_ic_ge (off := 32) (by decide +kernel) (by decide)) (SndL.c (s_fail) (SndL.c (s_fail) (SndL.c (s_iload_n (k := 1) (by decide +kernel) rfl) (SndL.c (s_iload (by decide +kernel)) (SndL.n))))))))))))))))
def kX1_countOf_1 : List En := [(1, oFail), (0, oIushr 18), (0, oPush (vI 1) 19), (0, oIand 20), (0, oPush (vI 1) 21), (0, oIcNe 37 24), (1, oFail), (1, oFail), (0, oRload 0 25), (0, oIload 4 27), (1, oFail), (0, oIload 2 28), (2, oInvV 3 mX1_isKin 2 31), (1, oFail), (1, oFail), (0, oIfNe 37 34)]
set_option maxRecDepth 20000 in
theorem zX1_countOf_1 : SndL mX1_countOf 16 kX1_countOf_1 := SndL.c (s_fail) (SndL.c (s_iushr (by decide +kernel)) (SndL.c (s_iconst (by decide +kernel) (in32_d (by decide))) (SndL.c (s_iand (by decide +kernel)) (SndL.c (s_iconst (by decide +kernel) (in32_d (by decide))) (SndL.c (s_ic_ne (off := 16) (by decide +kernel) (by decide)) (SndL.c (s_fail) (SndL.c (s_fail) (SndL.c (s_aload_n (k := 0) (by decide +kernel) rfl) (SndL.c (s_iload (by decide +kernel)) (SndL.c (s_fail) (SndL.c (s_iload_n (k := 2) (by decide +kernel) rfl) (SndL.c (s_invV (r := (RX1, TX1, 3)) (ci := 2) okX1_isKin rfl (by decide) rfl rfl w_4_119 w_4_120 w_4_121 (by decide +kernel)) (SndL.c (s_fail) (SndL.c (s_fail) (SndL.c (s_if_ne (off := 6) (by decide +kernel) (by decide)) (SndL.n))))))))))))))))
def kX1_countOf_2 : List En := [(1, oFail), (1, oFail), (0, oIinc 3 1 37), (1, oFail), (1, oFail), (0, oIinc 4 1 40), (1, oFail), (1, oFail), (0, oGoto 5), (1, oFail), (1, oFail), (0, oIload 3 44), (0, oRetI)]
set_option maxRecDepth 20000 in
theorem zX1_countOf_2 : SndL mX1_countOf 32 kX1_countOf_2 := SndL.c (s_fail) (SndL.c (s_fail) (SndL.c (s_iinc (by decide +kernel) (by decide)) (SndL.c (s_fail) (SndL.c (s_fail) (SndL.c (s_iinc (by decide +kernel) (by decide)) (SndL.c (s_fail) (SndL.c (s_fail) (SndL.c (s_goto (off := -35) (by decide +kernel) (by decide)) (SndL.c (s_fail) (SndL.c (s_fail) (SndL.c (s_iload_n (k := 3) (by decide +kernel) rfl) (SndL.c (s_ret_i rfl (by decide +kernel)) (SndL.n)))))))))))))
def kX1_countOf : Cd := [kX1_countOf_0, kX1_countOf_1, kX1_countOf_2]
theorem zX1_countOf : SndC mX1_countOf 0 kX1_countOf := SndC.c zX1_countOf_0 (by decide) (SndC.c zX1_countOf_1 (by decide) (SndC.c zX1_countOf_2 (by decide) (SndC.n)))
theorem aX1_countOf_0 : at_ kX1_countOf 0 = (0, oPush (vI 0) 1) := rfl
theorem aX1_countOf_1 : at_ kX1_countOf 1 = (0, oIstore 3 2) := rfl
theorem aX1_countOf_2 : at_ kX1_countOf 2 = (0, oPush (vI 0) 3) := rfl
theorem aX1_countOf_3 : at_ kX1_countOf 3 = (0, oIstore 4 5) := rfl
theorem aX1_countOf_5 : at_ kX1_countOf 5 = (1, oIload 4 7) := rfl
theorem aX1_countOf_7 : at_ kX1_countOf 7 = (0, oRload 0 8) := rfl
theorem aX1_countOf_8 : at_ kX1_countOf 8 = (0, oGetf 3 1 0 11) := rfl
theorem aX1_countOf_11 : at_ kX1_countOf 11 = (0, oIcGe 43 14) := rfl
theorem aX1_countOf_14 : at_ kX1_countOf 14 = (0, oIload 1 15) := rfl
theorem aX1_countOf_15 : at_ kX1_countOf 15 = (0, oIload 4 17) := rfl
theorem aX1_countOf_17 : at_ kX1_countOf 17 = (0, oIushr 18) := rfl
theorem aX1_countOf_18 : at_ kX1_countOf 18 = (0, oPush (vI 1) 19) := rfl
theorem aX1_countOf_19 : at_ kX1_countOf 19 = (0, oIand 20) := rfl
theorem aX1_countOf_20 : at_ kX1_countOf 20 = (0, oPush (vI 1) 21) := rfl
theorem aX1_countOf_21 : at_ kX1_countOf 21 = (0, oIcNe 37 24) := rfl
theorem aX1_countOf_24 : at_ kX1_countOf 24 = (0, oRload 0 25) := rfl
theorem aX1_countOf_25 : at_ kX1_countOf 25 = (0, oIload 4 27) := rfl
theorem aX1_countOf_27 : at_ kX1_countOf 27 = (0, oIload 2 28) := rfl
theorem aX1_countOf_28 : at_ kX1_countOf 28 = (2, oInvV 3 mX1_isKin 2 31) := rfl
theorem aX1_countOf_31 : at_ kX1_countOf 31 = (0, oIfNe 37 34) := rfl
theorem aX1_countOf_34 : at_ kX1_countOf 34 = (0, oIinc 3 1 37) := rfl
theorem aX1_countOf_37 : at_ kX1_countOf 37 = (0, oIinc 4 1 40) := rfl
theorem aX1_countOf_40 : at_ kX1_countOf 40 = (0, oGoto 5) := rfl
theorem aX1_countOf_43 : at_ kX1_countOf 43 = (0, oIload 3 44) := rfl
theorem aX1_countOf_44 : at_ kX1_countOf 44 = (0, oRetI) := rfl
def kX1_wouldBar_0 : List En := [(0, oRload 0 1), (0, oRload 1 2), (0, oGetf 10 6 0 5), (1, oFail), (1, oFail), (0, oRload 1 6), (0, oGetf 10 0 0 9), (1, oFail), (1, oFail), (2, oInvV 3 mX1_countOf 2 12), (1, oFail), (1, oFail), (0, oRload 0 13), (0, oRload 1 14), (0, oGetf 10 7 0 17), (1, oFail)]
set_option maxRecDepth 20000 in
theorem zX1_wouldBar_0 : SndL mX1_wouldBar 0 kX1_wouldBar_0 := SndL.c (s_aload_n (k := 0) (by decide +kernel) rfl) (SndL.c (s_aload_n (k := 1) (by decide +kernel) rfl) (SndL.c (s_getf (k := 6) clok9 (by decide) rfl (by decide) rfl w_4_148 (Or.inl rfl) (by decide +kernel)) (SndL.c (s_fail) (SndL.c (s_fail) (SndL.c (s_aload_n (k := 1) (by decide +kernel) rfl) (SndL.c (s_getf (k := 0) clok9 (by decide) rfl (by decide) rfl w_4_130 (Or.inl rfl) (by decide +kernel)) (SndL.c (s_fail) (SndL.c (s_fail) (SndL.c (s_invV (r := (RX1, TX1, 3)) (ci := 2) okX1_countOf rfl (by decide) rfl rfl w_4_200 w_4_116 w_4_117 (by decide +kernel)) (SndL.c (s_fail) (SndL.c (s_fail) (SndL.c (s_aload_n (k := 0) (by decide +kernel) rfl) (SndL.c (s_aload_n (k := 1) (by decide +kernel) rfl) (SndL.c (s_getf (k := 7) clok9 (by decide) rfl (by decide) rfl w_4_150 (Or.inl rfl) (by decide +kernel)) (SndL.c (s_fail) (SndL.n))))))))))))))))
def kX1_wouldBar_1 : List En := [(1, oFail), (0, oRload 1 18), (0, oGetf 10 0 0 21), (1, oFail), (1, oFail), (2, oInvV 3 mX1_countOf 2 24), (1, oFail), (1, oFail), (0, oIcLe 31 27), (1, oFail), (1, oFail), (0, oPush (vI 1) 28), (0, oGoto 32), (1, oFail), (1, oFail), (0, oPush (vI 0) 32)]
set_option maxRecDepth 20000 in
theorem zX1_wouldBar_1 : SndL mX1_wouldBar 16 kX1_wouldBar_1 := SndL.c (s_fail) (SndL.c (s_aload_n (k := 1) (by decide +kernel) rfl) (SndL.c (s_getf (k := 0) clok9 (by decide) rfl (by decide) rfl w_4_130 (Or.inl rfl) (by decide +kernel)) (SndL.c (s_fail) (SndL.c (s_fail) (SndL.c (s_invV (r := (RX1, TX1, 3)) (ci := 2) okX1_countOf rfl (by decide) rfl rfl w_4_200 w_4_116 w_4_117 (by decide +kernel)) (SndL.c (s_fail) (SndL.c (s_fail) (SndL.c (s_ic_le (off := 7) (by decide +kernel) (by decide)) (SndL.c (s_fail) (SndL.c (s_fail) (SndL.c (s_iconst (by decide +kernel) (in32_d (by decide))) (SndL.c (s_goto (off := 4) (by decide +kernel) (by decide)) (SndL.c (s_fail) (SndL.c (s_fail) (SndL.c (s_iconst (by decide +kernel) (in32_d (by decide))) (SndL.n))))))))))))))))
def kX1_wouldBar_2 : List En := [(0, oRetZ)]
set_option maxRecDepth 20000 in
theorem zX1_wouldBar_2 : SndL mX1_wouldBar 32 kX1_wouldBar_2 := SndL.c (s_ret_z rfl (by decide +kernel)) (SndL.n)
def kX1_wouldBar : Cd := [kX1_wouldBar_0, kX1_wouldBar_1, kX1_wouldBar_2]
theorem zX1_wouldBar : SndC mX1_wouldBar 0 kX1_wouldBar := SndC.c zX1_wouldBar_0 (by decide) (SndC.c zX1_wouldBar_1 (by decide) (SndC.c zX1_wouldBar_2 (by decide) (SndC.n)))
theorem aX1_wouldBar_0 : at_ kX1_wouldBar 0 = (0, oRload 0 1) := rfl
theorem aX1_wouldBar_1 : at_ kX1_wouldBar 1 = (0, oRload 1 2) := rfl
theorem aX1_wouldBar_2 : at_ kX1_wouldBar 2 = (0, oGetf 10 6 0 5) := rfl
theorem aX1_wouldBar_5 : at_ kX1_wouldBar 5 = (0, oRload 1 6) := rfl
theorem aX1_wouldBar_6 : at_ kX1_wouldBar 6 = (0, oGetf 10 0 0 9) := rfl
theorem aX1_wouldBar_9 : at_ kX1_wouldBar 9 = (2, oInvV 3 mX1_countOf 2 12) := rfl
theorem aX1_wouldBar_12 : at_ kX1_wouldBar 12 = (0, oRload 0 13) := rfl
theorem aX1_wouldBar_13 : at_ kX1_wouldBar 13 = (0, oRload 1 14) := rfl
theorem aX1_wouldBar_14 : at_ kX1_wouldBar 14 = (0, oGetf 10 7 0 17) := rfl
theorem aX1_wouldBar_17 : at_ kX1_wouldBar 17 = (0, oRload 1 18) := rfl
theorem aX1_wouldBar_18 : at_ kX1_wouldBar 18 = (0, oGetf 10 0 0 21) := rfl
theorem aX1_wouldBar_21 : at_ kX1_wouldBar 21 = (2, oInvV 3 mX1_countOf 2 24) := rfl
theorem aX1_wouldBar_24 : at_ kX1_wouldBar 24 = (0, oIcLe 31 27) := rfl
theorem aX1_wouldBar_27 : at_ kX1_wouldBar 27 = (0, oPush (vI 1) 28) := rfl
theorem aX1_wouldBar_28 : at_ kX1_wouldBar 28 = (0, oGoto 32) := rfl
theorem aX1_wouldBar_31 : at_ kX1_wouldBar 31 = (0, oPush (vI 0) 32) := rfl
theorem aX1_wouldBar_32 : at_ kX1_wouldBar 32 = (0, oRetZ) := rfl
def kX1_addKin_0 : List En := [(0, oIload 1 1), (0, oIfLt 12 4), (1, oFail), (1, oFail), (0, oIload 1 5), (0, oRload 0 6), (0, oGetf 3 1 0 9), (1, oFail), (1, oFail), (0, oIcLt 14 12), (1, oFail), (1, oFail), (0, oPush (vI 0) 13), (0, oRetI), (0, oRload 0 15), (0, oGetf 3 0 2 18)]
set_option maxRecDepth 20000 in
theorem zX1_addKin_0 : SndL mX1_addKin 0 kX1_addKin_0 := SndL.c (s_iload_n (k := 1) (by decide +kernel) rfl) (SndL.c (s_if_lt (off := 11) (by decide +kernel) (by decide)) (SndL.c (s_fail) (SndL.c (s_fail) (SndL.c (s_iload_n (k := 1) (by decide +kernel) rfl) (SndL.c (s_aload_n (k := 0) (by decide +kernel) rfl) (SndL.c (s_getf (k := 1) clok2 (by decide) rfl (by decide) rfl w_1_93 (Or.inl rfl) (by decide +kernel)) (SndL.c (s_fail) (SndL.c (s_fail) (SndL.c (s_ic_lt (off := 5) (by decide +kernel) (by decide)) (SndL.c (s_fail) (SndL.c (s_fail) (SndL.c (s_iconst (by decide +kernel) (in32_d (by decide))) (SndL.c (s_ret_i rfl (by decide +kernel)) (SndL.c (s_aload_n (k := 0) (by decide +kernel) rfl) (SndL.c (s_getf (k := 0) clok2 (by decide) rfl (by decide) rfl w_1_92 (Or.inl rfl) (by decide +kernel)) (SndL.n))))))))))))))))
def kX1_addKin_1 : List En := [(1, oFail), (1, oFail), (0, oIload 1 19), (0, oDup2 20), (0, oIald 21), (0, oPush (vI 1) 22), (0, oIload 2 23), (0, oIshl 24), (0, oIor 25), (0, oIast 26), (0, oPush (vI 0) 27), (0, oIstore 3 28), (0, oPush (vI 0) 29), (0, oIstore 4 31), (1, oFail), (1, oIload 4 33)]
set_option maxRecDepth 20000 in
theorem zX1_addKin_1 : SndL mX1_addKin 16 kX1_addKin_1 := SndL.c (s_fail) (SndL.c (s_fail) (SndL.c (s_iload_n (k := 1) (by decide +kernel) rfl) (SndL.c (s_dup2 (by decide +kernel)) (SndL.c (s_iald (by decide +kernel)) (SndL.c (s_iconst (by decide +kernel) (in32_d (by decide))) (SndL.c (s_iload_n (k := 2) (by decide +kernel) rfl) (SndL.c (s_ishl (by decide +kernel)) (SndL.c (s_ior (by decide +kernel)) (SndL.c (s_iast (by decide +kernel)) (SndL.c (s_iconst (by decide +kernel) (in32_d (by decide))) (SndL.c (s_istore_n (k := 3) (by decide +kernel) rfl (by decide)) (SndL.c (s_iconst (by decide +kernel) (in32_d (by decide))) (SndL.c (s_istore (by decide +kernel) (by decide)) (SndL.c (s_fail) (SndL.c (s_iload (by decide +kernel)) (SndL.n))))))))))))))))
def kX1_addKin_2 : List En := [(1, oFail), (0, oRload 0 34), (0, oGetf 3 2 2 37), (1, oFail), (1, oFail), (2, oInvV 1 mJx4a65c_size_8abf5 0 40), (1, oFail), (1, oFail), (0, oIcGe 149 43), (1, oFail), (1, oFail), (0, oRload 0 44), (0, oGetf 3 2 2 47), (1, oFail), (1, oFail), (0, oIload 4 49)]
set_option maxRecDepth 20000 in
theorem zX1_addKin_2 : SndL mX1_addKin 32 kX1_addKin_2 := SndL.c (s_fail) (SndL.c (s_aload_n (k := 0) (by decide +kernel) rfl) (SndL.c (s_getf (k := 2) clok2 (by decide) rfl (by decide) rfl w_1_95 (Or.inl rfl) (by decide +kernel)) (SndL.c (s_fail) (SndL.c (s_fail) (SndL.c (s_invV (r := (RJx4a65c, TJx4a65c, 3)) (ci := 0) okJx4a65c_size_8abf5 rfl (by decide) rfl rfl w_3_138 w_2_64 w_2_65 (by decide +kernel)) (SndL.c (s_fail) (SndL.c (s_fail) (SndL.c (s_ic_ge (off := 109) (by decide +kernel) (by decide)) (SndL.c (s_fail) (SndL.c (s_fail) (SndL.c (s_aload_n (k := 0) (by decide +kernel) rfl) (SndL.c (s_getf (k := 2) clok2 (by decide) rfl (by decide) rfl w_1_95 (Or.inl rfl) (by decide +kernel)) (SndL.c (s_fail) (SndL.c (s_fail) (SndL.c (s_iload (by decide +kernel)) (SndL.n))))))))))))))))
def kX1_addKin_3 : List En := [(1, oFail), (2, oInvV 1 mJx4a65c_get_915e3 1 52), (1, oFail), (1, oFail), (0, oCast 10 55), (1, oFail), (1, oFail), (0, oRstore 5 57), (1, oFail), (0, oRload 5 59), (1, oFail), (0, oGetf 10 6 0 62), (1, oFail), (1, oFail), (0, oRload 5 64), (1, oFail)]
set_option maxRecDepth 20000 in
theorem zX1_addKin_3 : SndL mX1_addKin 48 kX1_addKin_3 := SndL.c (s_fail) (SndL.c (s_invV (r := (RJx4a65c, TJx4a65c, 3)) (ci := 0) okJx4a65c_get_915e3 rfl (by decide) rfl rfl w_3_139 w_2_192 w_2_193 (by decide +kernel)) (SndL.c (s_fail) (SndL.c (s_fail) (SndL.c (s_cast (r := (RX8, TX8, 14)) (ci := 9) rfl (by decide) rfl w_3_140 (by decide +kernel)) (SndL.c (s_fail) (SndL.c (s_fail) (SndL.c (s_astore (by decide +kernel) (by decide)) (SndL.c (s_fail) (SndL.c (s_aload (by decide +kernel)) (SndL.c (s_fail) (SndL.c (s_getf (k := 6) clok9 (by decide) rfl (by decide) rfl w_4_148 (Or.inl rfl) (by decide +kernel)) (SndL.c (s_fail) (SndL.c (s_fail) (SndL.c (s_aload (by decide +kernel)) (SndL.c (s_fail) (SndL.n))))))))))))))))
def kX1_addKin_4 : List En := [(0, oGetf 10 7 0 67), (1, oFail), (1, oFail), (0, oIor 68), (0, oIstore 6 70), (1, oFail), (0, oRload 5 72), (1, oFail), (0, oGetf 10 13 0 75), (1, oFail), (1, oFail), (0, oIfNe 101 78), (1, oFail), (1, oFail), (0, oRload 5 80), (1, oFail)]
set_option maxRecDepth 20000 in
theorem zX1_addKin_4 : SndL mX1_addKin 64 kX1_addKin_4 := SndL.c (s_getf (k := 7) clok9 (by decide) rfl (by decide) rfl w_4_150 (Or.inl rfl) (by decide +kernel)) (SndL.c (s_fail) (SndL.c (s_fail) (SndL.c (s_ior (by decide +kernel)) (SndL.c (s_istore (by decide +kernel) (by decide)) (SndL.c (s_fail) (SndL.c (s_aload (by decide +kernel)) (SndL.c (s_fail) (SndL.c (s_getf (k := 13) clok9 (by decide) rfl (by decide) rfl w_4_165 (Or.inl rfl) (by decide +kernel)) (SndL.c (s_fail) (SndL.c (s_fail) (SndL.c (s_if_ne (off := 26) (by decide +kernel) (by decide)) (SndL.c (s_fail) (SndL.c (s_fail) (SndL.c (s_aload (by decide +kernel)) (SndL.c (s_fail) (SndL.n))))))))))))))))
def kX1_addKin_5 : List En := [(0, oGetf 10 0 0 83), (1, oFail), (1, oFail), (0, oIload 2 84), (0, oIcNe 101 87), (1, oFail), (1, oFail), (0, oIload 6 89), (1, oFail), (0, oIload 1 90), (0, oIushr 91), (0, oPush (vI 1) 92), (0, oIand 93), (0, oPush (vI 1) 94), (0, oIcNe 101 97), (1, oFail)]
set_option maxRecDepth 20000 in
theorem zX1_addKin_5 : SndL mX1_addKin 80 kX1_addKin_5 := SndL.c (s_getf (k := 0) clok9 (by decide) rfl (by decide) rfl w_4_130 (Or.inl rfl) (by decide +kernel)) (SndL.c (s_fail) (SndL.c (s_fail) (SndL.c (s_iload_n (k := 2) (by decide +kernel) rfl) (SndL.c (s_ic_ne (off := 17) (by decide +kernel) (by decide)) (SndL.c (s_fail) (SndL.c (s_fail) (SndL.c (s_iload (by decide +kernel)) (SndL.c (s_fail) (SndL.c (s_iload_n (k := 1) (by decide +kernel) rfl) (SndL.c (s_iushr (by decide +kernel)) (SndL.c (s_iconst (by decide +kernel) (in32_d (by decide))) (SndL.c (s_iand (by decide +kernel)) (SndL.c (s_iconst (by decide +kernel) (in32_d (by decide))) (SndL.c (s_ic_ne (off := 7) (by decide +kernel) (by decide)) (SndL.c (s_fail) (SndL.n))))))))))))))))
def kX1_addKin_6 : List En := [(1, oFail), (0, oPush (vI 1) 98), (0, oGoto 102), (1, oFail), (1, oFail), (0, oPush (vI 0) 102), (0, oIstore 7 104), (1, oFail), (0, oIload 7 106), (1, oFail), (0, oIfEq 143 109), (1, oFail), (1, oFail), (0, oRload 0 110), (0, oIload 6 112), (1, oFail)]
set_option maxRecDepth 20000 in
theorem zX1_addKin_6 : SndL mX1_addKin 96 kX1_addKin_6 := SndL.c (s_fail) (SndL.c (s_iconst (by decide +kernel) (in32_d (by decide))) (SndL.c (s_goto (off := 4) (by decide +kernel) (by decide)) (SndL.c (s_fail) (SndL.c (s_fail) (SndL.c (s_iconst (by decide +kernel) (in32_d (by decide))) (SndL.c (s_istore (by decide +kernel) (by decide)) (SndL.c (s_fail) (SndL.c (s_iload (by decide +kernel)) (SndL.c (s_fail) (SndL.c (s_if_eq (off := 37) (by decide +kernel) (by decide)) (SndL.c (s_fail) (SndL.c (s_fail) (SndL.c (s_aload_n (k := 0) (by decide +kernel) rfl) (SndL.c (s_iload (by decide +kernel)) (SndL.c (s_fail) (SndL.n))))))))))))))))
def kX1_addKin_7 : List En := [(0, oIload 2 113), (2, oInvV 3 mX1_countOf 2 116), (1, oFail), (1, oFail), (0, oPush (vI 3) 117), (0, oIcLt 134 120), (1, oFail), (1, oFail), (0, oRload 0 121), (0, oRload 5 123), (1, oFail), (2, oInvV 3 mX1_wouldBar 1 126), (1, oFail), (1, oFail), (0, oRload 5 128), (1, oFail)]
set_option maxRecDepth 20000 in
theorem zX1_addKin_7 : SndL mX1_addKin 112 kX1_addKin_7 := SndL.c (s_iload_n (k := 2) (by decide +kernel) rfl) (SndL.c (s_invV (r := (RX1, TX1, 3)) (ci := 2) okX1_countOf rfl (by decide) rfl rfl w_4_200 w_4_116 w_4_117 (by decide +kernel)) (SndL.c (s_fail) (SndL.c (s_fail) (SndL.c (s_iconst (by decide +kernel) (in32_d (by decide))) (SndL.c (s_ic_lt (off := 17) (by decide +kernel) (by decide)) (SndL.c (s_fail) (SndL.c (s_fail) (SndL.c (s_aload_n (k := 0) (by decide +kernel) rfl) (SndL.c (s_aload (by decide +kernel)) (SndL.c (s_fail) (SndL.c (s_invV (r := (RX1, TX1, 3)) (ci := 2) okX1_wouldBar rfl (by decide) rfl rfl w_4_229 w_4_197 w_4_198 (by decide +kernel)) (SndL.c (s_fail) (SndL.c (s_fail) (SndL.c (s_aload (by decide +kernel)) (SndL.c (s_fail) (SndL.n))))))))))))))))
def kX1_addKin_8 : List En := [(0, oGetf 10 9 3 131), (1, oFail), (1, oFail), (0, oIcEq 143 134), (1, oFail), (1, oFail), (0, oRload 5 136), (1, oFail), (0, oPush (vI 1) 137), (0, oPutf 10 13 0 140), (1, oFail), (1, oFail), (0, oIinc 3 1 143), (1, oFail), (1, oFail), (0, oIinc 4 1 146)]
set_option maxRecDepth 20000 in
theorem zX1_addKin_8 : SndL mX1_addKin 128 kX1_addKin_8 := SndL.c (s_getf (k := 9) clok9 (by decide) rfl (by decide) rfl w_4_154 (Or.inl rfl) (by decide +kernel)) (SndL.c (s_fail) (SndL.c (s_fail) (SndL.c (s_ic_eq (off := 12) (by decide +kernel) (by decide)) (SndL.c (s_fail) (SndL.c (s_fail) (SndL.c (s_aload (by decide +kernel)) (SndL.c (s_fail) (SndL.c (s_iconst (by decide +kernel) (in32_d (by decide))) (SndL.c (s_putf (k := 13) clok9 (by decide) rfl (by decide) rfl w_4_165 (Or.inl rfl) (Or.inl rfl) (by decide +kernel)) (SndL.c (s_fail) (SndL.c (s_fail) (SndL.c (s_iinc (by decide +kernel) (by decide)) (SndL.c (s_fail) (SndL.c (s_fail) (SndL.c (s_iinc (by decide +kernel) (by decide)) (SndL.n))))))))))))))))
def kX1_addKin_9 : List En := [(1, oFail), (1, oFail), (0, oGoto 31), (1, oFail), (1, oFail), (0, oIload 3 150), (0, oRetI)]
set_option maxRecDepth 20000 in
theorem zX1_addKin_9 : SndL mX1_addKin 144 kX1_addKin_9 := SndL.c (s_fail) (SndL.c (s_fail) (SndL.c (s_goto (off := -115) (by decide +kernel) (by decide)) (SndL.c (s_fail) (SndL.c (s_fail) (SndL.c (s_iload_n (k := 3) (by decide +kernel) rfl) (SndL.c (s_ret_i rfl (by decide +kernel)) (SndL.n)))))))
def kX1_addKin : Cd := [kX1_addKin_0, kX1_addKin_1, kX1_addKin_2, kX1_addKin_3, kX1_addKin_4, kX1_addKin_5, kX1_addKin_6, kX1_addKin_7, kX1_addKin_8, kX1_addKin_9]
theorem zX1_addKin : SndC mX1_addKin 0 kX1_addKin := SndC.c zX1_addKin_0 (by decide) (SndC.c zX1_addKin_1 (by decide) (SndC.c zX1_addKin_2 (by decide) (SndC.c zX1_addKin_3 (by decide) (SndC.c zX1_addKin_4 (by decide) (SndC.c zX1_addKin_5 (by decide) (SndC.c zX1_addKin_6 (by decide) (SndC.c zX1_addKin_7 (by decide) (SndC.c zX1_addKin_8 (by decide) (SndC.c zX1_addKin_9 (by decide) (SndC.n))))))))))
theorem aX1_addKin_0 : at_ kX1_addKin 0 = (0, oIload 1 1) := rfl
theorem aX1_addKin_1 : at_ kX1_addKin 1 = (0, oIfLt 12 4) := rfl
theorem aX1_addKin_4 : at_ kX1_addKin 4 = (0, oIload 1 5) := rfl
theorem aX1_addKin_5 : at_ kX1_addKin 5 = (0, oRload 0 6) := rfl
theorem aX1_addKin_6 : at_ kX1_addKin 6 = (0, oGetf 3 1 0 9) := rfl
theorem aX1_addKin_9 : at_ kX1_addKin 9 = (0, oIcLt 14 12) := rfl
theorem aX1_addKin_12 : at_ kX1_addKin 12 = (0, oPush (vI 0) 13) := rfl
theorem aX1_addKin_13 : at_ kX1_addKin 13 = (0, oRetI) := rfl
theorem aX1_addKin_14 : at_ kX1_addKin 14 = (0, oRload 0 15) := rfl
theorem aX1_addKin_15 : at_ kX1_addKin 15 = (0, oGetf 3 0 2 18) := rfl
theorem aX1_addKin_18 : at_ kX1_addKin 18 = (0, oIload 1 19) := rfl
theorem aX1_addKin_19 : at_ kX1_addKin 19 = (0, oDup2 20) := rfl
theorem aX1_addKin_20 : at_ kX1_addKin 20 = (0, oIald 21) := rfl
theorem aX1_addKin_21 : at_ kX1_addKin 21 = (0, oPush (vI 1) 22) := rfl
theorem aX1_addKin_22 : at_ kX1_addKin 22 = (0, oIload 2 23) := rfl
theorem aX1_addKin_23 : at_ kX1_addKin 23 = (0, oIshl 24) := rfl
theorem aX1_addKin_24 : at_ kX1_addKin 24 = (0, oIor 25) := rfl
theorem aX1_addKin_25 : at_ kX1_addKin 25 = (0, oIast 26) := rfl
theorem aX1_addKin_26 : at_ kX1_addKin 26 = (0, oPush (vI 0) 27) := rfl
theorem aX1_addKin_27 : at_ kX1_addKin 27 = (0, oIstore 3 28) := rfl
theorem aX1_addKin_28 : at_ kX1_addKin 28 = (0, oPush (vI 0) 29) := rfl
theorem aX1_addKin_29 : at_ kX1_addKin 29 = (0, oIstore 4 31) := rfl
theorem aX1_addKin_31 : at_ kX1_addKin 31 = (1, oIload 4 33) := rfl
theorem aX1_addKin_33 : at_ kX1_addKin 33 = (0, oRload 0 34) := rfl
theorem aX1_addKin_34 : at_ kX1_addKin 34 = (0, oGetf 3 2 2 37) := rfl
theorem aX1_addKin_37 : at_ kX1_addKin 37 = (2, oInvV 1 mJx4a65c_size_8abf5 0 40) := rfl
theorem aX1_addKin_40 : at_ kX1_addKin 40 = (0, oIcGe 149 43) := rfl
theorem aX1_addKin_43 : at_ kX1_addKin 43 = (0, oRload 0 44) := rfl
theorem aX1_addKin_44 : at_ kX1_addKin 44 = (0, oGetf 3 2 2 47) := rfl
theorem aX1_addKin_47 : at_ kX1_addKin 47 = (0, oIload 4 49) := rfl
theorem aX1_addKin_49 : at_ kX1_addKin 49 = (2, oInvV 1 mJx4a65c_get_915e3 1 52) := rfl
theorem aX1_addKin_52 : at_ kX1_addKin 52 = (0, oCast 10 55) := rfl
theorem aX1_addKin_55 : at_ kX1_addKin 55 = (0, oRstore 5 57) := rfl
theorem aX1_addKin_57 : at_ kX1_addKin 57 = (0, oRload 5 59) := rfl
theorem aX1_addKin_59 : at_ kX1_addKin 59 = (0, oGetf 10 6 0 62) := rfl
theorem aX1_addKin_62 : at_ kX1_addKin 62 = (0, oRload 5 64) := rfl
theorem aX1_addKin_64 : at_ kX1_addKin 64 = (0, oGetf 10 7 0 67) := rfl
theorem aX1_addKin_67 : at_ kX1_addKin 67 = (0, oIor 68) := rfl
theorem aX1_addKin_68 : at_ kX1_addKin 68 = (0, oIstore 6 70) := rfl
theorem aX1_addKin_70 : at_ kX1_addKin 70 = (0, oRload 5 72) := rfl
theorem aX1_addKin_72 : at_ kX1_addKin 72 = (0, oGetf 10 13 0 75) := rfl
theorem aX1_addKin_75 : at_ kX1_addKin 75 = (0, oIfNe 101 78) := rfl
theorem aX1_addKin_78 : at_ kX1_addKin 78 = (0, oRload 5 80) := rfl
theorem aX1_addKin_80 : at_ kX1_addKin 80 = (0, oGetf 10 0 0 83) := rfl
theorem aX1_addKin_83 : at_ kX1_addKin 83 = (0, oIload 2 84) := rfl
theorem aX1_addKin_84 : at_ kX1_addKin 84 = (0, oIcNe 101 87) := rfl
theorem aX1_addKin_87 : at_ kX1_addKin 87 = (0, oIload 6 89) := rfl
theorem aX1_addKin_89 : at_ kX1_addKin 89 = (0, oIload 1 90) := rfl
theorem aX1_addKin_90 : at_ kX1_addKin 90 = (0, oIushr 91) := rfl
theorem aX1_addKin_91 : at_ kX1_addKin 91 = (0, oPush (vI 1) 92) := rfl
theorem aX1_addKin_92 : at_ kX1_addKin 92 = (0, oIand 93) := rfl
theorem aX1_addKin_93 : at_ kX1_addKin 93 = (0, oPush (vI 1) 94) := rfl
theorem aX1_addKin_94 : at_ kX1_addKin 94 = (0, oIcNe 101 97) := rfl
theorem aX1_addKin_97 : at_ kX1_addKin 97 = (0, oPush (vI 1) 98) := rfl
theorem aX1_addKin_98 : at_ kX1_addKin 98 = (0, oGoto 102) := rfl
theorem aX1_addKin_101 : at_ kX1_addKin 101 = (0, oPush (vI 0) 102) := rfl
theorem aX1_addKin_102 : at_ kX1_addKin 102 = (0, oIstore 7 104) := rfl
theorem aX1_addKin_104 : at_ kX1_addKin 104 = (0, oIload 7 106) := rfl
theorem aX1_addKin_106 : at_ kX1_addKin 106 = (0, oIfEq 143 109) := rfl
theorem aX1_addKin_109 : at_ kX1_addKin 109 = (0, oRload 0 110) := rfl
theorem aX1_addKin_110 : at_ kX1_addKin 110 = (0, oIload 6 112) := rfl
theorem aX1_addKin_112 : at_ kX1_addKin 112 = (0, oIload 2 113) := rfl
theorem aX1_addKin_113 : at_ kX1_addKin 113 = (2, oInvV 3 mX1_countOf 2 116) := rfl
theorem aX1_addKin_116 : at_ kX1_addKin 116 = (0, oPush (vI 3) 117) := rfl
theorem aX1_addKin_117 : at_ kX1_addKin 117 = (0, oIcLt 134 120) := rfl
theorem aX1_addKin_120 : at_ kX1_addKin 120 = (0, oRload 0 121) := rfl
theorem aX1_addKin_121 : at_ kX1_addKin 121 = (0, oRload 5 123) := rfl
theorem aX1_addKin_123 : at_ kX1_addKin 123 = (2, oInvV 3 mX1_wouldBar 1 126) := rfl
theorem aX1_addKin_126 : at_ kX1_addKin 126 = (0, oRload 5 128) := rfl
theorem aX1_addKin_128 : at_ kX1_addKin 128 = (0, oGetf 10 9 3 131) := rfl
theorem aX1_addKin_131 : at_ kX1_addKin 131 = (0, oIcEq 143 134) := rfl
theorem aX1_addKin_134 : at_ kX1_addKin 134 = (0, oRload 5 136) := rfl
theorem aX1_addKin_136 : at_ kX1_addKin 136 = (0, oPush (vI 1) 137) := rfl
theorem aX1_addKin_137 : at_ kX1_addKin 137 = (0, oPutf 10 13 0 140) := rfl
theorem aX1_addKin_140 : at_ kX1_addKin 140 = (0, oIinc 3 1 143) := rfl
theorem aX1_addKin_143 : at_ kX1_addKin 143 = (0, oIinc 4 1 146) := rfl
theorem aX1_addKin_146 : at_ kX1_addKin 146 = (0, oGoto 31) := rfl
theorem aX1_addKin_149 : at_ kX1_addKin 149 = (0, oIload 3 150) := rfl
theorem aX1_addKin_150 : at_ kX1_addKin 150 = (0, oRetI) := rfl
def kX1_rulingOf_0 : List En := [(0, oIload 1 1), (0, oIfLt 29 4), (1, oFail), (1, oFail), (0, oIload 1 5), (0, oRload 0 6), (0, oGetf 3 2 2 9), (1, oFail), (1, oFail), (2, oInvV 1 mJx4a65c_size_8abf5 0 12), (1, oFail), (1, oFail), (0, oIcGe 29 15), (1, oFail), (1, oFail), (0, oRload 0 16)]
set_option maxRecDepth 20000 in
theorem zX1_rulingOf_0 : SndL mX1_rulingOf 0 kX1_rulingOf_0 := SndL.c (s_iload_n (k := 1) (by decide +kernel) rfl) (SndL.c (s_if_lt (off := 28) (by decide +kernel) (by decide)) (SndL.c (s_fail) (SndL.c (s_fail) (SndL.c (s_iload_n (k := 1) (by decide +kernel) rfl) (SndL.c (s_aload_n (k := 0) (by decide +kernel) rfl) (SndL.c (s_getf (k := 2) clok2 (by decide) rfl (by decide) rfl w_1_95 (Or.inl rfl) (by decide +kernel)) (SndL.c (s_fail) (SndL.c (s_fail) (SndL.c (s_invV (r := (RJx4a65c, TJx4a65c, 3)) (ci := 0) okJx4a65c_size_8abf5 rfl (by decide) rfl rfl w_3_138 w_2_64 w_2_65 (by decide +kernel)) (SndL.c (s_fail) (SndL.c (s_fail) (SndL.c (s_ic_ge (off := 17) (by decide +kernel) (by decide)) (SndL.c (s_fail) (SndL.c (s_fail) (SndL.c (s_aload_n (k := 0) (by decide +kernel) rfl) (SndL.n))))))))))))))))
def kX1_rulingOf_1 : List En := [(0, oGetf 3 2 2 19), (1, oFail), (1, oFail), (0, oIload 1 20), (2, oInvV 1 mJx4a65c_get_915e3 1 23), (1, oFail), (1, oFail), (0, oCast 10 26), (1, oFail), (1, oFail), (0, oGoto 30), (1, oFail), (1, oFail), (0, oPush (vR 0) 30), (0, oRetA)]
set_option maxRecDepth 20000 in
theorem zX1_rulingOf_1 : SndL mX1_rulingOf 16 kX1_rulingOf_1 := SndL.c (s_getf (k := 2) clok2 (by decide) rfl (by decide) rfl w_1_95 (Or.inl rfl) (by decide +kernel)) (SndL.c (s_fail) (SndL.c (s_fail) (SndL.c (s_iload_n (k := 1) (by decide +kernel) rfl) (SndL.c (s_invV (r := (RJx4a65c, TJx4a65c, 3)) (ci := 0) okJx4a65c_get_915e3 rfl (by decide) rfl rfl w_3_139 w_2_192 w_2_193 (by decide +kernel)) (SndL.c (s_fail) (SndL.c (s_fail) (SndL.c (s_cast (r := (RX8, TX8, 14)) (ci := 9) rfl (by decide) rfl w_3_140 (by decide +kernel)) (SndL.c (s_fail) (SndL.c (s_fail) (SndL.c (s_goto (off := 4) (by decide +kernel) (by decide)) (SndL.c (s_fail) (SndL.c (s_fail) (SndL.c (s_null (by decide +kernel)) (SndL.c (s_ret_a rfl (Or.inl ⟨_, rfl⟩) (by decide +kernel)) (SndL.n)))))))))))))))
def kX1_rulingOf : Cd := [kX1_rulingOf_0, kX1_rulingOf_1]
theorem zX1_rulingOf : SndC mX1_rulingOf 0 kX1_rulingOf := SndC.c zX1_rulingOf_0 (by decide) (SndC.c zX1_rulingOf_1 (by decide) (SndC.n))
theorem aX1_rulingOf_0 : at_ kX1_rulingOf 0 = (0, oIload 1 1) := rfl
theorem aX1_rulingOf_1 : at_ kX1_rulingOf 1 = (0, oIfLt 29 4) := rfl
theorem aX1_rulingOf_4 : at_ kX1_rulingOf 4 = (0, oIload 1 5) := rfl
theorem aX1_rulingOf_5 : at_ kX1_rulingOf 5 = (0, oRload 0 6) := rfl
theorem aX1_rulingOf_6 : at_ kX1_rulingOf 6 = (0, oGetf 3 2 2 9) := rfl
theorem aX1_rulingOf_9 : at_ kX1_rulingOf 9 = (2, oInvV 1 mJx4a65c_size_8abf5 0 12) := rfl
theorem aX1_rulingOf_12 : at_ kX1_rulingOf 12 = (0, oIcGe 29 15) := rfl
theorem aX1_rulingOf_15 : at_ kX1_rulingOf 15 = (0, oRload 0 16) := rfl
theorem aX1_rulingOf_16 : at_ kX1_rulingOf 16 = (0, oGetf 3 2 2 19) := rfl
theorem aX1_rulingOf_19 : at_ kX1_rulingOf 19 = (0, oIload 1 20) := rfl
theorem aX1_rulingOf_20 : at_ kX1_rulingOf 20 = (2, oInvV 1 mJx4a65c_get_915e3 1 23) := rfl
theorem aX1_rulingOf_23 : at_ kX1_rulingOf 23 = (0, oCast 10 26) := rfl
theorem aX1_rulingOf_26 : at_ kX1_rulingOf 26 = (0, oGoto 30) := rfl
theorem aX1_rulingOf_29 : at_ kX1_rulingOf 29 = (0, oPush (vR 0) 30) := rfl
theorem aX1_rulingOf_30 : at_ kX1_rulingOf 30 = (0, oRetA) := rfl
def kX1_isSaidAgain_0 : List En := [(0, oPush (vI 0) 1), (0, oIstore 5 3), (1, oFail), (1, oIload 5 5), (1, oFail), (0, oRload 0 6), (0, oGetf 3 2 2 9), (1, oFail), (1, oFail), (2, oInvV 1 mJx4a65c_size_8abf5 0 12), (1, oFail), (1, oFail), (0, oIcGe 109 15), (1, oFail), (1, oFail), (0, oRload 0 16)]
set_option maxRecDepth 20000 in
theorem zX1_isSaidAgain_0 : SndL mX1_isSaidAgain 0 kX1_isSaidAgain_0 := SndL.c (s_iconst (by decide +kernel) (in32_d (by decide))) (SndL.c (s_istore (by decide +kernel) (by decide)) (SndL.c (s_fail) (SndL.c (s_iload (by decide +kernel)) (SndL.c (s_fail) (SndL.c (s_aload_n (k := 0) (by decide +kernel) rfl) (SndL.c (s_getf (k := 2) clok2 (by decide) rfl (by decide) rfl w_1_95 (Or.inl rfl) (by decide +kernel)) (SndL.c (s_fail) (SndL.c (s_fail) (SndL.c (s_invV (r := (RJx4a65c, TJx4a65c, 3)) (ci := 0) okJx4a65c_size_8abf5 rfl (by decide) rfl rfl w_3_138 w_2_64 w_2_65 (by decide +kernel)) (SndL.c (s_fail) (SndL.c (s_fail) (SndL.c (s_ic_ge (off := 97) (by decide +kernel) (by decide)) (SndL.c (s_fail) (SndL.c (s_fail) (SndL.c (s_aload_n (k := 0) (by decide +kernel) rfl) (SndL.n))))))))))))))))
def kX1_isSaidAgain_1 : List En := [(0, oGetf 3 2 2 19), (1, oFail), (1, oFail), (0, oIload 5 21), (1, oFail), (2, oInvV 1 mJx4a65c_get_915e3 1 24), (1, oFail), (1, oFail), (0, oCast 10 27), (1, oFail), (1, oFail), (0, oRstore 6 29), (1, oFail), (0, oRload 6 31), (1, oFail), (2, oInvV 10 mX8_standsAndBars 0 34)]
set_option maxRecDepth 20000 in
theorem zX1_isSaidAgain_1 : SndL mX1_isSaidAgain 16 kX1_isSaidAgain_1 := SndL.c (s_getf (k := 2) clok2 (by decide) rfl (by decide) rfl w_1_95 (Or.inl rfl) (by decide +kernel)) (SndL.c (s_fail) (SndL.c (s_fail) (SndL.c (s_iload (by decide +kernel)) (SndL.c (s_fail) (SndL.c (s_invV (r := (RJx4a65c, TJx4a65c, 3)) (ci := 0) okJx4a65c_get_915e3 rfl (by decide) rfl rfl w_3_139 w_2_192 w_2_193 (by decide +kernel)) (SndL.c (s_fail) (SndL.c (s_fail) (SndL.c (s_cast (r := (RX8, TX8, 14)) (ci := 9) rfl (by decide) rfl w_3_140 (by decide +kernel)) (SndL.c (s_fail) (SndL.c (s_fail) (SndL.c (s_astore (by decide +kernel) (by decide)) (SndL.c (s_fail) (SndL.c (s_aload (by decide +kernel)) (SndL.c (s_fail) (SndL.c (s_invV (r := (RX8, TX8, 14)) (ci := 9) okX8_standsAndBars rfl (by decide) rfl rfl w_3_141 w_3_142 w_3_143 (by decide +kernel)) (SndL.n))))))))))))))))
def kX1_isSaidAgain_2 : List En := [(1, oFail), (1, oFail), (0, oIfEq 103 37), (1, oFail), (1, oFail), (0, oRload 6 39), (1, oFail), (0, oGetf 10 0 0 42), (1, oFail), (1, oFail), (0, oIload 1 43), (0, oIcNe 103 46), (1, oFail), (1, oFail), (0, oRload 6 48), (1, oFail)]
set_option maxRecDepth 20000 in
theorem zX1_isSaidAgain_2 : SndL mX1_isSaidAgain 32 kX1_isSaidAgain_2 := SndL.c (s_fail) (SndL.c (s_fail) (SndL.c (s_if_eq (off := 69) (by decide +kernel) (by decide)) (SndL.c (s_fail) (SndL.c (s_fail) (SndL.c (s_aload (by decide +kernel)) (SndL.c (s_fail) (SndL.c (s_getf (k := 0) clok9 (by decide) rfl (by decide) rfl w_4_130 (Or.inl rfl) (by decide +kernel)) (SndL.c (s_fail) (SndL.c (s_fail) (SndL.c (s_iload_n (k := 1) (by decide +kernel) rfl) (SndL.c (s_ic_ne (off := 60) (by decide +kernel) (by decide)) (SndL.c (s_fail) (SndL.c (s_fail) (SndL.c (s_aload (by decide +kernel)) (SndL.c (s_fail) (SndL.n))))))))))))))))
def kX1_isSaidAgain_3 : List En := [(0, oGetf 10 2 0 51), (1, oFail), (1, oFail), (0, oRload 2 52), (0, oGetf 4 2 0 55), (1, oFail), (1, oFail), (0, oIcNe 103 58), (1, oFail), (1, oFail), (0, oRload 6 60), (1, oFail), (0, oGetf 10 3 0 63), (1, oFail), (1, oFail), (0, oRload 2 64)]
set_option maxRecDepth 20000 in
theorem zX1_isSaidAgain_3 : SndL mX1_isSaidAgain 48 kX1_isSaidAgain_3 := SndL.c (s_getf (k := 2) clok9 (by decide) rfl (by decide) rfl w_4_136 (Or.inl rfl) (by decide +kernel)) (SndL.c (s_fail) (SndL.c (s_fail) (SndL.c (s_aload_n (k := 2) (by decide +kernel) rfl) (SndL.c (s_getf (k := 2) clok3 (by decide) rfl (by decide) rfl w_3_10 (Or.inl rfl) (by decide +kernel)) (SndL.c (s_fail) (SndL.c (s_fail) (SndL.c (s_ic_ne (off := 48) (by decide +kernel) (by decide)) (SndL.c (s_fail) (SndL.c (s_fail) (SndL.c (s_aload (by decide +kernel)) (SndL.c (s_fail) (SndL.c (s_getf (k := 3) clok9 (by decide) rfl (by decide) rfl w_4_139 (Or.inl rfl) (by decide +kernel)) (SndL.c (s_fail) (SndL.c (s_fail) (SndL.c (s_aload_n (k := 2) (by decide +kernel) rfl) (SndL.n))))))))))))))))
def kX1_isSaidAgain_4 : List En := [(0, oGetf 4 3 0 67), (1, oFail), (1, oFail), (0, oIcNe 103 70), (1, oFail), (1, oFail), (0, oRload 6 72), (1, oFail), (0, oGetf 10 4 0 75), (1, oFail), (1, oFail), (0, oRload 2 76), (0, oGetf 4 4 0 79), (1, oFail), (1, oFail), (0, oIcGt 103 82)]
set_option maxRecDepth 20000 in
theorem zX1_isSaidAgain_4 : SndL mX1_isSaidAgain 64 kX1_isSaidAgain_4 := SndL.c (s_getf (k := 3) clok3 (by decide) rfl (by decide) rfl w_3_15 (Or.inl rfl) (by decide +kernel)) (SndL.c (s_fail) (SndL.c (s_fail) (SndL.c (s_ic_ne (off := 36) (by decide +kernel) (by decide)) (SndL.c (s_fail) (SndL.c (s_fail) (SndL.c (s_aload (by decide +kernel)) (SndL.c (s_fail) (SndL.c (s_getf (k := 4) clok9 (by decide) rfl (by decide) rfl w_4_142 (Or.inl rfl) (by decide +kernel)) (SndL.c (s_fail) (SndL.c (s_fail) (SndL.c (s_aload_n (k := 2) (by decide +kernel) rfl) (SndL.c (s_getf (k := 4) clok3 (by decide) rfl (by decide) rfl w_3_20 (Or.inl rfl) (by decide +kernel)) (SndL.c (s_fail) (SndL.c (s_fail) (SndL.c (s_ic_gt (off := 24) (by decide +kernel) (by decide)) (SndL.n))))))))))))))))
def kX1_isSaidAgain_5 : List En := [(1, oFail), (1, oFail), (0, oRload 6 84), (1, oFail), (0, oGetf 10 5 0 87), (1, oFail), (1, oFail), (0, oIload 3 88), (0, oIcGt 103 91), (1, oFail), (1, oFail), (0, oRload 6 93), (1, oFail), (0, oGetf 10 5 0 96), (1, oFail), (1, oFail)]
set_option maxRecDepth 20000 in
theorem zX1_isSaidAgain_5 : SndL mX1_isSaidAgain 80 kX1_isSaidAgain_5 := SndL.c (s_fail) (SndL.c (s_fail) (SndL.c (s_aload (by decide +kernel)) (SndL.c (s_fail) (SndL.c (s_getf (k := 5) clok9 (by decide) rfl (by decide) rfl w_4_145 (Or.inl rfl) (by decide +kernel)) (SndL.c (s_fail) (SndL.c (s_fail) (SndL.c (s_iload_n (k := 3) (by decide +kernel) rfl) (SndL.c (s_ic_gt (off := 15) (by decide +kernel) (by decide)) (SndL.c (s_fail) (SndL.c (s_fail) (SndL.c (s_aload (by decide +kernel)) (SndL.c (s_fail) (SndL.c (s_getf (k := 5) clok9 (by decide) rfl (by decide) rfl w_4_145 (Or.inl rfl) (by decide +kernel)) (SndL.c (s_fail) (SndL.c (s_fail) (SndL.n))))))))))))))))
def kX1_isSaidAgain_6 : List En := [(0, oIload 4 98), (1, oFail), (0, oIcGt 103 101), (1, oFail), (1, oFail), (0, oPush (vI 1) 102), (0, oRetZ), (0, oIinc 5 1 106), (1, oFail), (1, oFail), (0, oGoto 3), (1, oFail), (1, oFail), (0, oPush (vI 0) 110), (0, oRetZ)]
set_option maxRecDepth 20000 in
theorem zX1_isSaidAgain_6 : SndL mX1_isSaidAgain 96 kX1_isSaidAgain_6 := SndL.c (s_iload (by decide +kernel)) (SndL.c (s_fail) (SndL.c (s_ic_gt (off := 5) (by decide +kernel) (by decide)) (SndL.c (s_fail) (SndL.c (s_fail) (SndL.c (s_iconst (by decide +kernel) (in32_d (by decide))) (SndL.c (s_ret_z rfl (by decide +kernel)) (SndL.c (s_iinc (by decide +kernel) (by decide)) (SndL.c (s_fail) (SndL.c (s_fail) (SndL.c (s_goto (off := -103) (by decide +kernel) (by decide)) (SndL.c (s_fail) (SndL.c (s_fail) (SndL.c (s_iconst (by decide +kernel) (in32_d (by decide))) (SndL.c (s_ret_z rfl (by decide +kernel)) (SndL.n)))))))))))))))
def kX1_isSaidAgain : Cd := [kX1_isSaidAgain_0, kX1_isSaidAgain_1, kX1_isSaidAgain_2, kX1_isSaidAgain_3, kX1_isSaidAgain_4, kX1_isSaidAgain_5, kX1_isSaidAgain_6]
theorem zX1_isSaidAgain : SndC mX1_isSaidAgain 0 kX1_isSaidAgain := SndC.c zX1_isSaidAgain_0 (by decide) (SndC.c zX1_isSaidAgain_1 (by decide) (SndC.c zX1_isSaidAgain_2 (by decide) (SndC.c zX1_isSaidAgain_3 (by decide) (SndC.c zX1_isSaidAgain_4 (by decide) (SndC.c zX1_isSaidAgain_5 (by decide) (SndC.c zX1_isSaidAgain_6 (by decide) (SndC.n)))))))
theorem aX1_isSaidAgain_0 : at_ kX1_isSaidAgain 0 = (0, oPush (vI 0) 1) := rfl
theorem aX1_isSaidAgain_1 : at_ kX1_isSaidAgain 1 = (0, oIstore 5 3) := rfl
theorem aX1_isSaidAgain_3 : at_ kX1_isSaidAgain 3 = (1, oIload 5 5) := rfl
theorem aX1_isSaidAgain_5 : at_ kX1_isSaidAgain 5 = (0, oRload 0 6) := rfl
theorem aX1_isSaidAgain_6 : at_ kX1_isSaidAgain 6 = (0, oGetf 3 2 2 9) := rfl
theorem aX1_isSaidAgain_9 : at_ kX1_isSaidAgain 9 = (2, oInvV 1 mJx4a65c_size_8abf5 0 12) := rfl
theorem aX1_isSaidAgain_12 : at_ kX1_isSaidAgain 12 = (0, oIcGe 109 15) := rfl
theorem aX1_isSaidAgain_15 : at_ kX1_isSaidAgain 15 = (0, oRload 0 16) := rfl
theorem aX1_isSaidAgain_16 : at_ kX1_isSaidAgain 16 = (0, oGetf 3 2 2 19) := rfl
theorem aX1_isSaidAgain_19 : at_ kX1_isSaidAgain 19 = (0, oIload 5 21) := rfl
theorem aX1_isSaidAgain_21 : at_ kX1_isSaidAgain 21 = (2, oInvV 1 mJx4a65c_get_915e3 1 24) := rfl
theorem aX1_isSaidAgain_24 : at_ kX1_isSaidAgain 24 = (0, oCast 10 27) := rfl
theorem aX1_isSaidAgain_27 : at_ kX1_isSaidAgain 27 = (0, oRstore 6 29) := rfl
theorem aX1_isSaidAgain_29 : at_ kX1_isSaidAgain 29 = (0, oRload 6 31) := rfl
theorem aX1_isSaidAgain_31 : at_ kX1_isSaidAgain 31 = (2, oInvV 10 mX8_standsAndBars 0 34) := rfl
theorem aX1_isSaidAgain_34 : at_ kX1_isSaidAgain 34 = (0, oIfEq 103 37) := rfl
theorem aX1_isSaidAgain_37 : at_ kX1_isSaidAgain 37 = (0, oRload 6 39) := rfl
theorem aX1_isSaidAgain_39 : at_ kX1_isSaidAgain 39 = (0, oGetf 10 0 0 42) := rfl
theorem aX1_isSaidAgain_42 : at_ kX1_isSaidAgain 42 = (0, oIload 1 43) := rfl
theorem aX1_isSaidAgain_43 : at_ kX1_isSaidAgain 43 = (0, oIcNe 103 46) := rfl
theorem aX1_isSaidAgain_46 : at_ kX1_isSaidAgain 46 = (0, oRload 6 48) := rfl
theorem aX1_isSaidAgain_48 : at_ kX1_isSaidAgain 48 = (0, oGetf 10 2 0 51) := rfl
theorem aX1_isSaidAgain_51 : at_ kX1_isSaidAgain 51 = (0, oRload 2 52) := rfl
theorem aX1_isSaidAgain_52 : at_ kX1_isSaidAgain 52 = (0, oGetf 4 2 0 55) := rfl
theorem aX1_isSaidAgain_55 : at_ kX1_isSaidAgain 55 = (0, oIcNe 103 58) := rfl
theorem aX1_isSaidAgain_58 : at_ kX1_isSaidAgain 58 = (0, oRload 6 60) := rfl
theorem aX1_isSaidAgain_60 : at_ kX1_isSaidAgain 60 = (0, oGetf 10 3 0 63) := rfl
theorem aX1_isSaidAgain_63 : at_ kX1_isSaidAgain 63 = (0, oRload 2 64) := rfl
theorem aX1_isSaidAgain_64 : at_ kX1_isSaidAgain 64 = (0, oGetf 4 3 0 67) := rfl
theorem aX1_isSaidAgain_67 : at_ kX1_isSaidAgain 67 = (0, oIcNe 103 70) := rfl
theorem aX1_isSaidAgain_70 : at_ kX1_isSaidAgain 70 = (0, oRload 6 72) := rfl
theorem aX1_isSaidAgain_72 : at_ kX1_isSaidAgain 72 = (0, oGetf 10 4 0 75) := rfl
theorem aX1_isSaidAgain_75 : at_ kX1_isSaidAgain 75 = (0, oRload 2 76) := rfl
theorem aX1_isSaidAgain_76 : at_ kX1_isSaidAgain 76 = (0, oGetf 4 4 0 79) := rfl
theorem aX1_isSaidAgain_79 : at_ kX1_isSaidAgain 79 = (0, oIcGt 103 82) := rfl
theorem aX1_isSaidAgain_82 : at_ kX1_isSaidAgain 82 = (0, oRload 6 84) := rfl
theorem aX1_isSaidAgain_84 : at_ kX1_isSaidAgain 84 = (0, oGetf 10 5 0 87) := rfl
theorem aX1_isSaidAgain_87 : at_ kX1_isSaidAgain 87 = (0, oIload 3 88) := rfl
theorem aX1_isSaidAgain_88 : at_ kX1_isSaidAgain 88 = (0, oIcGt 103 91) := rfl
theorem aX1_isSaidAgain_91 : at_ kX1_isSaidAgain 91 = (0, oRload 6 93) := rfl
theorem aX1_isSaidAgain_93 : at_ kX1_isSaidAgain 93 = (0, oGetf 10 5 0 96) := rfl
theorem aX1_isSaidAgain_96 : at_ kX1_isSaidAgain 96 = (0, oIload 4 98) := rfl
theorem aX1_isSaidAgain_98 : at_ kX1_isSaidAgain 98 = (0, oIcGt 103 101) := rfl
theorem aX1_isSaidAgain_101 : at_ kX1_isSaidAgain 101 = (0, oPush (vI 1) 102) := rfl
theorem aX1_isSaidAgain_102 : at_ kX1_isSaidAgain 102 = (0, oRetZ) := rfl
theorem aX1_isSaidAgain_103 : at_ kX1_isSaidAgain 103 = (0, oIinc 5 1 106) := rfl
theorem aX1_isSaidAgain_106 : at_ kX1_isSaidAgain 106 = (0, oGoto 3) := rfl
theorem aX1_isSaidAgain_109 : at_ kX1_isSaidAgain 109 = (0, oPush (vI 0) 110) := rfl
theorem aX1_isSaidAgain_110 : at_ kX1_isSaidAgain 110 = (0, oRetZ) := rfl
def kX1_likeAt_0 : List En := [(0, oPush (vI 0) 1), (0, oIstore 3 2), (0, oPush (vI 0) 3), (0, oIstore 4 5), (1, oFail), (1, oIload 4 7), (1, oFail), (0, oRload 0 8), (0, oGetf 3 2 2 11), (1, oFail), (1, oFail), (2, oInvV 1 mJx4a65c_size_8abf5 0 14), (1, oFail), (1, oFail), (0, oIcGe 53 17), (1, oFail)]
set_option maxRecDepth 20000 in
theorem zX1_likeAt_0 : SndL mX1_likeAt 0 kX1_likeAt_0 := SndL.c (s_iconst (by decide +kernel) (in32_d (by decide))) (SndL.c (s_istore_n (k := 3) (by decide +kernel) rfl (by decide)) (SndL.c (s_iconst (by decide +kernel) (in32_d (by decide))) (SndL.c (s_istore (by decide +kernel) (by decide)) (SndL.c (s_fail) (SndL.c (s_iload (by decide +kernel)) (SndL.c (s_fail) (SndL.c (s_aload_n (k := 0) (by decide +kernel) rfl) (SndL.c (s_getf (k := 2) clok2 (by decide) rfl (by decide) rfl w_1_95 (Or.inl rfl) (by decide +kernel)) (SndL.c (s_fail) (SndL.c (s_fail) (SndL.c (s_invV (r := (RJx4a65c, TJx4a65c, 3)) (ci := 0) okJx4a65c_size_8abf5 rfl (by decide) rfl rfl w_3_138 w_2_64 w_2_65 (by decide +kernel)) (SndL.c (s_fail) (SndL.c (s_fail) (SndL.c (s_ic_ge (off := 39) (by decide +kernel) (by decide)) (SndL.c (s_fail) (SndL.n))))))))))))))))
def kX1_likeAt_1 : List En := [(1, oFail), (0, oRload 0 18), (0, oGetf 3 2 2 21), (1, oFail), (1, oFail), (0, oIload 4 23), (1, oFail), (2, oInvV 1 mJx4a65c_get_915e3 1 26), (1, oFail), (1, oFail), (0, oCast 10 29), (1, oFail), (1, oFail), (0, oRload 1 30), (2, oInvV 10 mX8_isLike 1 33), (1, oFail)]
set_option maxRecDepth 20000 in
theorem zX1_likeAt_1 : SndL mX1_likeAt 16 kX1_likeAt_1 := SndL.c (s_fail) (SndL.c (s_aload_n (k := 0) (by decide +kernel) rfl) (SndL.c (s_getf (k := 2) clok2 (by decide) rfl (by decide) rfl w_1_95 (Or.inl rfl) (by decide +kernel)) (SndL.c (s_fail) (SndL.c (s_fail) (SndL.c (s_iload (by decide +kernel)) (SndL.c (s_fail) (SndL.c (s_invV (r := (RJx4a65c, TJx4a65c, 3)) (ci := 0) okJx4a65c_get_915e3 rfl (by decide) rfl rfl w_3_139 w_2_192 w_2_193 (by decide +kernel)) (SndL.c (s_fail) (SndL.c (s_fail) (SndL.c (s_cast (r := (RX8, TX8, 14)) (ci := 9) rfl (by decide) rfl w_3_140 (by decide +kernel)) (SndL.c (s_fail) (SndL.c (s_fail) (SndL.c (s_aload_n (k := 1) (by decide +kernel) rfl) (SndL.c (s_invV (r := (RX8, TX8, 14)) (ci := 9) okX8_isLike rfl (by decide) rfl rfl w_4_205 w_4_206 w_4_207 (by decide +kernel)) (SndL.c (s_fail) (SndL.n))))))))))))))))
def kX1_likeAt_2 : List En := [(1, oFail), (0, oIfEq 47 36), (1, oFail), (1, oFail), (0, oIload 3 37), (0, oIload 2 38), (0, oIcNe 44 41), (1, oFail), (1, oFail), (0, oIload 4 43), (1, oFail), (0, oRetI), (0, oIinc 3 1 47), (1, oFail), (1, oFail), (0, oIinc 4 1 50)]
set_option maxRecDepth 20000 in
theorem zX1_likeAt_2 : SndL mX1_likeAt 32 kX1_likeAt_2 := SndL.c (s_fail) (SndL.c (s_if_eq (off := 14) (by decide +kernel) (by decide)) (SndL.c (s_fail) (SndL.c (s_fail) (SndL.c (s_iload_n (k := 3) (by decide +kernel) rfl) (SndL.c (s_iload_n (k := 2) (by decide +kernel) rfl) (SndL.c (s_ic_ne (off := 6) (by decide +kernel) (by decide)) (SndL.c (s_fail) (SndL.c (s_fail) (SndL.c (s_iload (by decide +kernel)) (SndL.c (s_fail) (SndL.c (s_ret_i rfl (by decide +kernel)) (SndL.c (s_iinc (by decide +kernel) (by decide)) (SndL.c (s_fail) (SndL.c (s_fail) (SndL.c (s_iinc (by decide +kernel) (by decide)) (SndL.n))))))))))))))))
def kX1_likeAt_3 : List En := [(1, oFail), (1, oFail), (0, oGoto 5), (1, oFail), (1, oFail), (0, oPush (vI (-1)) 54), (0, oRetI)]
set_option maxRecDepth 20000 in
theorem zX1_likeAt_3 : SndL mX1_likeAt 48 kX1_likeAt_3 := SndL.c (s_fail) (SndL.c (s_fail) (SndL.c (s_goto (off := -45) (by decide +kernel) (by decide)) (SndL.c (s_fail) (SndL.c (s_fail) (SndL.c (s_iconst (by decide +kernel) (in32_d (by decide))) (SndL.c (s_ret_i rfl (by decide +kernel)) (SndL.n)))))))
def kX1_likeAt : Cd := [kX1_likeAt_0, kX1_likeAt_1, kX1_likeAt_2, kX1_likeAt_3]
theorem zX1_likeAt : SndC mX1_likeAt 0 kX1_likeAt := SndC.c zX1_likeAt_0 (by decide) (SndC.c zX1_likeAt_1 (by decide) (SndC.c zX1_likeAt_2 (by decide) (SndC.c zX1_likeAt_3 (by decide) (SndC.n))))
theorem aX1_likeAt_0 : at_ kX1_likeAt 0 = (0, oPush (vI 0) 1) := rfl
theorem aX1_likeAt_1 : at_ kX1_likeAt 1 = (0, oIstore 3 2) := rfl
theorem aX1_likeAt_2 : at_ kX1_likeAt 2 = (0, oPush (vI 0) 3) := rfl
theorem aX1_likeAt_3 : at_ kX1_likeAt 3 = (0, oIstore 4 5) := rfl
theorem aX1_likeAt_5 : at_ kX1_likeAt 5 = (1, oIload 4 7) := rfl
theorem aX1_likeAt_7 : at_ kX1_likeAt 7 = (0, oRload 0 8) := rfl
theorem aX1_likeAt_8 : at_ kX1_likeAt 8 = (0, oGetf 3 2 2 11) := rfl
theorem aX1_likeAt_11 : at_ kX1_likeAt 11 = (2, oInvV 1 mJx4a65c_size_8abf5 0 14) := rfl
theorem aX1_likeAt_14 : at_ kX1_likeAt 14 = (0, oIcGe 53 17) := rfl
theorem aX1_likeAt_17 : at_ kX1_likeAt 17 = (0, oRload 0 18) := rfl
theorem aX1_likeAt_18 : at_ kX1_likeAt 18 = (0, oGetf 3 2 2 21) := rfl
theorem aX1_likeAt_21 : at_ kX1_likeAt 21 = (0, oIload 4 23) := rfl
theorem aX1_likeAt_23 : at_ kX1_likeAt 23 = (2, oInvV 1 mJx4a65c_get_915e3 1 26) := rfl
theorem aX1_likeAt_26 : at_ kX1_likeAt 26 = (0, oCast 10 29) := rfl
theorem aX1_likeAt_29 : at_ kX1_likeAt 29 = (0, oRload 1 30) := rfl
theorem aX1_likeAt_30 : at_ kX1_likeAt 30 = (2, oInvV 10 mX8_isLike 1 33) := rfl
theorem aX1_likeAt_33 : at_ kX1_likeAt 33 = (0, oIfEq 47 36) := rfl
theorem aX1_likeAt_36 : at_ kX1_likeAt 36 = (0, oIload 3 37) := rfl
theorem aX1_likeAt_37 : at_ kX1_likeAt 37 = (0, oIload 2 38) := rfl
theorem aX1_likeAt_38 : at_ kX1_likeAt 38 = (0, oIcNe 44 41) := rfl
theorem aX1_likeAt_41 : at_ kX1_likeAt 41 = (0, oIload 4 43) := rfl
theorem aX1_likeAt_43 : at_ kX1_likeAt 43 = (0, oRetI) := rfl
theorem aX1_likeAt_44 : at_ kX1_likeAt 44 = (0, oIinc 3 1 47) := rfl
theorem aX1_likeAt_47 : at_ kX1_likeAt 47 = (0, oIinc 4 1 50) := rfl
theorem aX1_likeAt_50 : at_ kX1_likeAt 50 = (0, oGoto 5) := rfl
theorem aX1_likeAt_53 : at_ kX1_likeAt 53 = (0, oPush (vI (-1)) 54) := rfl
theorem aX1_likeAt_54 : at_ kX1_likeAt 54 = (0, oRetI) := rfl
def kX1_bindingOn_0 : List En := [(0, oPush (vI 0) 1), (0, oIstore 3 2), (1, oIload 3 3), (0, oRload 0 4), (0, oGetf 3 2 2 7), (1, oFail), (1, oFail), (2, oInvV 1 mJx4a65c_size_8abf5 0 10), (1, oFail), (1, oFail), (0, oIcGe 57 13), (1, oFail), (1, oFail), (0, oRload 0 14), (0, oGetf 3 2 2 17), (1, oFail)]
set_option maxRecDepth 20000 in
theorem zX1_bindingOn_0 : SndL mX1_bindingOn 0 kX1_bindingOn_0 := SndL.c (s_iconst (by decide +kernel) (in32_d (by decide))) (SndL.c (s_istore_n (k := 3) (by decide +kernel) rfl (by decide)) (SndL.c (s_iload_n (k := 3) (by decide +kernel) rfl) (SndL.c (s_aload_n (k := 0) (by decide +kernel) rfl) (SndL.c (s_getf (k := 2) clok2 (by decide) rfl (by decide) rfl w_1_95 (Or.inl rfl) (by decide +kernel)) (SndL.c (s_fail) (SndL.c (s_fail) (SndL.c (s_invV (r := (RJx4a65c, TJx4a65c, 3)) (ci := 0) okJx4a65c_size_8abf5 rfl (by decide) rfl rfl w_3_138 w_2_64 w_2_65 (by decide +kernel)) (SndL.c (s_fail) (SndL.c (s_fail) (SndL.c (s_ic_ge (off := 47) (by decide +kernel) (by decide)) (SndL.c (s_fail) (SndL.c (s_fail) (SndL.c (s_aload_n (k := 0) (by decide +kernel) rfl) (SndL.c (s_getf (k := 2) clok2 (by decide) rfl (by decide) rfl w_1_95 (Or.inl rfl) (by decide +kernel)) (SndL.c (s_fail) (SndL.n))))))))))))))))
def kX1_bindingOn_1 : List En := [(1, oFail), (0, oIload 3 18), (2, oInvV 1 mJx4a65c_get_915e3 1 21), (1, oFail), (1, oFail), (0, oCast 10 24), (1, oFail), (1, oFail), (0, oGetf 10 1 0 27), (1, oFail), (1, oFail), (0, oIload 1 28), (0, oIcNe 51 31), (1, oFail), (1, oFail), (0, oRload 0 32)]
set_option maxRecDepth 20000 in
theorem zX1_bindingOn_1 : SndL mX1_bindingOn 16 kX1_bindingOn_1 := SndL.c (s_fail) (SndL.c (s_iload_n (k := 3) (by decide +kernel) rfl) (SndL.c (s_invV (r := (RJx4a65c, TJx4a65c, 3)) (ci := 0) okJx4a65c_get_915e3 rfl (by decide) rfl rfl w_3_139 w_2_192 w_2_193 (by decide +kernel)) (SndL.c (s_fail) (SndL.c (s_fail) (SndL.c (s_cast (r := (RX8, TX8, 14)) (ci := 9) rfl (by decide) rfl w_3_140 (by decide +kernel)) (SndL.c (s_fail) (SndL.c (s_fail) (SndL.c (s_getf (k := 1) clok9 (by decide) rfl (by decide) rfl w_4_133 (Or.inl rfl) (by decide +kernel)) (SndL.c (s_fail) (SndL.c (s_fail) (SndL.c (s_iload_n (k := 1) (by decide +kernel) rfl) (SndL.c (s_ic_ne (off := 23) (by decide +kernel) (by decide)) (SndL.c (s_fail) (SndL.c (s_fail) (SndL.c (s_aload_n (k := 0) (by decide +kernel) rfl) (SndL.n))))))))))))))))
def kX1_bindingOn_2 : List En := [(0, oGetf 3 2 2 35), (1, oFail), (1, oFail), (0, oIload 3 36), (2, oInvV 1 mJx4a65c_get_915e3 1 39), (1, oFail), (1, oFail), (0, oCast 10 42), (1, oFail), (1, oFail), (0, oRload 2 43), (2, oInvV 10 mX8_isLike 1 46), (1, oFail), (1, oFail), (0, oIfEq 51 49), (1, oFail)]
set_option maxRecDepth 20000 in
theorem zX1_bindingOn_2 : SndL mX1_bindingOn 32 kX1_bindingOn_2 := SndL.c (s_getf (k := 2) clok2 (by decide) rfl (by decide) rfl w_1_95 (Or.inl rfl) (by decide +kernel)) (SndL.c (s_fail) (SndL.c (s_fail) (SndL.c (s_iload_n (k := 3) (by decide +kernel) rfl) (SndL.c (s_invV (r := (RJx4a65c, TJx4a65c, 3)) (ci := 0) okJx4a65c_get_915e3 rfl (by decide) rfl rfl w_3_139 w_2_192 w_2_193 (by decide +kernel)) (SndL.c (s_fail) (SndL.c (s_fail) (SndL.c (s_cast (r := (RX8, TX8, 14)) (ci := 9) rfl (by decide) rfl w_3_140 (by decide +kernel)) (SndL.c (s_fail) (SndL.c (s_fail) (SndL.c (s_aload_n (k := 2) (by decide +kernel) rfl) (SndL.c (s_invV (r := (RX8, TX8, 14)) (ci := 9) okX8_isLike rfl (by decide) rfl rfl w_4_205 w_4_206 w_4_207 (by decide +kernel)) (SndL.c (s_fail) (SndL.c (s_fail) (SndL.c (s_if_eq (off := 5) (by decide +kernel) (by decide)) (SndL.c (s_fail) (SndL.n))))))))))))))))
def kX1_bindingOn_3 : List En := [(1, oFail), (0, oIload 3 50), (0, oRetI), (0, oIinc 3 1 54), (1, oFail), (1, oFail), (0, oGoto 2), (1, oFail), (1, oFail), (0, oPush (vI (-1)) 58), (0, oRetI)]
set_option maxRecDepth 20000 in
theorem zX1_bindingOn_3 : SndL mX1_bindingOn 48 kX1_bindingOn_3 := SndL.c (s_fail) (SndL.c (s_iload_n (k := 3) (by decide +kernel) rfl) (SndL.c (s_ret_i rfl (by decide +kernel)) (SndL.c (s_iinc (by decide +kernel) (by decide)) (SndL.c (s_fail) (SndL.c (s_fail) (SndL.c (s_goto (off := -52) (by decide +kernel) (by decide)) (SndL.c (s_fail) (SndL.c (s_fail) (SndL.c (s_iconst (by decide +kernel) (in32_d (by decide))) (SndL.c (s_ret_i rfl (by decide +kernel)) (SndL.n)))))))))))
def kX1_bindingOn : Cd := [kX1_bindingOn_0, kX1_bindingOn_1, kX1_bindingOn_2, kX1_bindingOn_3]
theorem zX1_bindingOn : SndC mX1_bindingOn 0 kX1_bindingOn := SndC.c zX1_bindingOn_0 (by decide) (SndC.c zX1_bindingOn_1 (by decide) (SndC.c zX1_bindingOn_2 (by decide) (SndC.c zX1_bindingOn_3 (by decide) (SndC.n))))
theorem aX1_bindingOn_0 : at_ kX1_bindingOn 0 = (0, oPush (vI 0) 1) := rfl
theorem aX1_bindingOn_1 : at_ kX1_bindingOn 1 = (0, oIstore 3 2) := rfl
theorem aX1_bindingOn_2 : at_ kX1_bindingOn 2 = (1, oIload 3 3) := rfl
theorem aX1_bindingOn_3 : at_ kX1_bindingOn 3 = (0, oRload 0 4) := rfl
theorem aX1_bindingOn_4 : at_ kX1_bindingOn 4 = (0, oGetf 3 2 2 7) := rfl
theorem aX1_bindingOn_7 : at_ kX1_bindingOn 7 = (2, oInvV 1 mJx4a65c_size_8abf5 0 10) := rfl
theorem aX1_bindingOn_10 : at_ kX1_bindingOn 10 = (0, oIcGe 57 13) := rfl
theorem aX1_bindingOn_13 : at_ kX1_bindingOn 13 = (0, oRload 0 14) := rfl
theorem aX1_bindingOn_14 : at_ kX1_bindingOn 14 = (0, oGetf 3 2 2 17) := rfl
theorem aX1_bindingOn_17 : at_ kX1_bindingOn 17 = (0, oIload 3 18) := rfl
theorem aX1_bindingOn_18 : at_ kX1_bindingOn 18 = (2, oInvV 1 mJx4a65c_get_915e3 1 21) := rfl
theorem aX1_bindingOn_21 : at_ kX1_bindingOn 21 = (0, oCast 10 24) := rfl
theorem aX1_bindingOn_24 : at_ kX1_bindingOn 24 = (0, oGetf 10 1 0 27) := rfl
theorem aX1_bindingOn_27 : at_ kX1_bindingOn 27 = (0, oIload 1 28) := rfl
theorem aX1_bindingOn_28 : at_ kX1_bindingOn 28 = (0, oIcNe 51 31) := rfl
theorem aX1_bindingOn_31 : at_ kX1_bindingOn 31 = (0, oRload 0 32) := rfl
theorem aX1_bindingOn_32 : at_ kX1_bindingOn 32 = (0, oGetf 3 2 2 35) := rfl
theorem aX1_bindingOn_35 : at_ kX1_bindingOn 35 = (0, oIload 3 36) := rfl
theorem aX1_bindingOn_36 : at_ kX1_bindingOn 36 = (2, oInvV 1 mJx4a65c_get_915e3 1 39) := rfl
theorem aX1_bindingOn_39 : at_ kX1_bindingOn 39 = (0, oCast 10 42) := rfl
theorem aX1_bindingOn_42 : at_ kX1_bindingOn 42 = (0, oRload 2 43) := rfl
theorem aX1_bindingOn_43 : at_ kX1_bindingOn 43 = (2, oInvV 10 mX8_isLike 1 46) := rfl
theorem aX1_bindingOn_46 : at_ kX1_bindingOn 46 = (0, oIfEq 51 49) := rfl
theorem aX1_bindingOn_49 : at_ kX1_bindingOn 49 = (0, oIload 3 50) := rfl
theorem aX1_bindingOn_50 : at_ kX1_bindingOn 50 = (0, oRetI) := rfl
theorem aX1_bindingOn_51 : at_ kX1_bindingOn 51 = (0, oIinc 3 1 54) := rfl
theorem aX1_bindingOn_54 : at_ kX1_bindingOn 54 = (0, oGoto 2) := rfl
theorem aX1_bindingOn_57 : at_ kX1_bindingOn 57 = (0, oPush (vI (-1)) 58) := rfl
theorem aX1_bindingOn_58 : at_ kX1_bindingOn 58 = (0, oRetI) := rfl
def kX1_likeSaying_0 : List En := [(0, oPush (vI 0) 1), (0, oIstore 4 3), (1, oFail), (0, oPush (vI 0) 4), (0, oIstore 5 6), (1, oFail), (1, oIload 5 8), (1, oFail), (0, oRload 0 9), (0, oGetf 3 2 2 12), (1, oFail), (1, oFail), (2, oInvV 1 mJx4a65c_size_8abf5 0 15), (1, oFail), (1, oFail), (0, oIcGe 68 18)]
set_option maxRecDepth 20000 in
theorem zX1_likeSaying_0 : SndL mX1_likeSaying 0 kX1_likeSaying_0 := SndL.c (s_iconst (by decide +kernel) (in32_d (by decide))) (SndL.c (s_istore (by decide +kernel) (by decide)) (SndL.c (s_fail) (SndL.c (s_iconst (by decide +kernel) (in32_d (by decide))) (SndL.c (s_istore (by decide +kernel) (by decide)) (SndL.c (s_fail) (SndL.c (s_iload (by decide +kernel)) (SndL.c (s_fail) (SndL.c (s_aload_n (k := 0) (by decide +kernel) rfl) (SndL.c (s_getf (k := 2) clok2 (by decide) rfl (by decide) rfl w_1_95 (Or.inl rfl) (by decide +kernel)) (SndL.c (s_fail) (SndL.c (s_fail) (SndL.c (s_invV (r := (RJx4a65c, TJx4a65c, 3)) (ci := 0) okJx4a65c_size_8abf5 rfl (by decide) rfl rfl w_3_138 w_2_64 w_2_65 (by decide +kernel)) (SndL.c (s_fail) (SndL.c (s_fail) (SndL.c (s_ic_ge (off := 53) (by decide +kernel) (by decide)) (SndL.n))))))))))))))))
def kX1_likeSaying_1 : List En := [(1, oFail), (1, oFail), (0, oRload 0 19), (0, oGetf 3 2 2 22), (1, oFail), (1, oFail), (0, oIload 5 24), (1, oFail), (2, oInvV 1 mJx4a65c_get_915e3 1 27), (1, oFail), (1, oFail), (0, oCast 10 30), (1, oFail), (1, oFail), (0, oRstore 6 32), (1, oFail)]
set_option maxRecDepth 20000 in
theorem zX1_likeSaying_1 : SndL mX1_likeSaying 16 kX1_likeSaying_1 := SndL.c (s_fail) (SndL.c (s_fail) (SndL.c (s_aload_n (k := 0) (by decide +kernel) rfl) (SndL.c (s_getf (k := 2) clok2 (by decide) rfl (by decide) rfl w_1_95 (Or.inl rfl) (by decide +kernel)) (SndL.c (s_fail) (SndL.c (s_fail) (SndL.c (s_iload (by decide +kernel)) (SndL.c (s_fail) (SndL.c (s_invV (r := (RJx4a65c, TJx4a65c, 3)) (ci := 0) okJx4a65c_get_915e3 rfl (by decide) rfl rfl w_3_139 w_2_192 w_2_193 (by decide +kernel)) (SndL.c (s_fail) (SndL.c (s_fail) (SndL.c (s_cast (r := (RX8, TX8, 14)) (ci := 9) rfl (by decide) rfl w_3_140 (by decide +kernel)) (SndL.c (s_fail) (SndL.c (s_fail) (SndL.c (s_astore (by decide +kernel) (by decide)) (SndL.c (s_fail) (SndL.n))))))))))))))))
def kX1_likeSaying_2 : List En := [(0, oRload 6 34), (1, oFail), (0, oGetf 10 1 0 37), (1, oFail), (1, oFail), (0, oIload 2 38), (0, oIcNe 62 41), (1, oFail), (1, oFail), (0, oRload 6 43), (1, oFail), (0, oGetf 10 9 3 46), (1, oFail), (1, oFail), (0, oIload 1 47), (0, oIcNe 62 50)]
set_option maxRecDepth 20000 in
theorem zX1_likeSaying_2 : SndL mX1_likeSaying 32 kX1_likeSaying_2 := SndL.c (s_aload (by decide +kernel)) (SndL.c (s_fail) (SndL.c (s_getf (k := 1) clok9 (by decide) rfl (by decide) rfl w_4_133 (Or.inl rfl) (by decide +kernel)) (SndL.c (s_fail) (SndL.c (s_fail) (SndL.c (s_iload_n (k := 2) (by decide +kernel) rfl) (SndL.c (s_ic_ne (off := 24) (by decide +kernel) (by decide)) (SndL.c (s_fail) (SndL.c (s_fail) (SndL.c (s_aload (by decide +kernel)) (SndL.c (s_fail) (SndL.c (s_getf (k := 9) clok9 (by decide) rfl (by decide) rfl w_4_154 (Or.inl rfl) (by decide +kernel)) (SndL.c (s_fail) (SndL.c (s_fail) (SndL.c (s_iload_n (k := 1) (by decide +kernel) rfl) (SndL.c (s_ic_ne (off := 15) (by decide +kernel) (by decide)) (SndL.n))))))))))))))))
def kX1_likeSaying_3 : List En := [(1, oFail), (1, oFail), (0, oRload 6 52), (1, oFail), (0, oRload 3 53), (2, oInvV 10 mX8_isLike 1 56), (1, oFail), (1, oFail), (0, oIfEq 62 59), (1, oFail), (1, oFail), (0, oIinc 4 1 62), (1, oFail), (1, oFail), (0, oIinc 5 1 65), (1, oFail)]
set_option maxRecDepth 20000 in
theorem zX1_likeSaying_3 : SndL mX1_likeSaying 48 kX1_likeSaying_3 := SndL.c (s_fail) (SndL.c (s_fail) (SndL.c (s_aload (by decide +kernel)) (SndL.c (s_fail) (SndL.c (s_aload_n (k := 3) (by decide +kernel) rfl) (SndL.c (s_invV (r := (RX8, TX8, 14)) (ci := 9) okX8_isLike rfl (by decide) rfl rfl w_4_205 w_4_206 w_4_207 (by decide +kernel)) (SndL.c (s_fail) (SndL.c (s_fail) (SndL.c (s_if_eq (off := 6) (by decide +kernel) (by decide)) (SndL.c (s_fail) (SndL.c (s_fail) (SndL.c (s_iinc (by decide +kernel) (by decide)) (SndL.c (s_fail) (SndL.c (s_fail) (SndL.c (s_iinc (by decide +kernel) (by decide)) (SndL.c (s_fail) (SndL.n))))))))))))))))
def kX1_likeSaying_4 : List En := [(1, oFail), (0, oGoto 6), (1, oFail), (1, oFail), (0, oIload 4 70), (1, oFail), (0, oRetI)]
set_option maxRecDepth 20000 in
theorem zX1_likeSaying_4 : SndL mX1_likeSaying 64 kX1_likeSaying_4 := SndL.c (s_fail) (SndL.c (s_goto (off := -59) (by decide +kernel) (by decide)) (SndL.c (s_fail) (SndL.c (s_fail) (SndL.c (s_iload (by decide +kernel)) (SndL.c (s_fail) (SndL.c (s_ret_i rfl (by decide +kernel)) (SndL.n)))))))
def kX1_likeSaying : Cd := [kX1_likeSaying_0, kX1_likeSaying_1, kX1_likeSaying_2, kX1_likeSaying_3, kX1_likeSaying_4]
theorem zX1_likeSaying : SndC mX1_likeSaying 0 kX1_likeSaying := SndC.c zX1_likeSaying_0 (by decide) (SndC.c zX1_likeSaying_1 (by decide) (SndC.c zX1_likeSaying_2 (by decide) (SndC.c zX1_likeSaying_3 (by decide) (SndC.c zX1_likeSaying_4 (by decide) (SndC.n)))))
theorem aX1_likeSaying_0 : at_ kX1_likeSaying 0 = (0, oPush (vI 0) 1) := rfl
theorem aX1_likeSaying_1 : at_ kX1_likeSaying 1 = (0, oIstore 4 3) := rfl
theorem aX1_likeSaying_3 : at_ kX1_likeSaying 3 = (0, oPush (vI 0) 4) := rfl
theorem aX1_likeSaying_4 : at_ kX1_likeSaying 4 = (0, oIstore 5 6) := rfl
theorem aX1_likeSaying_6 : at_ kX1_likeSaying 6 = (1, oIload 5 8) := rfl
theorem aX1_likeSaying_8 : at_ kX1_likeSaying 8 = (0, oRload 0 9) := rfl
theorem aX1_likeSaying_9 : at_ kX1_likeSaying 9 = (0, oGetf 3 2 2 12) := rfl
theorem aX1_likeSaying_12 : at_ kX1_likeSaying 12 = (2, oInvV 1 mJx4a65c_size_8abf5 0 15) := rfl
theorem aX1_likeSaying_15 : at_ kX1_likeSaying 15 = (0, oIcGe 68 18) := rfl
theorem aX1_likeSaying_18 : at_ kX1_likeSaying 18 = (0, oRload 0 19) := rfl
theorem aX1_likeSaying_19 : at_ kX1_likeSaying 19 = (0, oGetf 3 2 2 22) := rfl
theorem aX1_likeSaying_22 : at_ kX1_likeSaying 22 = (0, oIload 5 24) := rfl
theorem aX1_likeSaying_24 : at_ kX1_likeSaying 24 = (2, oInvV 1 mJx4a65c_get_915e3 1 27) := rfl
theorem aX1_likeSaying_27 : at_ kX1_likeSaying 27 = (0, oCast 10 30) := rfl
theorem aX1_likeSaying_30 : at_ kX1_likeSaying 30 = (0, oRstore 6 32) := rfl
theorem aX1_likeSaying_32 : at_ kX1_likeSaying 32 = (0, oRload 6 34) := rfl
theorem aX1_likeSaying_34 : at_ kX1_likeSaying 34 = (0, oGetf 10 1 0 37) := rfl
theorem aX1_likeSaying_37 : at_ kX1_likeSaying 37 = (0, oIload 2 38) := rfl
theorem aX1_likeSaying_38 : at_ kX1_likeSaying 38 = (0, oIcNe 62 41) := rfl
theorem aX1_likeSaying_41 : at_ kX1_likeSaying 41 = (0, oRload 6 43) := rfl
theorem aX1_likeSaying_43 : at_ kX1_likeSaying 43 = (0, oGetf 10 9 3 46) := rfl
theorem aX1_likeSaying_46 : at_ kX1_likeSaying 46 = (0, oIload 1 47) := rfl
theorem aX1_likeSaying_47 : at_ kX1_likeSaying 47 = (0, oIcNe 62 50) := rfl
theorem aX1_likeSaying_50 : at_ kX1_likeSaying 50 = (0, oRload 6 52) := rfl
theorem aX1_likeSaying_52 : at_ kX1_likeSaying 52 = (0, oRload 3 53) := rfl
theorem aX1_likeSaying_53 : at_ kX1_likeSaying 53 = (2, oInvV 10 mX8_isLike 1 56) := rfl
theorem aX1_likeSaying_56 : at_ kX1_likeSaying 56 = (0, oIfEq 62 59) := rfl
theorem aX1_likeSaying_59 : at_ kX1_likeSaying 59 = (0, oIinc 4 1 62) := rfl
theorem aX1_likeSaying_62 : at_ kX1_likeSaying 62 = (0, oIinc 5 1 65) := rfl
theorem aX1_likeSaying_65 : at_ kX1_likeSaying 65 = (0, oGoto 6) := rfl
theorem aX1_likeSaying_68 : at_ kX1_likeSaying 68 = (0, oIload 4 70) := rfl
theorem aX1_likeSaying_70 : at_ kX1_likeSaying 70 = (0, oRetI) := rfl
def kX1_undoFrom_0 : List En := [(0, oPush (vI 0) 1), (0, oIstore 2 2), (0, oIload 1 3), (0, oPush (vI 0) 4), (0, oMmax 7), (1, oFail), (1, oFail), (0, oIstore 3 8), (1, oIload 3 9), (0, oRload 0 10), (0, oGetf 3 2 2 13), (1, oFail), (1, oFail), (2, oInvV 1 mJx4a65c_size_8abf5 0 16), (1, oFail), (1, oFail)]
set_option maxRecDepth 20000 in
theorem zX1_undoFrom_0 : SndL mX1_undoFrom 0 kX1_undoFrom_0 := SndL.c (s_iconst (by decide +kernel) (in32_d (by decide))) (SndL.c (s_istore_n (k := 2) (by decide +kernel) rfl (by decide)) (SndL.c (s_iload_n (k := 1) (by decide +kernel) rfl) (SndL.c (s_iconst (by decide +kernel) (in32_d (by decide))) (SndL.c (s_mmax w_5_23 w_2_144 w_1_15 w_2_145 (by decide +kernel)) (SndL.c (s_fail) (SndL.c (s_fail) (SndL.c (s_istore_n (k := 3) (by decide +kernel) rfl (by decide)) (SndL.c (s_iload_n (k := 3) (by decide +kernel) rfl) (SndL.c (s_aload_n (k := 0) (by decide +kernel) rfl) (SndL.c (s_getf (k := 2) clok2 (by decide) rfl (by decide) rfl w_1_95 (Or.inl rfl) (by decide +kernel)) (SndL.c (s_fail) (SndL.c (s_fail) (SndL.c (s_invV (r := (RJx4a65c, TJx4a65c, 3)) (ci := 0) okJx4a65c_size_8abf5 rfl (by decide) rfl rfl w_3_138 w_2_64 w_2_65 (by decide +kernel)) (SndL.c (s_fail) (SndL.c (s_fail) (SndL.n))))))))))))))))
def kX1_undoFrom_1 : List En := [(0, oIcGe 97 19), (1, oFail), (1, oFail), (0, oRload 0 20), (0, oGetf 3 2 2 23), (1, oFail), (1, oFail), (0, oIload 3 24), (2, oInvV 1 mJx4a65c_get_915e3 1 27), (1, oFail), (1, oFail), (0, oCast 10 30), (1, oFail), (1, oFail), (0, oRstore 4 32), (1, oFail)]
set_option maxRecDepth 20000 in
theorem zX1_undoFrom_1 : SndL mX1_undoFrom 16 kX1_undoFrom_1 := SndL.c (s_ic_ge (off := 81) (by decide +kernel) (by decide)) (SndL.c (s_fail) (SndL.c (s_fail) (SndL.c (s_aload_n (k := 0) (by decide +kernel) rfl) (SndL.c (s_getf (k := 2) clok2 (by decide) rfl (by decide) rfl w_1_95 (Or.inl rfl) (by decide +kernel)) (SndL.c (s_fail) (SndL.c (s_fail) (SndL.c (s_iload_n (k := 3) (by decide +kernel) rfl) (SndL.c (s_invV (r := (RJx4a65c, TJx4a65c, 3)) (ci := 0) okJx4a65c_get_915e3 rfl (by decide) rfl rfl w_3_139 w_2_192 w_2_193 (by decide +kernel)) (SndL.c (s_fail) (SndL.c (s_fail) (SndL.c (s_cast (r := (RX8, TX8, 14)) (ci := 9) rfl (by decide) rfl w_3_140 (by decide +kernel)) (SndL.c (s_fail) (SndL.c (s_fail) (SndL.c (s_astore (by decide +kernel) (by decide)) (SndL.c (s_fail) (SndL.n))))))))))))))))
def kX1_undoFrom_2 : List En := [(0, oRload 0 33), (0, oRload 4 35), (1, oFail), (0, oGetf 10 12 0 38), (1, oFail), (1, oFail), (2, oInvV 3 mX1_rulingOf 1 41), (1, oFail), (1, oFail), (0, oRstore 5 43), (1, oFail), (0, oIload 3 44), (0, oIload 1 45), (0, oIcEq 62 48), (1, oFail), (1, oFail)]
set_option maxRecDepth 20000 in
theorem zX1_undoFrom_2 : SndL mX1_undoFrom 32 kX1_undoFrom_2 := SndL.c (s_aload_n (k := 0) (by decide +kernel) rfl) (SndL.c (s_aload (by decide +kernel)) (SndL.c (s_fail) (SndL.c (s_getf (k := 12) clok9 (by decide) rfl (by decide) rfl w_4_162 (Or.inl rfl) (by decide +kernel)) (SndL.c (s_fail) (SndL.c (s_fail) (SndL.c (s_invV (r := (RX1, TX1, 3)) (ci := 2) okX1_rulingOf rfl (by decide) rfl rfl w_5_24 w_4_217 w_4_218 (by decide +kernel)) (SndL.c (s_fail) (SndL.c (s_fail) (SndL.c (s_astore (by decide +kernel) (by decide)) (SndL.c (s_fail) (SndL.c (s_iload_n (k := 3) (by decide +kernel) rfl) (SndL.c (s_iload_n (k := 1) (by decide +kernel) rfl) (SndL.c (s_ic_eq (off := 17) (by decide +kernel) (by decide)) (SndL.c (s_fail) (SndL.c (s_fail) (SndL.n))))))))))))))))
def kX1_undoFrom_3 : List En := [(0, oRload 5 50), (1, oFail), (0, oIfnull 66 53), (1, oFail), (1, oFail), (0, oRload 5 55), (1, oFail), (0, oGetf 10 13 0 58), (1, oFail), (1, oFail), (0, oPush (vI 2) 59), (0, oIcNe 66 62), (1, oFail), (1, oFail), (0, oPush (vI 1) 63), (0, oGoto 67)]
set_option maxRecDepth 20000 in
theorem zX1_undoFrom_3 : SndL mX1_undoFrom 48 kX1_undoFrom_3 := SndL.c (s_aload (by decide +kernel)) (SndL.c (s_fail) (SndL.c (s_ifnull (off := 16) (by decide +kernel) (by decide)) (SndL.c (s_fail) (SndL.c (s_fail) (SndL.c (s_aload (by decide +kernel)) (SndL.c (s_fail) (SndL.c (s_getf (k := 13) clok9 (by decide) rfl (by decide) rfl w_4_165 (Or.inl rfl) (by decide +kernel)) (SndL.c (s_fail) (SndL.c (s_fail) (SndL.c (s_iconst (by decide +kernel) (in32_d (by decide))) (SndL.c (s_ic_ne (off := 7) (by decide +kernel) (by decide)) (SndL.c (s_fail) (SndL.c (s_fail) (SndL.c (s_iconst (by decide +kernel) (in32_d (by decide))) (SndL.c (s_goto (off := 4) (by decide +kernel) (by decide)) (SndL.n))))))))))))))))
def kX1_undoFrom_4 : List En := [(1, oFail), (1, oFail), (0, oPush (vI 0) 67), (0, oIstore 6 69), (1, oFail), (0, oRload 4 71), (1, oFail), (0, oGetf 10 13 0 74), (1, oFail), (1, oFail), (0, oIfNe 91 77), (1, oFail), (1, oFail), (0, oIload 6 79), (1, oFail), (0, oIfEq 91 82)]
set_option maxRecDepth 20000 in
theorem zX1_undoFrom_4 : SndL mX1_undoFrom 64 kX1_undoFrom_4 := SndL.c (s_fail) (SndL.c (s_fail) (SndL.c (s_iconst (by decide +kernel) (in32_d (by decide))) (SndL.c (s_istore (by decide +kernel) (by decide)) (SndL.c (s_fail) (SndL.c (s_aload (by decide +kernel)) (SndL.c (s_fail) (SndL.c (s_getf (k := 13) clok9 (by decide) rfl (by decide) rfl w_4_165 (Or.inl rfl) (by decide +kernel)) (SndL.c (s_fail) (SndL.c (s_fail) (SndL.c (s_if_ne (off := 17) (by decide +kernel) (by decide)) (SndL.c (s_fail) (SndL.c (s_fail) (SndL.c (s_iload (by decide +kernel)) (SndL.c (s_fail) (SndL.c (s_if_eq (off := 12) (by decide +kernel) (by decide)) (SndL.n))))))))))))))))
def kX1_undoFrom_5 : List En := [(1, oFail), (1, oFail), (0, oRload 4 84), (1, oFail), (0, oPush (vI 2) 85), (0, oPutf 10 13 0 88), (1, oFail), (1, oFail), (0, oIinc 2 1 91), (1, oFail), (1, oFail), (0, oIinc 3 1 94), (1, oFail), (1, oFail), (0, oGoto 8), (1, oFail)]
set_option maxRecDepth 20000 in
theorem zX1_undoFrom_5 : SndL mX1_undoFrom 80 kX1_undoFrom_5 := SndL.c (s_fail) (SndL.c (s_fail) (SndL.c (s_aload (by decide +kernel)) (SndL.c (s_fail) (SndL.c (s_iconst (by decide +kernel) (in32_d (by decide))) (SndL.c (s_putf (k := 13) clok9 (by decide) rfl (by decide) rfl w_4_165 (Or.inl rfl) (Or.inl rfl) (by decide +kernel)) (SndL.c (s_fail) (SndL.c (s_fail) (SndL.c (s_iinc (by decide +kernel) (by decide)) (SndL.c (s_fail) (SndL.c (s_fail) (SndL.c (s_iinc (by decide +kernel) (by decide)) (SndL.c (s_fail) (SndL.c (s_fail) (SndL.c (s_goto (off := -86) (by decide +kernel) (by decide)) (SndL.c (s_fail) (SndL.n))))))))))))))))
def kX1_undoFrom_6 : List En := [(1, oFail), (0, oIload 2 98), (0, oRetI)]
set_option maxRecDepth 20000 in
theorem zX1_undoFrom_6 : SndL mX1_undoFrom 96 kX1_undoFrom_6 := SndL.c (s_fail) (SndL.c (s_iload_n (k := 2) (by decide +kernel) rfl) (SndL.c (s_ret_i rfl (by decide +kernel)) (SndL.n)))
def kX1_undoFrom : Cd := [kX1_undoFrom_0, kX1_undoFrom_1, kX1_undoFrom_2, kX1_undoFrom_3, kX1_undoFrom_4, kX1_undoFrom_5, kX1_undoFrom_6]
theorem zX1_undoFrom : SndC mX1_undoFrom 0 kX1_undoFrom := SndC.c zX1_undoFrom_0 (by decide) (SndC.c zX1_undoFrom_1 (by decide) (SndC.c zX1_undoFrom_2 (by decide) (SndC.c zX1_undoFrom_3 (by decide) (SndC.c zX1_undoFrom_4 (by decide) (SndC.c zX1_undoFrom_5 (by decide) (SndC.c zX1_undoFrom_6 (by decide) (SndC.n)))))))
theorem aX1_undoFrom_0 : at_ kX1_undoFrom 0 = (0, oPush (vI 0) 1) := rfl
theorem aX1_undoFrom_1 : at_ kX1_undoFrom 1 = (0, oIstore 2 2) := rfl
theorem aX1_undoFrom_2 : at_ kX1_undoFrom 2 = (0, oIload 1 3) := rfl
theorem aX1_undoFrom_3 : at_ kX1_undoFrom 3 = (0, oPush (vI 0) 4) := rfl
theorem aX1_undoFrom_4 : at_ kX1_undoFrom 4 = (0, oMmax 7) := rfl
theorem aX1_undoFrom_7 : at_ kX1_undoFrom 7 = (0, oIstore 3 8) := rfl
theorem aX1_undoFrom_8 : at_ kX1_undoFrom 8 = (1, oIload 3 9) := rfl
theorem aX1_undoFrom_9 : at_ kX1_undoFrom 9 = (0, oRload 0 10) := rfl
theorem aX1_undoFrom_10 : at_ kX1_undoFrom 10 = (0, oGetf 3 2 2 13) := rfl
theorem aX1_undoFrom_13 : at_ kX1_undoFrom 13 = (2, oInvV 1 mJx4a65c_size_8abf5 0 16) := rfl
theorem aX1_undoFrom_16 : at_ kX1_undoFrom 16 = (0, oIcGe 97 19) := rfl
theorem aX1_undoFrom_19 : at_ kX1_undoFrom 19 = (0, oRload 0 20) := rfl
theorem aX1_undoFrom_20 : at_ kX1_undoFrom 20 = (0, oGetf 3 2 2 23) := rfl
theorem aX1_undoFrom_23 : at_ kX1_undoFrom 23 = (0, oIload 3 24) := rfl
theorem aX1_undoFrom_24 : at_ kX1_undoFrom 24 = (2, oInvV 1 mJx4a65c_get_915e3 1 27) := rfl
theorem aX1_undoFrom_27 : at_ kX1_undoFrom 27 = (0, oCast 10 30) := rfl
theorem aX1_undoFrom_30 : at_ kX1_undoFrom 30 = (0, oRstore 4 32) := rfl
theorem aX1_undoFrom_32 : at_ kX1_undoFrom 32 = (0, oRload 0 33) := rfl
theorem aX1_undoFrom_33 : at_ kX1_undoFrom 33 = (0, oRload 4 35) := rfl
theorem aX1_undoFrom_35 : at_ kX1_undoFrom 35 = (0, oGetf 10 12 0 38) := rfl
theorem aX1_undoFrom_38 : at_ kX1_undoFrom 38 = (2, oInvV 3 mX1_rulingOf 1 41) := rfl
theorem aX1_undoFrom_41 : at_ kX1_undoFrom 41 = (0, oRstore 5 43) := rfl
theorem aX1_undoFrom_43 : at_ kX1_undoFrom 43 = (0, oIload 3 44) := rfl
theorem aX1_undoFrom_44 : at_ kX1_undoFrom 44 = (0, oIload 1 45) := rfl
theorem aX1_undoFrom_45 : at_ kX1_undoFrom 45 = (0, oIcEq 62 48) := rfl
theorem aX1_undoFrom_48 : at_ kX1_undoFrom 48 = (0, oRload 5 50) := rfl
theorem aX1_undoFrom_50 : at_ kX1_undoFrom 50 = (0, oIfnull 66 53) := rfl
theorem aX1_undoFrom_53 : at_ kX1_undoFrom 53 = (0, oRload 5 55) := rfl
theorem aX1_undoFrom_55 : at_ kX1_undoFrom 55 = (0, oGetf 10 13 0 58) := rfl
theorem aX1_undoFrom_58 : at_ kX1_undoFrom 58 = (0, oPush (vI 2) 59) := rfl
theorem aX1_undoFrom_59 : at_ kX1_undoFrom 59 = (0, oIcNe 66 62) := rfl
theorem aX1_undoFrom_62 : at_ kX1_undoFrom 62 = (0, oPush (vI 1) 63) := rfl
theorem aX1_undoFrom_63 : at_ kX1_undoFrom 63 = (0, oGoto 67) := rfl
theorem aX1_undoFrom_66 : at_ kX1_undoFrom 66 = (0, oPush (vI 0) 67) := rfl
theorem aX1_undoFrom_67 : at_ kX1_undoFrom 67 = (0, oIstore 6 69) := rfl
theorem aX1_undoFrom_69 : at_ kX1_undoFrom 69 = (0, oRload 4 71) := rfl
theorem aX1_undoFrom_71 : at_ kX1_undoFrom 71 = (0, oGetf 10 13 0 74) := rfl
theorem aX1_undoFrom_74 : at_ kX1_undoFrom 74 = (0, oIfNe 91 77) := rfl
theorem aX1_undoFrom_77 : at_ kX1_undoFrom 77 = (0, oIload 6 79) := rfl
theorem aX1_undoFrom_79 : at_ kX1_undoFrom 79 = (0, oIfEq 91 82) := rfl
theorem aX1_undoFrom_82 : at_ kX1_undoFrom 82 = (0, oRload 4 84) := rfl
theorem aX1_undoFrom_84 : at_ kX1_undoFrom 84 = (0, oPush (vI 2) 85) := rfl
theorem aX1_undoFrom_85 : at_ kX1_undoFrom 85 = (0, oPutf 10 13 0 88) := rfl
theorem aX1_undoFrom_88 : at_ kX1_undoFrom 88 = (0, oIinc 2 1 91) := rfl
theorem aX1_undoFrom_91 : at_ kX1_undoFrom 91 = (0, oIinc 3 1 94) := rfl
theorem aX1_undoFrom_94 : at_ kX1_undoFrom 94 = (0, oGoto 8) := rfl
theorem aX1_undoFrom_97 : at_ kX1_undoFrom 97 = (0, oIload 2 98) := rfl
theorem aX1_undoFrom_98 : at_ kX1_undoFrom 98 = (0, oRetI) := rfl
def kX1_stepOf_0 : List En := [(0, oPush (vI 0) 1), (0, oIstore 3 2), (0, oPush (vI 0) 3), (0, oIstore 4 5), (1, oFail), (0, oPush (vI 0) 6), (0, oIstore 5 8), (1, oFail), (1, oIload 5 10), (1, oFail), (0, oRload 0 11), (0, oGetf 3 2 2 14), (1, oFail), (1, oFail), (2, oInvV 1 mJx4a65c_size_8abf5 0 17), (1, oFail)]
set_option maxRecDepth 20000 in
theorem zX1_stepOf_0 : SndL mX1_stepOf 0 kX1_stepOf_0 := SndL.c (s_iconst (by decide +kernel) (in32_d (by decide))) (SndL.c (s_istore_n (k := 3) (by decide +kernel) rfl (by decide)) (SndL.c (s_iconst (by decide +kernel) (in32_d (by decide))) (SndL.c (s_istore (by decide +kernel) (by decide)) (SndL.c (s_fail) (SndL.c (s_iconst (by decide +kernel) (in32_d (by decide))) (SndL.c (s_istore (by decide +kernel) (by decide)) (SndL.c (s_fail) (SndL.c (s_iload (by decide +kernel)) (SndL.c (s_fail) (SndL.c (s_aload_n (k := 0) (by decide +kernel) rfl) (SndL.c (s_getf (k := 2) clok2 (by decide) rfl (by decide) rfl w_1_95 (Or.inl rfl) (by decide +kernel)) (SndL.c (s_fail) (SndL.c (s_fail) (SndL.c (s_invV (r := (RJx4a65c, TJx4a65c, 3)) (ci := 0) okJx4a65c_size_8abf5 rfl (by decide) rfl rfl w_3_138 w_2_64 w_2_65 (by decide +kernel)) (SndL.c (s_fail) (SndL.n))))))))))))))))
def kX1_stepOf_1 : List En := [(1, oFail), (0, oIcGe 103 20), (1, oFail), (1, oFail), (0, oRload 0 21), (0, oGetf 3 2 2 24), (1, oFail), (1, oFail), (0, oIload 5 26), (1, oFail), (2, oInvV 1 mJx4a65c_get_915e3 1 29), (1, oFail), (1, oFail), (0, oCast 10 32), (1, oFail), (1, oFail)]
set_option maxRecDepth 20000 in
theorem zX1_stepOf_1 : SndL mX1_stepOf 16 kX1_stepOf_1 := SndL.c (s_fail) (SndL.c (s_ic_ge (off := 86) (by decide +kernel) (by decide)) (SndL.c (s_fail) (SndL.c (s_fail) (SndL.c (s_aload_n (k := 0) (by decide +kernel) rfl) (SndL.c (s_getf (k := 2) clok2 (by decide) rfl (by decide) rfl w_1_95 (Or.inl rfl) (by decide +kernel)) (SndL.c (s_fail) (SndL.c (s_fail) (SndL.c (s_iload (by decide +kernel)) (SndL.c (s_fail) (SndL.c (s_invV (r := (RJx4a65c, TJx4a65c, 3)) (ci := 0) okJx4a65c_get_915e3 rfl (by decide) rfl rfl w_3_139 w_2_192 w_2_193 (by decide +kernel)) (SndL.c (s_fail) (SndL.c (s_fail) (SndL.c (s_cast (r := (RX8, TX8, 14)) (ci := 9) rfl (by decide) rfl w_3_140 (by decide +kernel)) (SndL.c (s_fail) (SndL.c (s_fail) (SndL.n))))))))))))))))
def kX1_stepOf_2 : List En := [(0, oRstore 6 34), (1, oFail), (0, oRload 6 36), (1, oFail), (0, oGetf 10 0 0 39), (1, oFail), (1, oFail), (0, oIload 1 40), (0, oIcNe 97 43), (1, oFail), (1, oFail), (0, oRload 6 45), (1, oFail), (2, oInvV 10 mX8_standsAndBars 0 48), (1, oFail), (1, oFail)]
set_option maxRecDepth 20000 in
theorem zX1_stepOf_2 : SndL mX1_stepOf 32 kX1_stepOf_2 := SndL.c (s_astore (by decide +kernel) (by decide)) (SndL.c (s_fail) (SndL.c (s_aload (by decide +kernel)) (SndL.c (s_fail) (SndL.c (s_getf (k := 0) clok9 (by decide) rfl (by decide) rfl w_4_130 (Or.inl rfl) (by decide +kernel)) (SndL.c (s_fail) (SndL.c (s_fail) (SndL.c (s_iload_n (k := 1) (by decide +kernel) rfl) (SndL.c (s_ic_ne (off := 57) (by decide +kernel) (by decide)) (SndL.c (s_fail) (SndL.c (s_fail) (SndL.c (s_aload (by decide +kernel)) (SndL.c (s_fail) (SndL.c (s_invV (r := (RX8, TX8, 14)) (ci := 9) okX8_standsAndBars rfl (by decide) rfl rfl w_3_141 w_3_142 w_3_143 (by decide +kernel)) (SndL.c (s_fail) (SndL.c (s_fail) (SndL.n))))))))))))))))
def kX1_stepOf_3 : List En := [(0, oIfEq 97 51), (1, oFail), (1, oFail), (0, oIload 3 52), (0, oRload 6 54), (1, oFail), (0, oGetf 10 5 0 57), (1, oFail), (1, oFail), (0, oIload 4 59), (1, oFail), (0, oIsub 60), (0, oPush (vI 360) 63), (1, oFail), (1, oFail), (0, oIdiv 64)]
set_option maxRecDepth 20000 in
theorem zX1_stepOf_3 : SndL mX1_stepOf 48 kX1_stepOf_3 := SndL.c (s_if_eq (off := 49) (by decide +kernel) (by decide)) (SndL.c (s_fail) (SndL.c (s_fail) (SndL.c (s_iload_n (k := 3) (by decide +kernel) rfl) (SndL.c (s_aload (by decide +kernel)) (SndL.c (s_fail) (SndL.c (s_getf (k := 5) clok9 (by decide) rfl (by decide) rfl w_4_145 (Or.inl rfl) (by decide +kernel)) (SndL.c (s_fail) (SndL.c (s_fail) (SndL.c (s_iload (by decide +kernel)) (SndL.c (s_fail) (SndL.c (s_isub (by decide +kernel)) (SndL.c (s_sipush (by decide +kernel) (in32_d (by decide)) (by decide +kernel)) (SndL.c (s_fail) (SndL.c (s_fail) (SndL.c (s_idiv (by decide +kernel)) (SndL.n))))))))))))))))
def kX1_stepOf_4 : List En := [(0, oIsub 65), (0, oPush (vI 0) 66), (0, oMmax 69), (1, oFail), (1, oFail), (0, oIstore 3 70), (0, oIload 3 71), (0, oRload 6 73), (1, oFail), (0, oGetf 10 10 3 76), (1, oFail), (1, oFail), (0, oIfEq 83 79), (1, oFail), (1, oFail), (0, oPush (vI 2) 80)]
set_option maxRecDepth 20000 in
theorem zX1_stepOf_4 : SndL mX1_stepOf 64 kX1_stepOf_4 := SndL.c (s_isub (by decide +kernel)) (SndL.c (s_iconst (by decide +kernel) (in32_d (by decide))) (SndL.c (s_mmax w_5_23 w_2_144 w_1_15 w_2_145 (by decide +kernel)) (SndL.c (s_fail) (SndL.c (s_fail) (SndL.c (s_istore_n (k := 3) (by decide +kernel) rfl (by decide)) (SndL.c (s_iload_n (k := 3) (by decide +kernel) rfl) (SndL.c (s_aload (by decide +kernel)) (SndL.c (s_fail) (SndL.c (s_getf (k := 10) clok9 (by decide) rfl (by decide) rfl w_4_157 (Or.inl rfl) (by decide +kernel)) (SndL.c (s_fail) (SndL.c (s_fail) (SndL.c (s_if_eq (off := 7) (by decide +kernel) (by decide)) (SndL.c (s_fail) (SndL.c (s_fail) (SndL.c (s_iconst (by decide +kernel) (in32_d (by decide))) (SndL.n))))))))))))))))
def kX1_stepOf_5 : List En := [(0, oGoto 84), (1, oFail), (1, oFail), (0, oPush (vI 1) 84), (0, oIadd 85), (0, oPush (vI 5) 86), (0, oMmin 89), (1, oFail), (1, oFail), (0, oIstore 3 90), (0, oRload 6 92), (1, oFail), (0, oGetf 10 5 0 95), (1, oFail), (1, oFail), (0, oIstore 4 97)]
set_option maxRecDepth 20000 in
theorem zX1_stepOf_5 : SndL mX1_stepOf 80 kX1_stepOf_5 := SndL.c (s_goto (off := 4) (by decide +kernel) (by decide)) (SndL.c (s_fail) (SndL.c (s_fail) (SndL.c (s_iconst (by decide +kernel) (in32_d (by decide))) (SndL.c (s_iadd (by decide +kernel)) (SndL.c (s_iconst (by decide +kernel) (in32_d (by decide))) (SndL.c (s_mmin w_5_33 w_2_178 w_1_15 w_2_179 (by decide +kernel)) (SndL.c (s_fail) (SndL.c (s_fail) (SndL.c (s_istore_n (k := 3) (by decide +kernel) rfl (by decide)) (SndL.c (s_aload (by decide +kernel)) (SndL.c (s_fail) (SndL.c (s_getf (k := 5) clok9 (by decide) rfl (by decide) rfl w_4_145 (Or.inl rfl) (by decide +kernel)) (SndL.c (s_fail) (SndL.c (s_fail) (SndL.c (s_istore (by decide +kernel) (by decide)) (SndL.n))))))))))))))))
def kX1_stepOf_6 : List En := [(1, oFail), (0, oIinc 5 1 100), (1, oFail), (1, oFail), (0, oGoto 8), (1, oFail), (1, oFail), (0, oIload 3 104), (0, oIload 2 105), (0, oIload 4 107), (1, oFail), (0, oIsub 108), (0, oPush (vI 360) 111), (1, oFail), (1, oFail), (0, oIdiv 112)]
set_option maxRecDepth 20000 in
theorem zX1_stepOf_6 : SndL mX1_stepOf 96 kX1_stepOf_6 := SndL.c (s_fail) (SndL.c (s_iinc (by decide +kernel) (by decide)) (SndL.c (s_fail) (SndL.c (s_fail) (SndL.c (s_goto (off := -92) (by decide +kernel) (by decide)) (SndL.c (s_fail) (SndL.c (s_fail) (SndL.c (s_iload_n (k := 3) (by decide +kernel) rfl) (SndL.c (s_iload_n (k := 2) (by decide +kernel) rfl) (SndL.c (s_iload (by decide +kernel)) (SndL.c (s_fail) (SndL.c (s_isub (by decide +kernel)) (SndL.c (s_sipush (by decide +kernel) (in32_d (by decide)) (by decide +kernel)) (SndL.c (s_fail) (SndL.c (s_fail) (SndL.c (s_idiv (by decide +kernel)) (SndL.n))))))))))))))))
def kX1_stepOf_7 : List En := [(0, oIsub 113), (0, oPush (vI 0) 114), (0, oMmax 117), (1, oFail), (1, oFail), (0, oRetI)]
set_option maxRecDepth 20000 in
theorem zX1_stepOf_7 : SndL mX1_stepOf 112 kX1_stepOf_7 := SndL.c (s_isub (by decide +kernel)) (SndL.c (s_iconst (by decide +kernel) (in32_d (by decide))) (SndL.c (s_mmax w_5_23 w_2_144 w_1_15 w_2_145 (by decide +kernel)) (SndL.c (s_fail) (SndL.c (s_fail) (SndL.c (s_ret_i rfl (by decide +kernel)) (SndL.n))))))
def kX1_stepOf : Cd := [kX1_stepOf_0, kX1_stepOf_1, kX1_stepOf_2, kX1_stepOf_3, kX1_stepOf_4, kX1_stepOf_5, kX1_stepOf_6, kX1_stepOf_7]
theorem zX1_stepOf : SndC mX1_stepOf 0 kX1_stepOf := SndC.c zX1_stepOf_0 (by decide) (SndC.c zX1_stepOf_1 (by decide) (SndC.c zX1_stepOf_2 (by decide) (SndC.c zX1_stepOf_3 (by decide) (SndC.c zX1_stepOf_4 (by decide) (SndC.c zX1_stepOf_5 (by decide) (SndC.c zX1_stepOf_6 (by decide) (SndC.c zX1_stepOf_7 (by decide) (SndC.n))))))))
theorem aX1_stepOf_0 : at_ kX1_stepOf 0 = (0, oPush (vI 0) 1) := rfl
theorem aX1_stepOf_1 : at_ kX1_stepOf 1 = (0, oIstore 3 2) := rfl
theorem aX1_stepOf_2 : at_ kX1_stepOf 2 = (0, oPush (vI 0) 3) := rfl
theorem aX1_stepOf_3 : at_ kX1_stepOf 3 = (0, oIstore 4 5) := rfl
theorem aX1_stepOf_5 : at_ kX1_stepOf 5 = (0, oPush (vI 0) 6) := rfl
theorem aX1_stepOf_6 : at_ kX1_stepOf 6 = (0, oIstore 5 8) := rfl
theorem aX1_stepOf_8 : at_ kX1_stepOf 8 = (1, oIload 5 10) := rfl
theorem aX1_stepOf_10 : at_ kX1_stepOf 10 = (0, oRload 0 11) := rfl
theorem aX1_stepOf_11 : at_ kX1_stepOf 11 = (0, oGetf 3 2 2 14) := rfl
theorem aX1_stepOf_14 : at_ kX1_stepOf 14 = (2, oInvV 1 mJx4a65c_size_8abf5 0 17) := rfl
theorem aX1_stepOf_17 : at_ kX1_stepOf 17 = (0, oIcGe 103 20) := rfl
theorem aX1_stepOf_20 : at_ kX1_stepOf 20 = (0, oRload 0 21) := rfl
theorem aX1_stepOf_21 : at_ kX1_stepOf 21 = (0, oGetf 3 2 2 24) := rfl
theorem aX1_stepOf_24 : at_ kX1_stepOf 24 = (0, oIload 5 26) := rfl
theorem aX1_stepOf_26 : at_ kX1_stepOf 26 = (2, oInvV 1 mJx4a65c_get_915e3 1 29) := rfl
theorem aX1_stepOf_29 : at_ kX1_stepOf 29 = (0, oCast 10 32) := rfl
theorem aX1_stepOf_32 : at_ kX1_stepOf 32 = (0, oRstore 6 34) := rfl
theorem aX1_stepOf_34 : at_ kX1_stepOf 34 = (0, oRload 6 36) := rfl
theorem aX1_stepOf_36 : at_ kX1_stepOf 36 = (0, oGetf 10 0 0 39) := rfl
theorem aX1_stepOf_39 : at_ kX1_stepOf 39 = (0, oIload 1 40) := rfl
theorem aX1_stepOf_40 : at_ kX1_stepOf 40 = (0, oIcNe 97 43) := rfl
theorem aX1_stepOf_43 : at_ kX1_stepOf 43 = (0, oRload 6 45) := rfl
theorem aX1_stepOf_45 : at_ kX1_stepOf 45 = (2, oInvV 10 mX8_standsAndBars 0 48) := rfl
theorem aX1_stepOf_48 : at_ kX1_stepOf 48 = (0, oIfEq 97 51) := rfl
theorem aX1_stepOf_51 : at_ kX1_stepOf 51 = (0, oIload 3 52) := rfl
theorem aX1_stepOf_52 : at_ kX1_stepOf 52 = (0, oRload 6 54) := rfl
theorem aX1_stepOf_54 : at_ kX1_stepOf 54 = (0, oGetf 10 5 0 57) := rfl
theorem aX1_stepOf_57 : at_ kX1_stepOf 57 = (0, oIload 4 59) := rfl
theorem aX1_stepOf_59 : at_ kX1_stepOf 59 = (0, oIsub 60) := rfl
theorem aX1_stepOf_60 : at_ kX1_stepOf 60 = (0, oPush (vI 360) 63) := rfl
theorem aX1_stepOf_63 : at_ kX1_stepOf 63 = (0, oIdiv 64) := rfl
theorem aX1_stepOf_64 : at_ kX1_stepOf 64 = (0, oIsub 65) := rfl
theorem aX1_stepOf_65 : at_ kX1_stepOf 65 = (0, oPush (vI 0) 66) := rfl
theorem aX1_stepOf_66 : at_ kX1_stepOf 66 = (0, oMmax 69) := rfl
theorem aX1_stepOf_69 : at_ kX1_stepOf 69 = (0, oIstore 3 70) := rfl
theorem aX1_stepOf_70 : at_ kX1_stepOf 70 = (0, oIload 3 71) := rfl
theorem aX1_stepOf_71 : at_ kX1_stepOf 71 = (0, oRload 6 73) := rfl
theorem aX1_stepOf_73 : at_ kX1_stepOf 73 = (0, oGetf 10 10 3 76) := rfl
theorem aX1_stepOf_76 : at_ kX1_stepOf 76 = (0, oIfEq 83 79) := rfl
theorem aX1_stepOf_79 : at_ kX1_stepOf 79 = (0, oPush (vI 2) 80) := rfl
theorem aX1_stepOf_80 : at_ kX1_stepOf 80 = (0, oGoto 84) := rfl
theorem aX1_stepOf_83 : at_ kX1_stepOf 83 = (0, oPush (vI 1) 84) := rfl
theorem aX1_stepOf_84 : at_ kX1_stepOf 84 = (0, oIadd 85) := rfl
theorem aX1_stepOf_85 : at_ kX1_stepOf 85 = (0, oPush (vI 5) 86) := rfl
theorem aX1_stepOf_86 : at_ kX1_stepOf 86 = (0, oMmin 89) := rfl
theorem aX1_stepOf_89 : at_ kX1_stepOf 89 = (0, oIstore 3 90) := rfl
theorem aX1_stepOf_90 : at_ kX1_stepOf 90 = (0, oRload 6 92) := rfl
theorem aX1_stepOf_92 : at_ kX1_stepOf 92 = (0, oGetf 10 5 0 95) := rfl
theorem aX1_stepOf_95 : at_ kX1_stepOf 95 = (0, oIstore 4 97) := rfl
theorem aX1_stepOf_97 : at_ kX1_stepOf 97 = (0, oIinc 5 1 100) := rfl
theorem aX1_stepOf_100 : at_ kX1_stepOf 100 = (0, oGoto 8) := rfl
theorem aX1_stepOf_103 : at_ kX1_stepOf 103 = (0, oIload 3 104) := rfl
theorem aX1_stepOf_104 : at_ kX1_stepOf 104 = (0, oIload 2 105) := rfl
theorem aX1_stepOf_105 : at_ kX1_stepOf 105 = (0, oIload 4 107) := rfl
theorem aX1_stepOf_107 : at_ kX1_stepOf 107 = (0, oIsub 108) := rfl
theorem aX1_stepOf_108 : at_ kX1_stepOf 108 = (0, oPush (vI 360) 111) := rfl
theorem aX1_stepOf_111 : at_ kX1_stepOf 111 = (0, oIdiv 112) := rfl
theorem aX1_stepOf_112 : at_ kX1_stepOf 112 = (0, oIsub 113) := rfl
theorem aX1_stepOf_113 : at_ kX1_stepOf 113 = (0, oPush (vI 0) 114) := rfl
theorem aX1_stepOf_114 : at_ kX1_stepOf 114 = (0, oMmax 117) := rfl
theorem aX1_stepOf_117 : at_ kX1_stepOf 117 = (0, oRetI) := rfl
def kX1_rulingsIn_0 : List En := [(0, oPush (vI 0) 1), (0, oIstore 2 2), (0, oPush (vI 0) 3), (0, oIstore 3 4), (1, oIload 3 5), (0, oRload 0 6), (0, oGetf 3 2 2 9), (1, oFail), (1, oFail), (2, oInvV 1 mJx4a65c_size_8abf5 0 12), (1, oFail), (1, oFail), (0, oIcGe 47 15), (1, oFail), (1, oFail), (0, oIload 2 16)]
set_option maxRecDepth 20000 in
theorem zX1_rulingsIn_0 : SndL mX1_rulingsIn 0 kX1_rulingsIn_0 := SndL.c (s_iconst (by decide +kernel) (in32_d (by decide))) (SndL.c (s_istore_n (k := 2) (by decide +kernel) rfl (by decide)) (SndL.c (s_iconst (by decide +kernel) (in32_d (by decide))) (SndL.c (s_istore_n (k := 3) (by decide +kernel) rfl (by decide)) (SndL.c (s_iload_n (k := 3) (by decide +kernel) rfl) (SndL.c (s_aload_n (k := 0) (by decide +kernel) rfl) (SndL.c (s_getf (k := 2) clok2 (by decide) rfl (by decide) rfl w_1_95 (Or.inl rfl) (by decide +kernel)) (SndL.c (s_fail) (SndL.c (s_fail) (SndL.c (s_invV (r := (RJx4a65c, TJx4a65c, 3)) (ci := 0) okJx4a65c_size_8abf5 rfl (by decide) rfl rfl w_3_138 w_2_64 w_2_65 (by decide +kernel)) (SndL.c (s_fail) (SndL.c (s_fail) (SndL.c (s_ic_ge (off := 35) (by decide +kernel) (by decide)) (SndL.c (s_fail) (SndL.c (s_fail) (SndL.c (s_iload_n (k := 2) (by decide +kernel) rfl) (SndL.n))))))))))))))))
def kX1_rulingsIn_1 : List En := [(0, oRload 0 17), (0, oGetf 3 2 2 20), (1, oFail), (1, oFail), (0, oIload 3 21), (2, oInvV 1 mJx4a65c_get_915e3 1 24), (1, oFail), (1, oFail), (0, oCast 10 27), (1, oFail), (1, oFail), (0, oGetf 10 13 0 30), (1, oFail), (1, oFail), (0, oIload 1 31), (0, oIcNe 38 34)]
set_option maxRecDepth 20000 in
theorem zX1_rulingsIn_1 : SndL mX1_rulingsIn 16 kX1_rulingsIn_1 := SndL.c (s_aload_n (k := 0) (by decide +kernel) rfl) (SndL.c (s_getf (k := 2) clok2 (by decide) rfl (by decide) rfl w_1_95 (Or.inl rfl) (by decide +kernel)) (SndL.c (s_fail) (SndL.c (s_fail) (SndL.c (s_iload_n (k := 3) (by decide +kernel) rfl) (SndL.c (s_invV (r := (RJx4a65c, TJx4a65c, 3)) (ci := 0) okJx4a65c_get_915e3 rfl (by decide) rfl rfl w_3_139 w_2_192 w_2_193 (by decide +kernel)) (SndL.c (s_fail) (SndL.c (s_fail) (SndL.c (s_cast (r := (RX8, TX8, 14)) (ci := 9) rfl (by decide) rfl w_3_140 (by decide +kernel)) (SndL.c (s_fail) (SndL.c (s_fail) (SndL.c (s_getf (k := 13) clok9 (by decide) rfl (by decide) rfl w_4_165 (Or.inl rfl) (by decide +kernel)) (SndL.c (s_fail) (SndL.c (s_fail) (SndL.c (s_iload_n (k := 1) (by decide +kernel) rfl) (SndL.c (s_ic_ne (off := 7) (by decide +kernel) (by decide)) (SndL.n))))))))))))))))
def kX1_rulingsIn_2 : List En := [(1, oFail), (1, oFail), (0, oPush (vI 1) 35), (0, oGoto 39), (1, oFail), (1, oFail), (0, oPush (vI 0) 39), (0, oIadd 40), (0, oIstore 2 41), (0, oIinc 3 1 44), (1, oFail), (1, oFail), (0, oGoto 4), (1, oFail), (1, oFail), (0, oIload 2 48)]
set_option maxRecDepth 20000 in
theorem zX1_rulingsIn_2 : SndL mX1_rulingsIn 32 kX1_rulingsIn_2 := SndL.c (s_fail) (SndL.c (s_fail) (SndL.c (s_iconst (by decide +kernel) (in32_d (by decide))) (SndL.c (s_goto (off := 4) (by decide +kernel) (by decide)) (SndL.c (s_fail) (SndL.c (s_fail) (SndL.c (s_iconst (by decide +kernel) (in32_d (by decide))) (SndL.c (s_iadd (by decide +kernel)) (SndL.c (s_istore_n (k := 2) (by decide +kernel) rfl (by decide)) (SndL.c (s_iinc (by decide +kernel) (by decide)) (SndL.c (s_fail) (SndL.c (s_fail) (SndL.c (s_goto (off := -40) (by decide +kernel) (by decide)) (SndL.c (s_fail) (SndL.c (s_fail) (SndL.c (s_iload_n (k := 2) (by decide +kernel) rfl) (SndL.n))))))))))))))))
def kX1_rulingsIn_3 : List En := [(0, oRetI)]
set_option maxRecDepth 20000 in
theorem zX1_rulingsIn_3 : SndL mX1_rulingsIn 48 kX1_rulingsIn_3 := SndL.c (s_ret_i rfl (by decide +kernel)) (SndL.n)
def kX1_rulingsIn : Cd := [kX1_rulingsIn_0, kX1_rulingsIn_1, kX1_rulingsIn_2, kX1_rulingsIn_3]
theorem zX1_rulingsIn : SndC mX1_rulingsIn 0 kX1_rulingsIn := SndC.c zX1_rulingsIn_0 (by decide) (SndC.c zX1_rulingsIn_1 (by decide) (SndC.c zX1_rulingsIn_2 (by decide) (SndC.c zX1_rulingsIn_3 (by decide) (SndC.n))))
theorem aX1_rulingsIn_0 : at_ kX1_rulingsIn 0 = (0, oPush (vI 0) 1) := rfl
theorem aX1_rulingsIn_1 : at_ kX1_rulingsIn 1 = (0, oIstore 2 2) := rfl
theorem aX1_rulingsIn_2 : at_ kX1_rulingsIn 2 = (0, oPush (vI 0) 3) := rfl
theorem aX1_rulingsIn_3 : at_ kX1_rulingsIn 3 = (0, oIstore 3 4) := rfl
theorem aX1_rulingsIn_4 : at_ kX1_rulingsIn 4 = (1, oIload 3 5) := rfl
theorem aX1_rulingsIn_5 : at_ kX1_rulingsIn 5 = (0, oRload 0 6) := rfl
theorem aX1_rulingsIn_6 : at_ kX1_rulingsIn 6 = (0, oGetf 3 2 2 9) := rfl
theorem aX1_rulingsIn_9 : at_ kX1_rulingsIn 9 = (2, oInvV 1 mJx4a65c_size_8abf5 0 12) := rfl
theorem aX1_rulingsIn_12 : at_ kX1_rulingsIn 12 = (0, oIcGe 47 15) := rfl
theorem aX1_rulingsIn_15 : at_ kX1_rulingsIn 15 = (0, oIload 2 16) := rfl
theorem aX1_rulingsIn_16 : at_ kX1_rulingsIn 16 = (0, oRload 0 17) := rfl
theorem aX1_rulingsIn_17 : at_ kX1_rulingsIn 17 = (0, oGetf 3 2 2 20) := rfl
theorem aX1_rulingsIn_20 : at_ kX1_rulingsIn 20 = (0, oIload 3 21) := rfl
theorem aX1_rulingsIn_21 : at_ kX1_rulingsIn 21 = (2, oInvV 1 mJx4a65c_get_915e3 1 24) := rfl
theorem aX1_rulingsIn_24 : at_ kX1_rulingsIn 24 = (0, oCast 10 27) := rfl
theorem aX1_rulingsIn_27 : at_ kX1_rulingsIn 27 = (0, oGetf 10 13 0 30) := rfl
theorem aX1_rulingsIn_30 : at_ kX1_rulingsIn 30 = (0, oIload 1 31) := rfl
theorem aX1_rulingsIn_31 : at_ kX1_rulingsIn 31 = (0, oIcNe 38 34) := rfl
theorem aX1_rulingsIn_34 : at_ kX1_rulingsIn 34 = (0, oPush (vI 1) 35) := rfl
theorem aX1_rulingsIn_35 : at_ kX1_rulingsIn 35 = (0, oGoto 39) := rfl
theorem aX1_rulingsIn_38 : at_ kX1_rulingsIn 38 = (0, oPush (vI 0) 39) := rfl
theorem aX1_rulingsIn_39 : at_ kX1_rulingsIn 39 = (0, oIadd 40) := rfl
theorem aX1_rulingsIn_40 : at_ kX1_rulingsIn 40 = (0, oIstore 2 41) := rfl
theorem aX1_rulingsIn_41 : at_ kX1_rulingsIn 41 = (0, oIinc 3 1 44) := rfl
theorem aX1_rulingsIn_44 : at_ kX1_rulingsIn 44 = (0, oGoto 4) := rfl
theorem aX1_rulingsIn_47 : at_ kX1_rulingsIn 47 = (0, oIload 2 48) := rfl
theorem aX1_rulingsIn_48 : at_ kX1_rulingsIn 48 = (0, oRetI) := rfl
def kX1_standingBars_0 : List En := [(0, oPush (vI 0) 1), (0, oIstore 1 2), (0, oPush (vI 0) 3), (0, oIstore 2 4), (1, oIload 2 5), (0, oRload 0 6), (0, oGetf 3 2 2 9), (1, oFail), (1, oFail), (2, oInvV 1 mJx4a65c_size_8abf5 0 12), (1, oFail), (1, oFail), (0, oIcGe 46 15), (1, oFail), (1, oFail), (0, oIload 1 16)]
set_option maxRecDepth 20000 in
theorem zX1_standingBars_0 : SndL mX1_standingBars 0 kX1_standingBars_0 := SndL.c (s_iconst (by decide +kernel) (in32_d (by decide))) (SndL.c (s_istore_n (k := 1) (by decide +kernel) rfl (by decide)) (SndL.c (s_iconst (by decide +kernel) (in32_d (by decide))) (SndL.c (s_istore_n (k := 2) (by decide +kernel) rfl (by decide)) (SndL.c (s_iload_n (k := 2) (by decide +kernel) rfl) (SndL.c (s_aload_n (k := 0) (by decide +kernel) rfl) (SndL.c (s_getf (k := 2) clok2 (by decide) rfl (by decide) rfl w_1_95 (Or.inl rfl) (by decide +kernel)) (SndL.c (s_fail) (SndL.c (s_fail) (SndL.c (s_invV (r := (RJx4a65c, TJx4a65c, 3)) (ci := 0) okJx4a65c_size_8abf5 rfl (by decide) rfl rfl w_3_138 w_2_64 w_2_65 (by decide +kernel)) (SndL.c (s_fail) (SndL.c (s_fail) (SndL.c (s_ic_ge (off := 34) (by decide +kernel) (by decide)) (SndL.c (s_fail) (SndL.c (s_fail) (SndL.c (s_iload_n (k := 1) (by decide +kernel) rfl) (SndL.n))))))))))))))))
def kX1_standingBars_1 : List En := [(0, oRload 0 17), (0, oGetf 3 2 2 20), (1, oFail), (1, oFail), (0, oIload 2 21), (2, oInvV 1 mJx4a65c_get_915e3 1 24), (1, oFail), (1, oFail), (0, oCast 10 27), (1, oFail), (1, oFail), (2, oInvV 10 mX8_standsAndBars 0 30), (1, oFail), (1, oFail), (0, oIfEq 37 33), (1, oFail)]
set_option maxRecDepth 20000 in
theorem zX1_standingBars_1 : SndL mX1_standingBars 16 kX1_standingBars_1 := SndL.c (s_aload_n (k := 0) (by decide +kernel) rfl) (SndL.c (s_getf (k := 2) clok2 (by decide) rfl (by decide) rfl w_1_95 (Or.inl rfl) (by decide +kernel)) (SndL.c (s_fail) (SndL.c (s_fail) (SndL.c (s_iload_n (k := 2) (by decide +kernel) rfl) (SndL.c (s_invV (r := (RJx4a65c, TJx4a65c, 3)) (ci := 0) okJx4a65c_get_915e3 rfl (by decide) rfl rfl w_3_139 w_2_192 w_2_193 (by decide +kernel)) (SndL.c (s_fail) (SndL.c (s_fail) (SndL.c (s_cast (r := (RX8, TX8, 14)) (ci := 9) rfl (by decide) rfl w_3_140 (by decide +kernel)) (SndL.c (s_fail) (SndL.c (s_fail) (SndL.c (s_invV (r := (RX8, TX8, 14)) (ci := 9) okX8_standsAndBars rfl (by decide) rfl rfl w_3_141 w_3_142 w_3_143 (by decide +kernel)) (SndL.c (s_fail) (SndL.c (s_fail) (SndL.c (s_if_eq (off := 7) (by decide +kernel) (by decide)) (SndL.c (s_fail) (SndL.n))))))))))))))))
def kX1_standingBars_2 : List En := [(1, oFail), (0, oPush (vI 1) 34), (0, oGoto 38), (1, oFail), (1, oFail), (0, oPush (vI 0) 38), (0, oIadd 39), (0, oIstore 1 40), (0, oIinc 2 1 43), (1, oFail), (1, oFail), (0, oGoto 4), (1, oFail), (1, oFail), (0, oIload 1 47), (0, oRetI)]
set_option maxRecDepth 20000 in
theorem zX1_standingBars_2 : SndL mX1_standingBars 32 kX1_standingBars_2 := SndL.c (s_fail) (SndL.c (s_iconst (by decide +kernel) (in32_d (by decide))) (SndL.c (s_goto (off := 4) (by decide +kernel) (by decide)) (SndL.c (s_fail) (SndL.c (s_fail) (SndL.c (s_iconst (by decide +kernel) (in32_d (by decide))) (SndL.c (s_iadd (by decide +kernel)) (SndL.c (s_istore_n (k := 1) (by decide +kernel) rfl (by decide)) (SndL.c (s_iinc (by decide +kernel) (by decide)) (SndL.c (s_fail) (SndL.c (s_fail) (SndL.c (s_goto (off := -39) (by decide +kernel) (by decide)) (SndL.c (s_fail) (SndL.c (s_fail) (SndL.c (s_iload_n (k := 1) (by decide +kernel) rfl) (SndL.c (s_ret_i rfl (by decide +kernel)) (SndL.n))))))))))))))))
def kX1_standingBars : Cd := [kX1_standingBars_0, kX1_standingBars_1, kX1_standingBars_2]
theorem zX1_standingBars : SndC mX1_standingBars 0 kX1_standingBars := SndC.c zX1_standingBars_0 (by decide) (SndC.c zX1_standingBars_1 (by decide) (SndC.c zX1_standingBars_2 (by decide) (SndC.n)))
theorem aX1_standingBars_0 : at_ kX1_standingBars 0 = (0, oPush (vI 0) 1) := rfl
theorem aX1_standingBars_1 : at_ kX1_standingBars 1 = (0, oIstore 1 2) := rfl
theorem aX1_standingBars_2 : at_ kX1_standingBars 2 = (0, oPush (vI 0) 3) := rfl
theorem aX1_standingBars_3 : at_ kX1_standingBars 3 = (0, oIstore 2 4) := rfl
theorem aX1_standingBars_4 : at_ kX1_standingBars 4 = (1, oIload 2 5) := rfl
theorem aX1_standingBars_5 : at_ kX1_standingBars 5 = (0, oRload 0 6) := rfl
theorem aX1_standingBars_6 : at_ kX1_standingBars 6 = (0, oGetf 3 2 2 9) := rfl
theorem aX1_standingBars_9 : at_ kX1_standingBars 9 = (2, oInvV 1 mJx4a65c_size_8abf5 0 12) := rfl
theorem aX1_standingBars_12 : at_ kX1_standingBars 12 = (0, oIcGe 46 15) := rfl
theorem aX1_standingBars_15 : at_ kX1_standingBars 15 = (0, oIload 1 16) := rfl
theorem aX1_standingBars_16 : at_ kX1_standingBars 16 = (0, oRload 0 17) := rfl
theorem aX1_standingBars_17 : at_ kX1_standingBars 17 = (0, oGetf 3 2 2 20) := rfl
theorem aX1_standingBars_20 : at_ kX1_standingBars 20 = (0, oIload 2 21) := rfl
theorem aX1_standingBars_21 : at_ kX1_standingBars 21 = (2, oInvV 1 mJx4a65c_get_915e3 1 24) := rfl
theorem aX1_standingBars_24 : at_ kX1_standingBars 24 = (0, oCast 10 27) := rfl
theorem aX1_standingBars_27 : at_ kX1_standingBars 27 = (2, oInvV 10 mX8_standsAndBars 0 30) := rfl
theorem aX1_standingBars_30 : at_ kX1_standingBars 30 = (0, oIfEq 37 33) := rfl
theorem aX1_standingBars_33 : at_ kX1_standingBars 33 = (0, oPush (vI 1) 34) := rfl
theorem aX1_standingBars_34 : at_ kX1_standingBars 34 = (0, oGoto 38) := rfl
theorem aX1_standingBars_37 : at_ kX1_standingBars 37 = (0, oPush (vI 0) 38) := rfl
theorem aX1_standingBars_38 : at_ kX1_standingBars 38 = (0, oIadd 39) := rfl
theorem aX1_standingBars_39 : at_ kX1_standingBars 39 = (0, oIstore 1 40) := rfl
theorem aX1_standingBars_40 : at_ kX1_standingBars 40 = (0, oIinc 2 1 43) := rfl
theorem aX1_standingBars_43 : at_ kX1_standingBars 43 = (0, oGoto 4) := rfl
theorem aX1_standingBars_46 : at_ kX1_standingBars 46 = (0, oIload 1 47) := rfl
theorem aX1_standingBars_47 : at_ kX1_standingBars 47 = (0, oRetI) := rfl
def kX2_init_0 : List En := [(0, oRload 0 1), (0, oObji 4), (1, oFail), (1, oFail), (0, oRload 0 5), (0, oIload 1 6), (0, oPutf 4 0 0 9), (1, oFail), (1, oFail), (0, oRload 0 10), (0, oRload 2 11), (0, oPutf 4 1 2 14), (1, oFail), (1, oFail), (0, oRload 0 15), (0, oIload 3 16)]
set_option maxRecDepth 20000 in
theorem zX2_init_0 : SndL mX2_init 0 kX2_init_0 := SndL.c (s_aload_n (k := 0) (by decide +kernel) rfl) (SndL.c (s_obji w_3_2 w_1_33 w_1_34 (by decide +kernel)) (SndL.c (s_fail) (SndL.c (s_fail) (SndL.c (s_aload_n (k := 0) (by decide +kernel) rfl) (SndL.c (s_iload_n (k := 1) (by decide +kernel) rfl) (SndL.c (s_putf (k := 0) clok3 (by decide) rfl (by decide) rfl w_3_3 (Or.inl rfl) (Or.inr ⟨rfl, rfl, rfl⟩) (by decide +kernel)) (SndL.c (s_fail) (SndL.c (s_fail) (SndL.c (s_aload_n (k := 0) (by decide +kernel) rfl) (SndL.c (s_aload_n (k := 2) (by decide +kernel) rfl) (SndL.c (s_putf (k := 1) clok3 (by decide) rfl (by decide) rfl w_3_6 (Or.inl rfl) (Or.inr ⟨rfl, rfl, rfl⟩) (by decide +kernel)) (SndL.c (s_fail) (SndL.c (s_fail) (SndL.c (s_aload_n (k := 0) (by decide +kernel) rfl) (SndL.c (s_iload_n (k := 3) (by decide +kernel) rfl) (SndL.n))))))))))))))))
def kX2_init_1 : List En := [(0, oPutf 4 2 0 19), (1, oFail), (1, oFail), (0, oRload 0 20), (0, oIload 4 22), (1, oFail), (0, oPush (vI 1000) 25), (1, oFail), (1, oFail), (0, oIdiv 26), (0, oPutf 4 3 0 29), (1, oFail), (1, oFail), (0, oRload 0 30), (0, oIload 4 32), (1, oFail)]
set_option maxRecDepth 20000 in
theorem zX2_init_1 : SndL mX2_init 16 kX2_init_1 := SndL.c (s_putf (k := 2) clok3 (by decide) rfl (by decide) rfl w_3_7 (Or.inl rfl) (Or.inr ⟨rfl, rfl, rfl⟩) (by decide +kernel)) (SndL.c (s_fail) (SndL.c (s_fail) (SndL.c (s_aload_n (k := 0) (by decide +kernel) rfl) (SndL.c (s_iload (by decide +kernel)) (SndL.c (s_fail) (SndL.c (s_sipush (by decide +kernel) (in32_d (by decide)) (by decide +kernel)) (SndL.c (s_fail) (SndL.c (s_fail) (SndL.c (s_idiv (by decide +kernel)) (SndL.c (s_putf (k := 3) clok3 (by decide) rfl (by decide) rfl w_3_12 (Or.inl rfl) (Or.inr ⟨rfl, rfl, rfl⟩) (by decide +kernel)) (SndL.c (s_fail) (SndL.c (s_fail) (SndL.c (s_aload_n (k := 0) (by decide +kernel) rfl) (SndL.c (s_iload (by decide +kernel)) (SndL.c (s_fail) (SndL.n))))))))))))))))
def kX2_init_2 : List En := [(0, oPush (vI 1000) 35), (1, oFail), (1, oFail), (0, oIrem 36), (0, oPutf 4 4 0 39), (1, oFail), (1, oFail), (0, oRload 0 40), (0, oRload 5 42), (1, oFail), (0, oPutf 4 5 2 45), (1, oFail), (1, oFail), (0, oRetV)]
set_option maxRecDepth 20000 in
theorem zX2_init_2 : SndL mX2_init 32 kX2_init_2 := SndL.c (s_sipush (by decide +kernel) (in32_d (by decide)) (by decide +kernel)) (SndL.c (s_fail) (SndL.c (s_fail) (SndL.c (s_irem (by decide +kernel)) (SndL.c (s_putf (k := 4) clok3 (by decide) rfl (by decide) rfl w_3_17 (Or.inl rfl) (Or.inr ⟨rfl, rfl, rfl⟩) (by decide +kernel)) (SndL.c (s_fail) (SndL.c (s_fail) (SndL.c (s_aload_n (k := 0) (by decide +kernel) rfl) (SndL.c (s_aload (by decide +kernel)) (SndL.c (s_fail) (SndL.c (s_putf (k := 5) clok3 (by decide) rfl (by decide) rfl w_3_22 (Or.inl rfl) (Or.inr ⟨rfl, rfl, rfl⟩) (by decide +kernel)) (SndL.c (s_fail) (SndL.c (s_fail) (SndL.c (s_ret_v rfl (by decide +kernel)) (SndL.n))))))))))))))
def kX2_init : Cd := [kX2_init_0, kX2_init_1, kX2_init_2]
theorem zX2_init : SndC mX2_init 0 kX2_init := SndC.c zX2_init_0 (by decide) (SndC.c zX2_init_1 (by decide) (SndC.c zX2_init_2 (by decide) (SndC.n)))
theorem aX2_init_0 : at_ kX2_init 0 = (0, oRload 0 1) := rfl
theorem aX2_init_1 : at_ kX2_init 1 = (0, oObji 4) := rfl
theorem aX2_init_4 : at_ kX2_init 4 = (0, oRload 0 5) := rfl
theorem aX2_init_5 : at_ kX2_init 5 = (0, oIload 1 6) := rfl
theorem aX2_init_6 : at_ kX2_init 6 = (0, oPutf 4 0 0 9) := rfl
theorem aX2_init_9 : at_ kX2_init 9 = (0, oRload 0 10) := rfl
theorem aX2_init_10 : at_ kX2_init 10 = (0, oRload 2 11) := rfl
theorem aX2_init_11 : at_ kX2_init 11 = (0, oPutf 4 1 2 14) := rfl
theorem aX2_init_14 : at_ kX2_init 14 = (0, oRload 0 15) := rfl
theorem aX2_init_15 : at_ kX2_init 15 = (0, oIload 3 16) := rfl
theorem aX2_init_16 : at_ kX2_init 16 = (0, oPutf 4 2 0 19) := rfl
theorem aX2_init_19 : at_ kX2_init 19 = (0, oRload 0 20) := rfl
theorem aX2_init_20 : at_ kX2_init 20 = (0, oIload 4 22) := rfl
theorem aX2_init_22 : at_ kX2_init 22 = (0, oPush (vI 1000) 25) := rfl
theorem aX2_init_25 : at_ kX2_init 25 = (0, oIdiv 26) := rfl
theorem aX2_init_26 : at_ kX2_init 26 = (0, oPutf 4 3 0 29) := rfl
theorem aX2_init_29 : at_ kX2_init 29 = (0, oRload 0 30) := rfl
theorem aX2_init_30 : at_ kX2_init 30 = (0, oIload 4 32) := rfl
theorem aX2_init_32 : at_ kX2_init 32 = (0, oPush (vI 1000) 35) := rfl
theorem aX2_init_35 : at_ kX2_init 35 = (0, oIrem 36) := rfl
theorem aX2_init_36 : at_ kX2_init 36 = (0, oPutf 4 4 0 39) := rfl
theorem aX2_init_39 : at_ kX2_init 39 = (0, oRload 0 40) := rfl
theorem aX2_init_40 : at_ kX2_init 40 = (0, oRload 5 42) := rfl
theorem aX2_init_42 : at_ kX2_init 42 = (0, oPutf 4 5 2 45) := rfl
theorem aX2_init_45 : at_ kX2_init 45 = (0, oRetV) := rfl
def kX2_isAt_0 : List En := [(0, oIload 1 1), (0, oIfLt 21 4), (1, oFail), (1, oFail), (0, oIload 3 5), (0, oRload 2 6), (0, oAlen 7), (0, oIcGt 21 10), (1, oFail), (1, oFail), (0, oRload 0 11), (0, oGetf 4 1 2 14), (1, oFail), (1, oFail), (0, oAlen 15), (0, oIload 3 16)]
set_option maxRecDepth 20000 in
theorem zX2_isAt_0 : SndL mX2_isAt 0 kX2_isAt_0 := SndL.c (s_iload_n (k := 1) (by decide +kernel) rfl) (SndL.c (s_if_lt (off := 20) (by decide +kernel) (by decide)) (SndL.c (s_fail) (SndL.c (s_fail) (SndL.c (s_iload_n (k := 3) (by decide +kernel) rfl) (SndL.c (s_aload_n (k := 2) (by decide +kernel) rfl) (SndL.c (s_alen (by decide +kernel)) (SndL.c (s_ic_gt (off := 14) (by decide +kernel) (by decide)) (SndL.c (s_fail) (SndL.c (s_fail) (SndL.c (s_aload_n (k := 0) (by decide +kernel) rfl) (SndL.c (s_getf (k := 1) clok3 (by decide) rfl (by decide) rfl w_3_6 (Or.inl rfl) (by decide +kernel)) (SndL.c (s_fail) (SndL.c (s_fail) (SndL.c (s_alen (by decide +kernel)) (SndL.c (s_iload_n (k := 3) (by decide +kernel) rfl) (SndL.n))))))))))))))))
def kX2_isAt_1 : List En := [(0, oIload 1 17), (0, oIsub 18), (0, oIcLe 23 21), (1, oFail), (1, oFail), (0, oPush (vI 0) 22), (0, oRetZ), (0, oPush (vI 0) 24), (0, oIstore 4 26), (1, oFail), (1, oIload 4 28), (1, oFail), (0, oRload 0 29), (0, oGetf 4 1 2 32), (1, oFail), (1, oFail)]
set_option maxRecDepth 20000 in
theorem zX2_isAt_1 : SndL mX2_isAt 16 kX2_isAt_1 := SndL.c (s_iload_n (k := 1) (by decide +kernel) rfl) (SndL.c (s_isub (by decide +kernel)) (SndL.c (s_ic_le (off := 5) (by decide +kernel) (by decide)) (SndL.c (s_fail) (SndL.c (s_fail) (SndL.c (s_iconst (by decide +kernel) (in32_d (by decide))) (SndL.c (s_ret_z rfl (by decide +kernel)) (SndL.c (s_iconst (by decide +kernel) (in32_d (by decide))) (SndL.c (s_istore (by decide +kernel) (by decide)) (SndL.c (s_fail) (SndL.c (s_iload (by decide +kernel)) (SndL.c (s_fail) (SndL.c (s_aload_n (k := 0) (by decide +kernel) rfl) (SndL.c (s_getf (k := 1) clok3 (by decide) rfl (by decide) rfl w_3_6 (Or.inl rfl) (by decide +kernel)) (SndL.c (s_fail) (SndL.c (s_fail) (SndL.n))))))))))))))))
def kX2_isAt_2 : List En := [(0, oAlen 33), (0, oIcGe 60 36), (1, oFail), (1, oFail), (0, oRload 0 37), (0, oGetf 4 1 2 40), (1, oFail), (1, oFail), (0, oIload 4 42), (1, oFail), (0, oIald 43), (0, oRload 2 44), (0, oIload 1 45), (0, oIload 4 47), (1, oFail), (0, oIadd 48)]
set_option maxRecDepth 20000 in
theorem zX2_isAt_2 : SndL mX2_isAt 32 kX2_isAt_2 := SndL.c (s_alen (by decide +kernel)) (SndL.c (s_ic_ge (off := 27) (by decide +kernel) (by decide)) (SndL.c (s_fail) (SndL.c (s_fail) (SndL.c (s_aload_n (k := 0) (by decide +kernel) rfl) (SndL.c (s_getf (k := 1) clok3 (by decide) rfl (by decide) rfl w_3_6 (Or.inl rfl) (by decide +kernel)) (SndL.c (s_fail) (SndL.c (s_fail) (SndL.c (s_iload (by decide +kernel)) (SndL.c (s_fail) (SndL.c (s_iald (by decide +kernel)) (SndL.c (s_aload_n (k := 2) (by decide +kernel) rfl) (SndL.c (s_iload_n (k := 1) (by decide +kernel) rfl) (SndL.c (s_iload (by decide +kernel)) (SndL.c (s_fail) (SndL.c (s_iadd (by decide +kernel)) (SndL.n))))))))))))))))
def kX2_isAt_3 : List En := [(0, oIald 49), (0, oIcEq 54 52), (1, oFail), (1, oFail), (0, oPush (vI 0) 53), (0, oRetZ), (0, oIinc 4 1 57), (1, oFail), (1, oFail), (0, oGoto 26), (1, oFail), (1, oFail), (0, oPush (vI 1) 61), (0, oRetZ)]
set_option maxRecDepth 20000 in
theorem zX2_isAt_3 : SndL mX2_isAt 48 kX2_isAt_3 := SndL.c (s_iald (by decide +kernel)) (SndL.c (s_ic_eq (off := 5) (by decide +kernel) (by decide)) (SndL.c (s_fail) (SndL.c (s_fail) (SndL.c (s_iconst (by decide +kernel) (in32_d (by decide))) (SndL.c (s_ret_z rfl (by decide +kernel)) (SndL.c (s_iinc (by decide +kernel) (by decide)) (SndL.c (s_fail) (SndL.c (s_fail) (SndL.c (s_goto (off := -31) (by decide +kernel) (by decide)) (SndL.c (s_fail) (SndL.c (s_fail) (SndL.c (s_iconst (by decide +kernel) (in32_d (by decide))) (SndL.c (s_ret_z rfl (by decide +kernel)) (SndL.n))))))))))))))
def kX2_isAt : Cd := [kX2_isAt_0, kX2_isAt_1, kX2_isAt_2, kX2_isAt_3]
theorem zX2_isAt : SndC mX2_isAt 0 kX2_isAt := SndC.c zX2_isAt_0 (by decide) (SndC.c zX2_isAt_1 (by decide) (SndC.c zX2_isAt_2 (by decide) (SndC.c zX2_isAt_3 (by decide) (SndC.n))))
theorem aX2_isAt_0 : at_ kX2_isAt 0 = (0, oIload 1 1) := rfl
theorem aX2_isAt_1 : at_ kX2_isAt 1 = (0, oIfLt 21 4) := rfl
theorem aX2_isAt_4 : at_ kX2_isAt 4 = (0, oIload 3 5) := rfl
theorem aX2_isAt_5 : at_ kX2_isAt 5 = (0, oRload 2 6) := rfl
theorem aX2_isAt_6 : at_ kX2_isAt 6 = (0, oAlen 7) := rfl
theorem aX2_isAt_7 : at_ kX2_isAt 7 = (0, oIcGt 21 10) := rfl
theorem aX2_isAt_10 : at_ kX2_isAt 10 = (0, oRload 0 11) := rfl
theorem aX2_isAt_11 : at_ kX2_isAt 11 = (0, oGetf 4 1 2 14) := rfl
theorem aX2_isAt_14 : at_ kX2_isAt 14 = (0, oAlen 15) := rfl
theorem aX2_isAt_15 : at_ kX2_isAt 15 = (0, oIload 3 16) := rfl
theorem aX2_isAt_16 : at_ kX2_isAt 16 = (0, oIload 1 17) := rfl
theorem aX2_isAt_17 : at_ kX2_isAt 17 = (0, oIsub 18) := rfl
theorem aX2_isAt_18 : at_ kX2_isAt 18 = (0, oIcLe 23 21) := rfl
theorem aX2_isAt_21 : at_ kX2_isAt 21 = (0, oPush (vI 0) 22) := rfl
theorem aX2_isAt_22 : at_ kX2_isAt 22 = (0, oRetZ) := rfl
theorem aX2_isAt_23 : at_ kX2_isAt 23 = (0, oPush (vI 0) 24) := rfl
theorem aX2_isAt_24 : at_ kX2_isAt 24 = (0, oIstore 4 26) := rfl
theorem aX2_isAt_26 : at_ kX2_isAt 26 = (1, oIload 4 28) := rfl
theorem aX2_isAt_28 : at_ kX2_isAt 28 = (0, oRload 0 29) := rfl
theorem aX2_isAt_29 : at_ kX2_isAt 29 = (0, oGetf 4 1 2 32) := rfl
theorem aX2_isAt_32 : at_ kX2_isAt 32 = (0, oAlen 33) := rfl
theorem aX2_isAt_33 : at_ kX2_isAt 33 = (0, oIcGe 60 36) := rfl
theorem aX2_isAt_36 : at_ kX2_isAt 36 = (0, oRload 0 37) := rfl
theorem aX2_isAt_37 : at_ kX2_isAt 37 = (0, oGetf 4 1 2 40) := rfl
theorem aX2_isAt_40 : at_ kX2_isAt 40 = (0, oIload 4 42) := rfl
theorem aX2_isAt_42 : at_ kX2_isAt 42 = (0, oIald 43) := rfl
theorem aX2_isAt_43 : at_ kX2_isAt 43 = (0, oRload 2 44) := rfl
theorem aX2_isAt_44 : at_ kX2_isAt 44 = (0, oIload 1 45) := rfl
theorem aX2_isAt_45 : at_ kX2_isAt 45 = (0, oIload 4 47) := rfl
theorem aX2_isAt_47 : at_ kX2_isAt 47 = (0, oIadd 48) := rfl
theorem aX2_isAt_48 : at_ kX2_isAt 48 = (0, oIald 49) := rfl
theorem aX2_isAt_49 : at_ kX2_isAt 49 = (0, oIcEq 54 52) := rfl
theorem aX2_isAt_52 : at_ kX2_isAt 52 = (0, oPush (vI 0) 53) := rfl
theorem aX2_isAt_53 : at_ kX2_isAt 53 = (0, oRetZ) := rfl
theorem aX2_isAt_54 : at_ kX2_isAt 54 = (0, oIinc 4 1 57) := rfl
theorem aX2_isAt_57 : at_ kX2_isAt 57 = (0, oGoto 26) := rfl
theorem aX2_isAt_60 : at_ kX2_isAt 60 = (0, oPush (vI 1) 61) := rfl
theorem aX2_isAt_61 : at_ kX2_isAt 61 = (0, oRetZ) := rfl
def kX2_isIn_0 : List En := [(0, oPush (vI 0) 1), (0, oIstore 2 2), (1, oIload 2 3), (0, oRload 1 4), (0, oAlen 5), (0, oIcGe 27 8), (1, oFail), (1, oFail), (0, oRload 0 9), (0, oIload 2 10), (0, oRload 1 11), (0, oRload 1 12), (0, oAlen 13), (2, oInvV 4 mX2_isAt 3 16), (1, oFail), (1, oFail)]
set_option maxRecDepth 20000 in
theorem zX2_isIn_0 : SndL mX2_isIn 0 kX2_isIn_0 := SndL.c (s_iconst (by decide +kernel) (in32_d (by decide))) (SndL.c (s_istore_n (k := 2) (by decide +kernel) rfl (by decide)) (SndL.c (s_iload_n (k := 2) (by decide +kernel) rfl) (SndL.c (s_aload_n (k := 1) (by decide +kernel) rfl) (SndL.c (s_alen (by decide +kernel)) (SndL.c (s_ic_ge (off := 22) (by decide +kernel) (by decide)) (SndL.c (s_fail) (SndL.c (s_fail) (SndL.c (s_aload_n (k := 0) (by decide +kernel) rfl) (SndL.c (s_iload_n (k := 2) (by decide +kernel) rfl) (SndL.c (s_aload_n (k := 1) (by decide +kernel) rfl) (SndL.c (s_aload_n (k := 1) (by decide +kernel) rfl) (SndL.c (s_alen (by decide +kernel)) (SndL.c (s_invV (r := (RX2, TX2, 6)) (ci := 3) okX2_isAt rfl (by decide) rfl rfl w_3_99 w_3_68 w_3_69 (by decide +kernel)) (SndL.c (s_fail) (SndL.c (s_fail) (SndL.n))))))))))))))))
def kX2_isIn_1 : List En := [(0, oIfEq 21 19), (1, oFail), (1, oFail), (0, oPush (vI 1) 20), (0, oRetZ), (0, oIinc 2 1 24), (1, oFail), (1, oFail), (0, oGoto 2), (1, oFail), (1, oFail), (0, oPush (vI 0) 28), (0, oRetZ)]
set_option maxRecDepth 20000 in
theorem zX2_isIn_1 : SndL mX2_isIn 16 kX2_isIn_1 := SndL.c (s_if_eq (off := 5) (by decide +kernel) (by decide)) (SndL.c (s_fail) (SndL.c (s_fail) (SndL.c (s_iconst (by decide +kernel) (in32_d (by decide))) (SndL.c (s_ret_z rfl (by decide +kernel)) (SndL.c (s_iinc (by decide +kernel) (by decide)) (SndL.c (s_fail) (SndL.c (s_fail) (SndL.c (s_goto (off := -22) (by decide +kernel) (by decide)) (SndL.c (s_fail) (SndL.c (s_fail) (SndL.c (s_iconst (by decide +kernel) (in32_d (by decide))) (SndL.c (s_ret_z rfl (by decide +kernel)) (SndL.n)))))))))))))
def kX2_isIn : Cd := [kX2_isIn_0, kX2_isIn_1]
theorem zX2_isIn : SndC mX2_isIn 0 kX2_isIn := SndC.c zX2_isIn_0 (by decide) (SndC.c zX2_isIn_1 (by decide) (SndC.n))
theorem aX2_isIn_0 : at_ kX2_isIn 0 = (0, oPush (vI 0) 1) := rfl
theorem aX2_isIn_1 : at_ kX2_isIn 1 = (0, oIstore 2 2) := rfl
theorem aX2_isIn_2 : at_ kX2_isIn 2 = (1, oIload 2 3) := rfl
theorem aX2_isIn_3 : at_ kX2_isIn 3 = (0, oRload 1 4) := rfl
theorem aX2_isIn_4 : at_ kX2_isIn 4 = (0, oAlen 5) := rfl
theorem aX2_isIn_5 : at_ kX2_isIn 5 = (0, oIcGe 27 8) := rfl
theorem aX2_isIn_8 : at_ kX2_isIn 8 = (0, oRload 0 9) := rfl
theorem aX2_isIn_9 : at_ kX2_isIn 9 = (0, oIload 2 10) := rfl
theorem aX2_isIn_10 : at_ kX2_isIn 10 = (0, oRload 1 11) := rfl
theorem aX2_isIn_11 : at_ kX2_isIn 11 = (0, oRload 1 12) := rfl
theorem aX2_isIn_12 : at_ kX2_isIn 12 = (0, oAlen 13) := rfl
theorem aX2_isIn_13 : at_ kX2_isIn 13 = (2, oInvV 4 mX2_isAt 3 16) := rfl
theorem aX2_isIn_16 : at_ kX2_isIn 16 = (0, oIfEq 21 19) := rfl
theorem aX2_isIn_19 : at_ kX2_isIn 19 = (0, oPush (vI 1) 20) := rfl
theorem aX2_isIn_20 : at_ kX2_isIn 20 = (0, oRetZ) := rfl
theorem aX2_isIn_21 : at_ kX2_isIn 21 = (0, oIinc 2 1 24) := rfl
theorem aX2_isIn_24 : at_ kX2_isIn 24 = (0, oGoto 2) := rfl
theorem aX2_isIn_27 : at_ kX2_isIn 27 = (0, oPush (vI 0) 28) := rfl
theorem aX2_isIn_28 : at_ kX2_isIn 28 = (0, oRetZ) := rfl
def kX2_isOf_0 : List En := [(0, oIload 1 1), (0, oRload 0 2), (0, oGetf 4 2 0 5), (1, oFail), (1, oFail), (0, oIcEq 25 8), (1, oFail), (1, oFail), (0, oIload 1 9), (0, oIfEq 25 12), (1, oFail), (1, oFail), (0, oIload 1 13), (0, oPush (vI 1) 14), (0, oIcNe 29 17), (1, oFail)]
set_option maxRecDepth 20000 in
theorem zX2_isOf_0 : SndL mX2_isOf 0 kX2_isOf_0 := SndL.c (s_iload_n (k := 1) (by decide +kernel) rfl) (SndL.c (s_aload_n (k := 0) (by decide +kernel) rfl) (SndL.c (s_getf (k := 2) clok3 (by decide) rfl (by decide) rfl w_3_7 (Or.inl rfl) (by decide +kernel)) (SndL.c (s_fail) (SndL.c (s_fail) (SndL.c (s_ic_eq (off := 20) (by decide +kernel) (by decide)) (SndL.c (s_fail) (SndL.c (s_fail) (SndL.c (s_iload_n (k := 1) (by decide +kernel) rfl) (SndL.c (s_if_eq (off := 16) (by decide +kernel) (by decide)) (SndL.c (s_fail) (SndL.c (s_fail) (SndL.c (s_iload_n (k := 1) (by decide +kernel) rfl) (SndL.c (s_iconst (by decide +kernel) (in32_d (by decide))) (SndL.c (s_ic_ne (off := 15) (by decide +kernel) (by decide)) (SndL.c (s_fail) (SndL.n))))))))))))))))
def kX2_isOf_1 : List En := [(1, oFail), (0, oRload 0 18), (0, oGetf 4 2 0 21), (1, oFail), (1, oFail), (0, oPush (vI 5) 22), (0, oIcNe 29 25), (1, oFail), (1, oFail), (0, oPush (vI 1) 26), (0, oGoto 30), (1, oFail), (1, oFail), (0, oPush (vI 0) 30), (0, oRetZ)]
set_option maxRecDepth 20000 in
theorem zX2_isOf_1 : SndL mX2_isOf 16 kX2_isOf_1 := SndL.c (s_fail) (SndL.c (s_aload_n (k := 0) (by decide +kernel) rfl) (SndL.c (s_getf (k := 2) clok3 (by decide) rfl (by decide) rfl w_3_7 (Or.inl rfl) (by decide +kernel)) (SndL.c (s_fail) (SndL.c (s_fail) (SndL.c (s_iconst (by decide +kernel) (in32_d (by decide))) (SndL.c (s_ic_ne (off := 7) (by decide +kernel) (by decide)) (SndL.c (s_fail) (SndL.c (s_fail) (SndL.c (s_iconst (by decide +kernel) (in32_d (by decide))) (SndL.c (s_goto (off := 4) (by decide +kernel) (by decide)) (SndL.c (s_fail) (SndL.c (s_fail) (SndL.c (s_iconst (by decide +kernel) (in32_d (by decide))) (SndL.c (s_ret_z rfl (by decide +kernel)) (SndL.n)))))))))))))))
def kX2_isOf : Cd := [kX2_isOf_0, kX2_isOf_1]
theorem zX2_isOf : SndC mX2_isOf 0 kX2_isOf := SndC.c zX2_isOf_0 (by decide) (SndC.c zX2_isOf_1 (by decide) (SndC.n))
theorem aX2_isOf_0 : at_ kX2_isOf 0 = (0, oIload 1 1) := rfl
theorem aX2_isOf_1 : at_ kX2_isOf 1 = (0, oRload 0 2) := rfl
theorem aX2_isOf_2 : at_ kX2_isOf 2 = (0, oGetf 4 2 0 5) := rfl
theorem aX2_isOf_5 : at_ kX2_isOf 5 = (0, oIcEq 25 8) := rfl
theorem aX2_isOf_8 : at_ kX2_isOf 8 = (0, oIload 1 9) := rfl
theorem aX2_isOf_9 : at_ kX2_isOf 9 = (0, oIfEq 25 12) := rfl
theorem aX2_isOf_12 : at_ kX2_isOf 12 = (0, oIload 1 13) := rfl
theorem aX2_isOf_13 : at_ kX2_isOf 13 = (0, oPush (vI 1) 14) := rfl
theorem aX2_isOf_14 : at_ kX2_isOf 14 = (0, oIcNe 29 17) := rfl
theorem aX2_isOf_17 : at_ kX2_isOf 17 = (0, oRload 0 18) := rfl
theorem aX2_isOf_18 : at_ kX2_isOf 18 = (0, oGetf 4 2 0 21) := rfl
theorem aX2_isOf_21 : at_ kX2_isOf 21 = (0, oPush (vI 5) 22) := rfl
theorem aX2_isOf_22 : at_ kX2_isOf 22 = (0, oIcNe 29 25) := rfl
theorem aX2_isOf_25 : at_ kX2_isOf 25 = (0, oPush (vI 1) 26) := rfl
theorem aX2_isOf_26 : at_ kX2_isOf 26 = (0, oGoto 30) := rfl
theorem aX2_isOf_29 : at_ kX2_isOf 29 = (0, oPush (vI 0) 30) := rfl
theorem aX2_isOf_30 : at_ kX2_isOf 30 = (0, oRetZ) := rfl
def kX2_takenFor_0 : List En := [(0, oIload 1 1), (0, oSwitch 0 5 [40, 45, 50, 67, 67, 58] 67), (1, oFail), (1, oFail), (1, oFail), (1, oFail), (1, oFail), (1, oFail), (1, oFail), (1, oFail), (1, oFail), (1, oFail), (1, oFail), (1, oFail), (1, oFail), (1, oFail)]
set_option maxRecDepth 20000 in
theorem zX2_takenFor_0 : SndL mX2_takenFor 0 kX2_takenFor_0 := SndL.c (s_iload_n (k := 1) (by decide +kernel) rfl) (SndL.c (s_switch2 (dflt := 66) (lo := 0) (hi := 5) (len := 39) (offs := #[39, 44, 49, 66, 66, 57]) (by decide +kernel) (by decide) (by decide +kernel) (by decide +kernel)) (SndL.c (s_fail) (SndL.c (s_fail) (SndL.c (s_fail) (SndL.c (s_fail) (SndL.c (s_fail) (SndL.c (s_fail) (SndL.c (s_fail) (SndL.c (s_fail) (SndL.c (s_fail) (SndL.c (s_fail) (SndL.c (s_fail) (SndL.c (s_fail) (SndL.c (s_fail) (SndL.c (s_fail) (SndL.n))))))))))))))))
def kX2_takenFor_1 : List En := [(1, oFail), (1, oFail), (1, oFail), (1, oFail), (1, oFail), (1, oFail), (1, oFail), (1, oFail), (1, oFail), (1, oFail), (1, oFail), (1, oFail), (1, oFail), (1, oFail), (1, oFail), (1, oFail)]
set_option maxRecDepth 20000 in
theorem zX2_takenFor_1 : SndL mX2_takenFor 16 kX2_takenFor_1 := SndL.c (s_fail) (SndL.c (s_fail) (SndL.c (s_fail) (SndL.c (s_fail) (SndL.c (s_fail) (SndL.c (s_fail) (SndL.c (s_fail) (SndL.c (s_fail) (SndL.c (s_fail) (SndL.c (s_fail) (SndL.c (s_fail) (SndL.c (s_fail) (SndL.c (s_fail) (SndL.c (s_fail) (SndL.c (s_fail) (SndL.c (s_fail) (SndL.n))))))))))))))))
def kX2_takenFor_2 : List En := [(1, oFail), (1, oFail), (1, oFail), (1, oFail), (1, oFail), (1, oFail), (1, oFail), (1, oFail), (0, oRload 0 41), (0, oGetf 4 3 0 44), (1, oFail), (1, oFail), (0, oRetI), (0, oRload 0 46), (0, oGetf 4 4 0 49), (1, oFail)]
set_option maxRecDepth 20000 in
theorem zX2_takenFor_2 : SndL mX2_takenFor 32 kX2_takenFor_2 := SndL.c (s_fail) (SndL.c (s_fail) (SndL.c (s_fail) (SndL.c (s_fail) (SndL.c (s_fail) (SndL.c (s_fail) (SndL.c (s_fail) (SndL.c (s_fail) (SndL.c (s_aload_n (k := 0) (by decide +kernel) rfl) (SndL.c (s_getf (k := 3) clok3 (by decide) rfl (by decide) rfl w_3_12 (Or.inl rfl) (by decide +kernel)) (SndL.c (s_fail) (SndL.c (s_fail) (SndL.c (s_ret_i rfl (by decide +kernel)) (SndL.c (s_aload_n (k := 0) (by decide +kernel) rfl) (SndL.c (s_getf (k := 4) clok3 (by decide) rfl (by decide) rfl w_3_17 (Or.inl rfl) (by decide +kernel)) (SndL.c (s_fail) (SndL.n))))))))))))))))
def kX2_takenFor_3 : List En := [(1, oFail), (0, oRetI), (0, oRload 0 51), (0, oGetf 4 4 0 54), (1, oFail), (1, oFail), (0, oPush (vI 12) 56), (1, oFail), (0, oIrem 57), (0, oRetI), (0, oPush (vI 1000) 61), (1, oFail), (1, oFail), (0, oRload 0 62), (0, oGetf 4 4 0 65), (1, oFail)]
set_option maxRecDepth 20000 in
theorem zX2_takenFor_3 : SndL mX2_takenFor 48 kX2_takenFor_3 := SndL.c (s_fail) (SndL.c (s_ret_i rfl (by decide +kernel)) (SndL.c (s_aload_n (k := 0) (by decide +kernel) rfl) (SndL.c (s_getf (k := 4) clok3 (by decide) rfl (by decide) rfl w_3_17 (Or.inl rfl) (by decide +kernel)) (SndL.c (s_fail) (SndL.c (s_fail) (SndL.c (s_bipush (by decide +kernel) (in32_d (by decide)) (by decide +kernel)) (SndL.c (s_fail) (SndL.c (s_irem (by decide +kernel)) (SndL.c (s_ret_i rfl (by decide +kernel)) (SndL.c (s_sipush (by decide +kernel) (in32_d (by decide)) (by decide +kernel)) (SndL.c (s_fail) (SndL.c (s_fail) (SndL.c (s_aload_n (k := 0) (by decide +kernel) rfl) (SndL.c (s_getf (k := 4) clok3 (by decide) rfl (by decide) rfl w_3_17 (Or.inl rfl) (by decide +kernel)) (SndL.c (s_fail) (SndL.n))))))))))))))))
def kX2_takenFor_4 : List En := [(1, oFail), (0, oIadd 66), (0, oRetI), (0, oPush (vI 0) 68), (0, oRetI)]
set_option maxRecDepth 20000 in
theorem zX2_takenFor_4 : SndL mX2_takenFor 64 kX2_takenFor_4 := SndL.c (s_fail) (SndL.c (s_iadd (by decide +kernel)) (SndL.c (s_ret_i rfl (by decide +kernel)) (SndL.c (s_iconst (by decide +kernel) (in32_d (by decide))) (SndL.c (s_ret_i rfl (by decide +kernel)) (SndL.n)))))
def kX2_takenFor : Cd := [kX2_takenFor_0, kX2_takenFor_1, kX2_takenFor_2, kX2_takenFor_3, kX2_takenFor_4]
theorem zX2_takenFor : SndC mX2_takenFor 0 kX2_takenFor := SndC.c zX2_takenFor_0 (by decide) (SndC.c zX2_takenFor_1 (by decide) (SndC.c zX2_takenFor_2 (by decide) (SndC.c zX2_takenFor_3 (by decide) (SndC.c zX2_takenFor_4 (by decide) (SndC.n)))))
theorem aX2_takenFor_0 : at_ kX2_takenFor 0 = (0, oIload 1 1) := rfl
theorem aX2_takenFor_1 : at_ kX2_takenFor 1 = (0, oSwitch 0 5 [40, 45, 50, 67, 67, 58] 67) := rfl
theorem aX2_takenFor_40 : at_ kX2_takenFor 40 = (0, oRload 0 41) := rfl
theorem aX2_takenFor_41 : at_ kX2_takenFor 41 = (0, oGetf 4 3 0 44) := rfl
theorem aX2_takenFor_44 : at_ kX2_takenFor 44 = (0, oRetI) := rfl
theorem aX2_takenFor_45 : at_ kX2_takenFor 45 = (0, oRload 0 46) := rfl
theorem aX2_takenFor_46 : at_ kX2_takenFor 46 = (0, oGetf 4 4 0 49) := rfl
theorem aX2_takenFor_49 : at_ kX2_takenFor 49 = (0, oRetI) := rfl
theorem aX2_takenFor_50 : at_ kX2_takenFor 50 = (0, oRload 0 51) := rfl
theorem aX2_takenFor_51 : at_ kX2_takenFor 51 = (0, oGetf 4 4 0 54) := rfl
theorem aX2_takenFor_54 : at_ kX2_takenFor 54 = (0, oPush (vI 12) 56) := rfl
theorem aX2_takenFor_56 : at_ kX2_takenFor 56 = (0, oIrem 57) := rfl
theorem aX2_takenFor_57 : at_ kX2_takenFor 57 = (0, oRetI) := rfl
theorem aX2_takenFor_58 : at_ kX2_takenFor 58 = (0, oPush (vI 1000) 61) := rfl
theorem aX2_takenFor_61 : at_ kX2_takenFor 61 = (0, oRload 0 62) := rfl
theorem aX2_takenFor_62 : at_ kX2_takenFor 62 = (0, oGetf 4 4 0 65) := rfl
theorem aX2_takenFor_65 : at_ kX2_takenFor 65 = (0, oIadd 66) := rfl
theorem aX2_takenFor_66 : at_ kX2_takenFor 66 = (0, oRetI) := rfl
theorem aX2_takenFor_67 : at_ kX2_takenFor 67 = (0, oPush (vI 0) 68) := rfl
theorem aX2_takenFor_68 : at_ kX2_takenFor 68 = (0, oRetI) := rfl
def kX3_init_0 : List En := [(0, oRload 0 1), (0, oObji 4), (1, oFail), (1, oFail), (0, oRload 0 5), (0, oIload 1 6), (0, oPutf 5 0 0 9), (1, oFail), (1, oFail), (0, oRload 0 10), (0, oIload 2 11), (0, oPutf 5 1 0 14), (1, oFail), (1, oFail), (0, oRload 0 15), (0, oIload 3 16)]
set_option maxRecDepth 20000 in
theorem zX3_init_0 : SndL mX3_init 0 kX3_init_0 := SndL.c (s_aload_n (k := 0) (by decide +kernel) rfl) (SndL.c (s_obji w_3_178 w_1_33 w_1_34 (by decide +kernel)) (SndL.c (s_fail) (SndL.c (s_fail) (SndL.c (s_aload_n (k := 0) (by decide +kernel) rfl) (SndL.c (s_iload_n (k := 1) (by decide +kernel) rfl) (SndL.c (s_putf (k := 0) clok4 (by decide) rfl (by decide) rfl w_3_179 (Or.inl rfl) (Or.inr ⟨rfl, rfl, rfl⟩) (by decide +kernel)) (SndL.c (s_fail) (SndL.c (s_fail) (SndL.c (s_aload_n (k := 0) (by decide +kernel) rfl) (SndL.c (s_iload_n (k := 2) (by decide +kernel) rfl) (SndL.c (s_putf (k := 1) clok4 (by decide) rfl (by decide) rfl w_3_180 (Or.inl rfl) (Or.inr ⟨rfl, rfl, rfl⟩) (by decide +kernel)) (SndL.c (s_fail) (SndL.c (s_fail) (SndL.c (s_aload_n (k := 0) (by decide +kernel) rfl) (SndL.c (s_iload_n (k := 3) (by decide +kernel) rfl) (SndL.n))))))))))))))))
def kX3_init_1 : List En := [(0, oPutf 5 2 0 19), (1, oFail), (1, oFail), (0, oRload 0 20), (0, oRload 4 22), (1, oFail), (0, oPutf 5 3 2 25), (1, oFail), (1, oFail), (0, oRetV)]
set_option maxRecDepth 20000 in
theorem zX3_init_1 : SndL mX3_init 16 kX3_init_1 := SndL.c (s_putf (k := 2) clok4 (by decide) rfl (by decide) rfl w_3_181 (Or.inl rfl) (Or.inr ⟨rfl, rfl, rfl⟩) (by decide +kernel)) (SndL.c (s_fail) (SndL.c (s_fail) (SndL.c (s_aload_n (k := 0) (by decide +kernel) rfl) (SndL.c (s_aload (by decide +kernel)) (SndL.c (s_fail) (SndL.c (s_putf (k := 3) clok4 (by decide) rfl (by decide) rfl w_3_182 (Or.inl rfl) (Or.inr ⟨rfl, rfl, rfl⟩) (by decide +kernel)) (SndL.c (s_fail) (SndL.c (s_fail) (SndL.c (s_ret_v rfl (by decide +kernel)) (SndL.n))))))))))
def kX3_init : Cd := [kX3_init_0, kX3_init_1]
theorem zX3_init : SndC mX3_init 0 kX3_init := SndC.c zX3_init_0 (by decide) (SndC.c zX3_init_1 (by decide) (SndC.n))
theorem aX3_init_0 : at_ kX3_init 0 = (0, oRload 0 1) := rfl
theorem aX3_init_1 : at_ kX3_init 1 = (0, oObji 4) := rfl
theorem aX3_init_4 : at_ kX3_init 4 = (0, oRload 0 5) := rfl
theorem aX3_init_5 : at_ kX3_init 5 = (0, oIload 1 6) := rfl
theorem aX3_init_6 : at_ kX3_init 6 = (0, oPutf 5 0 0 9) := rfl
theorem aX3_init_9 : at_ kX3_init 9 = (0, oRload 0 10) := rfl
theorem aX3_init_10 : at_ kX3_init 10 = (0, oIload 2 11) := rfl
theorem aX3_init_11 : at_ kX3_init 11 = (0, oPutf 5 1 0 14) := rfl
theorem aX3_init_14 : at_ kX3_init 14 = (0, oRload 0 15) := rfl
theorem aX3_init_15 : at_ kX3_init 15 = (0, oIload 3 16) := rfl
theorem aX3_init_16 : at_ kX3_init 16 = (0, oPutf 5 2 0 19) := rfl
theorem aX3_init_19 : at_ kX3_init 19 = (0, oRload 0 20) := rfl
theorem aX3_init_20 : at_ kX3_init 20 = (0, oRload 4 22) := rfl
theorem aX3_init_22 : at_ kX3_init 22 = (0, oPutf 5 3 2 25) := rfl
theorem aX3_init_25 : at_ kX3_init 25 = (0, oRetV) := rfl
def kX3_isOn_0 : List En := [(0, oRload 0 1), (0, oGetf 5 0 0 4), (1, oFail), (1, oFail), (0, oIload 1 5), (0, oIcNe 28 8), (1, oFail), (1, oFail), (0, oRload 0 9), (0, oGetf 5 1 0 12), (1, oFail), (1, oFail), (0, oIload 2 13), (0, oIcNe 28 16), (1, oFail), (1, oFail)]
set_option maxRecDepth 20000 in
theorem zX3_isOn_0 : SndL mX3_isOn 0 kX3_isOn_0 := SndL.c (s_aload_n (k := 0) (by decide +kernel) rfl) (SndL.c (s_getf (k := 0) clok4 (by decide) rfl (by decide) rfl w_3_179 (Or.inl rfl) (by decide +kernel)) (SndL.c (s_fail) (SndL.c (s_fail) (SndL.c (s_iload_n (k := 1) (by decide +kernel) rfl) (SndL.c (s_ic_ne (off := 23) (by decide +kernel) (by decide)) (SndL.c (s_fail) (SndL.c (s_fail) (SndL.c (s_aload_n (k := 0) (by decide +kernel) rfl) (SndL.c (s_getf (k := 1) clok4 (by decide) rfl (by decide) rfl w_3_180 (Or.inl rfl) (by decide +kernel)) (SndL.c (s_fail) (SndL.c (s_fail) (SndL.c (s_iload_n (k := 2) (by decide +kernel) rfl) (SndL.c (s_ic_ne (off := 15) (by decide +kernel) (by decide)) (SndL.c (s_fail) (SndL.c (s_fail) (SndL.n))))))))))))))))
def kX3_isOn_1 : List En := [(0, oRload 0 17), (0, oGetf 5 2 0 20), (1, oFail), (1, oFail), (0, oIload 3 21), (0, oIcGt 28 24), (1, oFail), (1, oFail), (0, oPush (vI 1) 25), (0, oGoto 29), (1, oFail), (1, oFail), (0, oPush (vI 0) 29), (0, oRetZ)]
set_option maxRecDepth 20000 in
theorem zX3_isOn_1 : SndL mX3_isOn 16 kX3_isOn_1 := SndL.c (s_aload_n (k := 0) (by decide +kernel) rfl) (SndL.c (s_getf (k := 2) clok4 (by decide) rfl (by decide) rfl w_3_181 (Or.inl rfl) (by decide +kernel)) (SndL.c (s_fail) (SndL.c (s_fail) (SndL.c (s_iload_n (k := 3) (by decide +kernel) rfl) (SndL.c (s_ic_gt (off := 7) (by decide +kernel) (by decide)) (SndL.c (s_fail) (SndL.c (s_fail) (SndL.c (s_iconst (by decide +kernel) (in32_d (by decide))) (SndL.c (s_goto (off := 4) (by decide +kernel) (by decide)) (SndL.c (s_fail) (SndL.c (s_fail) (SndL.c (s_iconst (by decide +kernel) (in32_d (by decide))) (SndL.c (s_ret_z rfl (by decide +kernel)) (SndL.n))))))))))))))
def kX3_isOn : Cd := [kX3_isOn_0, kX3_isOn_1]
theorem zX3_isOn : SndC mX3_isOn 0 kX3_isOn := SndC.c zX3_isOn_0 (by decide) (SndC.c zX3_isOn_1 (by decide) (SndC.n))
theorem aX3_isOn_0 : at_ kX3_isOn 0 = (0, oRload 0 1) := rfl
theorem aX3_isOn_1 : at_ kX3_isOn 1 = (0, oGetf 5 0 0 4) := rfl
theorem aX3_isOn_4 : at_ kX3_isOn 4 = (0, oIload 1 5) := rfl
theorem aX3_isOn_5 : at_ kX3_isOn 5 = (0, oIcNe 28 8) := rfl
theorem aX3_isOn_8 : at_ kX3_isOn 8 = (0, oRload 0 9) := rfl
theorem aX3_isOn_9 : at_ kX3_isOn 9 = (0, oGetf 5 1 0 12) := rfl
theorem aX3_isOn_12 : at_ kX3_isOn 12 = (0, oIload 2 13) := rfl
theorem aX3_isOn_13 : at_ kX3_isOn 13 = (0, oIcNe 28 16) := rfl
theorem aX3_isOn_16 : at_ kX3_isOn 16 = (0, oRload 0 17) := rfl
theorem aX3_isOn_17 : at_ kX3_isOn 17 = (0, oGetf 5 2 0 20) := rfl
theorem aX3_isOn_20 : at_ kX3_isOn 20 = (0, oIload 3 21) := rfl
theorem aX3_isOn_21 : at_ kX3_isOn 21 = (0, oIcGt 28 24) := rfl
theorem aX3_isOn_24 : at_ kX3_isOn 24 = (0, oPush (vI 1) 25) := rfl
theorem aX3_isOn_25 : at_ kX3_isOn 25 = (0, oGoto 29) := rfl
theorem aX3_isOn_28 : at_ kX3_isOn 28 = (0, oPush (vI 0) 29) := rfl
theorem aX3_isOn_29 : at_ kX3_isOn 29 = (0, oRetZ) := rfl
def kX4_init_0 : List En := [(0, oRload 0 1), (0, oObji 4), (1, oFail), (1, oFail), (0, oRload 0 5), (0, oNew 1 3 8), (1, oFail), (1, oFail), (0, oDup 9), (2, oInvI mJx4a65c_init_da8c8 0 12), (1, oFail), (1, oFail), (0, oPutf 6 0 2 15), (1, oFail), (1, oFail), (0, oRload 0 16)]
set_option maxRecDepth 20000 in
theorem zX4_init_0 : SndL mX4_init 0 kX4_init_0 := SndL.c (s_aload_n (k := 0) (by decide +kernel) rfl) (SndL.c (s_obji w_1_68 w_1_33 w_1_34 (by decide +kernel)) (SndL.c (s_fail) (SndL.c (s_fail) (SndL.c (s_aload_n (k := 0) (by decide +kernel) rfl) (SndL.c (s_new clok0 (by decide) rfl rfl w_1_69 w_1_38 w_1_4 (by decide +kernel)) (SndL.c (s_fail) (SndL.c (s_fail) (SndL.c (s_dup (by decide +kernel)) (SndL.c (s_invI okJx4a65c_init_da8c8 rfl rfl w_1_70 w_1_40 (by decide +kernel)) (SndL.c (s_fail) (SndL.c (s_fail) (SndL.c (s_putf (k := 0) clok5 (by decide) rfl (by decide) rfl w_1_71 (Or.inl rfl) (Or.inr ⟨rfl, rfl, rfl⟩) (by decide +kernel)) (SndL.c (s_fail) (SndL.c (s_fail) (SndL.c (s_aload_n (k := 0) (by decide +kernel) rfl) (SndL.n))))))))))))))))
def kX4_init_1 : List En := [(0, oPush (vI 50) 18), (1, oFail), (0, oPutf 6 1 0 21), (1, oFail), (1, oFail), (0, oRload 0 22), (0, oPush (vI 10) 24), (1, oFail), (0, oPutf 6 2 0 27), (1, oFail), (1, oFail), (0, oRetV)]
set_option maxRecDepth 20000 in
theorem zX4_init_1 : SndL mX4_init 16 kX4_init_1 := SndL.c (s_bipush (by decide +kernel) (in32_d (by decide)) (by decide +kernel)) (SndL.c (s_fail) (SndL.c (s_putf (k := 1) clok5 (by decide) rfl (by decide) rfl w_1_73 (Or.inl rfl) (Or.inl rfl) (by decide +kernel)) (SndL.c (s_fail) (SndL.c (s_fail) (SndL.c (s_aload_n (k := 0) (by decide +kernel) rfl) (SndL.c (s_bipush (by decide +kernel) (in32_d (by decide)) (by decide +kernel)) (SndL.c (s_fail) (SndL.c (s_putf (k := 2) clok5 (by decide) rfl (by decide) rfl w_1_75 (Or.inl rfl) (Or.inl rfl) (by decide +kernel)) (SndL.c (s_fail) (SndL.c (s_fail) (SndL.c (s_ret_v rfl (by decide +kernel)) (SndL.n))))))))))))
def kX4_init : Cd := [kX4_init_0, kX4_init_1]
theorem zX4_init : SndC mX4_init 0 kX4_init := SndC.c zX4_init_0 (by decide) (SndC.c zX4_init_1 (by decide) (SndC.n))
theorem aX4_init_0 : at_ kX4_init 0 = (0, oRload 0 1) := rfl
theorem aX4_init_1 : at_ kX4_init 1 = (0, oObji 4) := rfl
theorem aX4_init_4 : at_ kX4_init 4 = (0, oRload 0 5) := rfl
theorem aX4_init_5 : at_ kX4_init 5 = (0, oNew 1 3 8) := rfl
theorem aX4_init_8 : at_ kX4_init 8 = (0, oDup 9) := rfl
theorem aX4_init_9 : at_ kX4_init 9 = (2, oInvI mJx4a65c_init_da8c8 0 12) := rfl
theorem aX4_init_12 : at_ kX4_init 12 = (0, oPutf 6 0 2 15) := rfl
theorem aX4_init_15 : at_ kX4_init 15 = (0, oRload 0 16) := rfl
theorem aX4_init_16 : at_ kX4_init 16 = (0, oPush (vI 50) 18) := rfl
theorem aX4_init_18 : at_ kX4_init 18 = (0, oPutf 6 1 0 21) := rfl
theorem aX4_init_21 : at_ kX4_init 21 = (0, oRload 0 22) := rfl
theorem aX4_init_22 : at_ kX4_init 22 = (0, oPush (vI 10) 24) := rfl
theorem aX4_init_24 : at_ kX4_init 24 = (0, oPutf 6 2 0 27) := rfl
theorem aX4_init_27 : at_ kX4_init 27 = (0, oRetV) := rfl
def kX4_bearOut_0 : List En := [(0, oRload 2 1), (0, oGetf 4 2 0 4), (1, oFail), (1, oFail), (0, oSwitch 0 5 [44, 55, 79, 97, 97, 67] 97), (1, oFail), (1, oFail), (1, oFail), (1, oFail), (1, oFail), (1, oFail), (1, oFail), (1, oFail), (1, oFail), (1, oFail), (1, oFail)]
set_option maxRecDepth 20000 in
theorem zX4_bearOut_0 : SndL mX4_bearOut 0 kX4_bearOut_0 := SndL.c (s_aload_n (k := 2) (by decide +kernel) rfl) (SndL.c (s_getf (k := 2) clok3 (by decide) rfl (by decide) rfl w_3_9 (Or.inl rfl) (by decide +kernel)) (SndL.c (s_fail) (SndL.c (s_fail) (SndL.c (s_switch2 (dflt := 93) (lo := 0) (hi := 5) (len := 40) (offs := #[40, 51, 75, 93, 93, 63]) (by decide +kernel) (by decide) (by decide +kernel) (by decide +kernel)) (SndL.c (s_fail) (SndL.c (s_fail) (SndL.c (s_fail) (SndL.c (s_fail) (SndL.c (s_fail) (SndL.c (s_fail) (SndL.c (s_fail) (SndL.c (s_fail) (SndL.c (s_fail) (SndL.c (s_fail) (SndL.c (s_fail) (SndL.n))))))))))))))))
def kX4_bearOut_1 : List En := [(1, oFail), (1, oFail), (1, oFail), (1, oFail), (1, oFail), (1, oFail), (1, oFail), (1, oFail), (1, oFail), (1, oFail), (1, oFail), (1, oFail), (1, oFail), (1, oFail), (1, oFail), (1, oFail)]
set_option maxRecDepth 20000 in
theorem zX4_bearOut_1 : SndL mX4_bearOut 16 kX4_bearOut_1 := SndL.c (s_fail) (SndL.c (s_fail) (SndL.c (s_fail) (SndL.c (s_fail) (SndL.c (s_fail) (SndL.c (s_fail) (SndL.c (s_fail) (SndL.c (s_fail) (SndL.c (s_fail) (SndL.c (s_fail) (SndL.c (s_fail) (SndL.c (s_fail) (SndL.c (s_fail) (SndL.c (s_fail) (SndL.c (s_fail) (SndL.c (s_fail) (SndL.n))))))))))))))))
def kX4_bearOut_2 : List En := [(1, oFail), (1, oFail), (1, oFail), (1, oFail), (1, oFail), (1, oFail), (1, oFail), (1, oFail), (1, oFail), (1, oFail), (1, oFail), (1, oFail), (0, oRload 0 45), (0, oIload 1 46), (0, oRload 2 47), (0, oGetf 4 3 0 50)]
set_option maxRecDepth 20000 in
theorem zX4_bearOut_2 : SndL mX4_bearOut 32 kX4_bearOut_2 := SndL.c (s_fail) (SndL.c (s_fail) (SndL.c (s_fail) (SndL.c (s_fail) (SndL.c (s_fail) (SndL.c (s_fail) (SndL.c (s_fail) (SndL.c (s_fail) (SndL.c (s_fail) (SndL.c (s_fail) (SndL.c (s_fail) (SndL.c (s_fail) (SndL.c (s_aload_n (k := 0) (by decide +kernel) rfl) (SndL.c (s_iload_n (k := 1) (by decide +kernel) rfl) (SndL.c (s_aload_n (k := 2) (by decide +kernel) rfl) (SndL.c (s_getf (k := 3) clok3 (by decide) rfl (by decide) rfl w_3_14 (Or.inl rfl) (by decide +kernel)) (SndL.n))))))))))))))))
def kX4_bearOut_3 : List En := [(1, oFail), (1, oFail), (0, oIload 3 51), (2, oInvV 6 mX4_isGiven 3 54), (1, oFail), (1, oFail), (0, oRetZ), (0, oRload 0 56), (0, oRload 0 57), (0, oGetf 6 1 0 60), (1, oFail), (1, oFail), (0, oIload 1 61), (0, oRload 2 62), (0, oIload 3 63), (2, oInvV 6 mX4_areEnough 4 66)]
set_option maxRecDepth 20000 in
theorem zX4_bearOut_3 : SndL mX4_bearOut 48 kX4_bearOut_3 := SndL.c (s_fail) (SndL.c (s_fail) (SndL.c (s_iload_n (k := 3) (by decide +kernel) rfl) (SndL.c (s_invV (r := (RX4, TX4, 3)) (ci := 5) okX4_isGiven rfl (by decide) rfl rfl w_3_107 w_3_109 v_12 (by decide +kernel)) (SndL.c (s_fail) (SndL.c (s_fail) (SndL.c (s_ret_z rfl (by decide +kernel)) (SndL.c (s_aload_n (k := 0) (by decide +kernel) rfl) (SndL.c (s_aload_n (k := 0) (by decide +kernel) rfl) (SndL.c (s_getf (k := 1) clok5 (by decide) rfl (by decide) rfl w_1_73 (Or.inl rfl) (by decide +kernel)) (SndL.c (s_fail) (SndL.c (s_fail) (SndL.c (s_iload_n (k := 1) (by decide +kernel) rfl) (SndL.c (s_aload_n (k := 2) (by decide +kernel) rfl) (SndL.c (s_iload_n (k := 3) (by decide +kernel) rfl) (SndL.c (s_invV (r := (RX4, TX4, 3)) (ci := 5) okX4_areEnough rfl (by decide) rfl rfl w_3_118 w_3_120 v_13 (by decide +kernel)) (SndL.n))))))))))))))))
def kX4_bearOut_4 : List En := [(1, oFail), (1, oFail), (0, oRetZ), (0, oRload 0 68), (0, oRload 0 69), (0, oGetf 6 2 0 72), (1, oFail), (1, oFail), (0, oIload 1 73), (0, oRload 2 74), (0, oIload 3 75), (2, oInvV 6 mX4_areEnough 4 78), (1, oFail), (1, oFail), (0, oRetZ), (0, oRload 0 80)]
set_option maxRecDepth 20000 in
theorem zX4_bearOut_4 : SndL mX4_bearOut 64 kX4_bearOut_4 := SndL.c (s_fail) (SndL.c (s_fail) (SndL.c (s_ret_z rfl (by decide +kernel)) (SndL.c (s_aload_n (k := 0) (by decide +kernel) rfl) (SndL.c (s_aload_n (k := 0) (by decide +kernel) rfl) (SndL.c (s_getf (k := 2) clok5 (by decide) rfl (by decide) rfl w_1_75 (Or.inl rfl) (by decide +kernel)) (SndL.c (s_fail) (SndL.c (s_fail) (SndL.c (s_iload_n (k := 1) (by decide +kernel) rfl) (SndL.c (s_aload_n (k := 2) (by decide +kernel) rfl) (SndL.c (s_iload_n (k := 3) (by decide +kernel) rfl) (SndL.c (s_invV (r := (RX4, TX4, 3)) (ci := 5) okX4_areEnough rfl (by decide) rfl rfl w_3_118 w_3_120 v_13 (by decide +kernel)) (SndL.c (s_fail) (SndL.c (s_fail) (SndL.c (s_ret_z rfl (by decide +kernel)) (SndL.c (s_aload_n (k := 0) (by decide +kernel) rfl) (SndL.n))))))))))))))))
def kX4_bearOut_5 : List En := [(0, oIload 1 81), (0, oRload 2 82), (0, oGetf 4 4 0 85), (1, oFail), (1, oFail), (0, oPush (vI 12) 87), (1, oFail), (0, oIrem 88), (0, oRload 2 89), (0, oGetf 4 3 0 92), (1, oFail), (1, oFail), (0, oIload 3 93), (2, oInvV 6 mX4_isAhead 4 96), (1, oFail), (1, oFail)]
set_option maxRecDepth 20000 in
theorem zX4_bearOut_5 : SndL mX4_bearOut 80 kX4_bearOut_5 := SndL.c (s_iload_n (k := 1) (by decide +kernel) rfl) (SndL.c (s_aload_n (k := 2) (by decide +kernel) rfl) (SndL.c (s_getf (k := 4) clok3 (by decide) rfl (by decide) rfl w_3_19 (Or.inl rfl) (by decide +kernel)) (SndL.c (s_fail) (SndL.c (s_fail) (SndL.c (s_bipush (by decide +kernel) (in32_d (by decide)) (by decide +kernel)) (SndL.c (s_fail) (SndL.c (s_irem (by decide +kernel)) (SndL.c (s_aload_n (k := 2) (by decide +kernel) rfl) (SndL.c (s_getf (k := 3) clok3 (by decide) rfl (by decide) rfl w_3_14 (Or.inl rfl) (by decide +kernel)) (SndL.c (s_fail) (SndL.c (s_fail) (SndL.c (s_iload_n (k := 3) (by decide +kernel) rfl) (SndL.c (s_invV (r := (RX4, TX4, 3)) (ci := 5) okX4_isAhead rfl (by decide) rfl rfl w_3_122 w_3_124 v_14 (by decide +kernel)) (SndL.c (s_fail) (SndL.c (s_fail) (SndL.n))))))))))))))))
def kX4_bearOut_6 : List En := [(0, oRetZ), (0, oPush (vI 1) 98), (0, oRetZ)]
set_option maxRecDepth 20000 in
theorem zX4_bearOut_6 : SndL mX4_bearOut 96 kX4_bearOut_6 := SndL.c (s_ret_z rfl (by decide +kernel)) (SndL.c (s_iconst (by decide +kernel) (in32_d (by decide))) (SndL.c (s_ret_z rfl (by decide +kernel)) (SndL.n)))
def kX4_bearOut : Cd := [kX4_bearOut_0, kX4_bearOut_1, kX4_bearOut_2, kX4_bearOut_3, kX4_bearOut_4, kX4_bearOut_5, kX4_bearOut_6]
theorem zX4_bearOut : SndC mX4_bearOut 0 kX4_bearOut := SndC.c zX4_bearOut_0 (by decide) (SndC.c zX4_bearOut_1 (by decide) (SndC.c zX4_bearOut_2 (by decide) (SndC.c zX4_bearOut_3 (by decide) (SndC.c zX4_bearOut_4 (by decide) (SndC.c zX4_bearOut_5 (by decide) (SndC.c zX4_bearOut_6 (by decide) (SndC.n)))))))
theorem aX4_bearOut_0 : at_ kX4_bearOut 0 = (0, oRload 2 1) := rfl
theorem aX4_bearOut_1 : at_ kX4_bearOut 1 = (0, oGetf 4 2 0 4) := rfl
theorem aX4_bearOut_4 : at_ kX4_bearOut 4 = (0, oSwitch 0 5 [44, 55, 79, 97, 97, 67] 97) := rfl
theorem aX4_bearOut_44 : at_ kX4_bearOut 44 = (0, oRload 0 45) := rfl
theorem aX4_bearOut_45 : at_ kX4_bearOut 45 = (0, oIload 1 46) := rfl
theorem aX4_bearOut_46 : at_ kX4_bearOut 46 = (0, oRload 2 47) := rfl
theorem aX4_bearOut_47 : at_ kX4_bearOut 47 = (0, oGetf 4 3 0 50) := rfl
theorem aX4_bearOut_50 : at_ kX4_bearOut 50 = (0, oIload 3 51) := rfl
theorem aX4_bearOut_51 : at_ kX4_bearOut 51 = (2, oInvV 6 mX4_isGiven 3 54) := rfl
theorem aX4_bearOut_54 : at_ kX4_bearOut 54 = (0, oRetZ) := rfl
theorem aX4_bearOut_55 : at_ kX4_bearOut 55 = (0, oRload 0 56) := rfl
theorem aX4_bearOut_56 : at_ kX4_bearOut 56 = (0, oRload 0 57) := rfl
theorem aX4_bearOut_57 : at_ kX4_bearOut 57 = (0, oGetf 6 1 0 60) := rfl
theorem aX4_bearOut_60 : at_ kX4_bearOut 60 = (0, oIload 1 61) := rfl
theorem aX4_bearOut_61 : at_ kX4_bearOut 61 = (0, oRload 2 62) := rfl
theorem aX4_bearOut_62 : at_ kX4_bearOut 62 = (0, oIload 3 63) := rfl
theorem aX4_bearOut_63 : at_ kX4_bearOut 63 = (2, oInvV 6 mX4_areEnough 4 66) := rfl
theorem aX4_bearOut_66 : at_ kX4_bearOut 66 = (0, oRetZ) := rfl
theorem aX4_bearOut_67 : at_ kX4_bearOut 67 = (0, oRload 0 68) := rfl
theorem aX4_bearOut_68 : at_ kX4_bearOut 68 = (0, oRload 0 69) := rfl
theorem aX4_bearOut_69 : at_ kX4_bearOut 69 = (0, oGetf 6 2 0 72) := rfl
theorem aX4_bearOut_72 : at_ kX4_bearOut 72 = (0, oIload 1 73) := rfl
theorem aX4_bearOut_73 : at_ kX4_bearOut 73 = (0, oRload 2 74) := rfl
theorem aX4_bearOut_74 : at_ kX4_bearOut 74 = (0, oIload 3 75) := rfl
theorem aX4_bearOut_75 : at_ kX4_bearOut 75 = (2, oInvV 6 mX4_areEnough 4 78) := rfl
theorem aX4_bearOut_78 : at_ kX4_bearOut 78 = (0, oRetZ) := rfl
theorem aX4_bearOut_79 : at_ kX4_bearOut 79 = (0, oRload 0 80) := rfl
theorem aX4_bearOut_80 : at_ kX4_bearOut 80 = (0, oIload 1 81) := rfl
theorem aX4_bearOut_81 : at_ kX4_bearOut 81 = (0, oRload 2 82) := rfl
theorem aX4_bearOut_82 : at_ kX4_bearOut 82 = (0, oGetf 4 4 0 85) := rfl
theorem aX4_bearOut_85 : at_ kX4_bearOut 85 = (0, oPush (vI 12) 87) := rfl
theorem aX4_bearOut_87 : at_ kX4_bearOut 87 = (0, oIrem 88) := rfl
theorem aX4_bearOut_88 : at_ kX4_bearOut 88 = (0, oRload 2 89) := rfl
theorem aX4_bearOut_89 : at_ kX4_bearOut 89 = (0, oGetf 4 3 0 92) := rfl
theorem aX4_bearOut_92 : at_ kX4_bearOut 92 = (0, oIload 3 93) := rfl
theorem aX4_bearOut_93 : at_ kX4_bearOut 93 = (2, oInvV 6 mX4_isAhead 4 96) := rfl
theorem aX4_bearOut_96 : at_ kX4_bearOut 96 = (0, oRetZ) := rfl
theorem aX4_bearOut_97 : at_ kX4_bearOut 97 = (0, oPush (vI 1) 98) := rfl
theorem aX4_bearOut_98 : at_ kX4_bearOut 98 = (0, oRetZ) := rfl
def kX4_countOf_0 : List En := [(0, oPush (vI 0) 1), (0, oIstore 4 3), (1, oFail), (0, oPush (vI 0) 4), (0, oIstore 5 6), (1, oFail), (1, oIload 5 8), (1, oFail), (0, oRload 0 9), (0, oGetf 6 0 2 12), (1, oFail), (1, oFail), (2, oInvV 1 mJx4a65c_size_8abf5 0 15), (1, oFail), (1, oFail), (0, oIcGe 64 18)]
set_option maxRecDepth 20000 in
theorem zX4_countOf_0 : SndL mX4_countOf 0 kX4_countOf_0 := SndL.c (s_iconst (by decide +kernel) (in32_d (by decide))) (SndL.c (s_istore (by decide +kernel) (by decide)) (SndL.c (s_fail) (SndL.c (s_iconst (by decide +kernel) (in32_d (by decide))) (SndL.c (s_istore (by decide +kernel) (by decide)) (SndL.c (s_fail) (SndL.c (s_iload (by decide +kernel)) (SndL.c (s_fail) (SndL.c (s_aload_n (k := 0) (by decide +kernel) rfl) (SndL.c (s_getf (k := 0) clok5 (by decide) rfl (by decide) rfl w_1_71 (Or.inl rfl) (by decide +kernel)) (SndL.c (s_fail) (SndL.c (s_fail) (SndL.c (s_invV (r := (RJx4a65c, TJx4a65c, 3)) (ci := 0) okJx4a65c_size_8abf5 rfl (by decide) rfl rfl w_3_111 w_2_64 w_2_65 (by decide +kernel)) (SndL.c (s_fail) (SndL.c (s_fail) (SndL.c (s_ic_ge (off := 49) (by decide +kernel) (by decide)) (SndL.n))))))))))))))))
def kX4_countOf_1 : List En := [(1, oFail), (1, oFail), (0, oRload 0 19), (0, oGetf 6 0 2 22), (1, oFail), (1, oFail), (0, oIload 5 24), (1, oFail), (2, oInvV 1 mJx4a65c_get_915e3 1 27), (1, oFail), (1, oFail), (0, oCast 5 30), (1, oFail), (1, oFail), (0, oRstore 6 32), (1, oFail)]
set_option maxRecDepth 20000 in
theorem zX4_countOf_1 : SndL mX4_countOf 16 kX4_countOf_1 := SndL.c (s_fail) (SndL.c (s_fail) (SndL.c (s_aload_n (k := 0) (by decide +kernel) rfl) (SndL.c (s_getf (k := 0) clok5 (by decide) rfl (by decide) rfl w_1_71 (Or.inl rfl) (by decide +kernel)) (SndL.c (s_fail) (SndL.c (s_fail) (SndL.c (s_iload (by decide +kernel)) (SndL.c (s_fail) (SndL.c (s_invV (r := (RJx4a65c, TJx4a65c, 3)) (ci := 0) okJx4a65c_get_915e3 rfl (by decide) rfl rfl w_3_112 w_2_192 w_2_193 (by decide +kernel)) (SndL.c (s_fail) (SndL.c (s_fail) (SndL.c (s_cast (r := (RX3, TX3, 4)) (ci := 4) rfl (by decide) rfl w_3_113 (by decide +kernel)) (SndL.c (s_fail) (SndL.c (s_fail) (SndL.c (s_astore (by decide +kernel) (by decide)) (SndL.c (s_fail) (SndL.n))))))))))))))))
def kX4_countOf_2 : List En := [(0, oIload 4 34), (1, oFail), (0, oRload 6 36), (1, oFail), (0, oIload 1 37), (0, oIload 2 38), (0, oIload 3 39), (2, oInvV 5 mX3_isOn 3 42), (1, oFail), (1, oFail), (0, oIfEq 54 45), (1, oFail), (1, oFail), (0, oRload 6 47), (1, oFail), (0, oGetf 5 3 2 50)]
set_option maxRecDepth 20000 in
theorem zX4_countOf_2 : SndL mX4_countOf 32 kX4_countOf_2 := SndL.c (s_iload (by decide +kernel)) (SndL.c (s_fail) (SndL.c (s_aload (by decide +kernel)) (SndL.c (s_fail) (SndL.c (s_iload_n (k := 1) (by decide +kernel) rfl) (SndL.c (s_iload_n (k := 2) (by decide +kernel) rfl) (SndL.c (s_iload_n (k := 3) (by decide +kernel) rfl) (SndL.c (s_invV (r := (RX3, TX3, 4)) (ci := 4) okX3_isOn rfl (by decide) rfl rfl w_3_114 w_3_115 w_3_116 (by decide +kernel)) (SndL.c (s_fail) (SndL.c (s_fail) (SndL.c (s_if_eq (off := 12) (by decide +kernel) (by decide)) (SndL.c (s_fail) (SndL.c (s_fail) (SndL.c (s_aload (by decide +kernel)) (SndL.c (s_fail) (SndL.c (s_getf (k := 3) clok4 (by decide) rfl (by decide) rfl w_3_183 (Or.inl rfl) (by decide +kernel)) (SndL.n))))))))))))))))
def kX4_countOf_3 : List En := [(1, oFail), (1, oFail), (0, oAlen 51), (0, oGoto 55), (1, oFail), (1, oFail), (0, oPush (vI 0) 55), (0, oIadd 56), (0, oIstore 4 58), (1, oFail), (0, oIinc 5 1 61), (1, oFail), (1, oFail), (0, oGoto 6), (1, oFail), (1, oFail)]
set_option maxRecDepth 20000 in
theorem zX4_countOf_3 : SndL mX4_countOf 48 kX4_countOf_3 := SndL.c (s_fail) (SndL.c (s_fail) (SndL.c (s_alen (by decide +kernel)) (SndL.c (s_goto (off := 4) (by decide +kernel) (by decide)) (SndL.c (s_fail) (SndL.c (s_fail) (SndL.c (s_iconst (by decide +kernel) (in32_d (by decide))) (SndL.c (s_iadd (by decide +kernel)) (SndL.c (s_istore (by decide +kernel) (by decide)) (SndL.c (s_fail) (SndL.c (s_iinc (by decide +kernel) (by decide)) (SndL.c (s_fail) (SndL.c (s_fail) (SndL.c (s_goto (off := -55) (by decide +kernel) (by decide)) (SndL.c (s_fail) (SndL.c (s_fail) (SndL.n))))))))))))))))
def kX4_countOf_4 : List En := [(0, oIload 4 66), (1, oFail), (0, oRetI)]
set_option maxRecDepth 20000 in
theorem zX4_countOf_4 : SndL mX4_countOf 64 kX4_countOf_4 := SndL.c (s_iload (by decide +kernel)) (SndL.c (s_fail) (SndL.c (s_ret_i rfl (by decide +kernel)) (SndL.n)))
def kX4_countOf : Cd := [kX4_countOf_0, kX4_countOf_1, kX4_countOf_2, kX4_countOf_3, kX4_countOf_4]
theorem zX4_countOf : SndC mX4_countOf 0 kX4_countOf := SndC.c zX4_countOf_0 (by decide) (SndC.c zX4_countOf_1 (by decide) (SndC.c zX4_countOf_2 (by decide) (SndC.c zX4_countOf_3 (by decide) (SndC.c zX4_countOf_4 (by decide) (SndC.n)))))
theorem aX4_countOf_0 : at_ kX4_countOf 0 = (0, oPush (vI 0) 1) := rfl
theorem aX4_countOf_1 : at_ kX4_countOf 1 = (0, oIstore 4 3) := rfl
theorem aX4_countOf_3 : at_ kX4_countOf 3 = (0, oPush (vI 0) 4) := rfl
theorem aX4_countOf_4 : at_ kX4_countOf 4 = (0, oIstore 5 6) := rfl
theorem aX4_countOf_6 : at_ kX4_countOf 6 = (1, oIload 5 8) := rfl
theorem aX4_countOf_8 : at_ kX4_countOf 8 = (0, oRload 0 9) := rfl
theorem aX4_countOf_9 : at_ kX4_countOf 9 = (0, oGetf 6 0 2 12) := rfl
theorem aX4_countOf_12 : at_ kX4_countOf 12 = (2, oInvV 1 mJx4a65c_size_8abf5 0 15) := rfl
theorem aX4_countOf_15 : at_ kX4_countOf 15 = (0, oIcGe 64 18) := rfl
theorem aX4_countOf_18 : at_ kX4_countOf 18 = (0, oRload 0 19) := rfl
theorem aX4_countOf_19 : at_ kX4_countOf 19 = (0, oGetf 6 0 2 22) := rfl
theorem aX4_countOf_22 : at_ kX4_countOf 22 = (0, oIload 5 24) := rfl
theorem aX4_countOf_24 : at_ kX4_countOf 24 = (2, oInvV 1 mJx4a65c_get_915e3 1 27) := rfl
theorem aX4_countOf_27 : at_ kX4_countOf 27 = (0, oCast 5 30) := rfl
theorem aX4_countOf_30 : at_ kX4_countOf 30 = (0, oRstore 6 32) := rfl
theorem aX4_countOf_32 : at_ kX4_countOf 32 = (0, oIload 4 34) := rfl
theorem aX4_countOf_34 : at_ kX4_countOf 34 = (0, oRload 6 36) := rfl
theorem aX4_countOf_36 : at_ kX4_countOf 36 = (0, oIload 1 37) := rfl
theorem aX4_countOf_37 : at_ kX4_countOf 37 = (0, oIload 2 38) := rfl
theorem aX4_countOf_38 : at_ kX4_countOf 38 = (0, oIload 3 39) := rfl
theorem aX4_countOf_39 : at_ kX4_countOf 39 = (2, oInvV 5 mX3_isOn 3 42) := rfl
theorem aX4_countOf_42 : at_ kX4_countOf 42 = (0, oIfEq 54 45) := rfl
theorem aX4_countOf_45 : at_ kX4_countOf 45 = (0, oRload 6 47) := rfl
theorem aX4_countOf_47 : at_ kX4_countOf 47 = (0, oGetf 5 3 2 50) := rfl
theorem aX4_countOf_50 : at_ kX4_countOf 50 = (0, oAlen 51) := rfl
theorem aX4_countOf_51 : at_ kX4_countOf 51 = (0, oGoto 55) := rfl
theorem aX4_countOf_54 : at_ kX4_countOf 54 = (0, oPush (vI 0) 55) := rfl
theorem aX4_countOf_55 : at_ kX4_countOf 55 = (0, oIadd 56) := rfl
theorem aX4_countOf_56 : at_ kX4_countOf 56 = (0, oIstore 4 58) := rfl
theorem aX4_countOf_58 : at_ kX4_countOf 58 = (0, oIinc 5 1 61) := rfl
theorem aX4_countOf_61 : at_ kX4_countOf 61 = (0, oGoto 6) := rfl
theorem aX4_countOf_64 : at_ kX4_countOf 64 = (0, oIload 4 66) := rfl
theorem aX4_countOf_66 : at_ kX4_countOf 66 = (0, oRetI) := rfl
def kX4_sumOf_0 : List En := [(0, oPush (vL 0) 1), (0, oLstore 4 3), (1, oFail), (0, oPush (vI 0) 4), (0, oIstore 6 6), (1, oFail), (1, oIload 6 8), (1, oFail), (0, oRload 0 9), (0, oGetf 6 0 2 12), (1, oFail), (1, oFail), (2, oInvV 1 mJx4a65c_size_8abf5 0 15), (1, oFail), (1, oFail), (0, oIcGe 83 18)]
set_option maxRecDepth 20000 in
theorem zX4_sumOf_0 : SndL mX4_sumOf 0 kX4_sumOf_0 := SndL.c (s_lconst (n := 0) (by decide +kernel) (in64_d (by decide)) (by decide +kernel)) (SndL.c (s_lstore (by decide +kernel) (by decide)) (SndL.c (s_fail) (SndL.c (s_iconst (by decide +kernel) (in32_d (by decide))) (SndL.c (s_istore (by decide +kernel) (by decide)) (SndL.c (s_fail) (SndL.c (s_iload (by decide +kernel)) (SndL.c (s_fail) (SndL.c (s_aload_n (k := 0) (by decide +kernel) rfl) (SndL.c (s_getf (k := 0) clok5 (by decide) rfl (by decide) rfl w_1_71 (Or.inl rfl) (by decide +kernel)) (SndL.c (s_fail) (SndL.c (s_fail) (SndL.c (s_invV (r := (RJx4a65c, TJx4a65c, 3)) (ci := 0) okJx4a65c_size_8abf5 rfl (by decide) rfl rfl w_3_111 w_2_64 w_2_65 (by decide +kernel)) (SndL.c (s_fail) (SndL.c (s_fail) (SndL.c (s_ic_ge (off := 68) (by decide +kernel) (by decide)) (SndL.n))))))))))))))))
def kX4_sumOf_1 : List En := [(1, oFail), (1, oFail), (0, oRload 0 19), (0, oGetf 6 0 2 22), (1, oFail), (1, oFail), (0, oIload 6 24), (1, oFail), (2, oInvV 1 mJx4a65c_get_915e3 1 27), (1, oFail), (1, oFail), (0, oCast 5 30), (1, oFail), (1, oFail), (0, oRstore 7 32), (1, oFail)]
set_option maxRecDepth 20000 in
theorem zX4_sumOf_1 : SndL mX4_sumOf 16 kX4_sumOf_1 := SndL.c (s_fail) (SndL.c (s_fail) (SndL.c (s_aload_n (k := 0) (by decide +kernel) rfl) (SndL.c (s_getf (k := 0) clok5 (by decide) rfl (by decide) rfl w_1_71 (Or.inl rfl) (by decide +kernel)) (SndL.c (s_fail) (SndL.c (s_fail) (SndL.c (s_iload (by decide +kernel)) (SndL.c (s_fail) (SndL.c (s_invV (r := (RJx4a65c, TJx4a65c, 3)) (ci := 0) okJx4a65c_get_915e3 rfl (by decide) rfl rfl w_3_112 w_2_192 w_2_193 (by decide +kernel)) (SndL.c (s_fail) (SndL.c (s_fail) (SndL.c (s_cast (r := (RX3, TX3, 4)) (ci := 4) rfl (by decide) rfl w_3_113 (by decide +kernel)) (SndL.c (s_fail) (SndL.c (s_fail) (SndL.c (s_astore (by decide +kernel) (by decide)) (SndL.c (s_fail) (SndL.n))))))))))))))))
def kX4_sumOf_2 : List En := [(0, oRload 7 34), (1, oFail), (0, oIload 1 35), (0, oIload 2 36), (0, oIload 3 37), (2, oInvV 5 mX3_isOn 3 40), (1, oFail), (1, oFail), (0, oIfEq 77 43), (1, oFail), (1, oFail), (0, oPush (vI 0) 44), (0, oIstore 8 46), (1, oFail), (1, oIload 8 48), (1, oFail)]
set_option maxRecDepth 20000 in
theorem zX4_sumOf_2 : SndL mX4_sumOf 32 kX4_sumOf_2 := SndL.c (s_aload (by decide +kernel)) (SndL.c (s_fail) (SndL.c (s_iload_n (k := 1) (by decide +kernel) rfl) (SndL.c (s_iload_n (k := 2) (by decide +kernel) rfl) (SndL.c (s_iload_n (k := 3) (by decide +kernel) rfl) (SndL.c (s_invV (r := (RX3, TX3, 4)) (ci := 4) okX3_isOn rfl (by decide) rfl rfl w_3_114 w_3_115 w_3_116 (by decide +kernel)) (SndL.c (s_fail) (SndL.c (s_fail) (SndL.c (s_if_eq (off := 37) (by decide +kernel) (by decide)) (SndL.c (s_fail) (SndL.c (s_fail) (SndL.c (s_iconst (by decide +kernel) (in32_d (by decide))) (SndL.c (s_istore (by decide +kernel) (by decide)) (SndL.c (s_fail) (SndL.c (s_iload (by decide +kernel)) (SndL.c (s_fail) (SndL.n))))))))))))))))
def kX4_sumOf_3 : List En := [(0, oRload 7 50), (1, oFail), (0, oGetf 5 3 2 53), (1, oFail), (1, oFail), (0, oAlen 54), (0, oIcGe 77 57), (1, oFail), (1, oFail), (0, oLload 4 59), (1, oFail), (0, oRload 7 61), (1, oFail), (0, oGetf 5 3 2 64), (1, oFail), (1, oFail)]
set_option maxRecDepth 20000 in
theorem zX4_sumOf_3 : SndL mX4_sumOf 48 kX4_sumOf_3 := SndL.c (s_aload (by decide +kernel)) (SndL.c (s_fail) (SndL.c (s_getf (k := 3) clok4 (by decide) rfl (by decide) rfl w_3_183 (Or.inl rfl) (by decide +kernel)) (SndL.c (s_fail) (SndL.c (s_fail) (SndL.c (s_alen (by decide +kernel)) (SndL.c (s_ic_ge (off := 23) (by decide +kernel) (by decide)) (SndL.c (s_fail) (SndL.c (s_fail) (SndL.c (s_lload (by decide +kernel)) (SndL.c (s_fail) (SndL.c (s_aload (by decide +kernel)) (SndL.c (s_fail) (SndL.c (s_getf (k := 3) clok4 (by decide) rfl (by decide) rfl w_3_183 (Or.inl rfl) (by decide +kernel)) (SndL.c (s_fail) (SndL.c (s_fail) (SndL.n))))))))))))))))
def kX4_sumOf_4 : List En := [(0, oIload 8 66), (1, oFail), (0, oIald 67), (0, oI2l 68), (0, oLadd 69), (0, oLstore 4 71), (1, oFail), (0, oIinc 8 1 74), (1, oFail), (1, oFail), (0, oGoto 46), (1, oFail), (1, oFail), (0, oIinc 6 1 80), (1, oFail), (1, oFail)]
set_option maxRecDepth 20000 in
theorem zX4_sumOf_4 : SndL mX4_sumOf 64 kX4_sumOf_4 := SndL.c (s_iload (by decide +kernel)) (SndL.c (s_fail) (SndL.c (s_iald (by decide +kernel)) (SndL.c (s_i2l (by decide +kernel)) (SndL.c (s_ladd (by decide +kernel)) (SndL.c (s_lstore (by decide +kernel) (by decide)) (SndL.c (s_fail) (SndL.c (s_iinc (by decide +kernel) (by decide)) (SndL.c (s_fail) (SndL.c (s_fail) (SndL.c (s_goto (off := -28) (by decide +kernel) (by decide)) (SndL.c (s_fail) (SndL.c (s_fail) (SndL.c (s_iinc (by decide +kernel) (by decide)) (SndL.c (s_fail) (SndL.c (s_fail) (SndL.n))))))))))))))))
def kX4_sumOf_5 : List En := [(0, oGoto 6), (1, oFail), (1, oFail), (0, oLload 4 85), (1, oFail), (0, oRetL)]
set_option maxRecDepth 20000 in
theorem zX4_sumOf_5 : SndL mX4_sumOf 80 kX4_sumOf_5 := SndL.c (s_goto (off := -74) (by decide +kernel) (by decide)) (SndL.c (s_fail) (SndL.c (s_fail) (SndL.c (s_lload (by decide +kernel)) (SndL.c (s_fail) (SndL.c (s_ret_l rfl (by decide +kernel)) (SndL.n))))))
def kX4_sumOf : Cd := [kX4_sumOf_0, kX4_sumOf_1, kX4_sumOf_2, kX4_sumOf_3, kX4_sumOf_4, kX4_sumOf_5]
theorem zX4_sumOf : SndC mX4_sumOf 0 kX4_sumOf := SndC.c zX4_sumOf_0 (by decide) (SndC.c zX4_sumOf_1 (by decide) (SndC.c zX4_sumOf_2 (by decide) (SndC.c zX4_sumOf_3 (by decide) (SndC.c zX4_sumOf_4 (by decide) (SndC.c zX4_sumOf_5 (by decide) (SndC.n))))))
theorem aX4_sumOf_0 : at_ kX4_sumOf 0 = (0, oPush (vL 0) 1) := rfl
theorem aX4_sumOf_1 : at_ kX4_sumOf 1 = (0, oLstore 4 3) := rfl
theorem aX4_sumOf_3 : at_ kX4_sumOf 3 = (0, oPush (vI 0) 4) := rfl
theorem aX4_sumOf_4 : at_ kX4_sumOf 4 = (0, oIstore 6 6) := rfl
theorem aX4_sumOf_6 : at_ kX4_sumOf 6 = (1, oIload 6 8) := rfl
theorem aX4_sumOf_8 : at_ kX4_sumOf 8 = (0, oRload 0 9) := rfl
theorem aX4_sumOf_9 : at_ kX4_sumOf 9 = (0, oGetf 6 0 2 12) := rfl
theorem aX4_sumOf_12 : at_ kX4_sumOf 12 = (2, oInvV 1 mJx4a65c_size_8abf5 0 15) := rfl
theorem aX4_sumOf_15 : at_ kX4_sumOf 15 = (0, oIcGe 83 18) := rfl
theorem aX4_sumOf_18 : at_ kX4_sumOf 18 = (0, oRload 0 19) := rfl
theorem aX4_sumOf_19 : at_ kX4_sumOf 19 = (0, oGetf 6 0 2 22) := rfl
theorem aX4_sumOf_22 : at_ kX4_sumOf 22 = (0, oIload 6 24) := rfl
theorem aX4_sumOf_24 : at_ kX4_sumOf 24 = (2, oInvV 1 mJx4a65c_get_915e3 1 27) := rfl
theorem aX4_sumOf_27 : at_ kX4_sumOf 27 = (0, oCast 5 30) := rfl
theorem aX4_sumOf_30 : at_ kX4_sumOf 30 = (0, oRstore 7 32) := rfl
theorem aX4_sumOf_32 : at_ kX4_sumOf 32 = (0, oRload 7 34) := rfl
theorem aX4_sumOf_34 : at_ kX4_sumOf 34 = (0, oIload 1 35) := rfl
theorem aX4_sumOf_35 : at_ kX4_sumOf 35 = (0, oIload 2 36) := rfl
theorem aX4_sumOf_36 : at_ kX4_sumOf 36 = (0, oIload 3 37) := rfl
theorem aX4_sumOf_37 : at_ kX4_sumOf 37 = (2, oInvV 5 mX3_isOn 3 40) := rfl
theorem aX4_sumOf_40 : at_ kX4_sumOf 40 = (0, oIfEq 77 43) := rfl
theorem aX4_sumOf_43 : at_ kX4_sumOf 43 = (0, oPush (vI 0) 44) := rfl
theorem aX4_sumOf_44 : at_ kX4_sumOf 44 = (0, oIstore 8 46) := rfl
theorem aX4_sumOf_46 : at_ kX4_sumOf 46 = (1, oIload 8 48) := rfl
theorem aX4_sumOf_48 : at_ kX4_sumOf 48 = (0, oRload 7 50) := rfl
theorem aX4_sumOf_50 : at_ kX4_sumOf 50 = (0, oGetf 5 3 2 53) := rfl
theorem aX4_sumOf_53 : at_ kX4_sumOf 53 = (0, oAlen 54) := rfl
theorem aX4_sumOf_54 : at_ kX4_sumOf 54 = (0, oIcGe 77 57) := rfl
theorem aX4_sumOf_57 : at_ kX4_sumOf 57 = (0, oLload 4 59) := rfl
theorem aX4_sumOf_59 : at_ kX4_sumOf 59 = (0, oRload 7 61) := rfl
theorem aX4_sumOf_61 : at_ kX4_sumOf 61 = (0, oGetf 5 3 2 64) := rfl
theorem aX4_sumOf_64 : at_ kX4_sumOf 64 = (0, oIload 8 66) := rfl
theorem aX4_sumOf_66 : at_ kX4_sumOf 66 = (0, oIald 67) := rfl
theorem aX4_sumOf_67 : at_ kX4_sumOf 67 = (0, oI2l 68) := rfl
theorem aX4_sumOf_68 : at_ kX4_sumOf 68 = (0, oLadd 69) := rfl
theorem aX4_sumOf_69 : at_ kX4_sumOf 69 = (0, oLstore 4 71) := rfl
theorem aX4_sumOf_71 : at_ kX4_sumOf 71 = (0, oIinc 8 1 74) := rfl
theorem aX4_sumOf_74 : at_ kX4_sumOf 74 = (0, oGoto 46) := rfl
theorem aX4_sumOf_77 : at_ kX4_sumOf 77 = (0, oIinc 6 1 80) := rfl
theorem aX4_sumOf_80 : at_ kX4_sumOf 80 = (0, oGoto 6) := rfl
theorem aX4_sumOf_83 : at_ kX4_sumOf 83 = (0, oLload 4 85) := rfl
theorem aX4_sumOf_85 : at_ kX4_sumOf 85 = (0, oRetL) := rfl
def kX4_isGiven_0 : List En := [(0, oPush (vI 0) 1), (0, oIstore 4 3), (1, oFail), (1, oIload 4 5), (1, oFail), (0, oRload 0 6), (0, oGetf 6 0 2 9), (1, oFail), (1, oFail), (2, oInvV 1 mJx4a65c_size_8abf5 0 12), (1, oFail), (1, oFail), (0, oIcGe 44 15), (1, oFail), (1, oFail), (0, oRload 0 16)]
set_option maxRecDepth 20000 in
theorem zX4_isGiven_0 : SndL mX4_isGiven 0 kX4_isGiven_0 := SndL.c (s_iconst (by decide +kernel) (in32_d (by decide))) (SndL.c (s_istore (by decide +kernel) (by decide)) (SndL.c (s_fail) (SndL.c (s_iload (by decide +kernel)) (SndL.c (s_fail) (SndL.c (s_aload_n (k := 0) (by decide +kernel) rfl) (SndL.c (s_getf (k := 0) clok5 (by decide) rfl (by decide) rfl w_1_71 (Or.inl rfl) (by decide +kernel)) (SndL.c (s_fail) (SndL.c (s_fail) (SndL.c (s_invV (r := (RJx4a65c, TJx4a65c, 3)) (ci := 0) okJx4a65c_size_8abf5 rfl (by decide) rfl rfl w_3_111 w_2_64 w_2_65 (by decide +kernel)) (SndL.c (s_fail) (SndL.c (s_fail) (SndL.c (s_ic_ge (off := 32) (by decide +kernel) (by decide)) (SndL.c (s_fail) (SndL.c (s_fail) (SndL.c (s_aload_n (k := 0) (by decide +kernel) rfl) (SndL.n))))))))))))))))
def kX4_isGiven_1 : List En := [(0, oGetf 6 0 2 19), (1, oFail), (1, oFail), (0, oIload 4 21), (1, oFail), (2, oInvV 1 mJx4a65c_get_915e3 1 24), (1, oFail), (1, oFail), (0, oCast 5 27), (1, oFail), (1, oFail), (0, oIload 1 28), (0, oIload 2 29), (0, oIload 3 30), (2, oInvV 5 mX3_isOn 3 33), (1, oFail)]
set_option maxRecDepth 20000 in
theorem zX4_isGiven_1 : SndL mX4_isGiven 16 kX4_isGiven_1 := SndL.c (s_getf (k := 0) clok5 (by decide) rfl (by decide) rfl w_1_71 (Or.inl rfl) (by decide +kernel)) (SndL.c (s_fail) (SndL.c (s_fail) (SndL.c (s_iload (by decide +kernel)) (SndL.c (s_fail) (SndL.c (s_invV (r := (RJx4a65c, TJx4a65c, 3)) (ci := 0) okJx4a65c_get_915e3 rfl (by decide) rfl rfl w_3_112 w_2_192 w_2_193 (by decide +kernel)) (SndL.c (s_fail) (SndL.c (s_fail) (SndL.c (s_cast (r := (RX3, TX3, 4)) (ci := 4) rfl (by decide) rfl w_3_113 (by decide +kernel)) (SndL.c (s_fail) (SndL.c (s_fail) (SndL.c (s_iload_n (k := 1) (by decide +kernel) rfl) (SndL.c (s_iload_n (k := 2) (by decide +kernel) rfl) (SndL.c (s_iload_n (k := 3) (by decide +kernel) rfl) (SndL.c (s_invV (r := (RX3, TX3, 4)) (ci := 4) okX3_isOn rfl (by decide) rfl rfl w_3_114 w_3_115 w_3_116 (by decide +kernel)) (SndL.c (s_fail) (SndL.n))))))))))))))))
def kX4_isGiven_2 : List En := [(1, oFail), (0, oIfEq 38 36), (1, oFail), (1, oFail), (0, oPush (vI 1) 37), (0, oRetZ), (0, oIinc 4 1 41), (1, oFail), (1, oFail), (0, oGoto 3), (1, oFail), (1, oFail), (0, oPush (vI 0) 45), (0, oRetZ)]
set_option maxRecDepth 20000 in
theorem zX4_isGiven_2 : SndL mX4_isGiven 32 kX4_isGiven_2 := SndL.c (s_fail) (SndL.c (s_if_eq (off := 5) (by decide +kernel) (by decide)) (SndL.c (s_fail) (SndL.c (s_fail) (SndL.c (s_iconst (by decide +kernel) (in32_d (by decide))) (SndL.c (s_ret_z rfl (by decide +kernel)) (SndL.c (s_iinc (by decide +kernel) (by decide)) (SndL.c (s_fail) (SndL.c (s_fail) (SndL.c (s_goto (off := -38) (by decide +kernel) (by decide)) (SndL.c (s_fail) (SndL.c (s_fail) (SndL.c (s_iconst (by decide +kernel) (in32_d (by decide))) (SndL.c (s_ret_z rfl (by decide +kernel)) (SndL.n))))))))))))))
def kX4_isGiven : Cd := [kX4_isGiven_0, kX4_isGiven_1, kX4_isGiven_2]
theorem zX4_isGiven : SndC mX4_isGiven 0 kX4_isGiven := SndC.c zX4_isGiven_0 (by decide) (SndC.c zX4_isGiven_1 (by decide) (SndC.c zX4_isGiven_2 (by decide) (SndC.n)))
theorem aX4_isGiven_0 : at_ kX4_isGiven 0 = (0, oPush (vI 0) 1) := rfl
theorem aX4_isGiven_1 : at_ kX4_isGiven 1 = (0, oIstore 4 3) := rfl
theorem aX4_isGiven_3 : at_ kX4_isGiven 3 = (1, oIload 4 5) := rfl
theorem aX4_isGiven_5 : at_ kX4_isGiven 5 = (0, oRload 0 6) := rfl
theorem aX4_isGiven_6 : at_ kX4_isGiven 6 = (0, oGetf 6 0 2 9) := rfl
theorem aX4_isGiven_9 : at_ kX4_isGiven 9 = (2, oInvV 1 mJx4a65c_size_8abf5 0 12) := rfl
theorem aX4_isGiven_12 : at_ kX4_isGiven 12 = (0, oIcGe 44 15) := rfl
theorem aX4_isGiven_15 : at_ kX4_isGiven 15 = (0, oRload 0 16) := rfl
theorem aX4_isGiven_16 : at_ kX4_isGiven 16 = (0, oGetf 6 0 2 19) := rfl
theorem aX4_isGiven_19 : at_ kX4_isGiven 19 = (0, oIload 4 21) := rfl
theorem aX4_isGiven_21 : at_ kX4_isGiven 21 = (2, oInvV 1 mJx4a65c_get_915e3 1 24) := rfl
theorem aX4_isGiven_24 : at_ kX4_isGiven 24 = (0, oCast 5 27) := rfl
theorem aX4_isGiven_27 : at_ kX4_isGiven 27 = (0, oIload 1 28) := rfl
theorem aX4_isGiven_28 : at_ kX4_isGiven 28 = (0, oIload 2 29) := rfl
theorem aX4_isGiven_29 : at_ kX4_isGiven 29 = (0, oIload 3 30) := rfl
theorem aX4_isGiven_30 : at_ kX4_isGiven 30 = (2, oInvV 5 mX3_isOn 3 33) := rfl
theorem aX4_isGiven_33 : at_ kX4_isGiven 33 = (0, oIfEq 38 36) := rfl
theorem aX4_isGiven_36 : at_ kX4_isGiven 36 = (0, oPush (vI 1) 37) := rfl
theorem aX4_isGiven_37 : at_ kX4_isGiven 37 = (0, oRetZ) := rfl
theorem aX4_isGiven_38 : at_ kX4_isGiven 38 = (0, oIinc 4 1 41) := rfl
theorem aX4_isGiven_41 : at_ kX4_isGiven 41 = (0, oGoto 3) := rfl
theorem aX4_isGiven_44 : at_ kX4_isGiven 44 = (0, oPush (vI 0) 45) := rfl
theorem aX4_isGiven_45 : at_ kX4_isGiven 45 = (0, oRetZ) := rfl
def kX4_areEnough_0 : List En := [(0, oPush (vI 0) 1), (0, oIstore 5 3), (1, oFail), (0, oPush (vI 0) 4), (0, oIstore 6 6), (1, oFail), (0, oPush (vI 0) 7), (0, oIstore 7 9), (1, oFail), (1, oIload 7 11), (1, oFail), (0, oRload 0 12), (0, oGetf 6 0 2 15), (1, oFail), (1, oFail), (2, oInvV 1 mJx4a65c_size_8abf5 0 18)]
set_option maxRecDepth 20000 in
theorem zX4_areEnough_0 : SndL mX4_areEnough 0 kX4_areEnough_0 := SndL.c (s_iconst (by decide +kernel) (in32_d (by decide))) (SndL.c (s_istore (by decide +kernel) (by decide)) (SndL.c (s_fail) (SndL.c (s_iconst (by decide +kernel) (in32_d (by decide))) (SndL.c (s_istore (by decide +kernel) (by decide)) (SndL.c (s_fail) (SndL.c (s_iconst (by decide +kernel) (in32_d (by decide))) (SndL.c (s_istore (by decide +kernel) (by decide)) (SndL.c (s_fail) (SndL.c (s_iload (by decide +kernel)) (SndL.c (s_fail) (SndL.c (s_aload_n (k := 0) (by decide +kernel) rfl) (SndL.c (s_getf (k := 0) clok5 (by decide) rfl (by decide) rfl w_1_71 (Or.inl rfl) (by decide +kernel)) (SndL.c (s_fail) (SndL.c (s_fail) (SndL.c (s_invV (r := (RJx4a65c, TJx4a65c, 3)) (ci := 0) okJx4a65c_size_8abf5 rfl (by decide) rfl rfl w_3_111 w_2_64 w_2_65 (by decide +kernel)) (SndL.n))))))))))))))))
def kX4_areEnough_1 : List En := [(1, oFail), (1, oFail), (0, oIcGe 112 21), (1, oFail), (1, oFail), (0, oRload 0 22), (0, oGetf 6 0 2 25), (1, oFail), (1, oFail), (0, oIload 7 27), (1, oFail), (2, oInvV 1 mJx4a65c_get_915e3 1 30), (1, oFail), (1, oFail), (0, oCast 5 33), (1, oFail)]
set_option maxRecDepth 20000 in
theorem zX4_areEnough_1 : SndL mX4_areEnough 16 kX4_areEnough_1 := SndL.c (s_fail) (SndL.c (s_fail) (SndL.c (s_ic_ge (off := 94) (by decide +kernel) (by decide)) (SndL.c (s_fail) (SndL.c (s_fail) (SndL.c (s_aload_n (k := 0) (by decide +kernel) rfl) (SndL.c (s_getf (k := 0) clok5 (by decide) rfl (by decide) rfl w_1_71 (Or.inl rfl) (by decide +kernel)) (SndL.c (s_fail) (SndL.c (s_fail) (SndL.c (s_iload (by decide +kernel)) (SndL.c (s_fail) (SndL.c (s_invV (r := (RJx4a65c, TJx4a65c, 3)) (ci := 0) okJx4a65c_get_915e3 rfl (by decide) rfl rfl w_3_112 w_2_192 w_2_193 (by decide +kernel)) (SndL.c (s_fail) (SndL.c (s_fail) (SndL.c (s_cast (r := (RX3, TX3, 4)) (ci := 4) rfl (by decide) rfl w_3_113 (by decide +kernel)) (SndL.c (s_fail) (SndL.n))))))))))))))))
def kX4_areEnough_2 : List En := [(1, oFail), (0, oRstore 8 35), (1, oFail), (0, oRload 8 37), (1, oFail), (0, oIload 2 38), (0, oRload 3 39), (0, oGetf 4 3 0 42), (1, oFail), (1, oFail), (0, oIload 4 44), (1, oFail), (2, oInvV 5 mX3_isOn 3 47), (1, oFail), (1, oFail), (0, oIfEq 106 50)]
set_option maxRecDepth 20000 in
theorem zX4_areEnough_2 : SndL mX4_areEnough 32 kX4_areEnough_2 := SndL.c (s_fail) (SndL.c (s_astore (by decide +kernel) (by decide)) (SndL.c (s_fail) (SndL.c (s_aload (by decide +kernel)) (SndL.c (s_fail) (SndL.c (s_iload_n (k := 2) (by decide +kernel) rfl) (SndL.c (s_aload_n (k := 3) (by decide +kernel) rfl) (SndL.c (s_getf (k := 3) clok3 (by decide) rfl (by decide) rfl w_3_14 (Or.inl rfl) (by decide +kernel)) (SndL.c (s_fail) (SndL.c (s_fail) (SndL.c (s_iload (by decide +kernel)) (SndL.c (s_fail) (SndL.c (s_invV (r := (RX3, TX3, 4)) (ci := 4) okX3_isOn rfl (by decide) rfl rfl w_3_114 w_3_115 w_3_116 (by decide +kernel)) (SndL.c (s_fail) (SndL.c (s_fail) (SndL.c (s_if_eq (off := 59) (by decide +kernel) (by decide)) (SndL.n))))))))))))))))
def kX4_areEnough_3 : List En := [(1, oFail), (1, oFail), (0, oIload 5 52), (1, oFail), (0, oRload 8 54), (1, oFail), (0, oGetf 5 3 2 57), (1, oFail), (1, oFail), (0, oAlen 58), (0, oIadd 59), (0, oIstore 5 61), (1, oFail), (0, oPush (vI 0) 62), (0, oIstore 9 64), (1, oFail)]
set_option maxRecDepth 20000 in
theorem zX4_areEnough_3 : SndL mX4_areEnough 48 kX4_areEnough_3 := SndL.c (s_fail) (SndL.c (s_fail) (SndL.c (s_iload (by decide +kernel)) (SndL.c (s_fail) (SndL.c (s_aload (by decide +kernel)) (SndL.c (s_fail) (SndL.c (s_getf (k := 3) clok4 (by decide) rfl (by decide) rfl w_3_183 (Or.inl rfl) (by decide +kernel)) (SndL.c (s_fail) (SndL.c (s_fail) (SndL.c (s_alen (by decide +kernel)) (SndL.c (s_iadd (by decide +kernel)) (SndL.c (s_istore (by decide +kernel) (by decide)) (SndL.c (s_fail) (SndL.c (s_iconst (by decide +kernel) (in32_d (by decide))) (SndL.c (s_istore (by decide +kernel) (by decide)) (SndL.c (s_fail) (SndL.n))))))))))))))))
def kX4_areEnough_4 : List En := [(1, oIload 9 66), (1, oFail), (0, oRload 8 68), (1, oFail), (0, oGetf 5 3 2 71), (1, oFail), (1, oFail), (0, oAlen 72), (0, oIcGe 106 75), (1, oFail), (1, oFail), (0, oIload 6 77), (1, oFail), (0, oRload 8 79), (1, oFail), (0, oGetf 5 3 2 82)]
set_option maxRecDepth 20000 in
theorem zX4_areEnough_4 : SndL mX4_areEnough 64 kX4_areEnough_4 := SndL.c (s_iload (by decide +kernel)) (SndL.c (s_fail) (SndL.c (s_aload (by decide +kernel)) (SndL.c (s_fail) (SndL.c (s_getf (k := 3) clok4 (by decide) rfl (by decide) rfl w_3_183 (Or.inl rfl) (by decide +kernel)) (SndL.c (s_fail) (SndL.c (s_fail) (SndL.c (s_alen (by decide +kernel)) (SndL.c (s_ic_ge (off := 34) (by decide +kernel) (by decide)) (SndL.c (s_fail) (SndL.c (s_fail) (SndL.c (s_iload (by decide +kernel)) (SndL.c (s_fail) (SndL.c (s_aload (by decide +kernel)) (SndL.c (s_fail) (SndL.c (s_getf (k := 3) clok4 (by decide) rfl (by decide) rfl w_3_183 (Or.inl rfl) (by decide +kernel)) (SndL.n))))))))))))))))
def kX4_areEnough_5 : List En := [(1, oFail), (1, oFail), (0, oIload 9 84), (1, oFail), (0, oIald 85), (0, oRload 3 86), (0, oGetf 4 4 0 89), (1, oFail), (1, oFail), (0, oIcLt 96 92), (1, oFail), (1, oFail), (0, oPush (vI 1) 93), (0, oGoto 97), (1, oFail), (1, oFail)]
set_option maxRecDepth 20000 in
theorem zX4_areEnough_5 : SndL mX4_areEnough 80 kX4_areEnough_5 := SndL.c (s_fail) (SndL.c (s_fail) (SndL.c (s_iload (by decide +kernel)) (SndL.c (s_fail) (SndL.c (s_iald (by decide +kernel)) (SndL.c (s_aload_n (k := 3) (by decide +kernel) rfl) (SndL.c (s_getf (k := 4) clok3 (by decide) rfl (by decide) rfl w_3_19 (Or.inl rfl) (by decide +kernel)) (SndL.c (s_fail) (SndL.c (s_fail) (SndL.c (s_ic_lt (off := 7) (by decide +kernel) (by decide)) (SndL.c (s_fail) (SndL.c (s_fail) (SndL.c (s_iconst (by decide +kernel) (in32_d (by decide))) (SndL.c (s_goto (off := 4) (by decide +kernel) (by decide)) (SndL.c (s_fail) (SndL.c (s_fail) (SndL.n))))))))))))))))
def kX4_areEnough_6 : List En := [(0, oPush (vI 0) 97), (0, oIadd 98), (0, oIstore 6 100), (1, oFail), (0, oIinc 9 1 103), (1, oFail), (1, oFail), (0, oGoto 64), (1, oFail), (1, oFail), (0, oIinc 7 1 109), (1, oFail), (1, oFail), (0, oGoto 9), (1, oFail), (1, oFail)]
set_option maxRecDepth 20000 in
theorem zX4_areEnough_6 : SndL mX4_areEnough 96 kX4_areEnough_6 := SndL.c (s_iconst (by decide +kernel) (in32_d (by decide))) (SndL.c (s_iadd (by decide +kernel)) (SndL.c (s_istore (by decide +kernel) (by decide)) (SndL.c (s_fail) (SndL.c (s_iinc (by decide +kernel) (by decide)) (SndL.c (s_fail) (SndL.c (s_fail) (SndL.c (s_goto (off := -39) (by decide +kernel) (by decide)) (SndL.c (s_fail) (SndL.c (s_fail) (SndL.c (s_iinc (by decide +kernel) (by decide)) (SndL.c (s_fail) (SndL.c (s_fail) (SndL.c (s_goto (off := -100) (by decide +kernel) (by decide)) (SndL.c (s_fail) (SndL.c (s_fail) (SndL.n))))))))))))))))
def kX4_areEnough_7 : List En := [(0, oIload 5 114), (1, oFail), (0, oIfLe 133 117), (1, oFail), (1, oFail), (0, oIload 6 119), (1, oFail), (0, oPush (vI 100) 121), (1, oFail), (0, oImul 122), (0, oIload 1 123), (0, oIload 5 125), (1, oFail), (0, oImul 126), (0, oIcLt 133 129), (1, oFail)]
set_option maxRecDepth 20000 in
theorem zX4_areEnough_7 : SndL mX4_areEnough 112 kX4_areEnough_7 := SndL.c (s_iload (by decide +kernel)) (SndL.c (s_fail) (SndL.c (s_if_le (off := 19) (by decide +kernel) (by decide)) (SndL.c (s_fail) (SndL.c (s_fail) (SndL.c (s_iload (by decide +kernel)) (SndL.c (s_fail) (SndL.c (s_bipush (by decide +kernel) (in32_d (by decide)) (by decide +kernel)) (SndL.c (s_fail) (SndL.c (s_imul (by decide +kernel)) (SndL.c (s_iload_n (k := 1) (by decide +kernel) rfl) (SndL.c (s_iload (by decide +kernel)) (SndL.c (s_fail) (SndL.c (s_imul (by decide +kernel)) (SndL.c (s_ic_lt (off := 7) (by decide +kernel) (by decide)) (SndL.c (s_fail) (SndL.n))))))))))))))))
def kX4_areEnough_8 : List En := [(1, oFail), (0, oPush (vI 1) 130), (0, oGoto 134), (1, oFail), (1, oFail), (0, oPush (vI 0) 134), (0, oRetZ)]
set_option maxRecDepth 20000 in
theorem zX4_areEnough_8 : SndL mX4_areEnough 128 kX4_areEnough_8 := SndL.c (s_fail) (SndL.c (s_iconst (by decide +kernel) (in32_d (by decide))) (SndL.c (s_goto (off := 4) (by decide +kernel) (by decide)) (SndL.c (s_fail) (SndL.c (s_fail) (SndL.c (s_iconst (by decide +kernel) (in32_d (by decide))) (SndL.c (s_ret_z rfl (by decide +kernel)) (SndL.n)))))))
def kX4_areEnough : Cd := [kX4_areEnough_0, kX4_areEnough_1, kX4_areEnough_2, kX4_areEnough_3, kX4_areEnough_4, kX4_areEnough_5, kX4_areEnough_6, kX4_areEnough_7, kX4_areEnough_8]
theorem zX4_areEnough : SndC mX4_areEnough 0 kX4_areEnough := SndC.c zX4_areEnough_0 (by decide) (SndC.c zX4_areEnough_1 (by decide) (SndC.c zX4_areEnough_2 (by decide) (SndC.c zX4_areEnough_3 (by decide) (SndC.c zX4_areEnough_4 (by decide) (SndC.c zX4_areEnough_5 (by decide) (SndC.c zX4_areEnough_6 (by decide) (SndC.c zX4_areEnough_7 (by decide) (SndC.c zX4_areEnough_8 (by decide) (SndC.n)))))))))
theorem aX4_areEnough_0 : at_ kX4_areEnough 0 = (0, oPush (vI 0) 1) := rfl
theorem aX4_areEnough_1 : at_ kX4_areEnough 1 = (0, oIstore 5 3) := rfl
theorem aX4_areEnough_3 : at_ kX4_areEnough 3 = (0, oPush (vI 0) 4) := rfl
theorem aX4_areEnough_4 : at_ kX4_areEnough 4 = (0, oIstore 6 6) := rfl
theorem aX4_areEnough_6 : at_ kX4_areEnough 6 = (0, oPush (vI 0) 7) := rfl
theorem aX4_areEnough_7 : at_ kX4_areEnough 7 = (0, oIstore 7 9) := rfl
theorem aX4_areEnough_9 : at_ kX4_areEnough 9 = (1, oIload 7 11) := rfl
theorem aX4_areEnough_11 : at_ kX4_areEnough 11 = (0, oRload 0 12) := rfl
theorem aX4_areEnough_12 : at_ kX4_areEnough 12 = (0, oGetf 6 0 2 15) := rfl
theorem aX4_areEnough_15 : at_ kX4_areEnough 15 = (2, oInvV 1 mJx4a65c_size_8abf5 0 18) := rfl
theorem aX4_areEnough_18 : at_ kX4_areEnough 18 = (0, oIcGe 112 21) := rfl
theorem aX4_areEnough_21 : at_ kX4_areEnough 21 = (0, oRload 0 22) := rfl
theorem aX4_areEnough_22 : at_ kX4_areEnough 22 = (0, oGetf 6 0 2 25) := rfl
theorem aX4_areEnough_25 : at_ kX4_areEnough 25 = (0, oIload 7 27) := rfl
theorem aX4_areEnough_27 : at_ kX4_areEnough 27 = (2, oInvV 1 mJx4a65c_get_915e3 1 30) := rfl
theorem aX4_areEnough_30 : at_ kX4_areEnough 30 = (0, oCast 5 33) := rfl
theorem aX4_areEnough_33 : at_ kX4_areEnough 33 = (0, oRstore 8 35) := rfl
theorem aX4_areEnough_35 : at_ kX4_areEnough 35 = (0, oRload 8 37) := rfl
theorem aX4_areEnough_37 : at_ kX4_areEnough 37 = (0, oIload 2 38) := rfl
theorem aX4_areEnough_38 : at_ kX4_areEnough 38 = (0, oRload 3 39) := rfl
theorem aX4_areEnough_39 : at_ kX4_areEnough 39 = (0, oGetf 4 3 0 42) := rfl
theorem aX4_areEnough_42 : at_ kX4_areEnough 42 = (0, oIload 4 44) := rfl
theorem aX4_areEnough_44 : at_ kX4_areEnough 44 = (2, oInvV 5 mX3_isOn 3 47) := rfl
theorem aX4_areEnough_47 : at_ kX4_areEnough 47 = (0, oIfEq 106 50) := rfl
theorem aX4_areEnough_50 : at_ kX4_areEnough 50 = (0, oIload 5 52) := rfl
theorem aX4_areEnough_52 : at_ kX4_areEnough 52 = (0, oRload 8 54) := rfl
theorem aX4_areEnough_54 : at_ kX4_areEnough 54 = (0, oGetf 5 3 2 57) := rfl
theorem aX4_areEnough_57 : at_ kX4_areEnough 57 = (0, oAlen 58) := rfl
theorem aX4_areEnough_58 : at_ kX4_areEnough 58 = (0, oIadd 59) := rfl
theorem aX4_areEnough_59 : at_ kX4_areEnough 59 = (0, oIstore 5 61) := rfl
theorem aX4_areEnough_61 : at_ kX4_areEnough 61 = (0, oPush (vI 0) 62) := rfl
theorem aX4_areEnough_62 : at_ kX4_areEnough 62 = (0, oIstore 9 64) := rfl
theorem aX4_areEnough_64 : at_ kX4_areEnough 64 = (1, oIload 9 66) := rfl
theorem aX4_areEnough_66 : at_ kX4_areEnough 66 = (0, oRload 8 68) := rfl
theorem aX4_areEnough_68 : at_ kX4_areEnough 68 = (0, oGetf 5 3 2 71) := rfl
theorem aX4_areEnough_71 : at_ kX4_areEnough 71 = (0, oAlen 72) := rfl
theorem aX4_areEnough_72 : at_ kX4_areEnough 72 = (0, oIcGe 106 75) := rfl
theorem aX4_areEnough_75 : at_ kX4_areEnough 75 = (0, oIload 6 77) := rfl
theorem aX4_areEnough_77 : at_ kX4_areEnough 77 = (0, oRload 8 79) := rfl
theorem aX4_areEnough_79 : at_ kX4_areEnough 79 = (0, oGetf 5 3 2 82) := rfl
theorem aX4_areEnough_82 : at_ kX4_areEnough 82 = (0, oIload 9 84) := rfl
theorem aX4_areEnough_84 : at_ kX4_areEnough 84 = (0, oIald 85) := rfl
theorem aX4_areEnough_85 : at_ kX4_areEnough 85 = (0, oRload 3 86) := rfl
theorem aX4_areEnough_86 : at_ kX4_areEnough 86 = (0, oGetf 4 4 0 89) := rfl
theorem aX4_areEnough_89 : at_ kX4_areEnough 89 = (0, oIcLt 96 92) := rfl
theorem aX4_areEnough_92 : at_ kX4_areEnough 92 = (0, oPush (vI 1) 93) := rfl
theorem aX4_areEnough_93 : at_ kX4_areEnough 93 = (0, oGoto 97) := rfl
theorem aX4_areEnough_96 : at_ kX4_areEnough 96 = (0, oPush (vI 0) 97) := rfl
theorem aX4_areEnough_97 : at_ kX4_areEnough 97 = (0, oIadd 98) := rfl
theorem aX4_areEnough_98 : at_ kX4_areEnough 98 = (0, oIstore 6 100) := rfl
theorem aX4_areEnough_100 : at_ kX4_areEnough 100 = (0, oIinc 9 1 103) := rfl
theorem aX4_areEnough_103 : at_ kX4_areEnough 103 = (0, oGoto 64) := rfl
theorem aX4_areEnough_106 : at_ kX4_areEnough 106 = (0, oIinc 7 1 109) := rfl
theorem aX4_areEnough_109 : at_ kX4_areEnough 109 = (0, oGoto 9) := rfl
theorem aX4_areEnough_112 : at_ kX4_areEnough 112 = (0, oIload 5 114) := rfl
theorem aX4_areEnough_114 : at_ kX4_areEnough 114 = (0, oIfLe 133 117) := rfl
theorem aX4_areEnough_117 : at_ kX4_areEnough 117 = (0, oIload 6 119) := rfl
theorem aX4_areEnough_119 : at_ kX4_areEnough 119 = (0, oPush (vI 100) 121) := rfl
theorem aX4_areEnough_121 : at_ kX4_areEnough 121 = (0, oImul 122) := rfl
theorem aX4_areEnough_122 : at_ kX4_areEnough 122 = (0, oIload 1 123) := rfl
theorem aX4_areEnough_123 : at_ kX4_areEnough 123 = (0, oIload 5 125) := rfl
theorem aX4_areEnough_125 : at_ kX4_areEnough 125 = (0, oImul 126) := rfl
theorem aX4_areEnough_126 : at_ kX4_areEnough 126 = (0, oIcLt 133 129) := rfl
theorem aX4_areEnough_129 : at_ kX4_areEnough 129 = (0, oPush (vI 1) 130) := rfl
theorem aX4_areEnough_130 : at_ kX4_areEnough 130 = (0, oGoto 134) := rfl
theorem aX4_areEnough_133 : at_ kX4_areEnough 133 = (0, oPush (vI 0) 134) := rfl
theorem aX4_areEnough_134 : at_ kX4_areEnough 134 = (0, oRetZ) := rfl
def kX4_isAhead_0 : List En := [(0, oRload 0 1), (0, oIload 1 2), (0, oIload 3 3), (0, oIload 4 5), (1, oFail), (2, oInvV 6 mX4_countOf 3 8), (1, oFail), (1, oFail), (0, oI2l 9), (0, oLstore 5 11), (1, oFail), (0, oRload 0 12), (0, oIload 2 13), (0, oIload 3 14), (0, oIload 4 16), (1, oFail)]
set_option maxRecDepth 20000 in
theorem zX4_isAhead_0 : SndL mX4_isAhead 0 kX4_isAhead_0 := SndL.c (s_aload_n (k := 0) (by decide +kernel) rfl) (SndL.c (s_iload_n (k := 1) (by decide +kernel) rfl) (SndL.c (s_iload_n (k := 3) (by decide +kernel) rfl) (SndL.c (s_iload (by decide +kernel)) (SndL.c (s_fail) (SndL.c (s_invV (r := (RX4, TX4, 3)) (ci := 5) okX4_countOf rfl (by decide) rfl rfl w_3_126 w_3_127 w_3_128 (by decide +kernel)) (SndL.c (s_fail) (SndL.c (s_fail) (SndL.c (s_i2l (by decide +kernel)) (SndL.c (s_lstore (by decide +kernel) (by decide)) (SndL.c (s_fail) (SndL.c (s_aload_n (k := 0) (by decide +kernel) rfl) (SndL.c (s_iload_n (k := 2) (by decide +kernel) rfl) (SndL.c (s_iload_n (k := 3) (by decide +kernel) rfl) (SndL.c (s_iload (by decide +kernel)) (SndL.c (s_fail) (SndL.n))))))))))))))))
def kX4_isAhead_1 : List En := [(2, oInvV 6 mX4_countOf 3 19), (1, oFail), (1, oFail), (0, oI2l 20), (0, oLstore 7 22), (1, oFail), (0, oLload 5 24), (1, oFail), (0, oPush (vL 0) 25), (0, oLcmp 26), (0, oIfLe 66 29), (1, oFail), (1, oFail), (0, oLload 7 31), (1, oFail), (0, oPush (vL 0) 32)]
set_option maxRecDepth 20000 in
theorem zX4_isAhead_1 : SndL mX4_isAhead 16 kX4_isAhead_1 := SndL.c (s_invV (r := (RX4, TX4, 3)) (ci := 5) okX4_countOf rfl (by decide) rfl rfl w_3_126 w_3_127 w_3_128 (by decide +kernel)) (SndL.c (s_fail) (SndL.c (s_fail) (SndL.c (s_i2l (by decide +kernel)) (SndL.c (s_lstore (by decide +kernel) (by decide)) (SndL.c (s_fail) (SndL.c (s_lload (by decide +kernel)) (SndL.c (s_fail) (SndL.c (s_lconst (n := 0) (by decide +kernel) (in64_d (by decide)) (by decide +kernel)) (SndL.c (s_lcmp (by decide +kernel)) (SndL.c (s_if_le (off := 40) (by decide +kernel) (by decide)) (SndL.c (s_fail) (SndL.c (s_fail) (SndL.c (s_lload (by decide +kernel)) (SndL.c (s_fail) (SndL.c (s_lconst (n := 0) (by decide +kernel) (in64_d (by decide)) (by decide +kernel)) (SndL.n))))))))))))))))
def kX4_isAhead_2 : List En := [(0, oLcmp 33), (0, oIfLe 66 36), (1, oFail), (1, oFail), (0, oRload 0 37), (0, oIload 1 38), (0, oIload 3 39), (0, oIload 4 41), (1, oFail), (2, oInvV 6 mX4_sumOf 3 44), (1, oFail), (1, oFail), (0, oLload 7 46), (1, oFail), (0, oLmul 47), (0, oRload 0 48)]
set_option maxRecDepth 20000 in
theorem zX4_isAhead_2 : SndL mX4_isAhead 32 kX4_isAhead_2 := SndL.c (s_lcmp (by decide +kernel)) (SndL.c (s_if_le (off := 33) (by decide +kernel) (by decide)) (SndL.c (s_fail) (SndL.c (s_fail) (SndL.c (s_aload_n (k := 0) (by decide +kernel) rfl) (SndL.c (s_iload_n (k := 1) (by decide +kernel) rfl) (SndL.c (s_iload_n (k := 3) (by decide +kernel) rfl) (SndL.c (s_iload (by decide +kernel)) (SndL.c (s_fail) (SndL.c (s_invV (r := (RX4, TX4, 3)) (ci := 5) okX4_sumOf rfl (by decide) rfl rfl w_3_130 w_3_131 w_3_132 (by decide +kernel)) (SndL.c (s_fail) (SndL.c (s_fail) (SndL.c (s_lload (by decide +kernel)) (SndL.c (s_fail) (SndL.c (s_lmul (by decide +kernel)) (SndL.c (s_aload_n (k := 0) (by decide +kernel) rfl) (SndL.n))))))))))))))))
def kX4_isAhead_3 : List En := [(0, oIload 2 49), (0, oIload 3 50), (0, oIload 4 52), (1, oFail), (2, oInvV 6 mX4_sumOf 3 55), (1, oFail), (1, oFail), (0, oLload 5 57), (1, oFail), (0, oLmul 58), (0, oLcmp 59), (0, oIfLe 66 62), (1, oFail), (1, oFail), (0, oPush (vI 1) 63), (0, oGoto 67)]
set_option maxRecDepth 20000 in
theorem zX4_isAhead_3 : SndL mX4_isAhead 48 kX4_isAhead_3 := SndL.c (s_iload_n (k := 2) (by decide +kernel) rfl) (SndL.c (s_iload_n (k := 3) (by decide +kernel) rfl) (SndL.c (s_iload (by decide +kernel)) (SndL.c (s_fail) (SndL.c (s_invV (r := (RX4, TX4, 3)) (ci := 5) okX4_sumOf rfl (by decide) rfl rfl w_3_130 w_3_131 w_3_132 (by decide +kernel)) (SndL.c (s_fail) (SndL.c (s_fail) (SndL.c (s_lload (by decide +kernel)) (SndL.c (s_fail) (SndL.c (s_lmul (by decide +kernel)) (SndL.c (s_lcmp (by decide +kernel)) (SndL.c (s_if_le (off := 7) (by decide +kernel) (by decide)) (SndL.c (s_fail) (SndL.c (s_fail) (SndL.c (s_iconst (by decide +kernel) (in32_d (by decide))) (SndL.c (s_goto (off := 4) (by decide +kernel) (by decide)) (SndL.n))))))))))))))))
def kX4_isAhead_4 : List En := [(1, oFail), (1, oFail), (0, oPush (vI 0) 67), (0, oRetZ)]
set_option maxRecDepth 20000 in
theorem zX4_isAhead_4 : SndL mX4_isAhead 64 kX4_isAhead_4 := SndL.c (s_fail) (SndL.c (s_fail) (SndL.c (s_iconst (by decide +kernel) (in32_d (by decide))) (SndL.c (s_ret_z rfl (by decide +kernel)) (SndL.n))))
def kX4_isAhead : Cd := [kX4_isAhead_0, kX4_isAhead_1, kX4_isAhead_2, kX4_isAhead_3, kX4_isAhead_4]
theorem zX4_isAhead : SndC mX4_isAhead 0 kX4_isAhead := SndC.c zX4_isAhead_0 (by decide) (SndC.c zX4_isAhead_1 (by decide) (SndC.c zX4_isAhead_2 (by decide) (SndC.c zX4_isAhead_3 (by decide) (SndC.c zX4_isAhead_4 (by decide) (SndC.n)))))
theorem aX4_isAhead_0 : at_ kX4_isAhead 0 = (0, oRload 0 1) := rfl
theorem aX4_isAhead_1 : at_ kX4_isAhead 1 = (0, oIload 1 2) := rfl
theorem aX4_isAhead_2 : at_ kX4_isAhead 2 = (0, oIload 3 3) := rfl
theorem aX4_isAhead_3 : at_ kX4_isAhead 3 = (0, oIload 4 5) := rfl
theorem aX4_isAhead_5 : at_ kX4_isAhead 5 = (2, oInvV 6 mX4_countOf 3 8) := rfl
theorem aX4_isAhead_8 : at_ kX4_isAhead 8 = (0, oI2l 9) := rfl
theorem aX4_isAhead_9 : at_ kX4_isAhead 9 = (0, oLstore 5 11) := rfl
theorem aX4_isAhead_11 : at_ kX4_isAhead 11 = (0, oRload 0 12) := rfl
theorem aX4_isAhead_12 : at_ kX4_isAhead 12 = (0, oIload 2 13) := rfl
theorem aX4_isAhead_13 : at_ kX4_isAhead 13 = (0, oIload 3 14) := rfl
theorem aX4_isAhead_14 : at_ kX4_isAhead 14 = (0, oIload 4 16) := rfl
theorem aX4_isAhead_16 : at_ kX4_isAhead 16 = (2, oInvV 6 mX4_countOf 3 19) := rfl
theorem aX4_isAhead_19 : at_ kX4_isAhead 19 = (0, oI2l 20) := rfl
theorem aX4_isAhead_20 : at_ kX4_isAhead 20 = (0, oLstore 7 22) := rfl
theorem aX4_isAhead_22 : at_ kX4_isAhead 22 = (0, oLload 5 24) := rfl
theorem aX4_isAhead_24 : at_ kX4_isAhead 24 = (0, oPush (vL 0) 25) := rfl
theorem aX4_isAhead_25 : at_ kX4_isAhead 25 = (0, oLcmp 26) := rfl
theorem aX4_isAhead_26 : at_ kX4_isAhead 26 = (0, oIfLe 66 29) := rfl
theorem aX4_isAhead_29 : at_ kX4_isAhead 29 = (0, oLload 7 31) := rfl
theorem aX4_isAhead_31 : at_ kX4_isAhead 31 = (0, oPush (vL 0) 32) := rfl
theorem aX4_isAhead_32 : at_ kX4_isAhead 32 = (0, oLcmp 33) := rfl
theorem aX4_isAhead_33 : at_ kX4_isAhead 33 = (0, oIfLe 66 36) := rfl
theorem aX4_isAhead_36 : at_ kX4_isAhead 36 = (0, oRload 0 37) := rfl
theorem aX4_isAhead_37 : at_ kX4_isAhead 37 = (0, oIload 1 38) := rfl
theorem aX4_isAhead_38 : at_ kX4_isAhead 38 = (0, oIload 3 39) := rfl
theorem aX4_isAhead_39 : at_ kX4_isAhead 39 = (0, oIload 4 41) := rfl
theorem aX4_isAhead_41 : at_ kX4_isAhead 41 = (2, oInvV 6 mX4_sumOf 3 44) := rfl
theorem aX4_isAhead_44 : at_ kX4_isAhead 44 = (0, oLload 7 46) := rfl
theorem aX4_isAhead_46 : at_ kX4_isAhead 46 = (0, oLmul 47) := rfl
theorem aX4_isAhead_47 : at_ kX4_isAhead 47 = (0, oRload 0 48) := rfl
theorem aX4_isAhead_48 : at_ kX4_isAhead 48 = (0, oIload 2 49) := rfl
theorem aX4_isAhead_49 : at_ kX4_isAhead 49 = (0, oIload 3 50) := rfl
theorem aX4_isAhead_50 : at_ kX4_isAhead 50 = (0, oIload 4 52) := rfl
theorem aX4_isAhead_52 : at_ kX4_isAhead 52 = (2, oInvV 6 mX4_sumOf 3 55) := rfl
theorem aX4_isAhead_55 : at_ kX4_isAhead 55 = (0, oLload 5 57) := rfl
theorem aX4_isAhead_57 : at_ kX4_isAhead 57 = (0, oLmul 58) := rfl
theorem aX4_isAhead_58 : at_ kX4_isAhead 58 = (0, oLcmp 59) := rfl
theorem aX4_isAhead_59 : at_ kX4_isAhead 59 = (0, oIfLe 66 62) := rfl
theorem aX4_isAhead_62 : at_ kX4_isAhead 62 = (0, oPush (vI 1) 63) := rfl
theorem aX4_isAhead_63 : at_ kX4_isAhead 63 = (0, oGoto 67) := rfl
theorem aX4_isAhead_66 : at_ kX4_isAhead 66 = (0, oPush (vI 0) 67) := rfl
theorem aX4_isAhead_67 : at_ kX4_isAhead 67 = (0, oRetZ) := rfl
def kX5_init_0 : List En := [(0, oRload 0 1), (0, oObji 4), (1, oFail), (1, oFail), (0, oRload 0 5), (0, oPush (vI 24) 7), (1, oFail), (0, oNewa 112 10), (1, oFail), (1, oFail), (0, oPutf 7 0 2 13), (1, oFail), (1, oFail), (0, oRload 0 14), (0, oPush (vI 24) 16), (1, oFail)]
set_option maxRecDepth 20000 in
theorem zX5_init_0 : SndL mX5_init 0 kX5_init_0 := SndL.c (s_aload_n (k := 0) (by decide +kernel) rfl) (SndL.c (s_obji w_1_138 w_1_33 w_1_34 (by decide +kernel)) (SndL.c (s_fail) (SndL.c (s_fail) (SndL.c (s_aload_n (k := 0) (by decide +kernel) rfl) (SndL.c (s_bipush (by decide +kernel) (in32_d (by decide)) (by decide +kernel)) (SndL.c (s_fail) (SndL.c (s_anewa (kd := 112) (akd_d (by decide)) rfl w_1_139 u_1_140 (by decide +kernel)) (SndL.c (s_fail) (SndL.c (s_fail) (SndL.c (s_putf (k := 0) clok6 (by decide) rfl (by decide) rfl w_1_141 (Or.inl rfl) (Or.inr ⟨rfl, rfl, rfl⟩) (by decide +kernel)) (SndL.c (s_fail) (SndL.c (s_fail) (SndL.c (s_aload_n (k := 0) (by decide +kernel) rfl) (SndL.c (s_bipush (by decide +kernel) (in32_d (by decide)) (by decide +kernel)) (SndL.c (s_fail) (SndL.n))))))))))))))))
def kX5_init_1 : List En := [(0, oNewa 100 18), (1, oFail), (0, oPutf 7 1 2 21), (1, oFail), (1, oFail), (0, oRload 0 22), (0, oPush (vI 0) 23), (0, oPutf 7 2 0 26), (1, oFail), (1, oFail), (0, oRetV)]
set_option maxRecDepth 20000 in
theorem zX5_init_1 : SndL mX5_init 16 kX5_init_1 := SndL.c (s_newa (kd := 100) (atype := .int) (akd_d (by decide)) rfl (by decide) w_1_104 (fun _ _ h => h) (by decide +kernel)) (SndL.c (s_fail) (SndL.c (s_putf (k := 1) clok6 (by decide) rfl (by decide) rfl w_1_142 (Or.inl rfl) (Or.inr ⟨rfl, rfl, rfl⟩) (by decide +kernel)) (SndL.c (s_fail) (SndL.c (s_fail) (SndL.c (s_aload_n (k := 0) (by decide +kernel) rfl) (SndL.c (s_iconst (by decide +kernel) (in32_d (by decide))) (SndL.c (s_putf (k := 2) clok6 (by decide) rfl (by decide) rfl w_1_143 (Or.inl rfl) (Or.inl rfl) (by decide +kernel)) (SndL.c (s_fail) (SndL.c (s_fail) (SndL.c (s_ret_v rfl (by decide +kernel)) (SndL.n)))))))))))
def kX5_init : Cd := [kX5_init_0, kX5_init_1]
theorem zX5_init : SndC mX5_init 0 kX5_init := SndC.c zX5_init_0 (by decide) (SndC.c zX5_init_1 (by decide) (SndC.n))
theorem aX5_init_0 : at_ kX5_init 0 = (0, oRload 0 1) := rfl
theorem aX5_init_1 : at_ kX5_init 1 = (0, oObji 4) := rfl
theorem aX5_init_4 : at_ kX5_init 4 = (0, oRload 0 5) := rfl
theorem aX5_init_5 : at_ kX5_init 5 = (0, oPush (vI 24) 7) := rfl
theorem aX5_init_7 : at_ kX5_init 7 = (0, oNewa 112 10) := rfl
theorem aX5_init_10 : at_ kX5_init 10 = (0, oPutf 7 0 2 13) := rfl
theorem aX5_init_13 : at_ kX5_init 13 = (0, oRload 0 14) := rfl
theorem aX5_init_14 : at_ kX5_init 14 = (0, oPush (vI 24) 16) := rfl
theorem aX5_init_16 : at_ kX5_init 16 = (0, oNewa 100 18) := rfl
theorem aX5_init_18 : at_ kX5_init 18 = (0, oPutf 7 1 2 21) := rfl
theorem aX5_init_21 : at_ kX5_init 21 = (0, oRload 0 22) := rfl
theorem aX5_init_22 : at_ kX5_init 22 = (0, oPush (vI 0) 23) := rfl
theorem aX5_init_23 : at_ kX5_init 23 = (0, oPutf 7 2 0 26) := rfl
theorem aX5_init_26 : at_ kX5_init 26 = (0, oRetV) := rfl
def kX5_read_0 : List En := [(0, oRload 0 1), (0, oPush (vI 0) 2), (0, oPutf 7 2 0 5), (1, oFail), (1, oFail), (0, oPush (vI 0) 6), (0, oIstore 6 8), (1, oFail), (1, oIload 6 10), (1, oFail), (0, oIload 5 12), (1, oFail), (0, oIcGe 134 15), (1, oFail), (1, oFail), (0, oPush (vI 0) 16)]
set_option maxRecDepth 20000 in
theorem zX5_read_0 : SndL mX5_read 0 kX5_read_0 := SndL.c (s_aload_n (k := 0) (by decide +kernel) rfl) (SndL.c (s_iconst (by decide +kernel) (in32_d (by decide))) (SndL.c (s_putf (k := 2) clok6 (by decide) rfl (by decide) rfl w_1_143 (Or.inl rfl) (Or.inl rfl) (by decide +kernel)) (SndL.c (s_fail) (SndL.c (s_fail) (SndL.c (s_iconst (by decide +kernel) (in32_d (by decide))) (SndL.c (s_istore (by decide +kernel) (by decide)) (SndL.c (s_fail) (SndL.c (s_iload (by decide +kernel)) (SndL.c (s_fail) (SndL.c (s_iload (by decide +kernel)) (SndL.c (s_fail) (SndL.c (s_ic_ge (off := 122) (by decide +kernel) (by decide)) (SndL.c (s_fail) (SndL.c (s_fail) (SndL.c (s_iconst (by decide +kernel) (in32_d (by decide))) (SndL.n))))))))))))))))
def kX5_read_1 : List En := [(0, oIstore 7 18), (1, oFail), (1, oIload 7 20), (1, oFail), (0, oRload 1 21), (2, oInvV 1 mJx4a65c_size_8abf5 0 24), (1, oFail), (1, oFail), (0, oIcGe 128 27), (1, oFail), (1, oFail), (0, oIload 2 28), (0, oIload 7 30), (1, oFail), (0, oIushr 31), (0, oPush (vI 1) 32)]
set_option maxRecDepth 20000 in
theorem zX5_read_1 : SndL mX5_read 16 kX5_read_1 := SndL.c (s_istore (by decide +kernel) (by decide)) (SndL.c (s_fail) (SndL.c (s_iload (by decide +kernel)) (SndL.c (s_fail) (SndL.c (s_aload_n (k := 1) (by decide +kernel) rfl) (SndL.c (s_invV (r := (RJx4a65c, TJx4a65c, 3)) (ci := 0) okJx4a65c_size_8abf5 rfl (by decide) rfl rfl w_3_65 w_2_64 w_2_65 (by decide +kernel)) (SndL.c (s_fail) (SndL.c (s_fail) (SndL.c (s_ic_ge (off := 104) (by decide +kernel) (by decide)) (SndL.c (s_fail) (SndL.c (s_fail) (SndL.c (s_iload_n (k := 2) (by decide +kernel) rfl) (SndL.c (s_iload (by decide +kernel)) (SndL.c (s_fail) (SndL.c (s_iushr (by decide +kernel)) (SndL.c (s_iconst (by decide +kernel) (in32_d (by decide))) (SndL.n))))))))))))))))
def kX5_read_2 : List En := [(0, oIand 33), (0, oIfEq 122 36), (1, oFail), (1, oFail), (0, oRload 1 37), (0, oIload 7 39), (1, oFail), (2, oInvV 1 mJx4a65c_get_915e3 1 42), (1, oFail), (1, oFail), (0, oCast 4 45), (1, oFail), (1, oFail), (0, oIload 6 47), (1, oFail), (0, oRload 4 49)]
set_option maxRecDepth 20000 in
theorem zX5_read_2 : SndL mX5_read 32 kX5_read_2 := SndL.c (s_iand (by decide +kernel)) (SndL.c (s_if_eq (off := 89) (by decide +kernel) (by decide)) (SndL.c (s_fail) (SndL.c (s_fail) (SndL.c (s_aload_n (k := 1) (by decide +kernel) rfl) (SndL.c (s_iload (by decide +kernel)) (SndL.c (s_fail) (SndL.c (s_invV (r := (RJx4a65c, TJx4a65c, 3)) (ci := 0) okJx4a65c_get_915e3 rfl (by decide) rfl rfl w_3_66 w_2_192 w_2_193 (by decide +kernel)) (SndL.c (s_fail) (SndL.c (s_fail) (SndL.c (s_cast (r := (RX2, TX2, 6)) (ci := 3) rfl (by decide) rfl w_1_139 (by decide +kernel)) (SndL.c (s_fail) (SndL.c (s_fail) (SndL.c (s_iload (by decide +kernel)) (SndL.c (s_fail) (SndL.c (s_aload (by decide +kernel)) (SndL.n))))))))))))))))
def kX5_read_3 : List En := [(1, oFail), (0, oIload 5 51), (1, oFail), (2, oInvV 4 mX2_isAt 3 54), (1, oFail), (1, oFail), (0, oIfNe 60 57), (1, oFail), (1, oFail), (0, oGoto 122), (1, oFail), (1, oFail), (0, oRload 0 61), (0, oGetf 7 2 0 64), (1, oFail), (1, oFail)]
set_option maxRecDepth 20000 in
theorem zX5_read_3 : SndL mX5_read 48 kX5_read_3 := SndL.c (s_fail) (SndL.c (s_iload (by decide +kernel)) (SndL.c (s_fail) (SndL.c (s_invV (r := (RX2, TX2, 6)) (ci := 3) okX2_isAt rfl (by decide) rfl rfl w_3_67 w_3_68 w_3_69 (by decide +kernel)) (SndL.c (s_fail) (SndL.c (s_fail) (SndL.c (s_if_ne (off := 6) (by decide +kernel) (by decide)) (SndL.c (s_fail) (SndL.c (s_fail) (SndL.c (s_goto (off := 65) (by decide +kernel) (by decide)) (SndL.c (s_fail) (SndL.c (s_fail) (SndL.c (s_aload_n (k := 0) (by decide +kernel) rfl) (SndL.c (s_getf (k := 2) clok6 (by decide) rfl (by decide) rfl w_1_143 (Or.inl rfl) (by decide +kernel)) (SndL.c (s_fail) (SndL.c (s_fail) (SndL.n))))))))))))))))
def kX5_read_4 : List En := [(0, oPush (vI 24) 66), (1, oFail), (0, oIcLt 71 69), (1, oFail), (1, oFail), (0, oPush (vI 0) 70), (0, oRetZ), (0, oRload 0 72), (0, oGetf 7 0 2 75), (1, oFail), (1, oFail), (0, oRload 0 76), (0, oGetf 7 2 0 79), (1, oFail), (1, oFail), (0, oRload 1 80)]
set_option maxRecDepth 20000 in
theorem zX5_read_4 : SndL mX5_read 64 kX5_read_4 := SndL.c (s_bipush (by decide +kernel) (in32_d (by decide)) (by decide +kernel)) (SndL.c (s_fail) (SndL.c (s_ic_lt (off := 5) (by decide +kernel) (by decide)) (SndL.c (s_fail) (SndL.c (s_fail) (SndL.c (s_iconst (by decide +kernel) (in32_d (by decide))) (SndL.c (s_ret_z rfl (by decide +kernel)) (SndL.c (s_aload_n (k := 0) (by decide +kernel) rfl) (SndL.c (s_getf (k := 0) clok6 (by decide) rfl (by decide) rfl w_1_141 (Or.inl rfl) (by decide +kernel)) (SndL.c (s_fail) (SndL.c (s_fail) (SndL.c (s_aload_n (k := 0) (by decide +kernel) rfl) (SndL.c (s_getf (k := 2) clok6 (by decide) rfl (by decide) rfl w_1_143 (Or.inl rfl) (by decide +kernel)) (SndL.c (s_fail) (SndL.c (s_fail) (SndL.c (s_aload_n (k := 1) (by decide +kernel) rfl) (SndL.n))))))))))))))))
def kX5_read_5 : List En := [(0, oIload 7 82), (1, oFail), (2, oInvV 1 mJx4a65c_get_915e3 1 85), (1, oFail), (1, oFail), (0, oCast 4 88), (1, oFail), (1, oFail), (0, oAast 112 4 89), (0, oRload 0 90), (0, oGetf 7 1 2 93), (1, oFail), (1, oFail), (0, oRload 0 94), (0, oGetf 7 2 0 97), (1, oFail)]
set_option maxRecDepth 20000 in
theorem zX5_read_5 : SndL mX5_read 80 kX5_read_5 := SndL.c (s_iload (by decide +kernel)) (SndL.c (s_fail) (SndL.c (s_invV (r := (RJx4a65c, TJx4a65c, 3)) (ci := 0) okJx4a65c_get_915e3 rfl (by decide) rfl rfl w_3_66 w_2_192 w_2_193 (by decide +kernel)) (SndL.c (s_fail) (SndL.c (s_fail) (SndL.c (s_cast (r := (RX2, TX2, 6)) (ci := 3) rfl (by decide) rfl w_1_139 (by decide +kernel)) (SndL.c (s_fail) (SndL.c (s_fail) (SndL.c (s_aast (kd := 112) (ci := 3) (r := (RX2, TX2, 6)) (akd_d (by decide)) rfl rfl rfl (by decide) rfl (Or.inl rfl) (by decide +kernel)) (SndL.c (s_aload_n (k := 0) (by decide +kernel) rfl) (SndL.c (s_getf (k := 1) clok6 (by decide) rfl (by decide) rfl w_1_142 (Or.inl rfl) (by decide +kernel)) (SndL.c (s_fail) (SndL.c (s_fail) (SndL.c (s_aload_n (k := 0) (by decide +kernel) rfl) (SndL.c (s_getf (k := 2) clok6 (by decide) rfl (by decide) rfl w_1_143 (Or.inl rfl) (by decide +kernel)) (SndL.c (s_fail) (SndL.n))))))))))))))))
def kX5_read_6 : List En := [(1, oFail), (0, oIload 6 99), (1, oFail), (0, oIast 100), (0, oRload 0 101), (0, oDup 102), (0, oGetf 7 2 0 105), (1, oFail), (1, oFail), (0, oPush (vI 1) 106), (0, oIadd 107), (0, oPutf 7 2 0 110), (1, oFail), (1, oFail), (0, oIload 3 111), (0, oIload 7 113)]
set_option maxRecDepth 20000 in
theorem zX5_read_6 : SndL mX5_read 96 kX5_read_6 := SndL.c (s_fail) (SndL.c (s_iload (by decide +kernel)) (SndL.c (s_fail) (SndL.c (s_iast (by decide +kernel)) (SndL.c (s_aload_n (k := 0) (by decide +kernel) rfl) (SndL.c (s_dup (by decide +kernel)) (SndL.c (s_getf (k := 2) clok6 (by decide) rfl (by decide) rfl w_1_143 (Or.inl rfl) (by decide +kernel)) (SndL.c (s_fail) (SndL.c (s_fail) (SndL.c (s_iconst (by decide +kernel) (in32_d (by decide))) (SndL.c (s_iadd (by decide +kernel)) (SndL.c (s_putf (k := 2) clok6 (by decide) rfl (by decide) rfl w_1_143 (Or.inl rfl) (Or.inl rfl) (by decide +kernel)) (SndL.c (s_fail) (SndL.c (s_fail) (SndL.c (s_iload_n (k := 3) (by decide +kernel) rfl) (SndL.c (s_iload (by decide +kernel)) (SndL.n))))))))))))))))
def kX5_read_7 : List En := [(1, oFail), (0, oIushr 114), (0, oPush (vI 1) 115), (0, oIand 116), (0, oPush (vI 1) 117), (0, oIcNe 122 120), (1, oFail), (1, oFail), (0, oPush (vI 1) 121), (0, oRetZ), (0, oIinc 7 1 125), (1, oFail), (1, oFail), (0, oGoto 18), (1, oFail), (1, oFail)]
set_option maxRecDepth 20000 in
theorem zX5_read_7 : SndL mX5_read 112 kX5_read_7 := SndL.c (s_fail) (SndL.c (s_iushr (by decide +kernel)) (SndL.c (s_iconst (by decide +kernel) (in32_d (by decide))) (SndL.c (s_iand (by decide +kernel)) (SndL.c (s_iconst (by decide +kernel) (in32_d (by decide))) (SndL.c (s_ic_ne (off := 5) (by decide +kernel) (by decide)) (SndL.c (s_fail) (SndL.c (s_fail) (SndL.c (s_iconst (by decide +kernel) (in32_d (by decide))) (SndL.c (s_ret_z rfl (by decide +kernel)) (SndL.c (s_iinc (by decide +kernel) (by decide)) (SndL.c (s_fail) (SndL.c (s_fail) (SndL.c (s_goto (off := -107) (by decide +kernel) (by decide)) (SndL.c (s_fail) (SndL.c (s_fail) (SndL.n))))))))))))))))
def kX5_read_8 : List En := [(0, oIinc 6 1 131), (1, oFail), (1, oFail), (0, oGoto 8), (1, oFail), (1, oFail), (0, oPush (vI 0) 135), (0, oRetZ)]
set_option maxRecDepth 20000 in
theorem zX5_read_8 : SndL mX5_read 128 kX5_read_8 := SndL.c (s_iinc (by decide +kernel) (by decide)) (SndL.c (s_fail) (SndL.c (s_fail) (SndL.c (s_goto (off := -123) (by decide +kernel) (by decide)) (SndL.c (s_fail) (SndL.c (s_fail) (SndL.c (s_iconst (by decide +kernel) (in32_d (by decide))) (SndL.c (s_ret_z rfl (by decide +kernel)) (SndL.n))))))))
def kX5_read : Cd := [kX5_read_0, kX5_read_1, kX5_read_2, kX5_read_3, kX5_read_4, kX5_read_5, kX5_read_6, kX5_read_7, kX5_read_8]
theorem zX5_read : SndC mX5_read 0 kX5_read := SndC.c zX5_read_0 (by decide) (SndC.c zX5_read_1 (by decide) (SndC.c zX5_read_2 (by decide) (SndC.c zX5_read_3 (by decide) (SndC.c zX5_read_4 (by decide) (SndC.c zX5_read_5 (by decide) (SndC.c zX5_read_6 (by decide) (SndC.c zX5_read_7 (by decide) (SndC.c zX5_read_8 (by decide) (SndC.n)))))))))
theorem aX5_read_0 : at_ kX5_read 0 = (0, oRload 0 1) := rfl
theorem aX5_read_1 : at_ kX5_read 1 = (0, oPush (vI 0) 2) := rfl
theorem aX5_read_2 : at_ kX5_read 2 = (0, oPutf 7 2 0 5) := rfl
theorem aX5_read_5 : at_ kX5_read 5 = (0, oPush (vI 0) 6) := rfl
theorem aX5_read_6 : at_ kX5_read 6 = (0, oIstore 6 8) := rfl
theorem aX5_read_8 : at_ kX5_read 8 = (1, oIload 6 10) := rfl
theorem aX5_read_10 : at_ kX5_read 10 = (0, oIload 5 12) := rfl
theorem aX5_read_12 : at_ kX5_read 12 = (0, oIcGe 134 15) := rfl
theorem aX5_read_15 : at_ kX5_read 15 = (0, oPush (vI 0) 16) := rfl
theorem aX5_read_16 : at_ kX5_read 16 = (0, oIstore 7 18) := rfl
theorem aX5_read_18 : at_ kX5_read 18 = (1, oIload 7 20) := rfl
theorem aX5_read_20 : at_ kX5_read 20 = (0, oRload 1 21) := rfl
theorem aX5_read_21 : at_ kX5_read 21 = (2, oInvV 1 mJx4a65c_size_8abf5 0 24) := rfl
theorem aX5_read_24 : at_ kX5_read 24 = (0, oIcGe 128 27) := rfl
theorem aX5_read_27 : at_ kX5_read 27 = (0, oIload 2 28) := rfl
theorem aX5_read_28 : at_ kX5_read 28 = (0, oIload 7 30) := rfl
theorem aX5_read_30 : at_ kX5_read 30 = (0, oIushr 31) := rfl
theorem aX5_read_31 : at_ kX5_read 31 = (0, oPush (vI 1) 32) := rfl
theorem aX5_read_32 : at_ kX5_read 32 = (0, oIand 33) := rfl
theorem aX5_read_33 : at_ kX5_read 33 = (0, oIfEq 122 36) := rfl
theorem aX5_read_36 : at_ kX5_read 36 = (0, oRload 1 37) := rfl
theorem aX5_read_37 : at_ kX5_read 37 = (0, oIload 7 39) := rfl
theorem aX5_read_39 : at_ kX5_read 39 = (2, oInvV 1 mJx4a65c_get_915e3 1 42) := rfl
theorem aX5_read_42 : at_ kX5_read 42 = (0, oCast 4 45) := rfl
theorem aX5_read_45 : at_ kX5_read 45 = (0, oIload 6 47) := rfl
theorem aX5_read_47 : at_ kX5_read 47 = (0, oRload 4 49) := rfl
theorem aX5_read_49 : at_ kX5_read 49 = (0, oIload 5 51) := rfl
theorem aX5_read_51 : at_ kX5_read 51 = (2, oInvV 4 mX2_isAt 3 54) := rfl
theorem aX5_read_54 : at_ kX5_read 54 = (0, oIfNe 60 57) := rfl
theorem aX5_read_57 : at_ kX5_read 57 = (0, oGoto 122) := rfl
theorem aX5_read_60 : at_ kX5_read 60 = (0, oRload 0 61) := rfl
theorem aX5_read_61 : at_ kX5_read 61 = (0, oGetf 7 2 0 64) := rfl
theorem aX5_read_64 : at_ kX5_read 64 = (0, oPush (vI 24) 66) := rfl
theorem aX5_read_66 : at_ kX5_read 66 = (0, oIcLt 71 69) := rfl
theorem aX5_read_69 : at_ kX5_read 69 = (0, oPush (vI 0) 70) := rfl
theorem aX5_read_70 : at_ kX5_read 70 = (0, oRetZ) := rfl
theorem aX5_read_71 : at_ kX5_read 71 = (0, oRload 0 72) := rfl
theorem aX5_read_72 : at_ kX5_read 72 = (0, oGetf 7 0 2 75) := rfl
theorem aX5_read_75 : at_ kX5_read 75 = (0, oRload 0 76) := rfl
theorem aX5_read_76 : at_ kX5_read 76 = (0, oGetf 7 2 0 79) := rfl
theorem aX5_read_79 : at_ kX5_read 79 = (0, oRload 1 80) := rfl
theorem aX5_read_80 : at_ kX5_read 80 = (0, oIload 7 82) := rfl
theorem aX5_read_82 : at_ kX5_read 82 = (2, oInvV 1 mJx4a65c_get_915e3 1 85) := rfl
theorem aX5_read_85 : at_ kX5_read 85 = (0, oCast 4 88) := rfl
theorem aX5_read_88 : at_ kX5_read 88 = (0, oAast 112 4 89) := rfl
theorem aX5_read_89 : at_ kX5_read 89 = (0, oRload 0 90) := rfl
theorem aX5_read_90 : at_ kX5_read 90 = (0, oGetf 7 1 2 93) := rfl
theorem aX5_read_93 : at_ kX5_read 93 = (0, oRload 0 94) := rfl
theorem aX5_read_94 : at_ kX5_read 94 = (0, oGetf 7 2 0 97) := rfl
theorem aX5_read_97 : at_ kX5_read 97 = (0, oIload 6 99) := rfl
theorem aX5_read_99 : at_ kX5_read 99 = (0, oIast 100) := rfl
theorem aX5_read_100 : at_ kX5_read 100 = (0, oRload 0 101) := rfl
theorem aX5_read_101 : at_ kX5_read 101 = (0, oDup 102) := rfl
theorem aX5_read_102 : at_ kX5_read 102 = (0, oGetf 7 2 0 105) := rfl
theorem aX5_read_105 : at_ kX5_read 105 = (0, oPush (vI 1) 106) := rfl
theorem aX5_read_106 : at_ kX5_read 106 = (0, oIadd 107) := rfl
theorem aX5_read_107 : at_ kX5_read 107 = (0, oPutf 7 2 0 110) := rfl
theorem aX5_read_110 : at_ kX5_read 110 = (0, oIload 3 111) := rfl
theorem aX5_read_111 : at_ kX5_read 111 = (0, oIload 7 113) := rfl
theorem aX5_read_113 : at_ kX5_read 113 = (0, oIushr 114) := rfl
theorem aX5_read_114 : at_ kX5_read 114 = (0, oPush (vI 1) 115) := rfl
theorem aX5_read_115 : at_ kX5_read 115 = (0, oIand 116) := rfl
theorem aX5_read_116 : at_ kX5_read 116 = (0, oPush (vI 1) 117) := rfl
theorem aX5_read_117 : at_ kX5_read 117 = (0, oIcNe 122 120) := rfl
theorem aX5_read_120 : at_ kX5_read 120 = (0, oPush (vI 1) 121) := rfl
theorem aX5_read_121 : at_ kX5_read 121 = (0, oRetZ) := rfl
theorem aX5_read_122 : at_ kX5_read 122 = (0, oIinc 7 1 125) := rfl
theorem aX5_read_125 : at_ kX5_read 125 = (0, oGoto 18) := rfl
theorem aX5_read_128 : at_ kX5_read 128 = (0, oIinc 6 1 131) := rfl
theorem aX5_read_131 : at_ kX5_read 131 = (0, oGoto 8) := rfl
theorem aX5_read_134 : at_ kX5_read 134 = (0, oPush (vI 0) 135) := rfl
theorem aX5_read_135 : at_ kX5_read 135 = (0, oRetZ) := rfl
def kX5_phraseOf_0 : List En := [(0, oIload 1 1), (0, oIfLt 21 4), (1, oFail), (1, oFail), (0, oIload 1 5), (0, oRload 0 6), (0, oGetf 7 2 0 9), (1, oFail), (1, oFail), (0, oIcGe 21 12), (1, oFail), (1, oFail), (0, oRload 0 13), (0, oGetf 7 0 2 16), (1, oFail), (1, oFail)]
set_option maxRecDepth 20000 in
theorem zX5_phraseOf_0 : SndL mX5_phraseOf 0 kX5_phraseOf_0 := SndL.c (s_iload_n (k := 1) (by decide +kernel) rfl) (SndL.c (s_if_lt (off := 20) (by decide +kernel) (by decide)) (SndL.c (s_fail) (SndL.c (s_fail) (SndL.c (s_iload_n (k := 1) (by decide +kernel) rfl) (SndL.c (s_aload_n (k := 0) (by decide +kernel) rfl) (SndL.c (s_getf (k := 2) clok6 (by decide) rfl (by decide) rfl w_1_143 (Or.inl rfl) (by decide +kernel)) (SndL.c (s_fail) (SndL.c (s_fail) (SndL.c (s_ic_ge (off := 12) (by decide +kernel) (by decide)) (SndL.c (s_fail) (SndL.c (s_fail) (SndL.c (s_aload_n (k := 0) (by decide +kernel) rfl) (SndL.c (s_getf (k := 0) clok6 (by decide) rfl (by decide) rfl w_1_141 (Or.inl rfl) (by decide +kernel)) (SndL.c (s_fail) (SndL.c (s_fail) (SndL.n))))))))))))))))
def kX5_phraseOf_1 : List En := [(0, oIload 1 17), (0, oAald 112 18), (0, oGoto 22), (1, oFail), (1, oFail), (0, oPush (vR 0) 22), (0, oRetA)]
set_option maxRecDepth 20000 in
theorem zX5_phraseOf_1 : SndL mX5_phraseOf 16 kX5_phraseOf_1 := SndL.c (s_iload_n (k := 1) (by decide +kernel) rfl) (SndL.c (s_aald (kd := 112) (akd_d (by decide)) rfl rfl (by decide +kernel)) (SndL.c (s_goto (off := 4) (by decide +kernel) (by decide)) (SndL.c (s_fail) (SndL.c (s_fail) (SndL.c (s_null (by decide +kernel)) (SndL.c (s_ret_a rfl (Or.inl ⟨_, rfl⟩) (by decide +kernel)) (SndL.n)))))))
def kX5_phraseOf : Cd := [kX5_phraseOf_0, kX5_phraseOf_1]
theorem zX5_phraseOf : SndC mX5_phraseOf 0 kX5_phraseOf := SndC.c zX5_phraseOf_0 (by decide) (SndC.c zX5_phraseOf_1 (by decide) (SndC.n))
theorem aX5_phraseOf_0 : at_ kX5_phraseOf 0 = (0, oIload 1 1) := rfl
theorem aX5_phraseOf_1 : at_ kX5_phraseOf 1 = (0, oIfLt 21 4) := rfl
theorem aX5_phraseOf_4 : at_ kX5_phraseOf 4 = (0, oIload 1 5) := rfl
theorem aX5_phraseOf_5 : at_ kX5_phraseOf 5 = (0, oRload 0 6) := rfl
theorem aX5_phraseOf_6 : at_ kX5_phraseOf 6 = (0, oGetf 7 2 0 9) := rfl
theorem aX5_phraseOf_9 : at_ kX5_phraseOf 9 = (0, oIcGe 21 12) := rfl
theorem aX5_phraseOf_12 : at_ kX5_phraseOf 12 = (0, oRload 0 13) := rfl
theorem aX5_phraseOf_13 : at_ kX5_phraseOf 13 = (0, oGetf 7 0 2 16) := rfl
theorem aX5_phraseOf_16 : at_ kX5_phraseOf 16 = (0, oIload 1 17) := rfl
theorem aX5_phraseOf_17 : at_ kX5_phraseOf 17 = (0, oAald 112 18) := rfl
theorem aX5_phraseOf_18 : at_ kX5_phraseOf 18 = (0, oGoto 22) := rfl
theorem aX5_phraseOf_21 : at_ kX5_phraseOf 21 = (0, oPush (vR 0) 22) := rfl
theorem aX5_phraseOf_22 : at_ kX5_phraseOf 22 = (0, oRetA) := rfl
def kX5_placeOf_0 : List En := [(0, oIload 1 1), (0, oIfLt 21 4), (1, oFail), (1, oFail), (0, oIload 1 5), (0, oRload 0 6), (0, oGetf 7 2 0 9), (1, oFail), (1, oFail), (0, oIcGe 21 12), (1, oFail), (1, oFail), (0, oRload 0 13), (0, oGetf 7 1 2 16), (1, oFail), (1, oFail)]
set_option maxRecDepth 20000 in
theorem zX5_placeOf_0 : SndL mX5_placeOf 0 kX5_placeOf_0 := SndL.c (s_iload_n (k := 1) (by decide +kernel) rfl) (SndL.c (s_if_lt (off := 20) (by decide +kernel) (by decide)) (SndL.c (s_fail) (SndL.c (s_fail) (SndL.c (s_iload_n (k := 1) (by decide +kernel) rfl) (SndL.c (s_aload_n (k := 0) (by decide +kernel) rfl) (SndL.c (s_getf (k := 2) clok6 (by decide) rfl (by decide) rfl w_1_143 (Or.inl rfl) (by decide +kernel)) (SndL.c (s_fail) (SndL.c (s_fail) (SndL.c (s_ic_ge (off := 12) (by decide +kernel) (by decide)) (SndL.c (s_fail) (SndL.c (s_fail) (SndL.c (s_aload_n (k := 0) (by decide +kernel) rfl) (SndL.c (s_getf (k := 1) clok6 (by decide) rfl (by decide) rfl w_1_142 (Or.inl rfl) (by decide +kernel)) (SndL.c (s_fail) (SndL.c (s_fail) (SndL.n))))))))))))))))
def kX5_placeOf_1 : List En := [(0, oIload 1 17), (0, oIald 18), (0, oGoto 22), (1, oFail), (1, oFail), (0, oPush (vI (-1)) 22), (0, oRetI)]
set_option maxRecDepth 20000 in
theorem zX5_placeOf_1 : SndL mX5_placeOf 16 kX5_placeOf_1 := SndL.c (s_iload_n (k := 1) (by decide +kernel) rfl) (SndL.c (s_iald (by decide +kernel)) (SndL.c (s_goto (off := 4) (by decide +kernel) (by decide)) (SndL.c (s_fail) (SndL.c (s_fail) (SndL.c (s_iconst (by decide +kernel) (in32_d (by decide))) (SndL.c (s_ret_i rfl (by decide +kernel)) (SndL.n)))))))
def kX5_placeOf : Cd := [kX5_placeOf_0, kX5_placeOf_1]
theorem zX5_placeOf : SndC mX5_placeOf 0 kX5_placeOf := SndC.c zX5_placeOf_0 (by decide) (SndC.c zX5_placeOf_1 (by decide) (SndC.n))
theorem aX5_placeOf_0 : at_ kX5_placeOf 0 = (0, oIload 1 1) := rfl
theorem aX5_placeOf_1 : at_ kX5_placeOf 1 = (0, oIfLt 21 4) := rfl
theorem aX5_placeOf_4 : at_ kX5_placeOf 4 = (0, oIload 1 5) := rfl
theorem aX5_placeOf_5 : at_ kX5_placeOf 5 = (0, oRload 0 6) := rfl
theorem aX5_placeOf_6 : at_ kX5_placeOf 6 = (0, oGetf 7 2 0 9) := rfl
theorem aX5_placeOf_9 : at_ kX5_placeOf 9 = (0, oIcGe 21 12) := rfl
theorem aX5_placeOf_12 : at_ kX5_placeOf 12 = (0, oRload 0 13) := rfl
theorem aX5_placeOf_13 : at_ kX5_placeOf 13 = (0, oGetf 7 1 2 16) := rfl
theorem aX5_placeOf_16 : at_ kX5_placeOf 16 = (0, oIload 1 17) := rfl
theorem aX5_placeOf_17 : at_ kX5_placeOf 17 = (0, oIald 18) := rfl
theorem aX5_placeOf_18 : at_ kX5_placeOf 18 = (0, oGoto 22) := rfl
theorem aX5_placeOf_21 : at_ kX5_placeOf 21 = (0, oPush (vI (-1)) 22) := rfl
theorem aX5_placeOf_22 : at_ kX5_placeOf 22 = (0, oRetI) := rfl
def kX5_countIn_0 : List En := [(0, oPush (vI 0) 1), (0, oIstore 2 2), (0, oPush (vI 0) 3), (0, oIstore 3 4), (1, oIload 3 5), (0, oRload 0 6), (0, oGetf 7 2 0 9), (1, oFail), (1, oFail), (0, oIcGe 47 12), (1, oFail), (1, oFail), (0, oRload 0 13), (0, oGetf 7 0 2 16), (1, oFail), (1, oFail)]
set_option maxRecDepth 20000 in
theorem zX5_countIn_0 : SndL mX5_countIn 0 kX5_countIn_0 := SndL.c (s_iconst (by decide +kernel) (in32_d (by decide))) (SndL.c (s_istore_n (k := 2) (by decide +kernel) rfl (by decide)) (SndL.c (s_iconst (by decide +kernel) (in32_d (by decide))) (SndL.c (s_istore_n (k := 3) (by decide +kernel) rfl (by decide)) (SndL.c (s_iload_n (k := 3) (by decide +kernel) rfl) (SndL.c (s_aload_n (k := 0) (by decide +kernel) rfl) (SndL.c (s_getf (k := 2) clok6 (by decide) rfl (by decide) rfl w_1_143 (Or.inl rfl) (by decide +kernel)) (SndL.c (s_fail) (SndL.c (s_fail) (SndL.c (s_ic_ge (off := 38) (by decide +kernel) (by decide)) (SndL.c (s_fail) (SndL.c (s_fail) (SndL.c (s_aload_n (k := 0) (by decide +kernel) rfl) (SndL.c (s_getf (k := 0) clok6 (by decide) rfl (by decide) rfl w_1_141 (Or.inl rfl) (by decide +kernel)) (SndL.c (s_fail) (SndL.c (s_fail) (SndL.n))))))))))))))))
def kX5_countIn_1 : List En := [(0, oIload 3 17), (0, oAald 112 18), (0, oRstore 4 20), (1, oFail), (0, oRload 4 22), (1, oFail), (0, oIfnull 41 25), (1, oFail), (1, oFail), (0, oIload 1 26), (0, oRload 4 28), (1, oFail), (0, oGetf 4 0 0 31), (1, oFail), (1, oFail), (0, oIushr 32)]
set_option maxRecDepth 20000 in
theorem zX5_countIn_1 : SndL mX5_countIn 16 kX5_countIn_1 := SndL.c (s_iload_n (k := 3) (by decide +kernel) rfl) (SndL.c (s_aald (kd := 112) (akd_d (by decide)) rfl rfl (by decide +kernel)) (SndL.c (s_astore (by decide +kernel) (by decide)) (SndL.c (s_fail) (SndL.c (s_aload (by decide +kernel)) (SndL.c (s_fail) (SndL.c (s_ifnull (off := 19) (by decide +kernel) (by decide)) (SndL.c (s_fail) (SndL.c (s_fail) (SndL.c (s_iload_n (k := 1) (by decide +kernel) rfl) (SndL.c (s_aload (by decide +kernel)) (SndL.c (s_fail) (SndL.c (s_getf (k := 0) clok3 (by decide) rfl (by decide) rfl w_3_4 (Or.inl rfl) (by decide +kernel)) (SndL.c (s_fail) (SndL.c (s_fail) (SndL.c (s_iushr (by decide +kernel)) (SndL.n))))))))))))))))
def kX5_countIn_2 : List En := [(0, oPush (vI 1) 33), (0, oIand 34), (0, oPush (vI 1) 35), (0, oIcNe 41 38), (1, oFail), (1, oFail), (0, oIinc 2 1 41), (1, oFail), (1, oFail), (0, oIinc 3 1 44), (1, oFail), (1, oFail), (0, oGoto 4), (1, oFail), (1, oFail), (0, oIload 2 48)]
set_option maxRecDepth 20000 in
theorem zX5_countIn_2 : SndL mX5_countIn 32 kX5_countIn_2 := SndL.c (s_iconst (by decide +kernel) (in32_d (by decide))) (SndL.c (s_iand (by decide +kernel)) (SndL.c (s_iconst (by decide +kernel) (in32_d (by decide))) (SndL.c (s_ic_ne (off := 6) (by decide +kernel) (by decide)) (SndL.c (s_fail) (SndL.c (s_fail) (SndL.c (s_iinc (by decide +kernel) (by decide)) (SndL.c (s_fail) (SndL.c (s_fail) (SndL.c (s_iinc (by decide +kernel) (by decide)) (SndL.c (s_fail) (SndL.c (s_fail) (SndL.c (s_goto (off := -40) (by decide +kernel) (by decide)) (SndL.c (s_fail) (SndL.c (s_fail) (SndL.c (s_iload_n (k := 2) (by decide +kernel) rfl) (SndL.n))))))))))))))))
def kX5_countIn_3 : List En := [(0, oRetI)]
set_option maxRecDepth 20000 in
theorem zX5_countIn_3 : SndL mX5_countIn 48 kX5_countIn_3 := SndL.c (s_ret_i rfl (by decide +kernel)) (SndL.n)
def kX5_countIn : Cd := [kX5_countIn_0, kX5_countIn_1, kX5_countIn_2, kX5_countIn_3]
theorem zX5_countIn : SndC mX5_countIn 0 kX5_countIn := SndC.c zX5_countIn_0 (by decide) (SndC.c zX5_countIn_1 (by decide) (SndC.c zX5_countIn_2 (by decide) (SndC.c zX5_countIn_3 (by decide) (SndC.n))))
theorem aX5_countIn_0 : at_ kX5_countIn 0 = (0, oPush (vI 0) 1) := rfl
theorem aX5_countIn_1 : at_ kX5_countIn 1 = (0, oIstore 2 2) := rfl
theorem aX5_countIn_2 : at_ kX5_countIn 2 = (0, oPush (vI 0) 3) := rfl
theorem aX5_countIn_3 : at_ kX5_countIn 3 = (0, oIstore 3 4) := rfl
theorem aX5_countIn_4 : at_ kX5_countIn 4 = (1, oIload 3 5) := rfl
theorem aX5_countIn_5 : at_ kX5_countIn 5 = (0, oRload 0 6) := rfl
theorem aX5_countIn_6 : at_ kX5_countIn 6 = (0, oGetf 7 2 0 9) := rfl
theorem aX5_countIn_9 : at_ kX5_countIn 9 = (0, oIcGe 47 12) := rfl
theorem aX5_countIn_12 : at_ kX5_countIn 12 = (0, oRload 0 13) := rfl
theorem aX5_countIn_13 : at_ kX5_countIn 13 = (0, oGetf 7 0 2 16) := rfl
theorem aX5_countIn_16 : at_ kX5_countIn 16 = (0, oIload 3 17) := rfl
theorem aX5_countIn_17 : at_ kX5_countIn 17 = (0, oAald 112 18) := rfl
theorem aX5_countIn_18 : at_ kX5_countIn 18 = (0, oRstore 4 20) := rfl
theorem aX5_countIn_20 : at_ kX5_countIn 20 = (0, oRload 4 22) := rfl
theorem aX5_countIn_22 : at_ kX5_countIn 22 = (0, oIfnull 41 25) := rfl
theorem aX5_countIn_25 : at_ kX5_countIn 25 = (0, oIload 1 26) := rfl
theorem aX5_countIn_26 : at_ kX5_countIn 26 = (0, oRload 4 28) := rfl
theorem aX5_countIn_28 : at_ kX5_countIn 28 = (0, oGetf 4 0 0 31) := rfl
theorem aX5_countIn_31 : at_ kX5_countIn 31 = (0, oIushr 32) := rfl
theorem aX5_countIn_32 : at_ kX5_countIn 32 = (0, oPush (vI 1) 33) := rfl
theorem aX5_countIn_33 : at_ kX5_countIn 33 = (0, oIand 34) := rfl
theorem aX5_countIn_34 : at_ kX5_countIn 34 = (0, oPush (vI 1) 35) := rfl
theorem aX5_countIn_35 : at_ kX5_countIn 35 = (0, oIcNe 41 38) := rfl
theorem aX5_countIn_38 : at_ kX5_countIn 38 = (0, oIinc 2 1 41) := rfl
theorem aX5_countIn_41 : at_ kX5_countIn 41 = (0, oIinc 3 1 44) := rfl
theorem aX5_countIn_44 : at_ kX5_countIn 44 = (0, oGoto 4) := rfl
theorem aX5_countIn_47 : at_ kX5_countIn 47 = (0, oIload 2 48) := rfl
theorem aX5_countIn_48 : at_ kX5_countIn 48 = (0, oRetI) := rfl
def kX6_init_0 : List En := [(0, oRload 0 1), (0, oObji 4), (1, oFail), (1, oFail), (0, oRload 0 5), (0, oRload 1 6), (0, oPutf 8 0 2 9), (1, oFail), (1, oFail), (0, oRload 0 10), (0, oRload 2 11), (0, oPutf 8 1 2 14), (1, oFail), (1, oFail), (0, oRetV)]
set_option maxRecDepth 20000 in
theorem zX6_init_0 : SndL mX6_init 0 kX6_init_0 := SndL.c (s_aload_n (k := 0) (by decide +kernel) rfl) (SndL.c (s_obji w_4_49 w_1_33 w_1_34 (by decide +kernel)) (SndL.c (s_fail) (SndL.c (s_fail) (SndL.c (s_aload_n (k := 0) (by decide +kernel) rfl) (SndL.c (s_aload_n (k := 1) (by decide +kernel) rfl) (SndL.c (s_putf (k := 0) clok7 (by decide) rfl (by decide) rfl w_4_50 (Or.inl rfl) (Or.inr ⟨rfl, rfl, rfl⟩) (by decide +kernel)) (SndL.c (s_fail) (SndL.c (s_fail) (SndL.c (s_aload_n (k := 0) (by decide +kernel) rfl) (SndL.c (s_aload_n (k := 2) (by decide +kernel) rfl) (SndL.c (s_putf (k := 1) clok7 (by decide) rfl (by decide) rfl w_4_51 (Or.inl rfl) (Or.inr ⟨rfl, rfl, rfl⟩) (by decide +kernel)) (SndL.c (s_fail) (SndL.c (s_fail) (SndL.c (s_ret_v rfl (by decide +kernel)) (SndL.n)))))))))))))))
def kX6_init : Cd := [kX6_init_0]
theorem zX6_init : SndC mX6_init 0 kX6_init := SndC.c zX6_init_0 (by decide) (SndC.n)
theorem aX6_init_0 : at_ kX6_init 0 = (0, oRload 0 1) := rfl
theorem aX6_init_1 : at_ kX6_init 1 = (0, oObji 4) := rfl
theorem aX6_init_4 : at_ kX6_init 4 = (0, oRload 0 5) := rfl
theorem aX6_init_5 : at_ kX6_init 5 = (0, oRload 1 6) := rfl
theorem aX6_init_6 : at_ kX6_init 6 = (0, oPutf 8 0 2 9) := rfl
theorem aX6_init_9 : at_ kX6_init 9 = (0, oRload 0 10) := rfl
theorem aX6_init_10 : at_ kX6_init 10 = (0, oRload 2 11) := rfl
theorem aX6_init_11 : at_ kX6_init 11 = (0, oPutf 8 1 2 14) := rfl
theorem aX6_init_14 : at_ kX6_init 14 = (0, oRetV) := rfl
def kX6_isTrueOf_0 : List En := [(0, oPush (vL 0) 1), (0, oLstore 2 2), (0, oPush (vI 0) 3), (0, oIstore 4 5), (1, oFail), (1, oIload 4 7), (1, oFail), (0, oRload 0 8), (0, oGetf 8 0 2 11), (1, oFail), (1, oFail), (0, oAlen 12), (0, oIcGe 122 15), (1, oFail), (1, oFail), (0, oRload 0 16)]
set_option maxRecDepth 20000 in
theorem zX6_isTrueOf_0 : SndL mX6_isTrueOf 0 kX6_isTrueOf_0 := SndL.c (s_lconst (n := 0) (by decide +kernel) (in64_d (by decide)) (by decide +kernel)) (SndL.c (s_lstore_n (k := 2) (by decide +kernel) rfl (by decide)) (SndL.c (s_iconst (by decide +kernel) (in32_d (by decide))) (SndL.c (s_istore (by decide +kernel) (by decide)) (SndL.c (s_fail) (SndL.c (s_iload (by decide +kernel)) (SndL.c (s_fail) (SndL.c (s_aload_n (k := 0) (by decide +kernel) rfl) (SndL.c (s_getf (k := 0) clok7 (by decide) rfl (by decide) rfl w_4_50 (Or.inl rfl) (by decide +kernel)) (SndL.c (s_fail) (SndL.c (s_fail) (SndL.c (s_alen (by decide +kernel)) (SndL.c (s_ic_ge (off := 110) (by decide +kernel) (by decide)) (SndL.c (s_fail) (SndL.c (s_fail) (SndL.c (s_aload_n (k := 0) (by decide +kernel) rfl) (SndL.n))))))))))))))))
def kX6_isTrueOf_1 : List En := [(0, oGetf 8 0 2 19), (1, oFail), (1, oFail), (0, oIload 4 21), (1, oFail), (0, oIald 22), (0, oIstore 5 24), (1, oFail), (0, oLload 2 25), (0, oPush (vL 1) 26), (0, oLand 27), (0, oLstore 6 29), (1, oFail), (0, oIload 5 31), (1, oFail), (0, oPush (vI 33) 33)]
set_option maxRecDepth 20000 in
theorem zX6_isTrueOf_1 : SndL mX6_isTrueOf 16 kX6_isTrueOf_1 := SndL.c (s_getf (k := 0) clok7 (by decide) rfl (by decide) rfl w_4_50 (Or.inl rfl) (by decide +kernel)) (SndL.c (s_fail) (SndL.c (s_fail) (SndL.c (s_iload (by decide +kernel)) (SndL.c (s_fail) (SndL.c (s_iald (by decide +kernel)) (SndL.c (s_istore (by decide +kernel) (by decide)) (SndL.c (s_fail) (SndL.c (s_lload_n (k := 2) (by decide +kernel) rfl) (SndL.c (s_lconst (n := 1) (by decide +kernel) (in64_d (by decide)) (by decide +kernel)) (SndL.c (s_land (by decide +kernel)) (SndL.c (s_lstore (by decide +kernel) (by decide)) (SndL.c (s_fail) (SndL.c (s_iload (by decide +kernel)) (SndL.c (s_fail) (SndL.c (s_bipush (by decide +kernel) (in32_d (by decide)) (by decide +kernel)) (SndL.n))))))))))))))))
def kX6_isTrueOf_2 : List En := [(1, oFail), (0, oIcNe 43 36), (1, oFail), (1, oFail), (0, oLload 2 37), (0, oPush (vL 1) 38), (0, oLxor 39), (0, oLstore 2 40), (0, oGoto 116), (1, oFail), (1, oFail), (0, oIload 5 45), (1, oFail), (0, oPush (vI 38) 47), (1, oFail), (0, oIcNe 64 50)]
set_option maxRecDepth 20000 in
theorem zX6_isTrueOf_2 : SndL mX6_isTrueOf 32 kX6_isTrueOf_2 := SndL.c (s_fail) (SndL.c (s_ic_ne (off := 10) (by decide +kernel) (by decide)) (SndL.c (s_fail) (SndL.c (s_fail) (SndL.c (s_lload_n (k := 2) (by decide +kernel) rfl) (SndL.c (s_lconst (n := 1) (by decide +kernel) (in64_d (by decide)) (by decide +kernel)) (SndL.c (s_lxor (by decide +kernel)) (SndL.c (s_lstore_n (k := 2) (by decide +kernel) rfl (by decide)) (SndL.c (s_goto (off := 76) (by decide +kernel) (by decide)) (SndL.c (s_fail) (SndL.c (s_fail) (SndL.c (s_iload (by decide +kernel)) (SndL.c (s_fail) (SndL.c (s_bipush (by decide +kernel) (in32_d (by decide)) (by decide +kernel)) (SndL.c (s_fail) (SndL.c (s_ic_ne (off := 17) (by decide +kernel) (by decide)) (SndL.n))))))))))))))))
def kX6_isTrueOf_3 : List En := [(1, oFail), (1, oFail), (0, oLload 2 51), (0, oPush (vI 1) 52), (0, oLushr 53), (0, oPush (vL (-2)) 56), (1, oFail), (1, oFail), (0, oLload 6 58), (1, oFail), (0, oLor 59), (0, oLand 60), (0, oLstore 2 61), (0, oGoto 116), (1, oFail), (1, oFail)]
set_option maxRecDepth 20000 in
theorem zX6_isTrueOf_3 : SndL mX6_isTrueOf 48 kX6_isTrueOf_3 := SndL.c (s_fail) (SndL.c (s_fail) (SndL.c (s_lload_n (k := 2) (by decide +kernel) rfl) (SndL.c (s_iconst (by decide +kernel) (in32_d (by decide))) (SndL.c (s_lushr (by decide +kernel)) (SndL.c (s_ldc2 (by decide +kernel) (in64_d (by decide)) w_4_90) (SndL.c (s_fail) (SndL.c (s_fail) (SndL.c (s_lload (by decide +kernel)) (SndL.c (s_fail) (SndL.c (s_lor (by decide +kernel)) (SndL.c (s_land (by decide +kernel)) (SndL.c (s_lstore_n (k := 2) (by decide +kernel) rfl (by decide)) (SndL.c (s_goto (off := 55) (by decide +kernel) (by decide)) (SndL.c (s_fail) (SndL.c (s_fail) (SndL.n))))))))))))))))
def kX6_isTrueOf_4 : List En := [(0, oIload 5 66), (1, oFail), (0, oPush (vI 124) 68), (1, oFail), (0, oIcNe 81 71), (1, oFail), (1, oFail), (0, oLload 2 72), (0, oPush (vI 1) 73), (0, oLushr 74), (0, oLload 6 76), (1, oFail), (0, oLor 77), (0, oLstore 2 78), (0, oGoto 116), (1, oFail)]
set_option maxRecDepth 20000 in
theorem zX6_isTrueOf_4 : SndL mX6_isTrueOf 64 kX6_isTrueOf_4 := SndL.c (s_iload (by decide +kernel)) (SndL.c (s_fail) (SndL.c (s_bipush (by decide +kernel) (in32_d (by decide)) (by decide +kernel)) (SndL.c (s_fail) (SndL.c (s_ic_ne (off := 13) (by decide +kernel) (by decide)) (SndL.c (s_fail) (SndL.c (s_fail) (SndL.c (s_lload_n (k := 2) (by decide +kernel) rfl) (SndL.c (s_iconst (by decide +kernel) (in32_d (by decide))) (SndL.c (s_lushr (by decide +kernel)) (SndL.c (s_lload (by decide +kernel)) (SndL.c (s_fail) (SndL.c (s_lor (by decide +kernel)) (SndL.c (s_lstore_n (k := 2) (by decide +kernel) rfl (by decide)) (SndL.c (s_goto (off := 38) (by decide +kernel) (by decide)) (SndL.c (s_fail) (SndL.n))))))))))))))))
def kX6_isTrueOf_5 : List En := [(1, oFail), (0, oLload 2 82), (0, oPush (vI 1) 83), (0, oLshl 84), (0, oIload 5 86), (1, oFail), (0, oRload 0 87), (0, oIload 4 89), (1, oFail), (0, oPush (vI 1) 90), (0, oIadd 91), (0, oRload 1 92), (2, oInvV 8 mX6_sideAt 2 95), (1, oFail), (1, oFail), (0, oRload 0 96)]
set_option maxRecDepth 20000 in
theorem zX6_isTrueOf_5 : SndL mX6_isTrueOf 80 kX6_isTrueOf_5 := SndL.c (s_fail) (SndL.c (s_lload_n (k := 2) (by decide +kernel) rfl) (SndL.c (s_iconst (by decide +kernel) (in32_d (by decide))) (SndL.c (s_lshl (by decide +kernel)) (SndL.c (s_iload (by decide +kernel)) (SndL.c (s_fail) (SndL.c (s_aload_n (k := 0) (by decide +kernel) rfl) (SndL.c (s_iload (by decide +kernel)) (SndL.c (s_fail) (SndL.c (s_iconst (by decide +kernel) (in32_d (by decide))) (SndL.c (s_iadd (by decide +kernel)) (SndL.c (s_aload_n (k := 1) (by decide +kernel) rfl) (SndL.c (s_invV (r := (RX6, TX6, 2)) (ci := 7) okX6_sideAt rfl (by decide) rfl rfl w_4_91 w_4_93 v_25 (by decide +kernel)) (SndL.c (s_fail) (SndL.c (s_fail) (SndL.c (s_aload_n (k := 0) (by decide +kernel) rfl) (SndL.n))))))))))))))))
def kX6_isTrueOf_6 : List En := [(0, oIload 4 98), (1, oFail), (0, oPush (vI 2) 99), (0, oIadd 100), (0, oRload 1 101), (2, oInvV 8 mX6_sideAt 2 104), (1, oFail), (1, oFail), (2, oInvS mX6_isMet 3 107), (1, oFail), (1, oFail), (2, oInvS mX11_bit 1 110), (1, oFail), (1, oFail), (0, oI2l 111), (0, oLor 112)]
set_option maxRecDepth 20000 in
theorem zX6_isTrueOf_6 : SndL mX6_isTrueOf 96 kX6_isTrueOf_6 := SndL.c (s_iload (by decide +kernel)) (SndL.c (s_fail) (SndL.c (s_iconst (by decide +kernel) (in32_d (by decide))) (SndL.c (s_iadd (by decide +kernel)) (SndL.c (s_aload_n (k := 1) (by decide +kernel) rfl) (SndL.c (s_invV (r := (RX6, TX6, 2)) (ci := 7) okX6_sideAt rfl (by decide) rfl rfl w_4_91 w_4_93 v_25 (by decide +kernel)) (SndL.c (s_fail) (SndL.c (s_fail) (SndL.c (s_invS okX6_isMet w_4_95 w_4_96 (by decide +kernel)) (SndL.c (s_fail) (SndL.c (s_fail) (SndL.c (s_invSN (host := "AdvertCouncil") okX11_bit u_4_98 w_3_101 (by decide +kernel)) (SndL.c (s_fail) (SndL.c (s_fail) (SndL.c (s_i2l (by decide +kernel)) (SndL.c (s_lor (by decide +kernel)) (SndL.n))))))))))))))))
def kX6_isTrueOf_7 : List En := [(0, oLstore 2 113), (0, oIinc 4 2 116), (1, oFail), (1, oFail), (0, oIinc 4 1 119), (1, oFail), (1, oFail), (0, oGoto 5), (1, oFail), (1, oFail), (0, oLload 2 123), (0, oPush (vL 1) 124), (0, oLand 125), (0, oPush (vL 1) 126), (0, oLcmp 127), (0, oIfNe 134 130)]
set_option maxRecDepth 20000 in
theorem zX6_isTrueOf_7 : SndL mX6_isTrueOf 112 kX6_isTrueOf_7 := SndL.c (s_lstore_n (k := 2) (by decide +kernel) rfl (by decide)) (SndL.c (s_iinc (by decide +kernel) (by decide)) (SndL.c (s_fail) (SndL.c (s_fail) (SndL.c (s_iinc (by decide +kernel) (by decide)) (SndL.c (s_fail) (SndL.c (s_fail) (SndL.c (s_goto (off := -114) (by decide +kernel) (by decide)) (SndL.c (s_fail) (SndL.c (s_fail) (SndL.c (s_lload_n (k := 2) (by decide +kernel) rfl) (SndL.c (s_lconst (n := 1) (by decide +kernel) (in64_d (by decide)) (by decide +kernel)) (SndL.c (s_land (by decide +kernel)) (SndL.c (s_lconst (n := 1) (by decide +kernel) (in64_d (by decide)) (by decide +kernel)) (SndL.c (s_lcmp (by decide +kernel)) (SndL.c (s_if_ne (off := 7) (by decide +kernel) (by decide)) (SndL.n))))))))))))))))
def kX6_isTrueOf_8 : List En := [(1, oFail), (1, oFail), (0, oPush (vI 1) 131), (0, oGoto 135), (1, oFail), (1, oFail), (0, oPush (vI 0) 135), (0, oRetZ)]
set_option maxRecDepth 20000 in
theorem zX6_isTrueOf_8 : SndL mX6_isTrueOf 128 kX6_isTrueOf_8 := SndL.c (s_fail) (SndL.c (s_fail) (SndL.c (s_iconst (by decide +kernel) (in32_d (by decide))) (SndL.c (s_goto (off := 4) (by decide +kernel) (by decide)) (SndL.c (s_fail) (SndL.c (s_fail) (SndL.c (s_iconst (by decide +kernel) (in32_d (by decide))) (SndL.c (s_ret_z rfl (by decide +kernel)) (SndL.n))))))))
def kX6_isTrueOf : Cd := [kX6_isTrueOf_0, kX6_isTrueOf_1, kX6_isTrueOf_2, kX6_isTrueOf_3, kX6_isTrueOf_4, kX6_isTrueOf_5, kX6_isTrueOf_6, kX6_isTrueOf_7, kX6_isTrueOf_8]
theorem zX6_isTrueOf : SndC mX6_isTrueOf 0 kX6_isTrueOf := SndC.c zX6_isTrueOf_0 (by decide) (SndC.c zX6_isTrueOf_1 (by decide) (SndC.c zX6_isTrueOf_2 (by decide) (SndC.c zX6_isTrueOf_3 (by decide) (SndC.c zX6_isTrueOf_4 (by decide) (SndC.c zX6_isTrueOf_5 (by decide) (SndC.c zX6_isTrueOf_6 (by decide) (SndC.c zX6_isTrueOf_7 (by decide) (SndC.c zX6_isTrueOf_8 (by decide) (SndC.n)))))))))
theorem aX6_isTrueOf_0 : at_ kX6_isTrueOf 0 = (0, oPush (vL 0) 1) := rfl
theorem aX6_isTrueOf_1 : at_ kX6_isTrueOf 1 = (0, oLstore 2 2) := rfl
theorem aX6_isTrueOf_2 : at_ kX6_isTrueOf 2 = (0, oPush (vI 0) 3) := rfl
theorem aX6_isTrueOf_3 : at_ kX6_isTrueOf 3 = (0, oIstore 4 5) := rfl
theorem aX6_isTrueOf_5 : at_ kX6_isTrueOf 5 = (1, oIload 4 7) := rfl
theorem aX6_isTrueOf_7 : at_ kX6_isTrueOf 7 = (0, oRload 0 8) := rfl
theorem aX6_isTrueOf_8 : at_ kX6_isTrueOf 8 = (0, oGetf 8 0 2 11) := rfl
theorem aX6_isTrueOf_11 : at_ kX6_isTrueOf 11 = (0, oAlen 12) := rfl
theorem aX6_isTrueOf_12 : at_ kX6_isTrueOf 12 = (0, oIcGe 122 15) := rfl
theorem aX6_isTrueOf_15 : at_ kX6_isTrueOf 15 = (0, oRload 0 16) := rfl
theorem aX6_isTrueOf_16 : at_ kX6_isTrueOf 16 = (0, oGetf 8 0 2 19) := rfl
theorem aX6_isTrueOf_19 : at_ kX6_isTrueOf 19 = (0, oIload 4 21) := rfl
theorem aX6_isTrueOf_21 : at_ kX6_isTrueOf 21 = (0, oIald 22) := rfl
theorem aX6_isTrueOf_22 : at_ kX6_isTrueOf 22 = (0, oIstore 5 24) := rfl
theorem aX6_isTrueOf_24 : at_ kX6_isTrueOf 24 = (0, oLload 2 25) := rfl
theorem aX6_isTrueOf_25 : at_ kX6_isTrueOf 25 = (0, oPush (vL 1) 26) := rfl
theorem aX6_isTrueOf_26 : at_ kX6_isTrueOf 26 = (0, oLand 27) := rfl
theorem aX6_isTrueOf_27 : at_ kX6_isTrueOf 27 = (0, oLstore 6 29) := rfl
theorem aX6_isTrueOf_29 : at_ kX6_isTrueOf 29 = (0, oIload 5 31) := rfl
theorem aX6_isTrueOf_31 : at_ kX6_isTrueOf 31 = (0, oPush (vI 33) 33) := rfl
theorem aX6_isTrueOf_33 : at_ kX6_isTrueOf 33 = (0, oIcNe 43 36) := rfl
theorem aX6_isTrueOf_36 : at_ kX6_isTrueOf 36 = (0, oLload 2 37) := rfl
theorem aX6_isTrueOf_37 : at_ kX6_isTrueOf 37 = (0, oPush (vL 1) 38) := rfl
theorem aX6_isTrueOf_38 : at_ kX6_isTrueOf 38 = (0, oLxor 39) := rfl
theorem aX6_isTrueOf_39 : at_ kX6_isTrueOf 39 = (0, oLstore 2 40) := rfl
theorem aX6_isTrueOf_40 : at_ kX6_isTrueOf 40 = (0, oGoto 116) := rfl
theorem aX6_isTrueOf_43 : at_ kX6_isTrueOf 43 = (0, oIload 5 45) := rfl
theorem aX6_isTrueOf_45 : at_ kX6_isTrueOf 45 = (0, oPush (vI 38) 47) := rfl
theorem aX6_isTrueOf_47 : at_ kX6_isTrueOf 47 = (0, oIcNe 64 50) := rfl
theorem aX6_isTrueOf_50 : at_ kX6_isTrueOf 50 = (0, oLload 2 51) := rfl
theorem aX6_isTrueOf_51 : at_ kX6_isTrueOf 51 = (0, oPush (vI 1) 52) := rfl
theorem aX6_isTrueOf_52 : at_ kX6_isTrueOf 52 = (0, oLushr 53) := rfl
theorem aX6_isTrueOf_53 : at_ kX6_isTrueOf 53 = (0, oPush (vL (-2)) 56) := rfl
theorem aX6_isTrueOf_56 : at_ kX6_isTrueOf 56 = (0, oLload 6 58) := rfl
theorem aX6_isTrueOf_58 : at_ kX6_isTrueOf 58 = (0, oLor 59) := rfl
theorem aX6_isTrueOf_59 : at_ kX6_isTrueOf 59 = (0, oLand 60) := rfl
theorem aX6_isTrueOf_60 : at_ kX6_isTrueOf 60 = (0, oLstore 2 61) := rfl
theorem aX6_isTrueOf_61 : at_ kX6_isTrueOf 61 = (0, oGoto 116) := rfl
theorem aX6_isTrueOf_64 : at_ kX6_isTrueOf 64 = (0, oIload 5 66) := rfl
theorem aX6_isTrueOf_66 : at_ kX6_isTrueOf 66 = (0, oPush (vI 124) 68) := rfl
theorem aX6_isTrueOf_68 : at_ kX6_isTrueOf 68 = (0, oIcNe 81 71) := rfl
theorem aX6_isTrueOf_71 : at_ kX6_isTrueOf 71 = (0, oLload 2 72) := rfl
theorem aX6_isTrueOf_72 : at_ kX6_isTrueOf 72 = (0, oPush (vI 1) 73) := rfl
theorem aX6_isTrueOf_73 : at_ kX6_isTrueOf 73 = (0, oLushr 74) := rfl
theorem aX6_isTrueOf_74 : at_ kX6_isTrueOf 74 = (0, oLload 6 76) := rfl
theorem aX6_isTrueOf_76 : at_ kX6_isTrueOf 76 = (0, oLor 77) := rfl
theorem aX6_isTrueOf_77 : at_ kX6_isTrueOf 77 = (0, oLstore 2 78) := rfl
theorem aX6_isTrueOf_78 : at_ kX6_isTrueOf 78 = (0, oGoto 116) := rfl
theorem aX6_isTrueOf_81 : at_ kX6_isTrueOf 81 = (0, oLload 2 82) := rfl
theorem aX6_isTrueOf_82 : at_ kX6_isTrueOf 82 = (0, oPush (vI 1) 83) := rfl
theorem aX6_isTrueOf_83 : at_ kX6_isTrueOf 83 = (0, oLshl 84) := rfl
theorem aX6_isTrueOf_84 : at_ kX6_isTrueOf 84 = (0, oIload 5 86) := rfl
theorem aX6_isTrueOf_86 : at_ kX6_isTrueOf 86 = (0, oRload 0 87) := rfl
theorem aX6_isTrueOf_87 : at_ kX6_isTrueOf 87 = (0, oIload 4 89) := rfl
theorem aX6_isTrueOf_89 : at_ kX6_isTrueOf 89 = (0, oPush (vI 1) 90) := rfl
theorem aX6_isTrueOf_90 : at_ kX6_isTrueOf 90 = (0, oIadd 91) := rfl
theorem aX6_isTrueOf_91 : at_ kX6_isTrueOf 91 = (0, oRload 1 92) := rfl
theorem aX6_isTrueOf_92 : at_ kX6_isTrueOf 92 = (2, oInvV 8 mX6_sideAt 2 95) := rfl
theorem aX6_isTrueOf_95 : at_ kX6_isTrueOf 95 = (0, oRload 0 96) := rfl
theorem aX6_isTrueOf_96 : at_ kX6_isTrueOf 96 = (0, oIload 4 98) := rfl
theorem aX6_isTrueOf_98 : at_ kX6_isTrueOf 98 = (0, oPush (vI 2) 99) := rfl
theorem aX6_isTrueOf_99 : at_ kX6_isTrueOf 99 = (0, oIadd 100) := rfl
theorem aX6_isTrueOf_100 : at_ kX6_isTrueOf 100 = (0, oRload 1 101) := rfl
theorem aX6_isTrueOf_101 : at_ kX6_isTrueOf 101 = (2, oInvV 8 mX6_sideAt 2 104) := rfl
theorem aX6_isTrueOf_104 : at_ kX6_isTrueOf 104 = (2, oInvS mX6_isMet 3 107) := rfl
theorem aX6_isTrueOf_107 : at_ kX6_isTrueOf 107 = (2, oInvS mX11_bit 1 110) := rfl
theorem aX6_isTrueOf_110 : at_ kX6_isTrueOf 110 = (0, oI2l 111) := rfl
theorem aX6_isTrueOf_111 : at_ kX6_isTrueOf 111 = (0, oLor 112) := rfl
theorem aX6_isTrueOf_112 : at_ kX6_isTrueOf 112 = (0, oLstore 2 113) := rfl
theorem aX6_isTrueOf_113 : at_ kX6_isTrueOf 113 = (0, oIinc 4 2 116) := rfl
theorem aX6_isTrueOf_116 : at_ kX6_isTrueOf 116 = (0, oIinc 4 1 119) := rfl
theorem aX6_isTrueOf_119 : at_ kX6_isTrueOf 119 = (0, oGoto 5) := rfl
theorem aX6_isTrueOf_122 : at_ kX6_isTrueOf 122 = (0, oLload 2 123) := rfl
theorem aX6_isTrueOf_123 : at_ kX6_isTrueOf 123 = (0, oPush (vL 1) 124) := rfl
theorem aX6_isTrueOf_124 : at_ kX6_isTrueOf 124 = (0, oLand 125) := rfl
theorem aX6_isTrueOf_125 : at_ kX6_isTrueOf 125 = (0, oPush (vL 1) 126) := rfl
theorem aX6_isTrueOf_126 : at_ kX6_isTrueOf 126 = (0, oLcmp 127) := rfl
theorem aX6_isTrueOf_127 : at_ kX6_isTrueOf 127 = (0, oIfNe 134 130) := rfl
theorem aX6_isTrueOf_130 : at_ kX6_isTrueOf 130 = (0, oPush (vI 1) 131) := rfl
theorem aX6_isTrueOf_131 : at_ kX6_isTrueOf 131 = (0, oGoto 135) := rfl
theorem aX6_isTrueOf_134 : at_ kX6_isTrueOf 134 = (0, oPush (vI 0) 135) := rfl
theorem aX6_isTrueOf_135 : at_ kX6_isTrueOf 135 = (0, oRetZ) := rfl
def kX6_isMet_0 : List En := [(0, oIload 0 1), (0, oPush (vI 60) 3), (1, oFail), (0, oIcNe 17 6), (1, oFail), (1, oFail), (0, oIload 1 7), (0, oIload 2 8), (0, oIcGe 15 11), (1, oFail), (1, oFail), (0, oPush (vI 1) 12), (0, oGoto 16), (1, oFail), (1, oFail), (0, oPush (vI 0) 16)]
set_option maxRecDepth 20000 in
theorem zX6_isMet_0 : SndL mX6_isMet 0 kX6_isMet_0 := SndL.c (s_iload_n (k := 0) (by decide +kernel) rfl) (SndL.c (s_bipush (by decide +kernel) (in32_d (by decide)) (by decide +kernel)) (SndL.c (s_fail) (SndL.c (s_ic_ne (off := 14) (by decide +kernel) (by decide)) (SndL.c (s_fail) (SndL.c (s_fail) (SndL.c (s_iload_n (k := 1) (by decide +kernel) rfl) (SndL.c (s_iload_n (k := 2) (by decide +kernel) rfl) (SndL.c (s_ic_ge (off := 7) (by decide +kernel) (by decide)) (SndL.c (s_fail) (SndL.c (s_fail) (SndL.c (s_iconst (by decide +kernel) (in32_d (by decide))) (SndL.c (s_goto (off := 4) (by decide +kernel) (by decide)) (SndL.c (s_fail) (SndL.c (s_fail) (SndL.c (s_iconst (by decide +kernel) (in32_d (by decide))) (SndL.n))))))))))))))))
def kX6_isMet_1 : List En := [(0, oRetZ), (0, oIload 0 18), (0, oPush (vI 62) 20), (1, oFail), (0, oIcNe 36 23), (1, oFail), (1, oFail), (0, oIload 1 24), (0, oIload 2 25), (0, oIcLe 32 28), (1, oFail), (1, oFail), (0, oPush (vI 1) 29), (0, oGoto 46), (1, oFail), (1, oFail)]
set_option maxRecDepth 20000 in
theorem zX6_isMet_1 : SndL mX6_isMet 16 kX6_isMet_1 := SndL.c (s_ret_z rfl (by decide +kernel)) (SndL.c (s_iload_n (k := 0) (by decide +kernel) rfl) (SndL.c (s_bipush (by decide +kernel) (in32_d (by decide)) (by decide +kernel)) (SndL.c (s_fail) (SndL.c (s_ic_ne (off := 16) (by decide +kernel) (by decide)) (SndL.c (s_fail) (SndL.c (s_fail) (SndL.c (s_iload_n (k := 1) (by decide +kernel) rfl) (SndL.c (s_iload_n (k := 2) (by decide +kernel) rfl) (SndL.c (s_ic_le (off := 7) (by decide +kernel) (by decide)) (SndL.c (s_fail) (SndL.c (s_fail) (SndL.c (s_iconst (by decide +kernel) (in32_d (by decide))) (SndL.c (s_goto (off := 17) (by decide +kernel) (by decide)) (SndL.c (s_fail) (SndL.c (s_fail) (SndL.n))))))))))))))))
def kX6_isMet_2 : List En := [(0, oPush (vI 0) 33), (0, oGoto 46), (1, oFail), (1, oFail), (0, oIload 1 37), (0, oIload 2 38), (0, oIcNe 45 41), (1, oFail), (1, oFail), (0, oPush (vI 1) 42), (0, oGoto 46), (1, oFail), (1, oFail), (0, oPush (vI 0) 46), (0, oRetZ)]
set_option maxRecDepth 20000 in
theorem zX6_isMet_2 : SndL mX6_isMet 32 kX6_isMet_2 := SndL.c (s_iconst (by decide +kernel) (in32_d (by decide))) (SndL.c (s_goto (off := 13) (by decide +kernel) (by decide)) (SndL.c (s_fail) (SndL.c (s_fail) (SndL.c (s_iload_n (k := 1) (by decide +kernel) rfl) (SndL.c (s_iload_n (k := 2) (by decide +kernel) rfl) (SndL.c (s_ic_ne (off := 7) (by decide +kernel) (by decide)) (SndL.c (s_fail) (SndL.c (s_fail) (SndL.c (s_iconst (by decide +kernel) (in32_d (by decide))) (SndL.c (s_goto (off := 4) (by decide +kernel) (by decide)) (SndL.c (s_fail) (SndL.c (s_fail) (SndL.c (s_iconst (by decide +kernel) (in32_d (by decide))) (SndL.c (s_ret_z rfl (by decide +kernel)) (SndL.n)))))))))))))))
def kX6_isMet : Cd := [kX6_isMet_0, kX6_isMet_1, kX6_isMet_2]
theorem zX6_isMet : SndC mX6_isMet 0 kX6_isMet := SndC.c zX6_isMet_0 (by decide) (SndC.c zX6_isMet_1 (by decide) (SndC.c zX6_isMet_2 (by decide) (SndC.n)))
theorem aX6_isMet_0 : at_ kX6_isMet 0 = (0, oIload 0 1) := rfl
theorem aX6_isMet_1 : at_ kX6_isMet 1 = (0, oPush (vI 60) 3) := rfl
theorem aX6_isMet_3 : at_ kX6_isMet 3 = (0, oIcNe 17 6) := rfl
theorem aX6_isMet_6 : at_ kX6_isMet 6 = (0, oIload 1 7) := rfl
theorem aX6_isMet_7 : at_ kX6_isMet 7 = (0, oIload 2 8) := rfl
theorem aX6_isMet_8 : at_ kX6_isMet 8 = (0, oIcGe 15 11) := rfl
theorem aX6_isMet_11 : at_ kX6_isMet 11 = (0, oPush (vI 1) 12) := rfl
theorem aX6_isMet_12 : at_ kX6_isMet 12 = (0, oGoto 16) := rfl
theorem aX6_isMet_15 : at_ kX6_isMet 15 = (0, oPush (vI 0) 16) := rfl
theorem aX6_isMet_16 : at_ kX6_isMet 16 = (0, oRetZ) := rfl
theorem aX6_isMet_17 : at_ kX6_isMet 17 = (0, oIload 0 18) := rfl
theorem aX6_isMet_18 : at_ kX6_isMet 18 = (0, oPush (vI 62) 20) := rfl
theorem aX6_isMet_20 : at_ kX6_isMet 20 = (0, oIcNe 36 23) := rfl
theorem aX6_isMet_23 : at_ kX6_isMet 23 = (0, oIload 1 24) := rfl
theorem aX6_isMet_24 : at_ kX6_isMet 24 = (0, oIload 2 25) := rfl
theorem aX6_isMet_25 : at_ kX6_isMet 25 = (0, oIcLe 32 28) := rfl
theorem aX6_isMet_28 : at_ kX6_isMet 28 = (0, oPush (vI 1) 29) := rfl
theorem aX6_isMet_29 : at_ kX6_isMet 29 = (0, oGoto 46) := rfl
theorem aX6_isMet_32 : at_ kX6_isMet 32 = (0, oPush (vI 0) 33) := rfl
theorem aX6_isMet_33 : at_ kX6_isMet 33 = (0, oGoto 46) := rfl
theorem aX6_isMet_36 : at_ kX6_isMet 36 = (0, oIload 1 37) := rfl
theorem aX6_isMet_37 : at_ kX6_isMet 37 = (0, oIload 2 38) := rfl
theorem aX6_isMet_38 : at_ kX6_isMet 38 = (0, oIcNe 45 41) := rfl
theorem aX6_isMet_41 : at_ kX6_isMet 41 = (0, oPush (vI 1) 42) := rfl
theorem aX6_isMet_42 : at_ kX6_isMet 42 = (0, oGoto 46) := rfl
theorem aX6_isMet_45 : at_ kX6_isMet 45 = (0, oPush (vI 0) 46) := rfl
theorem aX6_isMet_46 : at_ kX6_isMet 46 = (0, oRetZ) := rfl
def kX6_sideAt_0 : List En := [(0, oIload 1 1), (0, oRload 0 2), (0, oGetf 8 0 2 5), (1, oFail), (1, oFail), (0, oAlen 6), (0, oIcGe 18 9), (1, oFail), (1, oFail), (0, oRload 0 10), (0, oGetf 8 0 2 13), (1, oFail), (1, oFail), (0, oIload 1 14), (0, oIald 15), (0, oGoto 19)]
set_option maxRecDepth 20000 in
theorem zX6_sideAt_0 : SndL mX6_sideAt 0 kX6_sideAt_0 := SndL.c (s_iload_n (k := 1) (by decide +kernel) rfl) (SndL.c (s_aload_n (k := 0) (by decide +kernel) rfl) (SndL.c (s_getf (k := 0) clok7 (by decide) rfl (by decide) rfl w_4_50 (Or.inl rfl) (by decide +kernel)) (SndL.c (s_fail) (SndL.c (s_fail) (SndL.c (s_alen (by decide +kernel)) (SndL.c (s_ic_ge (off := 12) (by decide +kernel) (by decide)) (SndL.c (s_fail) (SndL.c (s_fail) (SndL.c (s_aload_n (k := 0) (by decide +kernel) rfl) (SndL.c (s_getf (k := 0) clok7 (by decide) rfl (by decide) rfl w_4_50 (Or.inl rfl) (by decide +kernel)) (SndL.c (s_fail) (SndL.c (s_fail) (SndL.c (s_iload_n (k := 1) (by decide +kernel) rfl) (SndL.c (s_iald (by decide +kernel)) (SndL.c (s_goto (off := 4) (by decide +kernel) (by decide)) (SndL.n))))))))))))))))
def kX6_sideAt_1 : List En := [(1, oFail), (1, oFail), (0, oPush (vI 0) 19), (0, oIstore 3 20), (0, oPush (vI (-1)) 21), (0, oIload 3 22), (0, oIsub 23), (0, oIstore 4 25), (1, oFail), (0, oIload 4 27), (1, oFail), (0, oIfLt 44 30), (1, oFail), (1, oFail), (0, oIload 4 32), (1, oFail)]
set_option maxRecDepth 20000 in
theorem zX6_sideAt_1 : SndL mX6_sideAt 16 kX6_sideAt_1 := SndL.c (s_fail) (SndL.c (s_fail) (SndL.c (s_iconst (by decide +kernel) (in32_d (by decide))) (SndL.c (s_istore_n (k := 3) (by decide +kernel) rfl (by decide)) (SndL.c (s_iconst (by decide +kernel) (in32_d (by decide))) (SndL.c (s_iload_n (k := 3) (by decide +kernel) rfl) (SndL.c (s_isub (by decide +kernel)) (SndL.c (s_istore (by decide +kernel) (by decide)) (SndL.c (s_fail) (SndL.c (s_iload (by decide +kernel)) (SndL.c (s_fail) (SndL.c (s_if_lt (off := 17) (by decide +kernel) (by decide)) (SndL.c (s_fail) (SndL.c (s_fail) (SndL.c (s_iload (by decide +kernel)) (SndL.c (s_fail) (SndL.n))))))))))))))))
def kX6_sideAt_2 : List En := [(0, oRload 2 33), (0, oAlen 34), (0, oIcGe 44 37), (1, oFail), (1, oFail), (0, oRload 2 38), (0, oIload 4 40), (1, oFail), (0, oIald 41), (0, oGoto 45), (1, oFail), (1, oFail), (0, oIload 3 45), (0, oRetI)]
set_option maxRecDepth 20000 in
theorem zX6_sideAt_2 : SndL mX6_sideAt 32 kX6_sideAt_2 := SndL.c (s_aload_n (k := 2) (by decide +kernel) rfl) (SndL.c (s_alen (by decide +kernel)) (SndL.c (s_ic_ge (off := 10) (by decide +kernel) (by decide)) (SndL.c (s_fail) (SndL.c (s_fail) (SndL.c (s_aload_n (k := 2) (by decide +kernel) rfl) (SndL.c (s_iload (by decide +kernel)) (SndL.c (s_fail) (SndL.c (s_iald (by decide +kernel)) (SndL.c (s_goto (off := 4) (by decide +kernel) (by decide)) (SndL.c (s_fail) (SndL.c (s_fail) (SndL.c (s_iload_n (k := 3) (by decide +kernel) rfl) (SndL.c (s_ret_i rfl (by decide +kernel)) (SndL.n))))))))))))))
def kX6_sideAt : Cd := [kX6_sideAt_0, kX6_sideAt_1, kX6_sideAt_2]
theorem zX6_sideAt : SndC mX6_sideAt 0 kX6_sideAt := SndC.c zX6_sideAt_0 (by decide) (SndC.c zX6_sideAt_1 (by decide) (SndC.c zX6_sideAt_2 (by decide) (SndC.n)))
theorem aX6_sideAt_0 : at_ kX6_sideAt 0 = (0, oIload 1 1) := rfl
theorem aX6_sideAt_1 : at_ kX6_sideAt 1 = (0, oRload 0 2) := rfl
theorem aX6_sideAt_2 : at_ kX6_sideAt 2 = (0, oGetf 8 0 2 5) := rfl
theorem aX6_sideAt_5 : at_ kX6_sideAt 5 = (0, oAlen 6) := rfl
theorem aX6_sideAt_6 : at_ kX6_sideAt 6 = (0, oIcGe 18 9) := rfl
theorem aX6_sideAt_9 : at_ kX6_sideAt 9 = (0, oRload 0 10) := rfl
theorem aX6_sideAt_10 : at_ kX6_sideAt 10 = (0, oGetf 8 0 2 13) := rfl
theorem aX6_sideAt_13 : at_ kX6_sideAt 13 = (0, oIload 1 14) := rfl
theorem aX6_sideAt_14 : at_ kX6_sideAt 14 = (0, oIald 15) := rfl
theorem aX6_sideAt_15 : at_ kX6_sideAt 15 = (0, oGoto 19) := rfl
theorem aX6_sideAt_18 : at_ kX6_sideAt 18 = (0, oPush (vI 0) 19) := rfl
theorem aX6_sideAt_19 : at_ kX6_sideAt 19 = (0, oIstore 3 20) := rfl
theorem aX6_sideAt_20 : at_ kX6_sideAt 20 = (0, oPush (vI (-1)) 21) := rfl
theorem aX6_sideAt_21 : at_ kX6_sideAt 21 = (0, oIload 3 22) := rfl
theorem aX6_sideAt_22 : at_ kX6_sideAt 22 = (0, oIsub 23) := rfl
theorem aX6_sideAt_23 : at_ kX6_sideAt 23 = (0, oIstore 4 25) := rfl
theorem aX6_sideAt_25 : at_ kX6_sideAt 25 = (0, oIload 4 27) := rfl
theorem aX6_sideAt_27 : at_ kX6_sideAt 27 = (0, oIfLt 44 30) := rfl
theorem aX6_sideAt_30 : at_ kX6_sideAt 30 = (0, oIload 4 32) := rfl
theorem aX6_sideAt_32 : at_ kX6_sideAt 32 = (0, oRload 2 33) := rfl
theorem aX6_sideAt_33 : at_ kX6_sideAt 33 = (0, oAlen 34) := rfl
theorem aX6_sideAt_34 : at_ kX6_sideAt 34 = (0, oIcGe 44 37) := rfl
theorem aX6_sideAt_37 : at_ kX6_sideAt 37 = (0, oRload 2 38) := rfl
theorem aX6_sideAt_38 : at_ kX6_sideAt 38 = (0, oIload 4 40) := rfl
theorem aX6_sideAt_40 : at_ kX6_sideAt 40 = (0, oIald 41) := rfl
theorem aX6_sideAt_41 : at_ kX6_sideAt 41 = (0, oGoto 45) := rfl
theorem aX6_sideAt_44 : at_ kX6_sideAt 44 = (0, oIload 3 45) := rfl
theorem aX6_sideAt_45 : at_ kX6_sideAt 45 = (0, oRetI) := rfl
def kX7_init_0 : List En := [(0, oRload 0 1), (0, oObji 4), (1, oFail), (1, oFail), (0, oRload 0 5), (0, oPush (vI 60) 7), (1, oFail), (0, oNewa 100 9), (1, oFail), (0, oPutf 9 0 2 12), (1, oFail), (1, oFail), (0, oRload 0 13), (0, oPush (vI 0) 14), (0, oPutf 9 1 0 17), (1, oFail)]
set_option maxRecDepth 20000 in
theorem zX7_init_0 : SndL mX7_init 0 kX7_init_0 := SndL.c (s_aload_n (k := 0) (by decide +kernel) rfl) (SndL.c (s_obji w_1_110 w_1_33 w_1_34 (by decide +kernel)) (SndL.c (s_fail) (SndL.c (s_fail) (SndL.c (s_aload_n (k := 0) (by decide +kernel) rfl) (SndL.c (s_bipush (by decide +kernel) (in32_d (by decide)) (by decide +kernel)) (SndL.c (s_fail) (SndL.c (s_newa (kd := 100) (atype := .int) (akd_d (by decide)) rfl (by decide) w_1_104 (fun _ _ h => h) (by decide +kernel)) (SndL.c (s_fail) (SndL.c (s_putf (k := 0) clok8 (by decide) rfl (by decide) rfl w_1_111 (Or.inl rfl) (Or.inr ⟨rfl, rfl, rfl⟩) (by decide +kernel)) (SndL.c (s_fail) (SndL.c (s_fail) (SndL.c (s_aload_n (k := 0) (by decide +kernel) rfl) (SndL.c (s_iconst (by decide +kernel) (in32_d (by decide))) (SndL.c (s_putf (k := 1) clok8 (by decide) rfl (by decide) rfl w_1_112 (Or.inl rfl) (Or.inl rfl) (by decide +kernel)) (SndL.c (s_fail) (SndL.n))))))))))))))))
def kX7_init_1 : List En := [(1, oFail), (0, oRload 0 18), (0, oPush (vI 0) 19), (0, oPutf 9 2 0 22), (1, oFail), (1, oFail), (0, oRload 0 23), (0, oPush (vI (-1)) 24), (0, oPutf 9 3 0 27), (1, oFail), (1, oFail), (0, oRload 0 28), (0, oPush (vI 60) 30), (1, oFail), (0, oNewa 100 32), (1, oFail)]
set_option maxRecDepth 20000 in
theorem zX7_init_1 : SndL mX7_init 16 kX7_init_1 := SndL.c (s_fail) (SndL.c (s_aload_n (k := 0) (by decide +kernel) rfl) (SndL.c (s_iconst (by decide +kernel) (in32_d (by decide))) (SndL.c (s_putf (k := 2) clok8 (by decide) rfl (by decide) rfl w_1_113 (Or.inl rfl) (Or.inl rfl) (by decide +kernel)) (SndL.c (s_fail) (SndL.c (s_fail) (SndL.c (s_aload_n (k := 0) (by decide +kernel) rfl) (SndL.c (s_iconst (by decide +kernel) (in32_d (by decide))) (SndL.c (s_putf (k := 3) clok8 (by decide) rfl (by decide) rfl w_1_114 (Or.inl rfl) (Or.inl rfl) (by decide +kernel)) (SndL.c (s_fail) (SndL.c (s_fail) (SndL.c (s_aload_n (k := 0) (by decide +kernel) rfl) (SndL.c (s_bipush (by decide +kernel) (in32_d (by decide)) (by decide +kernel)) (SndL.c (s_fail) (SndL.c (s_newa (kd := 100) (atype := .int) (akd_d (by decide)) rfl (by decide) w_1_104 (fun _ _ h => h) (by decide +kernel)) (SndL.c (s_fail) (SndL.n))))))))))))))))
def kX7_init_2 : List En := [(0, oPutf 9 4 2 35), (1, oFail), (1, oFail), (0, oRload 0 36), (0, oPush (vI 0) 37), (0, oPutf 9 5 0 40), (1, oFail), (1, oFail), (0, oRload 0 41), (0, oPush (vI 0) 42), (0, oPutf 9 6 0 45), (1, oFail), (1, oFail), (0, oRetV)]
set_option maxRecDepth 20000 in
theorem zX7_init_2 : SndL mX7_init 32 kX7_init_2 := SndL.c (s_putf (k := 4) clok8 (by decide) rfl (by decide) rfl w_1_115 (Or.inl rfl) (Or.inr ⟨rfl, rfl, rfl⟩) (by decide +kernel)) (SndL.c (s_fail) (SndL.c (s_fail) (SndL.c (s_aload_n (k := 0) (by decide +kernel) rfl) (SndL.c (s_iconst (by decide +kernel) (in32_d (by decide))) (SndL.c (s_putf (k := 5) clok8 (by decide) rfl (by decide) rfl w_1_116 (Or.inl rfl) (Or.inl rfl) (by decide +kernel)) (SndL.c (s_fail) (SndL.c (s_fail) (SndL.c (s_aload_n (k := 0) (by decide +kernel) rfl) (SndL.c (s_iconst (by decide +kernel) (in32_d (by decide))) (SndL.c (s_putf (k := 6) clok8 (by decide) rfl (by decide) rfl w_1_117 (Or.inl rfl) (Or.inl rfl) (by decide +kernel)) (SndL.c (s_fail) (SndL.c (s_fail) (SndL.c (s_ret_v rfl (by decide +kernel)) (SndL.n))))))))))))))
def kX7_init : Cd := [kX7_init_0, kX7_init_1, kX7_init_2]
theorem zX7_init : SndC mX7_init 0 kX7_init := SndC.c zX7_init_0 (by decide) (SndC.c zX7_init_1 (by decide) (SndC.c zX7_init_2 (by decide) (SndC.n)))
theorem aX7_init_0 : at_ kX7_init 0 = (0, oRload 0 1) := rfl
theorem aX7_init_1 : at_ kX7_init 1 = (0, oObji 4) := rfl
theorem aX7_init_4 : at_ kX7_init 4 = (0, oRload 0 5) := rfl
theorem aX7_init_5 : at_ kX7_init 5 = (0, oPush (vI 60) 7) := rfl
theorem aX7_init_7 : at_ kX7_init 7 = (0, oNewa 100 9) := rfl
theorem aX7_init_9 : at_ kX7_init 9 = (0, oPutf 9 0 2 12) := rfl
theorem aX7_init_12 : at_ kX7_init 12 = (0, oRload 0 13) := rfl
theorem aX7_init_13 : at_ kX7_init 13 = (0, oPush (vI 0) 14) := rfl
theorem aX7_init_14 : at_ kX7_init 14 = (0, oPutf 9 1 0 17) := rfl
theorem aX7_init_17 : at_ kX7_init 17 = (0, oRload 0 18) := rfl
theorem aX7_init_18 : at_ kX7_init 18 = (0, oPush (vI 0) 19) := rfl
theorem aX7_init_19 : at_ kX7_init 19 = (0, oPutf 9 2 0 22) := rfl
theorem aX7_init_22 : at_ kX7_init 22 = (0, oRload 0 23) := rfl
theorem aX7_init_23 : at_ kX7_init 23 = (0, oPush (vI (-1)) 24) := rfl
theorem aX7_init_24 : at_ kX7_init 24 = (0, oPutf 9 3 0 27) := rfl
theorem aX7_init_27 : at_ kX7_init 27 = (0, oRload 0 28) := rfl
theorem aX7_init_28 : at_ kX7_init 28 = (0, oPush (vI 60) 30) := rfl
theorem aX7_init_30 : at_ kX7_init 30 = (0, oNewa 100 32) := rfl
theorem aX7_init_32 : at_ kX7_init 32 = (0, oPutf 9 4 2 35) := rfl
theorem aX7_init_35 : at_ kX7_init 35 = (0, oRload 0 36) := rfl
theorem aX7_init_36 : at_ kX7_init 36 = (0, oPush (vI 0) 37) := rfl
theorem aX7_init_37 : at_ kX7_init 37 = (0, oPutf 9 5 0 40) := rfl
theorem aX7_init_40 : at_ kX7_init 40 = (0, oRload 0 41) := rfl
theorem aX7_init_41 : at_ kX7_init 41 = (0, oPush (vI 0) 42) := rfl
theorem aX7_init_42 : at_ kX7_init 42 = (0, oPutf 9 6 0 45) := rfl
theorem aX7_init_45 : at_ kX7_init 45 = (0, oRetV) := rfl
def kX7_faultOf_0 : List En := [(0, oRload 0 1), (0, oRload 1 2), (0, oGetf 11 3 0 5), (1, oFail), (1, oFail), (0, oPush (vI 60) 7), (1, oFail), (0, oMmin 10), (1, oFail), (1, oFail), (0, oPutf 9 1 0 13), (1, oFail), (1, oFail), (0, oPush (vI 0) 14), (0, oIstore 2 15), (1, oIload 2 16)]
set_option maxRecDepth 20000 in
theorem zX7_faultOf_0 : SndL mX7_faultOf 0 kX7_faultOf_0 := SndL.c (s_aload_n (k := 0) (by decide +kernel) rfl) (SndL.c (s_aload_n (k := 1) (by decide +kernel) rfl) (SndL.c (s_getf (k := 3) clok10 (by decide) rfl (by decide) rfl w_1_175 (Or.inl rfl) (by decide +kernel)) (SndL.c (s_fail) (SndL.c (s_fail) (SndL.c (s_bipush (by decide +kernel) (in32_d (by decide)) (by decide +kernel)) (SndL.c (s_fail) (SndL.c (s_mmin w_3_212 w_2_178 w_1_15 w_2_179 (by decide +kernel)) (SndL.c (s_fail) (SndL.c (s_fail) (SndL.c (s_putf (k := 1) clok8 (by decide) rfl (by decide) rfl w_1_112 (Or.inl rfl) (Or.inl rfl) (by decide +kernel)) (SndL.c (s_fail) (SndL.c (s_fail) (SndL.c (s_iconst (by decide +kernel) (in32_d (by decide))) (SndL.c (s_istore_n (k := 2) (by decide +kernel) rfl (by decide)) (SndL.c (s_iload_n (k := 2) (by decide +kernel) rfl) (SndL.n))))))))))))))))
def kX7_faultOf_1 : List En := [(0, oRload 0 17), (0, oGetf 9 1 0 20), (1, oFail), (1, oFail), (0, oIcGe 40 23), (1, oFail), (1, oFail), (0, oRload 0 24), (0, oGetf 9 0 2 27), (1, oFail), (1, oFail), (0, oIload 2 28), (0, oRload 1 29), (0, oIload 2 30), (2, oInvV 11 mX9_intAt 1 33), (1, oFail)]
set_option maxRecDepth 20000 in
theorem zX7_faultOf_1 : SndL mX7_faultOf 16 kX7_faultOf_1 := SndL.c (s_aload_n (k := 0) (by decide +kernel) rfl) (SndL.c (s_getf (k := 1) clok8 (by decide) rfl (by decide) rfl w_1_112 (Or.inl rfl) (by decide +kernel)) (SndL.c (s_fail) (SndL.c (s_fail) (SndL.c (s_ic_ge (off := 20) (by decide +kernel) (by decide)) (SndL.c (s_fail) (SndL.c (s_fail) (SndL.c (s_aload_n (k := 0) (by decide +kernel) rfl) (SndL.c (s_getf (k := 0) clok8 (by decide) rfl (by decide) rfl w_1_111 (Or.inl rfl) (by decide +kernel)) (SndL.c (s_fail) (SndL.c (s_fail) (SndL.c (s_iload_n (k := 2) (by decide +kernel) rfl) (SndL.c (s_aload_n (k := 1) (by decide +kernel) rfl) (SndL.c (s_iload_n (k := 2) (by decide +kernel) rfl) (SndL.c (s_invV (r := (RX9, TX9, 5)) (ci := 10) okX9_intAt rfl (by decide) rfl rfl w_3_213 w_2_74 w_2_75 (by decide +kernel)) (SndL.c (s_fail) (SndL.n))))))))))))))))
def kX7_faultOf_2 : List En := [(1, oFail), (0, oIast 34), (0, oIinc 2 1 37), (1, oFail), (1, oFail), (0, oGoto 15), (1, oFail), (1, oFail), (0, oRload 0 41), (0, oPush (vI 0) 42), (0, oPutf 9 2 0 45), (1, oFail), (1, oFail), (0, oRload 0 46), (0, oRload 0 47), (0, oGetf 9 1 0 50)]
set_option maxRecDepth 20000 in
theorem zX7_faultOf_2 : SndL mX7_faultOf 32 kX7_faultOf_2 := SndL.c (s_fail) (SndL.c (s_iast (by decide +kernel)) (SndL.c (s_iinc (by decide +kernel) (by decide)) (SndL.c (s_fail) (SndL.c (s_fail) (SndL.c (s_goto (off := -22) (by decide +kernel) (by decide)) (SndL.c (s_fail) (SndL.c (s_fail) (SndL.c (s_aload_n (k := 0) (by decide +kernel) rfl) (SndL.c (s_iconst (by decide +kernel) (in32_d (by decide))) (SndL.c (s_putf (k := 2) clok8 (by decide) rfl (by decide) rfl w_1_113 (Or.inl rfl) (Or.inl rfl) (by decide +kernel)) (SndL.c (s_fail) (SndL.c (s_fail) (SndL.c (s_aload_n (k := 0) (by decide +kernel) rfl) (SndL.c (s_aload_n (k := 0) (by decide +kernel) rfl) (SndL.c (s_getf (k := 1) clok8 (by decide) rfl (by decide) rfl w_1_112 (Or.inl rfl) (by decide +kernel)) (SndL.n))))))))))))))))
def kX7_faultOf_3 : List En := [(1, oFail), (1, oFail), (0, oIfLe 62 53), (1, oFail), (1, oFail), (0, oRload 0 54), (0, oGetf 9 0 2 57), (1, oFail), (1, oFail), (0, oPush (vI 0) 58), (0, oIald 59), (0, oGoto 63), (1, oFail), (1, oFail), (0, oPush (vI (-1)) 63), (0, oPutf 9 3 0 66)]
set_option maxRecDepth 20000 in
theorem zX7_faultOf_3 : SndL mX7_faultOf 48 kX7_faultOf_3 := SndL.c (s_fail) (SndL.c (s_fail) (SndL.c (s_if_le (off := 12) (by decide +kernel) (by decide)) (SndL.c (s_fail) (SndL.c (s_fail) (SndL.c (s_aload_n (k := 0) (by decide +kernel) rfl) (SndL.c (s_getf (k := 0) clok8 (by decide) rfl (by decide) rfl w_1_111 (Or.inl rfl) (by decide +kernel)) (SndL.c (s_fail) (SndL.c (s_fail) (SndL.c (s_iconst (by decide +kernel) (in32_d (by decide))) (SndL.c (s_iald (by decide +kernel)) (SndL.c (s_goto (off := 4) (by decide +kernel) (by decide)) (SndL.c (s_fail) (SndL.c (s_fail) (SndL.c (s_iconst (by decide +kernel) (in32_d (by decide))) (SndL.c (s_putf (k := 3) clok8 (by decide) rfl (by decide) rfl w_1_114 (Or.inl rfl) (Or.inl rfl) (by decide +kernel)) (SndL.n))))))))))))))))
def kX7_faultOf_4 : List En := [(1, oFail), (1, oFail), (0, oRload 0 67), (0, oPush (vI 0) 68), (0, oPutf 9 5 0 71), (1, oFail), (1, oFail), (0, oRload 0 72), (0, oPush (vI 98) 74), (1, oFail), (2, oInvV 9 mX7_take 1 77), (1, oFail), (1, oFail), (0, oIfEq 112 80), (1, oFail), (1, oFail)]
set_option maxRecDepth 20000 in
theorem zX7_faultOf_4 : SndL mX7_faultOf 64 kX7_faultOf_4 := SndL.c (s_fail) (SndL.c (s_fail) (SndL.c (s_aload_n (k := 0) (by decide +kernel) rfl) (SndL.c (s_iconst (by decide +kernel) (in32_d (by decide))) (SndL.c (s_putf (k := 5) clok8 (by decide) rfl (by decide) rfl w_1_116 (Or.inl rfl) (Or.inl rfl) (by decide +kernel)) (SndL.c (s_fail) (SndL.c (s_fail) (SndL.c (s_aload_n (k := 0) (by decide +kernel) rfl) (SndL.c (s_bipush (by decide +kernel) (in32_d (by decide)) (by decide +kernel)) (SndL.c (s_fail) (SndL.c (s_invV (r := (RX7, TX7, 7)) (ci := 8) okX7_take rfl (by decide) rfl rfl w_3_214 w_3_216 v_15 (by decide +kernel)) (SndL.c (s_fail) (SndL.c (s_fail) (SndL.c (s_if_eq (off := 35) (by decide +kernel) (by decide)) (SndL.c (s_fail) (SndL.c (s_fail) (SndL.n))))))))))))))))
def kX7_faultOf_5 : List En := [(0, oRload 0 81), (0, oPush (vI 58) 83), (1, oFail), (2, oInvV 9 mX7_take 1 86), (1, oFail), (1, oFail), (0, oIfEq 112 89), (1, oFail), (1, oFail), (0, oRload 0 90), (0, oPush (vI 0) 91), (2, oInvV 9 mX7_readExpr 1 94), (1, oFail), (1, oFail), (0, oIfEq 112 97), (1, oFail)]
set_option maxRecDepth 20000 in
theorem zX7_faultOf_5 : SndL mX7_faultOf 80 kX7_faultOf_5 := SndL.c (s_aload_n (k := 0) (by decide +kernel) rfl) (SndL.c (s_bipush (by decide +kernel) (in32_d (by decide)) (by decide +kernel)) (SndL.c (s_fail) (SndL.c (s_invV (r := (RX7, TX7, 7)) (ci := 8) okX7_take rfl (by decide) rfl rfl w_3_214 w_3_216 v_15 (by decide +kernel)) (SndL.c (s_fail) (SndL.c (s_fail) (SndL.c (s_if_eq (off := 26) (by decide +kernel) (by decide)) (SndL.c (s_fail) (SndL.c (s_fail) (SndL.c (s_aload_n (k := 0) (by decide +kernel) rfl) (SndL.c (s_iconst (by decide +kernel) (in32_d (by decide))) (SndL.c (s_invV (r := (RX7, TX7, 7)) (ci := 8) okX7_readExpr rfl (by decide) rfl rfl w_3_218 w_3_220 v_16 (by decide +kernel)) (SndL.c (s_fail) (SndL.c (s_fail) (SndL.c (s_if_eq (off := 18) (by decide +kernel) (by decide)) (SndL.c (s_fail) (SndL.n))))))))))))))))
def kX7_faultOf_6 : List En := [(1, oFail), (0, oRload 0 98), (0, oGetf 9 2 0 101), (1, oFail), (1, oFail), (0, oRload 0 102), (0, oGetf 9 1 0 105), (1, oFail), (1, oFail), (0, oIcNe 112 108), (1, oFail), (1, oFail), (0, oPush (vI 1) 109), (0, oGoto 113), (1, oFail), (1, oFail)]
set_option maxRecDepth 20000 in
theorem zX7_faultOf_6 : SndL mX7_faultOf 96 kX7_faultOf_6 := SndL.c (s_fail) (SndL.c (s_aload_n (k := 0) (by decide +kernel) rfl) (SndL.c (s_getf (k := 2) clok8 (by decide) rfl (by decide) rfl w_1_113 (Or.inl rfl) (by decide +kernel)) (SndL.c (s_fail) (SndL.c (s_fail) (SndL.c (s_aload_n (k := 0) (by decide +kernel) rfl) (SndL.c (s_getf (k := 1) clok8 (by decide) rfl (by decide) rfl w_1_112 (Or.inl rfl) (by decide +kernel)) (SndL.c (s_fail) (SndL.c (s_fail) (SndL.c (s_ic_ne (off := 7) (by decide +kernel) (by decide)) (SndL.c (s_fail) (SndL.c (s_fail) (SndL.c (s_iconst (by decide +kernel) (in32_d (by decide))) (SndL.c (s_goto (off := 4) (by decide +kernel) (by decide)) (SndL.c (s_fail) (SndL.c (s_fail) (SndL.n))))))))))))))))
def kX7_faultOf_7 : List En := [(0, oPush (vI 0) 113), (0, oIstore 2 114), (0, oIload 2 115), (0, oIfEq 122 118), (1, oFail), (1, oFail), (0, oPush (vI (-1)) 119), (0, oGoto 126), (1, oFail), (1, oFail), (0, oRload 0 123), (0, oGetf 9 2 0 126), (1, oFail), (1, oFail), (0, oRetI)]
set_option maxRecDepth 20000 in
theorem zX7_faultOf_7 : SndL mX7_faultOf 112 kX7_faultOf_7 := SndL.c (s_iconst (by decide +kernel) (in32_d (by decide))) (SndL.c (s_istore_n (k := 2) (by decide +kernel) rfl (by decide)) (SndL.c (s_iload_n (k := 2) (by decide +kernel) rfl) (SndL.c (s_if_eq (off := 7) (by decide +kernel) (by decide)) (SndL.c (s_fail) (SndL.c (s_fail) (SndL.c (s_iconst (by decide +kernel) (in32_d (by decide))) (SndL.c (s_goto (off := 7) (by decide +kernel) (by decide)) (SndL.c (s_fail) (SndL.c (s_fail) (SndL.c (s_aload_n (k := 0) (by decide +kernel) rfl) (SndL.c (s_getf (k := 2) clok8 (by decide) rfl (by decide) rfl w_1_113 (Or.inl rfl) (by decide +kernel)) (SndL.c (s_fail) (SndL.c (s_fail) (SndL.c (s_ret_i rfl (by decide +kernel)) (SndL.n)))))))))))))))
def kX7_faultOf : Cd := [kX7_faultOf_0, kX7_faultOf_1, kX7_faultOf_2, kX7_faultOf_3, kX7_faultOf_4, kX7_faultOf_5, kX7_faultOf_6, kX7_faultOf_7]
theorem zX7_faultOf : SndC mX7_faultOf 0 kX7_faultOf := SndC.c zX7_faultOf_0 (by decide) (SndC.c zX7_faultOf_1 (by decide) (SndC.c zX7_faultOf_2 (by decide) (SndC.c zX7_faultOf_3 (by decide) (SndC.c zX7_faultOf_4 (by decide) (SndC.c zX7_faultOf_5 (by decide) (SndC.c zX7_faultOf_6 (by decide) (SndC.c zX7_faultOf_7 (by decide) (SndC.n))))))))
theorem aX7_faultOf_0 : at_ kX7_faultOf 0 = (0, oRload 0 1) := rfl
theorem aX7_faultOf_1 : at_ kX7_faultOf 1 = (0, oRload 1 2) := rfl
theorem aX7_faultOf_2 : at_ kX7_faultOf 2 = (0, oGetf 11 3 0 5) := rfl
theorem aX7_faultOf_5 : at_ kX7_faultOf 5 = (0, oPush (vI 60) 7) := rfl
theorem aX7_faultOf_7 : at_ kX7_faultOf 7 = (0, oMmin 10) := rfl
theorem aX7_faultOf_10 : at_ kX7_faultOf 10 = (0, oPutf 9 1 0 13) := rfl
theorem aX7_faultOf_13 : at_ kX7_faultOf 13 = (0, oPush (vI 0) 14) := rfl
theorem aX7_faultOf_14 : at_ kX7_faultOf 14 = (0, oIstore 2 15) := rfl
theorem aX7_faultOf_15 : at_ kX7_faultOf 15 = (1, oIload 2 16) := rfl
theorem aX7_faultOf_16 : at_ kX7_faultOf 16 = (0, oRload 0 17) := rfl
theorem aX7_faultOf_17 : at_ kX7_faultOf 17 = (0, oGetf 9 1 0 20) := rfl
theorem aX7_faultOf_20 : at_ kX7_faultOf 20 = (0, oIcGe 40 23) := rfl
theorem aX7_faultOf_23 : at_ kX7_faultOf 23 = (0, oRload 0 24) := rfl
theorem aX7_faultOf_24 : at_ kX7_faultOf 24 = (0, oGetf 9 0 2 27) := rfl
theorem aX7_faultOf_27 : at_ kX7_faultOf 27 = (0, oIload 2 28) := rfl
theorem aX7_faultOf_28 : at_ kX7_faultOf 28 = (0, oRload 1 29) := rfl
theorem aX7_faultOf_29 : at_ kX7_faultOf 29 = (0, oIload 2 30) := rfl
theorem aX7_faultOf_30 : at_ kX7_faultOf 30 = (2, oInvV 11 mX9_intAt 1 33) := rfl
theorem aX7_faultOf_33 : at_ kX7_faultOf 33 = (0, oIast 34) := rfl
theorem aX7_faultOf_34 : at_ kX7_faultOf 34 = (0, oIinc 2 1 37) := rfl
theorem aX7_faultOf_37 : at_ kX7_faultOf 37 = (0, oGoto 15) := rfl
theorem aX7_faultOf_40 : at_ kX7_faultOf 40 = (0, oRload 0 41) := rfl
theorem aX7_faultOf_41 : at_ kX7_faultOf 41 = (0, oPush (vI 0) 42) := rfl
theorem aX7_faultOf_42 : at_ kX7_faultOf 42 = (0, oPutf 9 2 0 45) := rfl
theorem aX7_faultOf_45 : at_ kX7_faultOf 45 = (0, oRload 0 46) := rfl
theorem aX7_faultOf_46 : at_ kX7_faultOf 46 = (0, oRload 0 47) := rfl
theorem aX7_faultOf_47 : at_ kX7_faultOf 47 = (0, oGetf 9 1 0 50) := rfl
theorem aX7_faultOf_50 : at_ kX7_faultOf 50 = (0, oIfLe 62 53) := rfl
theorem aX7_faultOf_53 : at_ kX7_faultOf 53 = (0, oRload 0 54) := rfl
theorem aX7_faultOf_54 : at_ kX7_faultOf 54 = (0, oGetf 9 0 2 57) := rfl
theorem aX7_faultOf_57 : at_ kX7_faultOf 57 = (0, oPush (vI 0) 58) := rfl
theorem aX7_faultOf_58 : at_ kX7_faultOf 58 = (0, oIald 59) := rfl
theorem aX7_faultOf_59 : at_ kX7_faultOf 59 = (0, oGoto 63) := rfl
theorem aX7_faultOf_62 : at_ kX7_faultOf 62 = (0, oPush (vI (-1)) 63) := rfl
theorem aX7_faultOf_63 : at_ kX7_faultOf 63 = (0, oPutf 9 3 0 66) := rfl
theorem aX7_faultOf_66 : at_ kX7_faultOf 66 = (0, oRload 0 67) := rfl
theorem aX7_faultOf_67 : at_ kX7_faultOf 67 = (0, oPush (vI 0) 68) := rfl
theorem aX7_faultOf_68 : at_ kX7_faultOf 68 = (0, oPutf 9 5 0 71) := rfl
theorem aX7_faultOf_71 : at_ kX7_faultOf 71 = (0, oRload 0 72) := rfl
theorem aX7_faultOf_72 : at_ kX7_faultOf 72 = (0, oPush (vI 98) 74) := rfl
theorem aX7_faultOf_74 : at_ kX7_faultOf 74 = (2, oInvV 9 mX7_take 1 77) := rfl
theorem aX7_faultOf_77 : at_ kX7_faultOf 77 = (0, oIfEq 112 80) := rfl
theorem aX7_faultOf_80 : at_ kX7_faultOf 80 = (0, oRload 0 81) := rfl
theorem aX7_faultOf_81 : at_ kX7_faultOf 81 = (0, oPush (vI 58) 83) := rfl
theorem aX7_faultOf_83 : at_ kX7_faultOf 83 = (2, oInvV 9 mX7_take 1 86) := rfl
theorem aX7_faultOf_86 : at_ kX7_faultOf 86 = (0, oIfEq 112 89) := rfl
theorem aX7_faultOf_89 : at_ kX7_faultOf 89 = (0, oRload 0 90) := rfl
theorem aX7_faultOf_90 : at_ kX7_faultOf 90 = (0, oPush (vI 0) 91) := rfl
theorem aX7_faultOf_91 : at_ kX7_faultOf 91 = (2, oInvV 9 mX7_readExpr 1 94) := rfl
theorem aX7_faultOf_94 : at_ kX7_faultOf 94 = (0, oIfEq 112 97) := rfl
theorem aX7_faultOf_97 : at_ kX7_faultOf 97 = (0, oRload 0 98) := rfl
theorem aX7_faultOf_98 : at_ kX7_faultOf 98 = (0, oGetf 9 2 0 101) := rfl
theorem aX7_faultOf_101 : at_ kX7_faultOf 101 = (0, oRload 0 102) := rfl
theorem aX7_faultOf_102 : at_ kX7_faultOf 102 = (0, oGetf 9 1 0 105) := rfl
theorem aX7_faultOf_105 : at_ kX7_faultOf 105 = (0, oIcNe 112 108) := rfl
theorem aX7_faultOf_108 : at_ kX7_faultOf 108 = (0, oPush (vI 1) 109) := rfl
theorem aX7_faultOf_109 : at_ kX7_faultOf 109 = (0, oGoto 113) := rfl
theorem aX7_faultOf_112 : at_ kX7_faultOf 112 = (0, oPush (vI 0) 113) := rfl
theorem aX7_faultOf_113 : at_ kX7_faultOf 113 = (0, oIstore 2 114) := rfl
theorem aX7_faultOf_114 : at_ kX7_faultOf 114 = (0, oIload 2 115) := rfl
theorem aX7_faultOf_115 : at_ kX7_faultOf 115 = (0, oIfEq 122 118) := rfl
theorem aX7_faultOf_118 : at_ kX7_faultOf 118 = (0, oPush (vI (-1)) 119) := rfl
theorem aX7_faultOf_119 : at_ kX7_faultOf 119 = (0, oGoto 126) := rfl
theorem aX7_faultOf_122 : at_ kX7_faultOf 122 = (0, oRload 0 123) := rfl
theorem aX7_faultOf_123 : at_ kX7_faultOf 123 = (0, oGetf 9 2 0 126) := rfl
theorem aX7_faultOf_126 : at_ kX7_faultOf 126 = (0, oRetI) := rfl
def kX7_codeRead_0 : List En := [(0, oRload 0 1), (0, oGetf 9 5 0 4), (1, oFail), (1, oFail), (0, oNewa 100 6), (1, oFail), (0, oRstore 1 7), (0, oPush (vI 0) 8), (0, oIstore 2 9), (1, oIload 2 10), (0, oRload 1 11), (0, oAlen 12), (0, oIcGe 30 15), (1, oFail), (1, oFail), (0, oRload 1 16)]
set_option maxRecDepth 20000 in
theorem zX7_codeRead_0 : SndL mX7_codeRead 0 kX7_codeRead_0 := SndL.c (s_aload_n (k := 0) (by decide +kernel) rfl) (SndL.c (s_getf (k := 5) clok8 (by decide) rfl (by decide) rfl w_1_116 (Or.inl rfl) (by decide +kernel)) (SndL.c (s_fail) (SndL.c (s_fail) (SndL.c (s_newa (kd := 100) (atype := .int) (akd_d (by decide)) rfl (by decide) w_1_104 (fun _ _ h => h) (by decide +kernel)) (SndL.c (s_fail) (SndL.c (s_astore_n (k := 1) (by decide +kernel) rfl (by decide)) (SndL.c (s_iconst (by decide +kernel) (in32_d (by decide))) (SndL.c (s_istore_n (k := 2) (by decide +kernel) rfl (by decide)) (SndL.c (s_iload_n (k := 2) (by decide +kernel) rfl) (SndL.c (s_aload_n (k := 1) (by decide +kernel) rfl) (SndL.c (s_alen (by decide +kernel)) (SndL.c (s_ic_ge (off := 18) (by decide +kernel) (by decide)) (SndL.c (s_fail) (SndL.c (s_fail) (SndL.c (s_aload_n (k := 1) (by decide +kernel) rfl) (SndL.n))))))))))))))))
def kX7_codeRead_1 : List En := [(0, oIload 2 17), (0, oRload 0 18), (0, oGetf 9 4 2 21), (1, oFail), (1, oFail), (0, oIload 2 22), (0, oIald 23), (0, oIast 24), (0, oIinc 2 1 27), (1, oFail), (1, oFail), (0, oGoto 9), (1, oFail), (1, oFail), (0, oRload 1 31), (0, oRetA)]
set_option maxRecDepth 20000 in
theorem zX7_codeRead_1 : SndL mX7_codeRead 16 kX7_codeRead_1 := SndL.c (s_iload_n (k := 2) (by decide +kernel) rfl) (SndL.c (s_aload_n (k := 0) (by decide +kernel) rfl) (SndL.c (s_getf (k := 4) clok8 (by decide) rfl (by decide) rfl w_1_115 (Or.inl rfl) (by decide +kernel)) (SndL.c (s_fail) (SndL.c (s_fail) (SndL.c (s_iload_n (k := 2) (by decide +kernel) rfl) (SndL.c (s_iald (by decide +kernel)) (SndL.c (s_iast (by decide +kernel)) (SndL.c (s_iinc (by decide +kernel) (by decide)) (SndL.c (s_fail) (SndL.c (s_fail) (SndL.c (s_goto (off := -18) (by decide +kernel) (by decide)) (SndL.c (s_fail) (SndL.c (s_fail) (SndL.c (s_aload_n (k := 1) (by decide +kernel) rfl) (SndL.c (s_ret_a rfl (Or.inr ⟨_, rfl⟩) (by decide +kernel)) (SndL.n))))))))))))))))
def kX7_codeRead : Cd := [kX7_codeRead_0, kX7_codeRead_1]
theorem zX7_codeRead : SndC mX7_codeRead 0 kX7_codeRead := SndC.c zX7_codeRead_0 (by decide) (SndC.c zX7_codeRead_1 (by decide) (SndC.n))
theorem aX7_codeRead_0 : at_ kX7_codeRead 0 = (0, oRload 0 1) := rfl
theorem aX7_codeRead_1 : at_ kX7_codeRead 1 = (0, oGetf 9 5 0 4) := rfl
theorem aX7_codeRead_4 : at_ kX7_codeRead 4 = (0, oNewa 100 6) := rfl
theorem aX7_codeRead_6 : at_ kX7_codeRead 6 = (0, oRstore 1 7) := rfl
theorem aX7_codeRead_7 : at_ kX7_codeRead 7 = (0, oPush (vI 0) 8) := rfl
theorem aX7_codeRead_8 : at_ kX7_codeRead 8 = (0, oIstore 2 9) := rfl
theorem aX7_codeRead_9 : at_ kX7_codeRead 9 = (1, oIload 2 10) := rfl
theorem aX7_codeRead_10 : at_ kX7_codeRead 10 = (0, oRload 1 11) := rfl
theorem aX7_codeRead_11 : at_ kX7_codeRead 11 = (0, oAlen 12) := rfl
theorem aX7_codeRead_12 : at_ kX7_codeRead 12 = (0, oIcGe 30 15) := rfl
theorem aX7_codeRead_15 : at_ kX7_codeRead 15 = (0, oRload 1 16) := rfl
theorem aX7_codeRead_16 : at_ kX7_codeRead 16 = (0, oIload 2 17) := rfl
theorem aX7_codeRead_17 : at_ kX7_codeRead 17 = (0, oRload 0 18) := rfl
theorem aX7_codeRead_18 : at_ kX7_codeRead 18 = (0, oGetf 9 4 2 21) := rfl
theorem aX7_codeRead_21 : at_ kX7_codeRead 21 = (0, oIload 2 22) := rfl
theorem aX7_codeRead_22 : at_ kX7_codeRead 22 = (0, oIald 23) := rfl
theorem aX7_codeRead_23 : at_ kX7_codeRead 23 = (0, oIast 24) := rfl
theorem aX7_codeRead_24 : at_ kX7_codeRead 24 = (0, oIinc 2 1 27) := rfl
theorem aX7_codeRead_27 : at_ kX7_codeRead 27 = (0, oGoto 9) := rfl
theorem aX7_codeRead_30 : at_ kX7_codeRead 30 = (0, oRload 1 31) := rfl
theorem aX7_codeRead_31 : at_ kX7_codeRead 31 = (0, oRetA) := rfl
def kX7_take_0 : List En := [(0, oRload 0 1), (0, oGetf 9 3 0 4), (1, oFail), (1, oFail), (0, oIload 1 5), (0, oIcNe 19 8), (1, oFail), (1, oFail), (0, oRload 0 9), (0, oGetf 9 2 0 12), (1, oFail), (1, oFail), (0, oRload 0 13), (0, oGetf 9 1 0 16), (1, oFail), (1, oFail)]
set_option maxRecDepth 20000 in
theorem zX7_take_0 : SndL mX7_take 0 kX7_take_0 := SndL.c (s_aload_n (k := 0) (by decide +kernel) rfl) (SndL.c (s_getf (k := 3) clok8 (by decide) rfl (by decide) rfl w_1_114 (Or.inl rfl) (by decide +kernel)) (SndL.c (s_fail) (SndL.c (s_fail) (SndL.c (s_iload_n (k := 1) (by decide +kernel) rfl) (SndL.c (s_ic_ne (off := 14) (by decide +kernel) (by decide)) (SndL.c (s_fail) (SndL.c (s_fail) (SndL.c (s_aload_n (k := 0) (by decide +kernel) rfl) (SndL.c (s_getf (k := 2) clok8 (by decide) rfl (by decide) rfl w_1_113 (Or.inl rfl) (by decide +kernel)) (SndL.c (s_fail) (SndL.c (s_fail) (SndL.c (s_aload_n (k := 0) (by decide +kernel) rfl) (SndL.c (s_getf (k := 1) clok8 (by decide) rfl (by decide) rfl w_1_112 (Or.inl rfl) (by decide +kernel)) (SndL.c (s_fail) (SndL.c (s_fail) (SndL.n))))))))))))))))
def kX7_take_1 : List En := [(0, oIcLt 21 19), (1, oFail), (1, oFail), (0, oPush (vI 0) 20), (0, oRetZ), (0, oRload 0 22), (0, oDup 23), (0, oGetf 9 2 0 26), (1, oFail), (1, oFail), (0, oPush (vI 1) 27), (0, oIadd 28), (0, oPutf 9 2 0 31), (1, oFail), (1, oFail), (0, oRload 0 32)]
set_option maxRecDepth 20000 in
theorem zX7_take_1 : SndL mX7_take 16 kX7_take_1 := SndL.c (s_ic_lt (off := 5) (by decide +kernel) (by decide)) (SndL.c (s_fail) (SndL.c (s_fail) (SndL.c (s_iconst (by decide +kernel) (in32_d (by decide))) (SndL.c (s_ret_z rfl (by decide +kernel)) (SndL.c (s_aload_n (k := 0) (by decide +kernel) rfl) (SndL.c (s_dup (by decide +kernel)) (SndL.c (s_getf (k := 2) clok8 (by decide) rfl (by decide) rfl w_1_113 (Or.inl rfl) (by decide +kernel)) (SndL.c (s_fail) (SndL.c (s_fail) (SndL.c (s_iconst (by decide +kernel) (in32_d (by decide))) (SndL.c (s_iadd (by decide +kernel)) (SndL.c (s_putf (k := 2) clok8 (by decide) rfl (by decide) rfl w_1_113 (Or.inl rfl) (Or.inl rfl) (by decide +kernel)) (SndL.c (s_fail) (SndL.c (s_fail) (SndL.c (s_aload_n (k := 0) (by decide +kernel) rfl) (SndL.n))))))))))))))))
def kX7_take_2 : List En := [(0, oRload 0 33), (0, oGetf 9 2 0 36), (1, oFail), (1, oFail), (0, oRload 0 37), (0, oGetf 9 1 0 40), (1, oFail), (1, oFail), (0, oIcGe 55 43), (1, oFail), (1, oFail), (0, oRload 0 44), (0, oGetf 9 0 2 47), (1, oFail), (1, oFail), (0, oRload 0 48)]
set_option maxRecDepth 20000 in
theorem zX7_take_2 : SndL mX7_take 32 kX7_take_2 := SndL.c (s_aload_n (k := 0) (by decide +kernel) rfl) (SndL.c (s_getf (k := 2) clok8 (by decide) rfl (by decide) rfl w_1_113 (Or.inl rfl) (by decide +kernel)) (SndL.c (s_fail) (SndL.c (s_fail) (SndL.c (s_aload_n (k := 0) (by decide +kernel) rfl) (SndL.c (s_getf (k := 1) clok8 (by decide) rfl (by decide) rfl w_1_112 (Or.inl rfl) (by decide +kernel)) (SndL.c (s_fail) (SndL.c (s_fail) (SndL.c (s_ic_ge (off := 15) (by decide +kernel) (by decide)) (SndL.c (s_fail) (SndL.c (s_fail) (SndL.c (s_aload_n (k := 0) (by decide +kernel) rfl) (SndL.c (s_getf (k := 0) clok8 (by decide) rfl (by decide) rfl w_1_111 (Or.inl rfl) (by decide +kernel)) (SndL.c (s_fail) (SndL.c (s_fail) (SndL.c (s_aload_n (k := 0) (by decide +kernel) rfl) (SndL.n))))))))))))))))
def kX7_take_3 : List En := [(0, oGetf 9 2 0 51), (1, oFail), (1, oFail), (0, oIald 52), (0, oGoto 56), (1, oFail), (1, oFail), (0, oPush (vI (-1)) 56), (0, oPutf 9 3 0 59), (1, oFail), (1, oFail), (0, oPush (vI 1) 60), (0, oRetZ)]
set_option maxRecDepth 20000 in
theorem zX7_take_3 : SndL mX7_take 48 kX7_take_3 := SndL.c (s_getf (k := 2) clok8 (by decide) rfl (by decide) rfl w_1_113 (Or.inl rfl) (by decide +kernel)) (SndL.c (s_fail) (SndL.c (s_fail) (SndL.c (s_iald (by decide +kernel)) (SndL.c (s_goto (off := 4) (by decide +kernel) (by decide)) (SndL.c (s_fail) (SndL.c (s_fail) (SndL.c (s_iconst (by decide +kernel) (in32_d (by decide))) (SndL.c (s_putf (k := 3) clok8 (by decide) rfl (by decide) rfl w_1_114 (Or.inl rfl) (Or.inl rfl) (by decide +kernel)) (SndL.c (s_fail) (SndL.c (s_fail) (SndL.c (s_iconst (by decide +kernel) (in32_d (by decide))) (SndL.c (s_ret_z rfl (by decide +kernel)) (SndL.n)))))))))))))
def kX7_take : Cd := [kX7_take_0, kX7_take_1, kX7_take_2, kX7_take_3]
theorem zX7_take : SndC mX7_take 0 kX7_take := SndC.c zX7_take_0 (by decide) (SndC.c zX7_take_1 (by decide) (SndC.c zX7_take_2 (by decide) (SndC.c zX7_take_3 (by decide) (SndC.n))))
theorem aX7_take_0 : at_ kX7_take 0 = (0, oRload 0 1) := rfl
theorem aX7_take_1 : at_ kX7_take 1 = (0, oGetf 9 3 0 4) := rfl
theorem aX7_take_4 : at_ kX7_take 4 = (0, oIload 1 5) := rfl
theorem aX7_take_5 : at_ kX7_take 5 = (0, oIcNe 19 8) := rfl
theorem aX7_take_8 : at_ kX7_take 8 = (0, oRload 0 9) := rfl
theorem aX7_take_9 : at_ kX7_take 9 = (0, oGetf 9 2 0 12) := rfl
theorem aX7_take_12 : at_ kX7_take 12 = (0, oRload 0 13) := rfl
theorem aX7_take_13 : at_ kX7_take 13 = (0, oGetf 9 1 0 16) := rfl
theorem aX7_take_16 : at_ kX7_take 16 = (0, oIcLt 21 19) := rfl
theorem aX7_take_19 : at_ kX7_take 19 = (0, oPush (vI 0) 20) := rfl
theorem aX7_take_20 : at_ kX7_take 20 = (0, oRetZ) := rfl
theorem aX7_take_21 : at_ kX7_take 21 = (0, oRload 0 22) := rfl
theorem aX7_take_22 : at_ kX7_take 22 = (0, oDup 23) := rfl
theorem aX7_take_23 : at_ kX7_take 23 = (0, oGetf 9 2 0 26) := rfl
theorem aX7_take_26 : at_ kX7_take 26 = (0, oPush (vI 1) 27) := rfl
theorem aX7_take_27 : at_ kX7_take 27 = (0, oIadd 28) := rfl
theorem aX7_take_28 : at_ kX7_take 28 = (0, oPutf 9 2 0 31) := rfl
theorem aX7_take_31 : at_ kX7_take 31 = (0, oRload 0 32) := rfl
theorem aX7_take_32 : at_ kX7_take 32 = (0, oRload 0 33) := rfl
theorem aX7_take_33 : at_ kX7_take 33 = (0, oGetf 9 2 0 36) := rfl
theorem aX7_take_36 : at_ kX7_take 36 = (0, oRload 0 37) := rfl
theorem aX7_take_37 : at_ kX7_take 37 = (0, oGetf 9 1 0 40) := rfl
theorem aX7_take_40 : at_ kX7_take 40 = (0, oIcGe 55 43) := rfl
theorem aX7_take_43 : at_ kX7_take 43 = (0, oRload 0 44) := rfl
theorem aX7_take_44 : at_ kX7_take 44 = (0, oGetf 9 0 2 47) := rfl
theorem aX7_take_47 : at_ kX7_take 47 = (0, oRload 0 48) := rfl
theorem aX7_take_48 : at_ kX7_take 48 = (0, oGetf 9 2 0 51) := rfl
theorem aX7_take_51 : at_ kX7_take 51 = (0, oIald 52) := rfl
theorem aX7_take_52 : at_ kX7_take 52 = (0, oGoto 56) := rfl
theorem aX7_take_55 : at_ kX7_take 55 = (0, oPush (vI (-1)) 56) := rfl
theorem aX7_take_56 : at_ kX7_take 56 = (0, oPutf 9 3 0 59) := rfl
theorem aX7_take_59 : at_ kX7_take 59 = (0, oPush (vI 1) 60) := rfl
theorem aX7_take_60 : at_ kX7_take 60 = (0, oRetZ) := rfl
def kX7_write_0 : List En := [(0, oRload 0 1), (0, oGetf 9 5 0 4), (1, oFail), (1, oFail), (0, oPush (vI 60) 6), (1, oFail), (0, oIcGe 29 9), (1, oFail), (1, oFail), (0, oRload 0 10), (0, oGetf 9 4 2 13), (1, oFail), (1, oFail), (0, oRload 0 14), (0, oGetf 9 5 0 17), (1, oFail)]
set_option maxRecDepth 20000 in
theorem zX7_write_0 : SndL mX7_write 0 kX7_write_0 := SndL.c (s_aload_n (k := 0) (by decide +kernel) rfl) (SndL.c (s_getf (k := 5) clok8 (by decide) rfl (by decide) rfl w_1_116 (Or.inl rfl) (by decide +kernel)) (SndL.c (s_fail) (SndL.c (s_fail) (SndL.c (s_bipush (by decide +kernel) (in32_d (by decide)) (by decide +kernel)) (SndL.c (s_fail) (SndL.c (s_ic_ge (off := 23) (by decide +kernel) (by decide)) (SndL.c (s_fail) (SndL.c (s_fail) (SndL.c (s_aload_n (k := 0) (by decide +kernel) rfl) (SndL.c (s_getf (k := 4) clok8 (by decide) rfl (by decide) rfl w_1_115 (Or.inl rfl) (by decide +kernel)) (SndL.c (s_fail) (SndL.c (s_fail) (SndL.c (s_aload_n (k := 0) (by decide +kernel) rfl) (SndL.c (s_getf (k := 5) clok8 (by decide) rfl (by decide) rfl w_1_116 (Or.inl rfl) (by decide +kernel)) (SndL.c (s_fail) (SndL.n))))))))))))))))
def kX7_write_1 : List En := [(1, oFail), (0, oIload 1 18), (0, oIast 19), (0, oRload 0 20), (0, oDup 21), (0, oGetf 9 5 0 24), (1, oFail), (1, oFail), (0, oPush (vI 1) 25), (0, oIadd 26), (0, oPutf 9 5 0 29), (1, oFail), (1, oFail), (0, oRetV)]
set_option maxRecDepth 20000 in
theorem zX7_write_1 : SndL mX7_write 16 kX7_write_1 := SndL.c (s_fail) (SndL.c (s_iload_n (k := 1) (by decide +kernel) rfl) (SndL.c (s_iast (by decide +kernel)) (SndL.c (s_aload_n (k := 0) (by decide +kernel) rfl) (SndL.c (s_dup (by decide +kernel)) (SndL.c (s_getf (k := 5) clok8 (by decide) rfl (by decide) rfl w_1_116 (Or.inl rfl) (by decide +kernel)) (SndL.c (s_fail) (SndL.c (s_fail) (SndL.c (s_iconst (by decide +kernel) (in32_d (by decide))) (SndL.c (s_iadd (by decide +kernel)) (SndL.c (s_putf (k := 5) clok8 (by decide) rfl (by decide) rfl w_1_116 (Or.inl rfl) (Or.inl rfl) (by decide +kernel)) (SndL.c (s_fail) (SndL.c (s_fail) (SndL.c (s_ret_v rfl (by decide +kernel)) (SndL.n))))))))))))))
def kX7_write : Cd := [kX7_write_0, kX7_write_1]
theorem zX7_write : SndC mX7_write 0 kX7_write := SndC.c zX7_write_0 (by decide) (SndC.c zX7_write_1 (by decide) (SndC.n))
theorem aX7_write_0 : at_ kX7_write 0 = (0, oRload 0 1) := rfl
theorem aX7_write_1 : at_ kX7_write 1 = (0, oGetf 9 5 0 4) := rfl
theorem aX7_write_4 : at_ kX7_write 4 = (0, oPush (vI 60) 6) := rfl
theorem aX7_write_6 : at_ kX7_write 6 = (0, oIcGe 29 9) := rfl
theorem aX7_write_9 : at_ kX7_write 9 = (0, oRload 0 10) := rfl
theorem aX7_write_10 : at_ kX7_write 10 = (0, oGetf 9 4 2 13) := rfl
theorem aX7_write_13 : at_ kX7_write 13 = (0, oRload 0 14) := rfl
theorem aX7_write_14 : at_ kX7_write 14 = (0, oGetf 9 5 0 17) := rfl
theorem aX7_write_17 : at_ kX7_write 17 = (0, oIload 1 18) := rfl
theorem aX7_write_18 : at_ kX7_write 18 = (0, oIast 19) := rfl
theorem aX7_write_19 : at_ kX7_write 19 = (0, oRload 0 20) := rfl
theorem aX7_write_20 : at_ kX7_write 20 = (0, oDup 21) := rfl
theorem aX7_write_21 : at_ kX7_write 21 = (0, oGetf 9 5 0 24) := rfl
theorem aX7_write_24 : at_ kX7_write 24 = (0, oPush (vI 1) 25) := rfl
theorem aX7_write_25 : at_ kX7_write 25 = (0, oIadd 26) := rfl
theorem aX7_write_26 : at_ kX7_write 26 = (0, oPutf 9 5 0 29) := rfl
theorem aX7_write_29 : at_ kX7_write 29 = (0, oRetV) := rfl
def kX7_readExpr_0 : List En := [(0, oRload 0 1), (0, oIload 1 2), (2, oInvV 9 mX7_readAndPart 1 5), (1, oFail), (1, oFail), (0, oIfNe 10 8), (1, oFail), (1, oFail), (0, oPush (vI 0) 9), (0, oRetZ), (0, oPush (vI 0) 11), (0, oIstore 2 12), (1, oIload 2 13), (0, oPush (vI 60) 15), (1, oFail), (0, oIcGe 49 18)]
set_option maxRecDepth 20000 in
theorem zX7_readExpr_0 : SndL mX7_readExpr 0 kX7_readExpr_0 := SndL.c (s_aload_n (k := 0) (by decide +kernel) rfl) (SndL.c (s_iload_n (k := 1) (by decide +kernel) rfl) (SndL.c (s_invV (r := (RX7, TX7, 7)) (ci := 8) okX7_readAndPart rfl (by decide) rfl rfl w_3_222 w_3_224 v_17 (by decide +kernel)) (SndL.c (s_fail) (SndL.c (s_fail) (SndL.c (s_if_ne (off := 5) (by decide +kernel) (by decide)) (SndL.c (s_fail) (SndL.c (s_fail) (SndL.c (s_iconst (by decide +kernel) (in32_d (by decide))) (SndL.c (s_ret_z rfl (by decide +kernel)) (SndL.c (s_iconst (by decide +kernel) (in32_d (by decide))) (SndL.c (s_istore_n (k := 2) (by decide +kernel) rfl (by decide)) (SndL.c (s_iload_n (k := 2) (by decide +kernel) rfl) (SndL.c (s_bipush (by decide +kernel) (in32_d (by decide)) (by decide +kernel)) (SndL.c (s_fail) (SndL.c (s_ic_ge (off := 34) (by decide +kernel) (by decide)) (SndL.n))))))))))))))))
def kX7_readExpr_1 : List En := [(1, oFail), (1, oFail), (0, oRload 0 19), (0, oPush (vI 124) 21), (1, oFail), (2, oInvV 9 mX7_take 1 24), (1, oFail), (1, oFail), (0, oIfEq 49 27), (1, oFail), (1, oFail), (0, oRload 0 28), (0, oIload 1 29), (2, oInvV 9 mX7_readAndPart 1 32), (1, oFail), (1, oFail)]
set_option maxRecDepth 20000 in
theorem zX7_readExpr_1 : SndL mX7_readExpr 16 kX7_readExpr_1 := SndL.c (s_fail) (SndL.c (s_fail) (SndL.c (s_aload_n (k := 0) (by decide +kernel) rfl) (SndL.c (s_bipush (by decide +kernel) (in32_d (by decide)) (by decide +kernel)) (SndL.c (s_fail) (SndL.c (s_invV (r := (RX7, TX7, 7)) (ci := 8) okX7_take rfl (by decide) rfl rfl w_3_214 w_3_216 v_15 (by decide +kernel)) (SndL.c (s_fail) (SndL.c (s_fail) (SndL.c (s_if_eq (off := 25) (by decide +kernel) (by decide)) (SndL.c (s_fail) (SndL.c (s_fail) (SndL.c (s_aload_n (k := 0) (by decide +kernel) rfl) (SndL.c (s_iload_n (k := 1) (by decide +kernel) rfl) (SndL.c (s_invV (r := (RX7, TX7, 7)) (ci := 8) okX7_readAndPart rfl (by decide) rfl rfl w_3_222 w_3_224 v_17 (by decide +kernel)) (SndL.c (s_fail) (SndL.c (s_fail) (SndL.n))))))))))))))))
def kX7_readExpr_2 : List En := [(0, oIfNe 37 35), (1, oFail), (1, oFail), (0, oPush (vI 0) 36), (0, oRetZ), (0, oRload 0 38), (0, oPush (vI 124) 40), (1, oFail), (2, oInvV 9 mX7_write 1 43), (1, oFail), (1, oFail), (0, oIinc 2 1 46), (1, oFail), (1, oFail), (0, oGoto 12), (1, oFail)]
set_option maxRecDepth 20000 in
theorem zX7_readExpr_2 : SndL mX7_readExpr 32 kX7_readExpr_2 := SndL.c (s_if_ne (off := 5) (by decide +kernel) (by decide)) (SndL.c (s_fail) (SndL.c (s_fail) (SndL.c (s_iconst (by decide +kernel) (in32_d (by decide))) (SndL.c (s_ret_z rfl (by decide +kernel)) (SndL.c (s_aload_n (k := 0) (by decide +kernel) rfl) (SndL.c (s_bipush (by decide +kernel) (in32_d (by decide)) (by decide +kernel)) (SndL.c (s_fail) (SndL.c (s_invV (r := (RX7, TX7, 7)) (ci := 8) okX7_write rfl (by decide) rfl rfl w_3_230 w_3_232 v_19 (by decide +kernel)) (SndL.c (s_fail) (SndL.c (s_fail) (SndL.c (s_iinc (by decide +kernel) (by decide)) (SndL.c (s_fail) (SndL.c (s_fail) (SndL.c (s_goto (off := -34) (by decide +kernel) (by decide)) (SndL.c (s_fail) (SndL.n))))))))))))))))
def kX7_readExpr_3 : List En := [(1, oFail), (0, oPush (vI 1) 50), (0, oRetZ)]
set_option maxRecDepth 20000 in
theorem zX7_readExpr_3 : SndL mX7_readExpr 48 kX7_readExpr_3 := SndL.c (s_fail) (SndL.c (s_iconst (by decide +kernel) (in32_d (by decide))) (SndL.c (s_ret_z rfl (by decide +kernel)) (SndL.n)))
def kX7_readExpr : Cd := [kX7_readExpr_0, kX7_readExpr_1, kX7_readExpr_2, kX7_readExpr_3]
theorem zX7_readExpr : SndC mX7_readExpr 0 kX7_readExpr := SndC.c zX7_readExpr_0 (by decide) (SndC.c zX7_readExpr_1 (by decide) (SndC.c zX7_readExpr_2 (by decide) (SndC.c zX7_readExpr_3 (by decide) (SndC.n))))
theorem aX7_readExpr_0 : at_ kX7_readExpr 0 = (0, oRload 0 1) := rfl
theorem aX7_readExpr_1 : at_ kX7_readExpr 1 = (0, oIload 1 2) := rfl
theorem aX7_readExpr_2 : at_ kX7_readExpr 2 = (2, oInvV 9 mX7_readAndPart 1 5) := rfl
theorem aX7_readExpr_5 : at_ kX7_readExpr 5 = (0, oIfNe 10 8) := rfl
theorem aX7_readExpr_8 : at_ kX7_readExpr 8 = (0, oPush (vI 0) 9) := rfl
theorem aX7_readExpr_9 : at_ kX7_readExpr 9 = (0, oRetZ) := rfl
theorem aX7_readExpr_10 : at_ kX7_readExpr 10 = (0, oPush (vI 0) 11) := rfl
theorem aX7_readExpr_11 : at_ kX7_readExpr 11 = (0, oIstore 2 12) := rfl
theorem aX7_readExpr_12 : at_ kX7_readExpr 12 = (1, oIload 2 13) := rfl
theorem aX7_readExpr_13 : at_ kX7_readExpr 13 = (0, oPush (vI 60) 15) := rfl
theorem aX7_readExpr_15 : at_ kX7_readExpr 15 = (0, oIcGe 49 18) := rfl
theorem aX7_readExpr_18 : at_ kX7_readExpr 18 = (0, oRload 0 19) := rfl
theorem aX7_readExpr_19 : at_ kX7_readExpr 19 = (0, oPush (vI 124) 21) := rfl
theorem aX7_readExpr_21 : at_ kX7_readExpr 21 = (2, oInvV 9 mX7_take 1 24) := rfl
theorem aX7_readExpr_24 : at_ kX7_readExpr 24 = (0, oIfEq 49 27) := rfl
theorem aX7_readExpr_27 : at_ kX7_readExpr 27 = (0, oRload 0 28) := rfl
theorem aX7_readExpr_28 : at_ kX7_readExpr 28 = (0, oIload 1 29) := rfl
theorem aX7_readExpr_29 : at_ kX7_readExpr 29 = (2, oInvV 9 mX7_readAndPart 1 32) := rfl
theorem aX7_readExpr_32 : at_ kX7_readExpr 32 = (0, oIfNe 37 35) := rfl
theorem aX7_readExpr_35 : at_ kX7_readExpr 35 = (0, oPush (vI 0) 36) := rfl
theorem aX7_readExpr_36 : at_ kX7_readExpr 36 = (0, oRetZ) := rfl
theorem aX7_readExpr_37 : at_ kX7_readExpr 37 = (0, oRload 0 38) := rfl
theorem aX7_readExpr_38 : at_ kX7_readExpr 38 = (0, oPush (vI 124) 40) := rfl
theorem aX7_readExpr_40 : at_ kX7_readExpr 40 = (2, oInvV 9 mX7_write 1 43) := rfl
theorem aX7_readExpr_43 : at_ kX7_readExpr 43 = (0, oIinc 2 1 46) := rfl
theorem aX7_readExpr_46 : at_ kX7_readExpr 46 = (0, oGoto 12) := rfl
theorem aX7_readExpr_49 : at_ kX7_readExpr 49 = (0, oPush (vI 1) 50) := rfl
theorem aX7_readExpr_50 : at_ kX7_readExpr 50 = (0, oRetZ) := rfl
def kX7_readAndPart_0 : List En := [(0, oRload 0 1), (0, oIload 1 2), (2, oInvV 9 mX7_readPart 1 5), (1, oFail), (1, oFail), (0, oIfNe 10 8), (1, oFail), (1, oFail), (0, oPush (vI 0) 9), (0, oRetZ), (0, oPush (vI 0) 11), (0, oIstore 2 12), (1, oIload 2 13), (0, oPush (vI 60) 15), (1, oFail), (0, oIcGe 49 18)]
set_option maxRecDepth 20000 in
theorem zX7_readAndPart_0 : SndL mX7_readAndPart 0 kX7_readAndPart_0 := SndL.c (s_aload_n (k := 0) (by decide +kernel) rfl) (SndL.c (s_iload_n (k := 1) (by decide +kernel) rfl) (SndL.c (s_invV (r := (RX7, TX7, 7)) (ci := 8) okX7_readPart rfl (by decide) rfl rfl w_3_226 w_3_228 v_18 (by decide +kernel)) (SndL.c (s_fail) (SndL.c (s_fail) (SndL.c (s_if_ne (off := 5) (by decide +kernel) (by decide)) (SndL.c (s_fail) (SndL.c (s_fail) (SndL.c (s_iconst (by decide +kernel) (in32_d (by decide))) (SndL.c (s_ret_z rfl (by decide +kernel)) (SndL.c (s_iconst (by decide +kernel) (in32_d (by decide))) (SndL.c (s_istore_n (k := 2) (by decide +kernel) rfl (by decide)) (SndL.c (s_iload_n (k := 2) (by decide +kernel) rfl) (SndL.c (s_bipush (by decide +kernel) (in32_d (by decide)) (by decide +kernel)) (SndL.c (s_fail) (SndL.c (s_ic_ge (off := 34) (by decide +kernel) (by decide)) (SndL.n))))))))))))))))
def kX7_readAndPart_1 : List En := [(1, oFail), (1, oFail), (0, oRload 0 19), (0, oPush (vI 38) 21), (1, oFail), (2, oInvV 9 mX7_take 1 24), (1, oFail), (1, oFail), (0, oIfEq 49 27), (1, oFail), (1, oFail), (0, oRload 0 28), (0, oIload 1 29), (2, oInvV 9 mX7_readPart 1 32), (1, oFail), (1, oFail)]
set_option maxRecDepth 20000 in
theorem zX7_readAndPart_1 : SndL mX7_readAndPart 16 kX7_readAndPart_1 := SndL.c (s_fail) (SndL.c (s_fail) (SndL.c (s_aload_n (k := 0) (by decide +kernel) rfl) (SndL.c (s_bipush (by decide +kernel) (in32_d (by decide)) (by decide +kernel)) (SndL.c (s_fail) (SndL.c (s_invV (r := (RX7, TX7, 7)) (ci := 8) okX7_take rfl (by decide) rfl rfl w_3_214 w_3_216 v_15 (by decide +kernel)) (SndL.c (s_fail) (SndL.c (s_fail) (SndL.c (s_if_eq (off := 25) (by decide +kernel) (by decide)) (SndL.c (s_fail) (SndL.c (s_fail) (SndL.c (s_aload_n (k := 0) (by decide +kernel) rfl) (SndL.c (s_iload_n (k := 1) (by decide +kernel) rfl) (SndL.c (s_invV (r := (RX7, TX7, 7)) (ci := 8) okX7_readPart rfl (by decide) rfl rfl w_3_226 w_3_228 v_18 (by decide +kernel)) (SndL.c (s_fail) (SndL.c (s_fail) (SndL.n))))))))))))))))
def kX7_readAndPart_2 : List En := [(0, oIfNe 37 35), (1, oFail), (1, oFail), (0, oPush (vI 0) 36), (0, oRetZ), (0, oRload 0 38), (0, oPush (vI 38) 40), (1, oFail), (2, oInvV 9 mX7_write 1 43), (1, oFail), (1, oFail), (0, oIinc 2 1 46), (1, oFail), (1, oFail), (0, oGoto 12), (1, oFail)]
set_option maxRecDepth 20000 in
theorem zX7_readAndPart_2 : SndL mX7_readAndPart 32 kX7_readAndPart_2 := SndL.c (s_if_ne (off := 5) (by decide +kernel) (by decide)) (SndL.c (s_fail) (SndL.c (s_fail) (SndL.c (s_iconst (by decide +kernel) (in32_d (by decide))) (SndL.c (s_ret_z rfl (by decide +kernel)) (SndL.c (s_aload_n (k := 0) (by decide +kernel) rfl) (SndL.c (s_bipush (by decide +kernel) (in32_d (by decide)) (by decide +kernel)) (SndL.c (s_fail) (SndL.c (s_invV (r := (RX7, TX7, 7)) (ci := 8) okX7_write rfl (by decide) rfl rfl w_3_230 w_3_232 v_19 (by decide +kernel)) (SndL.c (s_fail) (SndL.c (s_fail) (SndL.c (s_iinc (by decide +kernel) (by decide)) (SndL.c (s_fail) (SndL.c (s_fail) (SndL.c (s_goto (off := -34) (by decide +kernel) (by decide)) (SndL.c (s_fail) (SndL.n))))))))))))))))
def kX7_readAndPart_3 : List En := [(1, oFail), (0, oPush (vI 1) 50), (0, oRetZ)]
set_option maxRecDepth 20000 in
theorem zX7_readAndPart_3 : SndL mX7_readAndPart 48 kX7_readAndPart_3 := SndL.c (s_fail) (SndL.c (s_iconst (by decide +kernel) (in32_d (by decide))) (SndL.c (s_ret_z rfl (by decide +kernel)) (SndL.n)))
def kX7_readAndPart : Cd := [kX7_readAndPart_0, kX7_readAndPart_1, kX7_readAndPart_2, kX7_readAndPart_3]
theorem zX7_readAndPart : SndC mX7_readAndPart 0 kX7_readAndPart := SndC.c zX7_readAndPart_0 (by decide) (SndC.c zX7_readAndPart_1 (by decide) (SndC.c zX7_readAndPart_2 (by decide) (SndC.c zX7_readAndPart_3 (by decide) (SndC.n))))
theorem aX7_readAndPart_0 : at_ kX7_readAndPart 0 = (0, oRload 0 1) := rfl
theorem aX7_readAndPart_1 : at_ kX7_readAndPart 1 = (0, oIload 1 2) := rfl
theorem aX7_readAndPart_2 : at_ kX7_readAndPart 2 = (2, oInvV 9 mX7_readPart 1 5) := rfl
theorem aX7_readAndPart_5 : at_ kX7_readAndPart 5 = (0, oIfNe 10 8) := rfl
theorem aX7_readAndPart_8 : at_ kX7_readAndPart 8 = (0, oPush (vI 0) 9) := rfl
theorem aX7_readAndPart_9 : at_ kX7_readAndPart 9 = (0, oRetZ) := rfl
theorem aX7_readAndPart_10 : at_ kX7_readAndPart 10 = (0, oPush (vI 0) 11) := rfl
theorem aX7_readAndPart_11 : at_ kX7_readAndPart 11 = (0, oIstore 2 12) := rfl
theorem aX7_readAndPart_12 : at_ kX7_readAndPart 12 = (1, oIload 2 13) := rfl
theorem aX7_readAndPart_13 : at_ kX7_readAndPart 13 = (0, oPush (vI 60) 15) := rfl
theorem aX7_readAndPart_15 : at_ kX7_readAndPart 15 = (0, oIcGe 49 18) := rfl
theorem aX7_readAndPart_18 : at_ kX7_readAndPart 18 = (0, oRload 0 19) := rfl
theorem aX7_readAndPart_19 : at_ kX7_readAndPart 19 = (0, oPush (vI 38) 21) := rfl
theorem aX7_readAndPart_21 : at_ kX7_readAndPart 21 = (2, oInvV 9 mX7_take 1 24) := rfl
theorem aX7_readAndPart_24 : at_ kX7_readAndPart 24 = (0, oIfEq 49 27) := rfl
theorem aX7_readAndPart_27 : at_ kX7_readAndPart 27 = (0, oRload 0 28) := rfl
theorem aX7_readAndPart_28 : at_ kX7_readAndPart 28 = (0, oIload 1 29) := rfl
theorem aX7_readAndPart_29 : at_ kX7_readAndPart 29 = (2, oInvV 9 mX7_readPart 1 32) := rfl
theorem aX7_readAndPart_32 : at_ kX7_readAndPart 32 = (0, oIfNe 37 35) := rfl
theorem aX7_readAndPart_35 : at_ kX7_readAndPart 35 = (0, oPush (vI 0) 36) := rfl
theorem aX7_readAndPart_36 : at_ kX7_readAndPart 36 = (0, oRetZ) := rfl
theorem aX7_readAndPart_37 : at_ kX7_readAndPart 37 = (0, oRload 0 38) := rfl
theorem aX7_readAndPart_38 : at_ kX7_readAndPart 38 = (0, oPush (vI 38) 40) := rfl
theorem aX7_readAndPart_40 : at_ kX7_readAndPart 40 = (2, oInvV 9 mX7_write 1 43) := rfl
theorem aX7_readAndPart_43 : at_ kX7_readAndPart 43 = (0, oIinc 2 1 46) := rfl
theorem aX7_readAndPart_46 : at_ kX7_readAndPart 46 = (0, oGoto 12) := rfl
theorem aX7_readAndPart_49 : at_ kX7_readAndPart 49 = (0, oPush (vI 1) 50) := rfl
theorem aX7_readAndPart_50 : at_ kX7_readAndPart 50 = (0, oRetZ) := rfl
def kX7_readPart_0 : List En := [(0, oIload 1 1), (0, oPush (vI 20) 3), (1, oFail), (0, oIcGe 10 6), (1, oFail), (1, oFail), (0, oPush (vI 1) 7), (0, oGoto 11), (1, oFail), (1, oFail), (0, oPush (vI 0) 11), (0, oIstore 2 12), (0, oIload 2 13), (0, oIfEq 45 16), (1, oFail), (1, oFail)]
set_option maxRecDepth 20000 in
theorem zX7_readPart_0 : SndL mX7_readPart 0 kX7_readPart_0 := SndL.c (s_iload_n (k := 1) (by decide +kernel) rfl) (SndL.c (s_bipush (by decide +kernel) (in32_d (by decide)) (by decide +kernel)) (SndL.c (s_fail) (SndL.c (s_ic_ge (off := 7) (by decide +kernel) (by decide)) (SndL.c (s_fail) (SndL.c (s_fail) (SndL.c (s_iconst (by decide +kernel) (in32_d (by decide))) (SndL.c (s_goto (off := 4) (by decide +kernel) (by decide)) (SndL.c (s_fail) (SndL.c (s_fail) (SndL.c (s_iconst (by decide +kernel) (in32_d (by decide))) (SndL.c (s_istore_n (k := 2) (by decide +kernel) rfl (by decide)) (SndL.c (s_iload_n (k := 2) (by decide +kernel) rfl) (SndL.c (s_if_eq (off := 32) (by decide +kernel) (by decide)) (SndL.c (s_fail) (SndL.c (s_fail) (SndL.n))))))))))))))))
def kX7_readPart_1 : List En := [(0, oRload 0 17), (0, oPush (vI 33) 19), (1, oFail), (2, oInvV 9 mX7_take 1 22), (1, oFail), (1, oFail), (0, oIfEq 45 25), (1, oFail), (1, oFail), (0, oRload 0 26), (0, oIload 1 27), (0, oPush (vI 1) 28), (0, oIadd 29), (2, oInvV 9 mX7_readPart 1 32), (1, oFail), (1, oFail)]
set_option maxRecDepth 20000 in
theorem zX7_readPart_1 : SndL mX7_readPart 16 kX7_readPart_1 := SndL.c (s_aload_n (k := 0) (by decide +kernel) rfl) (SndL.c (s_bipush (by decide +kernel) (in32_d (by decide)) (by decide +kernel)) (SndL.c (s_fail) (SndL.c (s_invV (r := (RX7, TX7, 7)) (ci := 8) okX7_take rfl (by decide) rfl rfl w_3_214 w_3_216 v_15 (by decide +kernel)) (SndL.c (s_fail) (SndL.c (s_fail) (SndL.c (s_if_eq (off := 23) (by decide +kernel) (by decide)) (SndL.c (s_fail) (SndL.c (s_fail) (SndL.c (s_aload_n (k := 0) (by decide +kernel) rfl) (SndL.c (s_iload_n (k := 1) (by decide +kernel) rfl) (SndL.c (s_iconst (by decide +kernel) (in32_d (by decide))) (SndL.c (s_iadd (by decide +kernel)) (SndL.c (s_invV (r := (RX7, TX7, 7)) (ci := 8) okX7_readPart rfl (by decide) rfl rfl w_3_226 w_3_228 v_18 (by decide +kernel)) (SndL.c (s_fail) (SndL.c (s_fail) (SndL.n))))))))))))))))
def kX7_readPart_2 : List En := [(0, oIfNe 37 35), (1, oFail), (1, oFail), (0, oPush (vI 0) 36), (0, oRetZ), (0, oRload 0 38), (0, oPush (vI 33) 40), (1, oFail), (2, oInvV 9 mX7_write 1 43), (1, oFail), (1, oFail), (0, oPush (vI 1) 44), (0, oRetZ), (0, oIload 2 46), (0, oIfEq 83 49), (1, oFail)]
set_option maxRecDepth 20000 in
theorem zX7_readPart_2 : SndL mX7_readPart 32 kX7_readPart_2 := SndL.c (s_if_ne (off := 5) (by decide +kernel) (by decide)) (SndL.c (s_fail) (SndL.c (s_fail) (SndL.c (s_iconst (by decide +kernel) (in32_d (by decide))) (SndL.c (s_ret_z rfl (by decide +kernel)) (SndL.c (s_aload_n (k := 0) (by decide +kernel) rfl) (SndL.c (s_bipush (by decide +kernel) (in32_d (by decide)) (by decide +kernel)) (SndL.c (s_fail) (SndL.c (s_invV (r := (RX7, TX7, 7)) (ci := 8) okX7_write rfl (by decide) rfl rfl w_3_230 w_3_232 v_19 (by decide +kernel)) (SndL.c (s_fail) (SndL.c (s_fail) (SndL.c (s_iconst (by decide +kernel) (in32_d (by decide))) (SndL.c (s_ret_z rfl (by decide +kernel)) (SndL.c (s_iload_n (k := 2) (by decide +kernel) rfl) (SndL.c (s_if_eq (off := 37) (by decide +kernel) (by decide)) (SndL.c (s_fail) (SndL.n))))))))))))))))
def kX7_readPart_3 : List En := [(1, oFail), (0, oRload 0 50), (0, oPush (vI 40) 52), (1, oFail), (2, oInvV 9 mX7_take 1 55), (1, oFail), (1, oFail), (0, oIfEq 83 58), (1, oFail), (1, oFail), (0, oRload 0 59), (0, oIload 1 60), (0, oPush (vI 1) 61), (0, oIadd 62), (2, oInvV 9 mX7_readExpr 1 65), (1, oFail)]
set_option maxRecDepth 20000 in
theorem zX7_readPart_3 : SndL mX7_readPart 48 kX7_readPart_3 := SndL.c (s_fail) (SndL.c (s_aload_n (k := 0) (by decide +kernel) rfl) (SndL.c (s_bipush (by decide +kernel) (in32_d (by decide)) (by decide +kernel)) (SndL.c (s_fail) (SndL.c (s_invV (r := (RX7, TX7, 7)) (ci := 8) okX7_take rfl (by decide) rfl rfl w_3_214 w_3_216 v_15 (by decide +kernel)) (SndL.c (s_fail) (SndL.c (s_fail) (SndL.c (s_if_eq (off := 28) (by decide +kernel) (by decide)) (SndL.c (s_fail) (SndL.c (s_fail) (SndL.c (s_aload_n (k := 0) (by decide +kernel) rfl) (SndL.c (s_iload_n (k := 1) (by decide +kernel) rfl) (SndL.c (s_iconst (by decide +kernel) (in32_d (by decide))) (SndL.c (s_iadd (by decide +kernel)) (SndL.c (s_invV (r := (RX7, TX7, 7)) (ci := 8) okX7_readExpr rfl (by decide) rfl rfl w_3_218 w_3_220 v_16 (by decide +kernel)) (SndL.c (s_fail) (SndL.n))))))))))))))))
def kX7_readPart_4 : List En := [(1, oFail), (0, oIfEq 81 68), (1, oFail), (1, oFail), (0, oRload 0 69), (0, oPush (vI 41) 71), (1, oFail), (2, oInvV 9 mX7_take 1 74), (1, oFail), (1, oFail), (0, oIfEq 81 77), (1, oFail), (1, oFail), (0, oPush (vI 1) 78), (0, oGoto 82), (1, oFail)]
set_option maxRecDepth 20000 in
theorem zX7_readPart_4 : SndL mX7_readPart 64 kX7_readPart_4 := SndL.c (s_fail) (SndL.c (s_if_eq (off := 16) (by decide +kernel) (by decide)) (SndL.c (s_fail) (SndL.c (s_fail) (SndL.c (s_aload_n (k := 0) (by decide +kernel) rfl) (SndL.c (s_bipush (by decide +kernel) (in32_d (by decide)) (by decide +kernel)) (SndL.c (s_fail) (SndL.c (s_invV (r := (RX7, TX7, 7)) (ci := 8) okX7_take rfl (by decide) rfl rfl w_3_214 w_3_216 v_15 (by decide +kernel)) (SndL.c (s_fail) (SndL.c (s_fail) (SndL.c (s_if_eq (off := 7) (by decide +kernel) (by decide)) (SndL.c (s_fail) (SndL.c (s_fail) (SndL.c (s_iconst (by decide +kernel) (in32_d (by decide))) (SndL.c (s_goto (off := 4) (by decide +kernel) (by decide)) (SndL.c (s_fail) (SndL.n))))))))))))))))
def kX7_readPart_5 : List En := [(1, oFail), (0, oPush (vI 0) 82), (0, oRetZ), (0, oRload 0 84), (2, oInvV 9 mX7_readTest 0 87), (1, oFail), (1, oFail), (0, oRetZ)]
set_option maxRecDepth 20000 in
theorem zX7_readPart_5 : SndL mX7_readPart 80 kX7_readPart_5 := SndL.c (s_fail) (SndL.c (s_iconst (by decide +kernel) (in32_d (by decide))) (SndL.c (s_ret_z rfl (by decide +kernel)) (SndL.c (s_aload_n (k := 0) (by decide +kernel) rfl) (SndL.c (s_invV (r := (RX7, TX7, 7)) (ci := 8) okX7_readTest rfl (by decide) rfl rfl w_3_234 w_3_236 v_20 (by decide +kernel)) (SndL.c (s_fail) (SndL.c (s_fail) (SndL.c (s_ret_z rfl (by decide +kernel)) (SndL.n))))))))
def kX7_readPart : Cd := [kX7_readPart_0, kX7_readPart_1, kX7_readPart_2, kX7_readPart_3, kX7_readPart_4, kX7_readPart_5]
theorem zX7_readPart : SndC mX7_readPart 0 kX7_readPart := SndC.c zX7_readPart_0 (by decide) (SndC.c zX7_readPart_1 (by decide) (SndC.c zX7_readPart_2 (by decide) (SndC.c zX7_readPart_3 (by decide) (SndC.c zX7_readPart_4 (by decide) (SndC.c zX7_readPart_5 (by decide) (SndC.n))))))
theorem aX7_readPart_0 : at_ kX7_readPart 0 = (0, oIload 1 1) := rfl
theorem aX7_readPart_1 : at_ kX7_readPart 1 = (0, oPush (vI 20) 3) := rfl
theorem aX7_readPart_3 : at_ kX7_readPart 3 = (0, oIcGe 10 6) := rfl
theorem aX7_readPart_6 : at_ kX7_readPart 6 = (0, oPush (vI 1) 7) := rfl
theorem aX7_readPart_7 : at_ kX7_readPart 7 = (0, oGoto 11) := rfl
theorem aX7_readPart_10 : at_ kX7_readPart 10 = (0, oPush (vI 0) 11) := rfl
theorem aX7_readPart_11 : at_ kX7_readPart 11 = (0, oIstore 2 12) := rfl
theorem aX7_readPart_12 : at_ kX7_readPart 12 = (0, oIload 2 13) := rfl
theorem aX7_readPart_13 : at_ kX7_readPart 13 = (0, oIfEq 45 16) := rfl
theorem aX7_readPart_16 : at_ kX7_readPart 16 = (0, oRload 0 17) := rfl
theorem aX7_readPart_17 : at_ kX7_readPart 17 = (0, oPush (vI 33) 19) := rfl
theorem aX7_readPart_19 : at_ kX7_readPart 19 = (2, oInvV 9 mX7_take 1 22) := rfl
theorem aX7_readPart_22 : at_ kX7_readPart 22 = (0, oIfEq 45 25) := rfl
theorem aX7_readPart_25 : at_ kX7_readPart 25 = (0, oRload 0 26) := rfl
theorem aX7_readPart_26 : at_ kX7_readPart 26 = (0, oIload 1 27) := rfl
theorem aX7_readPart_27 : at_ kX7_readPart 27 = (0, oPush (vI 1) 28) := rfl
theorem aX7_readPart_28 : at_ kX7_readPart 28 = (0, oIadd 29) := rfl
theorem aX7_readPart_29 : at_ kX7_readPart 29 = (2, oInvV 9 mX7_readPart 1 32) := rfl
theorem aX7_readPart_32 : at_ kX7_readPart 32 = (0, oIfNe 37 35) := rfl
theorem aX7_readPart_35 : at_ kX7_readPart 35 = (0, oPush (vI 0) 36) := rfl
theorem aX7_readPart_36 : at_ kX7_readPart 36 = (0, oRetZ) := rfl
theorem aX7_readPart_37 : at_ kX7_readPart 37 = (0, oRload 0 38) := rfl
theorem aX7_readPart_38 : at_ kX7_readPart 38 = (0, oPush (vI 33) 40) := rfl
theorem aX7_readPart_40 : at_ kX7_readPart 40 = (2, oInvV 9 mX7_write 1 43) := rfl
theorem aX7_readPart_43 : at_ kX7_readPart 43 = (0, oPush (vI 1) 44) := rfl
theorem aX7_readPart_44 : at_ kX7_readPart 44 = (0, oRetZ) := rfl
theorem aX7_readPart_45 : at_ kX7_readPart 45 = (0, oIload 2 46) := rfl
theorem aX7_readPart_46 : at_ kX7_readPart 46 = (0, oIfEq 83 49) := rfl
theorem aX7_readPart_49 : at_ kX7_readPart 49 = (0, oRload 0 50) := rfl
theorem aX7_readPart_50 : at_ kX7_readPart 50 = (0, oPush (vI 40) 52) := rfl
theorem aX7_readPart_52 : at_ kX7_readPart 52 = (2, oInvV 9 mX7_take 1 55) := rfl
theorem aX7_readPart_55 : at_ kX7_readPart 55 = (0, oIfEq 83 58) := rfl
theorem aX7_readPart_58 : at_ kX7_readPart 58 = (0, oRload 0 59) := rfl
theorem aX7_readPart_59 : at_ kX7_readPart 59 = (0, oIload 1 60) := rfl
theorem aX7_readPart_60 : at_ kX7_readPart 60 = (0, oPush (vI 1) 61) := rfl
theorem aX7_readPart_61 : at_ kX7_readPart 61 = (0, oIadd 62) := rfl
theorem aX7_readPart_62 : at_ kX7_readPart 62 = (2, oInvV 9 mX7_readExpr 1 65) := rfl
theorem aX7_readPart_65 : at_ kX7_readPart 65 = (0, oIfEq 81 68) := rfl
theorem aX7_readPart_68 : at_ kX7_readPart 68 = (0, oRload 0 69) := rfl
theorem aX7_readPart_69 : at_ kX7_readPart 69 = (0, oPush (vI 41) 71) := rfl
theorem aX7_readPart_71 : at_ kX7_readPart 71 = (2, oInvV 9 mX7_take 1 74) := rfl
theorem aX7_readPart_74 : at_ kX7_readPart 74 = (0, oIfEq 81 77) := rfl
theorem aX7_readPart_77 : at_ kX7_readPart 77 = (0, oPush (vI 1) 78) := rfl
theorem aX7_readPart_78 : at_ kX7_readPart 78 = (0, oGoto 82) := rfl
theorem aX7_readPart_81 : at_ kX7_readPart 81 = (0, oPush (vI 0) 82) := rfl
theorem aX7_readPart_82 : at_ kX7_readPart 82 = (0, oRetZ) := rfl
theorem aX7_readPart_83 : at_ kX7_readPart 83 = (0, oRload 0 84) := rfl
theorem aX7_readPart_84 : at_ kX7_readPart 84 = (2, oInvV 9 mX7_readTest 0 87) := rfl
theorem aX7_readPart_87 : at_ kX7_readPart 87 = (0, oRetZ) := rfl
def kX7_readTest_0 : List En := [(0, oRload 0 1), (2, oInvV 9 mX7_readSide 0 4), (1, oFail), (1, oFail), (0, oIfNe 9 7), (1, oFail), (1, oFail), (0, oPush (vI 0) 8), (0, oRetZ), (0, oRload 0 10), (0, oGetf 9 6 0 13), (1, oFail), (1, oFail), (0, oIstore 1 14), (0, oRload 0 15), (0, oGetf 9 3 0 18)]
set_option maxRecDepth 20000 in
theorem zX7_readTest_0 : SndL mX7_readTest 0 kX7_readTest_0 := SndL.c (s_aload_n (k := 0) (by decide +kernel) rfl) (SndL.c (s_invV (r := (RX7, TX7, 7)) (ci := 8) okX7_readSide rfl (by decide) rfl rfl w_3_238 w_4_0 v_21 (by decide +kernel)) (SndL.c (s_fail) (SndL.c (s_fail) (SndL.c (s_if_ne (off := 5) (by decide +kernel) (by decide)) (SndL.c (s_fail) (SndL.c (s_fail) (SndL.c (s_iconst (by decide +kernel) (in32_d (by decide))) (SndL.c (s_ret_z rfl (by decide +kernel)) (SndL.c (s_aload_n (k := 0) (by decide +kernel) rfl) (SndL.c (s_getf (k := 6) clok8 (by decide) rfl (by decide) rfl w_1_117 (Or.inl rfl) (by decide +kernel)) (SndL.c (s_fail) (SndL.c (s_fail) (SndL.c (s_istore_n (k := 1) (by decide +kernel) rfl (by decide)) (SndL.c (s_aload_n (k := 0) (by decide +kernel) rfl) (SndL.c (s_getf (k := 3) clok8 (by decide) rfl (by decide) rfl w_1_114 (Or.inl rfl) (by decide +kernel)) (SndL.n))))))))))))))))
def kX7_readTest_1 : List En := [(1, oFail), (1, oFail), (0, oIstore 2 19), (0, oRload 0 20), (0, oPush (vI 60) 22), (1, oFail), (2, oInvV 9 mX7_take 1 25), (1, oFail), (1, oFail), (0, oIfNe 48 28), (1, oFail), (1, oFail), (0, oRload 0 29), (0, oPush (vI 62) 31), (1, oFail), (2, oInvV 9 mX7_take 1 34)]
set_option maxRecDepth 20000 in
theorem zX7_readTest_1 : SndL mX7_readTest 16 kX7_readTest_1 := SndL.c (s_fail) (SndL.c (s_fail) (SndL.c (s_istore_n (k := 2) (by decide +kernel) rfl (by decide)) (SndL.c (s_aload_n (k := 0) (by decide +kernel) rfl) (SndL.c (s_bipush (by decide +kernel) (in32_d (by decide)) (by decide +kernel)) (SndL.c (s_fail) (SndL.c (s_invV (r := (RX7, TX7, 7)) (ci := 8) okX7_take rfl (by decide) rfl rfl w_3_214 w_3_216 v_15 (by decide +kernel)) (SndL.c (s_fail) (SndL.c (s_fail) (SndL.c (s_if_ne (off := 23) (by decide +kernel) (by decide)) (SndL.c (s_fail) (SndL.c (s_fail) (SndL.c (s_aload_n (k := 0) (by decide +kernel) rfl) (SndL.c (s_bipush (by decide +kernel) (in32_d (by decide)) (by decide +kernel)) (SndL.c (s_fail) (SndL.c (s_invV (r := (RX7, TX7, 7)) (ci := 8) okX7_take rfl (by decide) rfl rfl w_3_214 w_3_216 v_15 (by decide +kernel)) (SndL.n))))))))))))))))
def kX7_readTest_2 : List En := [(1, oFail), (1, oFail), (0, oIfNe 48 37), (1, oFail), (1, oFail), (0, oRload 0 38), (0, oPush (vI 61) 40), (1, oFail), (2, oInvV 9 mX7_take 1 43), (1, oFail), (1, oFail), (0, oIfNe 48 46), (1, oFail), (1, oFail), (0, oPush (vI 0) 47), (0, oRetZ)]
set_option maxRecDepth 20000 in
theorem zX7_readTest_2 : SndL mX7_readTest 32 kX7_readTest_2 := SndL.c (s_fail) (SndL.c (s_fail) (SndL.c (s_if_ne (off := 14) (by decide +kernel) (by decide)) (SndL.c (s_fail) (SndL.c (s_fail) (SndL.c (s_aload_n (k := 0) (by decide +kernel) rfl) (SndL.c (s_bipush (by decide +kernel) (in32_d (by decide)) (by decide +kernel)) (SndL.c (s_fail) (SndL.c (s_invV (r := (RX7, TX7, 7)) (ci := 8) okX7_take rfl (by decide) rfl rfl w_3_214 w_3_216 v_15 (by decide +kernel)) (SndL.c (s_fail) (SndL.c (s_fail) (SndL.c (s_if_ne (off := 5) (by decide +kernel) (by decide)) (SndL.c (s_fail) (SndL.c (s_fail) (SndL.c (s_iconst (by decide +kernel) (in32_d (by decide))) (SndL.c (s_ret_z rfl (by decide +kernel)) (SndL.n))))))))))))))))
def kX7_readTest_3 : List En := [(0, oRload 0 49), (2, oInvV 9 mX7_readSide 0 52), (1, oFail), (1, oFail), (0, oIfNe 57 55), (1, oFail), (1, oFail), (0, oPush (vI 0) 56), (0, oRetZ), (0, oRload 0 58), (0, oIload 2 59), (2, oInvV 9 mX7_write 1 62), (1, oFail), (1, oFail), (0, oRload 0 63), (0, oIload 1 64)]
set_option maxRecDepth 20000 in
theorem zX7_readTest_3 : SndL mX7_readTest 48 kX7_readTest_3 := SndL.c (s_aload_n (k := 0) (by decide +kernel) rfl) (SndL.c (s_invV (r := (RX7, TX7, 7)) (ci := 8) okX7_readSide rfl (by decide) rfl rfl w_3_238 w_4_0 v_21 (by decide +kernel)) (SndL.c (s_fail) (SndL.c (s_fail) (SndL.c (s_if_ne (off := 5) (by decide +kernel) (by decide)) (SndL.c (s_fail) (SndL.c (s_fail) (SndL.c (s_iconst (by decide +kernel) (in32_d (by decide))) (SndL.c (s_ret_z rfl (by decide +kernel)) (SndL.c (s_aload_n (k := 0) (by decide +kernel) rfl) (SndL.c (s_iload_n (k := 2) (by decide +kernel) rfl) (SndL.c (s_invV (r := (RX7, TX7, 7)) (ci := 8) okX7_write rfl (by decide) rfl rfl w_3_230 w_3_232 v_19 (by decide +kernel)) (SndL.c (s_fail) (SndL.c (s_fail) (SndL.c (s_aload_n (k := 0) (by decide +kernel) rfl) (SndL.c (s_iload_n (k := 1) (by decide +kernel) rfl) (SndL.n))))))))))))))))
def kX7_readTest_4 : List En := [(2, oInvV 9 mX7_write 1 67), (1, oFail), (1, oFail), (0, oRload 0 68), (0, oRload 0 69), (0, oGetf 9 6 0 72), (1, oFail), (1, oFail), (2, oInvV 9 mX7_write 1 75), (1, oFail), (1, oFail), (0, oPush (vI 1) 76), (0, oRetZ)]
set_option maxRecDepth 20000 in
theorem zX7_readTest_4 : SndL mX7_readTest 64 kX7_readTest_4 := SndL.c (s_invV (r := (RX7, TX7, 7)) (ci := 8) okX7_write rfl (by decide) rfl rfl w_3_230 w_3_232 v_19 (by decide +kernel)) (SndL.c (s_fail) (SndL.c (s_fail) (SndL.c (s_aload_n (k := 0) (by decide +kernel) rfl) (SndL.c (s_aload_n (k := 0) (by decide +kernel) rfl) (SndL.c (s_getf (k := 6) clok8 (by decide) rfl (by decide) rfl w_1_117 (Or.inl rfl) (by decide +kernel)) (SndL.c (s_fail) (SndL.c (s_fail) (SndL.c (s_invV (r := (RX7, TX7, 7)) (ci := 8) okX7_write rfl (by decide) rfl rfl w_3_230 w_3_232 v_19 (by decide +kernel)) (SndL.c (s_fail) (SndL.c (s_fail) (SndL.c (s_iconst (by decide +kernel) (in32_d (by decide))) (SndL.c (s_ret_z rfl (by decide +kernel)) (SndL.n)))))))))))))
def kX7_readTest : Cd := [kX7_readTest_0, kX7_readTest_1, kX7_readTest_2, kX7_readTest_3, kX7_readTest_4]
theorem zX7_readTest : SndC mX7_readTest 0 kX7_readTest := SndC.c zX7_readTest_0 (by decide) (SndC.c zX7_readTest_1 (by decide) (SndC.c zX7_readTest_2 (by decide) (SndC.c zX7_readTest_3 (by decide) (SndC.c zX7_readTest_4 (by decide) (SndC.n)))))
theorem aX7_readTest_0 : at_ kX7_readTest 0 = (0, oRload 0 1) := rfl
theorem aX7_readTest_1 : at_ kX7_readTest 1 = (2, oInvV 9 mX7_readSide 0 4) := rfl
theorem aX7_readTest_4 : at_ kX7_readTest 4 = (0, oIfNe 9 7) := rfl
theorem aX7_readTest_7 : at_ kX7_readTest 7 = (0, oPush (vI 0) 8) := rfl
theorem aX7_readTest_8 : at_ kX7_readTest 8 = (0, oRetZ) := rfl
theorem aX7_readTest_9 : at_ kX7_readTest 9 = (0, oRload 0 10) := rfl
theorem aX7_readTest_10 : at_ kX7_readTest 10 = (0, oGetf 9 6 0 13) := rfl
theorem aX7_readTest_13 : at_ kX7_readTest 13 = (0, oIstore 1 14) := rfl
theorem aX7_readTest_14 : at_ kX7_readTest 14 = (0, oRload 0 15) := rfl
theorem aX7_readTest_15 : at_ kX7_readTest 15 = (0, oGetf 9 3 0 18) := rfl
theorem aX7_readTest_18 : at_ kX7_readTest 18 = (0, oIstore 2 19) := rfl
theorem aX7_readTest_19 : at_ kX7_readTest 19 = (0, oRload 0 20) := rfl
theorem aX7_readTest_20 : at_ kX7_readTest 20 = (0, oPush (vI 60) 22) := rfl
theorem aX7_readTest_22 : at_ kX7_readTest 22 = (2, oInvV 9 mX7_take 1 25) := rfl
theorem aX7_readTest_25 : at_ kX7_readTest 25 = (0, oIfNe 48 28) := rfl
theorem aX7_readTest_28 : at_ kX7_readTest 28 = (0, oRload 0 29) := rfl
theorem aX7_readTest_29 : at_ kX7_readTest 29 = (0, oPush (vI 62) 31) := rfl
theorem aX7_readTest_31 : at_ kX7_readTest 31 = (2, oInvV 9 mX7_take 1 34) := rfl
theorem aX7_readTest_34 : at_ kX7_readTest 34 = (0, oIfNe 48 37) := rfl
theorem aX7_readTest_37 : at_ kX7_readTest 37 = (0, oRload 0 38) := rfl
theorem aX7_readTest_38 : at_ kX7_readTest 38 = (0, oPush (vI 61) 40) := rfl
theorem aX7_readTest_40 : at_ kX7_readTest 40 = (2, oInvV 9 mX7_take 1 43) := rfl
theorem aX7_readTest_43 : at_ kX7_readTest 43 = (0, oIfNe 48 46) := rfl
theorem aX7_readTest_46 : at_ kX7_readTest 46 = (0, oPush (vI 0) 47) := rfl
theorem aX7_readTest_47 : at_ kX7_readTest 47 = (0, oRetZ) := rfl
theorem aX7_readTest_48 : at_ kX7_readTest 48 = (0, oRload 0 49) := rfl
theorem aX7_readTest_49 : at_ kX7_readTest 49 = (2, oInvV 9 mX7_readSide 0 52) := rfl
theorem aX7_readTest_52 : at_ kX7_readTest 52 = (0, oIfNe 57 55) := rfl
theorem aX7_readTest_55 : at_ kX7_readTest 55 = (0, oPush (vI 0) 56) := rfl
theorem aX7_readTest_56 : at_ kX7_readTest 56 = (0, oRetZ) := rfl
theorem aX7_readTest_57 : at_ kX7_readTest 57 = (0, oRload 0 58) := rfl
theorem aX7_readTest_58 : at_ kX7_readTest 58 = (0, oIload 2 59) := rfl
theorem aX7_readTest_59 : at_ kX7_readTest 59 = (2, oInvV 9 mX7_write 1 62) := rfl
theorem aX7_readTest_62 : at_ kX7_readTest 62 = (0, oRload 0 63) := rfl
theorem aX7_readTest_63 : at_ kX7_readTest 63 = (0, oIload 1 64) := rfl
theorem aX7_readTest_64 : at_ kX7_readTest 64 = (2, oInvV 9 mX7_write 1 67) := rfl
theorem aX7_readTest_67 : at_ kX7_readTest 67 = (0, oRload 0 68) := rfl
theorem aX7_readTest_68 : at_ kX7_readTest 68 = (0, oRload 0 69) := rfl
theorem aX7_readTest_69 : at_ kX7_readTest 69 = (0, oGetf 9 6 0 72) := rfl
theorem aX7_readTest_72 : at_ kX7_readTest 72 = (2, oInvV 9 mX7_write 1 75) := rfl
theorem aX7_readTest_75 : at_ kX7_readTest 75 = (0, oPush (vI 1) 76) := rfl
theorem aX7_readTest_76 : at_ kX7_readTest 76 = (0, oRetZ) := rfl
def kX7_readSide_0 : List En := [(0, oPush (vI 0) 1), (0, oIstore 1 2), (1, oIload 1 3), (0, oLdcS 5), (1, oFail), (2, oInvS8 mJ0_length 0 8), (1, oFail), (1, oFail), (0, oIcGe 39 11), (1, oFail), (1, oFail), (0, oRload 0 12), (0, oLdcS 14), (1, oFail), (0, oIload 1 15), (2, oInvS8 mJ0_charAt 1 18)]
set_option maxRecDepth 20000 in
theorem zX7_readSide_0 : SndL mX7_readSide 0 kX7_readSide_0 := SndL.c (s_iconst (by decide +kernel) (in32_d (by decide))) (SndL.c (s_istore_n (k := 1) (by decide +kernel) rfl (by decide)) (SndL.c (s_iload_n (k := 1) (by decide +kernel) rfl) (SndL.c (s_ldcSR rfl (by decide +kernel)) (SndL.c (s_fail) (SndL.c (s_strLen w_4_3 (by decide +kernel)) (SndL.c (s_fail) (SndL.c (s_fail) (SndL.c (s_ic_ge (off := 31) (by decide +kernel) (by decide)) (SndL.c (s_fail) (SndL.c (s_fail) (SndL.c (s_aload_n (k := 0) (by decide +kernel) rfl) (SndL.c (s_ldcSR rfl (by decide +kernel)) (SndL.c (s_fail) (SndL.c (s_iload_n (k := 1) (by decide +kernel) rfl) (SndL.c (s_charAt w_4_4 (by decide +kernel)) (SndL.n))))))))))))))))
def kX7_readSide_1 : List En := [(1, oFail), (1, oFail), (2, oInvV 9 mX7_take 1 21), (1, oFail), (1, oFail), (0, oIfEq 33 24), (1, oFail), (1, oFail), (0, oRload 0 25), (0, oPush (vI (-1)) 26), (0, oIload 1 27), (0, oIsub 28), (0, oPutf 9 6 0 31), (1, oFail), (1, oFail), (0, oPush (vI 1) 32)]
set_option maxRecDepth 20000 in
theorem zX7_readSide_1 : SndL mX7_readSide 16 kX7_readSide_1 := SndL.c (s_fail) (SndL.c (s_fail) (SndL.c (s_invV (r := (RX7, TX7, 7)) (ci := 8) okX7_take rfl (by decide) rfl rfl w_3_214 w_3_216 v_15 (by decide +kernel)) (SndL.c (s_fail) (SndL.c (s_fail) (SndL.c (s_if_eq (off := 12) (by decide +kernel) (by decide)) (SndL.c (s_fail) (SndL.c (s_fail) (SndL.c (s_aload_n (k := 0) (by decide +kernel) rfl) (SndL.c (s_iconst (by decide +kernel) (in32_d (by decide))) (SndL.c (s_iload_n (k := 1) (by decide +kernel) rfl) (SndL.c (s_isub (by decide +kernel)) (SndL.c (s_putf (k := 6) clok8 (by decide) rfl (by decide) rfl w_1_117 (Or.inl rfl) (Or.inl rfl) (by decide +kernel)) (SndL.c (s_fail) (SndL.c (s_fail) (SndL.c (s_iconst (by decide +kernel) (in32_d (by decide))) (SndL.n))))))))))))))))
def kX7_readSide_2 : List En := [(0, oRetZ), (0, oIinc 1 1 36), (1, oFail), (1, oFail), (0, oGoto 2), (1, oFail), (1, oFail), (0, oRload 0 40), (0, oGetf 9 3 0 43), (1, oFail), (1, oFail), (0, oPush (vI 48) 45), (1, oFail), (0, oIcLt 57 48), (1, oFail), (1, oFail)]
set_option maxRecDepth 20000 in
theorem zX7_readSide_2 : SndL mX7_readSide 32 kX7_readSide_2 := SndL.c (s_ret_z rfl (by decide +kernel)) (SndL.c (s_iinc (by decide +kernel) (by decide)) (SndL.c (s_fail) (SndL.c (s_fail) (SndL.c (s_goto (off := -34) (by decide +kernel) (by decide)) (SndL.c (s_fail) (SndL.c (s_fail) (SndL.c (s_aload_n (k := 0) (by decide +kernel) rfl) (SndL.c (s_getf (k := 3) clok8 (by decide) rfl (by decide) rfl w_1_114 (Or.inl rfl) (by decide +kernel)) (SndL.c (s_fail) (SndL.c (s_fail) (SndL.c (s_bipush (by decide +kernel) (in32_d (by decide)) (by decide +kernel)) (SndL.c (s_fail) (SndL.c (s_ic_lt (off := 12) (by decide +kernel) (by decide)) (SndL.c (s_fail) (SndL.c (s_fail) (SndL.n))))))))))))))))
def kX7_readSide_3 : List En := [(0, oRload 0 49), (0, oGetf 9 3 0 52), (1, oFail), (1, oFail), (0, oPush (vI 57) 54), (1, oFail), (0, oIcLe 59 57), (1, oFail), (1, oFail), (0, oPush (vI 0) 58), (0, oRetZ), (0, oRload 0 60), (0, oRload 0 61), (0, oGetf 9 3 0 64), (1, oFail), (1, oFail)]
set_option maxRecDepth 20000 in
theorem zX7_readSide_3 : SndL mX7_readSide 48 kX7_readSide_3 := SndL.c (s_aload_n (k := 0) (by decide +kernel) rfl) (SndL.c (s_getf (k := 3) clok8 (by decide) rfl (by decide) rfl w_1_114 (Or.inl rfl) (by decide +kernel)) (SndL.c (s_fail) (SndL.c (s_fail) (SndL.c (s_bipush (by decide +kernel) (in32_d (by decide)) (by decide +kernel)) (SndL.c (s_fail) (SndL.c (s_ic_le (off := 5) (by decide +kernel) (by decide)) (SndL.c (s_fail) (SndL.c (s_fail) (SndL.c (s_iconst (by decide +kernel) (in32_d (by decide))) (SndL.c (s_ret_z rfl (by decide +kernel)) (SndL.c (s_aload_n (k := 0) (by decide +kernel) rfl) (SndL.c (s_aload_n (k := 0) (by decide +kernel) rfl) (SndL.c (s_getf (k := 3) clok8 (by decide) rfl (by decide) rfl w_1_114 (Or.inl rfl) (by decide +kernel)) (SndL.c (s_fail) (SndL.c (s_fail) (SndL.n))))))))))))))))
def kX7_readSide_4 : List En := [(0, oPush (vI 48) 66), (1, oFail), (0, oIsub 67), (0, oPutf 9 6 0 70), (1, oFail), (1, oFail), (0, oRload 0 71), (0, oRload 0 72), (0, oGetf 9 3 0 75), (1, oFail), (1, oFail), (2, oInvV 9 mX7_take 1 78), (1, oFail), (1, oFail), (0, oPop 79), (0, oPush (vI 1) 80)]
set_option maxRecDepth 20000 in
theorem zX7_readSide_4 : SndL mX7_readSide 64 kX7_readSide_4 := SndL.c (s_bipush (by decide +kernel) (in32_d (by decide)) (by decide +kernel)) (SndL.c (s_fail) (SndL.c (s_isub (by decide +kernel)) (SndL.c (s_putf (k := 6) clok8 (by decide) rfl (by decide) rfl w_1_117 (Or.inl rfl) (Or.inl rfl) (by decide +kernel)) (SndL.c (s_fail) (SndL.c (s_fail) (SndL.c (s_aload_n (k := 0) (by decide +kernel) rfl) (SndL.c (s_aload_n (k := 0) (by decide +kernel) rfl) (SndL.c (s_getf (k := 3) clok8 (by decide) rfl (by decide) rfl w_1_114 (Or.inl rfl) (by decide +kernel)) (SndL.c (s_fail) (SndL.c (s_fail) (SndL.c (s_invV (r := (RX7, TX7, 7)) (ci := 8) okX7_take rfl (by decide) rfl rfl w_3_214 w_3_216 v_15 (by decide +kernel)) (SndL.c (s_fail) (SndL.c (s_fail) (SndL.c (s_pop (by decide +kernel)) (SndL.c (s_iconst (by decide +kernel) (in32_d (by decide))) (SndL.n))))))))))))))))
def kX7_readSide_5 : List En := [(0, oIstore 1 81), (1, oIload 1 82), (0, oPush (vI 4) 83), (0, oIcGe 145 86), (1, oFail), (1, oFail), (0, oRload 0 87), (0, oGetf 9 6 0 90), (1, oFail), (1, oFail), (0, oIfLe 145 93), (1, oFail), (1, oFail), (0, oRload 0 94), (0, oGetf 9 3 0 97), (1, oFail)]
set_option maxRecDepth 20000 in
theorem zX7_readSide_5 : SndL mX7_readSide 80 kX7_readSide_5 := SndL.c (s_istore_n (k := 1) (by decide +kernel) rfl (by decide)) (SndL.c (s_iload_n (k := 1) (by decide +kernel) rfl) (SndL.c (s_iconst (by decide +kernel) (in32_d (by decide))) (SndL.c (s_ic_ge (off := 62) (by decide +kernel) (by decide)) (SndL.c (s_fail) (SndL.c (s_fail) (SndL.c (s_aload_n (k := 0) (by decide +kernel) rfl) (SndL.c (s_getf (k := 6) clok8 (by decide) rfl (by decide) rfl w_1_117 (Or.inl rfl) (by decide +kernel)) (SndL.c (s_fail) (SndL.c (s_fail) (SndL.c (s_if_le (off := 55) (by decide +kernel) (by decide)) (SndL.c (s_fail) (SndL.c (s_fail) (SndL.c (s_aload_n (k := 0) (by decide +kernel) rfl) (SndL.c (s_getf (k := 3) clok8 (by decide) rfl (by decide) rfl w_1_114 (Or.inl rfl) (by decide +kernel)) (SndL.c (s_fail) (SndL.n))))))))))))))))
def kX7_readSide_6 : List En := [(1, oFail), (0, oPush (vI 48) 99), (1, oFail), (0, oIcLt 145 102), (1, oFail), (1, oFail), (0, oRload 0 103), (0, oGetf 9 3 0 106), (1, oFail), (1, oFail), (0, oPush (vI 57) 108), (1, oFail), (0, oIcGt 145 111), (1, oFail), (1, oFail), (0, oRload 0 112)]
set_option maxRecDepth 20000 in
theorem zX7_readSide_6 : SndL mX7_readSide 96 kX7_readSide_6 := SndL.c (s_fail) (SndL.c (s_bipush (by decide +kernel) (in32_d (by decide)) (by decide +kernel)) (SndL.c (s_fail) (SndL.c (s_ic_lt (off := 46) (by decide +kernel) (by decide)) (SndL.c (s_fail) (SndL.c (s_fail) (SndL.c (s_aload_n (k := 0) (by decide +kernel) rfl) (SndL.c (s_getf (k := 3) clok8 (by decide) rfl (by decide) rfl w_1_114 (Or.inl rfl) (by decide +kernel)) (SndL.c (s_fail) (SndL.c (s_fail) (SndL.c (s_bipush (by decide +kernel) (in32_d (by decide)) (by decide +kernel)) (SndL.c (s_fail) (SndL.c (s_ic_gt (off := 37) (by decide +kernel) (by decide)) (SndL.c (s_fail) (SndL.c (s_fail) (SndL.c (s_aload_n (k := 0) (by decide +kernel) rfl) (SndL.n))))))))))))))))
def kX7_readSide_7 : List En := [(0, oRload 0 113), (0, oGetf 9 6 0 116), (1, oFail), (1, oFail), (0, oPush (vI 10) 118), (1, oFail), (0, oImul 119), (0, oRload 0 120), (0, oGetf 9 3 0 123), (1, oFail), (1, oFail), (0, oIadd 124), (0, oPush (vI 48) 126), (1, oFail), (0, oIsub 127), (0, oPutf 9 6 0 130)]
set_option maxRecDepth 20000 in
theorem zX7_readSide_7 : SndL mX7_readSide 112 kX7_readSide_7 := SndL.c (s_aload_n (k := 0) (by decide +kernel) rfl) (SndL.c (s_getf (k := 6) clok8 (by decide) rfl (by decide) rfl w_1_117 (Or.inl rfl) (by decide +kernel)) (SndL.c (s_fail) (SndL.c (s_fail) (SndL.c (s_bipush (by decide +kernel) (in32_d (by decide)) (by decide +kernel)) (SndL.c (s_fail) (SndL.c (s_imul (by decide +kernel)) (SndL.c (s_aload_n (k := 0) (by decide +kernel) rfl) (SndL.c (s_getf (k := 3) clok8 (by decide) rfl (by decide) rfl w_1_114 (Or.inl rfl) (by decide +kernel)) (SndL.c (s_fail) (SndL.c (s_fail) (SndL.c (s_iadd (by decide +kernel)) (SndL.c (s_bipush (by decide +kernel) (in32_d (by decide)) (by decide +kernel)) (SndL.c (s_fail) (SndL.c (s_isub (by decide +kernel)) (SndL.c (s_putf (k := 6) clok8 (by decide) rfl (by decide) rfl w_1_117 (Or.inl rfl) (Or.inl rfl) (by decide +kernel)) (SndL.n))))))))))))))))
def kX7_readSide_8 : List En := [(1, oFail), (1, oFail), (0, oRload 0 131), (0, oRload 0 132), (0, oGetf 9 3 0 135), (1, oFail), (1, oFail), (2, oInvV 9 mX7_take 1 138), (1, oFail), (1, oFail), (0, oPop 139), (0, oIinc 1 1 142), (1, oFail), (1, oFail), (0, oGoto 81), (1, oFail)]
set_option maxRecDepth 20000 in
theorem zX7_readSide_8 : SndL mX7_readSide 128 kX7_readSide_8 := SndL.c (s_fail) (SndL.c (s_fail) (SndL.c (s_aload_n (k := 0) (by decide +kernel) rfl) (SndL.c (s_aload_n (k := 0) (by decide +kernel) rfl) (SndL.c (s_getf (k := 3) clok8 (by decide) rfl (by decide) rfl w_1_114 (Or.inl rfl) (by decide +kernel)) (SndL.c (s_fail) (SndL.c (s_fail) (SndL.c (s_invV (r := (RX7, TX7, 7)) (ci := 8) okX7_take rfl (by decide) rfl rfl w_3_214 w_3_216 v_15 (by decide +kernel)) (SndL.c (s_fail) (SndL.c (s_fail) (SndL.c (s_pop (by decide +kernel)) (SndL.c (s_iinc (by decide +kernel) (by decide)) (SndL.c (s_fail) (SndL.c (s_fail) (SndL.c (s_goto (off := -61) (by decide +kernel) (by decide)) (SndL.c (s_fail) (SndL.n))))))))))))))))
def kX7_readSide_9 : List En := [(1, oFail), (0, oPush (vI 1) 146), (0, oRetZ)]
set_option maxRecDepth 20000 in
theorem zX7_readSide_9 : SndL mX7_readSide 144 kX7_readSide_9 := SndL.c (s_fail) (SndL.c (s_iconst (by decide +kernel) (in32_d (by decide))) (SndL.c (s_ret_z rfl (by decide +kernel)) (SndL.n)))
def kX7_readSide : Cd := [kX7_readSide_0, kX7_readSide_1, kX7_readSide_2, kX7_readSide_3, kX7_readSide_4, kX7_readSide_5, kX7_readSide_6, kX7_readSide_7, kX7_readSide_8, kX7_readSide_9]
theorem zX7_readSide : SndC mX7_readSide 0 kX7_readSide := SndC.c zX7_readSide_0 (by decide) (SndC.c zX7_readSide_1 (by decide) (SndC.c zX7_readSide_2 (by decide) (SndC.c zX7_readSide_3 (by decide) (SndC.c zX7_readSide_4 (by decide) (SndC.c zX7_readSide_5 (by decide) (SndC.c zX7_readSide_6 (by decide) (SndC.c zX7_readSide_7 (by decide) (SndC.c zX7_readSide_8 (by decide) (SndC.c zX7_readSide_9 (by decide) (SndC.n))))))))))
theorem aX7_readSide_0 : at_ kX7_readSide 0 = (0, oPush (vI 0) 1) := rfl
theorem aX7_readSide_1 : at_ kX7_readSide 1 = (0, oIstore 1 2) := rfl
theorem aX7_readSide_2 : at_ kX7_readSide 2 = (1, oIload 1 3) := rfl
theorem aX7_readSide_3 : at_ kX7_readSide 3 = (0, oLdcS 5) := rfl
theorem aX7_readSide_5 : at_ kX7_readSide 5 = (2, oInvS8 mJ0_length 0 8) := rfl
theorem aX7_readSide_8 : at_ kX7_readSide 8 = (0, oIcGe 39 11) := rfl
theorem aX7_readSide_11 : at_ kX7_readSide 11 = (0, oRload 0 12) := rfl
theorem aX7_readSide_12 : at_ kX7_readSide 12 = (0, oLdcS 14) := rfl
theorem aX7_readSide_14 : at_ kX7_readSide 14 = (0, oIload 1 15) := rfl
theorem aX7_readSide_15 : at_ kX7_readSide 15 = (2, oInvS8 mJ0_charAt 1 18) := rfl
theorem aX7_readSide_18 : at_ kX7_readSide 18 = (2, oInvV 9 mX7_take 1 21) := rfl
theorem aX7_readSide_21 : at_ kX7_readSide 21 = (0, oIfEq 33 24) := rfl
theorem aX7_readSide_24 : at_ kX7_readSide 24 = (0, oRload 0 25) := rfl
theorem aX7_readSide_25 : at_ kX7_readSide 25 = (0, oPush (vI (-1)) 26) := rfl
theorem aX7_readSide_26 : at_ kX7_readSide 26 = (0, oIload 1 27) := rfl
theorem aX7_readSide_27 : at_ kX7_readSide 27 = (0, oIsub 28) := rfl
theorem aX7_readSide_28 : at_ kX7_readSide 28 = (0, oPutf 9 6 0 31) := rfl
theorem aX7_readSide_31 : at_ kX7_readSide 31 = (0, oPush (vI 1) 32) := rfl
theorem aX7_readSide_32 : at_ kX7_readSide 32 = (0, oRetZ) := rfl
theorem aX7_readSide_33 : at_ kX7_readSide 33 = (0, oIinc 1 1 36) := rfl
theorem aX7_readSide_36 : at_ kX7_readSide 36 = (0, oGoto 2) := rfl
theorem aX7_readSide_39 : at_ kX7_readSide 39 = (0, oRload 0 40) := rfl
theorem aX7_readSide_40 : at_ kX7_readSide 40 = (0, oGetf 9 3 0 43) := rfl
theorem aX7_readSide_43 : at_ kX7_readSide 43 = (0, oPush (vI 48) 45) := rfl
theorem aX7_readSide_45 : at_ kX7_readSide 45 = (0, oIcLt 57 48) := rfl
theorem aX7_readSide_48 : at_ kX7_readSide 48 = (0, oRload 0 49) := rfl
theorem aX7_readSide_49 : at_ kX7_readSide 49 = (0, oGetf 9 3 0 52) := rfl
theorem aX7_readSide_52 : at_ kX7_readSide 52 = (0, oPush (vI 57) 54) := rfl
theorem aX7_readSide_54 : at_ kX7_readSide 54 = (0, oIcLe 59 57) := rfl
theorem aX7_readSide_57 : at_ kX7_readSide 57 = (0, oPush (vI 0) 58) := rfl
theorem aX7_readSide_58 : at_ kX7_readSide 58 = (0, oRetZ) := rfl
theorem aX7_readSide_59 : at_ kX7_readSide 59 = (0, oRload 0 60) := rfl
theorem aX7_readSide_60 : at_ kX7_readSide 60 = (0, oRload 0 61) := rfl
theorem aX7_readSide_61 : at_ kX7_readSide 61 = (0, oGetf 9 3 0 64) := rfl
theorem aX7_readSide_64 : at_ kX7_readSide 64 = (0, oPush (vI 48) 66) := rfl
theorem aX7_readSide_66 : at_ kX7_readSide 66 = (0, oIsub 67) := rfl
theorem aX7_readSide_67 : at_ kX7_readSide 67 = (0, oPutf 9 6 0 70) := rfl
theorem aX7_readSide_70 : at_ kX7_readSide 70 = (0, oRload 0 71) := rfl
theorem aX7_readSide_71 : at_ kX7_readSide 71 = (0, oRload 0 72) := rfl
theorem aX7_readSide_72 : at_ kX7_readSide 72 = (0, oGetf 9 3 0 75) := rfl
theorem aX7_readSide_75 : at_ kX7_readSide 75 = (2, oInvV 9 mX7_take 1 78) := rfl
theorem aX7_readSide_78 : at_ kX7_readSide 78 = (0, oPop 79) := rfl
theorem aX7_readSide_79 : at_ kX7_readSide 79 = (0, oPush (vI 1) 80) := rfl
theorem aX7_readSide_80 : at_ kX7_readSide 80 = (0, oIstore 1 81) := rfl
theorem aX7_readSide_81 : at_ kX7_readSide 81 = (1, oIload 1 82) := rfl
theorem aX7_readSide_82 : at_ kX7_readSide 82 = (0, oPush (vI 4) 83) := rfl
theorem aX7_readSide_83 : at_ kX7_readSide 83 = (0, oIcGe 145 86) := rfl
theorem aX7_readSide_86 : at_ kX7_readSide 86 = (0, oRload 0 87) := rfl
theorem aX7_readSide_87 : at_ kX7_readSide 87 = (0, oGetf 9 6 0 90) := rfl
theorem aX7_readSide_90 : at_ kX7_readSide 90 = (0, oIfLe 145 93) := rfl
theorem aX7_readSide_93 : at_ kX7_readSide 93 = (0, oRload 0 94) := rfl
theorem aX7_readSide_94 : at_ kX7_readSide 94 = (0, oGetf 9 3 0 97) := rfl
theorem aX7_readSide_97 : at_ kX7_readSide 97 = (0, oPush (vI 48) 99) := rfl
theorem aX7_readSide_99 : at_ kX7_readSide 99 = (0, oIcLt 145 102) := rfl
theorem aX7_readSide_102 : at_ kX7_readSide 102 = (0, oRload 0 103) := rfl
theorem aX7_readSide_103 : at_ kX7_readSide 103 = (0, oGetf 9 3 0 106) := rfl
theorem aX7_readSide_106 : at_ kX7_readSide 106 = (0, oPush (vI 57) 108) := rfl
theorem aX7_readSide_108 : at_ kX7_readSide 108 = (0, oIcGt 145 111) := rfl
theorem aX7_readSide_111 : at_ kX7_readSide 111 = (0, oRload 0 112) := rfl
theorem aX7_readSide_112 : at_ kX7_readSide 112 = (0, oRload 0 113) := rfl
theorem aX7_readSide_113 : at_ kX7_readSide 113 = (0, oGetf 9 6 0 116) := rfl
theorem aX7_readSide_116 : at_ kX7_readSide 116 = (0, oPush (vI 10) 118) := rfl
theorem aX7_readSide_118 : at_ kX7_readSide 118 = (0, oImul 119) := rfl
theorem aX7_readSide_119 : at_ kX7_readSide 119 = (0, oRload 0 120) := rfl
theorem aX7_readSide_120 : at_ kX7_readSide 120 = (0, oGetf 9 3 0 123) := rfl
theorem aX7_readSide_123 : at_ kX7_readSide 123 = (0, oIadd 124) := rfl
theorem aX7_readSide_124 : at_ kX7_readSide 124 = (0, oPush (vI 48) 126) := rfl
theorem aX7_readSide_126 : at_ kX7_readSide 126 = (0, oIsub 127) := rfl
theorem aX7_readSide_127 : at_ kX7_readSide 127 = (0, oPutf 9 6 0 130) := rfl
theorem aX7_readSide_130 : at_ kX7_readSide 130 = (0, oRload 0 131) := rfl
theorem aX7_readSide_131 : at_ kX7_readSide 131 = (0, oRload 0 132) := rfl
theorem aX7_readSide_132 : at_ kX7_readSide 132 = (0, oGetf 9 3 0 135) := rfl
theorem aX7_readSide_135 : at_ kX7_readSide 135 = (2, oInvV 9 mX7_take 1 138) := rfl
theorem aX7_readSide_138 : at_ kX7_readSide 138 = (0, oPop 139) := rfl
theorem aX7_readSide_139 : at_ kX7_readSide 139 = (0, oIinc 1 1 142) := rfl
theorem aX7_readSide_142 : at_ kX7_readSide 142 = (0, oGoto 81) := rfl
theorem aX7_readSide_145 : at_ kX7_readSide 145 = (0, oPush (vI 1) 146) := rfl
theorem aX7_readSide_146 : at_ kX7_readSide 146 = (0, oRetZ) := rfl
def kX8_init_0 : List En := [(0, oRload 0 1), (0, oObji 4), (1, oFail), (1, oFail), (0, oRload 0 5), (0, oPush (vI 0) 6), (0, oPutf 10 8 0 9), (1, oFail), (1, oFail), (0, oRload 0 10), (0, oPush (vI 0) 11), (0, oPutf 10 9 3 14), (1, oFail), (1, oFail), (0, oRload 0 15), (0, oPush (vI 0) 16)]
set_option maxRecDepth 20000 in
theorem zX8_init_0 : SndL mX8_init 0 kX8_init_0 := SndL.c (s_aload_n (k := 0) (by decide +kernel) rfl) (SndL.c (s_obji w_4_128 w_1_33 w_1_34 (by decide +kernel)) (SndL.c (s_fail) (SndL.c (s_fail) (SndL.c (s_aload_n (k := 0) (by decide +kernel) rfl) (SndL.c (s_iconst (by decide +kernel) (in32_d (by decide))) (SndL.c (s_putf (k := 8) clok9 (by decide) rfl (by decide) rfl w_4_151 (Or.inl rfl) (Or.inl rfl) (by decide +kernel)) (SndL.c (s_fail) (SndL.c (s_fail) (SndL.c (s_aload_n (k := 0) (by decide +kernel) rfl) (SndL.c (s_iconst (by decide +kernel) (in32_d (by decide))) (SndL.c (s_putf (k := 9) clok9 (by decide) rfl (by decide) rfl w_4_153 (Or.inl rfl) (Or.inl rfl) (by decide +kernel)) (SndL.c (s_fail) (SndL.c (s_fail) (SndL.c (s_aload_n (k := 0) (by decide +kernel) rfl) (SndL.c (s_iconst (by decide +kernel) (in32_d (by decide))) (SndL.n))))))))))))))))
def kX8_init_1 : List En := [(0, oPutf 10 10 3 19), (1, oFail), (1, oFail), (0, oRload 0 20), (0, oPush (vI 0) 21), (0, oPutf 10 11 3 24), (1, oFail), (1, oFail), (0, oRload 0 25), (0, oPush (vI (-1)) 26), (0, oPutf 10 12 0 29), (1, oFail), (1, oFail), (0, oRload 0 30), (0, oPush (vI 0) 31), (0, oPutf 10 13 0 34)]
set_option maxRecDepth 20000 in
theorem zX8_init_1 : SndL mX8_init 16 kX8_init_1 := SndL.c (s_putf (k := 10) clok9 (by decide) rfl (by decide) rfl w_4_156 (Or.inl rfl) (Or.inl rfl) (by decide +kernel)) (SndL.c (s_fail) (SndL.c (s_fail) (SndL.c (s_aload_n (k := 0) (by decide +kernel) rfl) (SndL.c (s_iconst (by decide +kernel) (in32_d (by decide))) (SndL.c (s_putf (k := 11) clok9 (by decide) rfl (by decide) rfl w_4_159 (Or.inl rfl) (Or.inl rfl) (by decide +kernel)) (SndL.c (s_fail) (SndL.c (s_fail) (SndL.c (s_aload_n (k := 0) (by decide +kernel) rfl) (SndL.c (s_iconst (by decide +kernel) (in32_d (by decide))) (SndL.c (s_putf (k := 12) clok9 (by decide) rfl (by decide) rfl w_4_161 (Or.inl rfl) (Or.inl rfl) (by decide +kernel)) (SndL.c (s_fail) (SndL.c (s_fail) (SndL.c (s_aload_n (k := 0) (by decide +kernel) rfl) (SndL.c (s_iconst (by decide +kernel) (in32_d (by decide))) (SndL.c (s_putf (k := 13) clok9 (by decide) rfl (by decide) rfl w_4_164 (Or.inl rfl) (Or.inl rfl) (by decide +kernel)) (SndL.n))))))))))))))))
def kX8_init_2 : List En := [(1, oFail), (1, oFail), (0, oRload 0 35), (0, oRload 1 36), (0, oGetf 2 0 0 39), (1, oFail), (1, oFail), (0, oPutf 10 0 0 42), (1, oFail), (1, oFail), (0, oRload 0 43), (0, oRload 1 44), (0, oGetf 2 1 0 47), (1, oFail), (1, oFail), (0, oPutf 10 1 0 50)]
set_option maxRecDepth 20000 in
theorem zX8_init_2 : SndL mX8_init 32 kX8_init_2 := SndL.c (s_fail) (SndL.c (s_fail) (SndL.c (s_aload_n (k := 0) (by decide +kernel) rfl) (SndL.c (s_aload_n (k := 1) (by decide +kernel) rfl) (SndL.c (s_getf (k := 0) clok1 (by decide) rfl (by decide) rfl w_2_81 (Or.inl rfl) (by decide +kernel)) (SndL.c (s_fail) (SndL.c (s_fail) (SndL.c (s_putf (k := 0) clok9 (by decide) rfl (by decide) rfl w_4_129 (Or.inl rfl) (Or.inr ⟨rfl, rfl, rfl⟩) (by decide +kernel)) (SndL.c (s_fail) (SndL.c (s_fail) (SndL.c (s_aload_n (k := 0) (by decide +kernel) rfl) (SndL.c (s_aload_n (k := 1) (by decide +kernel) rfl) (SndL.c (s_getf (k := 1) clok1 (by decide) rfl (by decide) rfl w_2_84 (Or.inl rfl) (by decide +kernel)) (SndL.c (s_fail) (SndL.c (s_fail) (SndL.c (s_putf (k := 1) clok9 (by decide) rfl (by decide) rfl w_4_132 (Or.inl rfl) (Or.inr ⟨rfl, rfl, rfl⟩) (by decide +kernel)) (SndL.n))))))))))))))))
def kX8_init_3 : List En := [(1, oFail), (1, oFail), (0, oRload 0 51), (0, oRload 2 52), (0, oGetf 4 2 0 55), (1, oFail), (1, oFail), (0, oPutf 10 2 0 58), (1, oFail), (1, oFail), (0, oRload 0 59), (0, oRload 2 60), (0, oGetf 4 3 0 63), (1, oFail), (1, oFail), (0, oPutf 10 3 0 66)]
set_option maxRecDepth 20000 in
theorem zX8_init_3 : SndL mX8_init 48 kX8_init_3 := SndL.c (s_fail) (SndL.c (s_fail) (SndL.c (s_aload_n (k := 0) (by decide +kernel) rfl) (SndL.c (s_aload_n (k := 2) (by decide +kernel) rfl) (SndL.c (s_getf (k := 2) clok3 (by decide) rfl (by decide) rfl w_3_8 (Or.inl rfl) (by decide +kernel)) (SndL.c (s_fail) (SndL.c (s_fail) (SndL.c (s_putf (k := 2) clok9 (by decide) rfl (by decide) rfl w_4_135 (Or.inl rfl) (Or.inr ⟨rfl, rfl, rfl⟩) (by decide +kernel)) (SndL.c (s_fail) (SndL.c (s_fail) (SndL.c (s_aload_n (k := 0) (by decide +kernel) rfl) (SndL.c (s_aload_n (k := 2) (by decide +kernel) rfl) (SndL.c (s_getf (k := 3) clok3 (by decide) rfl (by decide) rfl w_3_13 (Or.inl rfl) (by decide +kernel)) (SndL.c (s_fail) (SndL.c (s_fail) (SndL.c (s_putf (k := 3) clok9 (by decide) rfl (by decide) rfl w_4_138 (Or.inl rfl) (Or.inr ⟨rfl, rfl, rfl⟩) (by decide +kernel)) (SndL.n))))))))))))))))
def kX8_init_4 : List En := [(1, oFail), (1, oFail), (0, oRload 0 67), (0, oRload 2 68), (0, oGetf 4 4 0 71), (1, oFail), (1, oFail), (0, oPutf 10 4 0 74), (1, oFail), (1, oFail), (0, oRload 0 75), (0, oIload 3 76), (0, oPutf 10 5 0 79), (1, oFail), (1, oFail), (0, oRload 0 80)]
set_option maxRecDepth 20000 in
theorem zX8_init_4 : SndL mX8_init 64 kX8_init_4 := SndL.c (s_fail) (SndL.c (s_fail) (SndL.c (s_aload_n (k := 0) (by decide +kernel) rfl) (SndL.c (s_aload_n (k := 2) (by decide +kernel) rfl) (SndL.c (s_getf (k := 4) clok3 (by decide) rfl (by decide) rfl w_3_18 (Or.inl rfl) (by decide +kernel)) (SndL.c (s_fail) (SndL.c (s_fail) (SndL.c (s_putf (k := 4) clok9 (by decide) rfl (by decide) rfl w_4_141 (Or.inl rfl) (Or.inr ⟨rfl, rfl, rfl⟩) (by decide +kernel)) (SndL.c (s_fail) (SndL.c (s_fail) (SndL.c (s_aload_n (k := 0) (by decide +kernel) rfl) (SndL.c (s_iload_n (k := 3) (by decide +kernel) rfl) (SndL.c (s_putf (k := 5) clok9 (by decide) rfl (by decide) rfl w_4_144 (Or.inl rfl) (Or.inr ⟨rfl, rfl, rfl⟩) (by decide +kernel)) (SndL.c (s_fail) (SndL.c (s_fail) (SndL.c (s_aload_n (k := 0) (by decide +kernel) rfl) (SndL.n))))))))))))))))
def kX8_init_5 : List En := [(0, oIload 4 82), (1, oFail), (0, oPutf 10 6 0 85), (1, oFail), (1, oFail), (0, oRload 0 86), (0, oIload 5 88), (1, oFail), (0, oPutf 10 7 0 91), (1, oFail), (1, oFail), (0, oRetV)]
set_option maxRecDepth 20000 in
theorem zX8_init_5 : SndL mX8_init 80 kX8_init_5 := SndL.c (s_iload (by decide +kernel)) (SndL.c (s_fail) (SndL.c (s_putf (k := 6) clok9 (by decide) rfl (by decide) rfl w_4_147 (Or.inl rfl) (Or.inr ⟨rfl, rfl, rfl⟩) (by decide +kernel)) (SndL.c (s_fail) (SndL.c (s_fail) (SndL.c (s_aload_n (k := 0) (by decide +kernel) rfl) (SndL.c (s_iload (by decide +kernel)) (SndL.c (s_fail) (SndL.c (s_putf (k := 7) clok9 (by decide) rfl (by decide) rfl w_4_149 (Or.inl rfl) (Or.inr ⟨rfl, rfl, rfl⟩) (by decide +kernel)) (SndL.c (s_fail) (SndL.c (s_fail) (SndL.c (s_ret_v rfl (by decide +kernel)) (SndL.n))))))))))))
def kX8_init : Cd := [kX8_init_0, kX8_init_1, kX8_init_2, kX8_init_3, kX8_init_4, kX8_init_5]
theorem zX8_init : SndC mX8_init 0 kX8_init := SndC.c zX8_init_0 (by decide) (SndC.c zX8_init_1 (by decide) (SndC.c zX8_init_2 (by decide) (SndC.c zX8_init_3 (by decide) (SndC.c zX8_init_4 (by decide) (SndC.c zX8_init_5 (by decide) (SndC.n))))))
theorem aX8_init_0 : at_ kX8_init 0 = (0, oRload 0 1) := rfl
theorem aX8_init_1 : at_ kX8_init 1 = (0, oObji 4) := rfl
theorem aX8_init_4 : at_ kX8_init 4 = (0, oRload 0 5) := rfl
theorem aX8_init_5 : at_ kX8_init 5 = (0, oPush (vI 0) 6) := rfl
theorem aX8_init_6 : at_ kX8_init 6 = (0, oPutf 10 8 0 9) := rfl
theorem aX8_init_9 : at_ kX8_init 9 = (0, oRload 0 10) := rfl
theorem aX8_init_10 : at_ kX8_init 10 = (0, oPush (vI 0) 11) := rfl
theorem aX8_init_11 : at_ kX8_init 11 = (0, oPutf 10 9 3 14) := rfl
theorem aX8_init_14 : at_ kX8_init 14 = (0, oRload 0 15) := rfl
theorem aX8_init_15 : at_ kX8_init 15 = (0, oPush (vI 0) 16) := rfl
theorem aX8_init_16 : at_ kX8_init 16 = (0, oPutf 10 10 3 19) := rfl
theorem aX8_init_19 : at_ kX8_init 19 = (0, oRload 0 20) := rfl
theorem aX8_init_20 : at_ kX8_init 20 = (0, oPush (vI 0) 21) := rfl
theorem aX8_init_21 : at_ kX8_init 21 = (0, oPutf 10 11 3 24) := rfl
theorem aX8_init_24 : at_ kX8_init 24 = (0, oRload 0 25) := rfl
theorem aX8_init_25 : at_ kX8_init 25 = (0, oPush (vI (-1)) 26) := rfl
theorem aX8_init_26 : at_ kX8_init 26 = (0, oPutf 10 12 0 29) := rfl
theorem aX8_init_29 : at_ kX8_init 29 = (0, oRload 0 30) := rfl
theorem aX8_init_30 : at_ kX8_init 30 = (0, oPush (vI 0) 31) := rfl
theorem aX8_init_31 : at_ kX8_init 31 = (0, oPutf 10 13 0 34) := rfl
theorem aX8_init_34 : at_ kX8_init 34 = (0, oRload 0 35) := rfl
theorem aX8_init_35 : at_ kX8_init 35 = (0, oRload 1 36) := rfl
theorem aX8_init_36 : at_ kX8_init 36 = (0, oGetf 2 0 0 39) := rfl
theorem aX8_init_39 : at_ kX8_init 39 = (0, oPutf 10 0 0 42) := rfl
theorem aX8_init_42 : at_ kX8_init 42 = (0, oRload 0 43) := rfl
theorem aX8_init_43 : at_ kX8_init 43 = (0, oRload 1 44) := rfl
theorem aX8_init_44 : at_ kX8_init 44 = (0, oGetf 2 1 0 47) := rfl
theorem aX8_init_47 : at_ kX8_init 47 = (0, oPutf 10 1 0 50) := rfl
theorem aX8_init_50 : at_ kX8_init 50 = (0, oRload 0 51) := rfl
theorem aX8_init_51 : at_ kX8_init 51 = (0, oRload 2 52) := rfl
theorem aX8_init_52 : at_ kX8_init 52 = (0, oGetf 4 2 0 55) := rfl
theorem aX8_init_55 : at_ kX8_init 55 = (0, oPutf 10 2 0 58) := rfl
theorem aX8_init_58 : at_ kX8_init 58 = (0, oRload 0 59) := rfl
theorem aX8_init_59 : at_ kX8_init 59 = (0, oRload 2 60) := rfl
theorem aX8_init_60 : at_ kX8_init 60 = (0, oGetf 4 3 0 63) := rfl
theorem aX8_init_63 : at_ kX8_init 63 = (0, oPutf 10 3 0 66) := rfl
theorem aX8_init_66 : at_ kX8_init 66 = (0, oRload 0 67) := rfl
theorem aX8_init_67 : at_ kX8_init 67 = (0, oRload 2 68) := rfl
theorem aX8_init_68 : at_ kX8_init 68 = (0, oGetf 4 4 0 71) := rfl
theorem aX8_init_71 : at_ kX8_init 71 = (0, oPutf 10 4 0 74) := rfl
theorem aX8_init_74 : at_ kX8_init 74 = (0, oRload 0 75) := rfl
theorem aX8_init_75 : at_ kX8_init 75 = (0, oIload 3 76) := rfl
theorem aX8_init_76 : at_ kX8_init 76 = (0, oPutf 10 5 0 79) := rfl
theorem aX8_init_79 : at_ kX8_init 79 = (0, oRload 0 80) := rfl
theorem aX8_init_80 : at_ kX8_init 80 = (0, oIload 4 82) := rfl
theorem aX8_init_82 : at_ kX8_init 82 = (0, oPutf 10 6 0 85) := rfl
theorem aX8_init_85 : at_ kX8_init 85 = (0, oRload 0 86) := rfl
theorem aX8_init_86 : at_ kX8_init 86 = (0, oIload 5 88) := rfl
theorem aX8_init_88 : at_ kX8_init 88 = (0, oPutf 10 7 0 91) := rfl
theorem aX8_init_91 : at_ kX8_init 91 = (0, oRetV) := rfl
def kX8_isLike_0 : List En := [(0, oRload 0 1), (0, oGetf 10 13 0 4), (1, oFail), (1, oFail), (0, oIfNe 50 7), (1, oFail), (1, oFail), (0, oRload 0 8), (0, oGetf 10 2 0 11), (1, oFail), (1, oFail), (0, oRload 1 12), (0, oGetf 4 2 0 15), (1, oFail), (1, oFail), (0, oIcNe 50 18)]
set_option maxRecDepth 20000 in
theorem zX8_isLike_0 : SndL mX8_isLike 0 kX8_isLike_0 := SndL.c (s_aload_n (k := 0) (by decide +kernel) rfl) (SndL.c (s_getf (k := 13) clok9 (by decide) rfl (by decide) rfl w_4_164 (Or.inl rfl) (by decide +kernel)) (SndL.c (s_fail) (SndL.c (s_fail) (SndL.c (s_if_ne (off := 46) (by decide +kernel) (by decide)) (SndL.c (s_fail) (SndL.c (s_fail) (SndL.c (s_aload_n (k := 0) (by decide +kernel) rfl) (SndL.c (s_getf (k := 2) clok9 (by decide) rfl (by decide) rfl w_4_135 (Or.inl rfl) (by decide +kernel)) (SndL.c (s_fail) (SndL.c (s_fail) (SndL.c (s_aload_n (k := 1) (by decide +kernel) rfl) (SndL.c (s_getf (k := 2) clok3 (by decide) rfl (by decide) rfl w_3_8 (Or.inl rfl) (by decide +kernel)) (SndL.c (s_fail) (SndL.c (s_fail) (SndL.c (s_ic_ne (off := 35) (by decide +kernel) (by decide)) (SndL.n))))))))))))))))
def kX8_isLike_1 : List En := [(1, oFail), (1, oFail), (0, oRload 0 19), (0, oGetf 10 3 0 22), (1, oFail), (1, oFail), (0, oRload 1 23), (0, oGetf 4 3 0 26), (1, oFail), (1, oFail), (0, oIcNe 50 29), (1, oFail), (1, oFail), (0, oRload 0 30), (0, oGetf 10 4 0 33), (1, oFail)]
set_option maxRecDepth 20000 in
theorem zX8_isLike_1 : SndL mX8_isLike 16 kX8_isLike_1 := SndL.c (s_fail) (SndL.c (s_fail) (SndL.c (s_aload_n (k := 0) (by decide +kernel) rfl) (SndL.c (s_getf (k := 3) clok9 (by decide) rfl (by decide) rfl w_4_138 (Or.inl rfl) (by decide +kernel)) (SndL.c (s_fail) (SndL.c (s_fail) (SndL.c (s_aload_n (k := 1) (by decide +kernel) rfl) (SndL.c (s_getf (k := 3) clok3 (by decide) rfl (by decide) rfl w_3_13 (Or.inl rfl) (by decide +kernel)) (SndL.c (s_fail) (SndL.c (s_fail) (SndL.c (s_ic_ne (off := 24) (by decide +kernel) (by decide)) (SndL.c (s_fail) (SndL.c (s_fail) (SndL.c (s_aload_n (k := 0) (by decide +kernel) rfl) (SndL.c (s_getf (k := 4) clok9 (by decide) rfl (by decide) rfl w_4_141 (Or.inl rfl) (by decide +kernel)) (SndL.c (s_fail) (SndL.n))))))))))))))))
def kX8_isLike_2 : List En := [(1, oFail), (0, oRload 1 34), (0, oGetf 4 4 0 37), (1, oFail), (1, oFail), (0, oIsub 38), (0, oMabs 41), (1, oFail), (1, oFail), (0, oPush (vI 10) 43), (1, oFail), (0, oIcGt 50 46), (1, oFail), (1, oFail), (0, oPush (vI 1) 47), (0, oGoto 51)]
set_option maxRecDepth 20000 in
theorem zX8_isLike_2 : SndL mX8_isLike 32 kX8_isLike_2 := SndL.c (s_fail) (SndL.c (s_aload_n (k := 1) (by decide +kernel) rfl) (SndL.c (s_getf (k := 4) clok3 (by decide) rfl (by decide) rfl w_3_18 (Or.inl rfl) (by decide +kernel)) (SndL.c (s_fail) (SndL.c (s_fail) (SndL.c (s_isub (by decide +kernel)) (SndL.c (s_mabs w_4_209 w_4_210 w_1_15 w_4_211 (by decide +kernel)) (SndL.c (s_fail) (SndL.c (s_fail) (SndL.c (s_bipush (by decide +kernel) (in32_d (by decide)) (by decide +kernel)) (SndL.c (s_fail) (SndL.c (s_ic_gt (off := 7) (by decide +kernel) (by decide)) (SndL.c (s_fail) (SndL.c (s_fail) (SndL.c (s_iconst (by decide +kernel) (in32_d (by decide))) (SndL.c (s_goto (off := 4) (by decide +kernel) (by decide)) (SndL.n))))))))))))))))
def kX8_isLike_3 : List En := [(1, oFail), (1, oFail), (0, oPush (vI 0) 51), (0, oRetZ)]
set_option maxRecDepth 20000 in
theorem zX8_isLike_3 : SndL mX8_isLike 48 kX8_isLike_3 := SndL.c (s_fail) (SndL.c (s_fail) (SndL.c (s_iconst (by decide +kernel) (in32_d (by decide))) (SndL.c (s_ret_z rfl (by decide +kernel)) (SndL.n))))
def kX8_isLike : Cd := [kX8_isLike_0, kX8_isLike_1, kX8_isLike_2, kX8_isLike_3]
theorem zX8_isLike : SndC mX8_isLike 0 kX8_isLike := SndC.c zX8_isLike_0 (by decide) (SndC.c zX8_isLike_1 (by decide) (SndC.c zX8_isLike_2 (by decide) (SndC.c zX8_isLike_3 (by decide) (SndC.n))))
theorem aX8_isLike_0 : at_ kX8_isLike 0 = (0, oRload 0 1) := rfl
theorem aX8_isLike_1 : at_ kX8_isLike 1 = (0, oGetf 10 13 0 4) := rfl
theorem aX8_isLike_4 : at_ kX8_isLike 4 = (0, oIfNe 50 7) := rfl
theorem aX8_isLike_7 : at_ kX8_isLike 7 = (0, oRload 0 8) := rfl
theorem aX8_isLike_8 : at_ kX8_isLike 8 = (0, oGetf 10 2 0 11) := rfl
theorem aX8_isLike_11 : at_ kX8_isLike 11 = (0, oRload 1 12) := rfl
theorem aX8_isLike_12 : at_ kX8_isLike 12 = (0, oGetf 4 2 0 15) := rfl
theorem aX8_isLike_15 : at_ kX8_isLike 15 = (0, oIcNe 50 18) := rfl
theorem aX8_isLike_18 : at_ kX8_isLike 18 = (0, oRload 0 19) := rfl
theorem aX8_isLike_19 : at_ kX8_isLike 19 = (0, oGetf 10 3 0 22) := rfl
theorem aX8_isLike_22 : at_ kX8_isLike 22 = (0, oRload 1 23) := rfl
theorem aX8_isLike_23 : at_ kX8_isLike 23 = (0, oGetf 4 3 0 26) := rfl
theorem aX8_isLike_26 : at_ kX8_isLike 26 = (0, oIcNe 50 29) := rfl
theorem aX8_isLike_29 : at_ kX8_isLike 29 = (0, oRload 0 30) := rfl
theorem aX8_isLike_30 : at_ kX8_isLike 30 = (0, oGetf 10 4 0 33) := rfl
theorem aX8_isLike_33 : at_ kX8_isLike 33 = (0, oRload 1 34) := rfl
theorem aX8_isLike_34 : at_ kX8_isLike 34 = (0, oGetf 4 4 0 37) := rfl
theorem aX8_isLike_37 : at_ kX8_isLike 37 = (0, oIsub 38) := rfl
theorem aX8_isLike_38 : at_ kX8_isLike 38 = (0, oMabs 41) := rfl
theorem aX8_isLike_41 : at_ kX8_isLike 41 = (0, oPush (vI 10) 43) := rfl
theorem aX8_isLike_43 : at_ kX8_isLike 43 = (0, oIcGt 50 46) := rfl
theorem aX8_isLike_46 : at_ kX8_isLike 46 = (0, oPush (vI 1) 47) := rfl
theorem aX8_isLike_47 : at_ kX8_isLike 47 = (0, oGoto 51) := rfl
theorem aX8_isLike_50 : at_ kX8_isLike 50 = (0, oPush (vI 0) 51) := rfl
theorem aX8_isLike_51 : at_ kX8_isLike 51 = (0, oRetZ) := rfl
def kX8_standsAndBars_0 : List En := [(0, oRload 0 1), (0, oGetf 10 13 0 4), (1, oFail), (1, oFail), (0, oIfNe 18 7), (1, oFail), (1, oFail), (0, oRload 0 8), (0, oGetf 10 9 3 11), (1, oFail), (1, oFail), (0, oIfEq 18 14), (1, oFail), (1, oFail), (0, oPush (vI 1) 15), (0, oGoto 19)]
set_option maxRecDepth 20000 in
theorem zX8_standsAndBars_0 : SndL mX8_standsAndBars 0 kX8_standsAndBars_0 := SndL.c (s_aload_n (k := 0) (by decide +kernel) rfl) (SndL.c (s_getf (k := 13) clok9 (by decide) rfl (by decide) rfl w_4_164 (Or.inl rfl) (by decide +kernel)) (SndL.c (s_fail) (SndL.c (s_fail) (SndL.c (s_if_ne (off := 14) (by decide +kernel) (by decide)) (SndL.c (s_fail) (SndL.c (s_fail) (SndL.c (s_aload_n (k := 0) (by decide +kernel) rfl) (SndL.c (s_getf (k := 9) clok9 (by decide) rfl (by decide) rfl w_4_153 (Or.inl rfl) (by decide +kernel)) (SndL.c (s_fail) (SndL.c (s_fail) (SndL.c (s_if_eq (off := 7) (by decide +kernel) (by decide)) (SndL.c (s_fail) (SndL.c (s_fail) (SndL.c (s_iconst (by decide +kernel) (in32_d (by decide))) (SndL.c (s_goto (off := 4) (by decide +kernel) (by decide)) (SndL.n))))))))))))))))
def kX8_standsAndBars_1 : List En := [(1, oFail), (1, oFail), (0, oPush (vI 0) 19), (0, oRetZ)]
set_option maxRecDepth 20000 in
theorem zX8_standsAndBars_1 : SndL mX8_standsAndBars 16 kX8_standsAndBars_1 := SndL.c (s_fail) (SndL.c (s_fail) (SndL.c (s_iconst (by decide +kernel) (in32_d (by decide))) (SndL.c (s_ret_z rfl (by decide +kernel)) (SndL.n))))
def kX8_standsAndBars : Cd := [kX8_standsAndBars_0, kX8_standsAndBars_1]
theorem zX8_standsAndBars : SndC mX8_standsAndBars 0 kX8_standsAndBars := SndC.c zX8_standsAndBars_0 (by decide) (SndC.c zX8_standsAndBars_1 (by decide) (SndC.n))
theorem aX8_standsAndBars_0 : at_ kX8_standsAndBars 0 = (0, oRload 0 1) := rfl
theorem aX8_standsAndBars_1 : at_ kX8_standsAndBars 1 = (0, oGetf 10 13 0 4) := rfl
theorem aX8_standsAndBars_4 : at_ kX8_standsAndBars 4 = (0, oIfNe 18 7) := rfl
theorem aX8_standsAndBars_7 : at_ kX8_standsAndBars 7 = (0, oRload 0 8) := rfl
theorem aX8_standsAndBars_8 : at_ kX8_standsAndBars 8 = (0, oGetf 10 9 3 11) := rfl
theorem aX8_standsAndBars_11 : at_ kX8_standsAndBars 11 = (0, oIfEq 18 14) := rfl
theorem aX8_standsAndBars_14 : at_ kX8_standsAndBars 14 = (0, oPush (vI 1) 15) := rfl
theorem aX8_standsAndBars_15 : at_ kX8_standsAndBars 15 = (0, oGoto 19) := rfl
theorem aX8_standsAndBars_18 : at_ kX8_standsAndBars 18 = (0, oPush (vI 0) 19) := rfl
theorem aX8_standsAndBars_19 : at_ kX8_standsAndBars 19 = (0, oRetZ) := rfl
def kX9_init_0 : List En := [(0, oRload 0 1), (0, oObji 4), (1, oFail), (1, oFail), (0, oRload 0 5), (0, oPush (vI 60) 7), (1, oFail), (0, oNewa 101 9), (1, oFail), (0, oPutf 11 0 2 12), (1, oFail), (1, oFail), (0, oRload 0 13), (0, oPush (vI 0) 14), (0, oPutf 11 1 3 17), (1, oFail)]
set_option maxRecDepth 20000 in
theorem zX9_init_0 : SndL mX9_init 0 kX9_init_0 := SndL.c (s_aload_n (k := 0) (by decide +kernel) rfl) (SndL.c (s_obji w_1_167 w_1_33 w_1_34 (by decide +kernel)) (SndL.c (s_fail) (SndL.c (s_fail) (SndL.c (s_aload_n (k := 0) (by decide +kernel) rfl) (SndL.c (s_bipush (by decide +kernel) (in32_d (by decide)) (by decide +kernel)) (SndL.c (s_fail) (SndL.c (s_newa (kd := 101) (atype := .long) (akd_d (by decide)) rfl (by decide) w_1_191 (fun _ _ h => h) (by decide +kernel)) (SndL.c (s_fail) (SndL.c (s_putf (k := 0) clok10 (by decide) rfl (by decide) rfl w_1_168 (Or.inl rfl) (Or.inr ⟨rfl, rfl, rfl⟩) (by decide +kernel)) (SndL.c (s_fail) (SndL.c (s_fail) (SndL.c (s_aload_n (k := 0) (by decide +kernel) rfl) (SndL.c (s_iconst (by decide +kernel) (in32_d (by decide))) (SndL.c (s_putf (k := 1) clok10 (by decide) rfl (by decide) rfl w_1_170 (Or.inl rfl) (Or.inl rfl) (by decide +kernel)) (SndL.c (s_fail) (SndL.n))))))))))))))))
def kX9_init_1 : List En := [(1, oFail), (0, oRload 0 18), (0, oPush (vI 0) 19), (0, oPutf 11 2 0 22), (1, oFail), (1, oFail), (0, oRload 0 23), (0, oPush (vI 0) 24), (0, oPutf 11 3 0 27), (1, oFail), (1, oFail), (0, oRload 0 28), (0, oPush (vR 0) 29), (0, oPutf 11 4 2 32), (1, oFail), (1, oFail)]
set_option maxRecDepth 20000 in
theorem zX9_init_1 : SndL mX9_init 16 kX9_init_1 := SndL.c (s_fail) (SndL.c (s_aload_n (k := 0) (by decide +kernel) rfl) (SndL.c (s_iconst (by decide +kernel) (in32_d (by decide))) (SndL.c (s_putf (k := 2) clok10 (by decide) rfl (by decide) rfl w_1_172 (Or.inl rfl) (Or.inl rfl) (by decide +kernel)) (SndL.c (s_fail) (SndL.c (s_fail) (SndL.c (s_aload_n (k := 0) (by decide +kernel) rfl) (SndL.c (s_iconst (by decide +kernel) (in32_d (by decide))) (SndL.c (s_putf (k := 3) clok10 (by decide) rfl (by decide) rfl w_1_174 (Or.inl rfl) (Or.inl rfl) (by decide +kernel)) (SndL.c (s_fail) (SndL.c (s_fail) (SndL.c (s_aload_n (k := 0) (by decide +kernel) rfl) (SndL.c (s_null (by decide +kernel)) (SndL.c (s_putf (k := 4) clok10 (by decide) rfl (by decide) rfl w_1_177 (Or.inl rfl) (Or.inl rfl) (by decide +kernel)) (SndL.c (s_fail) (SndL.c (s_fail) (SndL.n))))))))))))))))
def kX9_init_2 : List En := [(0, oRetV)]
set_option maxRecDepth 20000 in
theorem zX9_init_2 : SndL mX9_init 32 kX9_init_2 := SndL.c (s_ret_v rfl (by decide +kernel)) (SndL.n)
def kX9_init : Cd := [kX9_init_0, kX9_init_1, kX9_init_2]
theorem zX9_init : SndC mX9_init 0 kX9_init := SndC.c zX9_init_0 (by decide) (SndC.c zX9_init_1 (by decide) (SndC.c zX9_init_2 (by decide) (SndC.n)))
theorem aX9_init_0 : at_ kX9_init 0 = (0, oRload 0 1) := rfl
theorem aX9_init_1 : at_ kX9_init 1 = (0, oObji 4) := rfl
theorem aX9_init_4 : at_ kX9_init 4 = (0, oRload 0 5) := rfl
theorem aX9_init_5 : at_ kX9_init 5 = (0, oPush (vI 60) 7) := rfl
theorem aX9_init_7 : at_ kX9_init 7 = (0, oNewa 101 9) := rfl
theorem aX9_init_9 : at_ kX9_init 9 = (0, oPutf 11 0 2 12) := rfl
theorem aX9_init_12 : at_ kX9_init 12 = (0, oRload 0 13) := rfl
theorem aX9_init_13 : at_ kX9_init 13 = (0, oPush (vI 0) 14) := rfl
theorem aX9_init_14 : at_ kX9_init 14 = (0, oPutf 11 1 3 17) := rfl
theorem aX9_init_17 : at_ kX9_init 17 = (0, oRload 0 18) := rfl
theorem aX9_init_18 : at_ kX9_init 18 = (0, oPush (vI 0) 19) := rfl
theorem aX9_init_19 : at_ kX9_init 19 = (0, oPutf 11 2 0 22) := rfl
theorem aX9_init_22 : at_ kX9_init 22 = (0, oRload 0 23) := rfl
theorem aX9_init_23 : at_ kX9_init 23 = (0, oPush (vI 0) 24) := rfl
theorem aX9_init_24 : at_ kX9_init 24 = (0, oPutf 11 3 0 27) := rfl
theorem aX9_init_27 : at_ kX9_init 27 = (0, oRload 0 28) := rfl
theorem aX9_init_28 : at_ kX9_init 28 = (0, oPush (vR 0) 29) := rfl
theorem aX9_init_29 : at_ kX9_init 29 = (0, oPutf 11 4 2 32) := rfl
theorem aX9_init_32 : at_ kX9_init 32 = (0, oRetV) := rfl
def kX9_takeRow_0 : List En := [(0, oRload 0 1), (0, oPush (vI 1) 2), (0, oPutf 11 1 3 5), (1, oFail), (1, oFail), (0, oRload 0 6), (0, oPush (vR 0) 7), (0, oPutf 11 4 2 10), (1, oFail), (1, oFail), (0, oRload 0 11), (0, oIload 1 12), (0, oPutf 11 2 0 15), (1, oFail), (1, oFail), (0, oRload 0 16)]
set_option maxRecDepth 20000 in
theorem zX9_takeRow_0 : SndL mX9_takeRow 0 kX9_takeRow_0 := SndL.c (s_aload_n (k := 0) (by decide +kernel) rfl) (SndL.c (s_iconst (by decide +kernel) (in32_d (by decide))) (SndL.c (s_putf (k := 1) clok10 (by decide) rfl (by decide) rfl w_1_170 (Or.inl rfl) (Or.inl rfl) (by decide +kernel)) (SndL.c (s_fail) (SndL.c (s_fail) (SndL.c (s_aload_n (k := 0) (by decide +kernel) rfl) (SndL.c (s_null (by decide +kernel)) (SndL.c (s_putf (k := 4) clok10 (by decide) rfl (by decide) rfl w_1_177 (Or.inl rfl) (Or.inl rfl) (by decide +kernel)) (SndL.c (s_fail) (SndL.c (s_fail) (SndL.c (s_aload_n (k := 0) (by decide +kernel) rfl) (SndL.c (s_iload_n (k := 1) (by decide +kernel) rfl) (SndL.c (s_putf (k := 2) clok10 (by decide) rfl (by decide) rfl w_1_172 (Or.inl rfl) (Or.inl rfl) (by decide +kernel)) (SndL.c (s_fail) (SndL.c (s_fail) (SndL.c (s_aload_n (k := 0) (by decide +kernel) rfl) (SndL.n))))))))))))))))
def kX9_takeRow_1 : List En := [(0, oIload 2 17), (0, oPutf 11 3 0 20), (1, oFail), (1, oFail), (0, oPush (vI 0) 21), (0, oIstore 3 22), (1, oIload 3 23), (0, oPush (vI 60) 25), (1, oFail), (0, oIcGe 41 28), (1, oFail), (1, oFail), (0, oRload 0 29), (0, oGetf 11 0 2 32), (1, oFail), (1, oFail)]
set_option maxRecDepth 20000 in
theorem zX9_takeRow_1 : SndL mX9_takeRow 16 kX9_takeRow_1 := SndL.c (s_iload_n (k := 2) (by decide +kernel) rfl) (SndL.c (s_putf (k := 3) clok10 (by decide) rfl (by decide) rfl w_1_174 (Or.inl rfl) (Or.inl rfl) (by decide +kernel)) (SndL.c (s_fail) (SndL.c (s_fail) (SndL.c (s_iconst (by decide +kernel) (in32_d (by decide))) (SndL.c (s_istore_n (k := 3) (by decide +kernel) rfl (by decide)) (SndL.c (s_iload_n (k := 3) (by decide +kernel) rfl) (SndL.c (s_bipush (by decide +kernel) (in32_d (by decide)) (by decide +kernel)) (SndL.c (s_fail) (SndL.c (s_ic_ge (off := 16) (by decide +kernel) (by decide)) (SndL.c (s_fail) (SndL.c (s_fail) (SndL.c (s_aload_n (k := 0) (by decide +kernel) rfl) (SndL.c (s_getf (k := 0) clok10 (by decide) rfl (by decide) rfl w_1_168 (Or.inl rfl) (by decide +kernel)) (SndL.c (s_fail) (SndL.c (s_fail) (SndL.n))))))))))))))))
def kX9_takeRow_2 : List En := [(0, oIload 3 33), (0, oPush (vL 0) 34), (0, oLast 35), (0, oIinc 3 1 38), (1, oFail), (1, oFail), (0, oGoto 22), (1, oFail), (1, oFail), (0, oRetV)]
set_option maxRecDepth 20000 in
theorem zX9_takeRow_2 : SndL mX9_takeRow 32 kX9_takeRow_2 := SndL.c (s_iload_n (k := 3) (by decide +kernel) rfl) (SndL.c (s_lconst (n := 0) (by decide +kernel) (in64_d (by decide)) (by decide +kernel)) (SndL.c (s_last (by decide +kernel)) (SndL.c (s_iinc (by decide +kernel) (by decide)) (SndL.c (s_fail) (SndL.c (s_fail) (SndL.c (s_goto (off := -16) (by decide +kernel) (by decide)) (SndL.c (s_fail) (SndL.c (s_fail) (SndL.c (s_ret_v rfl (by decide +kernel)) (SndL.n))))))))))
def kX9_takeRow : Cd := [kX9_takeRow_0, kX9_takeRow_1, kX9_takeRow_2]
theorem zX9_takeRow : SndC mX9_takeRow 0 kX9_takeRow := SndC.c zX9_takeRow_0 (by decide) (SndC.c zX9_takeRow_1 (by decide) (SndC.c zX9_takeRow_2 (by decide) (SndC.n)))
theorem aX9_takeRow_0 : at_ kX9_takeRow 0 = (0, oRload 0 1) := rfl
theorem aX9_takeRow_1 : at_ kX9_takeRow 1 = (0, oPush (vI 1) 2) := rfl
theorem aX9_takeRow_2 : at_ kX9_takeRow 2 = (0, oPutf 11 1 3 5) := rfl
theorem aX9_takeRow_5 : at_ kX9_takeRow 5 = (0, oRload 0 6) := rfl
theorem aX9_takeRow_6 : at_ kX9_takeRow 6 = (0, oPush (vR 0) 7) := rfl
theorem aX9_takeRow_7 : at_ kX9_takeRow 7 = (0, oPutf 11 4 2 10) := rfl
theorem aX9_takeRow_10 : at_ kX9_takeRow 10 = (0, oRload 0 11) := rfl
theorem aX9_takeRow_11 : at_ kX9_takeRow 11 = (0, oIload 1 12) := rfl
theorem aX9_takeRow_12 : at_ kX9_takeRow 12 = (0, oPutf 11 2 0 15) := rfl
theorem aX9_takeRow_15 : at_ kX9_takeRow 15 = (0, oRload 0 16) := rfl
theorem aX9_takeRow_16 : at_ kX9_takeRow 16 = (0, oIload 2 17) := rfl
theorem aX9_takeRow_17 : at_ kX9_takeRow 17 = (0, oPutf 11 3 0 20) := rfl
theorem aX9_takeRow_20 : at_ kX9_takeRow 20 = (0, oPush (vI 0) 21) := rfl
theorem aX9_takeRow_21 : at_ kX9_takeRow 21 = (0, oIstore 3 22) := rfl
theorem aX9_takeRow_22 : at_ kX9_takeRow 22 = (1, oIload 3 23) := rfl
theorem aX9_takeRow_23 : at_ kX9_takeRow 23 = (0, oPush (vI 60) 25) := rfl
theorem aX9_takeRow_25 : at_ kX9_takeRow 25 = (0, oIcGe 41 28) := rfl
theorem aX9_takeRow_28 : at_ kX9_takeRow 28 = (0, oRload 0 29) := rfl
theorem aX9_takeRow_29 : at_ kX9_takeRow 29 = (0, oGetf 11 0 2 32) := rfl
theorem aX9_takeRow_32 : at_ kX9_takeRow 32 = (0, oIload 3 33) := rfl
theorem aX9_takeRow_33 : at_ kX9_takeRow 33 = (0, oPush (vL 0) 34) := rfl
theorem aX9_takeRow_34 : at_ kX9_takeRow 34 = (0, oLast 35) := rfl
theorem aX9_takeRow_35 : at_ kX9_takeRow 35 = (0, oIinc 3 1 38) := rfl
theorem aX9_takeRow_38 : at_ kX9_takeRow 38 = (0, oGoto 22) := rfl
theorem aX9_takeRow_41 : at_ kX9_takeRow 41 = (0, oRetV) := rfl
def kX9_takeClaim_0 : List En := [(0, oRload 0 1), (0, oPush (vI 0) 2), (0, oPutf 11 1 3 5), (1, oFail), (1, oFail), (0, oRload 0 6), (0, oRload 1 7), (0, oPutf 11 4 2 10), (1, oFail), (1, oFail), (0, oRetV)]
set_option maxRecDepth 20000 in
theorem zX9_takeClaim_0 : SndL mX9_takeClaim 0 kX9_takeClaim_0 := SndL.c (s_aload_n (k := 0) (by decide +kernel) rfl) (SndL.c (s_iconst (by decide +kernel) (in32_d (by decide))) (SndL.c (s_putf (k := 1) clok10 (by decide) rfl (by decide) rfl w_1_170 (Or.inl rfl) (Or.inl rfl) (by decide +kernel)) (SndL.c (s_fail) (SndL.c (s_fail) (SndL.c (s_aload_n (k := 0) (by decide +kernel) rfl) (SndL.c (s_aload_n (k := 1) (by decide +kernel) rfl) (SndL.c (s_putf (k := 4) clok10 (by decide) rfl (by decide) rfl w_1_177 (Or.inl rfl) (Or.inl rfl) (by decide +kernel)) (SndL.c (s_fail) (SndL.c (s_fail) (SndL.c (s_ret_v rfl (by decide +kernel)) (SndL.n)))))))))))
def kX9_takeClaim : Cd := [kX9_takeClaim_0]
theorem zX9_takeClaim : SndC mX9_takeClaim 0 kX9_takeClaim := SndC.c zX9_takeClaim_0 (by decide) (SndC.n)
theorem aX9_takeClaim_0 : at_ kX9_takeClaim 0 = (0, oRload 0 1) := rfl
theorem aX9_takeClaim_1 : at_ kX9_takeClaim 1 = (0, oPush (vI 0) 2) := rfl
theorem aX9_takeClaim_2 : at_ kX9_takeClaim 2 = (0, oPutf 11 1 3 5) := rfl
theorem aX9_takeClaim_5 : at_ kX9_takeClaim 5 = (0, oRload 0 6) := rfl
theorem aX9_takeClaim_6 : at_ kX9_takeClaim 6 = (0, oRload 1 7) := rfl
theorem aX9_takeClaim_7 : at_ kX9_takeClaim 7 = (0, oPutf 11 4 2 10) := rfl
theorem aX9_takeClaim_10 : at_ kX9_takeClaim 10 = (0, oRetV) := rfl
def kX9_takeNothing_0 : List En := [(0, oRload 0 1), (0, oPush (vI 0) 2), (0, oPutf 11 1 3 5), (1, oFail), (1, oFail), (0, oRload 0 6), (0, oPush (vR 0) 7), (0, oPutf 11 4 2 10), (1, oFail), (1, oFail), (0, oRetV)]
set_option maxRecDepth 20000 in
theorem zX9_takeNothing_0 : SndL mX9_takeNothing 0 kX9_takeNothing_0 := SndL.c (s_aload_n (k := 0) (by decide +kernel) rfl) (SndL.c (s_iconst (by decide +kernel) (in32_d (by decide))) (SndL.c (s_putf (k := 1) clok10 (by decide) rfl (by decide) rfl w_1_170 (Or.inl rfl) (Or.inl rfl) (by decide +kernel)) (SndL.c (s_fail) (SndL.c (s_fail) (SndL.c (s_aload_n (k := 0) (by decide +kernel) rfl) (SndL.c (s_null (by decide +kernel)) (SndL.c (s_putf (k := 4) clok10 (by decide) rfl (by decide) rfl w_1_177 (Or.inl rfl) (Or.inl rfl) (by decide +kernel)) (SndL.c (s_fail) (SndL.c (s_fail) (SndL.c (s_ret_v rfl (by decide +kernel)) (SndL.n)))))))))))
def kX9_takeNothing : Cd := [kX9_takeNothing_0]
theorem zX9_takeNothing : SndC mX9_takeNothing 0 kX9_takeNothing := SndC.c zX9_takeNothing_0 (by decide) (SndC.n)
theorem aX9_takeNothing_0 : at_ kX9_takeNothing 0 = (0, oRload 0 1) := rfl
theorem aX9_takeNothing_1 : at_ kX9_takeNothing 1 = (0, oPush (vI 0) 2) := rfl
theorem aX9_takeNothing_2 : at_ kX9_takeNothing 2 = (0, oPutf 11 1 3 5) := rfl
theorem aX9_takeNothing_5 : at_ kX9_takeNothing 5 = (0, oRload 0 6) := rfl
theorem aX9_takeNothing_6 : at_ kX9_takeNothing 6 = (0, oPush (vR 0) 7) := rfl
theorem aX9_takeNothing_7 : at_ kX9_takeNothing 7 = (0, oPutf 11 4 2 10) := rfl
theorem aX9_takeNothing_10 : at_ kX9_takeNothing 10 = (0, oRetV) := rfl
def kX9_cut_0 : List En := [(0, oPush (vI 64) 2), (1, oFail), (0, oPush (vI 8) 4), (1, oFail), (0, oRload 0 5), (0, oGetf 11 2 0 8), (1, oFail), (1, oFail), (0, oIshl 9), (0, oIsub 10), (0, oIstore 3 11), (0, oLload 1 12), (0, oIload 3 13), (0, oLshl 14), (0, oIload 3 15), (0, oLshr 16)]
set_option maxRecDepth 20000 in
theorem zX9_cut_0 : SndL mX9_cut 0 kX9_cut_0 := SndL.c (s_bipush (by decide +kernel) (in32_d (by decide)) (by decide +kernel)) (SndL.c (s_fail) (SndL.c (s_bipush (by decide +kernel) (in32_d (by decide)) (by decide +kernel)) (SndL.c (s_fail) (SndL.c (s_aload_n (k := 0) (by decide +kernel) rfl) (SndL.c (s_getf (k := 2) clok10 (by decide) rfl (by decide) rfl w_1_172 (Or.inl rfl) (by decide +kernel)) (SndL.c (s_fail) (SndL.c (s_fail) (SndL.c (s_ishl (by decide +kernel)) (SndL.c (s_isub (by decide +kernel)) (SndL.c (s_istore_n (k := 3) (by decide +kernel) rfl (by decide)) (SndL.c (s_lload_n (k := 1) (by decide +kernel) rfl) (SndL.c (s_iload_n (k := 3) (by decide +kernel) rfl) (SndL.c (s_lshl (by decide +kernel)) (SndL.c (s_iload_n (k := 3) (by decide +kernel) rfl) (SndL.c (s_lshr (by decide +kernel)) (SndL.n))))))))))))))))
def kX9_cut_1 : List En := [(0, oRetL)]
set_option maxRecDepth 20000 in
theorem zX9_cut_1 : SndL mX9_cut 16 kX9_cut_1 := SndL.c (s_ret_l rfl (by decide +kernel)) (SndL.n)
def kX9_cut : Cd := [kX9_cut_0, kX9_cut_1]
theorem zX9_cut : SndC mX9_cut 0 kX9_cut := SndC.c zX9_cut_0 (by decide) (SndC.c zX9_cut_1 (by decide) (SndC.n))
theorem aX9_cut_0 : at_ kX9_cut 0 = (0, oPush (vI 64) 2) := rfl
theorem aX9_cut_2 : at_ kX9_cut 2 = (0, oPush (vI 8) 4) := rfl
theorem aX9_cut_4 : at_ kX9_cut 4 = (0, oRload 0 5) := rfl
theorem aX9_cut_5 : at_ kX9_cut 5 = (0, oGetf 11 2 0 8) := rfl
theorem aX9_cut_8 : at_ kX9_cut 8 = (0, oIshl 9) := rfl
theorem aX9_cut_9 : at_ kX9_cut 9 = (0, oIsub 10) := rfl
theorem aX9_cut_10 : at_ kX9_cut 10 = (0, oIstore 3 11) := rfl
theorem aX9_cut_11 : at_ kX9_cut 11 = (0, oLload 1 12) := rfl
theorem aX9_cut_12 : at_ kX9_cut 12 = (0, oIload 3 13) := rfl
theorem aX9_cut_13 : at_ kX9_cut 13 = (0, oLshl 14) := rfl
theorem aX9_cut_14 : at_ kX9_cut 14 = (0, oIload 3 15) := rfl
theorem aX9_cut_15 : at_ kX9_cut 15 = (0, oLshr 16) := rfl
theorem aX9_cut_16 : at_ kX9_cut 16 = (0, oRetL) := rfl
def kX9_intAt_0 : List En := [(0, oIload 1 1), (0, oIfLt 20 4), (1, oFail), (1, oFail), (0, oIload 1 5), (0, oPush (vI 60) 7), (1, oFail), (0, oIcGe 20 10), (1, oFail), (1, oFail), (0, oRload 0 11), (0, oGetf 11 0 2 14), (1, oFail), (1, oFail), (0, oIload 1 15), (0, oLald 16)]
set_option maxRecDepth 20000 in
theorem zX9_intAt_0 : SndL mX9_intAt 0 kX9_intAt_0 := SndL.c (s_iload_n (k := 1) (by decide +kernel) rfl) (SndL.c (s_if_lt (off := 19) (by decide +kernel) (by decide)) (SndL.c (s_fail) (SndL.c (s_fail) (SndL.c (s_iload_n (k := 1) (by decide +kernel) rfl) (SndL.c (s_bipush (by decide +kernel) (in32_d (by decide)) (by decide +kernel)) (SndL.c (s_fail) (SndL.c (s_ic_ge (off := 13) (by decide +kernel) (by decide)) (SndL.c (s_fail) (SndL.c (s_fail) (SndL.c (s_aload_n (k := 0) (by decide +kernel) rfl) (SndL.c (s_getf (k := 0) clok10 (by decide) rfl (by decide) rfl w_1_168 (Or.inl rfl) (by decide +kernel)) (SndL.c (s_fail) (SndL.c (s_fail) (SndL.c (s_iload_n (k := 1) (by decide +kernel) rfl) (SndL.c (s_lald (by decide +kernel)) (SndL.n))))))))))))))))
def kX9_intAt_1 : List En := [(0, oL2i 17), (0, oGoto 21), (1, oFail), (1, oFail), (0, oPush (vI 0) 21), (0, oRetI)]
set_option maxRecDepth 20000 in
theorem zX9_intAt_1 : SndL mX9_intAt 16 kX9_intAt_1 := SndL.c (s_l2i (by decide +kernel)) (SndL.c (s_goto (off := 4) (by decide +kernel) (by decide)) (SndL.c (s_fail) (SndL.c (s_fail) (SndL.c (s_iconst (by decide +kernel) (in32_d (by decide))) (SndL.c (s_ret_i rfl (by decide +kernel)) (SndL.n))))))
def kX9_intAt : Cd := [kX9_intAt_0, kX9_intAt_1]
theorem zX9_intAt : SndC mX9_intAt 0 kX9_intAt := SndC.c zX9_intAt_0 (by decide) (SndC.c zX9_intAt_1 (by decide) (SndC.n))
theorem aX9_intAt_0 : at_ kX9_intAt 0 = (0, oIload 1 1) := rfl
theorem aX9_intAt_1 : at_ kX9_intAt 1 = (0, oIfLt 20 4) := rfl
theorem aX9_intAt_4 : at_ kX9_intAt 4 = (0, oIload 1 5) := rfl
theorem aX9_intAt_5 : at_ kX9_intAt 5 = (0, oPush (vI 60) 7) := rfl
theorem aX9_intAt_7 : at_ kX9_intAt 7 = (0, oIcGe 20 10) := rfl
theorem aX9_intAt_10 : at_ kX9_intAt 10 = (0, oRload 0 11) := rfl
theorem aX9_intAt_11 : at_ kX9_intAt 11 = (0, oGetf 11 0 2 14) := rfl
theorem aX9_intAt_14 : at_ kX9_intAt 14 = (0, oIload 1 15) := rfl
theorem aX9_intAt_15 : at_ kX9_intAt 15 = (0, oLald 16) := rfl
theorem aX9_intAt_16 : at_ kX9_intAt 16 = (0, oL2i 17) := rfl
theorem aX9_intAt_17 : at_ kX9_intAt 17 = (0, oGoto 21) := rfl
theorem aX9_intAt_20 : at_ kX9_intAt 20 = (0, oPush (vI 0) 21) := rfl
theorem aX9_intAt_21 : at_ kX9_intAt 21 = (0, oRetI) := rfl
def kX9_isMissing_0 : List En := [(0, oIload 1 1), (0, oIfLt 37 4), (1, oFail), (1, oFail), (0, oIload 1 5), (0, oPush (vI 60) 7), (1, oFail), (0, oIcGe 37 10), (1, oFail), (1, oFail), (0, oRload 0 11), (0, oGetf 11 0 2 14), (1, oFail), (1, oFail), (0, oIload 1 15), (0, oLald 16)]
set_option maxRecDepth 20000 in
theorem zX9_isMissing_0 : SndL mX9_isMissing 0 kX9_isMissing_0 := SndL.c (s_iload_n (k := 1) (by decide +kernel) rfl) (SndL.c (s_if_lt (off := 36) (by decide +kernel) (by decide)) (SndL.c (s_fail) (SndL.c (s_fail) (SndL.c (s_iload_n (k := 1) (by decide +kernel) rfl) (SndL.c (s_bipush (by decide +kernel) (in32_d (by decide)) (by decide +kernel)) (SndL.c (s_fail) (SndL.c (s_ic_ge (off := 30) (by decide +kernel) (by decide)) (SndL.c (s_fail) (SndL.c (s_fail) (SndL.c (s_aload_n (k := 0) (by decide +kernel) rfl) (SndL.c (s_getf (k := 0) clok10 (by decide) rfl (by decide) rfl w_1_168 (Or.inl rfl) (by decide +kernel)) (SndL.c (s_fail) (SndL.c (s_fail) (SndL.c (s_iload_n (k := 1) (by decide +kernel) rfl) (SndL.c (s_lald (by decide +kernel)) (SndL.n))))))))))))))))
def kX9_isMissing_1 : List En := [(0, oPush (vL (-1)) 19), (1, oFail), (1, oFail), (0, oPush (vI 8) 21), (1, oFail), (0, oRload 0 22), (0, oGetf 11 2 0 25), (1, oFail), (1, oFail), (0, oIshl 26), (0, oPush (vI 1) 27), (0, oIsub 28), (0, oLshl 29), (0, oLcmp 30), (0, oIfNe 37 33), (1, oFail)]
set_option maxRecDepth 20000 in
theorem zX9_isMissing_1 : SndL mX9_isMissing 16 kX9_isMissing_1 := SndL.c (s_ldc2 (by decide +kernel) (in64_d (by decide)) w_3_174) (SndL.c (s_fail) (SndL.c (s_fail) (SndL.c (s_bipush (by decide +kernel) (in32_d (by decide)) (by decide +kernel)) (SndL.c (s_fail) (SndL.c (s_aload_n (k := 0) (by decide +kernel) rfl) (SndL.c (s_getf (k := 2) clok10 (by decide) rfl (by decide) rfl w_1_172 (Or.inl rfl) (by decide +kernel)) (SndL.c (s_fail) (SndL.c (s_fail) (SndL.c (s_ishl (by decide +kernel)) (SndL.c (s_iconst (by decide +kernel) (in32_d (by decide))) (SndL.c (s_isub (by decide +kernel)) (SndL.c (s_lshl (by decide +kernel)) (SndL.c (s_lcmp (by decide +kernel)) (SndL.c (s_if_ne (off := 7) (by decide +kernel) (by decide)) (SndL.c (s_fail) (SndL.n))))))))))))))))
def kX9_isMissing_2 : List En := [(1, oFail), (0, oPush (vI 1) 34), (0, oGoto 38), (1, oFail), (1, oFail), (0, oPush (vI 0) 38), (0, oRetZ)]
set_option maxRecDepth 20000 in
theorem zX9_isMissing_2 : SndL mX9_isMissing 32 kX9_isMissing_2 := SndL.c (s_fail) (SndL.c (s_iconst (by decide +kernel) (in32_d (by decide))) (SndL.c (s_goto (off := 4) (by decide +kernel) (by decide)) (SndL.c (s_fail) (SndL.c (s_fail) (SndL.c (s_iconst (by decide +kernel) (in32_d (by decide))) (SndL.c (s_ret_z rfl (by decide +kernel)) (SndL.n)))))))
def kX9_isMissing : Cd := [kX9_isMissing_0, kX9_isMissing_1, kX9_isMissing_2]
theorem zX9_isMissing : SndC mX9_isMissing 0 kX9_isMissing := SndC.c zX9_isMissing_0 (by decide) (SndC.c zX9_isMissing_1 (by decide) (SndC.c zX9_isMissing_2 (by decide) (SndC.n)))
theorem aX9_isMissing_0 : at_ kX9_isMissing 0 = (0, oIload 1 1) := rfl
theorem aX9_isMissing_1 : at_ kX9_isMissing 1 = (0, oIfLt 37 4) := rfl
theorem aX9_isMissing_4 : at_ kX9_isMissing 4 = (0, oIload 1 5) := rfl
theorem aX9_isMissing_5 : at_ kX9_isMissing 5 = (0, oPush (vI 60) 7) := rfl
theorem aX9_isMissing_7 : at_ kX9_isMissing 7 = (0, oIcGe 37 10) := rfl
theorem aX9_isMissing_10 : at_ kX9_isMissing 10 = (0, oRload 0 11) := rfl
theorem aX9_isMissing_11 : at_ kX9_isMissing 11 = (0, oGetf 11 0 2 14) := rfl
theorem aX9_isMissing_14 : at_ kX9_isMissing 14 = (0, oIload 1 15) := rfl
theorem aX9_isMissing_15 : at_ kX9_isMissing 15 = (0, oLald 16) := rfl
theorem aX9_isMissing_16 : at_ kX9_isMissing 16 = (0, oPush (vL (-1)) 19) := rfl
theorem aX9_isMissing_19 : at_ kX9_isMissing 19 = (0, oPush (vI 8) 21) := rfl
theorem aX9_isMissing_21 : at_ kX9_isMissing 21 = (0, oRload 0 22) := rfl
theorem aX9_isMissing_22 : at_ kX9_isMissing 22 = (0, oGetf 11 2 0 25) := rfl
theorem aX9_isMissing_25 : at_ kX9_isMissing 25 = (0, oIshl 26) := rfl
theorem aX9_isMissing_26 : at_ kX9_isMissing 26 = (0, oPush (vI 1) 27) := rfl
theorem aX9_isMissing_27 : at_ kX9_isMissing 27 = (0, oIsub 28) := rfl
theorem aX9_isMissing_28 : at_ kX9_isMissing 28 = (0, oLshl 29) := rfl
theorem aX9_isMissing_29 : at_ kX9_isMissing 29 = (0, oLcmp 30) := rfl
theorem aX9_isMissing_30 : at_ kX9_isMissing 30 = (0, oIfNe 37 33) := rfl
theorem aX9_isMissing_33 : at_ kX9_isMissing 33 = (0, oPush (vI 1) 34) := rfl
theorem aX9_isMissing_34 : at_ kX9_isMissing 34 = (0, oGoto 38) := rfl
theorem aX9_isMissing_37 : at_ kX9_isMissing 37 = (0, oPush (vI 0) 38) := rfl
theorem aX9_isMissing_38 : at_ kX9_isMissing 38 = (0, oRetZ) := rfl
def kX9_asInts_0 : List En := [(0, oRload 0 1), (0, oGetf 11 3 0 4), (1, oFail), (1, oFail), (0, oNewa 100 6), (1, oFail), (0, oRstore 1 7), (0, oPush (vI 0) 8), (0, oIstore 2 9), (1, oIload 2 10), (0, oRload 0 11), (0, oGetf 11 3 0 14), (1, oFail), (1, oFail), (0, oIcGe 31 17), (1, oFail)]
set_option maxRecDepth 20000 in
theorem zX9_asInts_0 : SndL mX9_asInts 0 kX9_asInts_0 := SndL.c (s_aload_n (k := 0) (by decide +kernel) rfl) (SndL.c (s_getf (k := 3) clok10 (by decide) rfl (by decide) rfl w_1_174 (Or.inl rfl) (by decide +kernel)) (SndL.c (s_fail) (SndL.c (s_fail) (SndL.c (s_newa (kd := 100) (atype := .int) (akd_d (by decide)) rfl (by decide) w_1_104 (fun _ _ h => h) (by decide +kernel)) (SndL.c (s_fail) (SndL.c (s_astore_n (k := 1) (by decide +kernel) rfl (by decide)) (SndL.c (s_iconst (by decide +kernel) (in32_d (by decide))) (SndL.c (s_istore_n (k := 2) (by decide +kernel) rfl (by decide)) (SndL.c (s_iload_n (k := 2) (by decide +kernel) rfl) (SndL.c (s_aload_n (k := 0) (by decide +kernel) rfl) (SndL.c (s_getf (k := 3) clok10 (by decide) rfl (by decide) rfl w_1_174 (Or.inl rfl) (by decide +kernel)) (SndL.c (s_fail) (SndL.c (s_fail) (SndL.c (s_ic_ge (off := 17) (by decide +kernel) (by decide)) (SndL.c (s_fail) (SndL.n))))))))))))))))
def kX9_asInts_1 : List En := [(1, oFail), (0, oRload 1 18), (0, oIload 2 19), (0, oRload 0 20), (0, oIload 2 21), (2, oInvV 11 mX9_intAt 1 24), (1, oFail), (1, oFail), (0, oIast 25), (0, oIinc 2 1 28), (1, oFail), (1, oFail), (0, oGoto 9), (1, oFail), (1, oFail), (0, oRload 1 32)]
set_option maxRecDepth 20000 in
theorem zX9_asInts_1 : SndL mX9_asInts 16 kX9_asInts_1 := SndL.c (s_fail) (SndL.c (s_aload_n (k := 1) (by decide +kernel) rfl) (SndL.c (s_iload_n (k := 2) (by decide +kernel) rfl) (SndL.c (s_aload_n (k := 0) (by decide +kernel) rfl) (SndL.c (s_iload_n (k := 2) (by decide +kernel) rfl) (SndL.c (s_invV (r := (RX9, TX9, 5)) (ci := 10) okX9_intAt rfl (by decide) rfl rfl w_2_73 w_2_74 w_2_75 (by decide +kernel)) (SndL.c (s_fail) (SndL.c (s_fail) (SndL.c (s_iast (by decide +kernel)) (SndL.c (s_iinc (by decide +kernel) (by decide)) (SndL.c (s_fail) (SndL.c (s_fail) (SndL.c (s_goto (off := -19) (by decide +kernel) (by decide)) (SndL.c (s_fail) (SndL.c (s_fail) (SndL.c (s_aload_n (k := 1) (by decide +kernel) rfl) (SndL.n))))))))))))))))
def kX9_asInts_2 : List En := [(0, oRetA)]
set_option maxRecDepth 20000 in
theorem zX9_asInts_2 : SndL mX9_asInts 32 kX9_asInts_2 := SndL.c (s_ret_a rfl (Or.inr ⟨_, rfl⟩) (by decide +kernel)) (SndL.n)
def kX9_asInts : Cd := [kX9_asInts_0, kX9_asInts_1, kX9_asInts_2]
theorem zX9_asInts : SndC mX9_asInts 0 kX9_asInts := SndC.c zX9_asInts_0 (by decide) (SndC.c zX9_asInts_1 (by decide) (SndC.c zX9_asInts_2 (by decide) (SndC.n)))
theorem aX9_asInts_0 : at_ kX9_asInts 0 = (0, oRload 0 1) := rfl
theorem aX9_asInts_1 : at_ kX9_asInts 1 = (0, oGetf 11 3 0 4) := rfl
theorem aX9_asInts_4 : at_ kX9_asInts 4 = (0, oNewa 100 6) := rfl
theorem aX9_asInts_6 : at_ kX9_asInts 6 = (0, oRstore 1 7) := rfl
theorem aX9_asInts_7 : at_ kX9_asInts 7 = (0, oPush (vI 0) 8) := rfl
theorem aX9_asInts_8 : at_ kX9_asInts 8 = (0, oIstore 2 9) := rfl
theorem aX9_asInts_9 : at_ kX9_asInts 9 = (1, oIload 2 10) := rfl
theorem aX9_asInts_10 : at_ kX9_asInts 10 = (0, oRload 0 11) := rfl
theorem aX9_asInts_11 : at_ kX9_asInts 11 = (0, oGetf 11 3 0 14) := rfl
theorem aX9_asInts_14 : at_ kX9_asInts 14 = (0, oIcGe 31 17) := rfl
theorem aX9_asInts_17 : at_ kX9_asInts 17 = (0, oRload 1 18) := rfl
theorem aX9_asInts_18 : at_ kX9_asInts 18 = (0, oIload 2 19) := rfl
theorem aX9_asInts_19 : at_ kX9_asInts 19 = (0, oRload 0 20) := rfl
theorem aX9_asInts_20 : at_ kX9_asInts 20 = (0, oIload 2 21) := rfl
theorem aX9_asInts_21 : at_ kX9_asInts 21 = (2, oInvV 11 mX9_intAt 1 24) := rfl
theorem aX9_asInts_24 : at_ kX9_asInts 24 = (0, oIast 25) := rfl
theorem aX9_asInts_25 : at_ kX9_asInts 25 = (0, oIinc 2 1 28) := rfl
theorem aX9_asInts_28 : at_ kX9_asInts 28 = (0, oGoto 9) := rfl
theorem aX9_asInts_31 : at_ kX9_asInts 31 = (0, oRload 1 32) := rfl
theorem aX9_asInts_32 : at_ kX9_asInts 32 = (0, oRetA) := rfl
def kX9_given_0 : List En := [(0, oPush (vI 0) 1), (0, oIstore 1 2), (0, oPush (vI 0) 3), (0, oIstore 2 4), (1, oIload 2 5), (0, oRload 0 6), (0, oGetf 11 3 0 9), (1, oFail), (1, oFail), (0, oIcGe 34 12), (1, oFail), (1, oFail), (0, oIload 1 13), (0, oRload 0 14), (0, oIload 2 15), (2, oInvV 11 mX9_isMissing 1 18)]
set_option maxRecDepth 20000 in
theorem zX9_given_0 : SndL mX9_given 0 kX9_given_0 := SndL.c (s_iconst (by decide +kernel) (in32_d (by decide))) (SndL.c (s_istore_n (k := 1) (by decide +kernel) rfl (by decide)) (SndL.c (s_iconst (by decide +kernel) (in32_d (by decide))) (SndL.c (s_istore_n (k := 2) (by decide +kernel) rfl (by decide)) (SndL.c (s_iload_n (k := 2) (by decide +kernel) rfl) (SndL.c (s_aload_n (k := 0) (by decide +kernel) rfl) (SndL.c (s_getf (k := 3) clok10 (by decide) rfl (by decide) rfl w_1_174 (Or.inl rfl) (by decide +kernel)) (SndL.c (s_fail) (SndL.c (s_fail) (SndL.c (s_ic_ge (off := 25) (by decide +kernel) (by decide)) (SndL.c (s_fail) (SndL.c (s_fail) (SndL.c (s_iload_n (k := 1) (by decide +kernel) rfl) (SndL.c (s_aload_n (k := 0) (by decide +kernel) rfl) (SndL.c (s_iload_n (k := 2) (by decide +kernel) rfl) (SndL.c (s_invV (r := (RX9, TX9, 5)) (ci := 10) okX9_isMissing rfl (by decide) rfl rfl w_3_170 w_3_171 w_3_172 (by decide +kernel)) (SndL.n))))))))))))))))
def kX9_given_1 : List En := [(1, oFail), (1, oFail), (0, oIfEq 25 21), (1, oFail), (1, oFail), (0, oPush (vI 0) 22), (0, oGoto 26), (1, oFail), (1, oFail), (0, oPush (vI 1) 26), (0, oIadd 27), (0, oIstore 1 28), (0, oIinc 2 1 31), (1, oFail), (1, oFail), (0, oGoto 4)]
set_option maxRecDepth 20000 in
theorem zX9_given_1 : SndL mX9_given 16 kX9_given_1 := SndL.c (s_fail) (SndL.c (s_fail) (SndL.c (s_if_eq (off := 7) (by decide +kernel) (by decide)) (SndL.c (s_fail) (SndL.c (s_fail) (SndL.c (s_iconst (by decide +kernel) (in32_d (by decide))) (SndL.c (s_goto (off := 4) (by decide +kernel) (by decide)) (SndL.c (s_fail) (SndL.c (s_fail) (SndL.c (s_iconst (by decide +kernel) (in32_d (by decide))) (SndL.c (s_iadd (by decide +kernel)) (SndL.c (s_istore_n (k := 1) (by decide +kernel) rfl (by decide)) (SndL.c (s_iinc (by decide +kernel) (by decide)) (SndL.c (s_fail) (SndL.c (s_fail) (SndL.c (s_goto (off := -27) (by decide +kernel) (by decide)) (SndL.n))))))))))))))))
def kX9_given_2 : List En := [(1, oFail), (1, oFail), (0, oIload 1 35), (0, oNewa 100 37), (1, oFail), (0, oRstore 2 38), (0, oPush (vI 0) 39), (0, oIstore 3 40), (0, oPush (vI 0) 41), (0, oIstore 4 43), (1, oFail), (1, oIload 4 45), (1, oFail), (0, oRload 0 46), (0, oGetf 11 3 0 49), (1, oFail)]
set_option maxRecDepth 20000 in
theorem zX9_given_2 : SndL mX9_given 32 kX9_given_2 := SndL.c (s_fail) (SndL.c (s_fail) (SndL.c (s_iload_n (k := 1) (by decide +kernel) rfl) (SndL.c (s_newa (kd := 100) (atype := .int) (akd_d (by decide)) rfl (by decide) w_1_104 (fun _ _ h => h) (by decide +kernel)) (SndL.c (s_fail) (SndL.c (s_astore_n (k := 2) (by decide +kernel) rfl (by decide)) (SndL.c (s_iconst (by decide +kernel) (in32_d (by decide))) (SndL.c (s_istore_n (k := 3) (by decide +kernel) rfl (by decide)) (SndL.c (s_iconst (by decide +kernel) (in32_d (by decide))) (SndL.c (s_istore (by decide +kernel) (by decide)) (SndL.c (s_fail) (SndL.c (s_iload (by decide +kernel)) (SndL.c (s_fail) (SndL.c (s_aload_n (k := 0) (by decide +kernel) rfl) (SndL.c (s_getf (k := 3) clok10 (by decide) rfl (by decide) rfl w_1_174 (Or.inl rfl) (by decide +kernel)) (SndL.c (s_fail) (SndL.n))))))))))))))))
def kX9_given_3 : List En := [(1, oFail), (0, oIcGe 84 52), (1, oFail), (1, oFail), (0, oRload 0 53), (0, oIload 4 55), (1, oFail), (2, oInvV 11 mX9_isMissing 1 58), (1, oFail), (1, oFail), (0, oIfNe 78 61), (1, oFail), (1, oFail), (0, oIload 3 62), (0, oIload 1 63), (0, oIcGe 78 66)]
set_option maxRecDepth 20000 in
theorem zX9_given_3 : SndL mX9_given 48 kX9_given_3 := SndL.c (s_fail) (SndL.c (s_ic_ge (off := 35) (by decide +kernel) (by decide)) (SndL.c (s_fail) (SndL.c (s_fail) (SndL.c (s_aload_n (k := 0) (by decide +kernel) rfl) (SndL.c (s_iload (by decide +kernel)) (SndL.c (s_fail) (SndL.c (s_invV (r := (RX9, TX9, 5)) (ci := 10) okX9_isMissing rfl (by decide) rfl rfl w_3_170 w_3_171 w_3_172 (by decide +kernel)) (SndL.c (s_fail) (SndL.c (s_fail) (SndL.c (s_if_ne (off := 20) (by decide +kernel) (by decide)) (SndL.c (s_fail) (SndL.c (s_fail) (SndL.c (s_iload_n (k := 3) (by decide +kernel) rfl) (SndL.c (s_iload_n (k := 1) (by decide +kernel) rfl) (SndL.c (s_ic_ge (off := 15) (by decide +kernel) (by decide)) (SndL.n))))))))))))))))
def kX9_given_4 : List En := [(1, oFail), (1, oFail), (0, oRload 2 67), (0, oIload 3 68), (0, oRload 0 69), (0, oIload 4 71), (1, oFail), (2, oInvV 11 mX9_intAt 1 74), (1, oFail), (1, oFail), (0, oIast 75), (0, oIinc 3 1 78), (1, oFail), (1, oFail), (0, oIinc 4 1 81), (1, oFail)]
set_option maxRecDepth 20000 in
theorem zX9_given_4 : SndL mX9_given 64 kX9_given_4 := SndL.c (s_fail) (SndL.c (s_fail) (SndL.c (s_aload_n (k := 2) (by decide +kernel) rfl) (SndL.c (s_iload_n (k := 3) (by decide +kernel) rfl) (SndL.c (s_aload_n (k := 0) (by decide +kernel) rfl) (SndL.c (s_iload (by decide +kernel)) (SndL.c (s_fail) (SndL.c (s_invV (r := (RX9, TX9, 5)) (ci := 10) okX9_intAt rfl (by decide) rfl rfl w_2_73 w_2_74 w_2_75 (by decide +kernel)) (SndL.c (s_fail) (SndL.c (s_fail) (SndL.c (s_iast (by decide +kernel)) (SndL.c (s_iinc (by decide +kernel) (by decide)) (SndL.c (s_fail) (SndL.c (s_fail) (SndL.c (s_iinc (by decide +kernel) (by decide)) (SndL.c (s_fail) (SndL.n))))))))))))))))
def kX9_given_5 : List En := [(1, oFail), (0, oGoto 43), (1, oFail), (1, oFail), (0, oRload 2 85), (0, oRetA)]
set_option maxRecDepth 20000 in
theorem zX9_given_5 : SndL mX9_given 80 kX9_given_5 := SndL.c (s_fail) (SndL.c (s_goto (off := -38) (by decide +kernel) (by decide)) (SndL.c (s_fail) (SndL.c (s_fail) (SndL.c (s_aload_n (k := 2) (by decide +kernel) rfl) (SndL.c (s_ret_a rfl (Or.inr ⟨_, rfl⟩) (by decide +kernel)) (SndL.n))))))
def kX9_given : Cd := [kX9_given_0, kX9_given_1, kX9_given_2, kX9_given_3, kX9_given_4, kX9_given_5]
theorem zX9_given : SndC mX9_given 0 kX9_given := SndC.c zX9_given_0 (by decide) (SndC.c zX9_given_1 (by decide) (SndC.c zX9_given_2 (by decide) (SndC.c zX9_given_3 (by decide) (SndC.c zX9_given_4 (by decide) (SndC.c zX9_given_5 (by decide) (SndC.n))))))
theorem aX9_given_0 : at_ kX9_given 0 = (0, oPush (vI 0) 1) := rfl
theorem aX9_given_1 : at_ kX9_given 1 = (0, oIstore 1 2) := rfl
theorem aX9_given_2 : at_ kX9_given 2 = (0, oPush (vI 0) 3) := rfl
theorem aX9_given_3 : at_ kX9_given 3 = (0, oIstore 2 4) := rfl
theorem aX9_given_4 : at_ kX9_given 4 = (1, oIload 2 5) := rfl
theorem aX9_given_5 : at_ kX9_given 5 = (0, oRload 0 6) := rfl
theorem aX9_given_6 : at_ kX9_given 6 = (0, oGetf 11 3 0 9) := rfl
theorem aX9_given_9 : at_ kX9_given 9 = (0, oIcGe 34 12) := rfl
theorem aX9_given_12 : at_ kX9_given 12 = (0, oIload 1 13) := rfl
theorem aX9_given_13 : at_ kX9_given 13 = (0, oRload 0 14) := rfl
theorem aX9_given_14 : at_ kX9_given 14 = (0, oIload 2 15) := rfl
theorem aX9_given_15 : at_ kX9_given 15 = (2, oInvV 11 mX9_isMissing 1 18) := rfl
theorem aX9_given_18 : at_ kX9_given 18 = (0, oIfEq 25 21) := rfl
theorem aX9_given_21 : at_ kX9_given 21 = (0, oPush (vI 0) 22) := rfl
theorem aX9_given_22 : at_ kX9_given 22 = (0, oGoto 26) := rfl
theorem aX9_given_25 : at_ kX9_given 25 = (0, oPush (vI 1) 26) := rfl
theorem aX9_given_26 : at_ kX9_given 26 = (0, oIadd 27) := rfl
theorem aX9_given_27 : at_ kX9_given 27 = (0, oIstore 1 28) := rfl
theorem aX9_given_28 : at_ kX9_given 28 = (0, oIinc 2 1 31) := rfl
theorem aX9_given_31 : at_ kX9_given 31 = (0, oGoto 4) := rfl
theorem aX9_given_34 : at_ kX9_given 34 = (0, oIload 1 35) := rfl
theorem aX9_given_35 : at_ kX9_given 35 = (0, oNewa 100 37) := rfl
theorem aX9_given_37 : at_ kX9_given 37 = (0, oRstore 2 38) := rfl
theorem aX9_given_38 : at_ kX9_given 38 = (0, oPush (vI 0) 39) := rfl
theorem aX9_given_39 : at_ kX9_given 39 = (0, oIstore 3 40) := rfl
theorem aX9_given_40 : at_ kX9_given 40 = (0, oPush (vI 0) 41) := rfl
theorem aX9_given_41 : at_ kX9_given 41 = (0, oIstore 4 43) := rfl
theorem aX9_given_43 : at_ kX9_given 43 = (1, oIload 4 45) := rfl
theorem aX9_given_45 : at_ kX9_given 45 = (0, oRload 0 46) := rfl
theorem aX9_given_46 : at_ kX9_given 46 = (0, oGetf 11 3 0 49) := rfl
theorem aX9_given_49 : at_ kX9_given 49 = (0, oIcGe 84 52) := rfl
theorem aX9_given_52 : at_ kX9_given 52 = (0, oRload 0 53) := rfl
theorem aX9_given_53 : at_ kX9_given 53 = (0, oIload 4 55) := rfl
theorem aX9_given_55 : at_ kX9_given 55 = (2, oInvV 11 mX9_isMissing 1 58) := rfl
theorem aX9_given_58 : at_ kX9_given 58 = (0, oIfNe 78 61) := rfl
theorem aX9_given_61 : at_ kX9_given 61 = (0, oIload 3 62) := rfl
theorem aX9_given_62 : at_ kX9_given 62 = (0, oIload 1 63) := rfl
theorem aX9_given_63 : at_ kX9_given 63 = (0, oIcGe 78 66) := rfl
theorem aX9_given_66 : at_ kX9_given 66 = (0, oRload 2 67) := rfl
theorem aX9_given_67 : at_ kX9_given 67 = (0, oIload 3 68) := rfl
theorem aX9_given_68 : at_ kX9_given 68 = (0, oRload 0 69) := rfl
theorem aX9_given_69 : at_ kX9_given 69 = (0, oIload 4 71) := rfl
theorem aX9_given_71 : at_ kX9_given 71 = (2, oInvV 11 mX9_intAt 1 74) := rfl
theorem aX9_given_74 : at_ kX9_given 74 = (0, oIast 75) := rfl
theorem aX9_given_75 : at_ kX9_given 75 = (0, oIinc 3 1 78) := rfl
theorem aX9_given_78 : at_ kX9_given 78 = (0, oIinc 4 1 81) := rfl
theorem aX9_given_81 : at_ kX9_given 81 = (0, oGoto 43) := rfl
theorem aX9_given_84 : at_ kX9_given 84 = (0, oRload 2 85) := rfl
theorem aX9_given_85 : at_ kX9_given 85 = (0, oRetA) := rfl
def kX10_init_0 : List En := [(0, oRload 0 1), (0, oObji 4), (1, oFail), (1, oFail), (0, oRload 0 5), (0, oPush (vI (-1)) 6), (0, oPutf 12 2 0 9), (1, oFail), (1, oFail), (0, oRload 0 10), (0, oIload 1 11), (0, oPutf 12 0 0 14), (1, oFail), (1, oFail), (0, oRload 0 15), (0, oIload 2 16)]
set_option maxRecDepth 20000 in
theorem zX10_init_0 : SndL mX10_init 0 kX10_init_0 := SndL.c (s_aload_n (k := 0) (by decide +kernel) rfl) (SndL.c (s_obji w_2_227 w_1_33 w_1_34 (by decide +kernel)) (SndL.c (s_fail) (SndL.c (s_fail) (SndL.c (s_aload_n (k := 0) (by decide +kernel) rfl) (SndL.c (s_iconst (by decide +kernel) (in32_d (by decide))) (SndL.c (s_putf (k := 2) clok11 (by decide) rfl (by decide) rfl w_2_230 (Or.inl rfl) (Or.inl rfl) (by decide +kernel)) (SndL.c (s_fail) (SndL.c (s_fail) (SndL.c (s_aload_n (k := 0) (by decide +kernel) rfl) (SndL.c (s_iload_n (k := 1) (by decide +kernel) rfl) (SndL.c (s_putf (k := 0) clok11 (by decide) rfl (by decide) rfl w_2_228 (Or.inl rfl) (Or.inr ⟨rfl, rfl, rfl⟩) (by decide +kernel)) (SndL.c (s_fail) (SndL.c (s_fail) (SndL.c (s_aload_n (k := 0) (by decide +kernel) rfl) (SndL.c (s_iload_n (k := 2) (by decide +kernel) rfl) (SndL.n))))))))))))))))
def kX10_init_1 : List En := [(0, oPutf 12 1 0 19), (1, oFail), (1, oFail), (0, oRetV)]
set_option maxRecDepth 20000 in
theorem zX10_init_1 : SndL mX10_init 16 kX10_init_1 := SndL.c (s_putf (k := 1) clok11 (by decide) rfl (by decide) rfl w_2_229 (Or.inl rfl) (Or.inr ⟨rfl, rfl, rfl⟩) (by decide +kernel)) (SndL.c (s_fail) (SndL.c (s_fail) (SndL.c (s_ret_v rfl (by decide +kernel)) (SndL.n))))
def kX10_init : Cd := [kX10_init_0, kX10_init_1]
theorem zX10_init : SndC mX10_init 0 kX10_init := SndC.c zX10_init_0 (by decide) (SndC.c zX10_init_1 (by decide) (SndC.n))
theorem aX10_init_0 : at_ kX10_init 0 = (0, oRload 0 1) := rfl
theorem aX10_init_1 : at_ kX10_init 1 = (0, oObji 4) := rfl
theorem aX10_init_4 : at_ kX10_init 4 = (0, oRload 0 5) := rfl
theorem aX10_init_5 : at_ kX10_init 5 = (0, oPush (vI (-1)) 6) := rfl
theorem aX10_init_6 : at_ kX10_init 6 = (0, oPutf 12 2 0 9) := rfl
theorem aX10_init_9 : at_ kX10_init 9 = (0, oRload 0 10) := rfl
theorem aX10_init_10 : at_ kX10_init 10 = (0, oIload 1 11) := rfl
theorem aX10_init_11 : at_ kX10_init 11 = (0, oPutf 12 0 0 14) := rfl
theorem aX10_init_14 : at_ kX10_init 14 = (0, oRload 0 15) := rfl
theorem aX10_init_15 : at_ kX10_init 15 = (0, oIload 2 16) := rfl
theorem aX10_init_16 : at_ kX10_init 16 = (0, oPutf 12 1 0 19) := rfl
theorem aX10_init_19 : at_ kX10_init 19 = (0, oRetV) := rfl
def kX10_isInForce_0 : List En := [(0, oRload 0 1), (0, oGetf 12 2 0 4), (1, oFail), (1, oFail), (0, oPush (vI (-1)) 5), (0, oIcEq 28 8), (1, oFail), (1, oFail), (0, oRload 0 9), (0, oGetf 12 2 0 12), (1, oFail), (1, oFail), (0, oIload 1 13), (0, oIcGt 28 16), (1, oFail), (1, oFail)]
set_option maxRecDepth 20000 in
theorem zX10_isInForce_0 : SndL mX10_isInForce 0 kX10_isInForce_0 := SndL.c (s_aload_n (k := 0) (by decide +kernel) rfl) (SndL.c (s_getf (k := 2) clok11 (by decide) rfl (by decide) rfl w_2_230 (Or.inl rfl) (by decide +kernel)) (SndL.c (s_fail) (SndL.c (s_fail) (SndL.c (s_iconst (by decide +kernel) (in32_d (by decide))) (SndL.c (s_ic_eq (off := 23) (by decide +kernel) (by decide)) (SndL.c (s_fail) (SndL.c (s_fail) (SndL.c (s_aload_n (k := 0) (by decide +kernel) rfl) (SndL.c (s_getf (k := 2) clok11 (by decide) rfl (by decide) rfl w_2_230 (Or.inl rfl) (by decide +kernel)) (SndL.c (s_fail) (SndL.c (s_fail) (SndL.c (s_iload_n (k := 1) (by decide +kernel) rfl) (SndL.c (s_ic_gt (off := 15) (by decide +kernel) (by decide)) (SndL.c (s_fail) (SndL.c (s_fail) (SndL.n))))))))))))))))
def kX10_isInForce_1 : List En := [(0, oRload 0 17), (0, oGetf 12 2 0 20), (1, oFail), (1, oFail), (0, oIload 2 21), (0, oIcGt 28 24), (1, oFail), (1, oFail), (0, oPush (vI 1) 25), (0, oGoto 29), (1, oFail), (1, oFail), (0, oPush (vI 0) 29), (0, oIstore 3 30), (0, oRload 0 31), (0, oGetf 12 0 0 34)]
set_option maxRecDepth 20000 in
theorem zX10_isInForce_1 : SndL mX10_isInForce 16 kX10_isInForce_1 := SndL.c (s_aload_n (k := 0) (by decide +kernel) rfl) (SndL.c (s_getf (k := 2) clok11 (by decide) rfl (by decide) rfl w_2_230 (Or.inl rfl) (by decide +kernel)) (SndL.c (s_fail) (SndL.c (s_fail) (SndL.c (s_iload_n (k := 2) (by decide +kernel) rfl) (SndL.c (s_ic_gt (off := 7) (by decide +kernel) (by decide)) (SndL.c (s_fail) (SndL.c (s_fail) (SndL.c (s_iconst (by decide +kernel) (in32_d (by decide))) (SndL.c (s_goto (off := 4) (by decide +kernel) (by decide)) (SndL.c (s_fail) (SndL.c (s_fail) (SndL.c (s_iconst (by decide +kernel) (in32_d (by decide))) (SndL.c (s_istore_n (k := 3) (by decide +kernel) rfl (by decide)) (SndL.c (s_aload_n (k := 0) (by decide +kernel) rfl) (SndL.c (s_getf (k := 0) clok11 (by decide) rfl (by decide) rfl w_2_228 (Or.inl rfl) (by decide +kernel)) (SndL.n))))))))))))))))
def kX10_isInForce_2 : List En := [(1, oFail), (1, oFail), (0, oIload 1 35), (0, oIcGt 54 38), (1, oFail), (1, oFail), (0, oRload 0 39), (0, oGetf 12 1 0 42), (1, oFail), (1, oFail), (0, oIload 2 43), (0, oIcGt 54 46), (1, oFail), (1, oFail), (0, oIload 3 47), (0, oIfNe 54 50)]
set_option maxRecDepth 20000 in
theorem zX10_isInForce_2 : SndL mX10_isInForce 32 kX10_isInForce_2 := SndL.c (s_fail) (SndL.c (s_fail) (SndL.c (s_iload_n (k := 1) (by decide +kernel) rfl) (SndL.c (s_ic_gt (off := 19) (by decide +kernel) (by decide)) (SndL.c (s_fail) (SndL.c (s_fail) (SndL.c (s_aload_n (k := 0) (by decide +kernel) rfl) (SndL.c (s_getf (k := 1) clok11 (by decide) rfl (by decide) rfl w_2_229 (Or.inl rfl) (by decide +kernel)) (SndL.c (s_fail) (SndL.c (s_fail) (SndL.c (s_iload_n (k := 2) (by decide +kernel) rfl) (SndL.c (s_ic_gt (off := 11) (by decide +kernel) (by decide)) (SndL.c (s_fail) (SndL.c (s_fail) (SndL.c (s_iload_n (k := 3) (by decide +kernel) rfl) (SndL.c (s_if_ne (off := 7) (by decide +kernel) (by decide)) (SndL.n))))))))))))))))
def kX10_isInForce_3 : List En := [(1, oFail), (1, oFail), (0, oPush (vI 1) 51), (0, oGoto 55), (1, oFail), (1, oFail), (0, oPush (vI 0) 55), (0, oRetZ)]
set_option maxRecDepth 20000 in
theorem zX10_isInForce_3 : SndL mX10_isInForce 48 kX10_isInForce_3 := SndL.c (s_fail) (SndL.c (s_fail) (SndL.c (s_iconst (by decide +kernel) (in32_d (by decide))) (SndL.c (s_goto (off := 4) (by decide +kernel) (by decide)) (SndL.c (s_fail) (SndL.c (s_fail) (SndL.c (s_iconst (by decide +kernel) (in32_d (by decide))) (SndL.c (s_ret_z rfl (by decide +kernel)) (SndL.n))))))))
def kX10_isInForce : Cd := [kX10_isInForce_0, kX10_isInForce_1, kX10_isInForce_2, kX10_isInForce_3]
theorem zX10_isInForce : SndC mX10_isInForce 0 kX10_isInForce := SndC.c zX10_isInForce_0 (by decide) (SndC.c zX10_isInForce_1 (by decide) (SndC.c zX10_isInForce_2 (by decide) (SndC.c zX10_isInForce_3 (by decide) (SndC.n))))
theorem aX10_isInForce_0 : at_ kX10_isInForce 0 = (0, oRload 0 1) := rfl
theorem aX10_isInForce_1 : at_ kX10_isInForce 1 = (0, oGetf 12 2 0 4) := rfl
theorem aX10_isInForce_4 : at_ kX10_isInForce 4 = (0, oPush (vI (-1)) 5) := rfl
theorem aX10_isInForce_5 : at_ kX10_isInForce 5 = (0, oIcEq 28 8) := rfl
theorem aX10_isInForce_8 : at_ kX10_isInForce 8 = (0, oRload 0 9) := rfl
theorem aX10_isInForce_9 : at_ kX10_isInForce 9 = (0, oGetf 12 2 0 12) := rfl
theorem aX10_isInForce_12 : at_ kX10_isInForce 12 = (0, oIload 1 13) := rfl
theorem aX10_isInForce_13 : at_ kX10_isInForce 13 = (0, oIcGt 28 16) := rfl
theorem aX10_isInForce_16 : at_ kX10_isInForce 16 = (0, oRload 0 17) := rfl
theorem aX10_isInForce_17 : at_ kX10_isInForce 17 = (0, oGetf 12 2 0 20) := rfl
theorem aX10_isInForce_20 : at_ kX10_isInForce 20 = (0, oIload 2 21) := rfl
theorem aX10_isInForce_21 : at_ kX10_isInForce 21 = (0, oIcGt 28 24) := rfl
theorem aX10_isInForce_24 : at_ kX10_isInForce 24 = (0, oPush (vI 1) 25) := rfl
theorem aX10_isInForce_25 : at_ kX10_isInForce 25 = (0, oGoto 29) := rfl
theorem aX10_isInForce_28 : at_ kX10_isInForce 28 = (0, oPush (vI 0) 29) := rfl
theorem aX10_isInForce_29 : at_ kX10_isInForce 29 = (0, oIstore 3 30) := rfl
theorem aX10_isInForce_30 : at_ kX10_isInForce 30 = (0, oRload 0 31) := rfl
theorem aX10_isInForce_31 : at_ kX10_isInForce 31 = (0, oGetf 12 0 0 34) := rfl
theorem aX10_isInForce_34 : at_ kX10_isInForce 34 = (0, oIload 1 35) := rfl
theorem aX10_isInForce_35 : at_ kX10_isInForce 35 = (0, oIcGt 54 38) := rfl
theorem aX10_isInForce_38 : at_ kX10_isInForce 38 = (0, oRload 0 39) := rfl
theorem aX10_isInForce_39 : at_ kX10_isInForce 39 = (0, oGetf 12 1 0 42) := rfl
theorem aX10_isInForce_42 : at_ kX10_isInForce 42 = (0, oIload 2 43) := rfl
theorem aX10_isInForce_43 : at_ kX10_isInForce 43 = (0, oIcGt 54 46) := rfl
theorem aX10_isInForce_46 : at_ kX10_isInForce 46 = (0, oIload 3 47) := rfl
theorem aX10_isInForce_47 : at_ kX10_isInForce 47 = (0, oIfNe 54 50) := rfl
theorem aX10_isInForce_50 : at_ kX10_isInForce 50 = (0, oPush (vI 1) 51) := rfl
theorem aX10_isInForce_51 : at_ kX10_isInForce 51 = (0, oGoto 55) := rfl
theorem aX10_isInForce_54 : at_ kX10_isInForce 54 = (0, oPush (vI 0) 55) := rfl
theorem aX10_isInForce_55 : at_ kX10_isInForce 55 = (0, oRetZ) := rfl
