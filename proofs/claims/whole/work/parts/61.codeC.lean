def kX11_init_0 : List En := [(0, oRload 0 1), (0, oObji 4), (1, oFail), (1, oFail), (0, oRload 0 5), (0, oPush (vI 8) 7), (1, oFail), (0, oNewa 111 10), (1, oFail), (1, oFail), (0, oPutf 13 0 2 13), (1, oFail), (1, oFail), (0, oRload 0 14), (0, oNew 1 3 17), (1, oFail)]
set_option maxRecDepth 20000 in
theorem zX11_init_0 : SndL mX11_init 0 kX11_init_0 := SndL.c (s_aload_n (k := 0) (by decide +kernel) rfl) (SndL.c (s_obji w_1_32 w_1_33 w_1_34 (by decide +kernel)) (SndL.c (s_fail) (SndL.c (s_fail) (SndL.c (s_aload_n (k := 0) (by decide +kernel) rfl) (SndL.c (s_bipush (by decide +kernel) (in32_d (by decide)) (by decide +kernel)) (SndL.c (s_fail) (SndL.c (s_anewa (kd := 111) (akd_d (by decide)) rfl w_1_35 u_1_36 (by decide +kernel)) (SndL.c (s_fail) (SndL.c (s_fail) (SndL.c (s_putf (k := 0) clok12 (by decide) rfl (by decide) rfl w_1_192 (Or.inl rfl) (Or.inr ⟨rfl, rfl, rfl⟩) (by decide +kernel)) (SndL.c (s_fail) (SndL.c (s_fail) (SndL.c (s_aload_n (k := 0) (by decide +kernel) rfl) (SndL.c (s_new clok0 (by decide) rfl rfl w_1_37 w_1_38 w_1_4 (by decide +kernel)) (SndL.c (s_fail) (SndL.n))))))))))))))))
def kX11_init_1 : List En := [(1, oFail), (0, oDup 18), (2, oInvI mJx4a65c_init_da8c8 0 21), (1, oFail), (1, oFail), (0, oPutf 13 1 2 24), (1, oFail), (1, oFail), (0, oRload 0 25), (0, oNew 1 3 28), (1, oFail), (1, oFail), (0, oDup 29), (2, oInvI mJx4a65c_init_da8c8 0 32), (1, oFail), (1, oFail)]
set_option maxRecDepth 20000 in
theorem zX11_init_1 : SndL mX11_init 16 kX11_init_1 := SndL.c (s_fail) (SndL.c (s_dup (by decide +kernel)) (SndL.c (s_invI okJx4a65c_init_da8c8 rfl rfl w_1_39 w_1_40 (by decide +kernel)) (SndL.c (s_fail) (SndL.c (s_fail) (SndL.c (s_putf (k := 1) clok12 (by decide) rfl (by decide) rfl w_1_193 (Or.inl rfl) (Or.inr ⟨rfl, rfl, rfl⟩) (by decide +kernel)) (SndL.c (s_fail) (SndL.c (s_fail) (SndL.c (s_aload_n (k := 0) (by decide +kernel) rfl) (SndL.c (s_new clok0 (by decide) rfl rfl w_1_37 w_1_38 w_1_4 (by decide +kernel)) (SndL.c (s_fail) (SndL.c (s_fail) (SndL.c (s_dup (by decide +kernel)) (SndL.c (s_invI okJx4a65c_init_da8c8 rfl rfl w_1_39 w_1_40 (by decide +kernel)) (SndL.c (s_fail) (SndL.c (s_fail) (SndL.n))))))))))))))))
def kX11_init_2 : List En := [(0, oPutf 13 2 2 35), (1, oFail), (1, oFail), (0, oRload 0 36), (0, oNew 1 3 39), (1, oFail), (1, oFail), (0, oDup 40), (2, oInvI mJx4a65c_init_da8c8 0 43), (1, oFail), (1, oFail), (0, oPutf 13 3 2 46), (1, oFail), (1, oFail), (0, oRload 0 47), (0, oNew 6 3 50)]
set_option maxRecDepth 20000 in
theorem zX11_init_2 : SndL mX11_init 32 kX11_init_2 := SndL.c (s_putf (k := 2) clok12 (by decide) rfl (by decide) rfl w_1_194 (Or.inl rfl) (Or.inr ⟨rfl, rfl, rfl⟩) (by decide +kernel)) (SndL.c (s_fail) (SndL.c (s_fail) (SndL.c (s_aload_n (k := 0) (by decide +kernel) rfl) (SndL.c (s_new clok0 (by decide) rfl rfl w_1_37 w_1_38 w_1_4 (by decide +kernel)) (SndL.c (s_fail) (SndL.c (s_fail) (SndL.c (s_dup (by decide +kernel)) (SndL.c (s_invI okJx4a65c_init_da8c8 rfl rfl w_1_39 w_1_40 (by decide +kernel)) (SndL.c (s_fail) (SndL.c (s_fail) (SndL.c (s_putf (k := 3) clok12 (by decide) rfl (by decide) rfl w_1_195 (Or.inl rfl) (Or.inr ⟨rfl, rfl, rfl⟩) (by decide +kernel)) (SndL.c (s_fail) (SndL.c (s_fail) (SndL.c (s_aload_n (k := 0) (by decide +kernel) rfl) (SndL.c (s_new clok5 (by decide) rfl rfl w_1_63 w_1_64 w_1_5 (by decide +kernel)) (SndL.n))))))))))))))))
def kX11_init_3 : List En := [(1, oFail), (1, oFail), (0, oDup 51), (2, oInvI mX4_init 0 54), (1, oFail), (1, oFail), (0, oPutf 13 4 2 57), (1, oFail), (1, oFail), (0, oRload 0 58), (0, oNew 3 3 61), (1, oFail), (1, oFail), (0, oDup 62), (2, oInvI mX1_init 0 65), (1, oFail)]
set_option maxRecDepth 20000 in
theorem zX11_init_3 : SndL mX11_init 48 kX11_init_3 := SndL.c (s_fail) (SndL.c (s_fail) (SndL.c (s_dup (by decide +kernel)) (SndL.c (s_invIN (host := "AdvertCouncil") okX4_init rfl rfl u_1_65 w_1_66 (by decide +kernel)) (SndL.c (s_fail) (SndL.c (s_fail) (SndL.c (s_putf (k := 4) clok12 (by decide) rfl (by decide) rfl w_1_196 (Or.inl rfl) (Or.inr ⟨rfl, rfl, rfl⟩) (by decide +kernel)) (SndL.c (s_fail) (SndL.c (s_fail) (SndL.c (s_aload_n (k := 0) (by decide +kernel) rfl) (SndL.c (s_new clok2 (by decide) rfl rfl w_1_84 w_1_85 w_1_6 (by decide +kernel)) (SndL.c (s_fail) (SndL.c (s_fail) (SndL.c (s_dup (by decide +kernel)) (SndL.c (s_invIN (host := "AdvertCouncil") okX1_init rfl rfl u_1_86 w_1_87 (by decide +kernel)) (SndL.c (s_fail) (SndL.n))))))))))))))))
def kX11_init_4 : List En := [(1, oFail), (0, oPutf 13 5 2 68), (1, oFail), (1, oFail), (0, oRload 0 69), (0, oNew 9 7 72), (1, oFail), (1, oFail), (0, oDup 73), (2, oInvI mX7_init 0 76), (1, oFail), (1, oFail), (0, oPutf 13 6 2 79), (1, oFail), (1, oFail), (0, oRload 0 80)]
set_option maxRecDepth 20000 in
theorem zX11_init_4 : SndL mX11_init 64 kX11_init_4 := SndL.c (s_fail) (SndL.c (s_putf (k := 5) clok12 (by decide) rfl (by decide) rfl w_1_197 (Or.inl rfl) (Or.inr ⟨rfl, rfl, rfl⟩) (by decide +kernel)) (SndL.c (s_fail) (SndL.c (s_fail) (SndL.c (s_aload_n (k := 0) (by decide +kernel) rfl) (SndL.c (s_new clok8 (by decide) rfl rfl w_1_105 w_1_106 w_1_7 (by decide +kernel)) (SndL.c (s_fail) (SndL.c (s_fail) (SndL.c (s_dup (by decide +kernel)) (SndL.c (s_invIN (host := "AdvertCouncil") okX7_init rfl rfl u_1_107 w_1_108 (by decide +kernel)) (SndL.c (s_fail) (SndL.c (s_fail) (SndL.c (s_putf (k := 6) clok12 (by decide) rfl (by decide) rfl w_1_198 (Or.inl rfl) (Or.inr ⟨rfl, rfl, rfl⟩) (by decide +kernel)) (SndL.c (s_fail) (SndL.c (s_fail) (SndL.c (s_aload_n (k := 0) (by decide +kernel) rfl) (SndL.n))))))))))))))))
def kX11_init_5 : List En := [(0, oNew 7 3 83), (1, oFail), (1, oFail), (0, oDup 84), (2, oInvI mX5_init 0 87), (1, oFail), (1, oFail), (0, oPutf 13 7 2 90), (1, oFail), (1, oFail), (0, oRload 0 91), (0, oLdcS 93), (1, oFail), (2, oInvS8 mJ0_length 0 96), (1, oFail), (1, oFail)]
set_option maxRecDepth 20000 in
theorem zX11_init_5 : SndL mX11_init 80 kX11_init_5 := SndL.c (s_new clok6 (by decide) rfl rfl w_1_133 w_1_134 w_1_8 (by decide +kernel)) (SndL.c (s_fail) (SndL.c (s_fail) (SndL.c (s_dup (by decide +kernel)) (SndL.c (s_invIN (host := "AdvertCouncil") okX5_init rfl rfl u_1_135 w_1_136 (by decide +kernel)) (SndL.c (s_fail) (SndL.c (s_fail) (SndL.c (s_putf (k := 7) clok12 (by decide) rfl (by decide) rfl w_1_199 (Or.inl rfl) (Or.inr ⟨rfl, rfl, rfl⟩) (by decide +kernel)) (SndL.c (s_fail) (SndL.c (s_fail) (SndL.c (s_aload_n (k := 0) (by decide +kernel) rfl) (SndL.c (s_ldcSA rfl (by decide +kernel)) (SndL.c (s_fail) (SndL.c (s_strLen w_1_153 (by decide +kernel)) (SndL.c (s_fail) (SndL.c (s_fail) (SndL.n))))))))))))))))
def kX11_init_6 : List En := [(0, oNewa 100 98), (1, oFail), (0, oPutf 13 8 2 101), (1, oFail), (1, oFail), (0, oRload 0 102), (0, oPush (vI 20) 104), (1, oFail), (0, oNewa 100 106), (1, oFail), (0, oPutf 13 9 2 109), (1, oFail), (1, oFail), (0, oRload 0 110), (0, oPush (vI 7) 112), (1, oFail)]
set_option maxRecDepth 20000 in
theorem zX11_init_6 : SndL mX11_init 96 kX11_init_6 := SndL.c (s_newa (kd := 100) (atype := .int) (akd_d (by decide)) rfl (by decide) w_1_104 (fun _ _ h => h) (by decide +kernel)) (SndL.c (s_fail) (SndL.c (s_putf (k := 8) clok12 (by decide) rfl (by decide) rfl w_1_200 (Or.inl rfl) (Or.inr ⟨rfl, rfl, rfl⟩) (by decide +kernel)) (SndL.c (s_fail) (SndL.c (s_fail) (SndL.c (s_aload_n (k := 0) (by decide +kernel) rfl) (SndL.c (s_bipush (by decide +kernel) (in32_d (by decide)) (by decide +kernel)) (SndL.c (s_fail) (SndL.c (s_newa (kd := 100) (atype := .int) (akd_d (by decide)) rfl (by decide) w_1_104 (fun _ _ h => h) (by decide +kernel)) (SndL.c (s_fail) (SndL.c (s_putf (k := 9) clok12 (by decide) rfl (by decide) rfl w_1_201 (Or.inl rfl) (Or.inr ⟨rfl, rfl, rfl⟩) (by decide +kernel)) (SndL.c (s_fail) (SndL.c (s_fail) (SndL.c (s_aload_n (k := 0) (by decide +kernel) rfl) (SndL.c (s_bipush (by decide +kernel) (in32_d (by decide)) (by decide +kernel)) (SndL.c (s_fail) (SndL.n))))))))))))))))
def kX11_init_7 : List En := [(0, oNewa 100 114), (1, oFail), (0, oPutf 13 10 2 117), (1, oFail), (1, oFail), (0, oRload 0 118), (0, oPush (vI 0) 119), (0, oPutf 13 11 0 122), (1, oFail), (1, oFail), (0, oRload 0 123), (0, oPush (vI (-1)) 124), (0, oPutf 13 12 0 127), (1, oFail), (1, oFail), (0, oRload 0 128)]
set_option maxRecDepth 20000 in
theorem zX11_init_7 : SndL mX11_init 112 kX11_init_7 := SndL.c (s_newa (kd := 100) (atype := .int) (akd_d (by decide)) rfl (by decide) w_1_104 (fun _ _ h => h) (by decide +kernel)) (SndL.c (s_fail) (SndL.c (s_putf (k := 10) clok12 (by decide) rfl (by decide) rfl w_1_202 (Or.inl rfl) (Or.inr ⟨rfl, rfl, rfl⟩) (by decide +kernel)) (SndL.c (s_fail) (SndL.c (s_fail) (SndL.c (s_aload_n (k := 0) (by decide +kernel) rfl) (SndL.c (s_iconst (by decide +kernel) (in32_d (by decide))) (SndL.c (s_putf (k := 11) clok12 (by decide) rfl (by decide) rfl w_1_203 (Or.inl rfl) (Or.inl rfl) (by decide +kernel)) (SndL.c (s_fail) (SndL.c (s_fail) (SndL.c (s_aload_n (k := 0) (by decide +kernel) rfl) (SndL.c (s_iconst (by decide +kernel) (in32_d (by decide))) (SndL.c (s_putf (k := 12) clok12 (by decide) rfl (by decide) rfl w_1_204 (Or.inl rfl) (Or.inl rfl) (by decide +kernel)) (SndL.c (s_fail) (SndL.c (s_fail) (SndL.c (s_aload_n (k := 0) (by decide +kernel) rfl) (SndL.n))))))))))))))))
def kX11_init_8 : List En := [(0, oPush (vI 0) 129), (0, oPutf 13 13 0 132), (1, oFail), (1, oFail), (0, oPush (vI 0) 133), (0, oIstore 1 134), (1, oIload 1 135), (0, oPush (vI 8) 137), (1, oFail), (0, oIcGe 159 140), (1, oFail), (1, oFail), (0, oRload 0 141), (0, oGetf 13 0 2 144), (1, oFail), (1, oFail)]
set_option maxRecDepth 20000 in
theorem zX11_init_8 : SndL mX11_init 128 kX11_init_8 := SndL.c (s_iconst (by decide +kernel) (in32_d (by decide))) (SndL.c (s_putf (k := 13) clok12 (by decide) rfl (by decide) rfl w_1_205 (Or.inl rfl) (Or.inl rfl) (by decide +kernel)) (SndL.c (s_fail) (SndL.c (s_fail) (SndL.c (s_iconst (by decide +kernel) (in32_d (by decide))) (SndL.c (s_istore_n (k := 1) (by decide +kernel) rfl (by decide)) (SndL.c (s_iload_n (k := 1) (by decide +kernel) rfl) (SndL.c (s_bipush (by decide +kernel) (in32_d (by decide)) (by decide +kernel)) (SndL.c (s_fail) (SndL.c (s_ic_ge (off := 22) (by decide +kernel) (by decide)) (SndL.c (s_fail) (SndL.c (s_fail) (SndL.c (s_aload_n (k := 0) (by decide +kernel) rfl) (SndL.c (s_getf (k := 0) clok12 (by decide) rfl (by decide) rfl w_1_192 (Or.inl rfl) (by decide +kernel)) (SndL.c (s_fail) (SndL.c (s_fail) (SndL.n))))))))))))))))
def kX11_init_9 : List En := [(0, oIload 1 145), (0, oNew 11 5 148), (1, oFail), (1, oFail), (0, oDup 149), (2, oInvI mX9_init 0 152), (1, oFail), (1, oFail), (0, oAast 111 11 153), (0, oIinc 1 1 156), (1, oFail), (1, oFail), (0, oGoto 134), (1, oFail), (1, oFail), (0, oRetV)]
set_option maxRecDepth 20000 in
theorem zX11_init_9 : SndL mX11_init 144 kX11_init_9 := SndL.c (s_iload_n (k := 1) (by decide +kernel) rfl) (SndL.c (s_new clok10 (by decide) rfl rfl w_1_35 w_1_163 w_1_10 (by decide +kernel)) (SndL.c (s_fail) (SndL.c (s_fail) (SndL.c (s_dup (by decide +kernel)) (SndL.c (s_invIN (host := "AdvertCouncil") okX9_init rfl rfl u_1_164 w_1_165 (by decide +kernel)) (SndL.c (s_fail) (SndL.c (s_fail) (SndL.c (s_aast (kd := 111) (ci := 10) (r := (RX9, TX9, 5)) (akd_d (by decide)) rfl rfl rfl (by decide) rfl (Or.inl rfl) (by decide +kernel)) (SndL.c (s_iinc (by decide +kernel) (by decide)) (SndL.c (s_fail) (SndL.c (s_fail) (SndL.c (s_goto (off := -22) (by decide +kernel) (by decide)) (SndL.c (s_fail) (SndL.c (s_fail) (SndL.c (s_ret_v rfl (by decide +kernel)) (SndL.n))))))))))))))))
def kX11_init : Cd := [kX11_init_0, kX11_init_1, kX11_init_2, kX11_init_3, kX11_init_4, kX11_init_5, kX11_init_6, kX11_init_7, kX11_init_8, kX11_init_9]
theorem zX11_init : SndC mX11_init 0 kX11_init := SndC.c zX11_init_0 (by decide) (SndC.c zX11_init_1 (by decide) (SndC.c zX11_init_2 (by decide) (SndC.c zX11_init_3 (by decide) (SndC.c zX11_init_4 (by decide) (SndC.c zX11_init_5 (by decide) (SndC.c zX11_init_6 (by decide) (SndC.c zX11_init_7 (by decide) (SndC.c zX11_init_8 (by decide) (SndC.c zX11_init_9 (by decide) (SndC.n))))))))))
theorem aX11_init_0 : at_ kX11_init 0 = (0, oRload 0 1) := rfl
theorem aX11_init_1 : at_ kX11_init 1 = (0, oObji 4) := rfl
theorem aX11_init_4 : at_ kX11_init 4 = (0, oRload 0 5) := rfl
theorem aX11_init_5 : at_ kX11_init 5 = (0, oPush (vI 8) 7) := rfl
theorem aX11_init_7 : at_ kX11_init 7 = (0, oNewa 111 10) := rfl
theorem aX11_init_10 : at_ kX11_init 10 = (0, oPutf 13 0 2 13) := rfl
theorem aX11_init_13 : at_ kX11_init 13 = (0, oRload 0 14) := rfl
theorem aX11_init_14 : at_ kX11_init 14 = (0, oNew 1 3 17) := rfl
theorem aX11_init_17 : at_ kX11_init 17 = (0, oDup 18) := rfl
theorem aX11_init_18 : at_ kX11_init 18 = (2, oInvI mJx4a65c_init_da8c8 0 21) := rfl
theorem aX11_init_21 : at_ kX11_init 21 = (0, oPutf 13 1 2 24) := rfl
theorem aX11_init_24 : at_ kX11_init 24 = (0, oRload 0 25) := rfl
theorem aX11_init_25 : at_ kX11_init 25 = (0, oNew 1 3 28) := rfl
theorem aX11_init_28 : at_ kX11_init 28 = (0, oDup 29) := rfl
theorem aX11_init_29 : at_ kX11_init 29 = (2, oInvI mJx4a65c_init_da8c8 0 32) := rfl
theorem aX11_init_32 : at_ kX11_init 32 = (0, oPutf 13 2 2 35) := rfl
theorem aX11_init_35 : at_ kX11_init 35 = (0, oRload 0 36) := rfl
theorem aX11_init_36 : at_ kX11_init 36 = (0, oNew 1 3 39) := rfl
theorem aX11_init_39 : at_ kX11_init 39 = (0, oDup 40) := rfl
theorem aX11_init_40 : at_ kX11_init 40 = (2, oInvI mJx4a65c_init_da8c8 0 43) := rfl
theorem aX11_init_43 : at_ kX11_init 43 = (0, oPutf 13 3 2 46) := rfl
theorem aX11_init_46 : at_ kX11_init 46 = (0, oRload 0 47) := rfl
theorem aX11_init_47 : at_ kX11_init 47 = (0, oNew 6 3 50) := rfl
theorem aX11_init_50 : at_ kX11_init 50 = (0, oDup 51) := rfl
theorem aX11_init_51 : at_ kX11_init 51 = (2, oInvI mX4_init 0 54) := rfl
theorem aX11_init_54 : at_ kX11_init 54 = (0, oPutf 13 4 2 57) := rfl
theorem aX11_init_57 : at_ kX11_init 57 = (0, oRload 0 58) := rfl
theorem aX11_init_58 : at_ kX11_init 58 = (0, oNew 3 3 61) := rfl
theorem aX11_init_61 : at_ kX11_init 61 = (0, oDup 62) := rfl
theorem aX11_init_62 : at_ kX11_init 62 = (2, oInvI mX1_init 0 65) := rfl
theorem aX11_init_65 : at_ kX11_init 65 = (0, oPutf 13 5 2 68) := rfl
theorem aX11_init_68 : at_ kX11_init 68 = (0, oRload 0 69) := rfl
theorem aX11_init_69 : at_ kX11_init 69 = (0, oNew 9 7 72) := rfl
theorem aX11_init_72 : at_ kX11_init 72 = (0, oDup 73) := rfl
theorem aX11_init_73 : at_ kX11_init 73 = (2, oInvI mX7_init 0 76) := rfl
theorem aX11_init_76 : at_ kX11_init 76 = (0, oPutf 13 6 2 79) := rfl
theorem aX11_init_79 : at_ kX11_init 79 = (0, oRload 0 80) := rfl
theorem aX11_init_80 : at_ kX11_init 80 = (0, oNew 7 3 83) := rfl
theorem aX11_init_83 : at_ kX11_init 83 = (0, oDup 84) := rfl
theorem aX11_init_84 : at_ kX11_init 84 = (2, oInvI mX5_init 0 87) := rfl
theorem aX11_init_87 : at_ kX11_init 87 = (0, oPutf 13 7 2 90) := rfl
theorem aX11_init_90 : at_ kX11_init 90 = (0, oRload 0 91) := rfl
theorem aX11_init_91 : at_ kX11_init 91 = (0, oLdcS 93) := rfl
theorem aX11_init_93 : at_ kX11_init 93 = (2, oInvS8 mJ0_length 0 96) := rfl
theorem aX11_init_96 : at_ kX11_init 96 = (0, oNewa 100 98) := rfl
theorem aX11_init_98 : at_ kX11_init 98 = (0, oPutf 13 8 2 101) := rfl
theorem aX11_init_101 : at_ kX11_init 101 = (0, oRload 0 102) := rfl
theorem aX11_init_102 : at_ kX11_init 102 = (0, oPush (vI 20) 104) := rfl
theorem aX11_init_104 : at_ kX11_init 104 = (0, oNewa 100 106) := rfl
theorem aX11_init_106 : at_ kX11_init 106 = (0, oPutf 13 9 2 109) := rfl
theorem aX11_init_109 : at_ kX11_init 109 = (0, oRload 0 110) := rfl
theorem aX11_init_110 : at_ kX11_init 110 = (0, oPush (vI 7) 112) := rfl
theorem aX11_init_112 : at_ kX11_init 112 = (0, oNewa 100 114) := rfl
theorem aX11_init_114 : at_ kX11_init 114 = (0, oPutf 13 10 2 117) := rfl
theorem aX11_init_117 : at_ kX11_init 117 = (0, oRload 0 118) := rfl
theorem aX11_init_118 : at_ kX11_init 118 = (0, oPush (vI 0) 119) := rfl
theorem aX11_init_119 : at_ kX11_init 119 = (0, oPutf 13 11 0 122) := rfl
theorem aX11_init_122 : at_ kX11_init 122 = (0, oRload 0 123) := rfl
theorem aX11_init_123 : at_ kX11_init 123 = (0, oPush (vI (-1)) 124) := rfl
theorem aX11_init_124 : at_ kX11_init 124 = (0, oPutf 13 12 0 127) := rfl
theorem aX11_init_127 : at_ kX11_init 127 = (0, oRload 0 128) := rfl
theorem aX11_init_128 : at_ kX11_init 128 = (0, oPush (vI 0) 129) := rfl
theorem aX11_init_129 : at_ kX11_init 129 = (0, oPutf 13 13 0 132) := rfl
theorem aX11_init_132 : at_ kX11_init 132 = (0, oPush (vI 0) 133) := rfl
theorem aX11_init_133 : at_ kX11_init 133 = (0, oIstore 1 134) := rfl
theorem aX11_init_134 : at_ kX11_init 134 = (1, oIload 1 135) := rfl
theorem aX11_init_135 : at_ kX11_init 135 = (0, oPush (vI 8) 137) := rfl
theorem aX11_init_137 : at_ kX11_init 137 = (0, oIcGe 159 140) := rfl
theorem aX11_init_140 : at_ kX11_init 140 = (0, oRload 0 141) := rfl
theorem aX11_init_141 : at_ kX11_init 141 = (0, oGetf 13 0 2 144) := rfl
theorem aX11_init_144 : at_ kX11_init 144 = (0, oIload 1 145) := rfl
theorem aX11_init_145 : at_ kX11_init 145 = (0, oNew 11 5 148) := rfl
theorem aX11_init_148 : at_ kX11_init 148 = (0, oDup 149) := rfl
theorem aX11_init_149 : at_ kX11_init 149 = (2, oInvI mX9_init 0 152) := rfl
theorem aX11_init_152 : at_ kX11_init 152 = (0, oAast 111 11 153) := rfl
theorem aX11_init_153 : at_ kX11_init 153 = (0, oIinc 1 1 156) := rfl
theorem aX11_init_156 : at_ kX11_init 156 = (0, oGoto 134) := rfl
theorem aX11_init_159 : at_ kX11_init 159 = (0, oRetV) := rfl
def kX11_days_0 : List En := [(0, oIload 1 1), (0, oPush (vI 1) 2), (0, oIcLt 24 5), (1, oFail), (1, oFail), (0, oIload 1 6), (0, oPush (vI 1000) 9), (1, oFail), (1, oFail), (0, oIcGt 24 12), (1, oFail), (1, oFail), (0, oRload 0 13), (0, oGetf 13 11 0 16), (1, oFail), (1, oFail)]
set_option maxRecDepth 20000 in
theorem zX11_days_0 : SndL mX11_days 0 kX11_days_0 := SndL.c (s_iload_n (k := 1) (by decide +kernel) rfl) (SndL.c (s_iconst (by decide +kernel) (in32_d (by decide))) (SndL.c (s_ic_lt (off := 22) (by decide +kernel) (by decide)) (SndL.c (s_fail) (SndL.c (s_fail) (SndL.c (s_iload_n (k := 1) (by decide +kernel) rfl) (SndL.c (s_sipush (by decide +kernel) (in32_d (by decide)) (by decide +kernel)) (SndL.c (s_fail) (SndL.c (s_fail) (SndL.c (s_ic_gt (off := 15) (by decide +kernel) (by decide)) (SndL.c (s_fail) (SndL.c (s_fail) (SndL.c (s_aload_n (k := 0) (by decide +kernel) rfl) (SndL.c (s_getf (k := 11) clok12 (by decide) rfl (by decide) rfl w_1_203 (Or.inl rfl) (by decide +kernel)) (SndL.c (s_fail) (SndL.c (s_fail) (SndL.n))))))))))))))))
def kX11_days_1 : List En := [(0, oIload 1 17), (0, oIadd 18), (0, oPush (vI 9000) 21), (1, oFail), (1, oFail), (0, oIcLe 31 24), (1, oFail), (1, oFail), (0, oRload 0 25), (0, oPush (vI (-6)) 27), (1, oFail), (2, oInvV 13 mX11_refused 1 30), (1, oFail), (1, oFail), (0, oRetI), (0, oRload 0 32)]
set_option maxRecDepth 20000 in
theorem zX11_days_1 : SndL mX11_days 16 kX11_days_1 := SndL.c (s_iload_n (k := 1) (by decide +kernel) rfl) (SndL.c (s_iadd (by decide +kernel)) (SndL.c (s_sipush (by decide +kernel) (in32_d (by decide)) (by decide +kernel)) (SndL.c (s_fail) (SndL.c (s_fail) (SndL.c (s_ic_le (off := 10) (by decide +kernel) (by decide)) (SndL.c (s_fail) (SndL.c (s_fail) (SndL.c (s_aload_n (k := 0) (by decide +kernel) rfl) (SndL.c (s_bipush (by decide +kernel) (in32_d (by decide)) (by decide +kernel)) (SndL.c (s_fail) (SndL.c (s_invV (r := (RX11, TX11, 14)) (ci := 12) okX11_refused rfl (by decide) rfl rfl w_1_239 w_2_1 v_0 (by decide +kernel)) (SndL.c (s_fail) (SndL.c (s_fail) (SndL.c (s_ret_i rfl (by decide +kernel)) (SndL.c (s_aload_n (k := 0) (by decide +kernel) rfl) (SndL.n))))))))))))))))
def kX11_days_2 : List En := [(0, oDup 33), (0, oGetf 13 11 0 36), (1, oFail), (1, oFail), (0, oIload 1 37), (0, oIadd 38), (0, oPutf 13 11 0 41), (1, oFail), (1, oFail), (0, oRload 0 42), (0, oGetf 13 11 0 45), (1, oFail), (1, oFail), (0, oRetI)]
set_option maxRecDepth 20000 in
theorem zX11_days_2 : SndL mX11_days 32 kX11_days_2 := SndL.c (s_dup (by decide +kernel)) (SndL.c (s_getf (k := 11) clok12 (by decide) rfl (by decide) rfl w_1_203 (Or.inl rfl) (by decide +kernel)) (SndL.c (s_fail) (SndL.c (s_fail) (SndL.c (s_iload_n (k := 1) (by decide +kernel) rfl) (SndL.c (s_iadd (by decide +kernel)) (SndL.c (s_putf (k := 11) clok12 (by decide) rfl (by decide) rfl w_1_203 (Or.inl rfl) (Or.inl rfl) (by decide +kernel)) (SndL.c (s_fail) (SndL.c (s_fail) (SndL.c (s_aload_n (k := 0) (by decide +kernel) rfl) (SndL.c (s_getf (k := 11) clok12 (by decide) rfl (by decide) rfl w_1_203 (Or.inl rfl) (by decide +kernel)) (SndL.c (s_fail) (SndL.c (s_fail) (SndL.c (s_ret_i rfl (by decide +kernel)) (SndL.n))))))))))))))
def kX11_days : Cd := [kX11_days_0, kX11_days_1, kX11_days_2]
theorem zX11_days : SndC mX11_days 0 kX11_days := SndC.c zX11_days_0 (by decide) (SndC.c zX11_days_1 (by decide) (SndC.c zX11_days_2 (by decide) (SndC.n)))
theorem aX11_days_0 : at_ kX11_days 0 = (0, oIload 1 1) := rfl
theorem aX11_days_1 : at_ kX11_days 1 = (0, oPush (vI 1) 2) := rfl
theorem aX11_days_2 : at_ kX11_days 2 = (0, oIcLt 24 5) := rfl
theorem aX11_days_5 : at_ kX11_days 5 = (0, oIload 1 6) := rfl
theorem aX11_days_6 : at_ kX11_days 6 = (0, oPush (vI 1000) 9) := rfl
theorem aX11_days_9 : at_ kX11_days 9 = (0, oIcGt 24 12) := rfl
theorem aX11_days_12 : at_ kX11_days 12 = (0, oRload 0 13) := rfl
theorem aX11_days_13 : at_ kX11_days 13 = (0, oGetf 13 11 0 16) := rfl
theorem aX11_days_16 : at_ kX11_days 16 = (0, oIload 1 17) := rfl
theorem aX11_days_17 : at_ kX11_days 17 = (0, oIadd 18) := rfl
theorem aX11_days_18 : at_ kX11_days 18 = (0, oPush (vI 9000) 21) := rfl
theorem aX11_days_21 : at_ kX11_days 21 = (0, oIcLe 31 24) := rfl
theorem aX11_days_24 : at_ kX11_days 24 = (0, oRload 0 25) := rfl
theorem aX11_days_25 : at_ kX11_days 25 = (0, oPush (vI (-6)) 27) := rfl
theorem aX11_days_27 : at_ kX11_days 27 = (2, oInvV 13 mX11_refused 1 30) := rfl
theorem aX11_days_30 : at_ kX11_days 30 = (0, oRetI) := rfl
theorem aX11_days_31 : at_ kX11_days 31 = (0, oRload 0 32) := rfl
theorem aX11_days_32 : at_ kX11_days 32 = (0, oDup 33) := rfl
theorem aX11_days_33 : at_ kX11_days 33 = (0, oGetf 13 11 0 36) := rfl
theorem aX11_days_36 : at_ kX11_days 36 = (0, oIload 1 37) := rfl
theorem aX11_days_37 : at_ kX11_days 37 = (0, oIadd 38) := rfl
theorem aX11_days_38 : at_ kX11_days 38 = (0, oPutf 13 11 0 41) := rfl
theorem aX11_days_41 : at_ kX11_days 41 = (0, oRload 0 42) := rfl
theorem aX11_days_42 : at_ kX11_days 42 = (0, oGetf 13 11 0 45) := rfl
theorem aX11_days_45 : at_ kX11_days 45 = (0, oRetI) := rfl
def kX11_row_0 : List En := [(0, oIload 1 1), (2, oInvS mX11_isShelf 1 4), (1, oFail), (1, oFail), (0, oIfNe 13 7), (1, oFail), (1, oFail), (0, oRload 0 8), (0, oPush (vI (-1)) 9), (2, oInvV 13 mX11_refused 1 12), (1, oFail), (1, oFail), (0, oRetI), (0, oIload 3 14), (0, oIfGe 24 17), (1, oFail)]
set_option maxRecDepth 20000 in
theorem zX11_row_0 : SndL mX11_row 0 kX11_row_0 := SndL.c (s_iload_n (k := 1) (by decide +kernel) rfl) (SndL.c (s_invS okX11_isShelf w_2_7 w_2_8 (by decide +kernel)) (SndL.c (s_fail) (SndL.c (s_fail) (SndL.c (s_if_ne (off := 9) (by decide +kernel) (by decide)) (SndL.c (s_fail) (SndL.c (s_fail) (SndL.c (s_aload_n (k := 0) (by decide +kernel) rfl) (SndL.c (s_iconst (by decide +kernel) (in32_d (by decide))) (SndL.c (s_invV (r := (RX11, TX11, 14)) (ci := 12) okX11_refused rfl (by decide) rfl rfl w_1_239 w_2_1 v_0 (by decide +kernel)) (SndL.c (s_fail) (SndL.c (s_fail) (SndL.c (s_ret_i rfl (by decide +kernel)) (SndL.c (s_iload_n (k := 3) (by decide +kernel) rfl) (SndL.c (s_if_ge (off := 10) (by decide +kernel) (by decide)) (SndL.c (s_fail) (SndL.n))))))))))))))))
def kX11_row_1 : List En := [(1, oFail), (0, oRload 0 18), (0, oPush (vI (-4)) 20), (1, oFail), (2, oInvV 13 mX11_refused 1 23), (1, oFail), (1, oFail), (0, oRetI), (0, oIload 2 25), (0, oIfLt 33 28), (1, oFail), (1, oFail), (0, oIload 2 29), (0, oPush (vI 4) 30), (0, oIcLt 40 33), (1, oFail)]
set_option maxRecDepth 20000 in
theorem zX11_row_1 : SndL mX11_row 16 kX11_row_1 := SndL.c (s_fail) (SndL.c (s_aload_n (k := 0) (by decide +kernel) rfl) (SndL.c (s_bipush (by decide +kernel) (in32_d (by decide)) (by decide +kernel)) (SndL.c (s_fail) (SndL.c (s_invV (r := (RX11, TX11, 14)) (ci := 12) okX11_refused rfl (by decide) rfl rfl w_1_239 w_2_1 v_0 (by decide +kernel)) (SndL.c (s_fail) (SndL.c (s_fail) (SndL.c (s_ret_i rfl (by decide +kernel)) (SndL.c (s_iload_n (k := 2) (by decide +kernel) rfl) (SndL.c (s_if_lt (off := 8) (by decide +kernel) (by decide)) (SndL.c (s_fail) (SndL.c (s_fail) (SndL.c (s_iload_n (k := 2) (by decide +kernel) rfl) (SndL.c (s_iconst (by decide +kernel) (in32_d (by decide))) (SndL.c (s_ic_lt (off := 10) (by decide +kernel) (by decide)) (SndL.c (s_fail) (SndL.n))))))))))))))))
def kX11_row_2 : List En := [(1, oFail), (0, oRload 0 34), (0, oPush (vI (-6)) 36), (1, oFail), (2, oInvV 13 mX11_refused 1 39), (1, oFail), (1, oFail), (0, oRetI), (0, oIload 3 41), (0, oPush (vI 60) 43), (1, oFail), (0, oIcLe 53 46), (1, oFail), (1, oFail), (0, oRload 0 47), (0, oPush (vI (-7)) 49)]
set_option maxRecDepth 20000 in
theorem zX11_row_2 : SndL mX11_row 32 kX11_row_2 := SndL.c (s_fail) (SndL.c (s_aload_n (k := 0) (by decide +kernel) rfl) (SndL.c (s_bipush (by decide +kernel) (in32_d (by decide)) (by decide +kernel)) (SndL.c (s_fail) (SndL.c (s_invV (r := (RX11, TX11, 14)) (ci := 12) okX11_refused rfl (by decide) rfl rfl w_1_239 w_2_1 v_0 (by decide +kernel)) (SndL.c (s_fail) (SndL.c (s_fail) (SndL.c (s_ret_i rfl (by decide +kernel)) (SndL.c (s_iload_n (k := 3) (by decide +kernel) rfl) (SndL.c (s_bipush (by decide +kernel) (in32_d (by decide)) (by decide +kernel)) (SndL.c (s_fail) (SndL.c (s_ic_le (off := 10) (by decide +kernel) (by decide)) (SndL.c (s_fail) (SndL.c (s_fail) (SndL.c (s_aload_n (k := 0) (by decide +kernel) rfl) (SndL.c (s_bipush (by decide +kernel) (in32_d (by decide)) (by decide +kernel)) (SndL.n))))))))))))))))
def kX11_row_3 : List En := [(1, oFail), (2, oInvV 13 mX11_refused 1 52), (1, oFail), (1, oFail), (0, oRetI), (0, oRload 0 54), (0, oGetf 13 0 2 57), (1, oFail), (1, oFail), (0, oIload 1 58), (0, oAald 111 59), (0, oIload 2 60), (0, oIload 3 61), (2, oInvV 11 mX9_takeRow 2 64), (1, oFail), (1, oFail)]
set_option maxRecDepth 20000 in
theorem zX11_row_3 : SndL mX11_row 48 kX11_row_3 := SndL.c (s_fail) (SndL.c (s_invV (r := (RX11, TX11, 14)) (ci := 12) okX11_refused rfl (by decide) rfl rfl w_1_239 w_2_1 v_0 (by decide +kernel)) (SndL.c (s_fail) (SndL.c (s_fail) (SndL.c (s_ret_i rfl (by decide +kernel)) (SndL.c (s_aload_n (k := 0) (by decide +kernel) rfl) (SndL.c (s_getf (k := 0) clok12 (by decide) rfl (by decide) rfl w_1_192 (Or.inl rfl) (by decide +kernel)) (SndL.c (s_fail) (SndL.c (s_fail) (SndL.c (s_iload_n (k := 1) (by decide +kernel) rfl) (SndL.c (s_aald (kd := 111) (akd_d (by decide)) rfl rfl (by decide +kernel)) (SndL.c (s_iload_n (k := 2) (by decide +kernel) rfl) (SndL.c (s_iload_n (k := 3) (by decide +kernel) rfl) (SndL.c (s_invV (r := (RX9, TX9, 5)) (ci := 10) okX9_takeRow rfl (by decide) rfl rfl w_2_10 w_2_11 w_2_12 (by decide +kernel)) (SndL.c (s_fail) (SndL.c (s_fail) (SndL.n))))))))))))))))
def kX11_row_4 : List En := [(0, oPush (vI 1) 65), (0, oRetI)]
set_option maxRecDepth 20000 in
theorem zX11_row_4 : SndL mX11_row 64 kX11_row_4 := SndL.c (s_iconst (by decide +kernel) (in32_d (by decide))) (SndL.c (s_ret_i rfl (by decide +kernel)) (SndL.n))
def kX11_row : Cd := [kX11_row_0, kX11_row_1, kX11_row_2, kX11_row_3, kX11_row_4]
theorem zX11_row : SndC mX11_row 0 kX11_row := SndC.c zX11_row_0 (by decide) (SndC.c zX11_row_1 (by decide) (SndC.c zX11_row_2 (by decide) (SndC.c zX11_row_3 (by decide) (SndC.c zX11_row_4 (by decide) (SndC.n)))))
theorem aX11_row_0 : at_ kX11_row 0 = (0, oIload 1 1) := rfl
theorem aX11_row_1 : at_ kX11_row 1 = (2, oInvS mX11_isShelf 1 4) := rfl
theorem aX11_row_4 : at_ kX11_row 4 = (0, oIfNe 13 7) := rfl
theorem aX11_row_7 : at_ kX11_row 7 = (0, oRload 0 8) := rfl
theorem aX11_row_8 : at_ kX11_row 8 = (0, oPush (vI (-1)) 9) := rfl
theorem aX11_row_9 : at_ kX11_row 9 = (2, oInvV 13 mX11_refused 1 12) := rfl
theorem aX11_row_12 : at_ kX11_row 12 = (0, oRetI) := rfl
theorem aX11_row_13 : at_ kX11_row 13 = (0, oIload 3 14) := rfl
theorem aX11_row_14 : at_ kX11_row 14 = (0, oIfGe 24 17) := rfl
theorem aX11_row_17 : at_ kX11_row 17 = (0, oRload 0 18) := rfl
theorem aX11_row_18 : at_ kX11_row 18 = (0, oPush (vI (-4)) 20) := rfl
theorem aX11_row_20 : at_ kX11_row 20 = (2, oInvV 13 mX11_refused 1 23) := rfl
theorem aX11_row_23 : at_ kX11_row 23 = (0, oRetI) := rfl
theorem aX11_row_24 : at_ kX11_row 24 = (0, oIload 2 25) := rfl
theorem aX11_row_25 : at_ kX11_row 25 = (0, oIfLt 33 28) := rfl
theorem aX11_row_28 : at_ kX11_row 28 = (0, oIload 2 29) := rfl
theorem aX11_row_29 : at_ kX11_row 29 = (0, oPush (vI 4) 30) := rfl
theorem aX11_row_30 : at_ kX11_row 30 = (0, oIcLt 40 33) := rfl
theorem aX11_row_33 : at_ kX11_row 33 = (0, oRload 0 34) := rfl
theorem aX11_row_34 : at_ kX11_row 34 = (0, oPush (vI (-6)) 36) := rfl
theorem aX11_row_36 : at_ kX11_row 36 = (2, oInvV 13 mX11_refused 1 39) := rfl
theorem aX11_row_39 : at_ kX11_row 39 = (0, oRetI) := rfl
theorem aX11_row_40 : at_ kX11_row 40 = (0, oIload 3 41) := rfl
theorem aX11_row_41 : at_ kX11_row 41 = (0, oPush (vI 60) 43) := rfl
theorem aX11_row_43 : at_ kX11_row 43 = (0, oIcLe 53 46) := rfl
theorem aX11_row_46 : at_ kX11_row 46 = (0, oRload 0 47) := rfl
theorem aX11_row_47 : at_ kX11_row 47 = (0, oPush (vI (-7)) 49) := rfl
theorem aX11_row_49 : at_ kX11_row 49 = (2, oInvV 13 mX11_refused 1 52) := rfl
theorem aX11_row_52 : at_ kX11_row 52 = (0, oRetI) := rfl
theorem aX11_row_53 : at_ kX11_row 53 = (0, oRload 0 54) := rfl
theorem aX11_row_54 : at_ kX11_row 54 = (0, oGetf 13 0 2 57) := rfl
theorem aX11_row_57 : at_ kX11_row 57 = (0, oIload 1 58) := rfl
theorem aX11_row_58 : at_ kX11_row 58 = (0, oAald 111 59) := rfl
theorem aX11_row_59 : at_ kX11_row 59 = (0, oIload 2 60) := rfl
theorem aX11_row_60 : at_ kX11_row 60 = (0, oIload 3 61) := rfl
theorem aX11_row_61 : at_ kX11_row 61 = (2, oInvV 11 mX9_takeRow 2 64) := rfl
theorem aX11_row_64 : at_ kX11_row 64 = (0, oPush (vI 1) 65) := rfl
theorem aX11_row_65 : at_ kX11_row 65 = (0, oRetI) := rfl
def kX11_set_0 : List En := [(0, oRload 0 1), (0, oIload 1 2), (2, oInvV 13 mX11_lackOfRow 1 5), (1, oFail), (1, oFail), (0, oIstore 5 7), (1, oFail), (0, oIload 5 9), (1, oFail), (0, oIfEq 19 12), (1, oFail), (1, oFail), (0, oRload 0 13), (0, oIload 5 15), (1, oFail), (2, oInvV 13 mX11_refused 1 18)]
set_option maxRecDepth 20000 in
theorem zX11_set_0 : SndL mX11_set 0 kX11_set_0 := SndL.c (s_aload_n (k := 0) (by decide +kernel) rfl) (SndL.c (s_iload_n (k := 1) (by decide +kernel) rfl) (SndL.c (s_invV (r := (RX11, TX11, 14)) (ci := 12) okX11_lackOfRow rfl (by decide) rfl rfl w_2_18 w_2_20 v_1 (by decide +kernel)) (SndL.c (s_fail) (SndL.c (s_fail) (SndL.c (s_istore (by decide +kernel) (by decide)) (SndL.c (s_fail) (SndL.c (s_iload (by decide +kernel)) (SndL.c (s_fail) (SndL.c (s_if_eq (off := 10) (by decide +kernel) (by decide)) (SndL.c (s_fail) (SndL.c (s_fail) (SndL.c (s_aload_n (k := 0) (by decide +kernel) rfl) (SndL.c (s_iload (by decide +kernel)) (SndL.c (s_fail) (SndL.c (s_invV (r := (RX11, TX11, 14)) (ci := 12) okX11_refused rfl (by decide) rfl rfl w_1_239 w_2_1 v_0 (by decide +kernel)) (SndL.n))))))))))))))))
def kX11_set_1 : List En := [(1, oFail), (1, oFail), (0, oRetI), (0, oRload 0 20), (0, oGetf 13 0 2 23), (1, oFail), (1, oFail), (0, oIload 1 24), (0, oAald 111 25), (0, oRstore 6 27), (1, oFail), (0, oIload 2 28), (0, oIfLt 40 31), (1, oFail), (1, oFail), (0, oIload 2 32)]
set_option maxRecDepth 20000 in
theorem zX11_set_1 : SndL mX11_set 16 kX11_set_1 := SndL.c (s_fail) (SndL.c (s_fail) (SndL.c (s_ret_i rfl (by decide +kernel)) (SndL.c (s_aload_n (k := 0) (by decide +kernel) rfl) (SndL.c (s_getf (k := 0) clok12 (by decide) rfl (by decide) rfl w_1_192 (Or.inl rfl) (by decide +kernel)) (SndL.c (s_fail) (SndL.c (s_fail) (SndL.c (s_iload_n (k := 1) (by decide +kernel) rfl) (SndL.c (s_aald (kd := 111) (akd_d (by decide)) rfl rfl (by decide +kernel)) (SndL.c (s_astore (by decide +kernel) (by decide)) (SndL.c (s_fail) (SndL.c (s_iload_n (k := 2) (by decide +kernel) rfl) (SndL.c (s_if_lt (off := 12) (by decide +kernel) (by decide)) (SndL.c (s_fail) (SndL.c (s_fail) (SndL.c (s_iload_n (k := 2) (by decide +kernel) rfl) (SndL.n))))))))))))))))
def kX11_set_2 : List En := [(0, oRload 6 34), (1, oFail), (0, oGetf 11 3 0 37), (1, oFail), (1, oFail), (0, oIcLt 47 40), (1, oFail), (1, oFail), (0, oRload 0 41), (0, oPush (vI (-5)) 43), (1, oFail), (2, oInvV 13 mX11_refused 1 46), (1, oFail), (1, oFail), (0, oRetI), (0, oRload 6 49)]
set_option maxRecDepth 20000 in
theorem zX11_set_2 : SndL mX11_set 32 kX11_set_2 := SndL.c (s_aload (by decide +kernel)) (SndL.c (s_fail) (SndL.c (s_getf (k := 3) clok10 (by decide) rfl (by decide) rfl w_1_176 (Or.inl rfl) (by decide +kernel)) (SndL.c (s_fail) (SndL.c (s_fail) (SndL.c (s_ic_lt (off := 10) (by decide +kernel) (by decide)) (SndL.c (s_fail) (SndL.c (s_fail) (SndL.c (s_aload_n (k := 0) (by decide +kernel) rfl) (SndL.c (s_bipush (by decide +kernel) (in32_d (by decide)) (by decide +kernel)) (SndL.c (s_fail) (SndL.c (s_invV (r := (RX11, TX11, 14)) (ci := 12) okX11_refused rfl (by decide) rfl rfl w_1_239 w_2_1 v_0 (by decide +kernel)) (SndL.c (s_fail) (SndL.c (s_fail) (SndL.c (s_ret_i rfl (by decide +kernel)) (SndL.c (s_aload (by decide +kernel)) (SndL.n))))))))))))))))
def kX11_set_3 : List En := [(1, oFail), (0, oGetf 11 0 2 52), (1, oFail), (1, oFail), (0, oIload 2 53), (0, oRload 6 55), (1, oFail), (0, oLload 3 56), (2, oInvV 11 mX9_cut 1 59), (1, oFail), (1, oFail), (0, oLast 60), (0, oPush (vI 1) 61), (0, oRetI)]
set_option maxRecDepth 20000 in
theorem zX11_set_3 : SndL mX11_set 48 kX11_set_3 := SndL.c (s_fail) (SndL.c (s_getf (k := 0) clok10 (by decide) rfl (by decide) rfl w_1_169 (Or.inl rfl) (by decide +kernel)) (SndL.c (s_fail) (SndL.c (s_fail) (SndL.c (s_iload_n (k := 2) (by decide +kernel) rfl) (SndL.c (s_aload (by decide +kernel)) (SndL.c (s_fail) (SndL.c (s_lload_n (k := 3) (by decide +kernel) rfl) (SndL.c (s_invV (r := (RX9, TX9, 5)) (ci := 10) okX9_cut rfl (by decide) rfl rfl w_2_22 w_2_23 w_2_24 (by decide +kernel)) (SndL.c (s_fail) (SndL.c (s_fail) (SndL.c (s_last (by decide +kernel)) (SndL.c (s_iconst (by decide +kernel) (in32_d (by decide))) (SndL.c (s_ret_i rfl (by decide +kernel)) (SndL.n))))))))))))))
def kX11_set : Cd := [kX11_set_0, kX11_set_1, kX11_set_2, kX11_set_3]
theorem zX11_set : SndC mX11_set 0 kX11_set := SndC.c zX11_set_0 (by decide) (SndC.c zX11_set_1 (by decide) (SndC.c zX11_set_2 (by decide) (SndC.c zX11_set_3 (by decide) (SndC.n))))
theorem aX11_set_0 : at_ kX11_set 0 = (0, oRload 0 1) := rfl
theorem aX11_set_1 : at_ kX11_set 1 = (0, oIload 1 2) := rfl
theorem aX11_set_2 : at_ kX11_set 2 = (2, oInvV 13 mX11_lackOfRow 1 5) := rfl
theorem aX11_set_5 : at_ kX11_set 5 = (0, oIstore 5 7) := rfl
theorem aX11_set_7 : at_ kX11_set 7 = (0, oIload 5 9) := rfl
theorem aX11_set_9 : at_ kX11_set 9 = (0, oIfEq 19 12) := rfl
theorem aX11_set_12 : at_ kX11_set 12 = (0, oRload 0 13) := rfl
theorem aX11_set_13 : at_ kX11_set 13 = (0, oIload 5 15) := rfl
theorem aX11_set_15 : at_ kX11_set 15 = (2, oInvV 13 mX11_refused 1 18) := rfl
theorem aX11_set_18 : at_ kX11_set 18 = (0, oRetI) := rfl
theorem aX11_set_19 : at_ kX11_set 19 = (0, oRload 0 20) := rfl
theorem aX11_set_20 : at_ kX11_set 20 = (0, oGetf 13 0 2 23) := rfl
theorem aX11_set_23 : at_ kX11_set 23 = (0, oIload 1 24) := rfl
theorem aX11_set_24 : at_ kX11_set 24 = (0, oAald 111 25) := rfl
theorem aX11_set_25 : at_ kX11_set 25 = (0, oRstore 6 27) := rfl
theorem aX11_set_27 : at_ kX11_set 27 = (0, oIload 2 28) := rfl
theorem aX11_set_28 : at_ kX11_set 28 = (0, oIfLt 40 31) := rfl
theorem aX11_set_31 : at_ kX11_set 31 = (0, oIload 2 32) := rfl
theorem aX11_set_32 : at_ kX11_set 32 = (0, oRload 6 34) := rfl
theorem aX11_set_34 : at_ kX11_set 34 = (0, oGetf 11 3 0 37) := rfl
theorem aX11_set_37 : at_ kX11_set 37 = (0, oIcLt 47 40) := rfl
theorem aX11_set_40 : at_ kX11_set 40 = (0, oRload 0 41) := rfl
theorem aX11_set_41 : at_ kX11_set 41 = (0, oPush (vI (-5)) 43) := rfl
theorem aX11_set_43 : at_ kX11_set 43 = (2, oInvV 13 mX11_refused 1 46) := rfl
theorem aX11_set_46 : at_ kX11_set 46 = (0, oRetI) := rfl
theorem aX11_set_47 : at_ kX11_set 47 = (0, oRload 6 49) := rfl
theorem aX11_set_49 : at_ kX11_set 49 = (0, oGetf 11 0 2 52) := rfl
theorem aX11_set_52 : at_ kX11_set 52 = (0, oIload 2 53) := rfl
theorem aX11_set_53 : at_ kX11_set 53 = (0, oRload 6 55) := rfl
theorem aX11_set_55 : at_ kX11_set 55 = (0, oLload 3 56) := rfl
theorem aX11_set_56 : at_ kX11_set 56 = (2, oInvV 11 mX9_cut 1 59) := rfl
theorem aX11_set_59 : at_ kX11_set 59 = (0, oLast 60) := rfl
theorem aX11_set_60 : at_ kX11_set 60 = (0, oPush (vI 1) 61) := rfl
theorem aX11_set_61 : at_ kX11_set 61 = (0, oRetI) := rfl
def kX11_copy_0 : List En := [(0, oIload 1 1), (2, oInvS mX11_isShelf 1 4), (1, oFail), (1, oFail), (0, oIfEq 14 7), (1, oFail), (1, oFail), (0, oIload 2 8), (2, oInvS mX11_isShelf 1 11), (1, oFail), (1, oFail), (0, oIfNe 20 14), (1, oFail), (1, oFail), (0, oRload 0 15), (0, oPush (vI (-1)) 16)]
set_option maxRecDepth 20000 in
theorem zX11_copy_0 : SndL mX11_copy 0 kX11_copy_0 := SndL.c (s_iload_n (k := 1) (by decide +kernel) rfl) (SndL.c (s_invS okX11_isShelf w_2_7 w_2_8 (by decide +kernel)) (SndL.c (s_fail) (SndL.c (s_fail) (SndL.c (s_if_eq (off := 10) (by decide +kernel) (by decide)) (SndL.c (s_fail) (SndL.c (s_fail) (SndL.c (s_iload_n (k := 2) (by decide +kernel) rfl) (SndL.c (s_invS okX11_isShelf w_2_7 w_2_8 (by decide +kernel)) (SndL.c (s_fail) (SndL.c (s_fail) (SndL.c (s_if_ne (off := 9) (by decide +kernel) (by decide)) (SndL.c (s_fail) (SndL.c (s_fail) (SndL.c (s_aload_n (k := 0) (by decide +kernel) rfl) (SndL.c (s_iconst (by decide +kernel) (in32_d (by decide))) (SndL.n))))))))))))))))
def kX11_copy_1 : List En := [(2, oInvV 13 mX11_refused 1 19), (1, oFail), (1, oFail), (0, oRetI), (0, oRload 0 21), (0, oGetf 13 0 2 24), (1, oFail), (1, oFail), (0, oIload 1 25), (0, oAald 111 26), (0, oRstore 6 28), (1, oFail), (0, oRload 0 29), (0, oGetf 13 0 2 32), (1, oFail), (1, oFail)]
set_option maxRecDepth 20000 in
theorem zX11_copy_1 : SndL mX11_copy 16 kX11_copy_1 := SndL.c (s_invV (r := (RX11, TX11, 14)) (ci := 12) okX11_refused rfl (by decide) rfl rfl w_1_239 w_2_1 v_0 (by decide +kernel)) (SndL.c (s_fail) (SndL.c (s_fail) (SndL.c (s_ret_i rfl (by decide +kernel)) (SndL.c (s_aload_n (k := 0) (by decide +kernel) rfl) (SndL.c (s_getf (k := 0) clok12 (by decide) rfl (by decide) rfl w_1_192 (Or.inl rfl) (by decide +kernel)) (SndL.c (s_fail) (SndL.c (s_fail) (SndL.c (s_iload_n (k := 1) (by decide +kernel) rfl) (SndL.c (s_aald (kd := 111) (akd_d (by decide)) rfl rfl (by decide +kernel)) (SndL.c (s_astore (by decide +kernel) (by decide)) (SndL.c (s_fail) (SndL.c (s_aload_n (k := 0) (by decide +kernel) rfl) (SndL.c (s_getf (k := 0) clok12 (by decide) rfl (by decide) rfl w_1_192 (Or.inl rfl) (by decide +kernel)) (SndL.c (s_fail) (SndL.c (s_fail) (SndL.n))))))))))))))))
def kX11_copy_2 : List En := [(0, oIload 2 33), (0, oAald 111 34), (0, oRstore 7 36), (1, oFail), (0, oRload 6 38), (1, oFail), (0, oGetf 11 1 3 41), (1, oFail), (1, oFail), (0, oIfEq 69 44), (1, oFail), (1, oFail), (0, oRload 7 46), (1, oFail), (0, oGetf 11 1 3 49), (1, oFail)]
set_option maxRecDepth 20000 in
theorem zX11_copy_2 : SndL mX11_copy 32 kX11_copy_2 := SndL.c (s_iload_n (k := 2) (by decide +kernel) rfl) (SndL.c (s_aald (kd := 111) (akd_d (by decide)) rfl rfl (by decide +kernel)) (SndL.c (s_astore (by decide +kernel) (by decide)) (SndL.c (s_fail) (SndL.c (s_aload (by decide +kernel)) (SndL.c (s_fail) (SndL.c (s_getf (k := 1) clok10 (by decide) rfl (by decide) rfl w_1_171 (Or.inl rfl) (by decide +kernel)) (SndL.c (s_fail) (SndL.c (s_fail) (SndL.c (s_if_eq (off := 28) (by decide +kernel) (by decide)) (SndL.c (s_fail) (SndL.c (s_fail) (SndL.c (s_aload (by decide +kernel)) (SndL.c (s_fail) (SndL.c (s_getf (k := 1) clok10 (by decide) rfl (by decide) rfl w_1_171 (Or.inl rfl) (by decide +kernel)) (SndL.c (s_fail) (SndL.n))))))))))))))))
def kX11_copy_3 : List En := [(1, oFail), (0, oIfEq 69 52), (1, oFail), (1, oFail), (0, oRload 6 54), (1, oFail), (0, oGetf 11 2 0 57), (1, oFail), (1, oFail), (0, oRload 7 59), (1, oFail), (0, oGetf 11 2 0 62), (1, oFail), (1, oFail), (0, oIcEq 69 65), (1, oFail)]
set_option maxRecDepth 20000 in
theorem zX11_copy_3 : SndL mX11_copy 48 kX11_copy_3 := SndL.c (s_fail) (SndL.c (s_if_eq (off := 20) (by decide +kernel) (by decide)) (SndL.c (s_fail) (SndL.c (s_fail) (SndL.c (s_aload (by decide +kernel)) (SndL.c (s_fail) (SndL.c (s_getf (k := 2) clok10 (by decide) rfl (by decide) rfl w_1_173 (Or.inl rfl) (by decide +kernel)) (SndL.c (s_fail) (SndL.c (s_fail) (SndL.c (s_aload (by decide +kernel)) (SndL.c (s_fail) (SndL.c (s_getf (k := 2) clok10 (by decide) rfl (by decide) rfl w_1_173 (Or.inl rfl) (by decide +kernel)) (SndL.c (s_fail) (SndL.c (s_fail) (SndL.c (s_ic_eq (off := 7) (by decide +kernel) (by decide)) (SndL.c (s_fail) (SndL.n))))))))))))))))
def kX11_copy_4 : List En := [(1, oFail), (0, oPush (vI 1) 66), (0, oGoto 70), (1, oFail), (1, oFail), (0, oPush (vI 0) 70), (0, oIstore 8 72), (1, oFail), (0, oRload 6 74), (1, oFail), (0, oGetf 11 4 2 77), (1, oFail), (1, oFail), (0, oIfnonnull 93 80), (1, oFail), (1, oFail)]
set_option maxRecDepth 20000 in
theorem zX11_copy_4 : SndL mX11_copy 64 kX11_copy_4 := SndL.c (s_fail) (SndL.c (s_iconst (by decide +kernel) (in32_d (by decide))) (SndL.c (s_goto (off := 4) (by decide +kernel) (by decide)) (SndL.c (s_fail) (SndL.c (s_fail) (SndL.c (s_iconst (by decide +kernel) (in32_d (by decide))) (SndL.c (s_istore (by decide +kernel) (by decide)) (SndL.c (s_fail) (SndL.c (s_aload (by decide +kernel)) (SndL.c (s_fail) (SndL.c (s_getf (k := 4) clok10 (by decide) rfl (by decide) rfl w_1_178 (Or.inl rfl) (by decide +kernel)) (SndL.c (s_fail) (SndL.c (s_fail) (SndL.c (s_ifnonnull (off := 16) (by decide +kernel) (by decide)) (SndL.c (s_fail) (SndL.c (s_fail) (SndL.n))))))))))))))))
def kX11_copy_5 : List En := [(0, oRload 7 82), (1, oFail), (0, oGetf 11 4 2 85), (1, oFail), (1, oFail), (0, oIfnonnull 93 88), (1, oFail), (1, oFail), (0, oIload 8 90), (1, oFail), (0, oIfEq 100 93), (1, oFail), (1, oFail), (0, oRload 0 94), (0, oPush (vI (-2)) 96), (1, oFail)]
set_option maxRecDepth 20000 in
theorem zX11_copy_5 : SndL mX11_copy 80 kX11_copy_5 := SndL.c (s_aload (by decide +kernel)) (SndL.c (s_fail) (SndL.c (s_getf (k := 4) clok10 (by decide) rfl (by decide) rfl w_1_178 (Or.inl rfl) (by decide +kernel)) (SndL.c (s_fail) (SndL.c (s_fail) (SndL.c (s_ifnonnull (off := 8) (by decide +kernel) (by decide)) (SndL.c (s_fail) (SndL.c (s_fail) (SndL.c (s_iload (by decide +kernel)) (SndL.c (s_fail) (SndL.c (s_if_eq (off := 10) (by decide +kernel) (by decide)) (SndL.c (s_fail) (SndL.c (s_fail) (SndL.c (s_aload_n (k := 0) (by decide +kernel) rfl) (SndL.c (s_bipush (by decide +kernel) (in32_d (by decide)) (by decide +kernel)) (SndL.c (s_fail) (SndL.n))))))))))))))))
def kX11_copy_6 : List En := [(2, oInvV 13 mX11_refused 1 99), (1, oFail), (1, oFail), (0, oRetI), (0, oRload 6 102), (1, oFail), (0, oGetf 11 1 3 105), (1, oFail), (1, oFail), (0, oIfEq 116 108), (1, oFail), (1, oFail), (0, oRload 7 110), (1, oFail), (0, oGetf 11 1 3 113), (1, oFail)]
set_option maxRecDepth 20000 in
theorem zX11_copy_6 : SndL mX11_copy 96 kX11_copy_6 := SndL.c (s_invV (r := (RX11, TX11, 14)) (ci := 12) okX11_refused rfl (by decide) rfl rfl w_1_239 w_2_1 v_0 (by decide +kernel)) (SndL.c (s_fail) (SndL.c (s_fail) (SndL.c (s_ret_i rfl (by decide +kernel)) (SndL.c (s_aload (by decide +kernel)) (SndL.c (s_fail) (SndL.c (s_getf (k := 1) clok10 (by decide) rfl (by decide) rfl w_1_171 (Or.inl rfl) (by decide +kernel)) (SndL.c (s_fail) (SndL.c (s_fail) (SndL.c (s_if_eq (off := 11) (by decide +kernel) (by decide)) (SndL.c (s_fail) (SndL.c (s_fail) (SndL.c (s_aload (by decide +kernel)) (SndL.c (s_fail) (SndL.c (s_getf (k := 1) clok10 (by decide) rfl (by decide) rfl w_1_171 (Or.inl rfl) (by decide +kernel)) (SndL.c (s_fail) (SndL.n))))))))))))))))
def kX11_copy_7 : List En := [(1, oFail), (0, oIfNe 123 116), (1, oFail), (1, oFail), (0, oRload 0 117), (0, oPush (vI (-3)) 119), (1, oFail), (2, oInvV 13 mX11_refused 1 122), (1, oFail), (1, oFail), (0, oRetI), (0, oIload 5 125), (1, oFail), (0, oIfGe 135 128), (1, oFail), (1, oFail)]
set_option maxRecDepth 20000 in
theorem zX11_copy_7 : SndL mX11_copy 112 kX11_copy_7 := SndL.c (s_fail) (SndL.c (s_if_ne (off := 10) (by decide +kernel) (by decide)) (SndL.c (s_fail) (SndL.c (s_fail) (SndL.c (s_aload_n (k := 0) (by decide +kernel) rfl) (SndL.c (s_bipush (by decide +kernel) (in32_d (by decide)) (by decide +kernel)) (SndL.c (s_fail) (SndL.c (s_invV (r := (RX11, TX11, 14)) (ci := 12) okX11_refused rfl (by decide) rfl rfl w_1_239 w_2_1 v_0 (by decide +kernel)) (SndL.c (s_fail) (SndL.c (s_fail) (SndL.c (s_ret_i rfl (by decide +kernel)) (SndL.c (s_iload (by decide +kernel)) (SndL.c (s_fail) (SndL.c (s_if_ge (off := 10) (by decide +kernel) (by decide)) (SndL.c (s_fail) (SndL.c (s_fail) (SndL.n))))))))))))))))
def kX11_copy_8 : List En := [(0, oRload 0 129), (0, oPush (vI (-4)) 131), (1, oFail), (2, oInvV 13 mX11_refused 1 134), (1, oFail), (1, oFail), (0, oRetI), (0, oIload 3 136), (0, oIfLt 169 139), (1, oFail), (1, oFail), (0, oIload 4 141), (1, oFail), (0, oIfLt 169 144), (1, oFail), (1, oFail)]
set_option maxRecDepth 20000 in
theorem zX11_copy_8 : SndL mX11_copy 128 kX11_copy_8 := SndL.c (s_aload_n (k := 0) (by decide +kernel) rfl) (SndL.c (s_bipush (by decide +kernel) (in32_d (by decide)) (by decide +kernel)) (SndL.c (s_fail) (SndL.c (s_invV (r := (RX11, TX11, 14)) (ci := 12) okX11_refused rfl (by decide) rfl rfl w_1_239 w_2_1 v_0 (by decide +kernel)) (SndL.c (s_fail) (SndL.c (s_fail) (SndL.c (s_ret_i rfl (by decide +kernel)) (SndL.c (s_iload_n (k := 3) (by decide +kernel) rfl) (SndL.c (s_if_lt (off := 33) (by decide +kernel) (by decide)) (SndL.c (s_fail) (SndL.c (s_fail) (SndL.c (s_iload (by decide +kernel)) (SndL.c (s_fail) (SndL.c (s_if_lt (off := 28) (by decide +kernel) (by decide)) (SndL.c (s_fail) (SndL.c (s_fail) (SndL.n))))))))))))))))
def kX11_copy_9 : List En := [(0, oIload 3 145), (0, oRload 6 147), (1, oFail), (0, oGetf 11 3 0 150), (1, oFail), (1, oFail), (0, oIload 5 152), (1, oFail), (0, oIsub 153), (0, oIcGt 169 156), (1, oFail), (1, oFail), (0, oIload 4 158), (1, oFail), (0, oRload 7 160), (1, oFail)]
set_option maxRecDepth 20000 in
theorem zX11_copy_9 : SndL mX11_copy 144 kX11_copy_9 := SndL.c (s_iload_n (k := 3) (by decide +kernel) rfl) (SndL.c (s_aload (by decide +kernel)) (SndL.c (s_fail) (SndL.c (s_getf (k := 3) clok10 (by decide) rfl (by decide) rfl w_1_176 (Or.inl rfl) (by decide +kernel)) (SndL.c (s_fail) (SndL.c (s_fail) (SndL.c (s_iload (by decide +kernel)) (SndL.c (s_fail) (SndL.c (s_isub (by decide +kernel)) (SndL.c (s_ic_gt (off := 16) (by decide +kernel) (by decide)) (SndL.c (s_fail) (SndL.c (s_fail) (SndL.c (s_iload (by decide +kernel)) (SndL.c (s_fail) (SndL.c (s_aload (by decide +kernel)) (SndL.c (s_fail) (SndL.n))))))))))))))))
def kX11_copy_10 : List En := [(0, oGetf 11 3 0 163), (1, oFail), (1, oFail), (0, oIload 5 165), (1, oFail), (0, oIsub 166), (0, oIcLe 176 169), (1, oFail), (1, oFail), (0, oRload 0 170), (0, oPush (vI (-5)) 172), (1, oFail), (2, oInvV 13 mX11_refused 1 175), (1, oFail), (1, oFail), (0, oRetI)]
set_option maxRecDepth 20000 in
theorem zX11_copy_10 : SndL mX11_copy 160 kX11_copy_10 := SndL.c (s_getf (k := 3) clok10 (by decide) rfl (by decide) rfl w_1_176 (Or.inl rfl) (by decide +kernel)) (SndL.c (s_fail) (SndL.c (s_fail) (SndL.c (s_iload (by decide +kernel)) (SndL.c (s_fail) (SndL.c (s_isub (by decide +kernel)) (SndL.c (s_ic_le (off := 10) (by decide +kernel) (by decide)) (SndL.c (s_fail) (SndL.c (s_fail) (SndL.c (s_aload_n (k := 0) (by decide +kernel) rfl) (SndL.c (s_bipush (by decide +kernel) (in32_d (by decide)) (by decide +kernel)) (SndL.c (s_fail) (SndL.c (s_invV (r := (RX11, TX11, 14)) (ci := 12) okX11_refused rfl (by decide) rfl rfl w_1_239 w_2_1 v_0 (by decide +kernel)) (SndL.c (s_fail) (SndL.c (s_fail) (SndL.c (s_ret_i rfl (by decide +kernel)) (SndL.n))))))))))))))))
def kX11_copy_11 : List En := [(0, oRload 6 178), (1, oFail), (0, oGetf 11 0 2 181), (1, oFail), (1, oFail), (0, oIload 3 182), (0, oRload 7 184), (1, oFail), (0, oGetf 11 0 2 187), (1, oFail), (1, oFail), (0, oIload 4 189), (1, oFail), (0, oIload 5 191), (1, oFail), (0, oCopyL 194)]
set_option maxRecDepth 20000 in
theorem zX11_copy_11 : SndL mX11_copy 176 kX11_copy_11 := SndL.c (s_aload (by decide +kernel)) (SndL.c (s_fail) (SndL.c (s_getf (k := 0) clok10 (by decide) rfl (by decide) rfl w_1_169 (Or.inl rfl) (by decide +kernel)) (SndL.c (s_fail) (SndL.c (s_fail) (SndL.c (s_iload_n (k := 3) (by decide +kernel) rfl) (SndL.c (s_aload (by decide +kernel)) (SndL.c (s_fail) (SndL.c (s_getf (k := 0) clok10 (by decide) rfl (by decide) rfl w_1_169 (Or.inl rfl) (by decide +kernel)) (SndL.c (s_fail) (SndL.c (s_fail) (SndL.c (s_iload (by decide +kernel)) (SndL.c (s_fail) (SndL.c (s_iload (by decide +kernel)) (SndL.c (s_fail) (SndL.c (s_copyL w_2_30 w_2_32 w_2_31 w_1_12 (by decide +kernel)) (SndL.n))))))))))))))))
def kX11_copy_12 : List En := [(1, oFail), (1, oFail), (0, oPush (vI 1) 195), (0, oRetI)]
set_option maxRecDepth 20000 in
theorem zX11_copy_12 : SndL mX11_copy 192 kX11_copy_12 := SndL.c (s_fail) (SndL.c (s_fail) (SndL.c (s_iconst (by decide +kernel) (in32_d (by decide))) (SndL.c (s_ret_i rfl (by decide +kernel)) (SndL.n))))
def kX11_copy : Cd := [kX11_copy_0, kX11_copy_1, kX11_copy_2, kX11_copy_3, kX11_copy_4, kX11_copy_5, kX11_copy_6, kX11_copy_7, kX11_copy_8, kX11_copy_9, kX11_copy_10, kX11_copy_11, kX11_copy_12]
theorem zX11_copy : SndC mX11_copy 0 kX11_copy := SndC.c zX11_copy_0 (by decide) (SndC.c zX11_copy_1 (by decide) (SndC.c zX11_copy_2 (by decide) (SndC.c zX11_copy_3 (by decide) (SndC.c zX11_copy_4 (by decide) (SndC.c zX11_copy_5 (by decide) (SndC.c zX11_copy_6 (by decide) (SndC.c zX11_copy_7 (by decide) (SndC.c zX11_copy_8 (by decide) (SndC.c zX11_copy_9 (by decide) (SndC.c zX11_copy_10 (by decide) (SndC.c zX11_copy_11 (by decide) (SndC.c zX11_copy_12 (by decide) (SndC.n)))))))))))))
theorem aX11_copy_0 : at_ kX11_copy 0 = (0, oIload 1 1) := rfl
theorem aX11_copy_1 : at_ kX11_copy 1 = (2, oInvS mX11_isShelf 1 4) := rfl
theorem aX11_copy_4 : at_ kX11_copy 4 = (0, oIfEq 14 7) := rfl
theorem aX11_copy_7 : at_ kX11_copy 7 = (0, oIload 2 8) := rfl
theorem aX11_copy_8 : at_ kX11_copy 8 = (2, oInvS mX11_isShelf 1 11) := rfl
theorem aX11_copy_11 : at_ kX11_copy 11 = (0, oIfNe 20 14) := rfl
theorem aX11_copy_14 : at_ kX11_copy 14 = (0, oRload 0 15) := rfl
theorem aX11_copy_15 : at_ kX11_copy 15 = (0, oPush (vI (-1)) 16) := rfl
theorem aX11_copy_16 : at_ kX11_copy 16 = (2, oInvV 13 mX11_refused 1 19) := rfl
theorem aX11_copy_19 : at_ kX11_copy 19 = (0, oRetI) := rfl
theorem aX11_copy_20 : at_ kX11_copy 20 = (0, oRload 0 21) := rfl
theorem aX11_copy_21 : at_ kX11_copy 21 = (0, oGetf 13 0 2 24) := rfl
theorem aX11_copy_24 : at_ kX11_copy 24 = (0, oIload 1 25) := rfl
theorem aX11_copy_25 : at_ kX11_copy 25 = (0, oAald 111 26) := rfl
theorem aX11_copy_26 : at_ kX11_copy 26 = (0, oRstore 6 28) := rfl
theorem aX11_copy_28 : at_ kX11_copy 28 = (0, oRload 0 29) := rfl
theorem aX11_copy_29 : at_ kX11_copy 29 = (0, oGetf 13 0 2 32) := rfl
theorem aX11_copy_32 : at_ kX11_copy 32 = (0, oIload 2 33) := rfl
theorem aX11_copy_33 : at_ kX11_copy 33 = (0, oAald 111 34) := rfl
theorem aX11_copy_34 : at_ kX11_copy 34 = (0, oRstore 7 36) := rfl
theorem aX11_copy_36 : at_ kX11_copy 36 = (0, oRload 6 38) := rfl
theorem aX11_copy_38 : at_ kX11_copy 38 = (0, oGetf 11 1 3 41) := rfl
theorem aX11_copy_41 : at_ kX11_copy 41 = (0, oIfEq 69 44) := rfl
theorem aX11_copy_44 : at_ kX11_copy 44 = (0, oRload 7 46) := rfl
theorem aX11_copy_46 : at_ kX11_copy 46 = (0, oGetf 11 1 3 49) := rfl
theorem aX11_copy_49 : at_ kX11_copy 49 = (0, oIfEq 69 52) := rfl
theorem aX11_copy_52 : at_ kX11_copy 52 = (0, oRload 6 54) := rfl
theorem aX11_copy_54 : at_ kX11_copy 54 = (0, oGetf 11 2 0 57) := rfl
theorem aX11_copy_57 : at_ kX11_copy 57 = (0, oRload 7 59) := rfl
theorem aX11_copy_59 : at_ kX11_copy 59 = (0, oGetf 11 2 0 62) := rfl
theorem aX11_copy_62 : at_ kX11_copy 62 = (0, oIcEq 69 65) := rfl
theorem aX11_copy_65 : at_ kX11_copy 65 = (0, oPush (vI 1) 66) := rfl
theorem aX11_copy_66 : at_ kX11_copy 66 = (0, oGoto 70) := rfl
theorem aX11_copy_69 : at_ kX11_copy 69 = (0, oPush (vI 0) 70) := rfl
theorem aX11_copy_70 : at_ kX11_copy 70 = (0, oIstore 8 72) := rfl
theorem aX11_copy_72 : at_ kX11_copy 72 = (0, oRload 6 74) := rfl
theorem aX11_copy_74 : at_ kX11_copy 74 = (0, oGetf 11 4 2 77) := rfl
theorem aX11_copy_77 : at_ kX11_copy 77 = (0, oIfnonnull 93 80) := rfl
theorem aX11_copy_80 : at_ kX11_copy 80 = (0, oRload 7 82) := rfl
theorem aX11_copy_82 : at_ kX11_copy 82 = (0, oGetf 11 4 2 85) := rfl
theorem aX11_copy_85 : at_ kX11_copy 85 = (0, oIfnonnull 93 88) := rfl
theorem aX11_copy_88 : at_ kX11_copy 88 = (0, oIload 8 90) := rfl
theorem aX11_copy_90 : at_ kX11_copy 90 = (0, oIfEq 100 93) := rfl
theorem aX11_copy_93 : at_ kX11_copy 93 = (0, oRload 0 94) := rfl
theorem aX11_copy_94 : at_ kX11_copy 94 = (0, oPush (vI (-2)) 96) := rfl
theorem aX11_copy_96 : at_ kX11_copy 96 = (2, oInvV 13 mX11_refused 1 99) := rfl
theorem aX11_copy_99 : at_ kX11_copy 99 = (0, oRetI) := rfl
theorem aX11_copy_100 : at_ kX11_copy 100 = (0, oRload 6 102) := rfl
theorem aX11_copy_102 : at_ kX11_copy 102 = (0, oGetf 11 1 3 105) := rfl
theorem aX11_copy_105 : at_ kX11_copy 105 = (0, oIfEq 116 108) := rfl
theorem aX11_copy_108 : at_ kX11_copy 108 = (0, oRload 7 110) := rfl
theorem aX11_copy_110 : at_ kX11_copy 110 = (0, oGetf 11 1 3 113) := rfl
theorem aX11_copy_113 : at_ kX11_copy 113 = (0, oIfNe 123 116) := rfl
theorem aX11_copy_116 : at_ kX11_copy 116 = (0, oRload 0 117) := rfl
theorem aX11_copy_117 : at_ kX11_copy 117 = (0, oPush (vI (-3)) 119) := rfl
theorem aX11_copy_119 : at_ kX11_copy 119 = (2, oInvV 13 mX11_refused 1 122) := rfl
theorem aX11_copy_122 : at_ kX11_copy 122 = (0, oRetI) := rfl
theorem aX11_copy_123 : at_ kX11_copy 123 = (0, oIload 5 125) := rfl
theorem aX11_copy_125 : at_ kX11_copy 125 = (0, oIfGe 135 128) := rfl
theorem aX11_copy_128 : at_ kX11_copy 128 = (0, oRload 0 129) := rfl
theorem aX11_copy_129 : at_ kX11_copy 129 = (0, oPush (vI (-4)) 131) := rfl
theorem aX11_copy_131 : at_ kX11_copy 131 = (2, oInvV 13 mX11_refused 1 134) := rfl
theorem aX11_copy_134 : at_ kX11_copy 134 = (0, oRetI) := rfl
theorem aX11_copy_135 : at_ kX11_copy 135 = (0, oIload 3 136) := rfl
theorem aX11_copy_136 : at_ kX11_copy 136 = (0, oIfLt 169 139) := rfl
theorem aX11_copy_139 : at_ kX11_copy 139 = (0, oIload 4 141) := rfl
theorem aX11_copy_141 : at_ kX11_copy 141 = (0, oIfLt 169 144) := rfl
theorem aX11_copy_144 : at_ kX11_copy 144 = (0, oIload 3 145) := rfl
theorem aX11_copy_145 : at_ kX11_copy 145 = (0, oRload 6 147) := rfl
theorem aX11_copy_147 : at_ kX11_copy 147 = (0, oGetf 11 3 0 150) := rfl
theorem aX11_copy_150 : at_ kX11_copy 150 = (0, oIload 5 152) := rfl
theorem aX11_copy_152 : at_ kX11_copy 152 = (0, oIsub 153) := rfl
theorem aX11_copy_153 : at_ kX11_copy 153 = (0, oIcGt 169 156) := rfl
theorem aX11_copy_156 : at_ kX11_copy 156 = (0, oIload 4 158) := rfl
theorem aX11_copy_158 : at_ kX11_copy 158 = (0, oRload 7 160) := rfl
theorem aX11_copy_160 : at_ kX11_copy 160 = (0, oGetf 11 3 0 163) := rfl
theorem aX11_copy_163 : at_ kX11_copy 163 = (0, oIload 5 165) := rfl
theorem aX11_copy_165 : at_ kX11_copy 165 = (0, oIsub 166) := rfl
theorem aX11_copy_166 : at_ kX11_copy 166 = (0, oIcLe 176 169) := rfl
theorem aX11_copy_169 : at_ kX11_copy 169 = (0, oRload 0 170) := rfl
theorem aX11_copy_170 : at_ kX11_copy 170 = (0, oPush (vI (-5)) 172) := rfl
theorem aX11_copy_172 : at_ kX11_copy 172 = (2, oInvV 13 mX11_refused 1 175) := rfl
theorem aX11_copy_175 : at_ kX11_copy 175 = (0, oRetI) := rfl
theorem aX11_copy_176 : at_ kX11_copy 176 = (0, oRload 6 178) := rfl
theorem aX11_copy_178 : at_ kX11_copy 178 = (0, oGetf 11 0 2 181) := rfl
theorem aX11_copy_181 : at_ kX11_copy 181 = (0, oIload 3 182) := rfl
theorem aX11_copy_182 : at_ kX11_copy 182 = (0, oRload 7 184) := rfl
theorem aX11_copy_184 : at_ kX11_copy 184 = (0, oGetf 11 0 2 187) := rfl
theorem aX11_copy_187 : at_ kX11_copy 187 = (0, oIload 4 189) := rfl
theorem aX11_copy_189 : at_ kX11_copy 189 = (0, oIload 5 191) := rfl
theorem aX11_copy_191 : at_ kX11_copy 191 = (0, oCopyL 194) := rfl
theorem aX11_copy_194 : at_ kX11_copy 194 = (0, oPush (vI 1) 195) := rfl
theorem aX11_copy_195 : at_ kX11_copy 195 = (0, oRetI) := rfl
def kX11_element_0 : List En := [(0, oRload 0 1), (0, oIload 1 2), (2, oInvV 13 mX11_lackOfRow 1 5), (1, oFail), (1, oFail), (0, oIfNe 25 8), (1, oFail), (1, oFail), (0, oIload 2 9), (0, oIfLt 25 12), (1, oFail), (1, oFail), (0, oIload 2 13), (0, oRload 0 14), (0, oGetf 13 0 2 17), (1, oFail)]
set_option maxRecDepth 20000 in
theorem zX11_element_0 : SndL mX11_element 0 kX11_element_0 := SndL.c (s_aload_n (k := 0) (by decide +kernel) rfl) (SndL.c (s_iload_n (k := 1) (by decide +kernel) rfl) (SndL.c (s_invV (r := (RX11, TX11, 14)) (ci := 12) okX11_lackOfRow rfl (by decide) rfl rfl w_2_18 w_2_20 v_1 (by decide +kernel)) (SndL.c (s_fail) (SndL.c (s_fail) (SndL.c (s_if_ne (off := 20) (by decide +kernel) (by decide)) (SndL.c (s_fail) (SndL.c (s_fail) (SndL.c (s_iload_n (k := 2) (by decide +kernel) rfl) (SndL.c (s_if_lt (off := 16) (by decide +kernel) (by decide)) (SndL.c (s_fail) (SndL.c (s_fail) (SndL.c (s_iload_n (k := 2) (by decide +kernel) rfl) (SndL.c (s_aload_n (k := 0) (by decide +kernel) rfl) (SndL.c (s_getf (k := 0) clok12 (by decide) rfl (by decide) rfl w_1_192 (Or.inl rfl) (by decide +kernel)) (SndL.c (s_fail) (SndL.n))))))))))))))))
def kX11_element_1 : List En := [(1, oFail), (0, oIload 1 18), (0, oAald 111 19), (0, oGetf 11 3 0 22), (1, oFail), (1, oFail), (0, oIcLt 27 25), (1, oFail), (1, oFail), (0, oPush (vL 0) 26), (0, oRetL), (0, oRload 0 28), (0, oGetf 13 0 2 31), (1, oFail), (1, oFail), (0, oIload 1 32)]
set_option maxRecDepth 20000 in
theorem zX11_element_1 : SndL mX11_element 16 kX11_element_1 := SndL.c (s_fail) (SndL.c (s_iload_n (k := 1) (by decide +kernel) rfl) (SndL.c (s_aald (kd := 111) (akd_d (by decide)) rfl rfl (by decide +kernel)) (SndL.c (s_getf (k := 3) clok10 (by decide) rfl (by decide) rfl w_1_176 (Or.inl rfl) (by decide +kernel)) (SndL.c (s_fail) (SndL.c (s_fail) (SndL.c (s_ic_lt (off := 5) (by decide +kernel) (by decide)) (SndL.c (s_fail) (SndL.c (s_fail) (SndL.c (s_lconst (n := 0) (by decide +kernel) (in64_d (by decide)) (by decide +kernel)) (SndL.c (s_ret_l rfl (by decide +kernel)) (SndL.c (s_aload_n (k := 0) (by decide +kernel) rfl) (SndL.c (s_getf (k := 0) clok12 (by decide) rfl (by decide) rfl w_1_192 (Or.inl rfl) (by decide +kernel)) (SndL.c (s_fail) (SndL.c (s_fail) (SndL.c (s_iload_n (k := 1) (by decide +kernel) rfl) (SndL.n))))))))))))))))
def kX11_element_2 : List En := [(0, oAald 111 33), (0, oGetf 11 0 2 36), (1, oFail), (1, oFail), (0, oIload 2 37), (0, oLald 38), (0, oRetL)]
set_option maxRecDepth 20000 in
theorem zX11_element_2 : SndL mX11_element 32 kX11_element_2 := SndL.c (s_aald (kd := 111) (akd_d (by decide)) rfl rfl (by decide +kernel)) (SndL.c (s_getf (k := 0) clok10 (by decide) rfl (by decide) rfl w_1_169 (Or.inl rfl) (by decide +kernel)) (SndL.c (s_fail) (SndL.c (s_fail) (SndL.c (s_iload_n (k := 2) (by decide +kernel) rfl) (SndL.c (s_lald (by decide +kernel)) (SndL.c (s_ret_l rfl (by decide +kernel)) (SndL.n)))))))
def kX11_element : Cd := [kX11_element_0, kX11_element_1, kX11_element_2]
theorem zX11_element : SndC mX11_element 0 kX11_element := SndC.c zX11_element_0 (by decide) (SndC.c zX11_element_1 (by decide) (SndC.c zX11_element_2 (by decide) (SndC.n)))
theorem aX11_element_0 : at_ kX11_element 0 = (0, oRload 0 1) := rfl
theorem aX11_element_1 : at_ kX11_element 1 = (0, oIload 1 2) := rfl
theorem aX11_element_2 : at_ kX11_element 2 = (2, oInvV 13 mX11_lackOfRow 1 5) := rfl
theorem aX11_element_5 : at_ kX11_element 5 = (0, oIfNe 25 8) := rfl
theorem aX11_element_8 : at_ kX11_element 8 = (0, oIload 2 9) := rfl
theorem aX11_element_9 : at_ kX11_element 9 = (0, oIfLt 25 12) := rfl
theorem aX11_element_12 : at_ kX11_element 12 = (0, oIload 2 13) := rfl
theorem aX11_element_13 : at_ kX11_element 13 = (0, oRload 0 14) := rfl
theorem aX11_element_14 : at_ kX11_element 14 = (0, oGetf 13 0 2 17) := rfl
theorem aX11_element_17 : at_ kX11_element 17 = (0, oIload 1 18) := rfl
theorem aX11_element_18 : at_ kX11_element 18 = (0, oAald 111 19) := rfl
theorem aX11_element_19 : at_ kX11_element 19 = (0, oGetf 11 3 0 22) := rfl
theorem aX11_element_22 : at_ kX11_element 22 = (0, oIcLt 27 25) := rfl
theorem aX11_element_25 : at_ kX11_element 25 = (0, oPush (vL 0) 26) := rfl
theorem aX11_element_26 : at_ kX11_element 26 = (0, oRetL) := rfl
theorem aX11_element_27 : at_ kX11_element 27 = (0, oRload 0 28) := rfl
theorem aX11_element_28 : at_ kX11_element 28 = (0, oGetf 13 0 2 31) := rfl
theorem aX11_element_31 : at_ kX11_element 31 = (0, oIload 1 32) := rfl
theorem aX11_element_32 : at_ kX11_element 32 = (0, oAald 111 33) := rfl
theorem aX11_element_33 : at_ kX11_element 33 = (0, oGetf 11 0 2 36) := rfl
theorem aX11_element_36 : at_ kX11_element 36 = (0, oIload 2 37) := rfl
theorem aX11_element_37 : at_ kX11_element 37 = (0, oLald 38) := rfl
theorem aX11_element_38 : at_ kX11_element 38 = (0, oRetL) := rfl
def kX11_holds_0 : List En := [(0, oIload 1 1), (2, oInvS mX11_isShelf 1 4), (1, oFail), (1, oFail), (0, oIfNe 9 7), (1, oFail), (1, oFail), (0, oPush (vI (-1)) 8), (0, oRetI), (0, oRload 0 10), (0, oGetf 13 0 2 13), (1, oFail), (1, oFail), (0, oIload 1 14), (0, oAald 111 15), (0, oRstore 2 16)]
set_option maxRecDepth 20000 in
theorem zX11_holds_0 : SndL mX11_holds 0 kX11_holds_0 := SndL.c (s_iload_n (k := 1) (by decide +kernel) rfl) (SndL.c (s_invS okX11_isShelf w_2_7 w_2_8 (by decide +kernel)) (SndL.c (s_fail) (SndL.c (s_fail) (SndL.c (s_if_ne (off := 5) (by decide +kernel) (by decide)) (SndL.c (s_fail) (SndL.c (s_fail) (SndL.c (s_iconst (by decide +kernel) (in32_d (by decide))) (SndL.c (s_ret_i rfl (by decide +kernel)) (SndL.c (s_aload_n (k := 0) (by decide +kernel) rfl) (SndL.c (s_getf (k := 0) clok12 (by decide) rfl (by decide) rfl w_1_192 (Or.inl rfl) (by decide +kernel)) (SndL.c (s_fail) (SndL.c (s_fail) (SndL.c (s_iload_n (k := 1) (by decide +kernel) rfl) (SndL.c (s_aald (kd := 111) (akd_d (by decide)) rfl rfl (by decide +kernel)) (SndL.c (s_astore_n (k := 2) (by decide +kernel) rfl (by decide)) (SndL.n))))))))))))))))
def kX11_holds_1 : List En := [(0, oRload 2 17), (0, oGetf 11 4 2 20), (1, oFail), (1, oFail), (0, oIfnull 31 23), (1, oFail), (1, oFail), (0, oRload 2 24), (0, oGetf 11 4 2 27), (1, oFail), (1, oFail), (0, oGetf 4 0 0 30), (1, oFail), (1, oFail), (0, oRetI), (0, oRload 2 32)]
set_option maxRecDepth 20000 in
theorem zX11_holds_1 : SndL mX11_holds 16 kX11_holds_1 := SndL.c (s_aload_n (k := 2) (by decide +kernel) rfl) (SndL.c (s_getf (k := 4) clok10 (by decide) rfl (by decide) rfl w_1_178 (Or.inl rfl) (by decide +kernel)) (SndL.c (s_fail) (SndL.c (s_fail) (SndL.c (s_ifnull (off := 11) (by decide +kernel) (by decide)) (SndL.c (s_fail) (SndL.c (s_fail) (SndL.c (s_aload_n (k := 2) (by decide +kernel) rfl) (SndL.c (s_getf (k := 4) clok10 (by decide) rfl (by decide) rfl w_1_178 (Or.inl rfl) (by decide +kernel)) (SndL.c (s_fail) (SndL.c (s_fail) (SndL.c (s_getf (k := 0) clok3 (by decide) rfl (by decide) rfl w_3_5 (Or.inl rfl) (by decide +kernel)) (SndL.c (s_fail) (SndL.c (s_fail) (SndL.c (s_ret_i rfl (by decide +kernel)) (SndL.c (s_aload_n (k := 2) (by decide +kernel) rfl) (SndL.n))))))))))))))))
def kX11_holds_2 : List En := [(0, oGetf 11 1 3 35), (1, oFail), (1, oFail), (0, oIfEq 48 38), (1, oFail), (1, oFail), (0, oPush (vI 100) 40), (1, oFail), (0, oRload 2 41), (0, oGetf 11 2 0 44), (1, oFail), (1, oFail), (0, oIadd 45), (0, oGoto 49), (1, oFail), (1, oFail)]
set_option maxRecDepth 20000 in
theorem zX11_holds_2 : SndL mX11_holds 32 kX11_holds_2 := SndL.c (s_getf (k := 1) clok10 (by decide) rfl (by decide) rfl w_1_171 (Or.inl rfl) (by decide +kernel)) (SndL.c (s_fail) (SndL.c (s_fail) (SndL.c (s_if_eq (off := 13) (by decide +kernel) (by decide)) (SndL.c (s_fail) (SndL.c (s_fail) (SndL.c (s_bipush (by decide +kernel) (in32_d (by decide)) (by decide +kernel)) (SndL.c (s_fail) (SndL.c (s_aload_n (k := 2) (by decide +kernel) rfl) (SndL.c (s_getf (k := 2) clok10 (by decide) rfl (by decide) rfl w_1_173 (Or.inl rfl) (by decide +kernel)) (SndL.c (s_fail) (SndL.c (s_fail) (SndL.c (s_iadd (by decide +kernel)) (SndL.c (s_goto (off := 4) (by decide +kernel) (by decide)) (SndL.c (s_fail) (SndL.c (s_fail) (SndL.n))))))))))))))))
def kX11_holds_3 : List En := [(0, oPush (vI (-1)) 49), (0, oRetI)]
set_option maxRecDepth 20000 in
theorem zX11_holds_3 : SndL mX11_holds 48 kX11_holds_3 := SndL.c (s_iconst (by decide +kernel) (in32_d (by decide))) (SndL.c (s_ret_i rfl (by decide +kernel)) (SndL.n))
def kX11_holds : Cd := [kX11_holds_0, kX11_holds_1, kX11_holds_2, kX11_holds_3]
theorem zX11_holds : SndC mX11_holds 0 kX11_holds := SndC.c zX11_holds_0 (by decide) (SndC.c zX11_holds_1 (by decide) (SndC.c zX11_holds_2 (by decide) (SndC.c zX11_holds_3 (by decide) (SndC.n))))
theorem aX11_holds_0 : at_ kX11_holds 0 = (0, oIload 1 1) := rfl
theorem aX11_holds_1 : at_ kX11_holds 1 = (2, oInvS mX11_isShelf 1 4) := rfl
theorem aX11_holds_4 : at_ kX11_holds 4 = (0, oIfNe 9 7) := rfl
theorem aX11_holds_7 : at_ kX11_holds 7 = (0, oPush (vI (-1)) 8) := rfl
theorem aX11_holds_8 : at_ kX11_holds 8 = (0, oRetI) := rfl
theorem aX11_holds_9 : at_ kX11_holds 9 = (0, oRload 0 10) := rfl
theorem aX11_holds_10 : at_ kX11_holds 10 = (0, oGetf 13 0 2 13) := rfl
theorem aX11_holds_13 : at_ kX11_holds 13 = (0, oIload 1 14) := rfl
theorem aX11_holds_14 : at_ kX11_holds 14 = (0, oAald 111 15) := rfl
theorem aX11_holds_15 : at_ kX11_holds 15 = (0, oRstore 2 16) := rfl
theorem aX11_holds_16 : at_ kX11_holds 16 = (0, oRload 2 17) := rfl
theorem aX11_holds_17 : at_ kX11_holds 17 = (0, oGetf 11 4 2 20) := rfl
theorem aX11_holds_20 : at_ kX11_holds 20 = (0, oIfnull 31 23) := rfl
theorem aX11_holds_23 : at_ kX11_holds 23 = (0, oRload 2 24) := rfl
theorem aX11_holds_24 : at_ kX11_holds 24 = (0, oGetf 11 4 2 27) := rfl
theorem aX11_holds_27 : at_ kX11_holds 27 = (0, oGetf 4 0 0 30) := rfl
theorem aX11_holds_30 : at_ kX11_holds 30 = (0, oRetI) := rfl
theorem aX11_holds_31 : at_ kX11_holds 31 = (0, oRload 2 32) := rfl
theorem aX11_holds_32 : at_ kX11_holds 32 = (0, oGetf 11 1 3 35) := rfl
theorem aX11_holds_35 : at_ kX11_holds 35 = (0, oIfEq 48 38) := rfl
theorem aX11_holds_38 : at_ kX11_holds 38 = (0, oPush (vI 100) 40) := rfl
theorem aX11_holds_40 : at_ kX11_holds 40 = (0, oRload 2 41) := rfl
theorem aX11_holds_41 : at_ kX11_holds 41 = (0, oGetf 11 2 0 44) := rfl
theorem aX11_holds_44 : at_ kX11_holds 44 = (0, oIadd 45) := rfl
theorem aX11_holds_45 : at_ kX11_holds 45 = (0, oGoto 49) := rfl
theorem aX11_holds_48 : at_ kX11_holds 48 = (0, oPush (vI (-1)) 49) := rfl
theorem aX11_holds_49 : at_ kX11_holds 49 = (0, oRetI) := rfl
def kX11_says_0 : List En := [(0, oIload 1 1), (2, oInvS mX11_isShelf 1 4), (1, oFail), (1, oFail), (0, oIfEq 14 7), (1, oFail), (1, oFail), (0, oIload 2 8), (2, oInvS mX11_isKind 1 11), (1, oFail), (1, oFail), (0, oIfNe 20 14), (1, oFail), (1, oFail), (0, oRload 0 15), (0, oPush (vI (-1)) 16)]
set_option maxRecDepth 20000 in
theorem zX11_says_0 : SndL mX11_says 0 kX11_says_0 := SndL.c (s_iload_n (k := 1) (by decide +kernel) rfl) (SndL.c (s_invS okX11_isShelf w_2_7 w_2_8 (by decide +kernel)) (SndL.c (s_fail) (SndL.c (s_fail) (SndL.c (s_if_eq (off := 10) (by decide +kernel) (by decide)) (SndL.c (s_fail) (SndL.c (s_fail) (SndL.c (s_iload_n (k := 2) (by decide +kernel) rfl) (SndL.c (s_invS okX11_isKind w_2_45 w_2_46 (by decide +kernel)) (SndL.c (s_fail) (SndL.c (s_fail) (SndL.c (s_if_ne (off := 9) (by decide +kernel) (by decide)) (SndL.c (s_fail) (SndL.c (s_fail) (SndL.c (s_aload_n (k := 0) (by decide +kernel) rfl) (SndL.c (s_iconst (by decide +kernel) (in32_d (by decide))) (SndL.n))))))))))))))))
def kX11_says_1 : List En := [(2, oInvV 13 mX11_refused 1 19), (1, oFail), (1, oFail), (0, oRetI), (0, oRload 0 21), (0, oGetf 13 0 2 24), (1, oFail), (1, oFail), (0, oIload 1 25), (0, oAald 111 26), (0, oGetf 11 4 2 29), (1, oFail), (1, oFail), (0, oRstore 3 30), (0, oRload 0 31), (0, oGetf 13 0 2 34)]
set_option maxRecDepth 20000 in
theorem zX11_says_1 : SndL mX11_says 16 kX11_says_1 := SndL.c (s_invV (r := (RX11, TX11, 14)) (ci := 12) okX11_refused rfl (by decide) rfl rfl w_1_239 w_2_1 v_0 (by decide +kernel)) (SndL.c (s_fail) (SndL.c (s_fail) (SndL.c (s_ret_i rfl (by decide +kernel)) (SndL.c (s_aload_n (k := 0) (by decide +kernel) rfl) (SndL.c (s_getf (k := 0) clok12 (by decide) rfl (by decide) rfl w_1_192 (Or.inl rfl) (by decide +kernel)) (SndL.c (s_fail) (SndL.c (s_fail) (SndL.c (s_iload_n (k := 1) (by decide +kernel) rfl) (SndL.c (s_aald (kd := 111) (akd_d (by decide)) rfl rfl (by decide +kernel)) (SndL.c (s_getf (k := 4) clok10 (by decide) rfl (by decide) rfl w_1_178 (Or.inl rfl) (by decide +kernel)) (SndL.c (s_fail) (SndL.c (s_fail) (SndL.c (s_astore_n (k := 3) (by decide +kernel) rfl (by decide)) (SndL.c (s_aload_n (k := 0) (by decide +kernel) rfl) (SndL.c (s_getf (k := 0) clok12 (by decide) rfl (by decide) rfl w_1_192 (Or.inl rfl) (by decide +kernel)) (SndL.n))))))))))))))))
def kX11_says_2 : List En := [(1, oFail), (1, oFail), (0, oIload 1 35), (0, oAald 111 36), (0, oGetf 11 1 3 39), (1, oFail), (1, oFail), (0, oIfNe 54 42), (1, oFail), (1, oFail), (0, oRload 3 43), (0, oIfnull 61 46), (1, oFail), (1, oFail), (0, oRload 3 47), (0, oIload 2 48)]
set_option maxRecDepth 20000 in
theorem zX11_says_2 : SndL mX11_says 32 kX11_says_2 := SndL.c (s_fail) (SndL.c (s_fail) (SndL.c (s_iload_n (k := 1) (by decide +kernel) rfl) (SndL.c (s_aald (kd := 111) (akd_d (by decide)) rfl rfl (by decide +kernel)) (SndL.c (s_getf (k := 1) clok10 (by decide) rfl (by decide) rfl w_1_171 (Or.inl rfl) (by decide +kernel)) (SndL.c (s_fail) (SndL.c (s_fail) (SndL.c (s_if_ne (off := 15) (by decide +kernel) (by decide)) (SndL.c (s_fail) (SndL.c (s_fail) (SndL.c (s_aload_n (k := 3) (by decide +kernel) rfl) (SndL.c (s_ifnull (off := 18) (by decide +kernel) (by decide)) (SndL.c (s_fail) (SndL.c (s_fail) (SndL.c (s_aload_n (k := 3) (by decide +kernel) rfl) (SndL.c (s_iload_n (k := 2) (by decide +kernel) rfl) (SndL.n))))))))))))))))
def kX11_says_3 : List En := [(2, oInvV 4 mX2_isOf 1 51), (1, oFail), (1, oFail), (0, oIfNe 61 54), (1, oFail), (1, oFail), (0, oRload 0 55), (0, oPush (vI (-2)) 57), (1, oFail), (2, oInvV 13 mX11_refused 1 60), (1, oFail), (1, oFail), (0, oRetI), (0, oRload 3 62), (0, oIfnonnull 74 65), (1, oFail)]
set_option maxRecDepth 20000 in
theorem zX11_says_3 : SndL mX11_says 48 kX11_says_3 := SndL.c (s_invV (r := (RX2, TX2, 6)) (ci := 3) okX2_isOf rfl (by decide) rfl rfl w_2_48 w_2_49 w_2_50 (by decide +kernel)) (SndL.c (s_fail) (SndL.c (s_fail) (SndL.c (s_if_ne (off := 10) (by decide +kernel) (by decide)) (SndL.c (s_fail) (SndL.c (s_fail) (SndL.c (s_aload_n (k := 0) (by decide +kernel) rfl) (SndL.c (s_bipush (by decide +kernel) (in32_d (by decide)) (by decide +kernel)) (SndL.c (s_fail) (SndL.c (s_invV (r := (RX11, TX11, 14)) (ci := 12) okX11_refused rfl (by decide) rfl rfl w_1_239 w_2_1 v_0 (by decide +kernel)) (SndL.c (s_fail) (SndL.c (s_fail) (SndL.c (s_ret_i rfl (by decide +kernel)) (SndL.c (s_aload_n (k := 3) (by decide +kernel) rfl) (SndL.c (s_ifnonnull (off := 12) (by decide +kernel) (by decide)) (SndL.c (s_fail) (SndL.n))))))))))))))))
def kX11_says_4 : List En := [(1, oFail), (0, oRload 0 66), (0, oPush (vI (-3)) 68), (1, oFail), (2, oInvV 13 mX11_refused 1 71), (1, oFail), (1, oFail), (0, oGoto 79), (1, oFail), (1, oFail), (0, oRload 3 75), (0, oIload 2 76), (2, oInvV 4 mX2_takenFor 1 79), (1, oFail), (1, oFail), (0, oRetI)]
set_option maxRecDepth 20000 in
theorem zX11_says_4 : SndL mX11_says 64 kX11_says_4 := SndL.c (s_fail) (SndL.c (s_aload_n (k := 0) (by decide +kernel) rfl) (SndL.c (s_bipush (by decide +kernel) (in32_d (by decide)) (by decide +kernel)) (SndL.c (s_fail) (SndL.c (s_invV (r := (RX11, TX11, 14)) (ci := 12) okX11_refused rfl (by decide) rfl rfl w_1_239 w_2_1 v_0 (by decide +kernel)) (SndL.c (s_fail) (SndL.c (s_fail) (SndL.c (s_goto (off := 8) (by decide +kernel) (by decide)) (SndL.c (s_fail) (SndL.c (s_fail) (SndL.c (s_aload_n (k := 3) (by decide +kernel) rfl) (SndL.c (s_iload_n (k := 2) (by decide +kernel) rfl) (SndL.c (s_invV (r := (RX2, TX2, 6)) (ci := 3) okX2_takenFor rfl (by decide) rfl rfl w_2_52 w_2_53 w_2_54 (by decide +kernel)) (SndL.c (s_fail) (SndL.c (s_fail) (SndL.c (s_ret_i rfl (by decide +kernel)) (SndL.n))))))))))))))))
def kX11_says : Cd := [kX11_says_0, kX11_says_1, kX11_says_2, kX11_says_3, kX11_says_4]
theorem zX11_says : SndC mX11_says 0 kX11_says := SndC.c zX11_says_0 (by decide) (SndC.c zX11_says_1 (by decide) (SndC.c zX11_says_2 (by decide) (SndC.c zX11_says_3 (by decide) (SndC.c zX11_says_4 (by decide) (SndC.n)))))
theorem aX11_says_0 : at_ kX11_says 0 = (0, oIload 1 1) := rfl
theorem aX11_says_1 : at_ kX11_says 1 = (2, oInvS mX11_isShelf 1 4) := rfl
theorem aX11_says_4 : at_ kX11_says 4 = (0, oIfEq 14 7) := rfl
theorem aX11_says_7 : at_ kX11_says 7 = (0, oIload 2 8) := rfl
theorem aX11_says_8 : at_ kX11_says 8 = (2, oInvS mX11_isKind 1 11) := rfl
theorem aX11_says_11 : at_ kX11_says 11 = (0, oIfNe 20 14) := rfl
theorem aX11_says_14 : at_ kX11_says 14 = (0, oRload 0 15) := rfl
theorem aX11_says_15 : at_ kX11_says 15 = (0, oPush (vI (-1)) 16) := rfl
theorem aX11_says_16 : at_ kX11_says 16 = (2, oInvV 13 mX11_refused 1 19) := rfl
theorem aX11_says_19 : at_ kX11_says 19 = (0, oRetI) := rfl
theorem aX11_says_20 : at_ kX11_says 20 = (0, oRload 0 21) := rfl
theorem aX11_says_21 : at_ kX11_says 21 = (0, oGetf 13 0 2 24) := rfl
theorem aX11_says_24 : at_ kX11_says 24 = (0, oIload 1 25) := rfl
theorem aX11_says_25 : at_ kX11_says 25 = (0, oAald 111 26) := rfl
theorem aX11_says_26 : at_ kX11_says 26 = (0, oGetf 11 4 2 29) := rfl
theorem aX11_says_29 : at_ kX11_says 29 = (0, oRstore 3 30) := rfl
theorem aX11_says_30 : at_ kX11_says 30 = (0, oRload 0 31) := rfl
theorem aX11_says_31 : at_ kX11_says 31 = (0, oGetf 13 0 2 34) := rfl
theorem aX11_says_34 : at_ kX11_says 34 = (0, oIload 1 35) := rfl
theorem aX11_says_35 : at_ kX11_says 35 = (0, oAald 111 36) := rfl
theorem aX11_says_36 : at_ kX11_says 36 = (0, oGetf 11 1 3 39) := rfl
theorem aX11_says_39 : at_ kX11_says 39 = (0, oIfNe 54 42) := rfl
theorem aX11_says_42 : at_ kX11_says 42 = (0, oRload 3 43) := rfl
theorem aX11_says_43 : at_ kX11_says 43 = (0, oIfnull 61 46) := rfl
theorem aX11_says_46 : at_ kX11_says 46 = (0, oRload 3 47) := rfl
theorem aX11_says_47 : at_ kX11_says 47 = (0, oIload 2 48) := rfl
theorem aX11_says_48 : at_ kX11_says 48 = (2, oInvV 4 mX2_isOf 1 51) := rfl
theorem aX11_says_51 : at_ kX11_says 51 = (0, oIfNe 61 54) := rfl
theorem aX11_says_54 : at_ kX11_says 54 = (0, oRload 0 55) := rfl
theorem aX11_says_55 : at_ kX11_says 55 = (0, oPush (vI (-2)) 57) := rfl
theorem aX11_says_57 : at_ kX11_says 57 = (2, oInvV 13 mX11_refused 1 60) := rfl
theorem aX11_says_60 : at_ kX11_says 60 = (0, oRetI) := rfl
theorem aX11_says_61 : at_ kX11_says 61 = (0, oRload 3 62) := rfl
theorem aX11_says_62 : at_ kX11_says 62 = (0, oIfnonnull 74 65) := rfl
theorem aX11_says_65 : at_ kX11_says 65 = (0, oRload 0 66) := rfl
theorem aX11_says_66 : at_ kX11_says 66 = (0, oPush (vI (-3)) 68) := rfl
theorem aX11_says_68 : at_ kX11_says 68 = (2, oInvV 13 mX11_refused 1 71) := rfl
theorem aX11_says_71 : at_ kX11_says 71 = (0, oGoto 79) := rfl
theorem aX11_says_74 : at_ kX11_says 74 = (0, oRload 3 75) := rfl
theorem aX11_says_75 : at_ kX11_says 75 = (0, oIload 2 76) := rfl
theorem aX11_says_76 : at_ kX11_says 76 = (2, oInvV 4 mX2_takenFor 1 79) := rfl
theorem aX11_says_79 : at_ kX11_says 79 = (0, oRetI) := rfl
def kX11_advert_0 : List En := [(0, oIload 1 1), (2, oInvS mX11_isFirm 1 4), (1, oFail), (1, oFail), (0, oIfEq 14 7), (1, oFail), (1, oFail), (0, oIload 3 8), (2, oInvS mX11_isShelf 1 11), (1, oFail), (1, oFail), (0, oIfNe 20 14), (1, oFail), (1, oFail), (0, oRload 0 15), (0, oPush (vI (-1)) 16)]
set_option maxRecDepth 20000 in
theorem zX11_advert_0 : SndL mX11_advert 0 kX11_advert_0 := SndL.c (s_iload_n (k := 1) (by decide +kernel) rfl) (SndL.c (s_invS okX11_isFirm w_2_60 w_2_61 (by decide +kernel)) (SndL.c (s_fail) (SndL.c (s_fail) (SndL.c (s_if_eq (off := 10) (by decide +kernel) (by decide)) (SndL.c (s_fail) (SndL.c (s_fail) (SndL.c (s_iload_n (k := 3) (by decide +kernel) rfl) (SndL.c (s_invS okX11_isShelf w_2_7 w_2_8 (by decide +kernel)) (SndL.c (s_fail) (SndL.c (s_fail) (SndL.c (s_if_ne (off := 9) (by decide +kernel) (by decide)) (SndL.c (s_fail) (SndL.c (s_fail) (SndL.c (s_aload_n (k := 0) (by decide +kernel) rfl) (SndL.c (s_iconst (by decide +kernel) (in32_d (by decide))) (SndL.n))))))))))))))))
def kX11_advert_1 : List En := [(2, oInvV 13 mX11_refused 1 19), (1, oFail), (1, oFail), (0, oRetI), (0, oRload 0 21), (0, oIload 3 22), (2, oInvV 13 mX11_lackOfRow 1 25), (1, oFail), (1, oFail), (0, oIstore 4 27), (1, oFail), (0, oIload 4 29), (1, oFail), (0, oIfEq 39 32), (1, oFail), (1, oFail)]
set_option maxRecDepth 20000 in
theorem zX11_advert_1 : SndL mX11_advert 16 kX11_advert_1 := SndL.c (s_invV (r := (RX11, TX11, 14)) (ci := 12) okX11_refused rfl (by decide) rfl rfl w_1_239 w_2_1 v_0 (by decide +kernel)) (SndL.c (s_fail) (SndL.c (s_fail) (SndL.c (s_ret_i rfl (by decide +kernel)) (SndL.c (s_aload_n (k := 0) (by decide +kernel) rfl) (SndL.c (s_iload_n (k := 3) (by decide +kernel) rfl) (SndL.c (s_invV (r := (RX11, TX11, 14)) (ci := 12) okX11_lackOfRow rfl (by decide) rfl rfl w_2_18 w_2_20 v_1 (by decide +kernel)) (SndL.c (s_fail) (SndL.c (s_fail) (SndL.c (s_istore (by decide +kernel) (by decide)) (SndL.c (s_fail) (SndL.c (s_iload (by decide +kernel)) (SndL.c (s_fail) (SndL.c (s_if_eq (off := 10) (by decide +kernel) (by decide)) (SndL.c (s_fail) (SndL.c (s_fail) (SndL.n))))))))))))))))
def kX11_advert_2 : List En := [(0, oRload 0 33), (0, oIload 4 35), (1, oFail), (2, oInvV 13 mX11_refused 1 38), (1, oFail), (1, oFail), (0, oRetI), (0, oIload 2 40), (0, oIfLt 63 43), (1, oFail), (1, oFail), (0, oIload 2 44), (0, oPush (vI 6) 46), (1, oFail), (0, oIcGe 63 49), (1, oFail)]
set_option maxRecDepth 20000 in
theorem zX11_advert_2 : SndL mX11_advert 32 kX11_advert_2 := SndL.c (s_aload_n (k := 0) (by decide +kernel) rfl) (SndL.c (s_iload (by decide +kernel)) (SndL.c (s_fail) (SndL.c (s_invV (r := (RX11, TX11, 14)) (ci := 12) okX11_refused rfl (by decide) rfl rfl w_1_239 w_2_1 v_0 (by decide +kernel)) (SndL.c (s_fail) (SndL.c (s_fail) (SndL.c (s_ret_i rfl (by decide +kernel)) (SndL.c (s_iload_n (k := 2) (by decide +kernel) rfl) (SndL.c (s_if_lt (off := 23) (by decide +kernel) (by decide)) (SndL.c (s_fail) (SndL.c (s_fail) (SndL.c (s_iload_n (k := 2) (by decide +kernel) rfl) (SndL.c (s_bipush (by decide +kernel) (in32_d (by decide)) (by decide +kernel)) (SndL.c (s_fail) (SndL.c (s_ic_ge (off := 17) (by decide +kernel) (by decide)) (SndL.c (s_fail) (SndL.n))))))))))))))))
def kX11_advert_3 : List En := [(1, oFail), (0, oRload 0 50), (0, oGetf 13 0 2 53), (1, oFail), (1, oFail), (0, oIload 3 54), (0, oAald 111 55), (0, oGetf 11 3 0 58), (1, oFail), (1, oFail), (0, oPush (vI 20) 60), (1, oFail), (0, oIcLe 70 63), (1, oFail), (1, oFail), (0, oRload 0 64)]
set_option maxRecDepth 20000 in
theorem zX11_advert_3 : SndL mX11_advert 48 kX11_advert_3 := SndL.c (s_fail) (SndL.c (s_aload_n (k := 0) (by decide +kernel) rfl) (SndL.c (s_getf (k := 0) clok12 (by decide) rfl (by decide) rfl w_1_192 (Or.inl rfl) (by decide +kernel)) (SndL.c (s_fail) (SndL.c (s_fail) (SndL.c (s_iload_n (k := 3) (by decide +kernel) rfl) (SndL.c (s_aald (kd := 111) (akd_d (by decide)) rfl rfl (by decide +kernel)) (SndL.c (s_getf (k := 3) clok10 (by decide) rfl (by decide) rfl w_1_176 (Or.inl rfl) (by decide +kernel)) (SndL.c (s_fail) (SndL.c (s_fail) (SndL.c (s_bipush (by decide +kernel) (in32_d (by decide)) (by decide +kernel)) (SndL.c (s_fail) (SndL.c (s_ic_le (off := 10) (by decide +kernel) (by decide)) (SndL.c (s_fail) (SndL.c (s_fail) (SndL.c (s_aload_n (k := 0) (by decide +kernel) rfl) (SndL.n))))))))))))))))
def kX11_advert_4 : List En := [(0, oPush (vI (-6)) 66), (1, oFail), (2, oInvV 13 mX11_refused 1 69), (1, oFail), (1, oFail), (0, oRetI), (0, oRload 0 71), (0, oGetf 13 1 2 74), (1, oFail), (1, oFail), (2, oInvV 1 mJx4a65c_size_8abf5 0 77), (1, oFail), (1, oFail), (0, oPush (vI 24) 79), (1, oFail), (0, oIcLt 89 82)]
set_option maxRecDepth 20000 in
theorem zX11_advert_4 : SndL mX11_advert 64 kX11_advert_4 := SndL.c (s_bipush (by decide +kernel) (in32_d (by decide)) (by decide +kernel)) (SndL.c (s_fail) (SndL.c (s_invV (r := (RX11, TX11, 14)) (ci := 12) okX11_refused rfl (by decide) rfl rfl w_1_239 w_2_1 v_0 (by decide +kernel)) (SndL.c (s_fail) (SndL.c (s_fail) (SndL.c (s_ret_i rfl (by decide +kernel)) (SndL.c (s_aload_n (k := 0) (by decide +kernel) rfl) (SndL.c (s_getf (k := 1) clok12 (by decide) rfl (by decide) rfl w_1_193 (Or.inl rfl) (by decide +kernel)) (SndL.c (s_fail) (SndL.c (s_fail) (SndL.c (s_invV (r := (RJx4a65c, TJx4a65c, 3)) (ci := 0) okJx4a65c_size_8abf5 rfl (by decide) rfl rfl w_2_63 w_2_64 w_2_65 (by decide +kernel)) (SndL.c (s_fail) (SndL.c (s_fail) (SndL.c (s_bipush (by decide +kernel) (in32_d (by decide)) (by decide +kernel)) (SndL.c (s_fail) (SndL.c (s_ic_lt (off := 10) (by decide +kernel) (by decide)) (SndL.n))))))))))))))))
def kX11_advert_5 : List En := [(1, oFail), (1, oFail), (0, oRload 0 83), (0, oPush (vI (-7)) 85), (1, oFail), (2, oInvV 13 mX11_refused 1 88), (1, oFail), (1, oFail), (0, oRetI), (0, oRload 0 90), (0, oGetf 13 1 2 93), (1, oFail), (1, oFail), (0, oNew 2 10 96), (1, oFail), (1, oFail)]
set_option maxRecDepth 20000 in
theorem zX11_advert_5 : SndL mX11_advert 80 kX11_advert_5 := SndL.c (s_fail) (SndL.c (s_fail) (SndL.c (s_aload_n (k := 0) (by decide +kernel) rfl) (SndL.c (s_bipush (by decide +kernel) (in32_d (by decide)) (by decide +kernel)) (SndL.c (s_fail) (SndL.c (s_invV (r := (RX11, TX11, 14)) (ci := 12) okX11_refused rfl (by decide) rfl rfl w_1_239 w_2_1 v_0 (by decide +kernel)) (SndL.c (s_fail) (SndL.c (s_fail) (SndL.c (s_ret_i rfl (by decide +kernel)) (SndL.c (s_aload_n (k := 0) (by decide +kernel) rfl) (SndL.c (s_getf (k := 1) clok12 (by decide) rfl (by decide) rfl w_1_193 (Or.inl rfl) (by decide +kernel)) (SndL.c (s_fail) (SndL.c (s_fail) (SndL.c (s_new clok1 (by decide) rfl rfl w_2_67 w_2_68 w_1_13 (by decide +kernel)) (SndL.c (s_fail) (SndL.c (s_fail) (SndL.n))))))))))))))))
def kX11_advert_6 : List En := [(0, oDup 97), (0, oIload 1 98), (0, oIload 2 99), (0, oRload 0 100), (0, oGetf 13 0 2 103), (1, oFail), (1, oFail), (0, oIload 3 104), (0, oAald 111 105), (2, oInvV 11 mX9_asInts 0 108), (1, oFail), (1, oFail), (0, oRload 0 109), (0, oGetf 13 11 0 112), (1, oFail), (1, oFail)]
set_option maxRecDepth 20000 in
theorem zX11_advert_6 : SndL mX11_advert 96 kX11_advert_6 := SndL.c (s_dup (by decide +kernel)) (SndL.c (s_iload_n (k := 1) (by decide +kernel) rfl) (SndL.c (s_iload_n (k := 2) (by decide +kernel) rfl) (SndL.c (s_aload_n (k := 0) (by decide +kernel) rfl) (SndL.c (s_getf (k := 0) clok12 (by decide) rfl (by decide) rfl w_1_192 (Or.inl rfl) (by decide +kernel)) (SndL.c (s_fail) (SndL.c (s_fail) (SndL.c (s_iload_n (k := 3) (by decide +kernel) rfl) (SndL.c (s_aald (kd := 111) (akd_d (by decide)) rfl rfl (by decide +kernel)) (SndL.c (s_invV (r := (RX9, TX9, 5)) (ci := 10) okX9_asInts rfl (by decide) rfl rfl w_2_69 w_2_70 w_2_71 (by decide +kernel)) (SndL.c (s_fail) (SndL.c (s_fail) (SndL.c (s_aload_n (k := 0) (by decide +kernel) rfl) (SndL.c (s_getf (k := 11) clok12 (by decide) rfl (by decide) rfl w_1_203 (Or.inl rfl) (by decide +kernel)) (SndL.c (s_fail) (SndL.c (s_fail) (SndL.n))))))))))))))))
def kX11_advert_7 : List En := [(2, oInvI mX0_init 4 115), (1, oFail), (1, oFail), (2, oInvV 1 mJx4a65c_add_9ea2d 1 118), (1, oFail), (1, oFail), (0, oPop 119), (0, oRload 0 120), (0, oGetf 13 1 2 123), (1, oFail), (1, oFail), (2, oInvV 1 mJx4a65c_size_8abf5 0 126), (1, oFail), (1, oFail), (0, oPush (vI 1) 127), (0, oIsub 128)]
set_option maxRecDepth 20000 in
theorem zX11_advert_7 : SndL mX11_advert 112 kX11_advert_7 := SndL.c (s_invI okX0_init rfl rfl w_2_77 w_2_78 (by decide +kernel)) (SndL.c (s_fail) (SndL.c (s_fail) (SndL.c (s_invV (r := (RJx4a65c, TJx4a65c, 3)) (ci := 0) okJx4a65c_add_9ea2d rfl (by decide) rfl rfl w_2_124 w_2_125 w_2_126 (by decide +kernel)) (SndL.c (s_fail) (SndL.c (s_fail) (SndL.c (s_pop (by decide +kernel)) (SndL.c (s_aload_n (k := 0) (by decide +kernel) rfl) (SndL.c (s_getf (k := 1) clok12 (by decide) rfl (by decide) rfl w_1_193 (Or.inl rfl) (by decide +kernel)) (SndL.c (s_fail) (SndL.c (s_fail) (SndL.c (s_invV (r := (RJx4a65c, TJx4a65c, 3)) (ci := 0) okJx4a65c_size_8abf5 rfl (by decide) rfl rfl w_2_63 w_2_64 w_2_65 (by decide +kernel)) (SndL.c (s_fail) (SndL.c (s_fail) (SndL.c (s_iconst (by decide +kernel) (in32_d (by decide))) (SndL.c (s_isub (by decide +kernel)) (SndL.n))))))))))))))))
def kX11_advert_8 : List En := [(0, oRetI)]
set_option maxRecDepth 20000 in
theorem zX11_advert_8 : SndL mX11_advert 128 kX11_advert_8 := SndL.c (s_ret_i rfl (by decide +kernel)) (SndL.n)
def kX11_advert : Cd := [kX11_advert_0, kX11_advert_1, kX11_advert_2, kX11_advert_3, kX11_advert_4, kX11_advert_5, kX11_advert_6, kX11_advert_7, kX11_advert_8]
theorem zX11_advert : SndC mX11_advert 0 kX11_advert := SndC.c zX11_advert_0 (by decide) (SndC.c zX11_advert_1 (by decide) (SndC.c zX11_advert_2 (by decide) (SndC.c zX11_advert_3 (by decide) (SndC.c zX11_advert_4 (by decide) (SndC.c zX11_advert_5 (by decide) (SndC.c zX11_advert_6 (by decide) (SndC.c zX11_advert_7 (by decide) (SndC.c zX11_advert_8 (by decide) (SndC.n)))))))))
theorem aX11_advert_0 : at_ kX11_advert 0 = (0, oIload 1 1) := rfl
theorem aX11_advert_1 : at_ kX11_advert 1 = (2, oInvS mX11_isFirm 1 4) := rfl
theorem aX11_advert_4 : at_ kX11_advert 4 = (0, oIfEq 14 7) := rfl
theorem aX11_advert_7 : at_ kX11_advert 7 = (0, oIload 3 8) := rfl
theorem aX11_advert_8 : at_ kX11_advert 8 = (2, oInvS mX11_isShelf 1 11) := rfl
theorem aX11_advert_11 : at_ kX11_advert 11 = (0, oIfNe 20 14) := rfl
theorem aX11_advert_14 : at_ kX11_advert 14 = (0, oRload 0 15) := rfl
theorem aX11_advert_15 : at_ kX11_advert 15 = (0, oPush (vI (-1)) 16) := rfl
theorem aX11_advert_16 : at_ kX11_advert 16 = (2, oInvV 13 mX11_refused 1 19) := rfl
theorem aX11_advert_19 : at_ kX11_advert 19 = (0, oRetI) := rfl
theorem aX11_advert_20 : at_ kX11_advert 20 = (0, oRload 0 21) := rfl
theorem aX11_advert_21 : at_ kX11_advert 21 = (0, oIload 3 22) := rfl
theorem aX11_advert_22 : at_ kX11_advert 22 = (2, oInvV 13 mX11_lackOfRow 1 25) := rfl
theorem aX11_advert_25 : at_ kX11_advert 25 = (0, oIstore 4 27) := rfl
theorem aX11_advert_27 : at_ kX11_advert 27 = (0, oIload 4 29) := rfl
theorem aX11_advert_29 : at_ kX11_advert 29 = (0, oIfEq 39 32) := rfl
theorem aX11_advert_32 : at_ kX11_advert 32 = (0, oRload 0 33) := rfl
theorem aX11_advert_33 : at_ kX11_advert 33 = (0, oIload 4 35) := rfl
theorem aX11_advert_35 : at_ kX11_advert 35 = (2, oInvV 13 mX11_refused 1 38) := rfl
theorem aX11_advert_38 : at_ kX11_advert 38 = (0, oRetI) := rfl
theorem aX11_advert_39 : at_ kX11_advert 39 = (0, oIload 2 40) := rfl
theorem aX11_advert_40 : at_ kX11_advert 40 = (0, oIfLt 63 43) := rfl
theorem aX11_advert_43 : at_ kX11_advert 43 = (0, oIload 2 44) := rfl
theorem aX11_advert_44 : at_ kX11_advert 44 = (0, oPush (vI 6) 46) := rfl
theorem aX11_advert_46 : at_ kX11_advert 46 = (0, oIcGe 63 49) := rfl
theorem aX11_advert_49 : at_ kX11_advert 49 = (0, oRload 0 50) := rfl
theorem aX11_advert_50 : at_ kX11_advert 50 = (0, oGetf 13 0 2 53) := rfl
theorem aX11_advert_53 : at_ kX11_advert 53 = (0, oIload 3 54) := rfl
theorem aX11_advert_54 : at_ kX11_advert 54 = (0, oAald 111 55) := rfl
theorem aX11_advert_55 : at_ kX11_advert 55 = (0, oGetf 11 3 0 58) := rfl
theorem aX11_advert_58 : at_ kX11_advert 58 = (0, oPush (vI 20) 60) := rfl
theorem aX11_advert_60 : at_ kX11_advert 60 = (0, oIcLe 70 63) := rfl
theorem aX11_advert_63 : at_ kX11_advert 63 = (0, oRload 0 64) := rfl
theorem aX11_advert_64 : at_ kX11_advert 64 = (0, oPush (vI (-6)) 66) := rfl
theorem aX11_advert_66 : at_ kX11_advert 66 = (2, oInvV 13 mX11_refused 1 69) := rfl
theorem aX11_advert_69 : at_ kX11_advert 69 = (0, oRetI) := rfl
theorem aX11_advert_70 : at_ kX11_advert 70 = (0, oRload 0 71) := rfl
theorem aX11_advert_71 : at_ kX11_advert 71 = (0, oGetf 13 1 2 74) := rfl
theorem aX11_advert_74 : at_ kX11_advert 74 = (2, oInvV 1 mJx4a65c_size_8abf5 0 77) := rfl
theorem aX11_advert_77 : at_ kX11_advert 77 = (0, oPush (vI 24) 79) := rfl
theorem aX11_advert_79 : at_ kX11_advert 79 = (0, oIcLt 89 82) := rfl
theorem aX11_advert_82 : at_ kX11_advert 82 = (0, oRload 0 83) := rfl
theorem aX11_advert_83 : at_ kX11_advert 83 = (0, oPush (vI (-7)) 85) := rfl
theorem aX11_advert_85 : at_ kX11_advert 85 = (2, oInvV 13 mX11_refused 1 88) := rfl
theorem aX11_advert_88 : at_ kX11_advert 88 = (0, oRetI) := rfl
theorem aX11_advert_89 : at_ kX11_advert 89 = (0, oRload 0 90) := rfl
theorem aX11_advert_90 : at_ kX11_advert 90 = (0, oGetf 13 1 2 93) := rfl
theorem aX11_advert_93 : at_ kX11_advert 93 = (0, oNew 2 10 96) := rfl
theorem aX11_advert_96 : at_ kX11_advert 96 = (0, oDup 97) := rfl
theorem aX11_advert_97 : at_ kX11_advert 97 = (0, oIload 1 98) := rfl
theorem aX11_advert_98 : at_ kX11_advert 98 = (0, oIload 2 99) := rfl
theorem aX11_advert_99 : at_ kX11_advert 99 = (0, oRload 0 100) := rfl
theorem aX11_advert_100 : at_ kX11_advert 100 = (0, oGetf 13 0 2 103) := rfl
theorem aX11_advert_103 : at_ kX11_advert 103 = (0, oIload 3 104) := rfl
theorem aX11_advert_104 : at_ kX11_advert 104 = (0, oAald 111 105) := rfl
theorem aX11_advert_105 : at_ kX11_advert 105 = (2, oInvV 11 mX9_asInts 0 108) := rfl
theorem aX11_advert_108 : at_ kX11_advert 108 = (0, oRload 0 109) := rfl
theorem aX11_advert_109 : at_ kX11_advert 109 = (0, oGetf 13 11 0 112) := rfl
theorem aX11_advert_112 : at_ kX11_advert 112 = (2, oInvI mX0_init 4 115) := rfl
theorem aX11_advert_115 : at_ kX11_advert 115 = (2, oInvV 1 mJx4a65c_add_9ea2d 1 118) := rfl
theorem aX11_advert_118 : at_ kX11_advert 118 = (0, oPop 119) := rfl
theorem aX11_advert_119 : at_ kX11_advert 119 = (0, oRload 0 120) := rfl
theorem aX11_advert_120 : at_ kX11_advert 120 = (0, oGetf 13 1 2 123) := rfl
theorem aX11_advert_123 : at_ kX11_advert 123 = (2, oInvV 1 mJx4a65c_size_8abf5 0 126) := rfl
theorem aX11_advert_126 : at_ kX11_advert 126 = (0, oPush (vI 1) 127) := rfl
theorem aX11_advert_127 : at_ kX11_advert 127 = (0, oIsub 128) := rfl
theorem aX11_advert_128 : at_ kX11_advert 128 = (0, oRetI) := rfl
def kX11_print_0 : List En := [(0, oRload 0 1), (0, oIload 1 2), (2, oInvV 13 mX11_advertOf 1 5), (1, oFail), (1, oFail), (0, oRstore 4 7), (1, oFail), (0, oRload 4 9), (1, oFail), (0, oIfnonnull 18 12), (1, oFail), (1, oFail), (0, oRload 0 13), (0, oPush (vI (-1)) 14), (2, oInvV 13 mX11_refused 1 17), (1, oFail)]
set_option maxRecDepth 20000 in
theorem zX11_print_0 : SndL mX11_print 0 kX11_print_0 := SndL.c (s_aload_n (k := 0) (by decide +kernel) rfl) (SndL.c (s_iload_n (k := 1) (by decide +kernel) rfl) (SndL.c (s_invV (r := (RX11, TX11, 14)) (ci := 12) okX11_advertOf rfl (by decide) rfl rfl w_2_187 w_2_189 v_5 (by decide +kernel)) (SndL.c (s_fail) (SndL.c (s_fail) (SndL.c (s_astore (by decide +kernel) (by decide)) (SndL.c (s_fail) (SndL.c (s_aload (by decide +kernel)) (SndL.c (s_fail) (SndL.c (s_ifnonnull (off := 9) (by decide +kernel) (by decide)) (SndL.c (s_fail) (SndL.c (s_fail) (SndL.c (s_aload_n (k := 0) (by decide +kernel) rfl) (SndL.c (s_iconst (by decide +kernel) (in32_d (by decide))) (SndL.c (s_invV (r := (RX11, TX11, 14)) (ci := 12) okX11_refused rfl (by decide) rfl rfl w_1_239 w_2_1 v_0 (by decide +kernel)) (SndL.c (s_fail) (SndL.n))))))))))))))))
def kX11_print_1 : List En := [(1, oFail), (0, oRetI), (0, oRload 0 19), (0, oIload 2 20), (2, oInvV 13 mX11_lackOfRow 1 23), (1, oFail), (1, oFail), (0, oIstore 5 25), (1, oFail), (0, oIload 5 27), (1, oFail), (0, oIfEq 37 30), (1, oFail), (1, oFail), (0, oRload 0 31), (0, oIload 5 33)]
set_option maxRecDepth 20000 in
theorem zX11_print_1 : SndL mX11_print 16 kX11_print_1 := SndL.c (s_fail) (SndL.c (s_ret_i rfl (by decide +kernel)) (SndL.c (s_aload_n (k := 0) (by decide +kernel) rfl) (SndL.c (s_iload_n (k := 2) (by decide +kernel) rfl) (SndL.c (s_invV (r := (RX11, TX11, 14)) (ci := 12) okX11_lackOfRow rfl (by decide) rfl rfl w_2_18 w_2_20 v_1 (by decide +kernel)) (SndL.c (s_fail) (SndL.c (s_fail) (SndL.c (s_istore (by decide +kernel) (by decide)) (SndL.c (s_fail) (SndL.c (s_iload (by decide +kernel)) (SndL.c (s_fail) (SndL.c (s_if_eq (off := 10) (by decide +kernel) (by decide)) (SndL.c (s_fail) (SndL.c (s_fail) (SndL.c (s_aload_n (k := 0) (by decide +kernel) rfl) (SndL.c (s_iload (by decide +kernel)) (SndL.n))))))))))))))))
def kX11_print_2 : List En := [(1, oFail), (2, oInvV 13 mX11_refused 1 36), (1, oFail), (1, oFail), (0, oRetI), (0, oIload 3 38), (0, oIfLt 61 41), (1, oFail), (1, oFail), (0, oIload 3 42), (0, oPush (vI 20) 44), (1, oFail), (0, oIcGt 61 47), (1, oFail), (1, oFail), (0, oRload 0 48)]
set_option maxRecDepth 20000 in
theorem zX11_print_2 : SndL mX11_print 32 kX11_print_2 := SndL.c (s_fail) (SndL.c (s_invV (r := (RX11, TX11, 14)) (ci := 12) okX11_refused rfl (by decide) rfl rfl w_1_239 w_2_1 v_0 (by decide +kernel)) (SndL.c (s_fail) (SndL.c (s_fail) (SndL.c (s_ret_i rfl (by decide +kernel)) (SndL.c (s_iload_n (k := 3) (by decide +kernel) rfl) (SndL.c (s_if_lt (off := 23) (by decide +kernel) (by decide)) (SndL.c (s_fail) (SndL.c (s_fail) (SndL.c (s_iload_n (k := 3) (by decide +kernel) rfl) (SndL.c (s_bipush (by decide +kernel) (in32_d (by decide)) (by decide +kernel)) (SndL.c (s_fail) (SndL.c (s_ic_gt (off := 17) (by decide +kernel) (by decide)) (SndL.c (s_fail) (SndL.c (s_fail) (SndL.c (s_aload_n (k := 0) (by decide +kernel) rfl) (SndL.n))))))))))))))))
def kX11_print_3 : List En := [(0, oGetf 13 0 2 51), (1, oFail), (1, oFail), (0, oIload 2 52), (0, oAald 111 53), (0, oGetf 11 3 0 56), (1, oFail), (1, oFail), (0, oPush (vI 12) 58), (1, oFail), (0, oIcLe 68 61), (1, oFail), (1, oFail), (0, oRload 0 62), (0, oPush (vI (-6)) 64), (1, oFail)]
set_option maxRecDepth 20000 in
theorem zX11_print_3 : SndL mX11_print 48 kX11_print_3 := SndL.c (s_getf (k := 0) clok12 (by decide) rfl (by decide) rfl w_1_192 (Or.inl rfl) (by decide +kernel)) (SndL.c (s_fail) (SndL.c (s_fail) (SndL.c (s_iload_n (k := 2) (by decide +kernel) rfl) (SndL.c (s_aald (kd := 111) (akd_d (by decide)) rfl rfl (by decide +kernel)) (SndL.c (s_getf (k := 3) clok10 (by decide) rfl (by decide) rfl w_1_176 (Or.inl rfl) (by decide +kernel)) (SndL.c (s_fail) (SndL.c (s_fail) (SndL.c (s_bipush (by decide +kernel) (in32_d (by decide)) (by decide +kernel)) (SndL.c (s_fail) (SndL.c (s_ic_le (off := 10) (by decide +kernel) (by decide)) (SndL.c (s_fail) (SndL.c (s_fail) (SndL.c (s_aload_n (k := 0) (by decide +kernel) rfl) (SndL.c (s_bipush (by decide +kernel) (in32_d (by decide)) (by decide +kernel)) (SndL.c (s_fail) (SndL.n))))))))))))))))
def kX11_print_4 : List En := [(2, oInvV 13 mX11_refused 1 67), (1, oFail), (1, oFail), (0, oRetI), (0, oRload 4 70), (1, oFail), (0, oGetf 2 5 0 73), (1, oFail), (1, oFail), (0, oIstore 6 75), (1, oFail), (0, oRload 4 77), (1, oFail), (0, oRload 0 78), (0, oGetf 13 0 2 81), (1, oFail)]
set_option maxRecDepth 20000 in
theorem zX11_print_4 : SndL mX11_print 64 kX11_print_4 := SndL.c (s_invV (r := (RX11, TX11, 14)) (ci := 12) okX11_refused rfl (by decide) rfl rfl w_1_239 w_2_1 v_0 (by decide +kernel)) (SndL.c (s_fail) (SndL.c (s_fail) (SndL.c (s_ret_i rfl (by decide +kernel)) (SndL.c (s_aload (by decide +kernel)) (SndL.c (s_fail) (SndL.c (s_getf (k := 5) clok1 (by decide) rfl (by decide) rfl w_2_94 (Or.inl rfl) (by decide +kernel)) (SndL.c (s_fail) (SndL.c (s_fail) (SndL.c (s_istore (by decide +kernel) (by decide)) (SndL.c (s_fail) (SndL.c (s_aload (by decide +kernel)) (SndL.c (s_fail) (SndL.c (s_aload_n (k := 0) (by decide +kernel) rfl) (SndL.c (s_getf (k := 0) clok12 (by decide) rfl (by decide) rfl w_1_192 (Or.inl rfl) (by decide +kernel)) (SndL.c (s_fail) (SndL.n))))))))))))))))
def kX11_print_5 : List En := [(1, oFail), (0, oIload 2 82), (0, oAald 111 83), (2, oInvV 11 mX9_asInts 0 86), (1, oFail), (1, oFail), (0, oPutf 2 4 2 89), (1, oFail), (1, oFail), (0, oRload 4 91), (1, oFail), (0, oIload 3 92), (0, oPutf 2 5 0 95), (1, oFail), (1, oFail), (0, oIload 6 97)]
set_option maxRecDepth 20000 in
theorem zX11_print_5 : SndL mX11_print 80 kX11_print_5 := SndL.c (s_fail) (SndL.c (s_iload_n (k := 2) (by decide +kernel) rfl) (SndL.c (s_aald (kd := 111) (akd_d (by decide)) rfl rfl (by decide +kernel)) (SndL.c (s_invV (r := (RX9, TX9, 5)) (ci := 10) okX9_asInts rfl (by decide) rfl rfl w_2_69 w_2_70 w_2_71 (by decide +kernel)) (SndL.c (s_fail) (SndL.c (s_fail) (SndL.c (s_putf (k := 4) clok1 (by decide) rfl (by decide) rfl w_2_92 (Or.inl rfl) (Or.inl rfl) (by decide +kernel)) (SndL.c (s_fail) (SndL.c (s_fail) (SndL.c (s_aload (by decide +kernel)) (SndL.c (s_fail) (SndL.c (s_iload_n (k := 3) (by decide +kernel) rfl) (SndL.c (s_putf (k := 5) clok1 (by decide) rfl (by decide) rfl w_2_94 (Or.inl rfl) (Or.inl rfl) (by decide +kernel)) (SndL.c (s_fail) (SndL.c (s_fail) (SndL.c (s_iload (by decide +kernel)) (SndL.n))))))))))))))))
def kX11_print_6 : List En := [(1, oFail), (0, oRetI)]
set_option maxRecDepth 20000 in
theorem zX11_print_6 : SndL mX11_print 96 kX11_print_6 := SndL.c (s_fail) (SndL.c (s_ret_i rfl (by decide +kernel)) (SndL.n))
def kX11_print : Cd := [kX11_print_0, kX11_print_1, kX11_print_2, kX11_print_3, kX11_print_4, kX11_print_5, kX11_print_6]
theorem zX11_print : SndC mX11_print 0 kX11_print := SndC.c zX11_print_0 (by decide) (SndC.c zX11_print_1 (by decide) (SndC.c zX11_print_2 (by decide) (SndC.c zX11_print_3 (by decide) (SndC.c zX11_print_4 (by decide) (SndC.c zX11_print_5 (by decide) (SndC.c zX11_print_6 (by decide) (SndC.n)))))))
theorem aX11_print_0 : at_ kX11_print 0 = (0, oRload 0 1) := rfl
theorem aX11_print_1 : at_ kX11_print 1 = (0, oIload 1 2) := rfl
theorem aX11_print_2 : at_ kX11_print 2 = (2, oInvV 13 mX11_advertOf 1 5) := rfl
theorem aX11_print_5 : at_ kX11_print 5 = (0, oRstore 4 7) := rfl
theorem aX11_print_7 : at_ kX11_print 7 = (0, oRload 4 9) := rfl
theorem aX11_print_9 : at_ kX11_print 9 = (0, oIfnonnull 18 12) := rfl
theorem aX11_print_12 : at_ kX11_print 12 = (0, oRload 0 13) := rfl
theorem aX11_print_13 : at_ kX11_print 13 = (0, oPush (vI (-1)) 14) := rfl
theorem aX11_print_14 : at_ kX11_print 14 = (2, oInvV 13 mX11_refused 1 17) := rfl
theorem aX11_print_17 : at_ kX11_print 17 = (0, oRetI) := rfl
theorem aX11_print_18 : at_ kX11_print 18 = (0, oRload 0 19) := rfl
theorem aX11_print_19 : at_ kX11_print 19 = (0, oIload 2 20) := rfl
theorem aX11_print_20 : at_ kX11_print 20 = (2, oInvV 13 mX11_lackOfRow 1 23) := rfl
theorem aX11_print_23 : at_ kX11_print 23 = (0, oIstore 5 25) := rfl
theorem aX11_print_25 : at_ kX11_print 25 = (0, oIload 5 27) := rfl
theorem aX11_print_27 : at_ kX11_print 27 = (0, oIfEq 37 30) := rfl
theorem aX11_print_30 : at_ kX11_print 30 = (0, oRload 0 31) := rfl
theorem aX11_print_31 : at_ kX11_print 31 = (0, oIload 5 33) := rfl
theorem aX11_print_33 : at_ kX11_print 33 = (2, oInvV 13 mX11_refused 1 36) := rfl
theorem aX11_print_36 : at_ kX11_print 36 = (0, oRetI) := rfl
theorem aX11_print_37 : at_ kX11_print 37 = (0, oIload 3 38) := rfl
theorem aX11_print_38 : at_ kX11_print 38 = (0, oIfLt 61 41) := rfl
theorem aX11_print_41 : at_ kX11_print 41 = (0, oIload 3 42) := rfl
theorem aX11_print_42 : at_ kX11_print 42 = (0, oPush (vI 20) 44) := rfl
theorem aX11_print_44 : at_ kX11_print 44 = (0, oIcGt 61 47) := rfl
theorem aX11_print_47 : at_ kX11_print 47 = (0, oRload 0 48) := rfl
theorem aX11_print_48 : at_ kX11_print 48 = (0, oGetf 13 0 2 51) := rfl
theorem aX11_print_51 : at_ kX11_print 51 = (0, oIload 2 52) := rfl
theorem aX11_print_52 : at_ kX11_print 52 = (0, oAald 111 53) := rfl
theorem aX11_print_53 : at_ kX11_print 53 = (0, oGetf 11 3 0 56) := rfl
theorem aX11_print_56 : at_ kX11_print 56 = (0, oPush (vI 12) 58) := rfl
theorem aX11_print_58 : at_ kX11_print 58 = (0, oIcLe 68 61) := rfl
theorem aX11_print_61 : at_ kX11_print 61 = (0, oRload 0 62) := rfl
theorem aX11_print_62 : at_ kX11_print 62 = (0, oPush (vI (-6)) 64) := rfl
theorem aX11_print_64 : at_ kX11_print 64 = (2, oInvV 13 mX11_refused 1 67) := rfl
theorem aX11_print_67 : at_ kX11_print 67 = (0, oRetI) := rfl
theorem aX11_print_68 : at_ kX11_print 68 = (0, oRload 4 70) := rfl
theorem aX11_print_70 : at_ kX11_print 70 = (0, oGetf 2 5 0 73) := rfl
theorem aX11_print_73 : at_ kX11_print 73 = (0, oIstore 6 75) := rfl
theorem aX11_print_75 : at_ kX11_print 75 = (0, oRload 4 77) := rfl
theorem aX11_print_77 : at_ kX11_print 77 = (0, oRload 0 78) := rfl
theorem aX11_print_78 : at_ kX11_print 78 = (0, oGetf 13 0 2 81) := rfl
theorem aX11_print_81 : at_ kX11_print 81 = (0, oIload 2 82) := rfl
theorem aX11_print_82 : at_ kX11_print 82 = (0, oAald 111 83) := rfl
theorem aX11_print_83 : at_ kX11_print 83 = (2, oInvV 11 mX9_asInts 0 86) := rfl
theorem aX11_print_86 : at_ kX11_print 86 = (0, oPutf 2 4 2 89) := rfl
theorem aX11_print_89 : at_ kX11_print 89 = (0, oRload 4 91) := rfl
theorem aX11_print_91 : at_ kX11_print 91 = (0, oIload 3 92) := rfl
theorem aX11_print_92 : at_ kX11_print 92 = (0, oPutf 2 5 0 95) := rfl
theorem aX11_print_95 : at_ kX11_print 95 = (0, oIload 6 97) := rfl
theorem aX11_print_97 : at_ kX11_print 97 = (0, oRetI) := rfl
def kX11_saw_0 : List En := [(0, oRload 0 1), (0, oIload 1 2), (2, oInvV 13 mX11_advertOf 1 5), (1, oFail), (1, oFail), (0, oRstore 4 7), (1, oFail), (0, oRload 4 9), (1, oFail), (0, oIfnonnull 18 12), (1, oFail), (1, oFail), (0, oRload 0 13), (0, oPush (vI (-1)) 14), (2, oInvV 13 mX11_refused 1 17), (1, oFail)]
set_option maxRecDepth 20000 in
theorem zX11_saw_0 : SndL mX11_saw 0 kX11_saw_0 := SndL.c (s_aload_n (k := 0) (by decide +kernel) rfl) (SndL.c (s_iload_n (k := 1) (by decide +kernel) rfl) (SndL.c (s_invV (r := (RX11, TX11, 14)) (ci := 12) okX11_advertOf rfl (by decide) rfl rfl w_2_187 w_2_189 v_5 (by decide +kernel)) (SndL.c (s_fail) (SndL.c (s_fail) (SndL.c (s_astore (by decide +kernel) (by decide)) (SndL.c (s_fail) (SndL.c (s_aload (by decide +kernel)) (SndL.c (s_fail) (SndL.c (s_ifnonnull (off := 9) (by decide +kernel) (by decide)) (SndL.c (s_fail) (SndL.c (s_fail) (SndL.c (s_aload_n (k := 0) (by decide +kernel) rfl) (SndL.c (s_iconst (by decide +kernel) (in32_d (by decide))) (SndL.c (s_invV (r := (RX11, TX11, 14)) (ci := 12) okX11_refused rfl (by decide) rfl rfl w_1_239 w_2_1 v_0 (by decide +kernel)) (SndL.c (s_fail) (SndL.n))))))))))))))))
def kX11_saw_1 : List En := [(1, oFail), (0, oRetI), (0, oIload 2 19), (0, oIfLt 40 22), (1, oFail), (1, oFail), (0, oIload 2 23), (0, oPush (vI 9999) 26), (1, oFail), (1, oFail), (0, oIcGt 40 29), (1, oFail), (1, oFail), (0, oIload 3 30), (0, oIfLt 40 33), (1, oFail)]
set_option maxRecDepth 20000 in
theorem zX11_saw_1 : SndL mX11_saw 16 kX11_saw_1 := SndL.c (s_fail) (SndL.c (s_ret_i rfl (by decide +kernel)) (SndL.c (s_iload_n (k := 2) (by decide +kernel) rfl) (SndL.c (s_if_lt (off := 21) (by decide +kernel) (by decide)) (SndL.c (s_fail) (SndL.c (s_fail) (SndL.c (s_iload_n (k := 2) (by decide +kernel) rfl) (SndL.c (s_sipush (by decide +kernel) (in32_d (by decide)) (by decide +kernel)) (SndL.c (s_fail) (SndL.c (s_fail) (SndL.c (s_ic_gt (off := 14) (by decide +kernel) (by decide)) (SndL.c (s_fail) (SndL.c (s_fail) (SndL.c (s_iload_n (k := 3) (by decide +kernel) rfl) (SndL.c (s_if_lt (off := 10) (by decide +kernel) (by decide)) (SndL.c (s_fail) (SndL.n))))))))))))))))
def kX11_saw_2 : List En := [(1, oFail), (0, oIload 3 34), (0, oPush (vI 9999) 37), (1, oFail), (1, oFail), (0, oIcLe 47 40), (1, oFail), (1, oFail), (0, oRload 0 41), (0, oPush (vI (-6)) 43), (1, oFail), (2, oInvV 13 mX11_refused 1 46), (1, oFail), (1, oFail), (0, oRetI), (0, oRload 4 49)]
set_option maxRecDepth 20000 in
theorem zX11_saw_2 : SndL mX11_saw 32 kX11_saw_2 := SndL.c (s_fail) (SndL.c (s_iload_n (k := 3) (by decide +kernel) rfl) (SndL.c (s_sipush (by decide +kernel) (in32_d (by decide)) (by decide +kernel)) (SndL.c (s_fail) (SndL.c (s_fail) (SndL.c (s_ic_le (off := 10) (by decide +kernel) (by decide)) (SndL.c (s_fail) (SndL.c (s_fail) (SndL.c (s_aload_n (k := 0) (by decide +kernel) rfl) (SndL.c (s_bipush (by decide +kernel) (in32_d (by decide)) (by decide +kernel)) (SndL.c (s_fail) (SndL.c (s_invV (r := (RX11, TX11, 14)) (ci := 12) okX11_refused rfl (by decide) rfl rfl w_1_239 w_2_1 v_0 (by decide +kernel)) (SndL.c (s_fail) (SndL.c (s_fail) (SndL.c (s_ret_i rfl (by decide +kernel)) (SndL.c (s_aload (by decide +kernel)) (SndL.n))))))))))))))))
def kX11_saw_3 : List En := [(1, oFail), (0, oGetf 2 6 0 52), (1, oFail), (1, oFail), (0, oIload 2 53), (0, oIadd 54), (0, oPush (vI 9999) 57), (1, oFail), (1, oFail), (0, oIcGt 73 60), (1, oFail), (1, oFail), (0, oRload 4 62), (1, oFail), (0, oGetf 2 7 0 65), (1, oFail)]
set_option maxRecDepth 20000 in
theorem zX11_saw_3 : SndL mX11_saw 48 kX11_saw_3 := SndL.c (s_fail) (SndL.c (s_getf (k := 6) clok1 (by decide) rfl (by decide) rfl w_2_96 (Or.inl rfl) (by decide +kernel)) (SndL.c (s_fail) (SndL.c (s_fail) (SndL.c (s_iload_n (k := 2) (by decide +kernel) rfl) (SndL.c (s_iadd (by decide +kernel)) (SndL.c (s_sipush (by decide +kernel) (in32_d (by decide)) (by decide +kernel)) (SndL.c (s_fail) (SndL.c (s_fail) (SndL.c (s_ic_gt (off := 16) (by decide +kernel) (by decide)) (SndL.c (s_fail) (SndL.c (s_fail) (SndL.c (s_aload (by decide +kernel)) (SndL.c (s_fail) (SndL.c (s_getf (k := 7) clok1 (by decide) rfl (by decide) rfl w_2_98 (Or.inl rfl) (by decide +kernel)) (SndL.c (s_fail) (SndL.n))))))))))))))))
def kX11_saw_4 : List En := [(1, oFail), (0, oIload 3 66), (0, oIadd 67), (0, oPush (vI 9999) 70), (1, oFail), (1, oFail), (0, oIcLe 80 73), (1, oFail), (1, oFail), (0, oRload 0 74), (0, oPush (vI (-7)) 76), (1, oFail), (2, oInvV 13 mX11_refused 1 79), (1, oFail), (1, oFail), (0, oRetI)]
set_option maxRecDepth 20000 in
theorem zX11_saw_4 : SndL mX11_saw 64 kX11_saw_4 := SndL.c (s_fail) (SndL.c (s_iload_n (k := 3) (by decide +kernel) rfl) (SndL.c (s_iadd (by decide +kernel)) (SndL.c (s_sipush (by decide +kernel) (in32_d (by decide)) (by decide +kernel)) (SndL.c (s_fail) (SndL.c (s_fail) (SndL.c (s_ic_le (off := 10) (by decide +kernel) (by decide)) (SndL.c (s_fail) (SndL.c (s_fail) (SndL.c (s_aload_n (k := 0) (by decide +kernel) rfl) (SndL.c (s_bipush (by decide +kernel) (in32_d (by decide)) (by decide +kernel)) (SndL.c (s_fail) (SndL.c (s_invV (r := (RX11, TX11, 14)) (ci := 12) okX11_refused rfl (by decide) rfl rfl w_1_239 w_2_1 v_0 (by decide +kernel)) (SndL.c (s_fail) (SndL.c (s_fail) (SndL.c (s_ret_i rfl (by decide +kernel)) (SndL.n))))))))))))))))
def kX11_saw_5 : List En := [(0, oRload 4 82), (1, oFail), (0, oDup 83), (0, oGetf 2 6 0 86), (1, oFail), (1, oFail), (0, oIload 2 87), (0, oIadd 88), (0, oPutf 2 6 0 91), (1, oFail), (1, oFail), (0, oRload 4 93), (1, oFail), (0, oDup 94), (0, oGetf 2 7 0 97), (1, oFail)]
set_option maxRecDepth 20000 in
theorem zX11_saw_5 : SndL mX11_saw 80 kX11_saw_5 := SndL.c (s_aload (by decide +kernel)) (SndL.c (s_fail) (SndL.c (s_dup (by decide +kernel)) (SndL.c (s_getf (k := 6) clok1 (by decide) rfl (by decide) rfl w_2_96 (Or.inl rfl) (by decide +kernel)) (SndL.c (s_fail) (SndL.c (s_fail) (SndL.c (s_iload_n (k := 2) (by decide +kernel) rfl) (SndL.c (s_iadd (by decide +kernel)) (SndL.c (s_putf (k := 6) clok1 (by decide) rfl (by decide) rfl w_2_96 (Or.inl rfl) (Or.inl rfl) (by decide +kernel)) (SndL.c (s_fail) (SndL.c (s_fail) (SndL.c (s_aload (by decide +kernel)) (SndL.c (s_fail) (SndL.c (s_dup (by decide +kernel)) (SndL.c (s_getf (k := 7) clok1 (by decide) rfl (by decide) rfl w_2_98 (Or.inl rfl) (by decide +kernel)) (SndL.c (s_fail) (SndL.n))))))))))))))))
def kX11_saw_6 : List En := [(1, oFail), (0, oIload 3 98), (0, oIadd 99), (0, oPutf 2 7 0 102), (1, oFail), (1, oFail), (0, oRload 4 104), (1, oFail), (0, oGetf 2 6 0 107), (1, oFail), (1, oFail), (0, oRload 4 109), (1, oFail), (0, oGetf 2 7 0 112), (1, oFail), (1, oFail)]
set_option maxRecDepth 20000 in
theorem zX11_saw_6 : SndL mX11_saw 96 kX11_saw_6 := SndL.c (s_fail) (SndL.c (s_iload_n (k := 3) (by decide +kernel) rfl) (SndL.c (s_iadd (by decide +kernel)) (SndL.c (s_putf (k := 7) clok1 (by decide) rfl (by decide) rfl w_2_98 (Or.inl rfl) (Or.inl rfl) (by decide +kernel)) (SndL.c (s_fail) (SndL.c (s_fail) (SndL.c (s_aload (by decide +kernel)) (SndL.c (s_fail) (SndL.c (s_getf (k := 6) clok1 (by decide) rfl (by decide) rfl w_2_96 (Or.inl rfl) (by decide +kernel)) (SndL.c (s_fail) (SndL.c (s_fail) (SndL.c (s_aload (by decide +kernel)) (SndL.c (s_fail) (SndL.c (s_getf (k := 7) clok1 (by decide) rfl (by decide) rfl w_2_98 (Or.inl rfl) (by decide +kernel)) (SndL.c (s_fail) (SndL.c (s_fail) (SndL.n))))))))))))))))
def kX11_saw_7 : List En := [(0, oIadd 113), (0, oRetI)]
set_option maxRecDepth 20000 in
theorem zX11_saw_7 : SndL mX11_saw 112 kX11_saw_7 := SndL.c (s_iadd (by decide +kernel)) (SndL.c (s_ret_i rfl (by decide +kernel)) (SndL.n))
def kX11_saw : Cd := [kX11_saw_0, kX11_saw_1, kX11_saw_2, kX11_saw_3, kX11_saw_4, kX11_saw_5, kX11_saw_6, kX11_saw_7]
theorem zX11_saw : SndC mX11_saw 0 kX11_saw := SndC.c zX11_saw_0 (by decide) (SndC.c zX11_saw_1 (by decide) (SndC.c zX11_saw_2 (by decide) (SndC.c zX11_saw_3 (by decide) (SndC.c zX11_saw_4 (by decide) (SndC.c zX11_saw_5 (by decide) (SndC.c zX11_saw_6 (by decide) (SndC.c zX11_saw_7 (by decide) (SndC.n))))))))
theorem aX11_saw_0 : at_ kX11_saw 0 = (0, oRload 0 1) := rfl
theorem aX11_saw_1 : at_ kX11_saw 1 = (0, oIload 1 2) := rfl
theorem aX11_saw_2 : at_ kX11_saw 2 = (2, oInvV 13 mX11_advertOf 1 5) := rfl
theorem aX11_saw_5 : at_ kX11_saw 5 = (0, oRstore 4 7) := rfl
theorem aX11_saw_7 : at_ kX11_saw 7 = (0, oRload 4 9) := rfl
theorem aX11_saw_9 : at_ kX11_saw 9 = (0, oIfnonnull 18 12) := rfl
theorem aX11_saw_12 : at_ kX11_saw 12 = (0, oRload 0 13) := rfl
theorem aX11_saw_13 : at_ kX11_saw 13 = (0, oPush (vI (-1)) 14) := rfl
theorem aX11_saw_14 : at_ kX11_saw 14 = (2, oInvV 13 mX11_refused 1 17) := rfl
theorem aX11_saw_17 : at_ kX11_saw 17 = (0, oRetI) := rfl
theorem aX11_saw_18 : at_ kX11_saw 18 = (0, oIload 2 19) := rfl
theorem aX11_saw_19 : at_ kX11_saw 19 = (0, oIfLt 40 22) := rfl
theorem aX11_saw_22 : at_ kX11_saw 22 = (0, oIload 2 23) := rfl
theorem aX11_saw_23 : at_ kX11_saw 23 = (0, oPush (vI 9999) 26) := rfl
theorem aX11_saw_26 : at_ kX11_saw 26 = (0, oIcGt 40 29) := rfl
theorem aX11_saw_29 : at_ kX11_saw 29 = (0, oIload 3 30) := rfl
theorem aX11_saw_30 : at_ kX11_saw 30 = (0, oIfLt 40 33) := rfl
theorem aX11_saw_33 : at_ kX11_saw 33 = (0, oIload 3 34) := rfl
theorem aX11_saw_34 : at_ kX11_saw 34 = (0, oPush (vI 9999) 37) := rfl
theorem aX11_saw_37 : at_ kX11_saw 37 = (0, oIcLe 47 40) := rfl
theorem aX11_saw_40 : at_ kX11_saw 40 = (0, oRload 0 41) := rfl
theorem aX11_saw_41 : at_ kX11_saw 41 = (0, oPush (vI (-6)) 43) := rfl
theorem aX11_saw_43 : at_ kX11_saw 43 = (2, oInvV 13 mX11_refused 1 46) := rfl
theorem aX11_saw_46 : at_ kX11_saw 46 = (0, oRetI) := rfl
theorem aX11_saw_47 : at_ kX11_saw 47 = (0, oRload 4 49) := rfl
theorem aX11_saw_49 : at_ kX11_saw 49 = (0, oGetf 2 6 0 52) := rfl
theorem aX11_saw_52 : at_ kX11_saw 52 = (0, oIload 2 53) := rfl
theorem aX11_saw_53 : at_ kX11_saw 53 = (0, oIadd 54) := rfl
theorem aX11_saw_54 : at_ kX11_saw 54 = (0, oPush (vI 9999) 57) := rfl
theorem aX11_saw_57 : at_ kX11_saw 57 = (0, oIcGt 73 60) := rfl
theorem aX11_saw_60 : at_ kX11_saw 60 = (0, oRload 4 62) := rfl
theorem aX11_saw_62 : at_ kX11_saw 62 = (0, oGetf 2 7 0 65) := rfl
theorem aX11_saw_65 : at_ kX11_saw 65 = (0, oIload 3 66) := rfl
theorem aX11_saw_66 : at_ kX11_saw 66 = (0, oIadd 67) := rfl
theorem aX11_saw_67 : at_ kX11_saw 67 = (0, oPush (vI 9999) 70) := rfl
theorem aX11_saw_70 : at_ kX11_saw 70 = (0, oIcLe 80 73) := rfl
theorem aX11_saw_73 : at_ kX11_saw 73 = (0, oRload 0 74) := rfl
theorem aX11_saw_74 : at_ kX11_saw 74 = (0, oPush (vI (-7)) 76) := rfl
theorem aX11_saw_76 : at_ kX11_saw 76 = (2, oInvV 13 mX11_refused 1 79) := rfl
theorem aX11_saw_79 : at_ kX11_saw 79 = (0, oRetI) := rfl
theorem aX11_saw_80 : at_ kX11_saw 80 = (0, oRload 4 82) := rfl
theorem aX11_saw_82 : at_ kX11_saw 82 = (0, oDup 83) := rfl
theorem aX11_saw_83 : at_ kX11_saw 83 = (0, oGetf 2 6 0 86) := rfl
theorem aX11_saw_86 : at_ kX11_saw 86 = (0, oIload 2 87) := rfl
theorem aX11_saw_87 : at_ kX11_saw 87 = (0, oIadd 88) := rfl
theorem aX11_saw_88 : at_ kX11_saw 88 = (0, oPutf 2 6 0 91) := rfl
theorem aX11_saw_91 : at_ kX11_saw 91 = (0, oRload 4 93) := rfl
theorem aX11_saw_93 : at_ kX11_saw 93 = (0, oDup 94) := rfl
theorem aX11_saw_94 : at_ kX11_saw 94 = (0, oGetf 2 7 0 97) := rfl
theorem aX11_saw_97 : at_ kX11_saw 97 = (0, oIload 3 98) := rfl
theorem aX11_saw_98 : at_ kX11_saw 98 = (0, oIadd 99) := rfl
theorem aX11_saw_99 : at_ kX11_saw 99 = (0, oPutf 2 7 0 102) := rfl
theorem aX11_saw_102 : at_ kX11_saw 102 = (0, oRload 4 104) := rfl
theorem aX11_saw_104 : at_ kX11_saw 104 = (0, oGetf 2 6 0 107) := rfl
theorem aX11_saw_107 : at_ kX11_saw 107 = (0, oRload 4 109) := rfl
theorem aX11_saw_109 : at_ kX11_saw 109 = (0, oGetf 2 7 0 112) := rfl
theorem aX11_saw_112 : at_ kX11_saw 112 = (0, oIadd 113) := rfl
theorem aX11_saw_113 : at_ kX11_saw 113 = (0, oRetI) := rfl
def kX11_about_0 : List En := [(0, oRload 0 1), (0, oIload 1 2), (2, oInvV 13 mX11_advertOf 1 5), (1, oFail), (1, oFail), (0, oRstore 3 6), (0, oRload 3 7), (0, oIfnonnull 12 10), (1, oFail), (1, oFail), (0, oPush (vI (-1)) 11), (0, oRetI), (0, oIload 2 13), (0, oSwitch 0 7 [60, 65, 70, 76, 82, 87, 92, 97] 102), (1, oFail), (1, oFail)]
set_option maxRecDepth 20000 in
theorem zX11_about_0 : SndL mX11_about 0 kX11_about_0 := SndL.c (s_aload_n (k := 0) (by decide +kernel) rfl) (SndL.c (s_iload_n (k := 1) (by decide +kernel) rfl) (SndL.c (s_invV (r := (RX11, TX11, 14)) (ci := 12) okX11_advertOf rfl (by decide) rfl rfl w_2_187 w_2_189 v_5 (by decide +kernel)) (SndL.c (s_fail) (SndL.c (s_fail) (SndL.c (s_astore_n (k := 3) (by decide +kernel) rfl (by decide)) (SndL.c (s_aload_n (k := 3) (by decide +kernel) rfl) (SndL.c (s_ifnonnull (off := 5) (by decide +kernel) (by decide)) (SndL.c (s_fail) (SndL.c (s_fail) (SndL.c (s_iconst (by decide +kernel) (in32_d (by decide))) (SndL.c (s_ret_i rfl (by decide +kernel)) (SndL.c (s_iload_n (k := 2) (by decide +kernel) rfl) (SndL.c (s_switch2 (dflt := 89) (lo := 0) (hi := 7) (len := 47) (offs := #[47, 52, 57, 63, 69, 74, 79, 84]) (by decide +kernel) (by decide) (by decide +kernel) (by decide +kernel)) (SndL.c (s_fail) (SndL.c (s_fail) (SndL.n))))))))))))))))
def kX11_about_1 : List En := [(1, oFail), (1, oFail), (1, oFail), (1, oFail), (1, oFail), (1, oFail), (1, oFail), (1, oFail), (1, oFail), (1, oFail), (1, oFail), (1, oFail), (1, oFail), (1, oFail), (1, oFail), (1, oFail)]
set_option maxRecDepth 20000 in
theorem zX11_about_1 : SndL mX11_about 16 kX11_about_1 := SndL.c (s_fail) (SndL.c (s_fail) (SndL.c (s_fail) (SndL.c (s_fail) (SndL.c (s_fail) (SndL.c (s_fail) (SndL.c (s_fail) (SndL.c (s_fail) (SndL.c (s_fail) (SndL.c (s_fail) (SndL.c (s_fail) (SndL.c (s_fail) (SndL.c (s_fail) (SndL.c (s_fail) (SndL.c (s_fail) (SndL.c (s_fail) (SndL.n))))))))))))))))
def kX11_about_2 : List En := [(1, oFail), (1, oFail), (1, oFail), (1, oFail), (1, oFail), (1, oFail), (1, oFail), (1, oFail), (1, oFail), (1, oFail), (1, oFail), (1, oFail), (1, oFail), (1, oFail), (1, oFail), (1, oFail)]
set_option maxRecDepth 20000 in
theorem zX11_about_2 : SndL mX11_about 32 kX11_about_2 := SndL.c (s_fail) (SndL.c (s_fail) (SndL.c (s_fail) (SndL.c (s_fail) (SndL.c (s_fail) (SndL.c (s_fail) (SndL.c (s_fail) (SndL.c (s_fail) (SndL.c (s_fail) (SndL.c (s_fail) (SndL.c (s_fail) (SndL.c (s_fail) (SndL.c (s_fail) (SndL.c (s_fail) (SndL.c (s_fail) (SndL.c (s_fail) (SndL.n))))))))))))))))
def kX11_about_3 : List En := [(1, oFail), (1, oFail), (1, oFail), (1, oFail), (1, oFail), (1, oFail), (1, oFail), (1, oFail), (1, oFail), (1, oFail), (1, oFail), (1, oFail), (0, oRload 3 61), (0, oGetf 2 0 0 64), (1, oFail), (1, oFail)]
set_option maxRecDepth 20000 in
theorem zX11_about_3 : SndL mX11_about 48 kX11_about_3 := SndL.c (s_fail) (SndL.c (s_fail) (SndL.c (s_fail) (SndL.c (s_fail) (SndL.c (s_fail) (SndL.c (s_fail) (SndL.c (s_fail) (SndL.c (s_fail) (SndL.c (s_fail) (SndL.c (s_fail) (SndL.c (s_fail) (SndL.c (s_fail) (SndL.c (s_aload_n (k := 3) (by decide +kernel) rfl) (SndL.c (s_getf (k := 0) clok1 (by decide) rfl (by decide) rfl w_2_83 (Or.inl rfl) (by decide +kernel)) (SndL.c (s_fail) (SndL.c (s_fail) (SndL.n))))))))))))))))
def kX11_about_4 : List En := [(0, oRetI), (0, oRload 3 66), (0, oGetf 2 1 0 69), (1, oFail), (1, oFail), (0, oRetI), (0, oRload 3 71), (0, oGetf 2 2 2 74), (1, oFail), (1, oFail), (0, oAlen 75), (0, oRetI), (0, oRload 3 77), (0, oGetf 2 4 2 80), (1, oFail), (1, oFail)]
set_option maxRecDepth 20000 in
theorem zX11_about_4 : SndL mX11_about 64 kX11_about_4 := SndL.c (s_ret_i rfl (by decide +kernel)) (SndL.c (s_aload_n (k := 3) (by decide +kernel) rfl) (SndL.c (s_getf (k := 1) clok1 (by decide) rfl (by decide) rfl w_2_86 (Or.inl rfl) (by decide +kernel)) (SndL.c (s_fail) (SndL.c (s_fail) (SndL.c (s_ret_i rfl (by decide +kernel)) (SndL.c (s_aload_n (k := 3) (by decide +kernel) rfl) (SndL.c (s_getf (k := 2) clok1 (by decide) rfl (by decide) rfl w_2_88 (Or.inl rfl) (by decide +kernel)) (SndL.c (s_fail) (SndL.c (s_fail) (SndL.c (s_alen (by decide +kernel)) (SndL.c (s_ret_i rfl (by decide +kernel)) (SndL.c (s_aload_n (k := 3) (by decide +kernel) rfl) (SndL.c (s_getf (k := 4) clok1 (by decide) rfl (by decide) rfl w_2_92 (Or.inl rfl) (by decide +kernel)) (SndL.c (s_fail) (SndL.c (s_fail) (SndL.n))))))))))))))))
def kX11_about_5 : List En := [(0, oAlen 81), (0, oRetI), (0, oRload 3 83), (0, oGetf 2 5 0 86), (1, oFail), (1, oFail), (0, oRetI), (0, oRload 3 88), (0, oGetf 2 6 0 91), (1, oFail), (1, oFail), (0, oRetI), (0, oRload 3 93), (0, oGetf 2 7 0 96), (1, oFail), (1, oFail)]
set_option maxRecDepth 20000 in
theorem zX11_about_5 : SndL mX11_about 80 kX11_about_5 := SndL.c (s_alen (by decide +kernel)) (SndL.c (s_ret_i rfl (by decide +kernel)) (SndL.c (s_aload_n (k := 3) (by decide +kernel) rfl) (SndL.c (s_getf (k := 5) clok1 (by decide) rfl (by decide) rfl w_2_94 (Or.inl rfl) (by decide +kernel)) (SndL.c (s_fail) (SndL.c (s_fail) (SndL.c (s_ret_i rfl (by decide +kernel)) (SndL.c (s_aload_n (k := 3) (by decide +kernel) rfl) (SndL.c (s_getf (k := 6) clok1 (by decide) rfl (by decide) rfl w_2_96 (Or.inl rfl) (by decide +kernel)) (SndL.c (s_fail) (SndL.c (s_fail) (SndL.c (s_ret_i rfl (by decide +kernel)) (SndL.c (s_aload_n (k := 3) (by decide +kernel) rfl) (SndL.c (s_getf (k := 7) clok1 (by decide) rfl (by decide) rfl w_2_98 (Or.inl rfl) (by decide +kernel)) (SndL.c (s_fail) (SndL.c (s_fail) (SndL.n))))))))))))))))
def kX11_about_6 : List En := [(0, oRetI), (0, oRload 3 98), (0, oGetf 2 3 0 101), (1, oFail), (1, oFail), (0, oRetI), (0, oPush (vI (-1)) 103), (0, oRetI)]
set_option maxRecDepth 20000 in
theorem zX11_about_6 : SndL mX11_about 96 kX11_about_6 := SndL.c (s_ret_i rfl (by decide +kernel)) (SndL.c (s_aload_n (k := 3) (by decide +kernel) rfl) (SndL.c (s_getf (k := 3) clok1 (by decide) rfl (by decide) rfl w_2_90 (Or.inl rfl) (by decide +kernel)) (SndL.c (s_fail) (SndL.c (s_fail) (SndL.c (s_ret_i rfl (by decide +kernel)) (SndL.c (s_iconst (by decide +kernel) (in32_d (by decide))) (SndL.c (s_ret_i rfl (by decide +kernel)) (SndL.n))))))))
def kX11_about : Cd := [kX11_about_0, kX11_about_1, kX11_about_2, kX11_about_3, kX11_about_4, kX11_about_5, kX11_about_6]
theorem zX11_about : SndC mX11_about 0 kX11_about := SndC.c zX11_about_0 (by decide) (SndC.c zX11_about_1 (by decide) (SndC.c zX11_about_2 (by decide) (SndC.c zX11_about_3 (by decide) (SndC.c zX11_about_4 (by decide) (SndC.c zX11_about_5 (by decide) (SndC.c zX11_about_6 (by decide) (SndC.n)))))))
theorem aX11_about_0 : at_ kX11_about 0 = (0, oRload 0 1) := rfl
theorem aX11_about_1 : at_ kX11_about 1 = (0, oIload 1 2) := rfl
theorem aX11_about_2 : at_ kX11_about 2 = (2, oInvV 13 mX11_advertOf 1 5) := rfl
theorem aX11_about_5 : at_ kX11_about 5 = (0, oRstore 3 6) := rfl
theorem aX11_about_6 : at_ kX11_about 6 = (0, oRload 3 7) := rfl
theorem aX11_about_7 : at_ kX11_about 7 = (0, oIfnonnull 12 10) := rfl
theorem aX11_about_10 : at_ kX11_about 10 = (0, oPush (vI (-1)) 11) := rfl
theorem aX11_about_11 : at_ kX11_about 11 = (0, oRetI) := rfl
theorem aX11_about_12 : at_ kX11_about 12 = (0, oIload 2 13) := rfl
theorem aX11_about_13 : at_ kX11_about 13 = (0, oSwitch 0 7 [60, 65, 70, 76, 82, 87, 92, 97] 102) := rfl
theorem aX11_about_60 : at_ kX11_about 60 = (0, oRload 3 61) := rfl
theorem aX11_about_61 : at_ kX11_about 61 = (0, oGetf 2 0 0 64) := rfl
theorem aX11_about_64 : at_ kX11_about 64 = (0, oRetI) := rfl
theorem aX11_about_65 : at_ kX11_about 65 = (0, oRload 3 66) := rfl
theorem aX11_about_66 : at_ kX11_about 66 = (0, oGetf 2 1 0 69) := rfl
theorem aX11_about_69 : at_ kX11_about 69 = (0, oRetI) := rfl
theorem aX11_about_70 : at_ kX11_about 70 = (0, oRload 3 71) := rfl
theorem aX11_about_71 : at_ kX11_about 71 = (0, oGetf 2 2 2 74) := rfl
theorem aX11_about_74 : at_ kX11_about 74 = (0, oAlen 75) := rfl
theorem aX11_about_75 : at_ kX11_about 75 = (0, oRetI) := rfl
theorem aX11_about_76 : at_ kX11_about 76 = (0, oRload 3 77) := rfl
theorem aX11_about_77 : at_ kX11_about 77 = (0, oGetf 2 4 2 80) := rfl
theorem aX11_about_80 : at_ kX11_about 80 = (0, oAlen 81) := rfl
theorem aX11_about_81 : at_ kX11_about 81 = (0, oRetI) := rfl
theorem aX11_about_82 : at_ kX11_about 82 = (0, oRload 3 83) := rfl
theorem aX11_about_83 : at_ kX11_about 83 = (0, oGetf 2 5 0 86) := rfl
theorem aX11_about_86 : at_ kX11_about 86 = (0, oRetI) := rfl
theorem aX11_about_87 : at_ kX11_about 87 = (0, oRload 3 88) := rfl
theorem aX11_about_88 : at_ kX11_about 88 = (0, oGetf 2 6 0 91) := rfl
theorem aX11_about_91 : at_ kX11_about 91 = (0, oRetI) := rfl
theorem aX11_about_92 : at_ kX11_about 92 = (0, oRload 3 93) := rfl
theorem aX11_about_93 : at_ kX11_about 93 = (0, oGetf 2 7 0 96) := rfl
theorem aX11_about_96 : at_ kX11_about 96 = (0, oRetI) := rfl
theorem aX11_about_97 : at_ kX11_about 97 = (0, oRload 3 98) := rfl
theorem aX11_about_98 : at_ kX11_about 98 = (0, oGetf 2 3 0 101) := rfl
theorem aX11_about_101 : at_ kX11_about 101 = (0, oRetI) := rfl
theorem aX11_about_102 : at_ kX11_about 102 = (0, oPush (vI (-1)) 103) := rfl
theorem aX11_about_103 : at_ kX11_about 103 = (0, oRetI) := rfl
def kX11_phrase_0 : List En := [(0, oIload 1 1), (2, oInvS mX11_isShelf 1 4), (1, oFail), (1, oFail), (0, oIfEq 14 7), (1, oFail), (1, oFail), (0, oIload 2 8), (2, oInvS mX11_isKind 1 11), (1, oFail), (1, oFail), (0, oIfNe 20 14), (1, oFail), (1, oFail), (0, oRload 0 15), (0, oPush (vI (-1)) 16)]
set_option maxRecDepth 20000 in
theorem zX11_phrase_0 : SndL mX11_phrase 0 kX11_phrase_0 := SndL.c (s_iload_n (k := 1) (by decide +kernel) rfl) (SndL.c (s_invS okX11_isShelf w_2_7 w_2_8 (by decide +kernel)) (SndL.c (s_fail) (SndL.c (s_fail) (SndL.c (s_if_eq (off := 10) (by decide +kernel) (by decide)) (SndL.c (s_fail) (SndL.c (s_fail) (SndL.c (s_iload_n (k := 2) (by decide +kernel) rfl) (SndL.c (s_invS okX11_isKind w_2_45 w_2_46 (by decide +kernel)) (SndL.c (s_fail) (SndL.c (s_fail) (SndL.c (s_if_ne (off := 9) (by decide +kernel) (by decide)) (SndL.c (s_fail) (SndL.c (s_fail) (SndL.c (s_aload_n (k := 0) (by decide +kernel) rfl) (SndL.c (s_iconst (by decide +kernel) (in32_d (by decide))) (SndL.n))))))))))))))))
def kX11_phrase_1 : List En := [(2, oInvV 13 mX11_refused 1 19), (1, oFail), (1, oFail), (0, oRetI), (0, oRload 0 21), (0, oIload 1 22), (2, oInvV 13 mX11_lackOfRow 1 25), (1, oFail), (1, oFail), (0, oIstore 5 27), (1, oFail), (0, oIload 5 29), (1, oFail), (0, oIfEq 39 32), (1, oFail), (1, oFail)]
set_option maxRecDepth 20000 in
theorem zX11_phrase_1 : SndL mX11_phrase 16 kX11_phrase_1 := SndL.c (s_invV (r := (RX11, TX11, 14)) (ci := 12) okX11_refused rfl (by decide) rfl rfl w_1_239 w_2_1 v_0 (by decide +kernel)) (SndL.c (s_fail) (SndL.c (s_fail) (SndL.c (s_ret_i rfl (by decide +kernel)) (SndL.c (s_aload_n (k := 0) (by decide +kernel) rfl) (SndL.c (s_iload_n (k := 1) (by decide +kernel) rfl) (SndL.c (s_invV (r := (RX11, TX11, 14)) (ci := 12) okX11_lackOfRow rfl (by decide) rfl rfl w_2_18 w_2_20 v_1 (by decide +kernel)) (SndL.c (s_fail) (SndL.c (s_fail) (SndL.c (s_istore (by decide +kernel) (by decide)) (SndL.c (s_fail) (SndL.c (s_iload (by decide +kernel)) (SndL.c (s_fail) (SndL.c (s_if_eq (off := 10) (by decide +kernel) (by decide)) (SndL.c (s_fail) (SndL.c (s_fail) (SndL.n))))))))))))))))
def kX11_phrase_2 : List En := [(0, oRload 0 33), (0, oIload 5 35), (1, oFail), (2, oInvV 13 mX11_refused 1 38), (1, oFail), (1, oFail), (0, oRetI), (0, oRload 0 40), (0, oGetf 13 0 2 43), (1, oFail), (1, oFail), (0, oIload 1 44), (0, oAald 111 45), (0, oGetf 11 3 0 48), (1, oFail), (1, oFail)]
set_option maxRecDepth 20000 in
theorem zX11_phrase_2 : SndL mX11_phrase 32 kX11_phrase_2 := SndL.c (s_aload_n (k := 0) (by decide +kernel) rfl) (SndL.c (s_iload (by decide +kernel)) (SndL.c (s_fail) (SndL.c (s_invV (r := (RX11, TX11, 14)) (ci := 12) okX11_refused rfl (by decide) rfl rfl w_1_239 w_2_1 v_0 (by decide +kernel)) (SndL.c (s_fail) (SndL.c (s_fail) (SndL.c (s_ret_i rfl (by decide +kernel)) (SndL.c (s_aload_n (k := 0) (by decide +kernel) rfl) (SndL.c (s_getf (k := 0) clok12 (by decide) rfl (by decide) rfl w_1_192 (Or.inl rfl) (by decide +kernel)) (SndL.c (s_fail) (SndL.c (s_fail) (SndL.c (s_iload_n (k := 1) (by decide +kernel) rfl) (SndL.c (s_aald (kd := 111) (akd_d (by decide)) rfl rfl (by decide +kernel)) (SndL.c (s_getf (k := 3) clok10 (by decide) rfl (by decide) rfl w_1_176 (Or.inl rfl) (by decide +kernel)) (SndL.c (s_fail) (SndL.c (s_fail) (SndL.n))))))))))))))))
def kX11_phrase_3 : List En := [(0, oIstore 6 50), (1, oFail), (0, oIload 6 52), (1, oFail), (0, oPush (vI 1) 53), (0, oIcLt 82 56), (1, oFail), (1, oFail), (0, oIload 6 58), (1, oFail), (0, oPush (vI 6) 60), (1, oFail), (0, oIcGt 82 63), (1, oFail), (1, oFail), (0, oIload 3 64)]
set_option maxRecDepth 20000 in
theorem zX11_phrase_3 : SndL mX11_phrase 48 kX11_phrase_3 := SndL.c (s_istore (by decide +kernel) (by decide)) (SndL.c (s_fail) (SndL.c (s_iload (by decide +kernel)) (SndL.c (s_fail) (SndL.c (s_iconst (by decide +kernel) (in32_d (by decide))) (SndL.c (s_ic_lt (off := 29) (by decide +kernel) (by decide)) (SndL.c (s_fail) (SndL.c (s_fail) (SndL.c (s_iload (by decide +kernel)) (SndL.c (s_fail) (SndL.c (s_bipush (by decide +kernel) (in32_d (by decide)) (by decide +kernel)) (SndL.c (s_fail) (SndL.c (s_ic_gt (off := 22) (by decide +kernel) (by decide)) (SndL.c (s_fail) (SndL.c (s_fail) (SndL.c (s_iload_n (k := 3) (by decide +kernel) rfl) (SndL.n))))))))))))))))
def kX11_phrase_4 : List En := [(0, oIfLt 82 67), (1, oFail), (1, oFail), (0, oIload 3 68), (0, oPush (vI 16000) 71), (1, oFail), (1, oFail), (0, oIcGe 82 74), (1, oFail), (1, oFail), (0, oIload 4 76), (1, oFail), (2, oInvS mX11_isDay 1 79), (1, oFail), (1, oFail), (0, oIfNe 89 82)]
set_option maxRecDepth 20000 in
theorem zX11_phrase_4 : SndL mX11_phrase 64 kX11_phrase_4 := SndL.c (s_if_lt (off := 18) (by decide +kernel) (by decide)) (SndL.c (s_fail) (SndL.c (s_fail) (SndL.c (s_iload_n (k := 3) (by decide +kernel) rfl) (SndL.c (s_sipush (by decide +kernel) (in32_d (by decide)) (by decide +kernel)) (SndL.c (s_fail) (SndL.c (s_fail) (SndL.c (s_ic_ge (off := 11) (by decide +kernel) (by decide)) (SndL.c (s_fail) (SndL.c (s_fail) (SndL.c (s_iload (by decide +kernel)) (SndL.c (s_fail) (SndL.c (s_invS okX11_isDay w_2_217 w_2_218 (by decide +kernel)) (SndL.c (s_fail) (SndL.c (s_fail) (SndL.c (s_if_ne (off := 10) (by decide +kernel) (by decide)) (SndL.n))))))))))))))))
def kX11_phrase_5 : List En := [(1, oFail), (1, oFail), (0, oRload 0 83), (0, oPush (vI (-6)) 85), (1, oFail), (2, oInvV 13 mX11_refused 1 88), (1, oFail), (1, oFail), (0, oRetI), (0, oRload 0 90), (0, oGetf 13 2 2 93), (1, oFail), (1, oFail), (2, oInvV 1 mJx4a65c_size_8abf5 0 96), (1, oFail), (1, oFail)]
set_option maxRecDepth 20000 in
theorem zX11_phrase_5 : SndL mX11_phrase 80 kX11_phrase_5 := SndL.c (s_fail) (SndL.c (s_fail) (SndL.c (s_aload_n (k := 0) (by decide +kernel) rfl) (SndL.c (s_bipush (by decide +kernel) (in32_d (by decide)) (by decide +kernel)) (SndL.c (s_fail) (SndL.c (s_invV (r := (RX11, TX11, 14)) (ci := 12) okX11_refused rfl (by decide) rfl rfl w_1_239 w_2_1 v_0 (by decide +kernel)) (SndL.c (s_fail) (SndL.c (s_fail) (SndL.c (s_ret_i rfl (by decide +kernel)) (SndL.c (s_aload_n (k := 0) (by decide +kernel) rfl) (SndL.c (s_getf (k := 2) clok12 (by decide) rfl (by decide) rfl w_1_194 (Or.inl rfl) (by decide +kernel)) (SndL.c (s_fail) (SndL.c (s_fail) (SndL.c (s_invV (r := (RJx4a65c, TJx4a65c, 3)) (ci := 0) okJx4a65c_size_8abf5 rfl (by decide) rfl rfl w_2_63 w_2_64 w_2_65 (by decide +kernel)) (SndL.c (s_fail) (SndL.c (s_fail) (SndL.n))))))))))))))))
def kX11_phrase_6 : List En := [(0, oPush (vI 20) 98), (1, oFail), (0, oIcLt 108 101), (1, oFail), (1, oFail), (0, oRload 0 102), (0, oPush (vI (-7)) 104), (1, oFail), (2, oInvV 13 mX11_refused 1 107), (1, oFail), (1, oFail), (0, oRetI), (0, oRload 0 109), (0, oGetf 13 2 2 112), (1, oFail), (1, oFail)]
set_option maxRecDepth 20000 in
theorem zX11_phrase_6 : SndL mX11_phrase 96 kX11_phrase_6 := SndL.c (s_bipush (by decide +kernel) (in32_d (by decide)) (by decide +kernel)) (SndL.c (s_fail) (SndL.c (s_ic_lt (off := 10) (by decide +kernel) (by decide)) (SndL.c (s_fail) (SndL.c (s_fail) (SndL.c (s_aload_n (k := 0) (by decide +kernel) rfl) (SndL.c (s_bipush (by decide +kernel) (in32_d (by decide)) (by decide +kernel)) (SndL.c (s_fail) (SndL.c (s_invV (r := (RX11, TX11, 14)) (ci := 12) okX11_refused rfl (by decide) rfl rfl w_1_239 w_2_1 v_0 (by decide +kernel)) (SndL.c (s_fail) (SndL.c (s_fail) (SndL.c (s_ret_i rfl (by decide +kernel)) (SndL.c (s_aload_n (k := 0) (by decide +kernel) rfl) (SndL.c (s_getf (k := 2) clok12 (by decide) rfl (by decide) rfl w_1_194 (Or.inl rfl) (by decide +kernel)) (SndL.c (s_fail) (SndL.c (s_fail) (SndL.n))))))))))))))))
def kX11_phrase_7 : List En := [(0, oNew 4 6 115), (1, oFail), (1, oFail), (0, oDup 116), (0, oRload 0 117), (0, oGetf 13 2 2 120), (1, oFail), (1, oFail), (2, oInvV 1 mJx4a65c_size_8abf5 0 123), (1, oFail), (1, oFail), (0, oRload 0 124), (0, oGetf 13 0 2 127), (1, oFail), (1, oFail), (0, oIload 1 128)]
set_option maxRecDepth 20000 in
theorem zX11_phrase_7 : SndL mX11_phrase 112 kX11_phrase_7 := SndL.c (s_new clok3 (by decide) rfl rfl w_2_220 w_2_221 w_1_19 (by decide +kernel)) (SndL.c (s_fail) (SndL.c (s_fail) (SndL.c (s_dup (by decide +kernel)) (SndL.c (s_aload_n (k := 0) (by decide +kernel) rfl) (SndL.c (s_getf (k := 2) clok12 (by decide) rfl (by decide) rfl w_1_194 (Or.inl rfl) (by decide +kernel)) (SndL.c (s_fail) (SndL.c (s_fail) (SndL.c (s_invV (r := (RJx4a65c, TJx4a65c, 3)) (ci := 0) okJx4a65c_size_8abf5 rfl (by decide) rfl rfl w_2_63 w_2_64 w_2_65 (by decide +kernel)) (SndL.c (s_fail) (SndL.c (s_fail) (SndL.c (s_aload_n (k := 0) (by decide +kernel) rfl) (SndL.c (s_getf (k := 0) clok12 (by decide) rfl (by decide) rfl w_1_192 (Or.inl rfl) (by decide +kernel)) (SndL.c (s_fail) (SndL.c (s_fail) (SndL.c (s_iload_n (k := 1) (by decide +kernel) rfl) (SndL.n))))))))))))))))
def kX11_phrase_8 : List En := [(0, oAald 111 129), (2, oInvV 11 mX9_asInts 0 132), (1, oFail), (1, oFail), (0, oIload 2 133), (0, oIload 3 134), (0, oNew 12 3 137), (1, oFail), (1, oFail), (0, oDup 138), (0, oIload 4 140), (1, oFail), (0, oRload 0 141), (0, oGetf 13 11 0 144), (1, oFail), (1, oFail)]
set_option maxRecDepth 20000 in
theorem zX11_phrase_8 : SndL mX11_phrase 128 kX11_phrase_8 := SndL.c (s_aald (kd := 111) (akd_d (by decide)) rfl rfl (by decide +kernel)) (SndL.c (s_invV (r := (RX9, TX9, 5)) (ci := 10) okX9_asInts rfl (by decide) rfl rfl w_2_69 w_2_70 w_2_71 (by decide +kernel)) (SndL.c (s_fail) (SndL.c (s_fail) (SndL.c (s_iload_n (k := 2) (by decide +kernel) rfl) (SndL.c (s_iload_n (k := 3) (by decide +kernel) rfl) (SndL.c (s_new clok11 (by decide) rfl rfl w_2_222 w_2_223 w_1_20 (by decide +kernel)) (SndL.c (s_fail) (SndL.c (s_fail) (SndL.c (s_dup (by decide +kernel)) (SndL.c (s_iload (by decide +kernel)) (SndL.c (s_fail) (SndL.c (s_aload_n (k := 0) (by decide +kernel) rfl) (SndL.c (s_getf (k := 11) clok12 (by decide) rfl (by decide) rfl w_1_203 (Or.inl rfl) (by decide +kernel)) (SndL.c (s_fail) (SndL.c (s_fail) (SndL.n))))))))))))))))
def kX11_phrase_9 : List En := [(2, oInvI mX10_init 2 147), (1, oFail), (1, oFail), (2, oInvI mX2_init 5 150), (1, oFail), (1, oFail), (2, oInvV 1 mJx4a65c_add_9ea2d 1 153), (1, oFail), (1, oFail), (0, oPop 154), (0, oRload 0 155), (0, oGetf 13 2 2 158), (1, oFail), (1, oFail), (2, oInvV 1 mJx4a65c_size_8abf5 0 161), (1, oFail)]
set_option maxRecDepth 20000 in
theorem zX11_phrase_9 : SndL mX11_phrase 144 kX11_phrase_9 := SndL.c (s_invI okX10_init rfl rfl w_2_224 w_2_225 (by decide +kernel)) (SndL.c (s_fail) (SndL.c (s_fail) (SndL.c (s_invI okX2_init rfl rfl w_2_239 w_3_0 (by decide +kernel)) (SndL.c (s_fail) (SndL.c (s_fail) (SndL.c (s_invV (r := (RJx4a65c, TJx4a65c, 3)) (ci := 0) okJx4a65c_add_9ea2d rfl (by decide) rfl rfl w_2_124 w_2_125 w_2_126 (by decide +kernel)) (SndL.c (s_fail) (SndL.c (s_fail) (SndL.c (s_pop (by decide +kernel)) (SndL.c (s_aload_n (k := 0) (by decide +kernel) rfl) (SndL.c (s_getf (k := 2) clok12 (by decide) rfl (by decide) rfl w_1_194 (Or.inl rfl) (by decide +kernel)) (SndL.c (s_fail) (SndL.c (s_fail) (SndL.c (s_invV (r := (RJx4a65c, TJx4a65c, 3)) (ci := 0) okJx4a65c_size_8abf5 rfl (by decide) rfl rfl w_2_63 w_2_64 w_2_65 (by decide +kernel)) (SndL.c (s_fail) (SndL.n))))))))))))))))
def kX11_phrase_10 : List En := [(1, oFail), (0, oPush (vI 1) 162), (0, oIsub 163), (0, oRetI)]
set_option maxRecDepth 20000 in
theorem zX11_phrase_10 : SndL mX11_phrase 160 kX11_phrase_10 := SndL.c (s_fail) (SndL.c (s_iconst (by decide +kernel) (in32_d (by decide))) (SndL.c (s_isub (by decide +kernel)) (SndL.c (s_ret_i rfl (by decide +kernel)) (SndL.n))))
def kX11_phrase : Cd := [kX11_phrase_0, kX11_phrase_1, kX11_phrase_2, kX11_phrase_3, kX11_phrase_4, kX11_phrase_5, kX11_phrase_6, kX11_phrase_7, kX11_phrase_8, kX11_phrase_9, kX11_phrase_10]
theorem zX11_phrase : SndC mX11_phrase 0 kX11_phrase := SndC.c zX11_phrase_0 (by decide) (SndC.c zX11_phrase_1 (by decide) (SndC.c zX11_phrase_2 (by decide) (SndC.c zX11_phrase_3 (by decide) (SndC.c zX11_phrase_4 (by decide) (SndC.c zX11_phrase_5 (by decide) (SndC.c zX11_phrase_6 (by decide) (SndC.c zX11_phrase_7 (by decide) (SndC.c zX11_phrase_8 (by decide) (SndC.c zX11_phrase_9 (by decide) (SndC.c zX11_phrase_10 (by decide) (SndC.n)))))))))))
theorem aX11_phrase_0 : at_ kX11_phrase 0 = (0, oIload 1 1) := rfl
theorem aX11_phrase_1 : at_ kX11_phrase 1 = (2, oInvS mX11_isShelf 1 4) := rfl
theorem aX11_phrase_4 : at_ kX11_phrase 4 = (0, oIfEq 14 7) := rfl
theorem aX11_phrase_7 : at_ kX11_phrase 7 = (0, oIload 2 8) := rfl
theorem aX11_phrase_8 : at_ kX11_phrase 8 = (2, oInvS mX11_isKind 1 11) := rfl
theorem aX11_phrase_11 : at_ kX11_phrase 11 = (0, oIfNe 20 14) := rfl
theorem aX11_phrase_14 : at_ kX11_phrase 14 = (0, oRload 0 15) := rfl
theorem aX11_phrase_15 : at_ kX11_phrase 15 = (0, oPush (vI (-1)) 16) := rfl
theorem aX11_phrase_16 : at_ kX11_phrase 16 = (2, oInvV 13 mX11_refused 1 19) := rfl
theorem aX11_phrase_19 : at_ kX11_phrase 19 = (0, oRetI) := rfl
theorem aX11_phrase_20 : at_ kX11_phrase 20 = (0, oRload 0 21) := rfl
theorem aX11_phrase_21 : at_ kX11_phrase 21 = (0, oIload 1 22) := rfl
theorem aX11_phrase_22 : at_ kX11_phrase 22 = (2, oInvV 13 mX11_lackOfRow 1 25) := rfl
theorem aX11_phrase_25 : at_ kX11_phrase 25 = (0, oIstore 5 27) := rfl
theorem aX11_phrase_27 : at_ kX11_phrase 27 = (0, oIload 5 29) := rfl
theorem aX11_phrase_29 : at_ kX11_phrase 29 = (0, oIfEq 39 32) := rfl
theorem aX11_phrase_32 : at_ kX11_phrase 32 = (0, oRload 0 33) := rfl
theorem aX11_phrase_33 : at_ kX11_phrase 33 = (0, oIload 5 35) := rfl
theorem aX11_phrase_35 : at_ kX11_phrase 35 = (2, oInvV 13 mX11_refused 1 38) := rfl
theorem aX11_phrase_38 : at_ kX11_phrase 38 = (0, oRetI) := rfl
theorem aX11_phrase_39 : at_ kX11_phrase 39 = (0, oRload 0 40) := rfl
theorem aX11_phrase_40 : at_ kX11_phrase 40 = (0, oGetf 13 0 2 43) := rfl
theorem aX11_phrase_43 : at_ kX11_phrase 43 = (0, oIload 1 44) := rfl
theorem aX11_phrase_44 : at_ kX11_phrase 44 = (0, oAald 111 45) := rfl
theorem aX11_phrase_45 : at_ kX11_phrase 45 = (0, oGetf 11 3 0 48) := rfl
theorem aX11_phrase_48 : at_ kX11_phrase 48 = (0, oIstore 6 50) := rfl
theorem aX11_phrase_50 : at_ kX11_phrase 50 = (0, oIload 6 52) := rfl
theorem aX11_phrase_52 : at_ kX11_phrase 52 = (0, oPush (vI 1) 53) := rfl
theorem aX11_phrase_53 : at_ kX11_phrase 53 = (0, oIcLt 82 56) := rfl
theorem aX11_phrase_56 : at_ kX11_phrase 56 = (0, oIload 6 58) := rfl
theorem aX11_phrase_58 : at_ kX11_phrase 58 = (0, oPush (vI 6) 60) := rfl
theorem aX11_phrase_60 : at_ kX11_phrase 60 = (0, oIcGt 82 63) := rfl
theorem aX11_phrase_63 : at_ kX11_phrase 63 = (0, oIload 3 64) := rfl
theorem aX11_phrase_64 : at_ kX11_phrase 64 = (0, oIfLt 82 67) := rfl
theorem aX11_phrase_67 : at_ kX11_phrase 67 = (0, oIload 3 68) := rfl
theorem aX11_phrase_68 : at_ kX11_phrase 68 = (0, oPush (vI 16000) 71) := rfl
theorem aX11_phrase_71 : at_ kX11_phrase 71 = (0, oIcGe 82 74) := rfl
theorem aX11_phrase_74 : at_ kX11_phrase 74 = (0, oIload 4 76) := rfl
theorem aX11_phrase_76 : at_ kX11_phrase 76 = (2, oInvS mX11_isDay 1 79) := rfl
theorem aX11_phrase_79 : at_ kX11_phrase 79 = (0, oIfNe 89 82) := rfl
theorem aX11_phrase_82 : at_ kX11_phrase 82 = (0, oRload 0 83) := rfl
theorem aX11_phrase_83 : at_ kX11_phrase 83 = (0, oPush (vI (-6)) 85) := rfl
theorem aX11_phrase_85 : at_ kX11_phrase 85 = (2, oInvV 13 mX11_refused 1 88) := rfl
theorem aX11_phrase_88 : at_ kX11_phrase 88 = (0, oRetI) := rfl
theorem aX11_phrase_89 : at_ kX11_phrase 89 = (0, oRload 0 90) := rfl
theorem aX11_phrase_90 : at_ kX11_phrase 90 = (0, oGetf 13 2 2 93) := rfl
theorem aX11_phrase_93 : at_ kX11_phrase 93 = (2, oInvV 1 mJx4a65c_size_8abf5 0 96) := rfl
theorem aX11_phrase_96 : at_ kX11_phrase 96 = (0, oPush (vI 20) 98) := rfl
theorem aX11_phrase_98 : at_ kX11_phrase 98 = (0, oIcLt 108 101) := rfl
theorem aX11_phrase_101 : at_ kX11_phrase 101 = (0, oRload 0 102) := rfl
theorem aX11_phrase_102 : at_ kX11_phrase 102 = (0, oPush (vI (-7)) 104) := rfl
theorem aX11_phrase_104 : at_ kX11_phrase 104 = (2, oInvV 13 mX11_refused 1 107) := rfl
theorem aX11_phrase_107 : at_ kX11_phrase 107 = (0, oRetI) := rfl
theorem aX11_phrase_108 : at_ kX11_phrase 108 = (0, oRload 0 109) := rfl
theorem aX11_phrase_109 : at_ kX11_phrase 109 = (0, oGetf 13 2 2 112) := rfl
theorem aX11_phrase_112 : at_ kX11_phrase 112 = (0, oNew 4 6 115) := rfl
theorem aX11_phrase_115 : at_ kX11_phrase 115 = (0, oDup 116) := rfl
theorem aX11_phrase_116 : at_ kX11_phrase 116 = (0, oRload 0 117) := rfl
theorem aX11_phrase_117 : at_ kX11_phrase 117 = (0, oGetf 13 2 2 120) := rfl
theorem aX11_phrase_120 : at_ kX11_phrase 120 = (2, oInvV 1 mJx4a65c_size_8abf5 0 123) := rfl
theorem aX11_phrase_123 : at_ kX11_phrase 123 = (0, oRload 0 124) := rfl
theorem aX11_phrase_124 : at_ kX11_phrase 124 = (0, oGetf 13 0 2 127) := rfl
theorem aX11_phrase_127 : at_ kX11_phrase 127 = (0, oIload 1 128) := rfl
theorem aX11_phrase_128 : at_ kX11_phrase 128 = (0, oAald 111 129) := rfl
theorem aX11_phrase_129 : at_ kX11_phrase 129 = (2, oInvV 11 mX9_asInts 0 132) := rfl
theorem aX11_phrase_132 : at_ kX11_phrase 132 = (0, oIload 2 133) := rfl
theorem aX11_phrase_133 : at_ kX11_phrase 133 = (0, oIload 3 134) := rfl
theorem aX11_phrase_134 : at_ kX11_phrase 134 = (0, oNew 12 3 137) := rfl
theorem aX11_phrase_137 : at_ kX11_phrase 137 = (0, oDup 138) := rfl
theorem aX11_phrase_138 : at_ kX11_phrase 138 = (0, oIload 4 140) := rfl
theorem aX11_phrase_140 : at_ kX11_phrase 140 = (0, oRload 0 141) := rfl
theorem aX11_phrase_141 : at_ kX11_phrase 141 = (0, oGetf 13 11 0 144) := rfl
theorem aX11_phrase_144 : at_ kX11_phrase 144 = (2, oInvI mX10_init 2 147) := rfl
theorem aX11_phrase_147 : at_ kX11_phrase 147 = (2, oInvI mX2_init 5 150) := rfl
theorem aX11_phrase_150 : at_ kX11_phrase 150 = (2, oInvV 1 mJx4a65c_add_9ea2d 1 153) := rfl
theorem aX11_phrase_153 : at_ kX11_phrase 153 = (0, oPop 154) := rfl
theorem aX11_phrase_154 : at_ kX11_phrase 154 = (0, oRload 0 155) := rfl
theorem aX11_phrase_155 : at_ kX11_phrase 155 = (0, oGetf 13 2 2 158) := rfl
theorem aX11_phrase_158 : at_ kX11_phrase 158 = (2, oInvV 1 mJx4a65c_size_8abf5 0 161) := rfl
theorem aX11_phrase_161 : at_ kX11_phrase 161 = (0, oPush (vI 1) 162) := rfl
theorem aX11_phrase_162 : at_ kX11_phrase 162 = (0, oIsub 163) := rfl
theorem aX11_phrase_163 : at_ kX11_phrase 163 = (0, oRetI) := rfl
def kX11_unphrase_0 : List En := [(0, oIload 1 1), (0, oIfLt 15 4), (1, oFail), (1, oFail), (0, oIload 1 5), (0, oRload 0 6), (0, oGetf 13 2 2 9), (1, oFail), (1, oFail), (2, oInvV 1 mJx4a65c_size_8abf5 0 12), (1, oFail), (1, oFail), (0, oIcLt 21 15), (1, oFail), (1, oFail), (0, oRload 0 16)]
set_option maxRecDepth 20000 in
theorem zX11_unphrase_0 : SndL mX11_unphrase 0 kX11_unphrase_0 := SndL.c (s_iload_n (k := 1) (by decide +kernel) rfl) (SndL.c (s_if_lt (off := 14) (by decide +kernel) (by decide)) (SndL.c (s_fail) (SndL.c (s_fail) (SndL.c (s_iload_n (k := 1) (by decide +kernel) rfl) (SndL.c (s_aload_n (k := 0) (by decide +kernel) rfl) (SndL.c (s_getf (k := 2) clok12 (by decide) rfl (by decide) rfl w_1_194 (Or.inl rfl) (by decide +kernel)) (SndL.c (s_fail) (SndL.c (s_fail) (SndL.c (s_invV (r := (RJx4a65c, TJx4a65c, 3)) (ci := 0) okJx4a65c_size_8abf5 rfl (by decide) rfl rfl w_2_63 w_2_64 w_2_65 (by decide +kernel)) (SndL.c (s_fail) (SndL.c (s_fail) (SndL.c (s_ic_lt (off := 9) (by decide +kernel) (by decide)) (SndL.c (s_fail) (SndL.c (s_fail) (SndL.c (s_aload_n (k := 0) (by decide +kernel) rfl) (SndL.n))))))))))))))))
def kX11_unphrase_1 : List En := [(0, oPush (vI (-1)) 17), (2, oInvV 13 mX11_refused 1 20), (1, oFail), (1, oFail), (0, oRetI), (0, oRload 0 22), (0, oRload 0 23), (0, oGetf 13 2 2 26), (1, oFail), (1, oFail), (0, oIload 1 27), (2, oInvV 1 mJx4a65c_get_915e3 1 30), (1, oFail), (1, oFail), (0, oCast 4 33), (1, oFail)]
set_option maxRecDepth 20000 in
theorem zX11_unphrase_1 : SndL mX11_unphrase 16 kX11_unphrase_1 := SndL.c (s_iconst (by decide +kernel) (in32_d (by decide))) (SndL.c (s_invV (r := (RX11, TX11, 14)) (ci := 12) okX11_refused rfl (by decide) rfl rfl w_1_239 w_2_1 v_0 (by decide +kernel)) (SndL.c (s_fail) (SndL.c (s_fail) (SndL.c (s_ret_i rfl (by decide +kernel)) (SndL.c (s_aload_n (k := 0) (by decide +kernel) rfl) (SndL.c (s_aload_n (k := 0) (by decide +kernel) rfl) (SndL.c (s_getf (k := 2) clok12 (by decide) rfl (by decide) rfl w_1_194 (Or.inl rfl) (by decide +kernel)) (SndL.c (s_fail) (SndL.c (s_fail) (SndL.c (s_iload_n (k := 1) (by decide +kernel) rfl) (SndL.c (s_invV (r := (RJx4a65c, TJx4a65c, 3)) (ci := 0) okJx4a65c_get_915e3 rfl (by decide) rfl rfl w_2_191 w_2_192 w_2_193 (by decide +kernel)) (SndL.c (s_fail) (SndL.c (s_fail) (SndL.c (s_cast (r := (RX2, TX2, 6)) (ci := 3) rfl (by decide) rfl w_2_220 (by decide +kernel)) (SndL.c (s_fail) (SndL.n))))))))))))))))
def kX11_unphrase_2 : List En := [(1, oFail), (0, oGetf 4 5 2 36), (1, oFail), (1, oFail), (2, oInvV 13 mX11_endedNow 1 39), (1, oFail), (1, oFail), (0, oRetI)]
set_option maxRecDepth 20000 in
theorem zX11_unphrase_2 : SndL mX11_unphrase 32 kX11_unphrase_2 := SndL.c (s_fail) (SndL.c (s_getf (k := 5) clok3 (by decide) rfl (by decide) rfl w_3_23 (Or.inl rfl) (by decide +kernel)) (SndL.c (s_fail) (SndL.c (s_fail) (SndL.c (s_invV (r := (RX11, TX11, 14)) (ci := 12) okX11_endedNow rfl (by decide) rfl rfl w_3_41 w_3_43 v_6 (by decide +kernel)) (SndL.c (s_fail) (SndL.c (s_fail) (SndL.c (s_ret_i rfl (by decide +kernel)) (SndL.n))))))))
def kX11_unphrase : Cd := [kX11_unphrase_0, kX11_unphrase_1, kX11_unphrase_2]
theorem zX11_unphrase : SndC mX11_unphrase 0 kX11_unphrase := SndC.c zX11_unphrase_0 (by decide) (SndC.c zX11_unphrase_1 (by decide) (SndC.c zX11_unphrase_2 (by decide) (SndC.n)))
theorem aX11_unphrase_0 : at_ kX11_unphrase 0 = (0, oIload 1 1) := rfl
theorem aX11_unphrase_1 : at_ kX11_unphrase 1 = (0, oIfLt 15 4) := rfl
theorem aX11_unphrase_4 : at_ kX11_unphrase 4 = (0, oIload 1 5) := rfl
theorem aX11_unphrase_5 : at_ kX11_unphrase 5 = (0, oRload 0 6) := rfl
theorem aX11_unphrase_6 : at_ kX11_unphrase 6 = (0, oGetf 13 2 2 9) := rfl
theorem aX11_unphrase_9 : at_ kX11_unphrase 9 = (2, oInvV 1 mJx4a65c_size_8abf5 0 12) := rfl
theorem aX11_unphrase_12 : at_ kX11_unphrase 12 = (0, oIcLt 21 15) := rfl
theorem aX11_unphrase_15 : at_ kX11_unphrase 15 = (0, oRload 0 16) := rfl
theorem aX11_unphrase_16 : at_ kX11_unphrase 16 = (0, oPush (vI (-1)) 17) := rfl
theorem aX11_unphrase_17 : at_ kX11_unphrase 17 = (2, oInvV 13 mX11_refused 1 20) := rfl
theorem aX11_unphrase_20 : at_ kX11_unphrase 20 = (0, oRetI) := rfl
theorem aX11_unphrase_21 : at_ kX11_unphrase 21 = (0, oRload 0 22) := rfl
theorem aX11_unphrase_22 : at_ kX11_unphrase 22 = (0, oRload 0 23) := rfl
theorem aX11_unphrase_23 : at_ kX11_unphrase 23 = (0, oGetf 13 2 2 26) := rfl
theorem aX11_unphrase_26 : at_ kX11_unphrase 26 = (0, oIload 1 27) := rfl
theorem aX11_unphrase_27 : at_ kX11_unphrase 27 = (2, oInvV 1 mJx4a65c_get_915e3 1 30) := rfl
theorem aX11_unphrase_30 : at_ kX11_unphrase 30 = (0, oCast 4 33) := rfl
theorem aX11_unphrase_33 : at_ kX11_unphrase 33 = (0, oGetf 4 5 2 36) := rfl
theorem aX11_unphrase_36 : at_ kX11_unphrase 36 = (2, oInvV 13 mX11_endedNow 1 39) := rfl
theorem aX11_unphrase_39 : at_ kX11_unphrase 39 = (0, oRetI) := rfl
def kX11_claims_0 : List En := [(0, oRload 0 1), (0, oIload 1 2), (2, oInvV 13 mX11_advertOf 1 5), (1, oFail), (1, oFail), (0, oRstore 4 7), (1, oFail), (0, oRload 4 9), (1, oFail), (0, oIfnull 20 12), (1, oFail), (1, oFail), (0, oIload 2 13), (0, oIfLt 20 16), (1, oFail), (1, oFail)]
set_option maxRecDepth 20000 in
theorem zX11_claims_0 : SndL mX11_claims 0 kX11_claims_0 := SndL.c (s_aload_n (k := 0) (by decide +kernel) rfl) (SndL.c (s_iload_n (k := 1) (by decide +kernel) rfl) (SndL.c (s_invV (r := (RX11, TX11, 14)) (ci := 12) okX11_advertOf rfl (by decide) rfl rfl w_2_187 w_2_189 v_5 (by decide +kernel)) (SndL.c (s_fail) (SndL.c (s_fail) (SndL.c (s_astore (by decide +kernel) (by decide)) (SndL.c (s_fail) (SndL.c (s_aload (by decide +kernel)) (SndL.c (s_fail) (SndL.c (s_ifnull (off := 11) (by decide +kernel) (by decide)) (SndL.c (s_fail) (SndL.c (s_fail) (SndL.c (s_iload_n (k := 2) (by decide +kernel) rfl) (SndL.c (s_if_lt (off := 7) (by decide +kernel) (by decide)) (SndL.c (s_fail) (SndL.c (s_fail) (SndL.n))))))))))))))))
def kX11_claims_1 : List En := [(0, oIload 3 17), (0, oIfGe 22 20), (1, oFail), (1, oFail), (0, oPush (vI (-1)) 21), (0, oRetI), (0, oRload 0 23), (0, oRload 4 25), (1, oFail), (0, oIload 2 26), (0, oIload 3 27), (2, oInvV 13 mX11_read 3 30), (1, oFail), (1, oFail), (0, oRload 0 31), (0, oGetf 13 7 2 34)]
set_option maxRecDepth 20000 in
theorem zX11_claims_1 : SndL mX11_claims 16 kX11_claims_1 := SndL.c (s_iload_n (k := 3) (by decide +kernel) rfl) (SndL.c (s_if_ge (off := 5) (by decide +kernel) (by decide)) (SndL.c (s_fail) (SndL.c (s_fail) (SndL.c (s_iconst (by decide +kernel) (in32_d (by decide))) (SndL.c (s_ret_i rfl (by decide +kernel)) (SndL.c (s_aload_n (k := 0) (by decide +kernel) rfl) (SndL.c (s_aload (by decide +kernel)) (SndL.c (s_fail) (SndL.c (s_iload_n (k := 2) (by decide +kernel) rfl) (SndL.c (s_iload_n (k := 3) (by decide +kernel) rfl) (SndL.c (s_invV (r := (RX11, TX11, 14)) (ci := 12) okX11_read rfl (by decide) rfl rfl w_3_49 w_3_51 v_7 (by decide +kernel)) (SndL.c (s_fail) (SndL.c (s_fail) (SndL.c (s_aload_n (k := 0) (by decide +kernel) rfl) (SndL.c (s_getf (k := 7) clok12 (by decide) rfl (by decide) rfl w_1_199 (Or.inl rfl) (by decide +kernel)) (SndL.n))))))))))))))))
def kX11_claims_2 : List En := [(1, oFail), (1, oFail), (0, oGetf 7 2 0 37), (1, oFail), (1, oFail), (0, oRetI)]
set_option maxRecDepth 20000 in
theorem zX11_claims_2 : SndL mX11_claims 32 kX11_claims_2 := SndL.c (s_fail) (SndL.c (s_fail) (SndL.c (s_getf (k := 2) clok6 (by decide) rfl (by decide) rfl w_1_144 (Or.inl rfl) (by decide +kernel)) (SndL.c (s_fail) (SndL.c (s_fail) (SndL.c (s_ret_i rfl (by decide +kernel)) (SndL.n))))))
def kX11_claims : Cd := [kX11_claims_0, kX11_claims_1, kX11_claims_2]
theorem zX11_claims : SndC mX11_claims 0 kX11_claims := SndC.c zX11_claims_0 (by decide) (SndC.c zX11_claims_1 (by decide) (SndC.c zX11_claims_2 (by decide) (SndC.n)))
theorem aX11_claims_0 : at_ kX11_claims 0 = (0, oRload 0 1) := rfl
theorem aX11_claims_1 : at_ kX11_claims 1 = (0, oIload 1 2) := rfl
theorem aX11_claims_2 : at_ kX11_claims 2 = (2, oInvV 13 mX11_advertOf 1 5) := rfl
theorem aX11_claims_5 : at_ kX11_claims 5 = (0, oRstore 4 7) := rfl
theorem aX11_claims_7 : at_ kX11_claims 7 = (0, oRload 4 9) := rfl
theorem aX11_claims_9 : at_ kX11_claims 9 = (0, oIfnull 20 12) := rfl
theorem aX11_claims_12 : at_ kX11_claims 12 = (0, oIload 2 13) := rfl
theorem aX11_claims_13 : at_ kX11_claims 13 = (0, oIfLt 20 16) := rfl
theorem aX11_claims_16 : at_ kX11_claims 16 = (0, oIload 3 17) := rfl
theorem aX11_claims_17 : at_ kX11_claims 17 = (0, oIfGe 22 20) := rfl
theorem aX11_claims_20 : at_ kX11_claims 20 = (0, oPush (vI (-1)) 21) := rfl
theorem aX11_claims_21 : at_ kX11_claims 21 = (0, oRetI) := rfl
theorem aX11_claims_22 : at_ kX11_claims 22 = (0, oRload 0 23) := rfl
theorem aX11_claims_23 : at_ kX11_claims 23 = (0, oRload 4 25) := rfl
theorem aX11_claims_25 : at_ kX11_claims 25 = (0, oIload 2 26) := rfl
theorem aX11_claims_26 : at_ kX11_claims 26 = (0, oIload 3 27) := rfl
theorem aX11_claims_27 : at_ kX11_claims 27 = (2, oInvV 13 mX11_read 3 30) := rfl
theorem aX11_claims_30 : at_ kX11_claims 30 = (0, oRload 0 31) := rfl
theorem aX11_claims_31 : at_ kX11_claims 31 = (0, oGetf 13 7 2 34) := rfl
theorem aX11_claims_34 : at_ kX11_claims 34 = (0, oGetf 7 2 0 37) := rfl
theorem aX11_claims_37 : at_ kX11_claims 37 = (0, oRetI) := rfl
def kX11_claim_0 : List En := [(0, oRload 0 1), (0, oIload 1 2), (2, oInvV 13 mX11_advertOf 1 5), (1, oFail), (1, oFail), (0, oRstore 4 7), (1, oFail), (0, oRload 0 8), (0, oRload 4 10), (1, oFail), (0, oIload 2 11), (2, oInvV 13 mX11_claimNow 2 14), (1, oFail), (1, oFail), (0, oRstore 5 16), (1, oFail)]
set_option maxRecDepth 20000 in
theorem zX11_claim_0 : SndL mX11_claim 0 kX11_claim_0 := SndL.c (s_aload_n (k := 0) (by decide +kernel) rfl) (SndL.c (s_iload_n (k := 1) (by decide +kernel) rfl) (SndL.c (s_invV (r := (RX11, TX11, 14)) (ci := 12) okX11_advertOf rfl (by decide) rfl rfl w_2_187 w_2_189 v_5 (by decide +kernel)) (SndL.c (s_fail) (SndL.c (s_fail) (SndL.c (s_astore (by decide +kernel) (by decide)) (SndL.c (s_fail) (SndL.c (s_aload_n (k := 0) (by decide +kernel) rfl) (SndL.c (s_aload (by decide +kernel)) (SndL.c (s_fail) (SndL.c (s_iload_n (k := 2) (by decide +kernel) rfl) (SndL.c (s_invV (r := (RX11, TX11, 14)) (ci := 12) okX11_claimNow rfl (by decide) rfl rfl w_3_75 w_3_77 v_9 (by decide +kernel)) (SndL.c (s_fail) (SndL.c (s_fail) (SndL.c (s_astore (by decide +kernel) (by decide)) (SndL.c (s_fail) (SndL.n))))))))))))))))
def kX11_claim_1 : List En := [(0, oRload 4 18), (1, oFail), (0, oIfnull 26 21), (1, oFail), (1, oFail), (0, oRload 5 23), (1, oFail), (0, oIfnonnull 28 26), (1, oFail), (1, oFail), (0, oPush (vI (-1)) 27), (0, oRetI), (0, oIload 3 29), (0, oSwitch 0 7 [76, 82, 88, 94, 103, 109, 129, 151] 177), (1, oFail), (1, oFail)]
set_option maxRecDepth 20000 in
theorem zX11_claim_1 : SndL mX11_claim 16 kX11_claim_1 := SndL.c (s_aload (by decide +kernel)) (SndL.c (s_fail) (SndL.c (s_ifnull (off := 8) (by decide +kernel) (by decide)) (SndL.c (s_fail) (SndL.c (s_fail) (SndL.c (s_aload (by decide +kernel)) (SndL.c (s_fail) (SndL.c (s_ifnonnull (off := 5) (by decide +kernel) (by decide)) (SndL.c (s_fail) (SndL.c (s_fail) (SndL.c (s_iconst (by decide +kernel) (in32_d (by decide))) (SndL.c (s_ret_i rfl (by decide +kernel)) (SndL.c (s_iload_n (k := 3) (by decide +kernel) rfl) (SndL.c (s_switch2 (dflt := 148) (lo := 0) (hi := 7) (len := 47) (offs := #[47, 53, 59, 65, 74, 80, 100, 122]) (by decide +kernel) (by decide) (by decide +kernel) (by decide +kernel)) (SndL.c (s_fail) (SndL.c (s_fail) (SndL.n))))))))))))))))
def kX11_claim_2 : List En := [(1, oFail), (1, oFail), (1, oFail), (1, oFail), (1, oFail), (1, oFail), (1, oFail), (1, oFail), (1, oFail), (1, oFail), (1, oFail), (1, oFail), (1, oFail), (1, oFail), (1, oFail), (1, oFail)]
set_option maxRecDepth 20000 in
theorem zX11_claim_2 : SndL mX11_claim 32 kX11_claim_2 := SndL.c (s_fail) (SndL.c (s_fail) (SndL.c (s_fail) (SndL.c (s_fail) (SndL.c (s_fail) (SndL.c (s_fail) (SndL.c (s_fail) (SndL.c (s_fail) (SndL.c (s_fail) (SndL.c (s_fail) (SndL.c (s_fail) (SndL.c (s_fail) (SndL.c (s_fail) (SndL.c (s_fail) (SndL.c (s_fail) (SndL.c (s_fail) (SndL.n))))))))))))))))
def kX11_claim_3 : List En := [(1, oFail), (1, oFail), (1, oFail), (1, oFail), (1, oFail), (1, oFail), (1, oFail), (1, oFail), (1, oFail), (1, oFail), (1, oFail), (1, oFail), (1, oFail), (1, oFail), (1, oFail), (1, oFail)]
set_option maxRecDepth 20000 in
theorem zX11_claim_3 : SndL mX11_claim 48 kX11_claim_3 := SndL.c (s_fail) (SndL.c (s_fail) (SndL.c (s_fail) (SndL.c (s_fail) (SndL.c (s_fail) (SndL.c (s_fail) (SndL.c (s_fail) (SndL.c (s_fail) (SndL.c (s_fail) (SndL.c (s_fail) (SndL.c (s_fail) (SndL.c (s_fail) (SndL.c (s_fail) (SndL.c (s_fail) (SndL.c (s_fail) (SndL.c (s_fail) (SndL.n))))))))))))))))
def kX11_claim_4 : List En := [(1, oFail), (1, oFail), (1, oFail), (1, oFail), (1, oFail), (1, oFail), (1, oFail), (1, oFail), (1, oFail), (1, oFail), (1, oFail), (1, oFail), (0, oRload 5 78), (1, oFail), (0, oGetf 4 2 0 81), (1, oFail)]
set_option maxRecDepth 20000 in
theorem zX11_claim_4 : SndL mX11_claim 64 kX11_claim_4 := SndL.c (s_fail) (SndL.c (s_fail) (SndL.c (s_fail) (SndL.c (s_fail) (SndL.c (s_fail) (SndL.c (s_fail) (SndL.c (s_fail) (SndL.c (s_fail) (SndL.c (s_fail) (SndL.c (s_fail) (SndL.c (s_fail) (SndL.c (s_fail) (SndL.c (s_aload (by decide +kernel)) (SndL.c (s_fail) (SndL.c (s_getf (k := 2) clok3 (by decide) rfl (by decide) rfl w_3_11 (Or.inl rfl) (by decide +kernel)) (SndL.c (s_fail) (SndL.n))))))))))))))))
def kX11_claim_5 : List En := [(1, oFail), (0, oRetI), (0, oRload 5 84), (1, oFail), (0, oGetf 4 3 0 87), (1, oFail), (1, oFail), (0, oRetI), (0, oRload 5 90), (1, oFail), (0, oGetf 4 4 0 93), (1, oFail), (1, oFail), (0, oRetI), (0, oRload 0 95), (0, oGetf 13 7 2 98)]
set_option maxRecDepth 20000 in
theorem zX11_claim_5 : SndL mX11_claim 80 kX11_claim_5 := SndL.c (s_fail) (SndL.c (s_ret_i rfl (by decide +kernel)) (SndL.c (s_aload (by decide +kernel)) (SndL.c (s_fail) (SndL.c (s_getf (k := 3) clok3 (by decide) rfl (by decide) rfl w_3_16 (Or.inl rfl) (by decide +kernel)) (SndL.c (s_fail) (SndL.c (s_fail) (SndL.c (s_ret_i rfl (by decide +kernel)) (SndL.c (s_aload (by decide +kernel)) (SndL.c (s_fail) (SndL.c (s_getf (k := 4) clok3 (by decide) rfl (by decide) rfl w_3_21 (Or.inl rfl) (by decide +kernel)) (SndL.c (s_fail) (SndL.c (s_fail) (SndL.c (s_ret_i rfl (by decide +kernel)) (SndL.c (s_aload_n (k := 0) (by decide +kernel) rfl) (SndL.c (s_getf (k := 7) clok12 (by decide) rfl (by decide) rfl w_1_199 (Or.inl rfl) (by decide +kernel)) (SndL.n))))))))))))))))
def kX11_claim_6 : List En := [(1, oFail), (1, oFail), (0, oIload 2 99), (2, oInvV 7 mX5_placeOf 1 102), (1, oFail), (1, oFail), (0, oRetI), (0, oRload 5 105), (1, oFail), (0, oGetf 4 0 0 108), (1, oFail), (1, oFail), (0, oRetI), (0, oRload 0 110), (0, oRload 4 112), (1, oFail)]
set_option maxRecDepth 20000 in
theorem zX11_claim_6 : SndL mX11_claim 96 kX11_claim_6 := SndL.c (s_fail) (SndL.c (s_fail) (SndL.c (s_iload_n (k := 2) (by decide +kernel) rfl) (SndL.c (s_invV (r := (RX5, TX5, 3)) (ci := 6) okX5_placeOf rfl (by decide) rfl rfl w_3_87 w_3_88 w_3_89 (by decide +kernel)) (SndL.c (s_fail) (SndL.c (s_fail) (SndL.c (s_ret_i rfl (by decide +kernel)) (SndL.c (s_aload (by decide +kernel)) (SndL.c (s_fail) (SndL.c (s_getf (k := 0) clok3 (by decide) rfl (by decide) rfl w_3_5 (Or.inl rfl) (by decide +kernel)) (SndL.c (s_fail) (SndL.c (s_fail) (SndL.c (s_ret_i rfl (by decide +kernel)) (SndL.c (s_aload_n (k := 0) (by decide +kernel) rfl) (SndL.c (s_aload (by decide +kernel)) (SndL.c (s_fail) (SndL.n))))))))))))))))
def kX11_claim_7 : List En := [(0, oRload 5 114), (1, oFail), (0, oRload 0 115), (0, oGetf 13 11 0 118), (1, oFail), (1, oFail), (0, oRload 0 119), (0, oGetf 13 11 0 122), (1, oFail), (1, oFail), (2, oInvV 13 mX11_isTakenBack 4 125), (1, oFail), (1, oFail), (2, oInvS mX11_bit 1 128), (1, oFail), (1, oFail)]
set_option maxRecDepth 20000 in
theorem zX11_claim_7 : SndL mX11_claim 112 kX11_claim_7 := SndL.c (s_aload (by decide +kernel)) (SndL.c (s_fail) (SndL.c (s_aload_n (k := 0) (by decide +kernel) rfl) (SndL.c (s_getf (k := 11) clok12 (by decide) rfl (by decide) rfl w_1_203 (Or.inl rfl) (by decide +kernel)) (SndL.c (s_fail) (SndL.c (s_fail) (SndL.c (s_aload_n (k := 0) (by decide +kernel) rfl) (SndL.c (s_getf (k := 11) clok12 (by decide) rfl (by decide) rfl w_1_203 (Or.inl rfl) (by decide +kernel)) (SndL.c (s_fail) (SndL.c (s_fail) (SndL.c (s_invV (r := (RX11, TX11, 14)) (ci := 12) okX11_isTakenBack rfl (by decide) rfl rfl w_3_91 w_3_93 v_11 (by decide +kernel)) (SndL.c (s_fail) (SndL.c (s_fail) (SndL.c (s_invS okX11_bit w_3_100 w_3_101 (by decide +kernel)) (SndL.c (s_fail) (SndL.c (s_fail) (SndL.n))))))))))))))))
def kX11_claim_8 : List En := [(0, oRetI), (0, oRload 0 130), (0, oGetf 13 4 2 133), (1, oFail), (1, oFail), (0, oRload 4 135), (1, oFail), (0, oGetf 2 0 0 138), (1, oFail), (1, oFail), (0, oRload 5 140), (1, oFail), (0, oRload 0 141), (0, oGetf 13 11 0 144), (1, oFail), (1, oFail)]
set_option maxRecDepth 20000 in
theorem zX11_claim_8 : SndL mX11_claim 128 kX11_claim_8 := SndL.c (s_ret_i rfl (by decide +kernel)) (SndL.c (s_aload_n (k := 0) (by decide +kernel) rfl) (SndL.c (s_getf (k := 4) clok12 (by decide) rfl (by decide) rfl w_1_196 (Or.inl rfl) (by decide +kernel)) (SndL.c (s_fail) (SndL.c (s_fail) (SndL.c (s_aload (by decide +kernel)) (SndL.c (s_fail) (SndL.c (s_getf (k := 0) clok1 (by decide) rfl (by decide) rfl w_2_83 (Or.inl rfl) (by decide +kernel)) (SndL.c (s_fail) (SndL.c (s_fail) (SndL.c (s_aload (by decide +kernel)) (SndL.c (s_fail) (SndL.c (s_aload_n (k := 0) (by decide +kernel) rfl) (SndL.c (s_getf (k := 11) clok12 (by decide) rfl (by decide) rfl w_1_203 (Or.inl rfl) (by decide +kernel)) (SndL.c (s_fail) (SndL.c (s_fail) (SndL.n))))))))))))))))
def kX11_claim_9 : List En := [(2, oInvV 6 mX4_bearOut 3 147), (1, oFail), (1, oFail), (2, oInvS mX11_bit 1 150), (1, oFail), (1, oFail), (0, oRetI), (0, oRload 0 152), (0, oGetf 13 5 2 155), (1, oFail), (1, oFail), (0, oRload 4 157), (1, oFail), (0, oGetf 2 0 0 160), (1, oFail), (1, oFail)]
set_option maxRecDepth 20000 in
theorem zX11_claim_9 : SndL mX11_claim 144 kX11_claim_9 := SndL.c (s_invV (r := (RX4, TX4, 3)) (ci := 5) okX4_bearOut rfl (by decide) rfl rfl w_3_103 w_3_104 w_3_105 (by decide +kernel)) (SndL.c (s_fail) (SndL.c (s_fail) (SndL.c (s_invS okX11_bit w_3_100 w_3_101 (by decide +kernel)) (SndL.c (s_fail) (SndL.c (s_fail) (SndL.c (s_ret_i rfl (by decide +kernel)) (SndL.c (s_aload_n (k := 0) (by decide +kernel) rfl) (SndL.c (s_getf (k := 5) clok12 (by decide) rfl (by decide) rfl w_1_197 (Or.inl rfl) (by decide +kernel)) (SndL.c (s_fail) (SndL.c (s_fail) (SndL.c (s_aload (by decide +kernel)) (SndL.c (s_fail) (SndL.c (s_getf (k := 0) clok1 (by decide) rfl (by decide) rfl w_2_83 (Or.inl rfl) (by decide +kernel)) (SndL.c (s_fail) (SndL.c (s_fail) (SndL.n))))))))))))))))
def kX11_claim_10 : List En := [(0, oRload 5 162), (1, oFail), (0, oRload 0 163), (0, oGetf 13 11 0 166), (1, oFail), (1, oFail), (0, oRload 0 167), (0, oGetf 13 11 0 170), (1, oFail), (1, oFail), (2, oInvV 3 mX1_isSaidAgain 4 173), (1, oFail), (1, oFail), (2, oInvS mX11_bit 1 176), (1, oFail), (1, oFail)]
set_option maxRecDepth 20000 in
theorem zX11_claim_10 : SndL mX11_claim 160 kX11_claim_10 := SndL.c (s_aload (by decide +kernel)) (SndL.c (s_fail) (SndL.c (s_aload_n (k := 0) (by decide +kernel) rfl) (SndL.c (s_getf (k := 11) clok12 (by decide) rfl (by decide) rfl w_1_203 (Or.inl rfl) (by decide +kernel)) (SndL.c (s_fail) (SndL.c (s_fail) (SndL.c (s_aload_n (k := 0) (by decide +kernel) rfl) (SndL.c (s_getf (k := 11) clok12 (by decide) rfl (by decide) rfl w_1_203 (Or.inl rfl) (by decide +kernel)) (SndL.c (s_fail) (SndL.c (s_fail) (SndL.c (s_invV (r := (RX1, TX1, 3)) (ci := 2) okX1_isSaidAgain rfl (by decide) rfl rfl w_3_134 w_3_135 w_3_136 (by decide +kernel)) (SndL.c (s_fail) (SndL.c (s_fail) (SndL.c (s_invS okX11_bit w_3_100 w_3_101 (by decide +kernel)) (SndL.c (s_fail) (SndL.c (s_fail) (SndL.n))))))))))))))))
def kX11_claim_11 : List En := [(0, oRetI), (0, oPush (vI (-1)) 178), (0, oRetI)]
set_option maxRecDepth 20000 in
theorem zX11_claim_11 : SndL mX11_claim 176 kX11_claim_11 := SndL.c (s_ret_i rfl (by decide +kernel)) (SndL.c (s_iconst (by decide +kernel) (in32_d (by decide))) (SndL.c (s_ret_i rfl (by decide +kernel)) (SndL.n)))
def kX11_claim : Cd := [kX11_claim_0, kX11_claim_1, kX11_claim_2, kX11_claim_3, kX11_claim_4, kX11_claim_5, kX11_claim_6, kX11_claim_7, kX11_claim_8, kX11_claim_9, kX11_claim_10, kX11_claim_11]
theorem zX11_claim : SndC mX11_claim 0 kX11_claim := SndC.c zX11_claim_0 (by decide) (SndC.c zX11_claim_1 (by decide) (SndC.c zX11_claim_2 (by decide) (SndC.c zX11_claim_3 (by decide) (SndC.c zX11_claim_4 (by decide) (SndC.c zX11_claim_5 (by decide) (SndC.c zX11_claim_6 (by decide) (SndC.c zX11_claim_7 (by decide) (SndC.c zX11_claim_8 (by decide) (SndC.c zX11_claim_9 (by decide) (SndC.c zX11_claim_10 (by decide) (SndC.c zX11_claim_11 (by decide) (SndC.n))))))))))))
theorem aX11_claim_0 : at_ kX11_claim 0 = (0, oRload 0 1) := rfl
theorem aX11_claim_1 : at_ kX11_claim 1 = (0, oIload 1 2) := rfl
theorem aX11_claim_2 : at_ kX11_claim 2 = (2, oInvV 13 mX11_advertOf 1 5) := rfl
theorem aX11_claim_5 : at_ kX11_claim 5 = (0, oRstore 4 7) := rfl
theorem aX11_claim_7 : at_ kX11_claim 7 = (0, oRload 0 8) := rfl
theorem aX11_claim_8 : at_ kX11_claim 8 = (0, oRload 4 10) := rfl
theorem aX11_claim_10 : at_ kX11_claim 10 = (0, oIload 2 11) := rfl
theorem aX11_claim_11 : at_ kX11_claim 11 = (2, oInvV 13 mX11_claimNow 2 14) := rfl
theorem aX11_claim_14 : at_ kX11_claim 14 = (0, oRstore 5 16) := rfl
theorem aX11_claim_16 : at_ kX11_claim 16 = (0, oRload 4 18) := rfl
theorem aX11_claim_18 : at_ kX11_claim 18 = (0, oIfnull 26 21) := rfl
theorem aX11_claim_21 : at_ kX11_claim 21 = (0, oRload 5 23) := rfl
theorem aX11_claim_23 : at_ kX11_claim 23 = (0, oIfnonnull 28 26) := rfl
theorem aX11_claim_26 : at_ kX11_claim 26 = (0, oPush (vI (-1)) 27) := rfl
theorem aX11_claim_27 : at_ kX11_claim 27 = (0, oRetI) := rfl
theorem aX11_claim_28 : at_ kX11_claim 28 = (0, oIload 3 29) := rfl
theorem aX11_claim_29 : at_ kX11_claim 29 = (0, oSwitch 0 7 [76, 82, 88, 94, 103, 109, 129, 151] 177) := rfl
theorem aX11_claim_76 : at_ kX11_claim 76 = (0, oRload 5 78) := rfl
theorem aX11_claim_78 : at_ kX11_claim 78 = (0, oGetf 4 2 0 81) := rfl
theorem aX11_claim_81 : at_ kX11_claim 81 = (0, oRetI) := rfl
theorem aX11_claim_82 : at_ kX11_claim 82 = (0, oRload 5 84) := rfl
theorem aX11_claim_84 : at_ kX11_claim 84 = (0, oGetf 4 3 0 87) := rfl
theorem aX11_claim_87 : at_ kX11_claim 87 = (0, oRetI) := rfl
theorem aX11_claim_88 : at_ kX11_claim 88 = (0, oRload 5 90) := rfl
theorem aX11_claim_90 : at_ kX11_claim 90 = (0, oGetf 4 4 0 93) := rfl
theorem aX11_claim_93 : at_ kX11_claim 93 = (0, oRetI) := rfl
theorem aX11_claim_94 : at_ kX11_claim 94 = (0, oRload 0 95) := rfl
theorem aX11_claim_95 : at_ kX11_claim 95 = (0, oGetf 13 7 2 98) := rfl
theorem aX11_claim_98 : at_ kX11_claim 98 = (0, oIload 2 99) := rfl
theorem aX11_claim_99 : at_ kX11_claim 99 = (2, oInvV 7 mX5_placeOf 1 102) := rfl
theorem aX11_claim_102 : at_ kX11_claim 102 = (0, oRetI) := rfl
theorem aX11_claim_103 : at_ kX11_claim 103 = (0, oRload 5 105) := rfl
theorem aX11_claim_105 : at_ kX11_claim 105 = (0, oGetf 4 0 0 108) := rfl
theorem aX11_claim_108 : at_ kX11_claim 108 = (0, oRetI) := rfl
theorem aX11_claim_109 : at_ kX11_claim 109 = (0, oRload 0 110) := rfl
theorem aX11_claim_110 : at_ kX11_claim 110 = (0, oRload 4 112) := rfl
theorem aX11_claim_112 : at_ kX11_claim 112 = (0, oRload 5 114) := rfl
theorem aX11_claim_114 : at_ kX11_claim 114 = (0, oRload 0 115) := rfl
theorem aX11_claim_115 : at_ kX11_claim 115 = (0, oGetf 13 11 0 118) := rfl
theorem aX11_claim_118 : at_ kX11_claim 118 = (0, oRload 0 119) := rfl
theorem aX11_claim_119 : at_ kX11_claim 119 = (0, oGetf 13 11 0 122) := rfl
theorem aX11_claim_122 : at_ kX11_claim 122 = (2, oInvV 13 mX11_isTakenBack 4 125) := rfl
theorem aX11_claim_125 : at_ kX11_claim 125 = (2, oInvS mX11_bit 1 128) := rfl
theorem aX11_claim_128 : at_ kX11_claim 128 = (0, oRetI) := rfl
theorem aX11_claim_129 : at_ kX11_claim 129 = (0, oRload 0 130) := rfl
theorem aX11_claim_130 : at_ kX11_claim 130 = (0, oGetf 13 4 2 133) := rfl
theorem aX11_claim_133 : at_ kX11_claim 133 = (0, oRload 4 135) := rfl
theorem aX11_claim_135 : at_ kX11_claim 135 = (0, oGetf 2 0 0 138) := rfl
theorem aX11_claim_138 : at_ kX11_claim 138 = (0, oRload 5 140) := rfl
theorem aX11_claim_140 : at_ kX11_claim 140 = (0, oRload 0 141) := rfl
theorem aX11_claim_141 : at_ kX11_claim 141 = (0, oGetf 13 11 0 144) := rfl
theorem aX11_claim_144 : at_ kX11_claim 144 = (2, oInvV 6 mX4_bearOut 3 147) := rfl
theorem aX11_claim_147 : at_ kX11_claim 147 = (2, oInvS mX11_bit 1 150) := rfl
theorem aX11_claim_150 : at_ kX11_claim 150 = (0, oRetI) := rfl
theorem aX11_claim_151 : at_ kX11_claim 151 = (0, oRload 0 152) := rfl
theorem aX11_claim_152 : at_ kX11_claim 152 = (0, oGetf 13 5 2 155) := rfl
theorem aX11_claim_155 : at_ kX11_claim 155 = (0, oRload 4 157) := rfl
theorem aX11_claim_157 : at_ kX11_claim 157 = (0, oGetf 2 0 0 160) := rfl
theorem aX11_claim_160 : at_ kX11_claim 160 = (0, oRload 5 162) := rfl
theorem aX11_claim_162 : at_ kX11_claim 162 = (0, oRload 0 163) := rfl
theorem aX11_claim_163 : at_ kX11_claim 163 = (0, oGetf 13 11 0 166) := rfl
theorem aX11_claim_166 : at_ kX11_claim 166 = (0, oRload 0 167) := rfl
theorem aX11_claim_167 : at_ kX11_claim 167 = (0, oGetf 13 11 0 170) := rfl
theorem aX11_claim_170 : at_ kX11_claim 170 = (2, oInvV 3 mX1_isSaidAgain 4 173) := rfl
theorem aX11_claim_173 : at_ kX11_claim 173 = (2, oInvS mX11_bit 1 176) := rfl
theorem aX11_claim_176 : at_ kX11_claim 176 = (0, oRetI) := rfl
theorem aX11_claim_177 : at_ kX11_claim 177 = (0, oPush (vI (-1)) 178) := rfl
theorem aX11_claim_178 : at_ kX11_claim 178 = (0, oRetI) := rfl
def kX11_keep_0 : List En := [(0, oIload 1 1), (2, oInvS mX11_isShelf 1 4), (1, oFail), (1, oFail), (0, oIfNe 13 7), (1, oFail), (1, oFail), (0, oRload 0 8), (0, oPush (vI (-1)) 9), (2, oInvV 13 mX11_refused 1 12), (1, oFail), (1, oFail), (0, oRetI), (0, oIload 2 14), (0, oPush (vI (-1)) 15), (0, oIcNe 29 18)]
set_option maxRecDepth 20000 in
theorem zX11_keep_0 : SndL mX11_keep 0 kX11_keep_0 := SndL.c (s_iload_n (k := 1) (by decide +kernel) rfl) (SndL.c (s_invS okX11_isShelf w_2_7 w_2_8 (by decide +kernel)) (SndL.c (s_fail) (SndL.c (s_fail) (SndL.c (s_if_ne (off := 9) (by decide +kernel) (by decide)) (SndL.c (s_fail) (SndL.c (s_fail) (SndL.c (s_aload_n (k := 0) (by decide +kernel) rfl) (SndL.c (s_iconst (by decide +kernel) (in32_d (by decide))) (SndL.c (s_invV (r := (RX11, TX11, 14)) (ci := 12) okX11_refused rfl (by decide) rfl rfl w_1_239 w_2_1 v_0 (by decide +kernel)) (SndL.c (s_fail) (SndL.c (s_fail) (SndL.c (s_ret_i rfl (by decide +kernel)) (SndL.c (s_iload_n (k := 2) (by decide +kernel) rfl) (SndL.c (s_iconst (by decide +kernel) (in32_d (by decide))) (SndL.c (s_ic_ne (off := 14) (by decide +kernel) (by decide)) (SndL.n))))))))))))))))
def kX11_keep_1 : List En := [(1, oFail), (1, oFail), (0, oRload 0 19), (0, oGetf 13 0 2 22), (1, oFail), (1, oFail), (0, oIload 1 23), (0, oAald 111 24), (2, oInvV 11 mX9_takeNothing 0 27), (1, oFail), (1, oFail), (0, oPush (vI (-1)) 28), (0, oRetI), (0, oRload 0 30), (0, oRload 0 31), (0, oIload 2 32)]
set_option maxRecDepth 20000 in
theorem zX11_keep_1 : SndL mX11_keep 16 kX11_keep_1 := SndL.c (s_fail) (SndL.c (s_fail) (SndL.c (s_aload_n (k := 0) (by decide +kernel) rfl) (SndL.c (s_getf (k := 0) clok12 (by decide) rfl (by decide) rfl w_1_192 (Or.inl rfl) (by decide +kernel)) (SndL.c (s_fail) (SndL.c (s_fail) (SndL.c (s_iload_n (k := 1) (by decide +kernel) rfl) (SndL.c (s_aald (kd := 111) (akd_d (by decide)) rfl rfl (by decide +kernel)) (SndL.c (s_invV (r := (RX9, TX9, 5)) (ci := 10) okX9_takeNothing rfl (by decide) rfl rfl w_3_149 w_3_150 w_3_151 (by decide +kernel)) (SndL.c (s_fail) (SndL.c (s_fail) (SndL.c (s_iconst (by decide +kernel) (in32_d (by decide))) (SndL.c (s_ret_i rfl (by decide +kernel)) (SndL.c (s_aload_n (k := 0) (by decide +kernel) rfl) (SndL.c (s_aload_n (k := 0) (by decide +kernel) rfl) (SndL.c (s_iload_n (k := 2) (by decide +kernel) rfl) (SndL.n))))))))))))))))
def kX11_keep_2 : List En := [(2, oInvV 13 mX11_advertOf 1 35), (1, oFail), (1, oFail), (0, oIload 3 36), (2, oInvV 13 mX11_claimNow 2 39), (1, oFail), (1, oFail), (0, oRstore 4 41), (1, oFail), (0, oRload 4 43), (1, oFail), (0, oIfnonnull 52 46), (1, oFail), (1, oFail), (0, oRload 0 47), (0, oPush (vI (-1)) 48)]
set_option maxRecDepth 20000 in
theorem zX11_keep_2 : SndL mX11_keep 32 kX11_keep_2 := SndL.c (s_invV (r := (RX11, TX11, 14)) (ci := 12) okX11_advertOf rfl (by decide) rfl rfl w_2_187 w_2_189 v_5 (by decide +kernel)) (SndL.c (s_fail) (SndL.c (s_fail) (SndL.c (s_iload_n (k := 3) (by decide +kernel) rfl) (SndL.c (s_invV (r := (RX11, TX11, 14)) (ci := 12) okX11_claimNow rfl (by decide) rfl rfl w_3_75 w_3_77 v_9 (by decide +kernel)) (SndL.c (s_fail) (SndL.c (s_fail) (SndL.c (s_astore (by decide +kernel) (by decide)) (SndL.c (s_fail) (SndL.c (s_aload (by decide +kernel)) (SndL.c (s_fail) (SndL.c (s_ifnonnull (off := 9) (by decide +kernel) (by decide)) (SndL.c (s_fail) (SndL.c (s_fail) (SndL.c (s_aload_n (k := 0) (by decide +kernel) rfl) (SndL.c (s_iconst (by decide +kernel) (in32_d (by decide))) (SndL.n))))))))))))))))
def kX11_keep_3 : List En := [(2, oInvV 13 mX11_refused 1 51), (1, oFail), (1, oFail), (0, oRetI), (0, oRload 0 53), (0, oGetf 13 0 2 56), (1, oFail), (1, oFail), (0, oIload 1 57), (0, oAald 111 58), (0, oRload 4 60), (1, oFail), (2, oInvV 11 mX9_takeClaim 1 63), (1, oFail), (1, oFail), (0, oRload 4 65)]
set_option maxRecDepth 20000 in
theorem zX11_keep_3 : SndL mX11_keep 48 kX11_keep_3 := SndL.c (s_invV (r := (RX11, TX11, 14)) (ci := 12) okX11_refused rfl (by decide) rfl rfl w_1_239 w_2_1 v_0 (by decide +kernel)) (SndL.c (s_fail) (SndL.c (s_fail) (SndL.c (s_ret_i rfl (by decide +kernel)) (SndL.c (s_aload_n (k := 0) (by decide +kernel) rfl) (SndL.c (s_getf (k := 0) clok12 (by decide) rfl (by decide) rfl w_1_192 (Or.inl rfl) (by decide +kernel)) (SndL.c (s_fail) (SndL.c (s_fail) (SndL.c (s_iload_n (k := 1) (by decide +kernel) rfl) (SndL.c (s_aald (kd := 111) (akd_d (by decide)) rfl rfl (by decide +kernel)) (SndL.c (s_aload (by decide +kernel)) (SndL.c (s_fail) (SndL.c (s_invV (r := (RX9, TX9, 5)) (ci := 10) okX9_takeClaim rfl (by decide) rfl rfl w_3_153 w_3_154 w_3_155 (by decide +kernel)) (SndL.c (s_fail) (SndL.c (s_fail) (SndL.c (s_aload (by decide +kernel)) (SndL.n))))))))))))))))
def kX11_keep_4 : List En := [(1, oFail), (0, oGetf 4 2 0 68), (1, oFail), (1, oFail), (0, oRetI)]
set_option maxRecDepth 20000 in
theorem zX11_keep_4 : SndL mX11_keep 64 kX11_keep_4 := SndL.c (s_fail) (SndL.c (s_getf (k := 2) clok3 (by decide) rfl (by decide) rfl w_3_11 (Or.inl rfl) (by decide +kernel)) (SndL.c (s_fail) (SndL.c (s_fail) (SndL.c (s_ret_i rfl (by decide +kernel)) (SndL.n)))))
def kX11_keep : Cd := [kX11_keep_0, kX11_keep_1, kX11_keep_2, kX11_keep_3, kX11_keep_4]
theorem zX11_keep : SndC mX11_keep 0 kX11_keep := SndC.c zX11_keep_0 (by decide) (SndC.c zX11_keep_1 (by decide) (SndC.c zX11_keep_2 (by decide) (SndC.c zX11_keep_3 (by decide) (SndC.c zX11_keep_4 (by decide) (SndC.n)))))
theorem aX11_keep_0 : at_ kX11_keep 0 = (0, oIload 1 1) := rfl
theorem aX11_keep_1 : at_ kX11_keep 1 = (2, oInvS mX11_isShelf 1 4) := rfl
theorem aX11_keep_4 : at_ kX11_keep 4 = (0, oIfNe 13 7) := rfl
theorem aX11_keep_7 : at_ kX11_keep 7 = (0, oRload 0 8) := rfl
theorem aX11_keep_8 : at_ kX11_keep 8 = (0, oPush (vI (-1)) 9) := rfl
theorem aX11_keep_9 : at_ kX11_keep 9 = (2, oInvV 13 mX11_refused 1 12) := rfl
theorem aX11_keep_12 : at_ kX11_keep 12 = (0, oRetI) := rfl
theorem aX11_keep_13 : at_ kX11_keep 13 = (0, oIload 2 14) := rfl
theorem aX11_keep_14 : at_ kX11_keep 14 = (0, oPush (vI (-1)) 15) := rfl
theorem aX11_keep_15 : at_ kX11_keep 15 = (0, oIcNe 29 18) := rfl
theorem aX11_keep_18 : at_ kX11_keep 18 = (0, oRload 0 19) := rfl
theorem aX11_keep_19 : at_ kX11_keep 19 = (0, oGetf 13 0 2 22) := rfl
theorem aX11_keep_22 : at_ kX11_keep 22 = (0, oIload 1 23) := rfl
theorem aX11_keep_23 : at_ kX11_keep 23 = (0, oAald 111 24) := rfl
theorem aX11_keep_24 : at_ kX11_keep 24 = (2, oInvV 11 mX9_takeNothing 0 27) := rfl
theorem aX11_keep_27 : at_ kX11_keep 27 = (0, oPush (vI (-1)) 28) := rfl
theorem aX11_keep_28 : at_ kX11_keep 28 = (0, oRetI) := rfl
theorem aX11_keep_29 : at_ kX11_keep 29 = (0, oRload 0 30) := rfl
theorem aX11_keep_30 : at_ kX11_keep 30 = (0, oRload 0 31) := rfl
theorem aX11_keep_31 : at_ kX11_keep 31 = (0, oIload 2 32) := rfl
theorem aX11_keep_32 : at_ kX11_keep 32 = (2, oInvV 13 mX11_advertOf 1 35) := rfl
theorem aX11_keep_35 : at_ kX11_keep 35 = (0, oIload 3 36) := rfl
theorem aX11_keep_36 : at_ kX11_keep 36 = (2, oInvV 13 mX11_claimNow 2 39) := rfl
theorem aX11_keep_39 : at_ kX11_keep 39 = (0, oRstore 4 41) := rfl
theorem aX11_keep_41 : at_ kX11_keep 41 = (0, oRload 4 43) := rfl
theorem aX11_keep_43 : at_ kX11_keep 43 = (0, oIfnonnull 52 46) := rfl
theorem aX11_keep_46 : at_ kX11_keep 46 = (0, oRload 0 47) := rfl
theorem aX11_keep_47 : at_ kX11_keep 47 = (0, oPush (vI (-1)) 48) := rfl
theorem aX11_keep_48 : at_ kX11_keep 48 = (2, oInvV 13 mX11_refused 1 51) := rfl
theorem aX11_keep_51 : at_ kX11_keep 51 = (0, oRetI) := rfl
theorem aX11_keep_52 : at_ kX11_keep 52 = (0, oRload 0 53) := rfl
theorem aX11_keep_53 : at_ kX11_keep 53 = (0, oGetf 13 0 2 56) := rfl
theorem aX11_keep_56 : at_ kX11_keep 56 = (0, oIload 1 57) := rfl
theorem aX11_keep_57 : at_ kX11_keep 57 = (0, oAald 111 58) := rfl
theorem aX11_keep_58 : at_ kX11_keep 58 = (0, oRload 4 60) := rfl
theorem aX11_keep_60 : at_ kX11_keep 60 = (2, oInvV 11 mX9_takeClaim 1 63) := rfl
theorem aX11_keep_63 : at_ kX11_keep 63 = (0, oRload 4 65) := rfl
theorem aX11_keep_65 : at_ kX11_keep 65 = (0, oGetf 4 2 0 68) := rfl
theorem aX11_keep_68 : at_ kX11_keep 68 = (0, oRetI) := rfl
def kX11_proof_0 : List En := [(0, oIload 1 1), (2, oInvS mX11_isFirm 1 4), (1, oFail), (1, oFail), (0, oIfEq 14 7), (1, oFail), (1, oFail), (0, oIload 3 8), (2, oInvS mX11_isShelf 1 11), (1, oFail), (1, oFail), (0, oIfNe 20 14), (1, oFail), (1, oFail), (0, oRload 0 15), (0, oPush (vI (-1)) 16)]
set_option maxRecDepth 20000 in
theorem zX11_proof_0 : SndL mX11_proof 0 kX11_proof_0 := SndL.c (s_iload_n (k := 1) (by decide +kernel) rfl) (SndL.c (s_invS okX11_isFirm w_2_60 w_2_61 (by decide +kernel)) (SndL.c (s_fail) (SndL.c (s_fail) (SndL.c (s_if_eq (off := 10) (by decide +kernel) (by decide)) (SndL.c (s_fail) (SndL.c (s_fail) (SndL.c (s_iload_n (k := 3) (by decide +kernel) rfl) (SndL.c (s_invS okX11_isShelf w_2_7 w_2_8 (by decide +kernel)) (SndL.c (s_fail) (SndL.c (s_fail) (SndL.c (s_if_ne (off := 9) (by decide +kernel) (by decide)) (SndL.c (s_fail) (SndL.c (s_fail) (SndL.c (s_aload_n (k := 0) (by decide +kernel) rfl) (SndL.c (s_iconst (by decide +kernel) (in32_d (by decide))) (SndL.n))))))))))))))))
def kX11_proof_1 : List En := [(2, oInvV 13 mX11_refused 1 19), (1, oFail), (1, oFail), (0, oRetI), (0, oRload 0 21), (0, oIload 3 22), (2, oInvV 13 mX11_lackOfRow 1 25), (1, oFail), (1, oFail), (0, oIstore 4 27), (1, oFail), (0, oIload 4 29), (1, oFail), (0, oIfEq 39 32), (1, oFail), (1, oFail)]
set_option maxRecDepth 20000 in
theorem zX11_proof_1 : SndL mX11_proof 16 kX11_proof_1 := SndL.c (s_invV (r := (RX11, TX11, 14)) (ci := 12) okX11_refused rfl (by decide) rfl rfl w_1_239 w_2_1 v_0 (by decide +kernel)) (SndL.c (s_fail) (SndL.c (s_fail) (SndL.c (s_ret_i rfl (by decide +kernel)) (SndL.c (s_aload_n (k := 0) (by decide +kernel) rfl) (SndL.c (s_iload_n (k := 3) (by decide +kernel) rfl) (SndL.c (s_invV (r := (RX11, TX11, 14)) (ci := 12) okX11_lackOfRow rfl (by decide) rfl rfl w_2_18 w_2_20 v_1 (by decide +kernel)) (SndL.c (s_fail) (SndL.c (s_fail) (SndL.c (s_istore (by decide +kernel) (by decide)) (SndL.c (s_fail) (SndL.c (s_iload (by decide +kernel)) (SndL.c (s_fail) (SndL.c (s_if_eq (off := 10) (by decide +kernel) (by decide)) (SndL.c (s_fail) (SndL.c (s_fail) (SndL.n))))))))))))))))
def kX11_proof_2 : List En := [(0, oRload 0 33), (0, oIload 4 35), (1, oFail), (2, oInvV 13 mX11_refused 1 38), (1, oFail), (1, oFail), (0, oRetI), (0, oIload 2 40), (2, oInvS mX11_isSubject 1 43), (1, oFail), (1, oFail), (0, oIfNe 53 46), (1, oFail), (1, oFail), (0, oRload 0 47), (0, oPush (vI (-6)) 49)]
set_option maxRecDepth 20000 in
theorem zX11_proof_2 : SndL mX11_proof 32 kX11_proof_2 := SndL.c (s_aload_n (k := 0) (by decide +kernel) rfl) (SndL.c (s_iload (by decide +kernel)) (SndL.c (s_fail) (SndL.c (s_invV (r := (RX11, TX11, 14)) (ci := 12) okX11_refused rfl (by decide) rfl rfl w_1_239 w_2_1 v_0 (by decide +kernel)) (SndL.c (s_fail) (SndL.c (s_fail) (SndL.c (s_ret_i rfl (by decide +kernel)) (SndL.c (s_iload_n (k := 2) (by decide +kernel) rfl) (SndL.c (s_invS okX11_isSubject w_3_161 w_3_162 (by decide +kernel)) (SndL.c (s_fail) (SndL.c (s_fail) (SndL.c (s_if_ne (off := 10) (by decide +kernel) (by decide)) (SndL.c (s_fail) (SndL.c (s_fail) (SndL.c (s_aload_n (k := 0) (by decide +kernel) rfl) (SndL.c (s_bipush (by decide +kernel) (in32_d (by decide)) (by decide +kernel)) (SndL.n))))))))))))))))
def kX11_proof_3 : List En := [(1, oFail), (2, oInvV 13 mX11_refused 1 52), (1, oFail), (1, oFail), (0, oRetI), (0, oRload 0 54), (0, oGetf 13 4 2 57), (1, oFail), (1, oFail), (0, oGetf 6 0 2 60), (1, oFail), (1, oFail), (2, oInvV 1 mJx4a65c_size_8abf5 0 63), (1, oFail), (1, oFail), (0, oPush (vI 40) 65)]
set_option maxRecDepth 20000 in
theorem zX11_proof_3 : SndL mX11_proof 48 kX11_proof_3 := SndL.c (s_fail) (SndL.c (s_invV (r := (RX11, TX11, 14)) (ci := 12) okX11_refused rfl (by decide) rfl rfl w_1_239 w_2_1 v_0 (by decide +kernel)) (SndL.c (s_fail) (SndL.c (s_fail) (SndL.c (s_ret_i rfl (by decide +kernel)) (SndL.c (s_aload_n (k := 0) (by decide +kernel) rfl) (SndL.c (s_getf (k := 4) clok12 (by decide) rfl (by decide) rfl w_1_196 (Or.inl rfl) (by decide +kernel)) (SndL.c (s_fail) (SndL.c (s_fail) (SndL.c (s_getf (k := 0) clok5 (by decide) rfl (by decide) rfl w_1_72 (Or.inl rfl) (by decide +kernel)) (SndL.c (s_fail) (SndL.c (s_fail) (SndL.c (s_invV (r := (RJx4a65c, TJx4a65c, 3)) (ci := 0) okJx4a65c_size_8abf5 rfl (by decide) rfl rfl w_2_63 w_2_64 w_2_65 (by decide +kernel)) (SndL.c (s_fail) (SndL.c (s_fail) (SndL.c (s_bipush (by decide +kernel) (in32_d (by decide)) (by decide +kernel)) (SndL.n))))))))))))))))
def kX11_proof_4 : List En := [(1, oFail), (0, oIcLt 75 68), (1, oFail), (1, oFail), (0, oRload 0 69), (0, oPush (vI (-7)) 71), (1, oFail), (2, oInvV 13 mX11_refused 1 74), (1, oFail), (1, oFail), (0, oRetI), (0, oRload 0 76), (0, oGetf 13 4 2 79), (1, oFail), (1, oFail), (0, oGetf 6 0 2 82)]
set_option maxRecDepth 20000 in
theorem zX11_proof_4 : SndL mX11_proof 64 kX11_proof_4 := SndL.c (s_fail) (SndL.c (s_ic_lt (off := 10) (by decide +kernel) (by decide)) (SndL.c (s_fail) (SndL.c (s_fail) (SndL.c (s_aload_n (k := 0) (by decide +kernel) rfl) (SndL.c (s_bipush (by decide +kernel) (in32_d (by decide)) (by decide +kernel)) (SndL.c (s_fail) (SndL.c (s_invV (r := (RX11, TX11, 14)) (ci := 12) okX11_refused rfl (by decide) rfl rfl w_1_239 w_2_1 v_0 (by decide +kernel)) (SndL.c (s_fail) (SndL.c (s_fail) (SndL.c (s_ret_i rfl (by decide +kernel)) (SndL.c (s_aload_n (k := 0) (by decide +kernel) rfl) (SndL.c (s_getf (k := 4) clok12 (by decide) rfl (by decide) rfl w_1_196 (Or.inl rfl) (by decide +kernel)) (SndL.c (s_fail) (SndL.c (s_fail) (SndL.c (s_getf (k := 0) clok5 (by decide) rfl (by decide) rfl w_1_72 (Or.inl rfl) (by decide +kernel)) (SndL.n))))))))))))))))
def kX11_proof_5 : List En := [(1, oFail), (1, oFail), (0, oNew 5 4 85), (1, oFail), (1, oFail), (0, oDup 86), (0, oIload 1 87), (0, oIload 2 88), (0, oRload 0 89), (0, oGetf 13 11 0 92), (1, oFail), (1, oFail), (0, oRload 0 93), (0, oGetf 13 0 2 96), (1, oFail), (1, oFail)]
set_option maxRecDepth 20000 in
theorem zX11_proof_5 : SndL mX11_proof 80 kX11_proof_5 := SndL.c (s_fail) (SndL.c (s_fail) (SndL.c (s_new clok4 (by decide) rfl rfl w_3_164 w_3_165 w_1_21 (by decide +kernel)) (SndL.c (s_fail) (SndL.c (s_fail) (SndL.c (s_dup (by decide +kernel)) (SndL.c (s_iload_n (k := 1) (by decide +kernel) rfl) (SndL.c (s_iload_n (k := 2) (by decide +kernel) rfl) (SndL.c (s_aload_n (k := 0) (by decide +kernel) rfl) (SndL.c (s_getf (k := 11) clok12 (by decide) rfl (by decide) rfl w_1_203 (Or.inl rfl) (by decide +kernel)) (SndL.c (s_fail) (SndL.c (s_fail) (SndL.c (s_aload_n (k := 0) (by decide +kernel) rfl) (SndL.c (s_getf (k := 0) clok12 (by decide) rfl (by decide) rfl w_1_192 (Or.inl rfl) (by decide +kernel)) (SndL.c (s_fail) (SndL.c (s_fail) (SndL.n))))))))))))))))
def kX11_proof_6 : List En := [(0, oIload 3 97), (0, oAald 111 98), (2, oInvV 11 mX9_given 0 101), (1, oFail), (1, oFail), (2, oInvI mX3_init 4 104), (1, oFail), (1, oFail), (2, oInvV 1 mJx4a65c_add_9ea2d 1 107), (1, oFail), (1, oFail), (0, oPop 108), (0, oRload 0 109), (0, oGetf 13 4 2 112), (1, oFail), (1, oFail)]
set_option maxRecDepth 20000 in
theorem zX11_proof_6 : SndL mX11_proof 96 kX11_proof_6 := SndL.c (s_iload_n (k := 3) (by decide +kernel) rfl) (SndL.c (s_aald (kd := 111) (akd_d (by decide)) rfl rfl (by decide +kernel)) (SndL.c (s_invV (r := (RX9, TX9, 5)) (ci := 10) okX9_given rfl (by decide) rfl rfl w_3_166 w_3_167 w_3_168 (by decide +kernel)) (SndL.c (s_fail) (SndL.c (s_fail) (SndL.c (s_invI okX3_init rfl rfl w_3_175 w_3_176 (by decide +kernel)) (SndL.c (s_fail) (SndL.c (s_fail) (SndL.c (s_invV (r := (RJx4a65c, TJx4a65c, 3)) (ci := 0) okJx4a65c_add_9ea2d rfl (by decide) rfl rfl w_2_124 w_2_125 w_2_126 (by decide +kernel)) (SndL.c (s_fail) (SndL.c (s_fail) (SndL.c (s_pop (by decide +kernel)) (SndL.c (s_aload_n (k := 0) (by decide +kernel) rfl) (SndL.c (s_getf (k := 4) clok12 (by decide) rfl (by decide) rfl w_1_196 (Or.inl rfl) (by decide +kernel)) (SndL.c (s_fail) (SndL.c (s_fail) (SndL.n))))))))))))))))
def kX11_proof_7 : List En := [(0, oGetf 6 0 2 115), (1, oFail), (1, oFail), (2, oInvV 1 mJx4a65c_size_8abf5 0 118), (1, oFail), (1, oFail), (0, oPush (vI 1) 119), (0, oIsub 120), (0, oRetI)]
set_option maxRecDepth 20000 in
theorem zX11_proof_7 : SndL mX11_proof 112 kX11_proof_7 := SndL.c (s_getf (k := 0) clok5 (by decide) rfl (by decide) rfl w_1_72 (Or.inl rfl) (by decide +kernel)) (SndL.c (s_fail) (SndL.c (s_fail) (SndL.c (s_invV (r := (RJx4a65c, TJx4a65c, 3)) (ci := 0) okJx4a65c_size_8abf5 rfl (by decide) rfl rfl w_2_63 w_2_64 w_2_65 (by decide +kernel)) (SndL.c (s_fail) (SndL.c (s_fail) (SndL.c (s_iconst (by decide +kernel) (in32_d (by decide))) (SndL.c (s_isub (by decide +kernel)) (SndL.c (s_ret_i rfl (by decide +kernel)) (SndL.n)))))))))
def kX11_proof : Cd := [kX11_proof_0, kX11_proof_1, kX11_proof_2, kX11_proof_3, kX11_proof_4, kX11_proof_5, kX11_proof_6, kX11_proof_7]
theorem zX11_proof : SndC mX11_proof 0 kX11_proof := SndC.c zX11_proof_0 (by decide) (SndC.c zX11_proof_1 (by decide) (SndC.c zX11_proof_2 (by decide) (SndC.c zX11_proof_3 (by decide) (SndC.c zX11_proof_4 (by decide) (SndC.c zX11_proof_5 (by decide) (SndC.c zX11_proof_6 (by decide) (SndC.c zX11_proof_7 (by decide) (SndC.n))))))))
theorem aX11_proof_0 : at_ kX11_proof 0 = (0, oIload 1 1) := rfl
theorem aX11_proof_1 : at_ kX11_proof 1 = (2, oInvS mX11_isFirm 1 4) := rfl
theorem aX11_proof_4 : at_ kX11_proof 4 = (0, oIfEq 14 7) := rfl
theorem aX11_proof_7 : at_ kX11_proof 7 = (0, oIload 3 8) := rfl
theorem aX11_proof_8 : at_ kX11_proof 8 = (2, oInvS mX11_isShelf 1 11) := rfl
theorem aX11_proof_11 : at_ kX11_proof 11 = (0, oIfNe 20 14) := rfl
theorem aX11_proof_14 : at_ kX11_proof 14 = (0, oRload 0 15) := rfl
theorem aX11_proof_15 : at_ kX11_proof 15 = (0, oPush (vI (-1)) 16) := rfl
theorem aX11_proof_16 : at_ kX11_proof 16 = (2, oInvV 13 mX11_refused 1 19) := rfl
theorem aX11_proof_19 : at_ kX11_proof 19 = (0, oRetI) := rfl
theorem aX11_proof_20 : at_ kX11_proof 20 = (0, oRload 0 21) := rfl
theorem aX11_proof_21 : at_ kX11_proof 21 = (0, oIload 3 22) := rfl
theorem aX11_proof_22 : at_ kX11_proof 22 = (2, oInvV 13 mX11_lackOfRow 1 25) := rfl
theorem aX11_proof_25 : at_ kX11_proof 25 = (0, oIstore 4 27) := rfl
theorem aX11_proof_27 : at_ kX11_proof 27 = (0, oIload 4 29) := rfl
theorem aX11_proof_29 : at_ kX11_proof 29 = (0, oIfEq 39 32) := rfl
theorem aX11_proof_32 : at_ kX11_proof 32 = (0, oRload 0 33) := rfl
theorem aX11_proof_33 : at_ kX11_proof 33 = (0, oIload 4 35) := rfl
theorem aX11_proof_35 : at_ kX11_proof 35 = (2, oInvV 13 mX11_refused 1 38) := rfl
theorem aX11_proof_38 : at_ kX11_proof 38 = (0, oRetI) := rfl
theorem aX11_proof_39 : at_ kX11_proof 39 = (0, oIload 2 40) := rfl
theorem aX11_proof_40 : at_ kX11_proof 40 = (2, oInvS mX11_isSubject 1 43) := rfl
theorem aX11_proof_43 : at_ kX11_proof 43 = (0, oIfNe 53 46) := rfl
theorem aX11_proof_46 : at_ kX11_proof 46 = (0, oRload 0 47) := rfl
theorem aX11_proof_47 : at_ kX11_proof 47 = (0, oPush (vI (-6)) 49) := rfl
theorem aX11_proof_49 : at_ kX11_proof 49 = (2, oInvV 13 mX11_refused 1 52) := rfl
theorem aX11_proof_52 : at_ kX11_proof 52 = (0, oRetI) := rfl
theorem aX11_proof_53 : at_ kX11_proof 53 = (0, oRload 0 54) := rfl
theorem aX11_proof_54 : at_ kX11_proof 54 = (0, oGetf 13 4 2 57) := rfl
theorem aX11_proof_57 : at_ kX11_proof 57 = (0, oGetf 6 0 2 60) := rfl
theorem aX11_proof_60 : at_ kX11_proof 60 = (2, oInvV 1 mJx4a65c_size_8abf5 0 63) := rfl
theorem aX11_proof_63 : at_ kX11_proof 63 = (0, oPush (vI 40) 65) := rfl
theorem aX11_proof_65 : at_ kX11_proof 65 = (0, oIcLt 75 68) := rfl
theorem aX11_proof_68 : at_ kX11_proof 68 = (0, oRload 0 69) := rfl
theorem aX11_proof_69 : at_ kX11_proof 69 = (0, oPush (vI (-7)) 71) := rfl
theorem aX11_proof_71 : at_ kX11_proof 71 = (2, oInvV 13 mX11_refused 1 74) := rfl
theorem aX11_proof_74 : at_ kX11_proof 74 = (0, oRetI) := rfl
theorem aX11_proof_75 : at_ kX11_proof 75 = (0, oRload 0 76) := rfl
theorem aX11_proof_76 : at_ kX11_proof 76 = (0, oGetf 13 4 2 79) := rfl
theorem aX11_proof_79 : at_ kX11_proof 79 = (0, oGetf 6 0 2 82) := rfl
theorem aX11_proof_82 : at_ kX11_proof 82 = (0, oNew 5 4 85) := rfl
theorem aX11_proof_85 : at_ kX11_proof 85 = (0, oDup 86) := rfl
theorem aX11_proof_86 : at_ kX11_proof 86 = (0, oIload 1 87) := rfl
theorem aX11_proof_87 : at_ kX11_proof 87 = (0, oIload 2 88) := rfl
theorem aX11_proof_88 : at_ kX11_proof 88 = (0, oRload 0 89) := rfl
theorem aX11_proof_89 : at_ kX11_proof 89 = (0, oGetf 13 11 0 92) := rfl
theorem aX11_proof_92 : at_ kX11_proof 92 = (0, oRload 0 93) := rfl
theorem aX11_proof_93 : at_ kX11_proof 93 = (0, oGetf 13 0 2 96) := rfl
theorem aX11_proof_96 : at_ kX11_proof 96 = (0, oIload 3 97) := rfl
theorem aX11_proof_97 : at_ kX11_proof 97 = (0, oAald 111 98) := rfl
theorem aX11_proof_98 : at_ kX11_proof 98 = (2, oInvV 11 mX9_given 0 101) := rfl
theorem aX11_proof_101 : at_ kX11_proof 101 = (2, oInvI mX3_init 4 104) := rfl
theorem aX11_proof_104 : at_ kX11_proof 104 = (2, oInvV 1 mJx4a65c_add_9ea2d 1 107) := rfl
theorem aX11_proof_107 : at_ kX11_proof 107 = (0, oPop 108) := rfl
theorem aX11_proof_108 : at_ kX11_proof 108 = (0, oRload 0 109) := rfl
theorem aX11_proof_109 : at_ kX11_proof 109 = (0, oGetf 13 4 2 112) := rfl
theorem aX11_proof_112 : at_ kX11_proof 112 = (0, oGetf 6 0 2 115) := rfl
theorem aX11_proof_115 : at_ kX11_proof 115 = (2, oInvV 1 mJx4a65c_size_8abf5 0 118) := rfl
theorem aX11_proof_118 : at_ kX11_proof 118 = (0, oPush (vI 1) 119) := rfl
theorem aX11_proof_119 : at_ kX11_proof 119 = (0, oIsub 120) := rfl
theorem aX11_proof_120 : at_ kX11_proof 120 = (0, oRetI) := rfl
def kX11_results_0 : List En := [(0, oIload 1 1), (2, oInvS mX11_isFirm 1 4), (1, oFail), (1, oFail), (0, oIfEq 25 7), (1, oFail), (1, oFail), (0, oIload 2 8), (2, oInvS mX11_isSubject 1 11), (1, oFail), (1, oFail), (0, oIfEq 25 14), (1, oFail), (1, oFail), (0, oIload 4 16), (1, oFail)]
set_option maxRecDepth 20000 in
theorem zX11_results_0 : SndL mX11_results 0 kX11_results_0 := SndL.c (s_iload_n (k := 1) (by decide +kernel) rfl) (SndL.c (s_invS okX11_isFirm w_2_60 w_2_61 (by decide +kernel)) (SndL.c (s_fail) (SndL.c (s_fail) (SndL.c (s_if_eq (off := 21) (by decide +kernel) (by decide)) (SndL.c (s_fail) (SndL.c (s_fail) (SndL.c (s_iload_n (k := 2) (by decide +kernel) rfl) (SndL.c (s_invS okX11_isSubject w_3_161 w_3_162 (by decide +kernel)) (SndL.c (s_fail) (SndL.c (s_fail) (SndL.c (s_if_eq (off := 14) (by decide +kernel) (by decide)) (SndL.c (s_fail) (SndL.c (s_fail) (SndL.c (s_iload (by decide +kernel)) (SndL.c (s_fail) (SndL.n))))))))))))))))
def kX11_results_1 : List En := [(0, oIfLt 25 19), (1, oFail), (1, oFail), (0, oIload 4 21), (1, oFail), (0, oPush (vI 1) 22), (0, oIcLe 29 25), (1, oFail), (1, oFail), (0, oPush (vL (-10000000)) 28), (1, oFail), (1, oFail), (0, oRetL), (0, oIload 4 31), (1, oFail), (0, oIfNe 48 34)]
set_option maxRecDepth 20000 in
theorem zX11_results_1 : SndL mX11_results 16 kX11_results_1 := SndL.c (s_if_lt (off := 9) (by decide +kernel) (by decide)) (SndL.c (s_fail) (SndL.c (s_fail) (SndL.c (s_iload (by decide +kernel)) (SndL.c (s_fail) (SndL.c (s_iconst (by decide +kernel) (in32_d (by decide))) (SndL.c (s_ic_le (off := 7) (by decide +kernel) (by decide)) (SndL.c (s_fail) (SndL.c (s_fail) (SndL.c (s_ldc2 (by decide +kernel) (in64_d (by decide)) w_3_197) (SndL.c (s_fail) (SndL.c (s_fail) (SndL.c (s_ret_l rfl (by decide +kernel)) (SndL.c (s_iload (by decide +kernel)) (SndL.c (s_fail) (SndL.c (s_if_ne (off := 17) (by decide +kernel) (by decide)) (SndL.n))))))))))))))))
def kX11_results_2 : List En := [(1, oFail), (1, oFail), (0, oRload 0 35), (0, oGetf 13 4 2 38), (1, oFail), (1, oFail), (0, oIload 1 39), (0, oIload 2 40), (0, oIload 3 41), (2, oInvV 6 mX4_countOf 3 44), (1, oFail), (1, oFail), (0, oI2l 45), (0, oGoto 58), (1, oFail), (1, oFail)]
set_option maxRecDepth 20000 in
theorem zX11_results_2 : SndL mX11_results 32 kX11_results_2 := SndL.c (s_fail) (SndL.c (s_fail) (SndL.c (s_aload_n (k := 0) (by decide +kernel) rfl) (SndL.c (s_getf (k := 4) clok12 (by decide) rfl (by decide) rfl w_1_196 (Or.inl rfl) (by decide +kernel)) (SndL.c (s_fail) (SndL.c (s_fail) (SndL.c (s_iload_n (k := 1) (by decide +kernel) rfl) (SndL.c (s_iload_n (k := 2) (by decide +kernel) rfl) (SndL.c (s_iload_n (k := 3) (by decide +kernel) rfl) (SndL.c (s_invV (r := (RX4, TX4, 3)) (ci := 5) okX4_countOf rfl (by decide) rfl rfl w_3_198 w_3_127 w_3_128 (by decide +kernel)) (SndL.c (s_fail) (SndL.c (s_fail) (SndL.c (s_i2l (by decide +kernel)) (SndL.c (s_goto (off := 13) (by decide +kernel) (by decide)) (SndL.c (s_fail) (SndL.c (s_fail) (SndL.n))))))))))))))))
def kX11_results_3 : List En := [(0, oRload 0 49), (0, oGetf 13 4 2 52), (1, oFail), (1, oFail), (0, oIload 1 53), (0, oIload 2 54), (0, oIload 3 55), (2, oInvV 6 mX4_sumOf 3 58), (1, oFail), (1, oFail), (0, oRetL)]
set_option maxRecDepth 20000 in
theorem zX11_results_3 : SndL mX11_results 48 kX11_results_3 := SndL.c (s_aload_n (k := 0) (by decide +kernel) rfl) (SndL.c (s_getf (k := 4) clok12 (by decide) rfl (by decide) rfl w_1_196 (Or.inl rfl) (by decide +kernel)) (SndL.c (s_fail) (SndL.c (s_fail) (SndL.c (s_iload_n (k := 1) (by decide +kernel) rfl) (SndL.c (s_iload_n (k := 2) (by decide +kernel) rfl) (SndL.c (s_iload_n (k := 3) (by decide +kernel) rfl) (SndL.c (s_invV (r := (RX4, TX4, 3)) (ci := 5) okX4_sumOf rfl (by decide) rfl rfl w_3_199 w_3_131 w_3_132 (by decide +kernel)) (SndL.c (s_fail) (SndL.c (s_fail) (SndL.c (s_ret_l rfl (by decide +kernel)) (SndL.n)))))))))))
def kX11_results : Cd := [kX11_results_0, kX11_results_1, kX11_results_2, kX11_results_3]
theorem zX11_results : SndC mX11_results 0 kX11_results := SndC.c zX11_results_0 (by decide) (SndC.c zX11_results_1 (by decide) (SndC.c zX11_results_2 (by decide) (SndC.c zX11_results_3 (by decide) (SndC.n))))
theorem aX11_results_0 : at_ kX11_results 0 = (0, oIload 1 1) := rfl
theorem aX11_results_1 : at_ kX11_results 1 = (2, oInvS mX11_isFirm 1 4) := rfl
theorem aX11_results_4 : at_ kX11_results 4 = (0, oIfEq 25 7) := rfl
theorem aX11_results_7 : at_ kX11_results 7 = (0, oIload 2 8) := rfl
theorem aX11_results_8 : at_ kX11_results 8 = (2, oInvS mX11_isSubject 1 11) := rfl
theorem aX11_results_11 : at_ kX11_results 11 = (0, oIfEq 25 14) := rfl
theorem aX11_results_14 : at_ kX11_results 14 = (0, oIload 4 16) := rfl
theorem aX11_results_16 : at_ kX11_results 16 = (0, oIfLt 25 19) := rfl
theorem aX11_results_19 : at_ kX11_results 19 = (0, oIload 4 21) := rfl
theorem aX11_results_21 : at_ kX11_results 21 = (0, oPush (vI 1) 22) := rfl
theorem aX11_results_22 : at_ kX11_results 22 = (0, oIcLe 29 25) := rfl
theorem aX11_results_25 : at_ kX11_results 25 = (0, oPush (vL (-10000000)) 28) := rfl
theorem aX11_results_28 : at_ kX11_results 28 = (0, oRetL) := rfl
theorem aX11_results_29 : at_ kX11_results 29 = (0, oIload 4 31) := rfl
theorem aX11_results_31 : at_ kX11_results 31 = (0, oIfNe 48 34) := rfl
theorem aX11_results_34 : at_ kX11_results 34 = (0, oRload 0 35) := rfl
theorem aX11_results_35 : at_ kX11_results 35 = (0, oGetf 13 4 2 38) := rfl
theorem aX11_results_38 : at_ kX11_results 38 = (0, oIload 1 39) := rfl
theorem aX11_results_39 : at_ kX11_results 39 = (0, oIload 2 40) := rfl
theorem aX11_results_40 : at_ kX11_results 40 = (0, oIload 3 41) := rfl
theorem aX11_results_41 : at_ kX11_results 41 = (2, oInvV 6 mX4_countOf 3 44) := rfl
theorem aX11_results_44 : at_ kX11_results 44 = (0, oI2l 45) := rfl
theorem aX11_results_45 : at_ kX11_results 45 = (0, oGoto 58) := rfl
theorem aX11_results_48 : at_ kX11_results 48 = (0, oRload 0 49) := rfl
theorem aX11_results_49 : at_ kX11_results 49 = (0, oGetf 13 4 2 52) := rfl
theorem aX11_results_52 : at_ kX11_results 52 = (0, oIload 1 53) := rfl
theorem aX11_results_53 : at_ kX11_results 53 = (0, oIload 2 54) := rfl
theorem aX11_results_54 : at_ kX11_results 54 = (0, oIload 3 55) := rfl
theorem aX11_results_55 : at_ kX11_results 55 = (2, oInvV 6 mX4_sumOf 3 58) := rfl
theorem aX11_results_58 : at_ kX11_results 58 = (0, oRetL) := rfl
def kX11_measure_0 : List En := [(0, oIload 1 1), (0, oIfLt 20 4), (1, oFail), (1, oFail), (0, oIload 1 5), (0, oPush (vI 1) 6), (0, oIcGt 20 9), (1, oFail), (1, oFail), (0, oIload 2 10), (0, oPush (vI 1) 11), (0, oIcLt 20 14), (1, oFail), (1, oFail), (0, oIload 2 15), (0, oPush (vI 100) 17)]
set_option maxRecDepth 20000 in
theorem zX11_measure_0 : SndL mX11_measure 0 kX11_measure_0 := SndL.c (s_iload_n (k := 1) (by decide +kernel) rfl) (SndL.c (s_if_lt (off := 19) (by decide +kernel) (by decide)) (SndL.c (s_fail) (SndL.c (s_fail) (SndL.c (s_iload_n (k := 1) (by decide +kernel) rfl) (SndL.c (s_iconst (by decide +kernel) (in32_d (by decide))) (SndL.c (s_ic_gt (off := 14) (by decide +kernel) (by decide)) (SndL.c (s_fail) (SndL.c (s_fail) (SndL.c (s_iload_n (k := 2) (by decide +kernel) rfl) (SndL.c (s_iconst (by decide +kernel) (in32_d (by decide))) (SndL.c (s_ic_lt (off := 9) (by decide +kernel) (by decide)) (SndL.c (s_fail) (SndL.c (s_fail) (SndL.c (s_iload_n (k := 2) (by decide +kernel) rfl) (SndL.c (s_bipush (by decide +kernel) (in32_d (by decide)) (by decide +kernel)) (SndL.n))))))))))))))))
def kX11_measure_1 : List En := [(1, oFail), (0, oIcLe 27 20), (1, oFail), (1, oFail), (0, oRload 0 21), (0, oPush (vI (-6)) 23), (1, oFail), (2, oInvV 13 mX11_refused 1 26), (1, oFail), (1, oFail), (0, oRetI), (0, oIload 1 28), (0, oIfNe 41 31), (1, oFail), (1, oFail), (0, oRload 0 32)]
set_option maxRecDepth 20000 in
theorem zX11_measure_1 : SndL mX11_measure 16 kX11_measure_1 := SndL.c (s_fail) (SndL.c (s_ic_le (off := 10) (by decide +kernel) (by decide)) (SndL.c (s_fail) (SndL.c (s_fail) (SndL.c (s_aload_n (k := 0) (by decide +kernel) rfl) (SndL.c (s_bipush (by decide +kernel) (in32_d (by decide)) (by decide +kernel)) (SndL.c (s_fail) (SndL.c (s_invV (r := (RX11, TX11, 14)) (ci := 12) okX11_refused rfl (by decide) rfl rfl w_1_239 w_2_1 v_0 (by decide +kernel)) (SndL.c (s_fail) (SndL.c (s_fail) (SndL.c (s_ret_i rfl (by decide +kernel)) (SndL.c (s_iload_n (k := 1) (by decide +kernel) rfl) (SndL.c (s_if_ne (off := 13) (by decide +kernel) (by decide)) (SndL.c (s_fail) (SndL.c (s_fail) (SndL.c (s_aload_n (k := 0) (by decide +kernel) rfl) (SndL.n))))))))))))))))
def kX11_measure_2 : List En := [(0, oGetf 13 4 2 35), (1, oFail), (1, oFail), (0, oGetf 6 1 0 38), (1, oFail), (1, oFail), (0, oGoto 48), (1, oFail), (1, oFail), (0, oRload 0 42), (0, oGetf 13 4 2 45), (1, oFail), (1, oFail), (0, oGetf 6 2 0 48), (1, oFail), (1, oFail)]
set_option maxRecDepth 20000 in
theorem zX11_measure_2 : SndL mX11_measure 32 kX11_measure_2 := SndL.c (s_getf (k := 4) clok12 (by decide) rfl (by decide) rfl w_1_196 (Or.inl rfl) (by decide +kernel)) (SndL.c (s_fail) (SndL.c (s_fail) (SndL.c (s_getf (k := 1) clok5 (by decide) rfl (by decide) rfl w_1_74 (Or.inl rfl) (by decide +kernel)) (SndL.c (s_fail) (SndL.c (s_fail) (SndL.c (s_goto (off := 10) (by decide +kernel) (by decide)) (SndL.c (s_fail) (SndL.c (s_fail) (SndL.c (s_aload_n (k := 0) (by decide +kernel) rfl) (SndL.c (s_getf (k := 4) clok12 (by decide) rfl (by decide) rfl w_1_196 (Or.inl rfl) (by decide +kernel)) (SndL.c (s_fail) (SndL.c (s_fail) (SndL.c (s_getf (k := 2) clok5 (by decide) rfl (by decide) rfl w_1_76 (Or.inl rfl) (by decide +kernel)) (SndL.c (s_fail) (SndL.c (s_fail) (SndL.n))))))))))))))))
def kX11_measure_3 : List En := [(0, oIstore 3 49), (0, oIload 1 50), (0, oIfNe 64 53), (1, oFail), (1, oFail), (0, oRload 0 54), (0, oGetf 13 4 2 57), (1, oFail), (1, oFail), (0, oIload 2 58), (0, oPutf 6 1 0 61), (1, oFail), (1, oFail), (0, oGoto 72), (1, oFail), (1, oFail)]
set_option maxRecDepth 20000 in
theorem zX11_measure_3 : SndL mX11_measure 48 kX11_measure_3 := SndL.c (s_istore_n (k := 3) (by decide +kernel) rfl (by decide)) (SndL.c (s_iload_n (k := 1) (by decide +kernel) rfl) (SndL.c (s_if_ne (off := 14) (by decide +kernel) (by decide)) (SndL.c (s_fail) (SndL.c (s_fail) (SndL.c (s_aload_n (k := 0) (by decide +kernel) rfl) (SndL.c (s_getf (k := 4) clok12 (by decide) rfl (by decide) rfl w_1_196 (Or.inl rfl) (by decide +kernel)) (SndL.c (s_fail) (SndL.c (s_fail) (SndL.c (s_iload_n (k := 2) (by decide +kernel) rfl) (SndL.c (s_putf (k := 1) clok5 (by decide) rfl (by decide) rfl w_1_74 (Or.inl rfl) (Or.inl rfl) (by decide +kernel)) (SndL.c (s_fail) (SndL.c (s_fail) (SndL.c (s_goto (off := 11) (by decide +kernel) (by decide)) (SndL.c (s_fail) (SndL.c (s_fail) (SndL.n))))))))))))))))
def kX11_measure_4 : List En := [(0, oRload 0 65), (0, oGetf 13 4 2 68), (1, oFail), (1, oFail), (0, oIload 2 69), (0, oPutf 6 2 0 72), (1, oFail), (1, oFail), (0, oIload 3 73), (0, oRetI)]
set_option maxRecDepth 20000 in
theorem zX11_measure_4 : SndL mX11_measure 64 kX11_measure_4 := SndL.c (s_aload_n (k := 0) (by decide +kernel) rfl) (SndL.c (s_getf (k := 4) clok12 (by decide) rfl (by decide) rfl w_1_196 (Or.inl rfl) (by decide +kernel)) (SndL.c (s_fail) (SndL.c (s_fail) (SndL.c (s_iload_n (k := 2) (by decide +kernel) rfl) (SndL.c (s_putf (k := 2) clok5 (by decide) rfl (by decide) rfl w_1_76 (Or.inl rfl) (Or.inl rfl) (by decide +kernel)) (SndL.c (s_fail) (SndL.c (s_fail) (SndL.c (s_iload_n (k := 3) (by decide +kernel) rfl) (SndL.c (s_ret_i rfl (by decide +kernel)) (SndL.n))))))))))
def kX11_measure : Cd := [kX11_measure_0, kX11_measure_1, kX11_measure_2, kX11_measure_3, kX11_measure_4]
theorem zX11_measure : SndC mX11_measure 0 kX11_measure := SndC.c zX11_measure_0 (by decide) (SndC.c zX11_measure_1 (by decide) (SndC.c zX11_measure_2 (by decide) (SndC.c zX11_measure_3 (by decide) (SndC.c zX11_measure_4 (by decide) (SndC.n)))))
theorem aX11_measure_0 : at_ kX11_measure 0 = (0, oIload 1 1) := rfl
theorem aX11_measure_1 : at_ kX11_measure 1 = (0, oIfLt 20 4) := rfl
theorem aX11_measure_4 : at_ kX11_measure 4 = (0, oIload 1 5) := rfl
theorem aX11_measure_5 : at_ kX11_measure 5 = (0, oPush (vI 1) 6) := rfl
theorem aX11_measure_6 : at_ kX11_measure 6 = (0, oIcGt 20 9) := rfl
theorem aX11_measure_9 : at_ kX11_measure 9 = (0, oIload 2 10) := rfl
theorem aX11_measure_10 : at_ kX11_measure 10 = (0, oPush (vI 1) 11) := rfl
theorem aX11_measure_11 : at_ kX11_measure 11 = (0, oIcLt 20 14) := rfl
theorem aX11_measure_14 : at_ kX11_measure 14 = (0, oIload 2 15) := rfl
theorem aX11_measure_15 : at_ kX11_measure 15 = (0, oPush (vI 100) 17) := rfl
theorem aX11_measure_17 : at_ kX11_measure 17 = (0, oIcLe 27 20) := rfl
theorem aX11_measure_20 : at_ kX11_measure 20 = (0, oRload 0 21) := rfl
theorem aX11_measure_21 : at_ kX11_measure 21 = (0, oPush (vI (-6)) 23) := rfl
theorem aX11_measure_23 : at_ kX11_measure 23 = (2, oInvV 13 mX11_refused 1 26) := rfl
theorem aX11_measure_26 : at_ kX11_measure 26 = (0, oRetI) := rfl
theorem aX11_measure_27 : at_ kX11_measure 27 = (0, oIload 1 28) := rfl
theorem aX11_measure_28 : at_ kX11_measure 28 = (0, oIfNe 41 31) := rfl
theorem aX11_measure_31 : at_ kX11_measure 31 = (0, oRload 0 32) := rfl
theorem aX11_measure_32 : at_ kX11_measure 32 = (0, oGetf 13 4 2 35) := rfl
theorem aX11_measure_35 : at_ kX11_measure 35 = (0, oGetf 6 1 0 38) := rfl
theorem aX11_measure_38 : at_ kX11_measure 38 = (0, oGoto 48) := rfl
theorem aX11_measure_41 : at_ kX11_measure 41 = (0, oRload 0 42) := rfl
theorem aX11_measure_42 : at_ kX11_measure 42 = (0, oGetf 13 4 2 45) := rfl
theorem aX11_measure_45 : at_ kX11_measure 45 = (0, oGetf 6 2 0 48) := rfl
theorem aX11_measure_48 : at_ kX11_measure 48 = (0, oIstore 3 49) := rfl
theorem aX11_measure_49 : at_ kX11_measure 49 = (0, oIload 1 50) := rfl
theorem aX11_measure_50 : at_ kX11_measure 50 = (0, oIfNe 64 53) := rfl
theorem aX11_measure_53 : at_ kX11_measure 53 = (0, oRload 0 54) := rfl
theorem aX11_measure_54 : at_ kX11_measure 54 = (0, oGetf 13 4 2 57) := rfl
theorem aX11_measure_57 : at_ kX11_measure 57 = (0, oIload 2 58) := rfl
theorem aX11_measure_58 : at_ kX11_measure 58 = (0, oPutf 6 1 0 61) := rfl
theorem aX11_measure_61 : at_ kX11_measure 61 = (0, oGoto 72) := rfl
theorem aX11_measure_64 : at_ kX11_measure 64 = (0, oRload 0 65) := rfl
theorem aX11_measure_65 : at_ kX11_measure 65 = (0, oGetf 13 4 2 68) := rfl
theorem aX11_measure_68 : at_ kX11_measure 68 = (0, oIload 2 69) := rfl
theorem aX11_measure_69 : at_ kX11_measure 69 = (0, oPutf 6 2 0 72) := rfl
theorem aX11_measure_72 : at_ kX11_measure 72 = (0, oIload 3 73) := rfl
theorem aX11_measure_73 : at_ kX11_measure 73 = (0, oRetI) := rfl
def kX11_rule_0 : List En := [(0, oRload 0 1), (0, oIload 1 2), (2, oInvV 13 mX11_lackOfRow 1 5), (1, oFail), (1, oFail), (0, oIstore 3 6), (0, oIload 3 7), (0, oIfEq 16 10), (1, oFail), (1, oFail), (0, oRload 0 11), (0, oIload 3 12), (2, oInvV 13 mX11_refused 1 15), (1, oFail), (1, oFail), (0, oRetI)]
set_option maxRecDepth 20000 in
theorem zX11_rule_0 : SndL mX11_rule 0 kX11_rule_0 := SndL.c (s_aload_n (k := 0) (by decide +kernel) rfl) (SndL.c (s_iload_n (k := 1) (by decide +kernel) rfl) (SndL.c (s_invV (r := (RX11, TX11, 14)) (ci := 12) okX11_lackOfRow rfl (by decide) rfl rfl w_2_18 w_2_20 v_1 (by decide +kernel)) (SndL.c (s_fail) (SndL.c (s_fail) (SndL.c (s_istore_n (k := 3) (by decide +kernel) rfl (by decide)) (SndL.c (s_iload_n (k := 3) (by decide +kernel) rfl) (SndL.c (s_if_eq (off := 9) (by decide +kernel) (by decide)) (SndL.c (s_fail) (SndL.c (s_fail) (SndL.c (s_aload_n (k := 0) (by decide +kernel) rfl) (SndL.c (s_iload_n (k := 3) (by decide +kernel) rfl) (SndL.c (s_invV (r := (RX11, TX11, 14)) (ci := 12) okX11_refused rfl (by decide) rfl rfl w_1_239 w_2_1 v_0 (by decide +kernel)) (SndL.c (s_fail) (SndL.c (s_fail) (SndL.c (s_ret_i rfl (by decide +kernel)) (SndL.n))))))))))))))))
def kX11_rule_1 : List En := [(0, oIload 2 17), (2, oInvS mX11_isDay 1 20), (1, oFail), (1, oFail), (0, oIfNe 30 23), (1, oFail), (1, oFail), (0, oRload 0 24), (0, oPush (vI (-6)) 26), (1, oFail), (2, oInvV 13 mX11_refused 1 29), (1, oFail), (1, oFail), (0, oRetI), (0, oRload 0 31), (0, oRload 0 32)]
set_option maxRecDepth 20000 in
theorem zX11_rule_1 : SndL mX11_rule 16 kX11_rule_1 := SndL.c (s_iload_n (k := 2) (by decide +kernel) rfl) (SndL.c (s_invS okX11_isDay w_2_217 w_2_218 (by decide +kernel)) (SndL.c (s_fail) (SndL.c (s_fail) (SndL.c (s_if_ne (off := 10) (by decide +kernel) (by decide)) (SndL.c (s_fail) (SndL.c (s_fail) (SndL.c (s_aload_n (k := 0) (by decide +kernel) rfl) (SndL.c (s_bipush (by decide +kernel) (in32_d (by decide)) (by decide +kernel)) (SndL.c (s_fail) (SndL.c (s_invV (r := (RX11, TX11, 14)) (ci := 12) okX11_refused rfl (by decide) rfl rfl w_1_239 w_2_1 v_0 (by decide +kernel)) (SndL.c (s_fail) (SndL.c (s_fail) (SndL.c (s_ret_i rfl (by decide +kernel)) (SndL.c (s_aload_n (k := 0) (by decide +kernel) rfl) (SndL.c (s_aload_n (k := 0) (by decide +kernel) rfl) (SndL.n))))))))))))))))
def kX11_rule_2 : List En := [(0, oGetf 13 6 2 35), (1, oFail), (1, oFail), (0, oRload 0 36), (0, oGetf 13 0 2 39), (1, oFail), (1, oFail), (0, oIload 1 40), (0, oAald 111 41), (2, oInvV 9 mX7_faultOf 1 44), (1, oFail), (1, oFail), (0, oPutf 13 12 0 47), (1, oFail), (1, oFail), (0, oRload 0 48)]
set_option maxRecDepth 20000 in
theorem zX11_rule_2 : SndL mX11_rule 32 kX11_rule_2 := SndL.c (s_getf (k := 6) clok12 (by decide) rfl (by decide) rfl w_1_198 (Or.inl rfl) (by decide +kernel)) (SndL.c (s_fail) (SndL.c (s_fail) (SndL.c (s_aload_n (k := 0) (by decide +kernel) rfl) (SndL.c (s_getf (k := 0) clok12 (by decide) rfl (by decide) rfl w_1_192 (Or.inl rfl) (by decide +kernel)) (SndL.c (s_fail) (SndL.c (s_fail) (SndL.c (s_iload_n (k := 1) (by decide +kernel) rfl) (SndL.c (s_aald (kd := 111) (akd_d (by decide)) rfl rfl (by decide +kernel)) (SndL.c (s_invV (r := (RX7, TX7, 7)) (ci := 8) okX7_faultOf rfl (by decide) rfl rfl w_3_208 w_3_209 w_3_210 (by decide +kernel)) (SndL.c (s_fail) (SndL.c (s_fail) (SndL.c (s_putf (k := 12) clok12 (by decide) rfl (by decide) rfl w_1_204 (Or.inl rfl) (Or.inl rfl) (by decide +kernel)) (SndL.c (s_fail) (SndL.c (s_fail) (SndL.c (s_aload_n (k := 0) (by decide +kernel) rfl) (SndL.n))))))))))))))))
def kX11_rule_3 : List En := [(0, oGetf 13 12 0 51), (1, oFail), (1, oFail), (0, oPush (vI (-1)) 52), (0, oIcEq 62 55), (1, oFail), (1, oFail), (0, oRload 0 56), (0, oPush (vI (-6)) 58), (1, oFail), (2, oInvV 13 mX11_refused 1 61), (1, oFail), (1, oFail), (0, oRetI), (0, oRload 0 63), (0, oGetf 13 3 2 66)]
set_option maxRecDepth 20000 in
theorem zX11_rule_3 : SndL mX11_rule 48 kX11_rule_3 := SndL.c (s_getf (k := 12) clok12 (by decide) rfl (by decide) rfl w_1_204 (Or.inl rfl) (by decide +kernel)) (SndL.c (s_fail) (SndL.c (s_fail) (SndL.c (s_iconst (by decide +kernel) (in32_d (by decide))) (SndL.c (s_ic_eq (off := 10) (by decide +kernel) (by decide)) (SndL.c (s_fail) (SndL.c (s_fail) (SndL.c (s_aload_n (k := 0) (by decide +kernel) rfl) (SndL.c (s_bipush (by decide +kernel) (in32_d (by decide)) (by decide +kernel)) (SndL.c (s_fail) (SndL.c (s_invV (r := (RX11, TX11, 14)) (ci := 12) okX11_refused rfl (by decide) rfl rfl w_1_239 w_2_1 v_0 (by decide +kernel)) (SndL.c (s_fail) (SndL.c (s_fail) (SndL.c (s_ret_i rfl (by decide +kernel)) (SndL.c (s_aload_n (k := 0) (by decide +kernel) rfl) (SndL.c (s_getf (k := 3) clok12 (by decide) rfl (by decide) rfl w_1_195 (Or.inl rfl) (by decide +kernel)) (SndL.n))))))))))))))))
def kX11_rule_4 : List En := [(1, oFail), (1, oFail), (2, oInvV 1 mJx4a65c_size_8abf5 0 69), (1, oFail), (1, oFail), (0, oPush (vI 16) 71), (1, oFail), (0, oIcLt 81 74), (1, oFail), (1, oFail), (0, oRload 0 75), (0, oPush (vI (-7)) 77), (1, oFail), (2, oInvV 13 mX11_refused 1 80), (1, oFail), (1, oFail)]
set_option maxRecDepth 20000 in
theorem zX11_rule_4 : SndL mX11_rule 64 kX11_rule_4 := SndL.c (s_fail) (SndL.c (s_fail) (SndL.c (s_invV (r := (RJx4a65c, TJx4a65c, 3)) (ci := 0) okJx4a65c_size_8abf5 rfl (by decide) rfl rfl w_2_63 w_2_64 w_2_65 (by decide +kernel)) (SndL.c (s_fail) (SndL.c (s_fail) (SndL.c (s_bipush (by decide +kernel) (in32_d (by decide)) (by decide +kernel)) (SndL.c (s_fail) (SndL.c (s_ic_lt (off := 10) (by decide +kernel) (by decide)) (SndL.c (s_fail) (SndL.c (s_fail) (SndL.c (s_aload_n (k := 0) (by decide +kernel) rfl) (SndL.c (s_bipush (by decide +kernel) (in32_d (by decide)) (by decide +kernel)) (SndL.c (s_fail) (SndL.c (s_invV (r := (RX11, TX11, 14)) (ci := 12) okX11_refused rfl (by decide) rfl rfl w_1_239 w_2_1 v_0 (by decide +kernel)) (SndL.c (s_fail) (SndL.c (s_fail) (SndL.n))))))))))))))))
def kX11_rule_5 : List En := [(0, oRetI), (0, oRload 0 82), (0, oGetf 13 3 2 85), (1, oFail), (1, oFail), (0, oNew 8 2 88), (1, oFail), (1, oFail), (0, oDup 89), (0, oRload 0 90), (0, oGetf 13 6 2 93), (1, oFail), (1, oFail), (2, oInvV 9 mX7_codeRead 0 96), (1, oFail), (1, oFail)]
set_option maxRecDepth 20000 in
theorem zX11_rule_5 : SndL mX11_rule 80 kX11_rule_5 := SndL.c (s_ret_i rfl (by decide +kernel)) (SndL.c (s_aload_n (k := 0) (by decide +kernel) rfl) (SndL.c (s_getf (k := 3) clok12 (by decide) rfl (by decide) rfl w_1_195 (Or.inl rfl) (by decide +kernel)) (SndL.c (s_fail) (SndL.c (s_fail) (SndL.c (s_new clok7 (by decide) rfl rfl w_4_40 w_4_41 w_1_24 (by decide +kernel)) (SndL.c (s_fail) (SndL.c (s_fail) (SndL.c (s_dup (by decide +kernel)) (SndL.c (s_aload_n (k := 0) (by decide +kernel) rfl) (SndL.c (s_getf (k := 6) clok12 (by decide) rfl (by decide) rfl w_1_198 (Or.inl rfl) (by decide +kernel)) (SndL.c (s_fail) (SndL.c (s_fail) (SndL.c (s_invV (r := (RX7, TX7, 7)) (ci := 8) okX7_codeRead rfl (by decide) rfl rfl w_4_42 w_4_43 w_4_44 (by decide +kernel)) (SndL.c (s_fail) (SndL.c (s_fail) (SndL.n))))))))))))))))
def kX11_rule_6 : List En := [(0, oNew 12 3 99), (1, oFail), (1, oFail), (0, oDup 100), (0, oIload 2 101), (0, oRload 0 102), (0, oGetf 13 11 0 105), (1, oFail), (1, oFail), (2, oInvI mX10_init 2 108), (1, oFail), (1, oFail), (2, oInvI mX6_init 2 111), (1, oFail), (1, oFail), (2, oInvV 1 mJx4a65c_add_9ea2d 1 114)]
set_option maxRecDepth 20000 in
theorem zX11_rule_6 : SndL mX11_rule 96 kX11_rule_6 := SndL.c (s_new clok11 (by decide) rfl rfl w_2_222 w_2_223 w_1_20 (by decide +kernel)) (SndL.c (s_fail) (SndL.c (s_fail) (SndL.c (s_dup (by decide +kernel)) (SndL.c (s_iload_n (k := 2) (by decide +kernel) rfl) (SndL.c (s_aload_n (k := 0) (by decide +kernel) rfl) (SndL.c (s_getf (k := 11) clok12 (by decide) rfl (by decide) rfl w_1_203 (Or.inl rfl) (by decide +kernel)) (SndL.c (s_fail) (SndL.c (s_fail) (SndL.c (s_invI okX10_init rfl rfl w_2_224 w_2_225 (by decide +kernel)) (SndL.c (s_fail) (SndL.c (s_fail) (SndL.c (s_invI okX6_init rfl rfl w_4_46 w_4_47 (by decide +kernel)) (SndL.c (s_fail) (SndL.c (s_fail) (SndL.c (s_invV (r := (RJx4a65c, TJx4a65c, 3)) (ci := 0) okJx4a65c_add_9ea2d rfl (by decide) rfl rfl w_2_124 w_2_125 w_2_126 (by decide +kernel)) (SndL.n))))))))))))))))
def kX11_rule_7 : List En := [(1, oFail), (1, oFail), (0, oPop 115), (0, oRload 0 116), (0, oGetf 13 3 2 119), (1, oFail), (1, oFail), (2, oInvV 1 mJx4a65c_size_8abf5 0 122), (1, oFail), (1, oFail), (0, oPush (vI 1) 123), (0, oIsub 124), (0, oRetI)]
set_option maxRecDepth 20000 in
theorem zX11_rule_7 : SndL mX11_rule 112 kX11_rule_7 := SndL.c (s_fail) (SndL.c (s_fail) (SndL.c (s_pop (by decide +kernel)) (SndL.c (s_aload_n (k := 0) (by decide +kernel) rfl) (SndL.c (s_getf (k := 3) clok12 (by decide) rfl (by decide) rfl w_1_195 (Or.inl rfl) (by decide +kernel)) (SndL.c (s_fail) (SndL.c (s_fail) (SndL.c (s_invV (r := (RJx4a65c, TJx4a65c, 3)) (ci := 0) okJx4a65c_size_8abf5 rfl (by decide) rfl rfl w_2_63 w_2_64 w_2_65 (by decide +kernel)) (SndL.c (s_fail) (SndL.c (s_fail) (SndL.c (s_iconst (by decide +kernel) (in32_d (by decide))) (SndL.c (s_isub (by decide +kernel)) (SndL.c (s_ret_i rfl (by decide +kernel)) (SndL.n)))))))))))))
def kX11_rule : Cd := [kX11_rule_0, kX11_rule_1, kX11_rule_2, kX11_rule_3, kX11_rule_4, kX11_rule_5, kX11_rule_6, kX11_rule_7]
theorem zX11_rule : SndC mX11_rule 0 kX11_rule := SndC.c zX11_rule_0 (by decide) (SndC.c zX11_rule_1 (by decide) (SndC.c zX11_rule_2 (by decide) (SndC.c zX11_rule_3 (by decide) (SndC.c zX11_rule_4 (by decide) (SndC.c zX11_rule_5 (by decide) (SndC.c zX11_rule_6 (by decide) (SndC.c zX11_rule_7 (by decide) (SndC.n))))))))
theorem aX11_rule_0 : at_ kX11_rule 0 = (0, oRload 0 1) := rfl
theorem aX11_rule_1 : at_ kX11_rule 1 = (0, oIload 1 2) := rfl
theorem aX11_rule_2 : at_ kX11_rule 2 = (2, oInvV 13 mX11_lackOfRow 1 5) := rfl
theorem aX11_rule_5 : at_ kX11_rule 5 = (0, oIstore 3 6) := rfl
theorem aX11_rule_6 : at_ kX11_rule 6 = (0, oIload 3 7) := rfl
theorem aX11_rule_7 : at_ kX11_rule 7 = (0, oIfEq 16 10) := rfl
theorem aX11_rule_10 : at_ kX11_rule 10 = (0, oRload 0 11) := rfl
theorem aX11_rule_11 : at_ kX11_rule 11 = (0, oIload 3 12) := rfl
theorem aX11_rule_12 : at_ kX11_rule 12 = (2, oInvV 13 mX11_refused 1 15) := rfl
theorem aX11_rule_15 : at_ kX11_rule 15 = (0, oRetI) := rfl
theorem aX11_rule_16 : at_ kX11_rule 16 = (0, oIload 2 17) := rfl
theorem aX11_rule_17 : at_ kX11_rule 17 = (2, oInvS mX11_isDay 1 20) := rfl
theorem aX11_rule_20 : at_ kX11_rule 20 = (0, oIfNe 30 23) := rfl
theorem aX11_rule_23 : at_ kX11_rule 23 = (0, oRload 0 24) := rfl
theorem aX11_rule_24 : at_ kX11_rule 24 = (0, oPush (vI (-6)) 26) := rfl
theorem aX11_rule_26 : at_ kX11_rule 26 = (2, oInvV 13 mX11_refused 1 29) := rfl
theorem aX11_rule_29 : at_ kX11_rule 29 = (0, oRetI) := rfl
theorem aX11_rule_30 : at_ kX11_rule 30 = (0, oRload 0 31) := rfl
theorem aX11_rule_31 : at_ kX11_rule 31 = (0, oRload 0 32) := rfl
theorem aX11_rule_32 : at_ kX11_rule 32 = (0, oGetf 13 6 2 35) := rfl
theorem aX11_rule_35 : at_ kX11_rule 35 = (0, oRload 0 36) := rfl
theorem aX11_rule_36 : at_ kX11_rule 36 = (0, oGetf 13 0 2 39) := rfl
theorem aX11_rule_39 : at_ kX11_rule 39 = (0, oIload 1 40) := rfl
theorem aX11_rule_40 : at_ kX11_rule 40 = (0, oAald 111 41) := rfl
theorem aX11_rule_41 : at_ kX11_rule 41 = (2, oInvV 9 mX7_faultOf 1 44) := rfl
theorem aX11_rule_44 : at_ kX11_rule 44 = (0, oPutf 13 12 0 47) := rfl
theorem aX11_rule_47 : at_ kX11_rule 47 = (0, oRload 0 48) := rfl
theorem aX11_rule_48 : at_ kX11_rule 48 = (0, oGetf 13 12 0 51) := rfl
theorem aX11_rule_51 : at_ kX11_rule 51 = (0, oPush (vI (-1)) 52) := rfl
theorem aX11_rule_52 : at_ kX11_rule 52 = (0, oIcEq 62 55) := rfl
theorem aX11_rule_55 : at_ kX11_rule 55 = (0, oRload 0 56) := rfl
theorem aX11_rule_56 : at_ kX11_rule 56 = (0, oPush (vI (-6)) 58) := rfl
theorem aX11_rule_58 : at_ kX11_rule 58 = (2, oInvV 13 mX11_refused 1 61) := rfl
theorem aX11_rule_61 : at_ kX11_rule 61 = (0, oRetI) := rfl
theorem aX11_rule_62 : at_ kX11_rule 62 = (0, oRload 0 63) := rfl
theorem aX11_rule_63 : at_ kX11_rule 63 = (0, oGetf 13 3 2 66) := rfl
theorem aX11_rule_66 : at_ kX11_rule 66 = (2, oInvV 1 mJx4a65c_size_8abf5 0 69) := rfl
theorem aX11_rule_69 : at_ kX11_rule 69 = (0, oPush (vI 16) 71) := rfl
theorem aX11_rule_71 : at_ kX11_rule 71 = (0, oIcLt 81 74) := rfl
theorem aX11_rule_74 : at_ kX11_rule 74 = (0, oRload 0 75) := rfl
theorem aX11_rule_75 : at_ kX11_rule 75 = (0, oPush (vI (-7)) 77) := rfl
theorem aX11_rule_77 : at_ kX11_rule 77 = (2, oInvV 13 mX11_refused 1 80) := rfl
theorem aX11_rule_80 : at_ kX11_rule 80 = (0, oRetI) := rfl
theorem aX11_rule_81 : at_ kX11_rule 81 = (0, oRload 0 82) := rfl
theorem aX11_rule_82 : at_ kX11_rule 82 = (0, oGetf 13 3 2 85) := rfl
theorem aX11_rule_85 : at_ kX11_rule 85 = (0, oNew 8 2 88) := rfl
theorem aX11_rule_88 : at_ kX11_rule 88 = (0, oDup 89) := rfl
theorem aX11_rule_89 : at_ kX11_rule 89 = (0, oRload 0 90) := rfl
theorem aX11_rule_90 : at_ kX11_rule 90 = (0, oGetf 13 6 2 93) := rfl
theorem aX11_rule_93 : at_ kX11_rule 93 = (2, oInvV 9 mX7_codeRead 0 96) := rfl
theorem aX11_rule_96 : at_ kX11_rule 96 = (0, oNew 12 3 99) := rfl
theorem aX11_rule_99 : at_ kX11_rule 99 = (0, oDup 100) := rfl
theorem aX11_rule_100 : at_ kX11_rule 100 = (0, oIload 2 101) := rfl
theorem aX11_rule_101 : at_ kX11_rule 101 = (0, oRload 0 102) := rfl
theorem aX11_rule_102 : at_ kX11_rule 102 = (0, oGetf 13 11 0 105) := rfl
theorem aX11_rule_105 : at_ kX11_rule 105 = (2, oInvI mX10_init 2 108) := rfl
theorem aX11_rule_108 : at_ kX11_rule 108 = (2, oInvI mX6_init 2 111) := rfl
theorem aX11_rule_111 : at_ kX11_rule 111 = (2, oInvV 1 mJx4a65c_add_9ea2d 1 114) := rfl
theorem aX11_rule_114 : at_ kX11_rule 114 = (0, oPop 115) := rfl
theorem aX11_rule_115 : at_ kX11_rule 115 = (0, oRload 0 116) := rfl
theorem aX11_rule_116 : at_ kX11_rule 116 = (0, oGetf 13 3 2 119) := rfl
theorem aX11_rule_119 : at_ kX11_rule 119 = (2, oInvV 1 mJx4a65c_size_8abf5 0 122) := rfl
theorem aX11_rule_122 : at_ kX11_rule 122 = (0, oPush (vI 1) 123) := rfl
theorem aX11_rule_123 : at_ kX11_rule 123 = (0, oIsub 124) := rfl
theorem aX11_rule_124 : at_ kX11_rule 124 = (0, oRetI) := rfl
def kX11_fault_0 : List En := [(0, oRload 0 1), (0, oGetf 13 12 0 4), (1, oFail), (1, oFail), (0, oRetI)]
set_option maxRecDepth 20000 in
theorem zX11_fault_0 : SndL mX11_fault 0 kX11_fault_0 := SndL.c (s_aload_n (k := 0) (by decide +kernel) rfl) (SndL.c (s_getf (k := 12) clok12 (by decide) rfl (by decide) rfl w_1_204 (Or.inl rfl) (by decide +kernel)) (SndL.c (s_fail) (SndL.c (s_fail) (SndL.c (s_ret_i rfl (by decide +kernel)) (SndL.n)))))
def kX11_fault : Cd := [kX11_fault_0]
theorem zX11_fault : SndC mX11_fault 0 kX11_fault := SndC.c zX11_fault_0 (by decide) (SndC.n)
theorem aX11_fault_0 : at_ kX11_fault 0 = (0, oRload 0 1) := rfl
theorem aX11_fault_1 : at_ kX11_fault 1 = (0, oGetf 13 12 0 4) := rfl
theorem aX11_fault_4 : at_ kX11_fault 4 = (0, oRetI) := rfl
def kX11_strike_0 : List En := [(0, oIload 1 1), (0, oIfLt 15 4), (1, oFail), (1, oFail), (0, oIload 1 5), (0, oRload 0 6), (0, oGetf 13 3 2 9), (1, oFail), (1, oFail), (2, oInvV 1 mJx4a65c_size_8abf5 0 12), (1, oFail), (1, oFail), (0, oIcLt 21 15), (1, oFail), (1, oFail), (0, oRload 0 16)]
set_option maxRecDepth 20000 in
theorem zX11_strike_0 : SndL mX11_strike 0 kX11_strike_0 := SndL.c (s_iload_n (k := 1) (by decide +kernel) rfl) (SndL.c (s_if_lt (off := 14) (by decide +kernel) (by decide)) (SndL.c (s_fail) (SndL.c (s_fail) (SndL.c (s_iload_n (k := 1) (by decide +kernel) rfl) (SndL.c (s_aload_n (k := 0) (by decide +kernel) rfl) (SndL.c (s_getf (k := 3) clok12 (by decide) rfl (by decide) rfl w_1_195 (Or.inl rfl) (by decide +kernel)) (SndL.c (s_fail) (SndL.c (s_fail) (SndL.c (s_invV (r := (RJx4a65c, TJx4a65c, 3)) (ci := 0) okJx4a65c_size_8abf5 rfl (by decide) rfl rfl w_2_63 w_2_64 w_2_65 (by decide +kernel)) (SndL.c (s_fail) (SndL.c (s_fail) (SndL.c (s_ic_lt (off := 9) (by decide +kernel) (by decide)) (SndL.c (s_fail) (SndL.c (s_fail) (SndL.c (s_aload_n (k := 0) (by decide +kernel) rfl) (SndL.n))))))))))))))))
def kX11_strike_1 : List En := [(0, oPush (vI (-1)) 17), (2, oInvV 13 mX11_refused 1 20), (1, oFail), (1, oFail), (0, oRetI), (0, oRload 0 22), (0, oRload 0 23), (0, oGetf 13 3 2 26), (1, oFail), (1, oFail), (0, oIload 1 27), (2, oInvV 1 mJx4a65c_get_915e3 1 30), (1, oFail), (1, oFail), (0, oCast 8 33), (1, oFail)]
set_option maxRecDepth 20000 in
theorem zX11_strike_1 : SndL mX11_strike 16 kX11_strike_1 := SndL.c (s_iconst (by decide +kernel) (in32_d (by decide))) (SndL.c (s_invV (r := (RX11, TX11, 14)) (ci := 12) okX11_refused rfl (by decide) rfl rfl w_1_239 w_2_1 v_0 (by decide +kernel)) (SndL.c (s_fail) (SndL.c (s_fail) (SndL.c (s_ret_i rfl (by decide +kernel)) (SndL.c (s_aload_n (k := 0) (by decide +kernel) rfl) (SndL.c (s_aload_n (k := 0) (by decide +kernel) rfl) (SndL.c (s_getf (k := 3) clok12 (by decide) rfl (by decide) rfl w_1_195 (Or.inl rfl) (by decide +kernel)) (SndL.c (s_fail) (SndL.c (s_fail) (SndL.c (s_iload_n (k := 1) (by decide +kernel) rfl) (SndL.c (s_invV (r := (RJx4a65c, TJx4a65c, 3)) (ci := 0) okJx4a65c_get_915e3 rfl (by decide) rfl rfl w_2_191 w_2_192 w_2_193 (by decide +kernel)) (SndL.c (s_fail) (SndL.c (s_fail) (SndL.c (s_cast (r := (RX6, TX6, 2)) (ci := 7) rfl (by decide) rfl w_4_40 (by decide +kernel)) (SndL.c (s_fail) (SndL.n))))))))))))))))
def kX11_strike_2 : List En := [(1, oFail), (0, oGetf 8 1 2 36), (1, oFail), (1, oFail), (2, oInvV 13 mX11_endedNow 1 39), (1, oFail), (1, oFail), (0, oRetI)]
set_option maxRecDepth 20000 in
theorem zX11_strike_2 : SndL mX11_strike 32 kX11_strike_2 := SndL.c (s_fail) (SndL.c (s_getf (k := 1) clok7 (by decide) rfl (by decide) rfl w_4_52 (Or.inl rfl) (by decide +kernel)) (SndL.c (s_fail) (SndL.c (s_fail) (SndL.c (s_invV (r := (RX11, TX11, 14)) (ci := 12) okX11_endedNow rfl (by decide) rfl rfl w_3_41 w_3_43 v_6 (by decide +kernel)) (SndL.c (s_fail) (SndL.c (s_fail) (SndL.c (s_ret_i rfl (by decide +kernel)) (SndL.n))))))))
def kX11_strike : Cd := [kX11_strike_0, kX11_strike_1, kX11_strike_2]
theorem zX11_strike : SndC mX11_strike 0 kX11_strike := SndC.c zX11_strike_0 (by decide) (SndC.c zX11_strike_1 (by decide) (SndC.c zX11_strike_2 (by decide) (SndC.n)))
theorem aX11_strike_0 : at_ kX11_strike 0 = (0, oIload 1 1) := rfl
theorem aX11_strike_1 : at_ kX11_strike 1 = (0, oIfLt 15 4) := rfl
theorem aX11_strike_4 : at_ kX11_strike 4 = (0, oIload 1 5) := rfl
theorem aX11_strike_5 : at_ kX11_strike 5 = (0, oRload 0 6) := rfl
theorem aX11_strike_6 : at_ kX11_strike 6 = (0, oGetf 13 3 2 9) := rfl
theorem aX11_strike_9 : at_ kX11_strike 9 = (2, oInvV 1 mJx4a65c_size_8abf5 0 12) := rfl
theorem aX11_strike_12 : at_ kX11_strike 12 = (0, oIcLt 21 15) := rfl
theorem aX11_strike_15 : at_ kX11_strike 15 = (0, oRload 0 16) := rfl
theorem aX11_strike_16 : at_ kX11_strike 16 = (0, oPush (vI (-1)) 17) := rfl
theorem aX11_strike_17 : at_ kX11_strike 17 = (2, oInvV 13 mX11_refused 1 20) := rfl
theorem aX11_strike_20 : at_ kX11_strike 20 = (0, oRetI) := rfl
theorem aX11_strike_21 : at_ kX11_strike 21 = (0, oRload 0 22) := rfl
theorem aX11_strike_22 : at_ kX11_strike 22 = (0, oRload 0 23) := rfl
theorem aX11_strike_23 : at_ kX11_strike 23 = (0, oGetf 13 3 2 26) := rfl
theorem aX11_strike_26 : at_ kX11_strike 26 = (0, oIload 1 27) := rfl
theorem aX11_strike_27 : at_ kX11_strike 27 = (2, oInvV 1 mJx4a65c_get_915e3 1 30) := rfl
theorem aX11_strike_30 : at_ kX11_strike 30 = (0, oCast 8 33) := rfl
theorem aX11_strike_33 : at_ kX11_strike 33 = (0, oGetf 8 1 2 36) := rfl
theorem aX11_strike_36 : at_ kX11_strike 36 = (2, oInvV 13 mX11_endedNow 1 39) := rfl
theorem aX11_strike_39 : at_ kX11_strike 39 = (0, oRetI) := rfl
def kX11_bars_0 : List En := [(0, oRload 0 1), (0, oIload 1 2), (2, oInvV 13 mX11_advertOf 1 5), (1, oFail), (1, oFail), (0, oRstore 5 7), (1, oFail), (0, oRload 0 8), (0, oRload 5 10), (1, oFail), (0, oIload 2 11), (0, oIload 3 12), (0, oIload 4 14), (1, oFail), (2, oInvV 13 mX11_claimOf 4 17), (1, oFail)]
set_option maxRecDepth 20000 in
theorem zX11_bars_0 : SndL mX11_bars 0 kX11_bars_0 := SndL.c (s_aload_n (k := 0) (by decide +kernel) rfl) (SndL.c (s_iload_n (k := 1) (by decide +kernel) rfl) (SndL.c (s_invV (r := (RX11, TX11, 14)) (ci := 12) okX11_advertOf rfl (by decide) rfl rfl w_2_187 w_2_189 v_5 (by decide +kernel)) (SndL.c (s_fail) (SndL.c (s_fail) (SndL.c (s_astore (by decide +kernel) (by decide)) (SndL.c (s_fail) (SndL.c (s_aload_n (k := 0) (by decide +kernel) rfl) (SndL.c (s_aload (by decide +kernel)) (SndL.c (s_fail) (SndL.c (s_iload_n (k := 2) (by decide +kernel) rfl) (SndL.c (s_iload_n (k := 3) (by decide +kernel) rfl) (SndL.c (s_iload (by decide +kernel)) (SndL.c (s_fail) (SndL.c (s_invV (r := (RX11, TX11, 14)) (ci := 12) okX11_claimOf rfl (by decide) rfl rfl w_3_79 w_3_81 v_10 (by decide +kernel)) (SndL.c (s_fail) (SndL.n))))))))))))))))
def kX11_bars_1 : List En := [(1, oFail), (0, oRstore 6 19), (1, oFail), (0, oRload 5 21), (1, oFail), (0, oIfnull 29 24), (1, oFail), (1, oFail), (0, oRload 6 26), (1, oFail), (0, oIfnonnull 31 29), (1, oFail), (1, oFail), (0, oPush (vI (-1)) 30), (0, oRetI), (0, oRload 0 32)]
set_option maxRecDepth 20000 in
theorem zX11_bars_1 : SndL mX11_bars 16 kX11_bars_1 := SndL.c (s_fail) (SndL.c (s_astore (by decide +kernel) (by decide)) (SndL.c (s_fail) (SndL.c (s_aload (by decide +kernel)) (SndL.c (s_fail) (SndL.c (s_ifnull (off := 8) (by decide +kernel) (by decide)) (SndL.c (s_fail) (SndL.c (s_fail) (SndL.c (s_aload (by decide +kernel)) (SndL.c (s_fail) (SndL.c (s_ifnonnull (off := 5) (by decide +kernel) (by decide)) (SndL.c (s_fail) (SndL.c (s_fail) (SndL.c (s_iconst (by decide +kernel) (in32_d (by decide))) (SndL.c (s_ret_i rfl (by decide +kernel)) (SndL.c (s_aload_n (k := 0) (by decide +kernel) rfl) (SndL.n))))))))))))))))
def kX11_bars_2 : List En := [(0, oRload 5 34), (1, oFail), (0, oRload 6 36), (1, oFail), (0, oIload 3 37), (0, oIload 4 39), (1, oFail), (2, oInvV 13 mX11_tellFacts 4 42), (1, oFail), (1, oFail), (0, oRload 0 43), (0, oRload 0 44), (0, oIload 3 45), (0, oIload 4 47), (1, oFail), (2, oInvV 13 mX11_rulesInForce 2 50)]
set_option maxRecDepth 20000 in
theorem zX11_bars_2 : SndL mX11_bars 32 kX11_bars_2 := SndL.c (s_aload (by decide +kernel)) (SndL.c (s_fail) (SndL.c (s_aload (by decide +kernel)) (SndL.c (s_fail) (SndL.c (s_iload_n (k := 3) (by decide +kernel) rfl) (SndL.c (s_iload (by decide +kernel)) (SndL.c (s_fail) (SndL.c (s_invV (r := (RX11, TX11, 14)) (ci := 12) okX11_tellFacts rfl (by decide) rfl rfl w_4_70 w_4_72 v_22 (by decide +kernel)) (SndL.c (s_fail) (SndL.c (s_fail) (SndL.c (s_aload_n (k := 0) (by decide +kernel) rfl) (SndL.c (s_aload_n (k := 0) (by decide +kernel) rfl) (SndL.c (s_iload_n (k := 3) (by decide +kernel) rfl) (SndL.c (s_iload (by decide +kernel)) (SndL.c (s_fail) (SndL.c (s_invV (r := (RX11, TX11, 14)) (ci := 12) okX11_rulesInForce rfl (by decide) rfl rfl w_4_78 w_4_80 v_23 (by decide +kernel)) (SndL.n))))))))))))))))
def kX11_bars_3 : List En := [(1, oFail), (1, oFail), (2, oInvV 13 mX11_barringRule 1 53), (1, oFail), (1, oFail), (0, oRetI)]
set_option maxRecDepth 20000 in
theorem zX11_bars_3 : SndL mX11_bars 48 kX11_bars_3 := SndL.c (s_fail) (SndL.c (s_fail) (SndL.c (s_invV (r := (RX11, TX11, 14)) (ci := 12) okX11_barringRule rfl (by decide) rfl rfl w_4_82 w_4_84 v_24 (by decide +kernel)) (SndL.c (s_fail) (SndL.c (s_fail) (SndL.c (s_ret_i rfl (by decide +kernel)) (SndL.n))))))
def kX11_bars : Cd := [kX11_bars_0, kX11_bars_1, kX11_bars_2, kX11_bars_3]
theorem zX11_bars : SndC mX11_bars 0 kX11_bars := SndC.c zX11_bars_0 (by decide) (SndC.c zX11_bars_1 (by decide) (SndC.c zX11_bars_2 (by decide) (SndC.c zX11_bars_3 (by decide) (SndC.n))))
theorem aX11_bars_0 : at_ kX11_bars 0 = (0, oRload 0 1) := rfl
theorem aX11_bars_1 : at_ kX11_bars 1 = (0, oIload 1 2) := rfl
theorem aX11_bars_2 : at_ kX11_bars 2 = (2, oInvV 13 mX11_advertOf 1 5) := rfl
theorem aX11_bars_5 : at_ kX11_bars 5 = (0, oRstore 5 7) := rfl
theorem aX11_bars_7 : at_ kX11_bars 7 = (0, oRload 0 8) := rfl
theorem aX11_bars_8 : at_ kX11_bars 8 = (0, oRload 5 10) := rfl
theorem aX11_bars_10 : at_ kX11_bars 10 = (0, oIload 2 11) := rfl
theorem aX11_bars_11 : at_ kX11_bars 11 = (0, oIload 3 12) := rfl
theorem aX11_bars_12 : at_ kX11_bars 12 = (0, oIload 4 14) := rfl
theorem aX11_bars_14 : at_ kX11_bars 14 = (2, oInvV 13 mX11_claimOf 4 17) := rfl
theorem aX11_bars_17 : at_ kX11_bars 17 = (0, oRstore 6 19) := rfl
theorem aX11_bars_19 : at_ kX11_bars 19 = (0, oRload 5 21) := rfl
theorem aX11_bars_21 : at_ kX11_bars 21 = (0, oIfnull 29 24) := rfl
theorem aX11_bars_24 : at_ kX11_bars 24 = (0, oRload 6 26) := rfl
theorem aX11_bars_26 : at_ kX11_bars 26 = (0, oIfnonnull 31 29) := rfl
theorem aX11_bars_29 : at_ kX11_bars 29 = (0, oPush (vI (-1)) 30) := rfl
theorem aX11_bars_30 : at_ kX11_bars 30 = (0, oRetI) := rfl
theorem aX11_bars_31 : at_ kX11_bars 31 = (0, oRload 0 32) := rfl
theorem aX11_bars_32 : at_ kX11_bars 32 = (0, oRload 5 34) := rfl
theorem aX11_bars_34 : at_ kX11_bars 34 = (0, oRload 6 36) := rfl
theorem aX11_bars_36 : at_ kX11_bars 36 = (0, oIload 3 37) := rfl
theorem aX11_bars_37 : at_ kX11_bars 37 = (0, oIload 4 39) := rfl
theorem aX11_bars_39 : at_ kX11_bars 39 = (2, oInvV 13 mX11_tellFacts 4 42) := rfl
theorem aX11_bars_42 : at_ kX11_bars 42 = (0, oRload 0 43) := rfl
theorem aX11_bars_43 : at_ kX11_bars 43 = (0, oRload 0 44) := rfl
theorem aX11_bars_44 : at_ kX11_bars 44 = (0, oIload 3 45) := rfl
theorem aX11_bars_45 : at_ kX11_bars 45 = (0, oIload 4 47) := rfl
theorem aX11_bars_47 : at_ kX11_bars 47 = (2, oInvV 13 mX11_rulesInForce 2 50) := rfl
theorem aX11_bars_50 : at_ kX11_bars 50 = (2, oInvV 13 mX11_barringRule 1 53) := rfl
theorem aX11_bars_53 : at_ kX11_bars 53 = (0, oRetI) := rfl
def kX11_seat_0 : List En := [(0, oIload 1 1), (0, oPush (vI 12) 3), (1, oFail), (0, oIushr 4), (0, oIfEq 13 7), (1, oFail), (1, oFail), (0, oRload 0 8), (0, oPush (vI (-1)) 9), (2, oInvV 13 mX11_refused 1 12), (1, oFail), (1, oFail), (0, oRetI), (0, oRload 0 14), (0, oGetf 13 5 2 17), (1, oFail)]
set_option maxRecDepth 20000 in
theorem zX11_seat_0 : SndL mX11_seat 0 kX11_seat_0 := SndL.c (s_iload_n (k := 1) (by decide +kernel) rfl) (SndL.c (s_bipush (by decide +kernel) (in32_d (by decide)) (by decide +kernel)) (SndL.c (s_fail) (SndL.c (s_iushr (by decide +kernel)) (SndL.c (s_if_eq (off := 9) (by decide +kernel) (by decide)) (SndL.c (s_fail) (SndL.c (s_fail) (SndL.c (s_aload_n (k := 0) (by decide +kernel) rfl) (SndL.c (s_iconst (by decide +kernel) (in32_d (by decide))) (SndL.c (s_invV (r := (RX11, TX11, 14)) (ci := 12) okX11_refused rfl (by decide) rfl rfl w_1_239 w_2_1 v_0 (by decide +kernel)) (SndL.c (s_fail) (SndL.c (s_fail) (SndL.c (s_ret_i rfl (by decide +kernel)) (SndL.c (s_aload_n (k := 0) (by decide +kernel) rfl) (SndL.c (s_getf (k := 5) clok12 (by decide) rfl (by decide) rfl w_1_197 (Or.inl rfl) (by decide +kernel)) (SndL.c (s_fail) (SndL.n))))))))))))))))
def kX11_seat_1 : List En := [(1, oFail), (0, oGetf 3 1 0 20), (1, oFail), (1, oFail), (0, oPush (vI 9) 22), (1, oFail), (0, oIcLt 32 25), (1, oFail), (1, oFail), (0, oRload 0 26), (0, oPush (vI (-7)) 28), (1, oFail), (2, oInvV 13 mX11_refused 1 31), (1, oFail), (1, oFail), (0, oRetI)]
set_option maxRecDepth 20000 in
theorem zX11_seat_1 : SndL mX11_seat 16 kX11_seat_1 := SndL.c (s_fail) (SndL.c (s_getf (k := 1) clok2 (by decide) rfl (by decide) rfl w_1_94 (Or.inl rfl) (by decide +kernel)) (SndL.c (s_fail) (SndL.c (s_fail) (SndL.c (s_bipush (by decide +kernel) (in32_d (by decide)) (by decide +kernel)) (SndL.c (s_fail) (SndL.c (s_ic_lt (off := 10) (by decide +kernel) (by decide)) (SndL.c (s_fail) (SndL.c (s_fail) (SndL.c (s_aload_n (k := 0) (by decide +kernel) rfl) (SndL.c (s_bipush (by decide +kernel) (in32_d (by decide)) (by decide +kernel)) (SndL.c (s_fail) (SndL.c (s_invV (r := (RX11, TX11, 14)) (ci := 12) okX11_refused rfl (by decide) rfl rfl w_1_239 w_2_1 v_0 (by decide +kernel)) (SndL.c (s_fail) (SndL.c (s_fail) (SndL.c (s_ret_i rfl (by decide +kernel)) (SndL.n))))))))))))))))
def kX11_seat_2 : List En := [(0, oRload 0 33), (0, oGetf 13 5 2 36), (1, oFail), (1, oFail), (0, oIload 1 37), (2, oInvV 3 mX1_addSeat 1 40), (1, oFail), (1, oFail), (0, oRetI)]
set_option maxRecDepth 20000 in
theorem zX11_seat_2 : SndL mX11_seat 32 kX11_seat_2 := SndL.c (s_aload_n (k := 0) (by decide +kernel) rfl) (SndL.c (s_getf (k := 5) clok12 (by decide) rfl (by decide) rfl w_1_197 (Or.inl rfl) (by decide +kernel)) (SndL.c (s_fail) (SndL.c (s_fail) (SndL.c (s_iload_n (k := 1) (by decide +kernel) rfl) (SndL.c (s_invV (r := (RX1, TX1, 3)) (ci := 2) okX1_addSeat rfl (by decide) rfl rfl w_4_103 w_4_104 w_4_105 (by decide +kernel)) (SndL.c (s_fail) (SndL.c (s_fail) (SndL.c (s_ret_i rfl (by decide +kernel)) (SndL.n)))))))))
def kX11_seat : Cd := [kX11_seat_0, kX11_seat_1, kX11_seat_2]
theorem zX11_seat : SndC mX11_seat 0 kX11_seat := SndC.c zX11_seat_0 (by decide) (SndC.c zX11_seat_1 (by decide) (SndC.c zX11_seat_2 (by decide) (SndC.n)))
theorem aX11_seat_0 : at_ kX11_seat 0 = (0, oIload 1 1) := rfl
theorem aX11_seat_1 : at_ kX11_seat 1 = (0, oPush (vI 12) 3) := rfl
theorem aX11_seat_3 : at_ kX11_seat 3 = (0, oIushr 4) := rfl
theorem aX11_seat_4 : at_ kX11_seat 4 = (0, oIfEq 13 7) := rfl
theorem aX11_seat_7 : at_ kX11_seat 7 = (0, oRload 0 8) := rfl
theorem aX11_seat_8 : at_ kX11_seat 8 = (0, oPush (vI (-1)) 9) := rfl
theorem aX11_seat_9 : at_ kX11_seat 9 = (2, oInvV 13 mX11_refused 1 12) := rfl
theorem aX11_seat_12 : at_ kX11_seat 12 = (0, oRetI) := rfl
theorem aX11_seat_13 : at_ kX11_seat 13 = (0, oRload 0 14) := rfl
theorem aX11_seat_14 : at_ kX11_seat 14 = (0, oGetf 13 5 2 17) := rfl
theorem aX11_seat_17 : at_ kX11_seat 17 = (0, oGetf 3 1 0 20) := rfl
theorem aX11_seat_20 : at_ kX11_seat 20 = (0, oPush (vI 9) 22) := rfl
theorem aX11_seat_22 : at_ kX11_seat 22 = (0, oIcLt 32 25) := rfl
theorem aX11_seat_25 : at_ kX11_seat 25 = (0, oRload 0 26) := rfl
theorem aX11_seat_26 : at_ kX11_seat 26 = (0, oPush (vI (-7)) 28) := rfl
theorem aX11_seat_28 : at_ kX11_seat 28 = (2, oInvV 13 mX11_refused 1 31) := rfl
theorem aX11_seat_31 : at_ kX11_seat 31 = (0, oRetI) := rfl
theorem aX11_seat_32 : at_ kX11_seat 32 = (0, oRload 0 33) := rfl
theorem aX11_seat_33 : at_ kX11_seat 33 = (0, oGetf 13 5 2 36) := rfl
theorem aX11_seat_36 : at_ kX11_seat 36 = (0, oIload 1 37) := rfl
theorem aX11_seat_37 : at_ kX11_seat 37 = (2, oInvV 3 mX1_addSeat 1 40) := rfl
theorem aX11_seat_40 : at_ kX11_seat 40 = (0, oRetI) := rfl
def kX11_decide_0 : List En := [(0, oRload 0 1), (0, oIload 1 2), (2, oInvV 13 mX11_advertOf 1 5), (1, oFail), (1, oFail), (0, oRstore 5 7), (1, oFail), (0, oRload 0 8), (0, oRload 5 10), (1, oFail), (0, oIload 2 11), (2, oInvV 13 mX11_claimNow 2 14), (1, oFail), (1, oFail), (0, oRstore 6 16), (1, oFail)]
set_option maxRecDepth 20000 in
theorem zX11_decide_0 : SndL mX11_decide 0 kX11_decide_0 := SndL.c (s_aload_n (k := 0) (by decide +kernel) rfl) (SndL.c (s_iload_n (k := 1) (by decide +kernel) rfl) (SndL.c (s_invV (r := (RX11, TX11, 14)) (ci := 12) okX11_advertOf rfl (by decide) rfl rfl w_2_187 w_2_189 v_5 (by decide +kernel)) (SndL.c (s_fail) (SndL.c (s_fail) (SndL.c (s_astore (by decide +kernel) (by decide)) (SndL.c (s_fail) (SndL.c (s_aload_n (k := 0) (by decide +kernel) rfl) (SndL.c (s_aload (by decide +kernel)) (SndL.c (s_fail) (SndL.c (s_iload_n (k := 2) (by decide +kernel) rfl) (SndL.c (s_invV (r := (RX11, TX11, 14)) (ci := 12) okX11_claimNow rfl (by decide) rfl rfl w_3_75 w_3_77 v_9 (by decide +kernel)) (SndL.c (s_fail) (SndL.c (s_fail) (SndL.c (s_astore (by decide +kernel) (by decide)) (SndL.c (s_fail) (SndL.n))))))))))))))))
def kX11_decide_1 : List En := [(0, oRload 5 18), (1, oFail), (0, oIfnull 40 21), (1, oFail), (1, oFail), (0, oRload 6 23), (1, oFail), (0, oIfnull 40 26), (1, oFail), (1, oFail), (0, oRload 0 27), (0, oGetf 13 5 2 30), (1, oFail), (1, oFail), (0, oIload 3 31), (0, oIload 4 33)]
set_option maxRecDepth 20000 in
theorem zX11_decide_1 : SndL mX11_decide 16 kX11_decide_1 := SndL.c (s_aload (by decide +kernel)) (SndL.c (s_fail) (SndL.c (s_ifnull (off := 22) (by decide +kernel) (by decide)) (SndL.c (s_fail) (SndL.c (s_fail) (SndL.c (s_aload (by decide +kernel)) (SndL.c (s_fail) (SndL.c (s_ifnull (off := 17) (by decide +kernel) (by decide)) (SndL.c (s_fail) (SndL.c (s_fail) (SndL.c (s_aload_n (k := 0) (by decide +kernel) rfl) (SndL.c (s_getf (k := 5) clok12 (by decide) rfl (by decide) rfl w_1_197 (Or.inl rfl) (by decide +kernel)) (SndL.c (s_fail) (SndL.c (s_fail) (SndL.c (s_iload_n (k := 3) (by decide +kernel) rfl) (SndL.c (s_iload (by decide +kernel)) (SndL.n))))))))))))))))
def kX11_decide_2 : List En := [(1, oFail), (0, oIor 34), (2, oInvV 3 mX1_areSeats 1 37), (1, oFail), (1, oFail), (0, oIfNe 46 40), (1, oFail), (1, oFail), (0, oRload 0 41), (0, oPush (vI (-1)) 42), (2, oInvV 13 mX11_refused 1 45), (1, oFail), (1, oFail), (0, oRetI), (0, oRload 0 47), (0, oGetf 13 5 2 50)]
set_option maxRecDepth 20000 in
theorem zX11_decide_2 : SndL mX11_decide 32 kX11_decide_2 := SndL.c (s_fail) (SndL.c (s_ior (by decide +kernel)) (SndL.c (s_invV (r := (RX1, TX1, 3)) (ci := 2) okX1_areSeats rfl (by decide) rfl rfl w_4_111 w_4_112 w_4_113 (by decide +kernel)) (SndL.c (s_fail) (SndL.c (s_fail) (SndL.c (s_if_ne (off := 9) (by decide +kernel) (by decide)) (SndL.c (s_fail) (SndL.c (s_fail) (SndL.c (s_aload_n (k := 0) (by decide +kernel) rfl) (SndL.c (s_iconst (by decide +kernel) (in32_d (by decide))) (SndL.c (s_invV (r := (RX11, TX11, 14)) (ci := 12) okX11_refused rfl (by decide) rfl rfl w_1_239 w_2_1 v_0 (by decide +kernel)) (SndL.c (s_fail) (SndL.c (s_fail) (SndL.c (s_ret_i rfl (by decide +kernel)) (SndL.c (s_aload_n (k := 0) (by decide +kernel) rfl) (SndL.c (s_getf (k := 5) clok12 (by decide) rfl (by decide) rfl w_1_197 (Or.inl rfl) (by decide +kernel)) (SndL.n))))))))))))))))
def kX11_decide_3 : List En := [(1, oFail), (1, oFail), (0, oIload 3 51), (0, oIload 4 53), (1, oFail), (0, oIor 54), (0, oRload 5 56), (1, oFail), (0, oGetf 2 0 0 59), (1, oFail), (1, oFail), (2, oInvV 3 mX1_countOf 2 62), (1, oFail), (1, oFail), (0, oIstore 7 64), (1, oFail)]
set_option maxRecDepth 20000 in
theorem zX11_decide_3 : SndL mX11_decide 48 kX11_decide_3 := SndL.c (s_fail) (SndL.c (s_fail) (SndL.c (s_iload_n (k := 3) (by decide +kernel) rfl) (SndL.c (s_iload (by decide +kernel)) (SndL.c (s_fail) (SndL.c (s_ior (by decide +kernel)) (SndL.c (s_aload (by decide +kernel)) (SndL.c (s_fail) (SndL.c (s_getf (k := 0) clok1 (by decide) rfl (by decide) rfl w_2_83 (Or.inl rfl) (by decide +kernel)) (SndL.c (s_fail) (SndL.c (s_fail) (SndL.c (s_invV (r := (RX1, TX1, 3)) (ci := 2) okX1_countOf rfl (by decide) rfl rfl w_4_115 w_4_116 w_4_117 (by decide +kernel)) (SndL.c (s_fail) (SndL.c (s_fail) (SndL.c (s_istore (by decide +kernel) (by decide)) (SndL.c (s_fail) (SndL.n))))))))))))))))
def kX11_decide_4 : List En := [(0, oIload 3 65), (0, oIload 4 67), (1, oFail), (0, oIand 68), (0, oIfNe 77 71), (1, oFail), (1, oFail), (0, oIload 7 73), (1, oFail), (0, oPush (vI 3) 74), (0, oIcGe 84 77), (1, oFail), (1, oFail), (0, oRload 0 78), (0, oPush (vI (-6)) 80), (1, oFail)]
set_option maxRecDepth 20000 in
theorem zX11_decide_4 : SndL mX11_decide 64 kX11_decide_4 := SndL.c (s_iload_n (k := 3) (by decide +kernel) rfl) (SndL.c (s_iload (by decide +kernel)) (SndL.c (s_fail) (SndL.c (s_iand (by decide +kernel)) (SndL.c (s_if_ne (off := 9) (by decide +kernel) (by decide)) (SndL.c (s_fail) (SndL.c (s_fail) (SndL.c (s_iload (by decide +kernel)) (SndL.c (s_fail) (SndL.c (s_iconst (by decide +kernel) (in32_d (by decide))) (SndL.c (s_ic_ge (off := 10) (by decide +kernel) (by decide)) (SndL.c (s_fail) (SndL.c (s_fail) (SndL.c (s_aload_n (k := 0) (by decide +kernel) rfl) (SndL.c (s_bipush (by decide +kernel) (in32_d (by decide)) (by decide +kernel)) (SndL.c (s_fail) (SndL.n))))))))))))))))
def kX11_decide_5 : List En := [(2, oInvV 13 mX11_refused 1 83), (1, oFail), (1, oFail), (0, oRetI), (0, oRload 0 85), (0, oGetf 13 5 2 88), (1, oFail), (1, oFail), (0, oGetf 3 2 2 91), (1, oFail), (1, oFail), (2, oInvV 1 mJx4a65c_size_8abf5 0 94), (1, oFail), (1, oFail), (0, oPush (vI 40) 96), (1, oFail)]
set_option maxRecDepth 20000 in
theorem zX11_decide_5 : SndL mX11_decide 80 kX11_decide_5 := SndL.c (s_invV (r := (RX11, TX11, 14)) (ci := 12) okX11_refused rfl (by decide) rfl rfl w_1_239 w_2_1 v_0 (by decide +kernel)) (SndL.c (s_fail) (SndL.c (s_fail) (SndL.c (s_ret_i rfl (by decide +kernel)) (SndL.c (s_aload_n (k := 0) (by decide +kernel) rfl) (SndL.c (s_getf (k := 5) clok12 (by decide) rfl (by decide) rfl w_1_197 (Or.inl rfl) (by decide +kernel)) (SndL.c (s_fail) (SndL.c (s_fail) (SndL.c (s_getf (k := 2) clok2 (by decide) rfl (by decide) rfl w_1_96 (Or.inl rfl) (by decide +kernel)) (SndL.c (s_fail) (SndL.c (s_fail) (SndL.c (s_invV (r := (RJx4a65c, TJx4a65c, 3)) (ci := 0) okJx4a65c_size_8abf5 rfl (by decide) rfl rfl w_2_63 w_2_64 w_2_65 (by decide +kernel)) (SndL.c (s_fail) (SndL.c (s_fail) (SndL.c (s_bipush (by decide +kernel) (in32_d (by decide)) (by decide +kernel)) (SndL.c (s_fail) (SndL.n))))))))))))))))
def kX11_decide_6 : List En := [(0, oIcLt 106 99), (1, oFail), (1, oFail), (0, oRload 0 100), (0, oPush (vI (-7)) 102), (1, oFail), (2, oInvV 13 mX11_refused 1 105), (1, oFail), (1, oFail), (0, oRetI), (0, oNew 10 14 109), (1, oFail), (1, oFail), (0, oDup 110), (0, oRload 5 112), (1, oFail)]
set_option maxRecDepth 20000 in
theorem zX11_decide_6 : SndL mX11_decide 96 kX11_decide_6 := SndL.c (s_ic_lt (off := 10) (by decide +kernel) (by decide)) (SndL.c (s_fail) (SndL.c (s_fail) (SndL.c (s_aload_n (k := 0) (by decide +kernel) rfl) (SndL.c (s_bipush (by decide +kernel) (in32_d (by decide)) (by decide +kernel)) (SndL.c (s_fail) (SndL.c (s_invV (r := (RX11, TX11, 14)) (ci := 12) okX11_refused rfl (by decide) rfl rfl w_1_239 w_2_1 v_0 (by decide +kernel)) (SndL.c (s_fail) (SndL.c (s_fail) (SndL.c (s_ret_i rfl (by decide +kernel)) (SndL.c (s_new clok9 (by decide) rfl rfl w_4_123 w_4_124 w_1_25 (by decide +kernel)) (SndL.c (s_fail) (SndL.c (s_fail) (SndL.c (s_dup (by decide +kernel)) (SndL.c (s_aload (by decide +kernel)) (SndL.c (s_fail) (SndL.n))))))))))))))))
def kX11_decide_7 : List En := [(0, oRload 6 114), (1, oFail), (0, oRload 0 115), (0, oGetf 13 11 0 118), (1, oFail), (1, oFail), (0, oIload 3 119), (0, oIload 4 121), (1, oFail), (2, oInvI mX8_init 5 124), (1, oFail), (1, oFail), (0, oRstore 8 126), (1, oFail), (0, oRload 8 128), (1, oFail)]
set_option maxRecDepth 20000 in
theorem zX11_decide_7 : SndL mX11_decide 112 kX11_decide_7 := SndL.c (s_aload (by decide +kernel)) (SndL.c (s_fail) (SndL.c (s_aload_n (k := 0) (by decide +kernel) rfl) (SndL.c (s_getf (k := 11) clok12 (by decide) rfl (by decide) rfl w_1_203 (Or.inl rfl) (by decide +kernel)) (SndL.c (s_fail) (SndL.c (s_fail) (SndL.c (s_iload_n (k := 3) (by decide +kernel) rfl) (SndL.c (s_iload (by decide +kernel)) (SndL.c (s_fail) (SndL.c (s_invI okX8_init rfl rfl w_4_125 w_4_126 (by decide +kernel)) (SndL.c (s_fail) (SndL.c (s_fail) (SndL.c (s_astore (by decide +kernel) (by decide)) (SndL.c (s_fail) (SndL.c (s_aload (by decide +kernel)) (SndL.c (s_fail) (SndL.n))))))))))))))))
def kX11_decide_8 : List En := [(0, oIload 7 130), (1, oFail), (0, oPutf 10 8 0 133), (1, oFail), (1, oFail), (0, oRload 8 135), (1, oFail), (0, oRload 0 136), (0, oGetf 13 5 2 139), (1, oFail), (1, oFail), (0, oRload 8 141), (1, oFail), (2, oInvV 3 mX1_wouldBar 1 144), (1, oFail), (1, oFail)]
set_option maxRecDepth 20000 in
theorem zX11_decide_8 : SndL mX11_decide 128 kX11_decide_8 := SndL.c (s_iload (by decide +kernel)) (SndL.c (s_fail) (SndL.c (s_putf (k := 8) clok9 (by decide) rfl (by decide) rfl w_4_152 (Or.inl rfl) (Or.inl rfl) (by decide +kernel)) (SndL.c (s_fail) (SndL.c (s_fail) (SndL.c (s_aload (by decide +kernel)) (SndL.c (s_fail) (SndL.c (s_aload_n (k := 0) (by decide +kernel) rfl) (SndL.c (s_getf (k := 5) clok12 (by decide) rfl (by decide) rfl w_1_197 (Or.inl rfl) (by decide +kernel)) (SndL.c (s_fail) (SndL.c (s_fail) (SndL.c (s_aload (by decide +kernel)) (SndL.c (s_fail) (SndL.c (s_invV (r := (RX1, TX1, 3)) (ci := 2) okX1_wouldBar rfl (by decide) rfl rfl w_4_196 w_4_197 w_4_198 (by decide +kernel)) (SndL.c (s_fail) (SndL.c (s_fail) (SndL.n))))))))))))))))
def kX11_decide_9 : List En := [(0, oPutf 10 9 3 147), (1, oFail), (1, oFail), (0, oRload 8 149), (1, oFail), (0, oRload 0 150), (0, oGetf 13 5 2 153), (1, oFail), (1, oFail), (0, oRload 5 155), (1, oFail), (0, oGetf 2 0 0 158), (1, oFail), (1, oFail), (0, oRload 6 160), (1, oFail)]
set_option maxRecDepth 20000 in
theorem zX11_decide_9 : SndL mX11_decide 144 kX11_decide_9 := SndL.c (s_putf (k := 9) clok9 (by decide) rfl (by decide) rfl w_4_155 (Or.inl rfl) (Or.inl rfl) (by decide +kernel)) (SndL.c (s_fail) (SndL.c (s_fail) (SndL.c (s_aload (by decide +kernel)) (SndL.c (s_fail) (SndL.c (s_aload_n (k := 0) (by decide +kernel) rfl) (SndL.c (s_getf (k := 5) clok12 (by decide) rfl (by decide) rfl w_1_197 (Or.inl rfl) (by decide +kernel)) (SndL.c (s_fail) (SndL.c (s_fail) (SndL.c (s_aload (by decide +kernel)) (SndL.c (s_fail) (SndL.c (s_getf (k := 0) clok1 (by decide) rfl (by decide) rfl w_2_83 (Or.inl rfl) (by decide +kernel)) (SndL.c (s_fail) (SndL.c (s_fail) (SndL.c (s_aload (by decide +kernel)) (SndL.c (s_fail) (SndL.n))))))))))))))))
def kX11_decide_10 : List En := [(0, oRload 0 161), (0, oGetf 13 11 0 164), (1, oFail), (1, oFail), (0, oRload 0 165), (0, oGetf 13 11 0 168), (1, oFail), (1, oFail), (2, oInvV 3 mX1_isSaidAgain 4 171), (1, oFail), (1, oFail), (0, oPutf 10 10 3 174), (1, oFail), (1, oFail), (0, oRload 8 176), (1, oFail)]
set_option maxRecDepth 20000 in
theorem zX11_decide_10 : SndL mX11_decide 160 kX11_decide_10 := SndL.c (s_aload_n (k := 0) (by decide +kernel) rfl) (SndL.c (s_getf (k := 11) clok12 (by decide) rfl (by decide) rfl w_1_203 (Or.inl rfl) (by decide +kernel)) (SndL.c (s_fail) (SndL.c (s_fail) (SndL.c (s_aload_n (k := 0) (by decide +kernel) rfl) (SndL.c (s_getf (k := 11) clok12 (by decide) rfl (by decide) rfl w_1_203 (Or.inl rfl) (by decide +kernel)) (SndL.c (s_fail) (SndL.c (s_fail) (SndL.c (s_invV (r := (RX1, TX1, 3)) (ci := 2) okX1_isSaidAgain rfl (by decide) rfl rfl w_3_134 w_3_135 w_3_136 (by decide +kernel)) (SndL.c (s_fail) (SndL.c (s_fail) (SndL.c (s_putf (k := 10) clok9 (by decide) rfl (by decide) rfl w_4_158 (Or.inl rfl) (Or.inl rfl) (by decide +kernel)) (SndL.c (s_fail) (SndL.c (s_fail) (SndL.c (s_aload (by decide +kernel)) (SndL.c (s_fail) (SndL.n))))))))))))))))
def kX11_decide_11 : List En := [(0, oRload 0 177), (0, oGetf 13 5 2 180), (1, oFail), (1, oFail), (0, oRload 5 182), (1, oFail), (0, oGetf 2 1 0 185), (1, oFail), (1, oFail), (0, oRload 6 187), (1, oFail), (2, oInvV 3 mX1_bindingOn 2 190), (1, oFail), (1, oFail), (0, oPutf 10 12 0 193), (1, oFail)]
set_option maxRecDepth 20000 in
theorem zX11_decide_11 : SndL mX11_decide 176 kX11_decide_11 := SndL.c (s_aload_n (k := 0) (by decide +kernel) rfl) (SndL.c (s_getf (k := 5) clok12 (by decide) rfl (by decide) rfl w_1_197 (Or.inl rfl) (by decide +kernel)) (SndL.c (s_fail) (SndL.c (s_fail) (SndL.c (s_aload (by decide +kernel)) (SndL.c (s_fail) (SndL.c (s_getf (k := 1) clok1 (by decide) rfl (by decide) rfl w_2_86 (Or.inl rfl) (by decide +kernel)) (SndL.c (s_fail) (SndL.c (s_fail) (SndL.c (s_aload (by decide +kernel)) (SndL.c (s_fail) (SndL.c (s_invV (r := (RX1, TX1, 3)) (ci := 2) okX1_bindingOn rfl (by decide) rfl rfl w_4_201 w_4_202 w_4_203 (by decide +kernel)) (SndL.c (s_fail) (SndL.c (s_fail) (SndL.c (s_putf (k := 12) clok9 (by decide) rfl (by decide) rfl w_4_163 (Or.inl rfl) (Or.inl rfl) (by decide +kernel)) (SndL.c (s_fail) (SndL.n))))))))))))))))
def kX11_decide_12 : List En := [(1, oFail), (0, oRload 0 194), (0, oGetf 13 5 2 197), (1, oFail), (1, oFail), (0, oGetf 3 2 2 200), (1, oFail), (1, oFail), (0, oRload 8 202), (1, oFail), (2, oInvV 1 mJx4a65c_add_9ea2d 1 205), (1, oFail), (1, oFail), (0, oPop 206), (0, oRload 0 207), (0, oGetf 13 5 2 210)]
set_option maxRecDepth 20000 in
theorem zX11_decide_12 : SndL mX11_decide 192 kX11_decide_12 := SndL.c (s_fail) (SndL.c (s_aload_n (k := 0) (by decide +kernel) rfl) (SndL.c (s_getf (k := 5) clok12 (by decide) rfl (by decide) rfl w_1_197 (Or.inl rfl) (by decide +kernel)) (SndL.c (s_fail) (SndL.c (s_fail) (SndL.c (s_getf (k := 2) clok2 (by decide) rfl (by decide) rfl w_1_96 (Or.inl rfl) (by decide +kernel)) (SndL.c (s_fail) (SndL.c (s_fail) (SndL.c (s_aload (by decide +kernel)) (SndL.c (s_fail) (SndL.c (s_invV (r := (RJx4a65c, TJx4a65c, 3)) (ci := 0) okJx4a65c_add_9ea2d rfl (by decide) rfl rfl w_2_124 w_2_125 w_2_126 (by decide +kernel)) (SndL.c (s_fail) (SndL.c (s_fail) (SndL.c (s_pop (by decide +kernel)) (SndL.c (s_aload_n (k := 0) (by decide +kernel) rfl) (SndL.c (s_getf (k := 5) clok12 (by decide) rfl (by decide) rfl w_1_197 (Or.inl rfl) (by decide +kernel)) (SndL.n))))))))))))))))
def kX11_decide_13 : List En := [(1, oFail), (1, oFail), (0, oGetf 3 2 2 213), (1, oFail), (1, oFail), (2, oInvV 1 mJx4a65c_size_8abf5 0 216), (1, oFail), (1, oFail), (0, oPush (vI 1) 217), (0, oIsub 218), (0, oRetI)]
set_option maxRecDepth 20000 in
theorem zX11_decide_13 : SndL mX11_decide 208 kX11_decide_13 := SndL.c (s_fail) (SndL.c (s_fail) (SndL.c (s_getf (k := 2) clok2 (by decide) rfl (by decide) rfl w_1_96 (Or.inl rfl) (by decide +kernel)) (SndL.c (s_fail) (SndL.c (s_fail) (SndL.c (s_invV (r := (RJx4a65c, TJx4a65c, 3)) (ci := 0) okJx4a65c_size_8abf5 rfl (by decide) rfl rfl w_2_63 w_2_64 w_2_65 (by decide +kernel)) (SndL.c (s_fail) (SndL.c (s_fail) (SndL.c (s_iconst (by decide +kernel) (in32_d (by decide))) (SndL.c (s_isub (by decide +kernel)) (SndL.c (s_ret_i rfl (by decide +kernel)) (SndL.n)))))))))))
def kX11_decide : Cd := [kX11_decide_0, kX11_decide_1, kX11_decide_2, kX11_decide_3, kX11_decide_4, kX11_decide_5, kX11_decide_6, kX11_decide_7, kX11_decide_8, kX11_decide_9, kX11_decide_10, kX11_decide_11, kX11_decide_12, kX11_decide_13]
theorem zX11_decide : SndC mX11_decide 0 kX11_decide := SndC.c zX11_decide_0 (by decide) (SndC.c zX11_decide_1 (by decide) (SndC.c zX11_decide_2 (by decide) (SndC.c zX11_decide_3 (by decide) (SndC.c zX11_decide_4 (by decide) (SndC.c zX11_decide_5 (by decide) (SndC.c zX11_decide_6 (by decide) (SndC.c zX11_decide_7 (by decide) (SndC.c zX11_decide_8 (by decide) (SndC.c zX11_decide_9 (by decide) (SndC.c zX11_decide_10 (by decide) (SndC.c zX11_decide_11 (by decide) (SndC.c zX11_decide_12 (by decide) (SndC.c zX11_decide_13 (by decide) (SndC.n))))))))))))))
theorem aX11_decide_0 : at_ kX11_decide 0 = (0, oRload 0 1) := rfl
theorem aX11_decide_1 : at_ kX11_decide 1 = (0, oIload 1 2) := rfl
theorem aX11_decide_2 : at_ kX11_decide 2 = (2, oInvV 13 mX11_advertOf 1 5) := rfl
theorem aX11_decide_5 : at_ kX11_decide 5 = (0, oRstore 5 7) := rfl
theorem aX11_decide_7 : at_ kX11_decide 7 = (0, oRload 0 8) := rfl
theorem aX11_decide_8 : at_ kX11_decide 8 = (0, oRload 5 10) := rfl
theorem aX11_decide_10 : at_ kX11_decide 10 = (0, oIload 2 11) := rfl
theorem aX11_decide_11 : at_ kX11_decide 11 = (2, oInvV 13 mX11_claimNow 2 14) := rfl
theorem aX11_decide_14 : at_ kX11_decide 14 = (0, oRstore 6 16) := rfl
theorem aX11_decide_16 : at_ kX11_decide 16 = (0, oRload 5 18) := rfl
theorem aX11_decide_18 : at_ kX11_decide 18 = (0, oIfnull 40 21) := rfl
theorem aX11_decide_21 : at_ kX11_decide 21 = (0, oRload 6 23) := rfl
theorem aX11_decide_23 : at_ kX11_decide 23 = (0, oIfnull 40 26) := rfl
theorem aX11_decide_26 : at_ kX11_decide 26 = (0, oRload 0 27) := rfl
theorem aX11_decide_27 : at_ kX11_decide 27 = (0, oGetf 13 5 2 30) := rfl
theorem aX11_decide_30 : at_ kX11_decide 30 = (0, oIload 3 31) := rfl
theorem aX11_decide_31 : at_ kX11_decide 31 = (0, oIload 4 33) := rfl
theorem aX11_decide_33 : at_ kX11_decide 33 = (0, oIor 34) := rfl
theorem aX11_decide_34 : at_ kX11_decide 34 = (2, oInvV 3 mX1_areSeats 1 37) := rfl
theorem aX11_decide_37 : at_ kX11_decide 37 = (0, oIfNe 46 40) := rfl
theorem aX11_decide_40 : at_ kX11_decide 40 = (0, oRload 0 41) := rfl
theorem aX11_decide_41 : at_ kX11_decide 41 = (0, oPush (vI (-1)) 42) := rfl
theorem aX11_decide_42 : at_ kX11_decide 42 = (2, oInvV 13 mX11_refused 1 45) := rfl
theorem aX11_decide_45 : at_ kX11_decide 45 = (0, oRetI) := rfl
theorem aX11_decide_46 : at_ kX11_decide 46 = (0, oRload 0 47) := rfl
theorem aX11_decide_47 : at_ kX11_decide 47 = (0, oGetf 13 5 2 50) := rfl
theorem aX11_decide_50 : at_ kX11_decide 50 = (0, oIload 3 51) := rfl
theorem aX11_decide_51 : at_ kX11_decide 51 = (0, oIload 4 53) := rfl
theorem aX11_decide_53 : at_ kX11_decide 53 = (0, oIor 54) := rfl
theorem aX11_decide_54 : at_ kX11_decide 54 = (0, oRload 5 56) := rfl
theorem aX11_decide_56 : at_ kX11_decide 56 = (0, oGetf 2 0 0 59) := rfl
theorem aX11_decide_59 : at_ kX11_decide 59 = (2, oInvV 3 mX1_countOf 2 62) := rfl
theorem aX11_decide_62 : at_ kX11_decide 62 = (0, oIstore 7 64) := rfl
theorem aX11_decide_64 : at_ kX11_decide 64 = (0, oIload 3 65) := rfl
theorem aX11_decide_65 : at_ kX11_decide 65 = (0, oIload 4 67) := rfl
theorem aX11_decide_67 : at_ kX11_decide 67 = (0, oIand 68) := rfl
theorem aX11_decide_68 : at_ kX11_decide 68 = (0, oIfNe 77 71) := rfl
theorem aX11_decide_71 : at_ kX11_decide 71 = (0, oIload 7 73) := rfl
theorem aX11_decide_73 : at_ kX11_decide 73 = (0, oPush (vI 3) 74) := rfl
theorem aX11_decide_74 : at_ kX11_decide 74 = (0, oIcGe 84 77) := rfl
theorem aX11_decide_77 : at_ kX11_decide 77 = (0, oRload 0 78) := rfl
theorem aX11_decide_78 : at_ kX11_decide 78 = (0, oPush (vI (-6)) 80) := rfl
theorem aX11_decide_80 : at_ kX11_decide 80 = (2, oInvV 13 mX11_refused 1 83) := rfl
theorem aX11_decide_83 : at_ kX11_decide 83 = (0, oRetI) := rfl
theorem aX11_decide_84 : at_ kX11_decide 84 = (0, oRload 0 85) := rfl
theorem aX11_decide_85 : at_ kX11_decide 85 = (0, oGetf 13 5 2 88) := rfl
theorem aX11_decide_88 : at_ kX11_decide 88 = (0, oGetf 3 2 2 91) := rfl
theorem aX11_decide_91 : at_ kX11_decide 91 = (2, oInvV 1 mJx4a65c_size_8abf5 0 94) := rfl
theorem aX11_decide_94 : at_ kX11_decide 94 = (0, oPush (vI 40) 96) := rfl
theorem aX11_decide_96 : at_ kX11_decide 96 = (0, oIcLt 106 99) := rfl
theorem aX11_decide_99 : at_ kX11_decide 99 = (0, oRload 0 100) := rfl
theorem aX11_decide_100 : at_ kX11_decide 100 = (0, oPush (vI (-7)) 102) := rfl
theorem aX11_decide_102 : at_ kX11_decide 102 = (2, oInvV 13 mX11_refused 1 105) := rfl
theorem aX11_decide_105 : at_ kX11_decide 105 = (0, oRetI) := rfl
theorem aX11_decide_106 : at_ kX11_decide 106 = (0, oNew 10 14 109) := rfl
theorem aX11_decide_109 : at_ kX11_decide 109 = (0, oDup 110) := rfl
theorem aX11_decide_110 : at_ kX11_decide 110 = (0, oRload 5 112) := rfl
theorem aX11_decide_112 : at_ kX11_decide 112 = (0, oRload 6 114) := rfl
theorem aX11_decide_114 : at_ kX11_decide 114 = (0, oRload 0 115) := rfl
theorem aX11_decide_115 : at_ kX11_decide 115 = (0, oGetf 13 11 0 118) := rfl
theorem aX11_decide_118 : at_ kX11_decide 118 = (0, oIload 3 119) := rfl
theorem aX11_decide_119 : at_ kX11_decide 119 = (0, oIload 4 121) := rfl
theorem aX11_decide_121 : at_ kX11_decide 121 = (2, oInvI mX8_init 5 124) := rfl
theorem aX11_decide_124 : at_ kX11_decide 124 = (0, oRstore 8 126) := rfl
theorem aX11_decide_126 : at_ kX11_decide 126 = (0, oRload 8 128) := rfl
theorem aX11_decide_128 : at_ kX11_decide 128 = (0, oIload 7 130) := rfl
theorem aX11_decide_130 : at_ kX11_decide 130 = (0, oPutf 10 8 0 133) := rfl
theorem aX11_decide_133 : at_ kX11_decide 133 = (0, oRload 8 135) := rfl
theorem aX11_decide_135 : at_ kX11_decide 135 = (0, oRload 0 136) := rfl
theorem aX11_decide_136 : at_ kX11_decide 136 = (0, oGetf 13 5 2 139) := rfl
theorem aX11_decide_139 : at_ kX11_decide 139 = (0, oRload 8 141) := rfl
theorem aX11_decide_141 : at_ kX11_decide 141 = (2, oInvV 3 mX1_wouldBar 1 144) := rfl
theorem aX11_decide_144 : at_ kX11_decide 144 = (0, oPutf 10 9 3 147) := rfl
theorem aX11_decide_147 : at_ kX11_decide 147 = (0, oRload 8 149) := rfl
theorem aX11_decide_149 : at_ kX11_decide 149 = (0, oRload 0 150) := rfl
theorem aX11_decide_150 : at_ kX11_decide 150 = (0, oGetf 13 5 2 153) := rfl
theorem aX11_decide_153 : at_ kX11_decide 153 = (0, oRload 5 155) := rfl
theorem aX11_decide_155 : at_ kX11_decide 155 = (0, oGetf 2 0 0 158) := rfl
theorem aX11_decide_158 : at_ kX11_decide 158 = (0, oRload 6 160) := rfl
theorem aX11_decide_160 : at_ kX11_decide 160 = (0, oRload 0 161) := rfl
theorem aX11_decide_161 : at_ kX11_decide 161 = (0, oGetf 13 11 0 164) := rfl
theorem aX11_decide_164 : at_ kX11_decide 164 = (0, oRload 0 165) := rfl
theorem aX11_decide_165 : at_ kX11_decide 165 = (0, oGetf 13 11 0 168) := rfl
theorem aX11_decide_168 : at_ kX11_decide 168 = (2, oInvV 3 mX1_isSaidAgain 4 171) := rfl
theorem aX11_decide_171 : at_ kX11_decide 171 = (0, oPutf 10 10 3 174) := rfl
theorem aX11_decide_174 : at_ kX11_decide 174 = (0, oRload 8 176) := rfl
theorem aX11_decide_176 : at_ kX11_decide 176 = (0, oRload 0 177) := rfl
theorem aX11_decide_177 : at_ kX11_decide 177 = (0, oGetf 13 5 2 180) := rfl
theorem aX11_decide_180 : at_ kX11_decide 180 = (0, oRload 5 182) := rfl
theorem aX11_decide_182 : at_ kX11_decide 182 = (0, oGetf 2 1 0 185) := rfl
theorem aX11_decide_185 : at_ kX11_decide 185 = (0, oRload 6 187) := rfl
theorem aX11_decide_187 : at_ kX11_decide 187 = (2, oInvV 3 mX1_bindingOn 2 190) := rfl
theorem aX11_decide_190 : at_ kX11_decide 190 = (0, oPutf 10 12 0 193) := rfl
theorem aX11_decide_193 : at_ kX11_decide 193 = (0, oRload 0 194) := rfl
theorem aX11_decide_194 : at_ kX11_decide 194 = (0, oGetf 13 5 2 197) := rfl
theorem aX11_decide_197 : at_ kX11_decide 197 = (0, oGetf 3 2 2 200) := rfl
theorem aX11_decide_200 : at_ kX11_decide 200 = (0, oRload 8 202) := rfl
theorem aX11_decide_202 : at_ kX11_decide 202 = (2, oInvV 1 mJx4a65c_add_9ea2d 1 205) := rfl
theorem aX11_decide_205 : at_ kX11_decide 205 = (0, oPop 206) := rfl
theorem aX11_decide_206 : at_ kX11_decide 206 = (0, oRload 0 207) := rfl
theorem aX11_decide_207 : at_ kX11_decide 207 = (0, oGetf 13 5 2 210) := rfl
theorem aX11_decide_210 : at_ kX11_decide 210 = (0, oGetf 3 2 2 213) := rfl
theorem aX11_decide_213 : at_ kX11_decide 213 = (2, oInvV 1 mJx4a65c_size_8abf5 0 216) := rfl
theorem aX11_decide_216 : at_ kX11_decide 216 = (0, oPush (vI 1) 217) := rfl
theorem aX11_decide_217 : at_ kX11_decide 217 = (0, oIsub 218) := rfl
theorem aX11_decide_218 : at_ kX11_decide 218 = (0, oRetI) := rfl
def kX11_ruling_0 : List En := [(0, oRload 0 1), (0, oGetf 13 5 2 4), (1, oFail), (1, oFail), (0, oIload 1 5), (2, oInvV 3 mX1_rulingOf 1 8), (1, oFail), (1, oFail), (0, oRstore 3 9), (0, oRload 3 10), (0, oIfnonnull 15 13), (1, oFail), (1, oFail), (0, oPush (vI (-1)) 14), (0, oRetI), (0, oIload 2 16)]
set_option maxRecDepth 20000 in
theorem zX11_ruling_0 : SndL mX11_ruling 0 kX11_ruling_0 := SndL.c (s_aload_n (k := 0) (by decide +kernel) rfl) (SndL.c (s_getf (k := 5) clok12 (by decide) rfl (by decide) rfl w_1_197 (Or.inl rfl) (by decide +kernel)) (SndL.c (s_fail) (SndL.c (s_fail) (SndL.c (s_iload_n (k := 1) (by decide +kernel) rfl) (SndL.c (s_invV (r := (RX1, TX1, 3)) (ci := 2) okX1_rulingOf rfl (by decide) rfl rfl w_4_216 w_4_217 w_4_218 (by decide +kernel)) (SndL.c (s_fail) (SndL.c (s_fail) (SndL.c (s_astore_n (k := 3) (by decide +kernel) rfl (by decide)) (SndL.c (s_aload_n (k := 3) (by decide +kernel) rfl) (SndL.c (s_ifnonnull (off := 5) (by decide +kernel) (by decide)) (SndL.c (s_fail) (SndL.c (s_fail) (SndL.c (s_iconst (by decide +kernel) (in32_d (by decide))) (SndL.c (s_ret_i rfl (by decide +kernel)) (SndL.c (s_iload_n (k := 2) (by decide +kernel) rfl) (SndL.n))))))))))))))))
def kX11_ruling_1 : List En := [(0, oSwitch 0 10 [76, 81, 86, 91, 96, 101, 106, 114, 122, 127, 132] 137), (1, oFail), (1, oFail), (1, oFail), (1, oFail), (1, oFail), (1, oFail), (1, oFail), (1, oFail), (1, oFail), (1, oFail), (1, oFail), (1, oFail), (1, oFail), (1, oFail), (1, oFail)]
set_option maxRecDepth 20000 in
theorem zX11_ruling_1 : SndL mX11_ruling 16 kX11_ruling_1 := SndL.c (s_switch2 (dflt := 121) (lo := 0) (hi := 10) (len := 60) (offs := #[60, 65, 70, 75, 80, 85, 90, 98, 106, 111, 116]) (by decide +kernel) (by decide) (by decide +kernel) (by decide +kernel)) (SndL.c (s_fail) (SndL.c (s_fail) (SndL.c (s_fail) (SndL.c (s_fail) (SndL.c (s_fail) (SndL.c (s_fail) (SndL.c (s_fail) (SndL.c (s_fail) (SndL.c (s_fail) (SndL.c (s_fail) (SndL.c (s_fail) (SndL.c (s_fail) (SndL.c (s_fail) (SndL.c (s_fail) (SndL.c (s_fail) (SndL.n))))))))))))))))
def kX11_ruling_2 : List En := [(1, oFail), (1, oFail), (1, oFail), (1, oFail), (1, oFail), (1, oFail), (1, oFail), (1, oFail), (1, oFail), (1, oFail), (1, oFail), (1, oFail), (1, oFail), (1, oFail), (1, oFail), (1, oFail)]
set_option maxRecDepth 20000 in
theorem zX11_ruling_2 : SndL mX11_ruling 32 kX11_ruling_2 := SndL.c (s_fail) (SndL.c (s_fail) (SndL.c (s_fail) (SndL.c (s_fail) (SndL.c (s_fail) (SndL.c (s_fail) (SndL.c (s_fail) (SndL.c (s_fail) (SndL.c (s_fail) (SndL.c (s_fail) (SndL.c (s_fail) (SndL.c (s_fail) (SndL.c (s_fail) (SndL.c (s_fail) (SndL.c (s_fail) (SndL.c (s_fail) (SndL.n))))))))))))))))
def kX11_ruling_3 : List En := [(1, oFail), (1, oFail), (1, oFail), (1, oFail), (1, oFail), (1, oFail), (1, oFail), (1, oFail), (1, oFail), (1, oFail), (1, oFail), (1, oFail), (1, oFail), (1, oFail), (1, oFail), (1, oFail)]
set_option maxRecDepth 20000 in
theorem zX11_ruling_3 : SndL mX11_ruling 48 kX11_ruling_3 := SndL.c (s_fail) (SndL.c (s_fail) (SndL.c (s_fail) (SndL.c (s_fail) (SndL.c (s_fail) (SndL.c (s_fail) (SndL.c (s_fail) (SndL.c (s_fail) (SndL.c (s_fail) (SndL.c (s_fail) (SndL.c (s_fail) (SndL.c (s_fail) (SndL.c (s_fail) (SndL.c (s_fail) (SndL.c (s_fail) (SndL.c (s_fail) (SndL.n))))))))))))))))
def kX11_ruling_4 : List En := [(1, oFail), (1, oFail), (1, oFail), (1, oFail), (1, oFail), (1, oFail), (1, oFail), (1, oFail), (1, oFail), (1, oFail), (1, oFail), (1, oFail), (0, oRload 3 77), (0, oGetf 10 0 0 80), (1, oFail), (1, oFail)]
set_option maxRecDepth 20000 in
theorem zX11_ruling_4 : SndL mX11_ruling 64 kX11_ruling_4 := SndL.c (s_fail) (SndL.c (s_fail) (SndL.c (s_fail) (SndL.c (s_fail) (SndL.c (s_fail) (SndL.c (s_fail) (SndL.c (s_fail) (SndL.c (s_fail) (SndL.c (s_fail) (SndL.c (s_fail) (SndL.c (s_fail) (SndL.c (s_fail) (SndL.c (s_aload_n (k := 3) (by decide +kernel) rfl) (SndL.c (s_getf (k := 0) clok9 (by decide) rfl (by decide) rfl w_4_131 (Or.inl rfl) (by decide +kernel)) (SndL.c (s_fail) (SndL.c (s_fail) (SndL.n))))))))))))))))
def kX11_ruling_5 : List En := [(0, oRetI), (0, oRload 3 82), (0, oGetf 10 1 0 85), (1, oFail), (1, oFail), (0, oRetI), (0, oRload 3 87), (0, oGetf 10 2 0 90), (1, oFail), (1, oFail), (0, oRetI), (0, oRload 3 92), (0, oGetf 10 3 0 95), (1, oFail), (1, oFail), (0, oRetI)]
set_option maxRecDepth 20000 in
theorem zX11_ruling_5 : SndL mX11_ruling 80 kX11_ruling_5 := SndL.c (s_ret_i rfl (by decide +kernel)) (SndL.c (s_aload_n (k := 3) (by decide +kernel) rfl) (SndL.c (s_getf (k := 1) clok9 (by decide) rfl (by decide) rfl w_4_134 (Or.inl rfl) (by decide +kernel)) (SndL.c (s_fail) (SndL.c (s_fail) (SndL.c (s_ret_i rfl (by decide +kernel)) (SndL.c (s_aload_n (k := 3) (by decide +kernel) rfl) (SndL.c (s_getf (k := 2) clok9 (by decide) rfl (by decide) rfl w_4_137 (Or.inl rfl) (by decide +kernel)) (SndL.c (s_fail) (SndL.c (s_fail) (SndL.c (s_ret_i rfl (by decide +kernel)) (SndL.c (s_aload_n (k := 3) (by decide +kernel) rfl) (SndL.c (s_getf (k := 3) clok9 (by decide) rfl (by decide) rfl w_4_140 (Or.inl rfl) (by decide +kernel)) (SndL.c (s_fail) (SndL.c (s_fail) (SndL.c (s_ret_i rfl (by decide +kernel)) (SndL.n))))))))))))))))
def kX11_ruling_6 : List En := [(0, oRload 3 97), (0, oGetf 10 4 0 100), (1, oFail), (1, oFail), (0, oRetI), (0, oRload 3 102), (0, oGetf 10 5 0 105), (1, oFail), (1, oFail), (0, oRetI), (0, oRload 3 107), (0, oGetf 10 9 3 110), (1, oFail), (1, oFail), (2, oInvS mX11_bit 1 113), (1, oFail)]
set_option maxRecDepth 20000 in
theorem zX11_ruling_6 : SndL mX11_ruling 96 kX11_ruling_6 := SndL.c (s_aload_n (k := 3) (by decide +kernel) rfl) (SndL.c (s_getf (k := 4) clok9 (by decide) rfl (by decide) rfl w_4_143 (Or.inl rfl) (by decide +kernel)) (SndL.c (s_fail) (SndL.c (s_fail) (SndL.c (s_ret_i rfl (by decide +kernel)) (SndL.c (s_aload_n (k := 3) (by decide +kernel) rfl) (SndL.c (s_getf (k := 5) clok9 (by decide) rfl (by decide) rfl w_4_146 (Or.inl rfl) (by decide +kernel)) (SndL.c (s_fail) (SndL.c (s_fail) (SndL.c (s_ret_i rfl (by decide +kernel)) (SndL.c (s_aload_n (k := 3) (by decide +kernel) rfl) (SndL.c (s_getf (k := 9) clok9 (by decide) rfl (by decide) rfl w_4_155 (Or.inl rfl) (by decide +kernel)) (SndL.c (s_fail) (SndL.c (s_fail) (SndL.c (s_invS okX11_bit w_3_100 w_3_101 (by decide +kernel)) (SndL.c (s_fail) (SndL.n))))))))))))))))
def kX11_ruling_7 : List En := [(1, oFail), (0, oRetI), (0, oRload 3 115), (0, oGetf 10 10 3 118), (1, oFail), (1, oFail), (2, oInvS mX11_bit 1 121), (1, oFail), (1, oFail), (0, oRetI), (0, oRload 3 123), (0, oGetf 10 12 0 126), (1, oFail), (1, oFail), (0, oRetI), (0, oRload 3 128)]
set_option maxRecDepth 20000 in
theorem zX11_ruling_7 : SndL mX11_ruling 112 kX11_ruling_7 := SndL.c (s_fail) (SndL.c (s_ret_i rfl (by decide +kernel)) (SndL.c (s_aload_n (k := 3) (by decide +kernel) rfl) (SndL.c (s_getf (k := 10) clok9 (by decide) rfl (by decide) rfl w_4_158 (Or.inl rfl) (by decide +kernel)) (SndL.c (s_fail) (SndL.c (s_fail) (SndL.c (s_invS okX11_bit w_3_100 w_3_101 (by decide +kernel)) (SndL.c (s_fail) (SndL.c (s_fail) (SndL.c (s_ret_i rfl (by decide +kernel)) (SndL.c (s_aload_n (k := 3) (by decide +kernel) rfl) (SndL.c (s_getf (k := 12) clok9 (by decide) rfl (by decide) rfl w_4_163 (Or.inl rfl) (by decide +kernel)) (SndL.c (s_fail) (SndL.c (s_fail) (SndL.c (s_ret_i rfl (by decide +kernel)) (SndL.c (s_aload_n (k := 3) (by decide +kernel) rfl) (SndL.n))))))))))))))))
def kX11_ruling_8 : List En := [(0, oGetf 10 13 0 131), (1, oFail), (1, oFail), (0, oRetI), (0, oRload 3 133), (0, oGetf 10 8 0 136), (1, oFail), (1, oFail), (0, oRetI), (0, oPush (vI (-1)) 138), (0, oRetI)]
set_option maxRecDepth 20000 in
theorem zX11_ruling_8 : SndL mX11_ruling 128 kX11_ruling_8 := SndL.c (s_getf (k := 13) clok9 (by decide) rfl (by decide) rfl w_4_166 (Or.inl rfl) (by decide +kernel)) (SndL.c (s_fail) (SndL.c (s_fail) (SndL.c (s_ret_i rfl (by decide +kernel)) (SndL.c (s_aload_n (k := 3) (by decide +kernel) rfl) (SndL.c (s_getf (k := 8) clok9 (by decide) rfl (by decide) rfl w_4_152 (Or.inl rfl) (by decide +kernel)) (SndL.c (s_fail) (SndL.c (s_fail) (SndL.c (s_ret_i rfl (by decide +kernel)) (SndL.c (s_iconst (by decide +kernel) (in32_d (by decide))) (SndL.c (s_ret_i rfl (by decide +kernel)) (SndL.n)))))))))))
def kX11_ruling : Cd := [kX11_ruling_0, kX11_ruling_1, kX11_ruling_2, kX11_ruling_3, kX11_ruling_4, kX11_ruling_5, kX11_ruling_6, kX11_ruling_7, kX11_ruling_8]
theorem zX11_ruling : SndC mX11_ruling 0 kX11_ruling := SndC.c zX11_ruling_0 (by decide) (SndC.c zX11_ruling_1 (by decide) (SndC.c zX11_ruling_2 (by decide) (SndC.c zX11_ruling_3 (by decide) (SndC.c zX11_ruling_4 (by decide) (SndC.c zX11_ruling_5 (by decide) (SndC.c zX11_ruling_6 (by decide) (SndC.c zX11_ruling_7 (by decide) (SndC.c zX11_ruling_8 (by decide) (SndC.n)))))))))
theorem aX11_ruling_0 : at_ kX11_ruling 0 = (0, oRload 0 1) := rfl
theorem aX11_ruling_1 : at_ kX11_ruling 1 = (0, oGetf 13 5 2 4) := rfl
theorem aX11_ruling_4 : at_ kX11_ruling 4 = (0, oIload 1 5) := rfl
theorem aX11_ruling_5 : at_ kX11_ruling 5 = (2, oInvV 3 mX1_rulingOf 1 8) := rfl
theorem aX11_ruling_8 : at_ kX11_ruling 8 = (0, oRstore 3 9) := rfl
theorem aX11_ruling_9 : at_ kX11_ruling 9 = (0, oRload 3 10) := rfl
theorem aX11_ruling_10 : at_ kX11_ruling 10 = (0, oIfnonnull 15 13) := rfl
theorem aX11_ruling_13 : at_ kX11_ruling 13 = (0, oPush (vI (-1)) 14) := rfl
theorem aX11_ruling_14 : at_ kX11_ruling 14 = (0, oRetI) := rfl
theorem aX11_ruling_15 : at_ kX11_ruling 15 = (0, oIload 2 16) := rfl
theorem aX11_ruling_16 : at_ kX11_ruling 16 = (0, oSwitch 0 10 [76, 81, 86, 91, 96, 101, 106, 114, 122, 127, 132] 137) := rfl
theorem aX11_ruling_76 : at_ kX11_ruling 76 = (0, oRload 3 77) := rfl
theorem aX11_ruling_77 : at_ kX11_ruling 77 = (0, oGetf 10 0 0 80) := rfl
theorem aX11_ruling_80 : at_ kX11_ruling 80 = (0, oRetI) := rfl
theorem aX11_ruling_81 : at_ kX11_ruling 81 = (0, oRload 3 82) := rfl
theorem aX11_ruling_82 : at_ kX11_ruling 82 = (0, oGetf 10 1 0 85) := rfl
theorem aX11_ruling_85 : at_ kX11_ruling 85 = (0, oRetI) := rfl
theorem aX11_ruling_86 : at_ kX11_ruling 86 = (0, oRload 3 87) := rfl
theorem aX11_ruling_87 : at_ kX11_ruling 87 = (0, oGetf 10 2 0 90) := rfl
theorem aX11_ruling_90 : at_ kX11_ruling 90 = (0, oRetI) := rfl
theorem aX11_ruling_91 : at_ kX11_ruling 91 = (0, oRload 3 92) := rfl
theorem aX11_ruling_92 : at_ kX11_ruling 92 = (0, oGetf 10 3 0 95) := rfl
theorem aX11_ruling_95 : at_ kX11_ruling 95 = (0, oRetI) := rfl
theorem aX11_ruling_96 : at_ kX11_ruling 96 = (0, oRload 3 97) := rfl
theorem aX11_ruling_97 : at_ kX11_ruling 97 = (0, oGetf 10 4 0 100) := rfl
theorem aX11_ruling_100 : at_ kX11_ruling 100 = (0, oRetI) := rfl
theorem aX11_ruling_101 : at_ kX11_ruling 101 = (0, oRload 3 102) := rfl
theorem aX11_ruling_102 : at_ kX11_ruling 102 = (0, oGetf 10 5 0 105) := rfl
theorem aX11_ruling_105 : at_ kX11_ruling 105 = (0, oRetI) := rfl
theorem aX11_ruling_106 : at_ kX11_ruling 106 = (0, oRload 3 107) := rfl
theorem aX11_ruling_107 : at_ kX11_ruling 107 = (0, oGetf 10 9 3 110) := rfl
theorem aX11_ruling_110 : at_ kX11_ruling 110 = (2, oInvS mX11_bit 1 113) := rfl
theorem aX11_ruling_113 : at_ kX11_ruling 113 = (0, oRetI) := rfl
theorem aX11_ruling_114 : at_ kX11_ruling 114 = (0, oRload 3 115) := rfl
theorem aX11_ruling_115 : at_ kX11_ruling 115 = (0, oGetf 10 10 3 118) := rfl
theorem aX11_ruling_118 : at_ kX11_ruling 118 = (2, oInvS mX11_bit 1 121) := rfl
theorem aX11_ruling_121 : at_ kX11_ruling 121 = (0, oRetI) := rfl
theorem aX11_ruling_122 : at_ kX11_ruling 122 = (0, oRload 3 123) := rfl
theorem aX11_ruling_123 : at_ kX11_ruling 123 = (0, oGetf 10 12 0 126) := rfl
theorem aX11_ruling_126 : at_ kX11_ruling 126 = (0, oRetI) := rfl
theorem aX11_ruling_127 : at_ kX11_ruling 127 = (0, oRload 3 128) := rfl
theorem aX11_ruling_128 : at_ kX11_ruling 128 = (0, oGetf 10 13 0 131) := rfl
theorem aX11_ruling_131 : at_ kX11_ruling 131 = (0, oRetI) := rfl
theorem aX11_ruling_132 : at_ kX11_ruling 132 = (0, oRload 3 133) := rfl
theorem aX11_ruling_133 : at_ kX11_ruling 133 = (0, oGetf 10 8 0 136) := rfl
theorem aX11_ruling_136 : at_ kX11_ruling 136 = (0, oRetI) := rfl
theorem aX11_ruling_137 : at_ kX11_ruling 137 = (0, oPush (vI (-1)) 138) := rfl
theorem aX11_ruling_138 : at_ kX11_ruling 138 = (0, oRetI) := rfl
def kX11_kin_0 : List En := [(0, oIload 1 1), (0, oIfLt 22 4), (1, oFail), (1, oFail), (0, oIload 1 5), (0, oRload 0 6), (0, oGetf 13 5 2 9), (1, oFail), (1, oFail), (0, oGetf 3 1 0 12), (1, oFail), (1, oFail), (0, oIcGe 22 15), (1, oFail), (1, oFail), (0, oIload 2 16)]
set_option maxRecDepth 20000 in
theorem zX11_kin_0 : SndL mX11_kin 0 kX11_kin_0 := SndL.c (s_iload_n (k := 1) (by decide +kernel) rfl) (SndL.c (s_if_lt (off := 21) (by decide +kernel) (by decide)) (SndL.c (s_fail) (SndL.c (s_fail) (SndL.c (s_iload_n (k := 1) (by decide +kernel) rfl) (SndL.c (s_aload_n (k := 0) (by decide +kernel) rfl) (SndL.c (s_getf (k := 5) clok12 (by decide) rfl (by decide) rfl w_1_197 (Or.inl rfl) (by decide +kernel)) (SndL.c (s_fail) (SndL.c (s_fail) (SndL.c (s_getf (k := 1) clok2 (by decide) rfl (by decide) rfl w_1_94 (Or.inl rfl) (by decide +kernel)) (SndL.c (s_fail) (SndL.c (s_fail) (SndL.c (s_ic_ge (off := 10) (by decide +kernel) (by decide)) (SndL.c (s_fail) (SndL.c (s_fail) (SndL.c (s_iload_n (k := 2) (by decide +kernel) rfl) (SndL.n))))))))))))))))
def kX11_kin_1 : List En := [(2, oInvS mX11_isFirm 1 19), (1, oFail), (1, oFail), (0, oIfNe 28 22), (1, oFail), (1, oFail), (0, oRload 0 23), (0, oPush (vI (-1)) 24), (2, oInvV 13 mX11_refused 1 27), (1, oFail), (1, oFail), (0, oRetI), (0, oRload 0 29), (0, oGetf 13 5 2 32), (1, oFail), (1, oFail)]
set_option maxRecDepth 20000 in
theorem zX11_kin_1 : SndL mX11_kin 16 kX11_kin_1 := SndL.c (s_invS okX11_isFirm w_2_60 w_2_61 (by decide +kernel)) (SndL.c (s_fail) (SndL.c (s_fail) (SndL.c (s_if_ne (off := 9) (by decide +kernel) (by decide)) (SndL.c (s_fail) (SndL.c (s_fail) (SndL.c (s_aload_n (k := 0) (by decide +kernel) rfl) (SndL.c (s_iconst (by decide +kernel) (in32_d (by decide))) (SndL.c (s_invV (r := (RX11, TX11, 14)) (ci := 12) okX11_refused rfl (by decide) rfl rfl w_1_239 w_2_1 v_0 (by decide +kernel)) (SndL.c (s_fail) (SndL.c (s_fail) (SndL.c (s_ret_i rfl (by decide +kernel)) (SndL.c (s_aload_n (k := 0) (by decide +kernel) rfl) (SndL.c (s_getf (k := 5) clok12 (by decide) rfl (by decide) rfl w_1_197 (Or.inl rfl) (by decide +kernel)) (SndL.c (s_fail) (SndL.c (s_fail) (SndL.n))))))))))))))))
def kX11_kin_2 : List En := [(0, oIload 1 33), (0, oIload 2 34), (2, oInvV 3 mX1_isKin 2 37), (1, oFail), (1, oFail), (0, oIfEq 47 40), (1, oFail), (1, oFail), (0, oRload 0 41), (0, oPush (vI (-6)) 43), (1, oFail), (2, oInvV 13 mX11_refused 1 46), (1, oFail), (1, oFail), (0, oRetI), (0, oRload 0 48)]
set_option maxRecDepth 20000 in
theorem zX11_kin_2 : SndL mX11_kin 32 kX11_kin_2 := SndL.c (s_iload_n (k := 1) (by decide +kernel) rfl) (SndL.c (s_iload_n (k := 2) (by decide +kernel) rfl) (SndL.c (s_invV (r := (RX1, TX1, 3)) (ci := 2) okX1_isKin rfl (by decide) rfl rfl w_4_224 w_4_120 w_4_121 (by decide +kernel)) (SndL.c (s_fail) (SndL.c (s_fail) (SndL.c (s_if_eq (off := 10) (by decide +kernel) (by decide)) (SndL.c (s_fail) (SndL.c (s_fail) (SndL.c (s_aload_n (k := 0) (by decide +kernel) rfl) (SndL.c (s_bipush (by decide +kernel) (in32_d (by decide)) (by decide +kernel)) (SndL.c (s_fail) (SndL.c (s_invV (r := (RX11, TX11, 14)) (ci := 12) okX11_refused rfl (by decide) rfl rfl w_1_239 w_2_1 v_0 (by decide +kernel)) (SndL.c (s_fail) (SndL.c (s_fail) (SndL.c (s_ret_i rfl (by decide +kernel)) (SndL.c (s_aload_n (k := 0) (by decide +kernel) rfl) (SndL.n))))))))))))))))
def kX11_kin_3 : List En := [(0, oGetf 13 5 2 51), (1, oFail), (1, oFail), (0, oIload 1 52), (0, oIload 2 53), (2, oInvV 3 mX1_addKin 2 56), (1, oFail), (1, oFail), (0, oRetI)]
set_option maxRecDepth 20000 in
theorem zX11_kin_3 : SndL mX11_kin 48 kX11_kin_3 := SndL.c (s_getf (k := 5) clok12 (by decide) rfl (by decide) rfl w_1_197 (Or.inl rfl) (by decide +kernel)) (SndL.c (s_fail) (SndL.c (s_fail) (SndL.c (s_iload_n (k := 1) (by decide +kernel) rfl) (SndL.c (s_iload_n (k := 2) (by decide +kernel) rfl) (SndL.c (s_invV (r := (RX1, TX1, 3)) (ci := 2) okX1_addKin rfl (by decide) rfl rfl w_4_225 w_4_226 w_4_227 (by decide +kernel)) (SndL.c (s_fail) (SndL.c (s_fail) (SndL.c (s_ret_i rfl (by decide +kernel)) (SndL.n)))))))))
def kX11_kin : Cd := [kX11_kin_0, kX11_kin_1, kX11_kin_2, kX11_kin_3]
theorem zX11_kin : SndC mX11_kin 0 kX11_kin := SndC.c zX11_kin_0 (by decide) (SndC.c zX11_kin_1 (by decide) (SndC.c zX11_kin_2 (by decide) (SndC.c zX11_kin_3 (by decide) (SndC.n))))
theorem aX11_kin_0 : at_ kX11_kin 0 = (0, oIload 1 1) := rfl
theorem aX11_kin_1 : at_ kX11_kin 1 = (0, oIfLt 22 4) := rfl
theorem aX11_kin_4 : at_ kX11_kin 4 = (0, oIload 1 5) := rfl
theorem aX11_kin_5 : at_ kX11_kin 5 = (0, oRload 0 6) := rfl
theorem aX11_kin_6 : at_ kX11_kin 6 = (0, oGetf 13 5 2 9) := rfl
theorem aX11_kin_9 : at_ kX11_kin 9 = (0, oGetf 3 1 0 12) := rfl
theorem aX11_kin_12 : at_ kX11_kin 12 = (0, oIcGe 22 15) := rfl
theorem aX11_kin_15 : at_ kX11_kin 15 = (0, oIload 2 16) := rfl
theorem aX11_kin_16 : at_ kX11_kin 16 = (2, oInvS mX11_isFirm 1 19) := rfl
theorem aX11_kin_19 : at_ kX11_kin 19 = (0, oIfNe 28 22) := rfl
theorem aX11_kin_22 : at_ kX11_kin 22 = (0, oRload 0 23) := rfl
theorem aX11_kin_23 : at_ kX11_kin 23 = (0, oPush (vI (-1)) 24) := rfl
theorem aX11_kin_24 : at_ kX11_kin 24 = (2, oInvV 13 mX11_refused 1 27) := rfl
theorem aX11_kin_27 : at_ kX11_kin 27 = (0, oRetI) := rfl
theorem aX11_kin_28 : at_ kX11_kin 28 = (0, oRload 0 29) := rfl
theorem aX11_kin_29 : at_ kX11_kin 29 = (0, oGetf 13 5 2 32) := rfl
theorem aX11_kin_32 : at_ kX11_kin 32 = (0, oIload 1 33) := rfl
theorem aX11_kin_33 : at_ kX11_kin 33 = (0, oIload 2 34) := rfl
theorem aX11_kin_34 : at_ kX11_kin 34 = (2, oInvV 3 mX1_isKin 2 37) := rfl
theorem aX11_kin_37 : at_ kX11_kin 37 = (0, oIfEq 47 40) := rfl
theorem aX11_kin_40 : at_ kX11_kin 40 = (0, oRload 0 41) := rfl
theorem aX11_kin_41 : at_ kX11_kin 41 = (0, oPush (vI (-6)) 43) := rfl
theorem aX11_kin_43 : at_ kX11_kin 43 = (2, oInvV 13 mX11_refused 1 46) := rfl
theorem aX11_kin_46 : at_ kX11_kin 46 = (0, oRetI) := rfl
theorem aX11_kin_47 : at_ kX11_kin 47 = (0, oRload 0 48) := rfl
theorem aX11_kin_48 : at_ kX11_kin 48 = (0, oGetf 13 5 2 51) := rfl
theorem aX11_kin_51 : at_ kX11_kin 51 = (0, oIload 1 52) := rfl
theorem aX11_kin_52 : at_ kX11_kin 52 = (0, oIload 2 53) := rfl
theorem aX11_kin_53 : at_ kX11_kin 53 = (2, oInvV 3 mX1_addKin 2 56) := rfl
theorem aX11_kin_56 : at_ kX11_kin 56 = (0, oRetI) := rfl
def kX11_like_0 : List En := [(0, oRload 0 1), (0, oRload 0 2), (0, oIload 1 3), (2, oInvV 13 mX11_advertOf 1 6), (1, oFail), (1, oFail), (0, oIload 2 7), (2, oInvV 13 mX11_claimNow 2 10), (1, oFail), (1, oFail), (0, oRstore 4 12), (1, oFail), (0, oRload 4 14), (1, oFail), (0, oIfnull 21 17), (1, oFail)]
set_option maxRecDepth 20000 in
theorem zX11_like_0 : SndL mX11_like 0 kX11_like_0 := SndL.c (s_aload_n (k := 0) (by decide +kernel) rfl) (SndL.c (s_aload_n (k := 0) (by decide +kernel) rfl) (SndL.c (s_iload_n (k := 1) (by decide +kernel) rfl) (SndL.c (s_invV (r := (RX11, TX11, 14)) (ci := 12) okX11_advertOf rfl (by decide) rfl rfl w_2_187 w_2_189 v_5 (by decide +kernel)) (SndL.c (s_fail) (SndL.c (s_fail) (SndL.c (s_iload_n (k := 2) (by decide +kernel) rfl) (SndL.c (s_invV (r := (RX11, TX11, 14)) (ci := 12) okX11_claimNow rfl (by decide) rfl rfl w_3_75 w_3_77 v_9 (by decide +kernel)) (SndL.c (s_fail) (SndL.c (s_fail) (SndL.c (s_astore (by decide +kernel) (by decide)) (SndL.c (s_fail) (SndL.c (s_aload (by decide +kernel)) (SndL.c (s_fail) (SndL.c (s_ifnull (off := 7) (by decide +kernel) (by decide)) (SndL.c (s_fail) (SndL.n))))))))))))))))
def kX11_like_1 : List En := [(1, oFail), (0, oIload 3 18), (0, oIfGe 23 21), (1, oFail), (1, oFail), (0, oPush (vI (-1)) 22), (0, oRetI), (0, oRload 0 24), (0, oGetf 13 5 2 27), (1, oFail), (1, oFail), (0, oRload 4 29), (1, oFail), (0, oIload 3 30), (2, oInvV 3 mX1_likeAt 2 33), (1, oFail)]
set_option maxRecDepth 20000 in
theorem zX11_like_1 : SndL mX11_like 16 kX11_like_1 := SndL.c (s_fail) (SndL.c (s_iload_n (k := 3) (by decide +kernel) rfl) (SndL.c (s_if_ge (off := 5) (by decide +kernel) (by decide)) (SndL.c (s_fail) (SndL.c (s_fail) (SndL.c (s_iconst (by decide +kernel) (in32_d (by decide))) (SndL.c (s_ret_i rfl (by decide +kernel)) (SndL.c (s_aload_n (k := 0) (by decide +kernel) rfl) (SndL.c (s_getf (k := 5) clok12 (by decide) rfl (by decide) rfl w_1_197 (Or.inl rfl) (by decide +kernel)) (SndL.c (s_fail) (SndL.c (s_fail) (SndL.c (s_aload (by decide +kernel)) (SndL.c (s_fail) (SndL.c (s_iload_n (k := 3) (by decide +kernel) rfl) (SndL.c (s_invV (r := (RX1, TX1, 3)) (ci := 2) okX1_likeAt rfl (by decide) rfl rfl w_4_234 w_4_235 w_4_236 (by decide +kernel)) (SndL.c (s_fail) (SndL.n))))))))))))))))
def kX11_like_2 : List En := [(1, oFail), (0, oRetI)]
set_option maxRecDepth 20000 in
theorem zX11_like_2 : SndL mX11_like 32 kX11_like_2 := SndL.c (s_fail) (SndL.c (s_ret_i rfl (by decide +kernel)) (SndL.n))
def kX11_like : Cd := [kX11_like_0, kX11_like_1, kX11_like_2]
theorem zX11_like : SndC mX11_like 0 kX11_like := SndC.c zX11_like_0 (by decide) (SndC.c zX11_like_1 (by decide) (SndC.c zX11_like_2 (by decide) (SndC.n)))
theorem aX11_like_0 : at_ kX11_like 0 = (0, oRload 0 1) := rfl
theorem aX11_like_1 : at_ kX11_like 1 = (0, oRload 0 2) := rfl
theorem aX11_like_2 : at_ kX11_like 2 = (0, oIload 1 3) := rfl
theorem aX11_like_3 : at_ kX11_like 3 = (2, oInvV 13 mX11_advertOf 1 6) := rfl
theorem aX11_like_6 : at_ kX11_like 6 = (0, oIload 2 7) := rfl
theorem aX11_like_7 : at_ kX11_like 7 = (2, oInvV 13 mX11_claimNow 2 10) := rfl
theorem aX11_like_10 : at_ kX11_like 10 = (0, oRstore 4 12) := rfl
theorem aX11_like_12 : at_ kX11_like 12 = (0, oRload 4 14) := rfl
theorem aX11_like_14 : at_ kX11_like 14 = (0, oIfnull 21 17) := rfl
theorem aX11_like_17 : at_ kX11_like 17 = (0, oIload 3 18) := rfl
theorem aX11_like_18 : at_ kX11_like 18 = (0, oIfGe 23 21) := rfl
theorem aX11_like_21 : at_ kX11_like 21 = (0, oPush (vI (-1)) 22) := rfl
theorem aX11_like_22 : at_ kX11_like 22 = (0, oRetI) := rfl
theorem aX11_like_23 : at_ kX11_like 23 = (0, oRload 0 24) := rfl
theorem aX11_like_24 : at_ kX11_like 24 = (0, oGetf 13 5 2 27) := rfl
theorem aX11_like_27 : at_ kX11_like 27 = (0, oRload 4 29) := rfl
theorem aX11_like_29 : at_ kX11_like 29 = (0, oIload 3 30) := rfl
theorem aX11_like_30 : at_ kX11_like 30 = (2, oInvV 3 mX1_likeAt 2 33) := rfl
theorem aX11_like_33 : at_ kX11_like 33 = (0, oRetI) := rfl
def kX11_apart_0 : List En := [(0, oRload 0 1), (0, oGetf 13 5 2 4), (1, oFail), (1, oFail), (0, oIload 1 5), (2, oInvV 3 mX1_rulingOf 1 8), (1, oFail), (1, oFail), (0, oRstore 4 10), (1, oFail), (0, oRload 0 11), (0, oIload 2 12), (2, oInvV 13 mX11_advertOf 1 15), (1, oFail), (1, oFail), (0, oRstore 5 17)]
set_option maxRecDepth 20000 in
theorem zX11_apart_0 : SndL mX11_apart 0 kX11_apart_0 := SndL.c (s_aload_n (k := 0) (by decide +kernel) rfl) (SndL.c (s_getf (k := 5) clok12 (by decide) rfl (by decide) rfl w_1_197 (Or.inl rfl) (by decide +kernel)) (SndL.c (s_fail) (SndL.c (s_fail) (SndL.c (s_iload_n (k := 1) (by decide +kernel) rfl) (SndL.c (s_invV (r := (RX1, TX1, 3)) (ci := 2) okX1_rulingOf rfl (by decide) rfl rfl w_4_216 w_4_217 w_4_218 (by decide +kernel)) (SndL.c (s_fail) (SndL.c (s_fail) (SndL.c (s_astore (by decide +kernel) (by decide)) (SndL.c (s_fail) (SndL.c (s_aload_n (k := 0) (by decide +kernel) rfl) (SndL.c (s_iload_n (k := 2) (by decide +kernel) rfl) (SndL.c (s_invV (r := (RX11, TX11, 14)) (ci := 12) okX11_advertOf rfl (by decide) rfl rfl w_2_187 w_2_189 v_5 (by decide +kernel)) (SndL.c (s_fail) (SndL.c (s_fail) (SndL.c (s_astore (by decide +kernel) (by decide)) (SndL.n))))))))))))))))
def kX11_apart_1 : List En := [(1, oFail), (0, oRload 0 18), (0, oRload 5 20), (1, oFail), (0, oIload 3 21), (2, oInvV 13 mX11_claimNow 2 24), (1, oFail), (1, oFail), (0, oRstore 6 26), (1, oFail), (0, oRload 4 28), (1, oFail), (0, oIfnull 41 31), (1, oFail), (1, oFail), (0, oRload 5 33)]
set_option maxRecDepth 20000 in
theorem zX11_apart_1 : SndL mX11_apart 16 kX11_apart_1 := SndL.c (s_fail) (SndL.c (s_aload_n (k := 0) (by decide +kernel) rfl) (SndL.c (s_aload (by decide +kernel)) (SndL.c (s_fail) (SndL.c (s_iload_n (k := 3) (by decide +kernel) rfl) (SndL.c (s_invV (r := (RX11, TX11, 14)) (ci := 12) okX11_claimNow rfl (by decide) rfl rfl w_3_75 w_3_77 v_9 (by decide +kernel)) (SndL.c (s_fail) (SndL.c (s_fail) (SndL.c (s_astore (by decide +kernel) (by decide)) (SndL.c (s_fail) (SndL.c (s_aload (by decide +kernel)) (SndL.c (s_fail) (SndL.c (s_ifnull (off := 13) (by decide +kernel) (by decide)) (SndL.c (s_fail) (SndL.c (s_fail) (SndL.c (s_aload (by decide +kernel)) (SndL.n))))))))))))))))
def kX11_apart_2 : List En := [(1, oFail), (0, oIfnull 41 36), (1, oFail), (1, oFail), (0, oRload 6 38), (1, oFail), (0, oIfnonnull 43 41), (1, oFail), (1, oFail), (0, oPush (vI (-1)) 42), (0, oRetI), (0, oRload 4 45), (1, oFail), (0, oGetf 10 2 0 48), (1, oFail), (1, oFail)]
set_option maxRecDepth 20000 in
theorem zX11_apart_2 : SndL mX11_apart 32 kX11_apart_2 := SndL.c (s_fail) (SndL.c (s_ifnull (off := 8) (by decide +kernel) (by decide)) (SndL.c (s_fail) (SndL.c (s_fail) (SndL.c (s_aload (by decide +kernel)) (SndL.c (s_fail) (SndL.c (s_ifnonnull (off := 5) (by decide +kernel) (by decide)) (SndL.c (s_fail) (SndL.c (s_fail) (SndL.c (s_iconst (by decide +kernel) (in32_d (by decide))) (SndL.c (s_ret_i rfl (by decide +kernel)) (SndL.c (s_aload (by decide +kernel)) (SndL.c (s_fail) (SndL.c (s_getf (k := 2) clok9 (by decide) rfl (by decide) rfl w_4_137 (Or.inl rfl) (by decide +kernel)) (SndL.c (s_fail) (SndL.c (s_fail) (SndL.n))))))))))))))))
def kX11_apart_3 : List En := [(0, oRload 6 50), (1, oFail), (0, oGetf 4 2 0 53), (1, oFail), (1, oFail), (0, oIcEq 60 56), (1, oFail), (1, oFail), (0, oPush (vI 1) 57), (0, oGoto 61), (1, oFail), (1, oFail), (0, oPush (vI 0) 61), (2, oInvS mX11_bit 1 64), (1, oFail), (1, oFail)]
set_option maxRecDepth 20000 in
theorem zX11_apart_3 : SndL mX11_apart 48 kX11_apart_3 := SndL.c (s_aload (by decide +kernel)) (SndL.c (s_fail) (SndL.c (s_getf (k := 2) clok3 (by decide) rfl (by decide) rfl w_3_11 (Or.inl rfl) (by decide +kernel)) (SndL.c (s_fail) (SndL.c (s_fail) (SndL.c (s_ic_eq (off := 7) (by decide +kernel) (by decide)) (SndL.c (s_fail) (SndL.c (s_fail) (SndL.c (s_iconst (by decide +kernel) (in32_d (by decide))) (SndL.c (s_goto (off := 4) (by decide +kernel) (by decide)) (SndL.c (s_fail) (SndL.c (s_fail) (SndL.c (s_iconst (by decide +kernel) (in32_d (by decide))) (SndL.c (s_invS okX11_bit w_3_100 w_3_101 (by decide +kernel)) (SndL.c (s_fail) (SndL.c (s_fail) (SndL.n))))))))))))))))
def kX11_apart_4 : List En := [(0, oRload 4 66), (1, oFail), (0, oGetf 10 3 0 69), (1, oFail), (1, oFail), (0, oRload 6 71), (1, oFail), (0, oGetf 4 3 0 74), (1, oFail), (1, oFail), (0, oIcEq 81 77), (1, oFail), (1, oFail), (0, oPush (vI 1) 78), (0, oGoto 82), (1, oFail)]
set_option maxRecDepth 20000 in
theorem zX11_apart_4 : SndL mX11_apart 64 kX11_apart_4 := SndL.c (s_aload (by decide +kernel)) (SndL.c (s_fail) (SndL.c (s_getf (k := 3) clok9 (by decide) rfl (by decide) rfl w_4_140 (Or.inl rfl) (by decide +kernel)) (SndL.c (s_fail) (SndL.c (s_fail) (SndL.c (s_aload (by decide +kernel)) (SndL.c (s_fail) (SndL.c (s_getf (k := 3) clok3 (by decide) rfl (by decide) rfl w_3_16 (Or.inl rfl) (by decide +kernel)) (SndL.c (s_fail) (SndL.c (s_fail) (SndL.c (s_ic_eq (off := 7) (by decide +kernel) (by decide)) (SndL.c (s_fail) (SndL.c (s_fail) (SndL.c (s_iconst (by decide +kernel) (in32_d (by decide))) (SndL.c (s_goto (off := 4) (by decide +kernel) (by decide)) (SndL.c (s_fail) (SndL.n))))))))))))))))
def kX11_apart_5 : List En := [(1, oFail), (0, oPush (vI 0) 82), (2, oInvS mX11_bit 1 85), (1, oFail), (1, oFail), (0, oPush (vI 1) 86), (0, oIshl 87), (0, oIor 88), (0, oRload 4 90), (1, oFail), (0, oGetf 10 4 0 93), (1, oFail), (1, oFail), (0, oRload 6 95), (1, oFail), (0, oGetf 4 4 0 98)]
set_option maxRecDepth 20000 in
theorem zX11_apart_5 : SndL mX11_apart 80 kX11_apart_5 := SndL.c (s_fail) (SndL.c (s_iconst (by decide +kernel) (in32_d (by decide))) (SndL.c (s_invS okX11_bit w_3_100 w_3_101 (by decide +kernel)) (SndL.c (s_fail) (SndL.c (s_fail) (SndL.c (s_iconst (by decide +kernel) (in32_d (by decide))) (SndL.c (s_ishl (by decide +kernel)) (SndL.c (s_ior (by decide +kernel)) (SndL.c (s_aload (by decide +kernel)) (SndL.c (s_fail) (SndL.c (s_getf (k := 4) clok9 (by decide) rfl (by decide) rfl w_4_143 (Or.inl rfl) (by decide +kernel)) (SndL.c (s_fail) (SndL.c (s_fail) (SndL.c (s_aload (by decide +kernel)) (SndL.c (s_fail) (SndL.c (s_getf (k := 4) clok3 (by decide) rfl (by decide) rfl w_3_21 (Or.inl rfl) (by decide +kernel)) (SndL.n))))))))))))))))
def kX11_apart_6 : List En := [(1, oFail), (1, oFail), (0, oIsub 99), (0, oMabs 102), (1, oFail), (1, oFail), (0, oPush (vI 10) 104), (1, oFail), (0, oIcLe 111 107), (1, oFail), (1, oFail), (0, oPush (vI 1) 108), (0, oGoto 112), (1, oFail), (1, oFail), (0, oPush (vI 0) 112)]
set_option maxRecDepth 20000 in
theorem zX11_apart_6 : SndL mX11_apart 96 kX11_apart_6 := SndL.c (s_fail) (SndL.c (s_fail) (SndL.c (s_isub (by decide +kernel)) (SndL.c (s_mabs w_5_2 w_4_210 w_1_15 w_4_211 (by decide +kernel)) (SndL.c (s_fail) (SndL.c (s_fail) (SndL.c (s_bipush (by decide +kernel) (in32_d (by decide)) (by decide +kernel)) (SndL.c (s_fail) (SndL.c (s_ic_le (off := 7) (by decide +kernel) (by decide)) (SndL.c (s_fail) (SndL.c (s_fail) (SndL.c (s_iconst (by decide +kernel) (in32_d (by decide))) (SndL.c (s_goto (off := 4) (by decide +kernel) (by decide)) (SndL.c (s_fail) (SndL.c (s_fail) (SndL.c (s_iconst (by decide +kernel) (in32_d (by decide))) (SndL.n))))))))))))))))
def kX11_apart_7 : List En := [(2, oInvS mX11_bit 1 115), (1, oFail), (1, oFail), (0, oPush (vI 2) 116), (0, oIshl 117), (0, oIor 118), (0, oRload 4 120), (1, oFail), (0, oGetf 10 1 0 123), (1, oFail), (1, oFail), (0, oRload 5 125), (1, oFail), (0, oGetf 2 1 0 128), (1, oFail), (1, oFail)]
set_option maxRecDepth 20000 in
theorem zX11_apart_7 : SndL mX11_apart 112 kX11_apart_7 := SndL.c (s_invS okX11_bit w_3_100 w_3_101 (by decide +kernel)) (SndL.c (s_fail) (SndL.c (s_fail) (SndL.c (s_iconst (by decide +kernel) (in32_d (by decide))) (SndL.c (s_ishl (by decide +kernel)) (SndL.c (s_ior (by decide +kernel)) (SndL.c (s_aload (by decide +kernel)) (SndL.c (s_fail) (SndL.c (s_getf (k := 1) clok9 (by decide) rfl (by decide) rfl w_4_134 (Or.inl rfl) (by decide +kernel)) (SndL.c (s_fail) (SndL.c (s_fail) (SndL.c (s_aload (by decide +kernel)) (SndL.c (s_fail) (SndL.c (s_getf (k := 1) clok1 (by decide) rfl (by decide) rfl w_2_86 (Or.inl rfl) (by decide +kernel)) (SndL.c (s_fail) (SndL.c (s_fail) (SndL.n))))))))))))))))
def kX11_apart_8 : List En := [(0, oIcEq 135 131), (1, oFail), (1, oFail), (0, oPush (vI 1) 132), (0, oGoto 136), (1, oFail), (1, oFail), (0, oPush (vI 0) 136), (2, oInvS mX11_bit 1 139), (1, oFail), (1, oFail), (0, oPush (vI 3) 140), (0, oIshl 141), (0, oIor 142), (0, oRload 4 144), (1, oFail)]
set_option maxRecDepth 20000 in
theorem zX11_apart_8 : SndL mX11_apart 128 kX11_apart_8 := SndL.c (s_ic_eq (off := 7) (by decide +kernel) (by decide)) (SndL.c (s_fail) (SndL.c (s_fail) (SndL.c (s_iconst (by decide +kernel) (in32_d (by decide))) (SndL.c (s_goto (off := 4) (by decide +kernel) (by decide)) (SndL.c (s_fail) (SndL.c (s_fail) (SndL.c (s_iconst (by decide +kernel) (in32_d (by decide))) (SndL.c (s_invS okX11_bit w_3_100 w_3_101 (by decide +kernel)) (SndL.c (s_fail) (SndL.c (s_fail) (SndL.c (s_iconst (by decide +kernel) (in32_d (by decide))) (SndL.c (s_ishl (by decide +kernel)) (SndL.c (s_ior (by decide +kernel)) (SndL.c (s_aload (by decide +kernel)) (SndL.c (s_fail) (SndL.n))))))))))))))))
def kX11_apart_9 : List En := [(0, oGetf 10 0 0 147), (1, oFail), (1, oFail), (0, oRload 5 149), (1, oFail), (0, oGetf 2 0 0 152), (1, oFail), (1, oFail), (0, oIcEq 159 155), (1, oFail), (1, oFail), (0, oPush (vI 1) 156), (0, oGoto 160), (1, oFail), (1, oFail), (0, oPush (vI 0) 160)]
set_option maxRecDepth 20000 in
theorem zX11_apart_9 : SndL mX11_apart 144 kX11_apart_9 := SndL.c (s_getf (k := 0) clok9 (by decide) rfl (by decide) rfl w_4_131 (Or.inl rfl) (by decide +kernel)) (SndL.c (s_fail) (SndL.c (s_fail) (SndL.c (s_aload (by decide +kernel)) (SndL.c (s_fail) (SndL.c (s_getf (k := 0) clok1 (by decide) rfl (by decide) rfl w_2_83 (Or.inl rfl) (by decide +kernel)) (SndL.c (s_fail) (SndL.c (s_fail) (SndL.c (s_ic_eq (off := 7) (by decide +kernel) (by decide)) (SndL.c (s_fail) (SndL.c (s_fail) (SndL.c (s_iconst (by decide +kernel) (in32_d (by decide))) (SndL.c (s_goto (off := 4) (by decide +kernel) (by decide)) (SndL.c (s_fail) (SndL.c (s_fail) (SndL.c (s_iconst (by decide +kernel) (in32_d (by decide))) (SndL.n))))))))))))))))
def kX11_apart_10 : List En := [(2, oInvS mX11_bit 1 163), (1, oFail), (1, oFail), (0, oPush (vI 4) 164), (0, oIshl 165), (0, oIor 166), (0, oRetI)]
set_option maxRecDepth 20000 in
theorem zX11_apart_10 : SndL mX11_apart 160 kX11_apart_10 := SndL.c (s_invS okX11_bit w_3_100 w_3_101 (by decide +kernel)) (SndL.c (s_fail) (SndL.c (s_fail) (SndL.c (s_iconst (by decide +kernel) (in32_d (by decide))) (SndL.c (s_ishl (by decide +kernel)) (SndL.c (s_ior (by decide +kernel)) (SndL.c (s_ret_i rfl (by decide +kernel)) (SndL.n)))))))
def kX11_apart : Cd := [kX11_apart_0, kX11_apart_1, kX11_apart_2, kX11_apart_3, kX11_apart_4, kX11_apart_5, kX11_apart_6, kX11_apart_7, kX11_apart_8, kX11_apart_9, kX11_apart_10]
theorem zX11_apart : SndC mX11_apart 0 kX11_apart := SndC.c zX11_apart_0 (by decide) (SndC.c zX11_apart_1 (by decide) (SndC.c zX11_apart_2 (by decide) (SndC.c zX11_apart_3 (by decide) (SndC.c zX11_apart_4 (by decide) (SndC.c zX11_apart_5 (by decide) (SndC.c zX11_apart_6 (by decide) (SndC.c zX11_apart_7 (by decide) (SndC.c zX11_apart_8 (by decide) (SndC.c zX11_apart_9 (by decide) (SndC.c zX11_apart_10 (by decide) (SndC.n)))))))))))
theorem aX11_apart_0 : at_ kX11_apart 0 = (0, oRload 0 1) := rfl
theorem aX11_apart_1 : at_ kX11_apart 1 = (0, oGetf 13 5 2 4) := rfl
theorem aX11_apart_4 : at_ kX11_apart 4 = (0, oIload 1 5) := rfl
theorem aX11_apart_5 : at_ kX11_apart 5 = (2, oInvV 3 mX1_rulingOf 1 8) := rfl
theorem aX11_apart_8 : at_ kX11_apart 8 = (0, oRstore 4 10) := rfl
theorem aX11_apart_10 : at_ kX11_apart 10 = (0, oRload 0 11) := rfl
theorem aX11_apart_11 : at_ kX11_apart 11 = (0, oIload 2 12) := rfl
theorem aX11_apart_12 : at_ kX11_apart 12 = (2, oInvV 13 mX11_advertOf 1 15) := rfl
theorem aX11_apart_15 : at_ kX11_apart 15 = (0, oRstore 5 17) := rfl
theorem aX11_apart_17 : at_ kX11_apart 17 = (0, oRload 0 18) := rfl
theorem aX11_apart_18 : at_ kX11_apart 18 = (0, oRload 5 20) := rfl
theorem aX11_apart_20 : at_ kX11_apart 20 = (0, oIload 3 21) := rfl
theorem aX11_apart_21 : at_ kX11_apart 21 = (2, oInvV 13 mX11_claimNow 2 24) := rfl
theorem aX11_apart_24 : at_ kX11_apart 24 = (0, oRstore 6 26) := rfl
theorem aX11_apart_26 : at_ kX11_apart 26 = (0, oRload 4 28) := rfl
theorem aX11_apart_28 : at_ kX11_apart 28 = (0, oIfnull 41 31) := rfl
theorem aX11_apart_31 : at_ kX11_apart 31 = (0, oRload 5 33) := rfl
theorem aX11_apart_33 : at_ kX11_apart 33 = (0, oIfnull 41 36) := rfl
theorem aX11_apart_36 : at_ kX11_apart 36 = (0, oRload 6 38) := rfl
theorem aX11_apart_38 : at_ kX11_apart 38 = (0, oIfnonnull 43 41) := rfl
theorem aX11_apart_41 : at_ kX11_apart 41 = (0, oPush (vI (-1)) 42) := rfl
theorem aX11_apart_42 : at_ kX11_apart 42 = (0, oRetI) := rfl
theorem aX11_apart_43 : at_ kX11_apart 43 = (0, oRload 4 45) := rfl
theorem aX11_apart_45 : at_ kX11_apart 45 = (0, oGetf 10 2 0 48) := rfl
theorem aX11_apart_48 : at_ kX11_apart 48 = (0, oRload 6 50) := rfl
theorem aX11_apart_50 : at_ kX11_apart 50 = (0, oGetf 4 2 0 53) := rfl
theorem aX11_apart_53 : at_ kX11_apart 53 = (0, oIcEq 60 56) := rfl
theorem aX11_apart_56 : at_ kX11_apart 56 = (0, oPush (vI 1) 57) := rfl
theorem aX11_apart_57 : at_ kX11_apart 57 = (0, oGoto 61) := rfl
theorem aX11_apart_60 : at_ kX11_apart 60 = (0, oPush (vI 0) 61) := rfl
theorem aX11_apart_61 : at_ kX11_apart 61 = (2, oInvS mX11_bit 1 64) := rfl
theorem aX11_apart_64 : at_ kX11_apart 64 = (0, oRload 4 66) := rfl
theorem aX11_apart_66 : at_ kX11_apart 66 = (0, oGetf 10 3 0 69) := rfl
theorem aX11_apart_69 : at_ kX11_apart 69 = (0, oRload 6 71) := rfl
theorem aX11_apart_71 : at_ kX11_apart 71 = (0, oGetf 4 3 0 74) := rfl
theorem aX11_apart_74 : at_ kX11_apart 74 = (0, oIcEq 81 77) := rfl
theorem aX11_apart_77 : at_ kX11_apart 77 = (0, oPush (vI 1) 78) := rfl
theorem aX11_apart_78 : at_ kX11_apart 78 = (0, oGoto 82) := rfl
theorem aX11_apart_81 : at_ kX11_apart 81 = (0, oPush (vI 0) 82) := rfl
theorem aX11_apart_82 : at_ kX11_apart 82 = (2, oInvS mX11_bit 1 85) := rfl
theorem aX11_apart_85 : at_ kX11_apart 85 = (0, oPush (vI 1) 86) := rfl
theorem aX11_apart_86 : at_ kX11_apart 86 = (0, oIshl 87) := rfl
theorem aX11_apart_87 : at_ kX11_apart 87 = (0, oIor 88) := rfl
theorem aX11_apart_88 : at_ kX11_apart 88 = (0, oRload 4 90) := rfl
theorem aX11_apart_90 : at_ kX11_apart 90 = (0, oGetf 10 4 0 93) := rfl
theorem aX11_apart_93 : at_ kX11_apart 93 = (0, oRload 6 95) := rfl
theorem aX11_apart_95 : at_ kX11_apart 95 = (0, oGetf 4 4 0 98) := rfl
theorem aX11_apart_98 : at_ kX11_apart 98 = (0, oIsub 99) := rfl
theorem aX11_apart_99 : at_ kX11_apart 99 = (0, oMabs 102) := rfl
theorem aX11_apart_102 : at_ kX11_apart 102 = (0, oPush (vI 10) 104) := rfl
theorem aX11_apart_104 : at_ kX11_apart 104 = (0, oIcLe 111 107) := rfl
theorem aX11_apart_107 : at_ kX11_apart 107 = (0, oPush (vI 1) 108) := rfl
theorem aX11_apart_108 : at_ kX11_apart 108 = (0, oGoto 112) := rfl
theorem aX11_apart_111 : at_ kX11_apart 111 = (0, oPush (vI 0) 112) := rfl
theorem aX11_apart_112 : at_ kX11_apart 112 = (2, oInvS mX11_bit 1 115) := rfl
theorem aX11_apart_115 : at_ kX11_apart 115 = (0, oPush (vI 2) 116) := rfl
theorem aX11_apart_116 : at_ kX11_apart 116 = (0, oIshl 117) := rfl
theorem aX11_apart_117 : at_ kX11_apart 117 = (0, oIor 118) := rfl
theorem aX11_apart_118 : at_ kX11_apart 118 = (0, oRload 4 120) := rfl
theorem aX11_apart_120 : at_ kX11_apart 120 = (0, oGetf 10 1 0 123) := rfl
theorem aX11_apart_123 : at_ kX11_apart 123 = (0, oRload 5 125) := rfl
theorem aX11_apart_125 : at_ kX11_apart 125 = (0, oGetf 2 1 0 128) := rfl
theorem aX11_apart_128 : at_ kX11_apart 128 = (0, oIcEq 135 131) := rfl
theorem aX11_apart_131 : at_ kX11_apart 131 = (0, oPush (vI 1) 132) := rfl
theorem aX11_apart_132 : at_ kX11_apart 132 = (0, oGoto 136) := rfl
theorem aX11_apart_135 : at_ kX11_apart 135 = (0, oPush (vI 0) 136) := rfl
theorem aX11_apart_136 : at_ kX11_apart 136 = (2, oInvS mX11_bit 1 139) := rfl
theorem aX11_apart_139 : at_ kX11_apart 139 = (0, oPush (vI 3) 140) := rfl
theorem aX11_apart_140 : at_ kX11_apart 140 = (0, oIshl 141) := rfl
theorem aX11_apart_141 : at_ kX11_apart 141 = (0, oIor 142) := rfl
theorem aX11_apart_142 : at_ kX11_apart 142 = (0, oRload 4 144) := rfl
theorem aX11_apart_144 : at_ kX11_apart 144 = (0, oGetf 10 0 0 147) := rfl
theorem aX11_apart_147 : at_ kX11_apart 147 = (0, oRload 5 149) := rfl
theorem aX11_apart_149 : at_ kX11_apart 149 = (0, oGetf 2 0 0 152) := rfl
theorem aX11_apart_152 : at_ kX11_apart 152 = (0, oIcEq 159 155) := rfl
theorem aX11_apart_155 : at_ kX11_apart 155 = (0, oPush (vI 1) 156) := rfl
theorem aX11_apart_156 : at_ kX11_apart 156 = (0, oGoto 160) := rfl
theorem aX11_apart_159 : at_ kX11_apart 159 = (0, oPush (vI 0) 160) := rfl
theorem aX11_apart_160 : at_ kX11_apart 160 = (2, oInvS mX11_bit 1 163) := rfl
theorem aX11_apart_163 : at_ kX11_apart 163 = (0, oPush (vI 4) 164) := rfl
theorem aX11_apart_164 : at_ kX11_apart 164 = (0, oIshl 165) := rfl
theorem aX11_apart_165 : at_ kX11_apart 165 = (0, oIor 166) := rfl
theorem aX11_apart_166 : at_ kX11_apart 166 = (0, oRetI) := rfl
def kX11_binding_0 : List En := [(0, oRload 0 1), (0, oIload 1 2), (2, oInvV 13 mX11_advertOf 1 5), (1, oFail), (1, oFail), (0, oRstore 3 6), (0, oRload 0 7), (0, oRload 3 8), (0, oIload 2 9), (2, oInvV 13 mX11_claimNow 2 12), (1, oFail), (1, oFail), (0, oRstore 4 14), (1, oFail), (0, oRload 3 15), (0, oIfnull 23 18)]
set_option maxRecDepth 20000 in
theorem zX11_binding_0 : SndL mX11_binding 0 kX11_binding_0 := SndL.c (s_aload_n (k := 0) (by decide +kernel) rfl) (SndL.c (s_iload_n (k := 1) (by decide +kernel) rfl) (SndL.c (s_invV (r := (RX11, TX11, 14)) (ci := 12) okX11_advertOf rfl (by decide) rfl rfl w_2_187 w_2_189 v_5 (by decide +kernel)) (SndL.c (s_fail) (SndL.c (s_fail) (SndL.c (s_astore_n (k := 3) (by decide +kernel) rfl (by decide)) (SndL.c (s_aload_n (k := 0) (by decide +kernel) rfl) (SndL.c (s_aload_n (k := 3) (by decide +kernel) rfl) (SndL.c (s_iload_n (k := 2) (by decide +kernel) rfl) (SndL.c (s_invV (r := (RX11, TX11, 14)) (ci := 12) okX11_claimNow rfl (by decide) rfl rfl w_3_75 w_3_77 v_9 (by decide +kernel)) (SndL.c (s_fail) (SndL.c (s_fail) (SndL.c (s_astore (by decide +kernel) (by decide)) (SndL.c (s_fail) (SndL.c (s_aload_n (k := 3) (by decide +kernel) rfl) (SndL.c (s_ifnull (off := 8) (by decide +kernel) (by decide)) (SndL.n))))))))))))))))
def kX11_binding_1 : List En := [(1, oFail), (1, oFail), (0, oRload 4 20), (1, oFail), (0, oIfnonnull 25 23), (1, oFail), (1, oFail), (0, oPush (vI (-1)) 24), (0, oRetI), (0, oRload 0 26), (0, oGetf 13 5 2 29), (1, oFail), (1, oFail), (0, oRload 3 30), (0, oGetf 2 1 0 33), (1, oFail)]
set_option maxRecDepth 20000 in
theorem zX11_binding_1 : SndL mX11_binding 16 kX11_binding_1 := SndL.c (s_fail) (SndL.c (s_fail) (SndL.c (s_aload (by decide +kernel)) (SndL.c (s_fail) (SndL.c (s_ifnonnull (off := 5) (by decide +kernel) (by decide)) (SndL.c (s_fail) (SndL.c (s_fail) (SndL.c (s_iconst (by decide +kernel) (in32_d (by decide))) (SndL.c (s_ret_i rfl (by decide +kernel)) (SndL.c (s_aload_n (k := 0) (by decide +kernel) rfl) (SndL.c (s_getf (k := 5) clok12 (by decide) rfl (by decide) rfl w_1_197 (Or.inl rfl) (by decide +kernel)) (SndL.c (s_fail) (SndL.c (s_fail) (SndL.c (s_aload_n (k := 3) (by decide +kernel) rfl) (SndL.c (s_getf (k := 1) clok1 (by decide) rfl (by decide) rfl w_2_86 (Or.inl rfl) (by decide +kernel)) (SndL.c (s_fail) (SndL.n))))))))))))))))
def kX11_binding_2 : List En := [(1, oFail), (0, oRload 4 35), (1, oFail), (2, oInvV 3 mX1_bindingOn 2 38), (1, oFail), (1, oFail), (0, oRetI)]
set_option maxRecDepth 20000 in
theorem zX11_binding_2 : SndL mX11_binding 32 kX11_binding_2 := SndL.c (s_fail) (SndL.c (s_aload (by decide +kernel)) (SndL.c (s_fail) (SndL.c (s_invV (r := (RX1, TX1, 3)) (ci := 2) okX1_bindingOn rfl (by decide) rfl rfl w_4_201 w_4_202 w_4_203 (by decide +kernel)) (SndL.c (s_fail) (SndL.c (s_fail) (SndL.c (s_ret_i rfl (by decide +kernel)) (SndL.n)))))))
def kX11_binding : Cd := [kX11_binding_0, kX11_binding_1, kX11_binding_2]
theorem zX11_binding : SndC mX11_binding 0 kX11_binding := SndC.c zX11_binding_0 (by decide) (SndC.c zX11_binding_1 (by decide) (SndC.c zX11_binding_2 (by decide) (SndC.n)))
theorem aX11_binding_0 : at_ kX11_binding 0 = (0, oRload 0 1) := rfl
theorem aX11_binding_1 : at_ kX11_binding 1 = (0, oIload 1 2) := rfl
theorem aX11_binding_2 : at_ kX11_binding 2 = (2, oInvV 13 mX11_advertOf 1 5) := rfl
theorem aX11_binding_5 : at_ kX11_binding 5 = (0, oRstore 3 6) := rfl
theorem aX11_binding_6 : at_ kX11_binding 6 = (0, oRload 0 7) := rfl
theorem aX11_binding_7 : at_ kX11_binding 7 = (0, oRload 3 8) := rfl
theorem aX11_binding_8 : at_ kX11_binding 8 = (0, oIload 2 9) := rfl
theorem aX11_binding_9 : at_ kX11_binding 9 = (2, oInvV 13 mX11_claimNow 2 12) := rfl
theorem aX11_binding_12 : at_ kX11_binding 12 = (0, oRstore 4 14) := rfl
theorem aX11_binding_14 : at_ kX11_binding 14 = (0, oRload 3 15) := rfl
theorem aX11_binding_15 : at_ kX11_binding 15 = (0, oIfnull 23 18) := rfl
theorem aX11_binding_18 : at_ kX11_binding 18 = (0, oRload 4 20) := rfl
theorem aX11_binding_20 : at_ kX11_binding 20 = (0, oIfnonnull 25 23) := rfl
theorem aX11_binding_23 : at_ kX11_binding 23 = (0, oPush (vI (-1)) 24) := rfl
theorem aX11_binding_24 : at_ kX11_binding 24 = (0, oRetI) := rfl
theorem aX11_binding_25 : at_ kX11_binding 25 = (0, oRload 0 26) := rfl
theorem aX11_binding_26 : at_ kX11_binding 26 = (0, oGetf 13 5 2 29) := rfl
theorem aX11_binding_29 : at_ kX11_binding 29 = (0, oRload 3 30) := rfl
theorem aX11_binding_30 : at_ kX11_binding 30 = (0, oGetf 2 1 0 33) := rfl
theorem aX11_binding_33 : at_ kX11_binding 33 = (0, oRload 4 35) := rfl
theorem aX11_binding_35 : at_ kX11_binding 35 = (2, oInvV 3 mX1_bindingOn 2 38) := rfl
theorem aX11_binding_38 : at_ kX11_binding 38 = (0, oRetI) := rfl
def kX11_clash_0 : List En := [(0, oRload 0 1), (0, oIload 1 2), (2, oInvV 13 mX11_advertOf 1 5), (1, oFail), (1, oFail), (0, oRstore 3 6), (0, oRload 0 7), (0, oRload 3 8), (0, oIload 2 9), (2, oInvV 13 mX11_claimNow 2 12), (1, oFail), (1, oFail), (0, oRstore 4 14), (1, oFail), (0, oRload 3 15), (0, oIfnull 23 18)]
set_option maxRecDepth 20000 in
theorem zX11_clash_0 : SndL mX11_clash 0 kX11_clash_0 := SndL.c (s_aload_n (k := 0) (by decide +kernel) rfl) (SndL.c (s_iload_n (k := 1) (by decide +kernel) rfl) (SndL.c (s_invV (r := (RX11, TX11, 14)) (ci := 12) okX11_advertOf rfl (by decide) rfl rfl w_2_187 w_2_189 v_5 (by decide +kernel)) (SndL.c (s_fail) (SndL.c (s_fail) (SndL.c (s_astore_n (k := 3) (by decide +kernel) rfl (by decide)) (SndL.c (s_aload_n (k := 0) (by decide +kernel) rfl) (SndL.c (s_aload_n (k := 3) (by decide +kernel) rfl) (SndL.c (s_iload_n (k := 2) (by decide +kernel) rfl) (SndL.c (s_invV (r := (RX11, TX11, 14)) (ci := 12) okX11_claimNow rfl (by decide) rfl rfl w_3_75 w_3_77 v_9 (by decide +kernel)) (SndL.c (s_fail) (SndL.c (s_fail) (SndL.c (s_astore (by decide +kernel) (by decide)) (SndL.c (s_fail) (SndL.c (s_aload_n (k := 3) (by decide +kernel) rfl) (SndL.c (s_ifnull (off := 8) (by decide +kernel) (by decide)) (SndL.n))))))))))))))))
def kX11_clash_1 : List En := [(1, oFail), (1, oFail), (0, oRload 4 20), (1, oFail), (0, oIfnonnull 25 23), (1, oFail), (1, oFail), (0, oPush (vI (-1)) 24), (0, oRetI), (0, oRload 0 26), (0, oGetf 13 5 2 29), (1, oFail), (1, oFail), (0, oPush (vI 1) 30), (0, oRload 3 31), (0, oGetf 2 1 0 34)]
set_option maxRecDepth 20000 in
theorem zX11_clash_1 : SndL mX11_clash 16 kX11_clash_1 := SndL.c (s_fail) (SndL.c (s_fail) (SndL.c (s_aload (by decide +kernel)) (SndL.c (s_fail) (SndL.c (s_ifnonnull (off := 5) (by decide +kernel) (by decide)) (SndL.c (s_fail) (SndL.c (s_fail) (SndL.c (s_iconst (by decide +kernel) (in32_d (by decide))) (SndL.c (s_ret_i rfl (by decide +kernel)) (SndL.c (s_aload_n (k := 0) (by decide +kernel) rfl) (SndL.c (s_getf (k := 5) clok12 (by decide) rfl (by decide) rfl w_1_197 (Or.inl rfl) (by decide +kernel)) (SndL.c (s_fail) (SndL.c (s_fail) (SndL.c (s_iconst (by decide +kernel) (in32_d (by decide))) (SndL.c (s_aload_n (k := 3) (by decide +kernel) rfl) (SndL.c (s_getf (k := 1) clok1 (by decide) rfl (by decide) rfl w_2_86 (Or.inl rfl) (by decide +kernel)) (SndL.n))))))))))))))))
def kX11_clash_2 : List En := [(1, oFail), (1, oFail), (0, oRload 4 36), (1, oFail), (2, oInvV 3 mX1_likeSaying 3 39), (1, oFail), (1, oFail), (0, oRload 0 40), (0, oGetf 13 5 2 43), (1, oFail), (1, oFail), (0, oPush (vI 0) 44), (0, oRload 3 45), (0, oGetf 2 1 0 48), (1, oFail), (1, oFail)]
set_option maxRecDepth 20000 in
theorem zX11_clash_2 : SndL mX11_clash 32 kX11_clash_2 := SndL.c (s_fail) (SndL.c (s_fail) (SndL.c (s_aload (by decide +kernel)) (SndL.c (s_fail) (SndL.c (s_invV (r := (RX1, TX1, 3)) (ci := 2) okX1_likeSaying rfl (by decide) rfl rfl w_5_11 w_5_12 w_5_13 (by decide +kernel)) (SndL.c (s_fail) (SndL.c (s_fail) (SndL.c (s_aload_n (k := 0) (by decide +kernel) rfl) (SndL.c (s_getf (k := 5) clok12 (by decide) rfl (by decide) rfl w_1_197 (Or.inl rfl) (by decide +kernel)) (SndL.c (s_fail) (SndL.c (s_fail) (SndL.c (s_iconst (by decide +kernel) (in32_d (by decide))) (SndL.c (s_aload_n (k := 3) (by decide +kernel) rfl) (SndL.c (s_getf (k := 1) clok1 (by decide) rfl (by decide) rfl w_2_86 (Or.inl rfl) (by decide +kernel)) (SndL.c (s_fail) (SndL.c (s_fail) (SndL.n))))))))))))))))
def kX11_clash_3 : List En := [(0, oRload 4 50), (1, oFail), (2, oInvV 3 mX1_likeSaying 3 53), (1, oFail), (1, oFail), (0, oImul 54), (0, oRetI)]
set_option maxRecDepth 20000 in
theorem zX11_clash_3 : SndL mX11_clash 48 kX11_clash_3 := SndL.c (s_aload (by decide +kernel)) (SndL.c (s_fail) (SndL.c (s_invV (r := (RX1, TX1, 3)) (ci := 2) okX1_likeSaying rfl (by decide) rfl rfl w_5_11 w_5_12 w_5_13 (by decide +kernel)) (SndL.c (s_fail) (SndL.c (s_fail) (SndL.c (s_imul (by decide +kernel)) (SndL.c (s_ret_i rfl (by decide +kernel)) (SndL.n)))))))
def kX11_clash : Cd := [kX11_clash_0, kX11_clash_1, kX11_clash_2, kX11_clash_3]
theorem zX11_clash : SndC mX11_clash 0 kX11_clash := SndC.c zX11_clash_0 (by decide) (SndC.c zX11_clash_1 (by decide) (SndC.c zX11_clash_2 (by decide) (SndC.c zX11_clash_3 (by decide) (SndC.n))))
theorem aX11_clash_0 : at_ kX11_clash 0 = (0, oRload 0 1) := rfl
theorem aX11_clash_1 : at_ kX11_clash 1 = (0, oIload 1 2) := rfl
theorem aX11_clash_2 : at_ kX11_clash 2 = (2, oInvV 13 mX11_advertOf 1 5) := rfl
theorem aX11_clash_5 : at_ kX11_clash 5 = (0, oRstore 3 6) := rfl
theorem aX11_clash_6 : at_ kX11_clash 6 = (0, oRload 0 7) := rfl
theorem aX11_clash_7 : at_ kX11_clash 7 = (0, oRload 3 8) := rfl
theorem aX11_clash_8 : at_ kX11_clash 8 = (0, oIload 2 9) := rfl
theorem aX11_clash_9 : at_ kX11_clash 9 = (2, oInvV 13 mX11_claimNow 2 12) := rfl
theorem aX11_clash_12 : at_ kX11_clash 12 = (0, oRstore 4 14) := rfl
theorem aX11_clash_14 : at_ kX11_clash 14 = (0, oRload 3 15) := rfl
theorem aX11_clash_15 : at_ kX11_clash 15 = (0, oIfnull 23 18) := rfl
theorem aX11_clash_18 : at_ kX11_clash 18 = (0, oRload 4 20) := rfl
theorem aX11_clash_20 : at_ kX11_clash 20 = (0, oIfnonnull 25 23) := rfl
theorem aX11_clash_23 : at_ kX11_clash 23 = (0, oPush (vI (-1)) 24) := rfl
theorem aX11_clash_24 : at_ kX11_clash 24 = (0, oRetI) := rfl
theorem aX11_clash_25 : at_ kX11_clash 25 = (0, oRload 0 26) := rfl
theorem aX11_clash_26 : at_ kX11_clash 26 = (0, oGetf 13 5 2 29) := rfl
theorem aX11_clash_29 : at_ kX11_clash 29 = (0, oPush (vI 1) 30) := rfl
theorem aX11_clash_30 : at_ kX11_clash 30 = (0, oRload 3 31) := rfl
theorem aX11_clash_31 : at_ kX11_clash 31 = (0, oGetf 2 1 0 34) := rfl
theorem aX11_clash_34 : at_ kX11_clash 34 = (0, oRload 4 36) := rfl
theorem aX11_clash_36 : at_ kX11_clash 36 = (2, oInvV 3 mX1_likeSaying 3 39) := rfl
theorem aX11_clash_39 : at_ kX11_clash 39 = (0, oRload 0 40) := rfl
theorem aX11_clash_40 : at_ kX11_clash 40 = (0, oGetf 13 5 2 43) := rfl
theorem aX11_clash_43 : at_ kX11_clash 43 = (0, oPush (vI 0) 44) := rfl
theorem aX11_clash_44 : at_ kX11_clash 44 = (0, oRload 3 45) := rfl
theorem aX11_clash_45 : at_ kX11_clash 45 = (0, oGetf 2 1 0 48) := rfl
theorem aX11_clash_48 : at_ kX11_clash 48 = (0, oRload 4 50) := rfl
theorem aX11_clash_50 : at_ kX11_clash 50 = (2, oInvV 3 mX1_likeSaying 3 53) := rfl
theorem aX11_clash_53 : at_ kX11_clash 53 = (0, oImul 54) := rfl
theorem aX11_clash_54 : at_ kX11_clash 54 = (0, oRetI) := rfl
def kX11_appeal_0 : List En := [(0, oRload 0 1), (0, oGetf 13 5 2 4), (1, oFail), (1, oFail), (0, oIload 1 5), (2, oInvV 3 mX1_rulingOf 1 8), (1, oFail), (1, oFail), (0, oRstore 3 9), (0, oRload 3 10), (0, oIfnonnull 19 13), (1, oFail), (1, oFail), (0, oRload 0 14), (0, oPush (vI (-1)) 15), (2, oInvV 13 mX11_refused 1 18)]
set_option maxRecDepth 20000 in
theorem zX11_appeal_0 : SndL mX11_appeal 0 kX11_appeal_0 := SndL.c (s_aload_n (k := 0) (by decide +kernel) rfl) (SndL.c (s_getf (k := 5) clok12 (by decide) rfl (by decide) rfl w_1_197 (Or.inl rfl) (by decide +kernel)) (SndL.c (s_fail) (SndL.c (s_fail) (SndL.c (s_iload_n (k := 1) (by decide +kernel) rfl) (SndL.c (s_invV (r := (RX1, TX1, 3)) (ci := 2) okX1_rulingOf rfl (by decide) rfl rfl w_4_216 w_4_217 w_4_218 (by decide +kernel)) (SndL.c (s_fail) (SndL.c (s_fail) (SndL.c (s_astore_n (k := 3) (by decide +kernel) rfl (by decide)) (SndL.c (s_aload_n (k := 3) (by decide +kernel) rfl) (SndL.c (s_ifnonnull (off := 9) (by decide +kernel) (by decide)) (SndL.c (s_fail) (SndL.c (s_fail) (SndL.c (s_aload_n (k := 0) (by decide +kernel) rfl) (SndL.c (s_iconst (by decide +kernel) (in32_d (by decide))) (SndL.c (s_invV (r := (RX11, TX11, 14)) (ci := 12) okX11_refused rfl (by decide) rfl rfl w_1_239 w_2_1 v_0 (by decide +kernel)) (SndL.n))))))))))))))))
def kX11_appeal_1 : List En := [(1, oFail), (1, oFail), (0, oRetI), (0, oRload 3 20), (0, oGetf 10 13 0 23), (1, oFail), (1, oFail), (0, oIfNe 47 26), (1, oFail), (1, oFail), (0, oRload 0 27), (0, oGetf 13 11 0 30), (1, oFail), (1, oFail), (0, oRload 3 31), (0, oGetf 10 5 0 34)]
set_option maxRecDepth 20000 in
theorem zX11_appeal_1 : SndL mX11_appeal 16 kX11_appeal_1 := SndL.c (s_fail) (SndL.c (s_fail) (SndL.c (s_ret_i rfl (by decide +kernel)) (SndL.c (s_aload_n (k := 3) (by decide +kernel) rfl) (SndL.c (s_getf (k := 13) clok9 (by decide) rfl (by decide) rfl w_4_166 (Or.inl rfl) (by decide +kernel)) (SndL.c (s_fail) (SndL.c (s_fail) (SndL.c (s_if_ne (off := 24) (by decide +kernel) (by decide)) (SndL.c (s_fail) (SndL.c (s_fail) (SndL.c (s_aload_n (k := 0) (by decide +kernel) rfl) (SndL.c (s_getf (k := 11) clok12 (by decide) rfl (by decide) rfl w_1_203 (Or.inl rfl) (by decide +kernel)) (SndL.c (s_fail) (SndL.c (s_fail) (SndL.c (s_aload_n (k := 3) (by decide +kernel) rfl) (SndL.c (s_getf (k := 5) clok9 (by decide) rfl (by decide) rfl w_4_146 (Or.inl rfl) (by decide +kernel)) (SndL.n))))))))))))))))
def kX11_appeal_2 : List En := [(1, oFail), (1, oFail), (0, oPush (vI 21) 36), (1, oFail), (0, oIadd 37), (0, oIcGt 47 40), (1, oFail), (1, oFail), (0, oRload 3 41), (0, oGetf 10 11 3 44), (1, oFail), (1, oFail), (0, oIfEq 54 47), (1, oFail), (1, oFail), (0, oRload 0 48)]
set_option maxRecDepth 20000 in
theorem zX11_appeal_2 : SndL mX11_appeal 32 kX11_appeal_2 := SndL.c (s_fail) (SndL.c (s_fail) (SndL.c (s_bipush (by decide +kernel) (in32_d (by decide)) (by decide +kernel)) (SndL.c (s_fail) (SndL.c (s_iadd (by decide +kernel)) (SndL.c (s_ic_gt (off := 10) (by decide +kernel) (by decide)) (SndL.c (s_fail) (SndL.c (s_fail) (SndL.c (s_aload_n (k := 3) (by decide +kernel) rfl) (SndL.c (s_getf (k := 11) clok9 (by decide) rfl (by decide) rfl w_4_160 (Or.inl rfl) (by decide +kernel)) (SndL.c (s_fail) (SndL.c (s_fail) (SndL.c (s_if_eq (off := 10) (by decide +kernel) (by decide)) (SndL.c (s_fail) (SndL.c (s_fail) (SndL.c (s_aload_n (k := 0) (by decide +kernel) rfl) (SndL.n))))))))))))))))
def kX11_appeal_3 : List En := [(0, oPush (vI (-6)) 50), (1, oFail), (2, oInvV 13 mX11_refused 1 53), (1, oFail), (1, oFail), (0, oRetI), (0, oRload 3 55), (0, oPush (vI 1) 56), (0, oPutf 10 11 3 59), (1, oFail), (1, oFail), (0, oIload 2 60), (0, oIfEq 74 63), (1, oFail), (1, oFail), (0, oRload 0 64)]
set_option maxRecDepth 20000 in
theorem zX11_appeal_3 : SndL mX11_appeal 48 kX11_appeal_3 := SndL.c (s_bipush (by decide +kernel) (in32_d (by decide)) (by decide +kernel)) (SndL.c (s_fail) (SndL.c (s_invV (r := (RX11, TX11, 14)) (ci := 12) okX11_refused rfl (by decide) rfl rfl w_1_239 w_2_1 v_0 (by decide +kernel)) (SndL.c (s_fail) (SndL.c (s_fail) (SndL.c (s_ret_i rfl (by decide +kernel)) (SndL.c (s_aload_n (k := 3) (by decide +kernel) rfl) (SndL.c (s_iconst (by decide +kernel) (in32_d (by decide))) (SndL.c (s_putf (k := 11) clok9 (by decide) rfl (by decide) rfl w_4_160 (Or.inl rfl) (Or.inl rfl) (by decide +kernel)) (SndL.c (s_fail) (SndL.c (s_fail) (SndL.c (s_iload_n (k := 2) (by decide +kernel) rfl) (SndL.c (s_if_eq (off := 14) (by decide +kernel) (by decide)) (SndL.c (s_fail) (SndL.c (s_fail) (SndL.c (s_aload_n (k := 0) (by decide +kernel) rfl) (SndL.n))))))))))))))))
def kX11_appeal_4 : List En := [(0, oGetf 13 5 2 67), (1, oFail), (1, oFail), (0, oIload 1 68), (2, oInvV 3 mX1_undoFrom 1 71), (1, oFail), (1, oFail), (0, oGoto 75), (1, oFail), (1, oFail), (0, oPush (vI 0) 75), (0, oRetI)]
set_option maxRecDepth 20000 in
theorem zX11_appeal_4 : SndL mX11_appeal 64 kX11_appeal_4 := SndL.c (s_getf (k := 5) clok12 (by decide) rfl (by decide) rfl w_1_197 (Or.inl rfl) (by decide +kernel)) (SndL.c (s_fail) (SndL.c (s_fail) (SndL.c (s_iload_n (k := 1) (by decide +kernel) rfl) (SndL.c (s_invV (r := (RX1, TX1, 3)) (ci := 2) okX1_undoFrom rfl (by decide) rfl rfl w_5_19 w_5_20 w_5_21 (by decide +kernel)) (SndL.c (s_fail) (SndL.c (s_fail) (SndL.c (s_goto (off := 4) (by decide +kernel) (by decide)) (SndL.c (s_fail) (SndL.c (s_fail) (SndL.c (s_iconst (by decide +kernel) (in32_d (by decide))) (SndL.c (s_ret_i rfl (by decide +kernel)) (SndL.n))))))))))))
def kX11_appeal : Cd := [kX11_appeal_0, kX11_appeal_1, kX11_appeal_2, kX11_appeal_3, kX11_appeal_4]
theorem zX11_appeal : SndC mX11_appeal 0 kX11_appeal := SndC.c zX11_appeal_0 (by decide) (SndC.c zX11_appeal_1 (by decide) (SndC.c zX11_appeal_2 (by decide) (SndC.c zX11_appeal_3 (by decide) (SndC.c zX11_appeal_4 (by decide) (SndC.n)))))
theorem aX11_appeal_0 : at_ kX11_appeal 0 = (0, oRload 0 1) := rfl
theorem aX11_appeal_1 : at_ kX11_appeal 1 = (0, oGetf 13 5 2 4) := rfl
theorem aX11_appeal_4 : at_ kX11_appeal 4 = (0, oIload 1 5) := rfl
theorem aX11_appeal_5 : at_ kX11_appeal 5 = (2, oInvV 3 mX1_rulingOf 1 8) := rfl
theorem aX11_appeal_8 : at_ kX11_appeal 8 = (0, oRstore 3 9) := rfl
theorem aX11_appeal_9 : at_ kX11_appeal 9 = (0, oRload 3 10) := rfl
theorem aX11_appeal_10 : at_ kX11_appeal 10 = (0, oIfnonnull 19 13) := rfl
theorem aX11_appeal_13 : at_ kX11_appeal 13 = (0, oRload 0 14) := rfl
theorem aX11_appeal_14 : at_ kX11_appeal 14 = (0, oPush (vI (-1)) 15) := rfl
theorem aX11_appeal_15 : at_ kX11_appeal 15 = (2, oInvV 13 mX11_refused 1 18) := rfl
theorem aX11_appeal_18 : at_ kX11_appeal 18 = (0, oRetI) := rfl
theorem aX11_appeal_19 : at_ kX11_appeal 19 = (0, oRload 3 20) := rfl
theorem aX11_appeal_20 : at_ kX11_appeal 20 = (0, oGetf 10 13 0 23) := rfl
theorem aX11_appeal_23 : at_ kX11_appeal 23 = (0, oIfNe 47 26) := rfl
theorem aX11_appeal_26 : at_ kX11_appeal 26 = (0, oRload 0 27) := rfl
theorem aX11_appeal_27 : at_ kX11_appeal 27 = (0, oGetf 13 11 0 30) := rfl
theorem aX11_appeal_30 : at_ kX11_appeal 30 = (0, oRload 3 31) := rfl
theorem aX11_appeal_31 : at_ kX11_appeal 31 = (0, oGetf 10 5 0 34) := rfl
theorem aX11_appeal_34 : at_ kX11_appeal 34 = (0, oPush (vI 21) 36) := rfl
theorem aX11_appeal_36 : at_ kX11_appeal 36 = (0, oIadd 37) := rfl
theorem aX11_appeal_37 : at_ kX11_appeal 37 = (0, oIcGt 47 40) := rfl
theorem aX11_appeal_40 : at_ kX11_appeal 40 = (0, oRload 3 41) := rfl
theorem aX11_appeal_41 : at_ kX11_appeal 41 = (0, oGetf 10 11 3 44) := rfl
theorem aX11_appeal_44 : at_ kX11_appeal 44 = (0, oIfEq 54 47) := rfl
theorem aX11_appeal_47 : at_ kX11_appeal 47 = (0, oRload 0 48) := rfl
theorem aX11_appeal_48 : at_ kX11_appeal 48 = (0, oPush (vI (-6)) 50) := rfl
theorem aX11_appeal_50 : at_ kX11_appeal 50 = (2, oInvV 13 mX11_refused 1 53) := rfl
theorem aX11_appeal_53 : at_ kX11_appeal 53 = (0, oRetI) := rfl
theorem aX11_appeal_54 : at_ kX11_appeal 54 = (0, oRload 3 55) := rfl
theorem aX11_appeal_55 : at_ kX11_appeal 55 = (0, oPush (vI 1) 56) := rfl
theorem aX11_appeal_56 : at_ kX11_appeal 56 = (0, oPutf 10 11 3 59) := rfl
theorem aX11_appeal_59 : at_ kX11_appeal 59 = (0, oIload 2 60) := rfl
theorem aX11_appeal_60 : at_ kX11_appeal 60 = (0, oIfEq 74 63) := rfl
theorem aX11_appeal_63 : at_ kX11_appeal 63 = (0, oRload 0 64) := rfl
theorem aX11_appeal_64 : at_ kX11_appeal 64 = (0, oGetf 13 5 2 67) := rfl
theorem aX11_appeal_67 : at_ kX11_appeal 67 = (0, oIload 1 68) := rfl
theorem aX11_appeal_68 : at_ kX11_appeal 68 = (2, oInvV 3 mX1_undoFrom 1 71) := rfl
theorem aX11_appeal_71 : at_ kX11_appeal 71 = (0, oGoto 75) := rfl
theorem aX11_appeal_74 : at_ kX11_appeal 74 = (0, oPush (vI 0) 75) := rfl
theorem aX11_appeal_75 : at_ kX11_appeal 75 = (0, oRetI) := rfl
def kX11_step_0 : List En := [(0, oIload 1 1), (2, oInvS mX11_isFirm 1 4), (1, oFail), (1, oFail), (0, oIfEq 22 7), (1, oFail), (1, oFail), (0, oRload 0 8), (0, oGetf 13 5 2 11), (1, oFail), (1, oFail), (0, oIload 1 12), (0, oRload 0 13), (0, oGetf 13 11 0 16), (1, oFail), (1, oFail)]
set_option maxRecDepth 20000 in
theorem zX11_step_0 : SndL mX11_step 0 kX11_step_0 := SndL.c (s_iload_n (k := 1) (by decide +kernel) rfl) (SndL.c (s_invS okX11_isFirm w_2_60 w_2_61 (by decide +kernel)) (SndL.c (s_fail) (SndL.c (s_fail) (SndL.c (s_if_eq (off := 18) (by decide +kernel) (by decide)) (SndL.c (s_fail) (SndL.c (s_fail) (SndL.c (s_aload_n (k := 0) (by decide +kernel) rfl) (SndL.c (s_getf (k := 5) clok12 (by decide) rfl (by decide) rfl w_1_197 (Or.inl rfl) (by decide +kernel)) (SndL.c (s_fail) (SndL.c (s_fail) (SndL.c (s_iload_n (k := 1) (by decide +kernel) rfl) (SndL.c (s_aload_n (k := 0) (by decide +kernel) rfl) (SndL.c (s_getf (k := 11) clok12 (by decide) rfl (by decide) rfl w_1_203 (Or.inl rfl) (by decide +kernel)) (SndL.c (s_fail) (SndL.c (s_fail) (SndL.n))))))))))))))))
def kX11_step_1 : List En := [(2, oInvV 3 mX1_stepOf 2 19), (1, oFail), (1, oFail), (0, oGoto 23), (1, oFail), (1, oFail), (0, oPush (vI (-1)) 23), (0, oRetI)]
set_option maxRecDepth 20000 in
theorem zX11_step_1 : SndL mX11_step 16 kX11_step_1 := SndL.c (s_invV (r := (RX1, TX1, 3)) (ci := 2) okX1_stepOf rfl (by decide) rfl rfl w_5_29 w_5_30 w_5_31 (by decide +kernel)) (SndL.c (s_fail) (SndL.c (s_fail) (SndL.c (s_goto (off := 4) (by decide +kernel) (by decide)) (SndL.c (s_fail) (SndL.c (s_fail) (SndL.c (s_iconst (by decide +kernel) (in32_d (by decide))) (SndL.c (s_ret_i rfl (by decide +kernel)) (SndL.n))))))))
def kX11_step : Cd := [kX11_step_0, kX11_step_1]
theorem zX11_step : SndC mX11_step 0 kX11_step := SndC.c zX11_step_0 (by decide) (SndC.c zX11_step_1 (by decide) (SndC.n))
theorem aX11_step_0 : at_ kX11_step 0 = (0, oIload 1 1) := rfl
theorem aX11_step_1 : at_ kX11_step 1 = (2, oInvS mX11_isFirm 1 4) := rfl
theorem aX11_step_4 : at_ kX11_step 4 = (0, oIfEq 22 7) := rfl
theorem aX11_step_7 : at_ kX11_step 7 = (0, oRload 0 8) := rfl
theorem aX11_step_8 : at_ kX11_step 8 = (0, oGetf 13 5 2 11) := rfl
theorem aX11_step_11 : at_ kX11_step 11 = (0, oIload 1 12) := rfl
theorem aX11_step_12 : at_ kX11_step 12 = (0, oRload 0 13) := rfl
theorem aX11_step_13 : at_ kX11_step 13 = (0, oGetf 13 11 0 16) := rfl
theorem aX11_step_16 : at_ kX11_step 16 = (2, oInvV 3 mX1_stepOf 2 19) := rfl
theorem aX11_step_19 : at_ kX11_step 19 = (0, oGoto 23) := rfl
theorem aX11_step_22 : at_ kX11_step 22 = (0, oPush (vI (-1)) 23) := rfl
theorem aX11_step_23 : at_ kX11_step 23 = (0, oRetI) := rfl
def kX11_least_0 : List En := [(0, oRload 0 1), (0, oIload 1 2), (2, oInvV 13 mX11_advertOf 1 5), (1, oFail), (1, oFail), (0, oRstore 2 6), (0, oRload 2 7), (0, oIfnonnull 16 10), (1, oFail), (1, oFail), (0, oRload 0 11), (0, oPush (vI (-1)) 12), (2, oInvV 13 mX11_refused 1 15), (1, oFail), (1, oFail), (0, oRetI)]
set_option maxRecDepth 20000 in
theorem zX11_least_0 : SndL mX11_least 0 kX11_least_0 := SndL.c (s_aload_n (k := 0) (by decide +kernel) rfl) (SndL.c (s_iload_n (k := 1) (by decide +kernel) rfl) (SndL.c (s_invV (r := (RX11, TX11, 14)) (ci := 12) okX11_advertOf rfl (by decide) rfl rfl w_2_187 w_2_189 v_5 (by decide +kernel)) (SndL.c (s_fail) (SndL.c (s_fail) (SndL.c (s_astore_n (k := 2) (by decide +kernel) rfl (by decide)) (SndL.c (s_aload_n (k := 2) (by decide +kernel) rfl) (SndL.c (s_ifnonnull (off := 9) (by decide +kernel) (by decide)) (SndL.c (s_fail) (SndL.c (s_fail) (SndL.c (s_aload_n (k := 0) (by decide +kernel) rfl) (SndL.c (s_iconst (by decide +kernel) (in32_d (by decide))) (SndL.c (s_invV (r := (RX11, TX11, 14)) (ci := 12) okX11_refused rfl (by decide) rfl rfl w_1_239 w_2_1 v_0 (by decide +kernel)) (SndL.c (s_fail) (SndL.c (s_fail) (SndL.c (s_ret_i rfl (by decide +kernel)) (SndL.n))))))))))))))))
def kX11_least_1 : List En := [(0, oRload 2 17), (0, oGetf 2 2 2 20), (1, oFail), (1, oFail), (0, oAlen 21), (0, oPush (vI 12) 23), (1, oFail), (0, oIcLe 33 26), (1, oFail), (1, oFail), (0, oRload 0 27), (0, oPush (vI (-7)) 29), (1, oFail), (2, oInvV 13 mX11_refused 1 32), (1, oFail), (1, oFail)]
set_option maxRecDepth 20000 in
theorem zX11_least_1 : SndL mX11_least 16 kX11_least_1 := SndL.c (s_aload_n (k := 2) (by decide +kernel) rfl) (SndL.c (s_getf (k := 2) clok1 (by decide) rfl (by decide) rfl w_2_88 (Or.inl rfl) (by decide +kernel)) (SndL.c (s_fail) (SndL.c (s_fail) (SndL.c (s_alen (by decide +kernel)) (SndL.c (s_bipush (by decide +kernel) (in32_d (by decide)) (by decide +kernel)) (SndL.c (s_fail) (SndL.c (s_ic_le (off := 10) (by decide +kernel) (by decide)) (SndL.c (s_fail) (SndL.c (s_fail) (SndL.c (s_aload_n (k := 0) (by decide +kernel) rfl) (SndL.c (s_bipush (by decide +kernel) (in32_d (by decide)) (by decide +kernel)) (SndL.c (s_fail) (SndL.c (s_invV (r := (RX11, TX11, 14)) (ci := 12) okX11_refused rfl (by decide) rfl rfl w_1_239 w_2_1 v_0 (by decide +kernel)) (SndL.c (s_fail) (SndL.c (s_fail) (SndL.n))))))))))))))))
def kX11_least_2 : List En := [(0, oRetI), (0, oRload 0 34), (0, oRload 0 35), (0, oGetf 13 11 0 38), (1, oFail), (1, oFail), (0, oRload 0 39), (0, oGetf 13 11 0 42), (1, oFail), (1, oFail), (2, oInvV 13 mX11_tellingPhrases 2 45), (1, oFail), (1, oFail), (0, oIstore 3 46), (0, oRload 0 47), (0, oRload 0 48)]
set_option maxRecDepth 20000 in
theorem zX11_least_2 : SndL mX11_least 32 kX11_least_2 := SndL.c (s_ret_i rfl (by decide +kernel)) (SndL.c (s_aload_n (k := 0) (by decide +kernel) rfl) (SndL.c (s_aload_n (k := 0) (by decide +kernel) rfl) (SndL.c (s_getf (k := 11) clok12 (by decide) rfl (by decide) rfl w_1_203 (Or.inl rfl) (by decide +kernel)) (SndL.c (s_fail) (SndL.c (s_fail) (SndL.c (s_aload_n (k := 0) (by decide +kernel) rfl) (SndL.c (s_getf (k := 11) clok12 (by decide) rfl (by decide) rfl w_1_203 (Or.inl rfl) (by decide +kernel)) (SndL.c (s_fail) (SndL.c (s_fail) (SndL.c (s_invV (r := (RX11, TX11, 14)) (ci := 12) okX11_tellingPhrases rfl (by decide) rfl rfl w_3_53 w_3_55 v_8 (by decide +kernel)) (SndL.c (s_fail) (SndL.c (s_fail) (SndL.c (s_istore_n (k := 3) (by decide +kernel) rfl (by decide)) (SndL.c (s_aload_n (k := 0) (by decide +kernel) rfl) (SndL.c (s_aload_n (k := 0) (by decide +kernel) rfl) (SndL.n))))))))))))))))
def kX11_least_3 : List En := [(0, oRload 2 49), (0, oIload 3 50), (0, oRload 0 51), (0, oRload 2 52), (0, oIload 3 53), (0, oRload 0 54), (0, oRload 0 55), (0, oGetf 13 11 0 58), (1, oFail), (1, oFail), (0, oRload 0 59), (0, oGetf 13 11 0 62), (1, oFail), (1, oFail), (2, oInvV 13 mX11_rulesInForce 2 65), (1, oFail)]
set_option maxRecDepth 20000 in
theorem zX11_least_3 : SndL mX11_least 48 kX11_least_3 := SndL.c (s_aload_n (k := 2) (by decide +kernel) rfl) (SndL.c (s_iload_n (k := 3) (by decide +kernel) rfl) (SndL.c (s_aload_n (k := 0) (by decide +kernel) rfl) (SndL.c (s_aload_n (k := 2) (by decide +kernel) rfl) (SndL.c (s_iload_n (k := 3) (by decide +kernel) rfl) (SndL.c (s_aload_n (k := 0) (by decide +kernel) rfl) (SndL.c (s_aload_n (k := 0) (by decide +kernel) rfl) (SndL.c (s_getf (k := 11) clok12 (by decide) rfl (by decide) rfl w_1_203 (Or.inl rfl) (by decide +kernel)) (SndL.c (s_fail) (SndL.c (s_fail) (SndL.c (s_aload_n (k := 0) (by decide +kernel) rfl) (SndL.c (s_getf (k := 11) clok12 (by decide) rfl (by decide) rfl w_1_203 (Or.inl rfl) (by decide +kernel)) (SndL.c (s_fail) (SndL.c (s_fail) (SndL.c (s_invV (r := (RX11, TX11, 14)) (ci := 12) okX11_rulesInForce rfl (by decide) rfl rfl w_4_78 w_4_80 v_23 (by decide +kernel)) (SndL.c (s_fail) (SndL.n))))))))))))))))
def kX11_least_4 : List En := [(1, oFail), (2, oInvV 13 mX11_barredPhrases 3 68), (1, oFail), (1, oFail), (2, oInvV 13 mX11_leastStruck 3 71), (1, oFail), (1, oFail), (0, oPutf 13 13 0 74), (1, oFail), (1, oFail), (0, oRload 0 75), (0, oGetf 13 13 0 78), (1, oFail), (1, oFail), (2, oInvS mJ6_bitCount_0f7a4 1 81), (1, oFail)]
set_option maxRecDepth 20000 in
theorem zX11_least_4 : SndL mX11_least 64 kX11_least_4 := SndL.c (s_fail) (SndL.c (s_invV (r := (RX11, TX11, 14)) (ci := 12) okX11_barredPhrases rfl (by decide) rfl rfl w_5_38 w_5_40 v_26 (by decide +kernel)) (SndL.c (s_fail) (SndL.c (s_fail) (SndL.c (s_invV (r := (RX11, TX11, 14)) (ci := 12) okX11_leastStruck rfl (by decide) rfl rfl w_5_42 w_5_44 v_27 (by decide +kernel)) (SndL.c (s_fail) (SndL.c (s_fail) (SndL.c (s_putf (k := 13) clok12 (by decide) rfl (by decide) rfl w_1_205 (Or.inl rfl) (Or.inl rfl) (by decide +kernel)) (SndL.c (s_fail) (SndL.c (s_fail) (SndL.c (s_aload_n (k := 0) (by decide +kernel) rfl) (SndL.c (s_getf (k := 13) clok12 (by decide) rfl (by decide) rfl w_1_205 (Or.inl rfl) (by decide +kernel)) (SndL.c (s_fail) (SndL.c (s_fail) (SndL.c (s_invS okJ6_bitCount_0f7a4 w_5_46 w_5_47 (by decide +kernel)) (SndL.c (s_fail) (SndL.n))))))))))))))))
def kX11_least_5 : List En := [(1, oFail), (0, oRetI)]
set_option maxRecDepth 20000 in
theorem zX11_least_5 : SndL mX11_least 80 kX11_least_5 := SndL.c (s_fail) (SndL.c (s_ret_i rfl (by decide +kernel)) (SndL.n))
def kX11_least : Cd := [kX11_least_0, kX11_least_1, kX11_least_2, kX11_least_3, kX11_least_4, kX11_least_5]
theorem zX11_least : SndC mX11_least 0 kX11_least := SndC.c zX11_least_0 (by decide) (SndC.c zX11_least_1 (by decide) (SndC.c zX11_least_2 (by decide) (SndC.c zX11_least_3 (by decide) (SndC.c zX11_least_4 (by decide) (SndC.c zX11_least_5 (by decide) (SndC.n))))))
theorem aX11_least_0 : at_ kX11_least 0 = (0, oRload 0 1) := rfl
theorem aX11_least_1 : at_ kX11_least 1 = (0, oIload 1 2) := rfl
theorem aX11_least_2 : at_ kX11_least 2 = (2, oInvV 13 mX11_advertOf 1 5) := rfl
theorem aX11_least_5 : at_ kX11_least 5 = (0, oRstore 2 6) := rfl
theorem aX11_least_6 : at_ kX11_least 6 = (0, oRload 2 7) := rfl
theorem aX11_least_7 : at_ kX11_least 7 = (0, oIfnonnull 16 10) := rfl
theorem aX11_least_10 : at_ kX11_least 10 = (0, oRload 0 11) := rfl
theorem aX11_least_11 : at_ kX11_least 11 = (0, oPush (vI (-1)) 12) := rfl
theorem aX11_least_12 : at_ kX11_least 12 = (2, oInvV 13 mX11_refused 1 15) := rfl
theorem aX11_least_15 : at_ kX11_least 15 = (0, oRetI) := rfl
theorem aX11_least_16 : at_ kX11_least 16 = (0, oRload 2 17) := rfl
theorem aX11_least_17 : at_ kX11_least 17 = (0, oGetf 2 2 2 20) := rfl
theorem aX11_least_20 : at_ kX11_least 20 = (0, oAlen 21) := rfl
theorem aX11_least_21 : at_ kX11_least 21 = (0, oPush (vI 12) 23) := rfl
theorem aX11_least_23 : at_ kX11_least 23 = (0, oIcLe 33 26) := rfl
theorem aX11_least_26 : at_ kX11_least 26 = (0, oRload 0 27) := rfl
theorem aX11_least_27 : at_ kX11_least 27 = (0, oPush (vI (-7)) 29) := rfl
theorem aX11_least_29 : at_ kX11_least 29 = (2, oInvV 13 mX11_refused 1 32) := rfl
theorem aX11_least_32 : at_ kX11_least 32 = (0, oRetI) := rfl
theorem aX11_least_33 : at_ kX11_least 33 = (0, oRload 0 34) := rfl
theorem aX11_least_34 : at_ kX11_least 34 = (0, oRload 0 35) := rfl
theorem aX11_least_35 : at_ kX11_least 35 = (0, oGetf 13 11 0 38) := rfl
theorem aX11_least_38 : at_ kX11_least 38 = (0, oRload 0 39) := rfl
theorem aX11_least_39 : at_ kX11_least 39 = (0, oGetf 13 11 0 42) := rfl
theorem aX11_least_42 : at_ kX11_least 42 = (2, oInvV 13 mX11_tellingPhrases 2 45) := rfl
theorem aX11_least_45 : at_ kX11_least 45 = (0, oIstore 3 46) := rfl
theorem aX11_least_46 : at_ kX11_least 46 = (0, oRload 0 47) := rfl
theorem aX11_least_47 : at_ kX11_least 47 = (0, oRload 0 48) := rfl
theorem aX11_least_48 : at_ kX11_least 48 = (0, oRload 2 49) := rfl
theorem aX11_least_49 : at_ kX11_least 49 = (0, oIload 3 50) := rfl
theorem aX11_least_50 : at_ kX11_least 50 = (0, oRload 0 51) := rfl
theorem aX11_least_51 : at_ kX11_least 51 = (0, oRload 2 52) := rfl
theorem aX11_least_52 : at_ kX11_least 52 = (0, oIload 3 53) := rfl
theorem aX11_least_53 : at_ kX11_least 53 = (0, oRload 0 54) := rfl
theorem aX11_least_54 : at_ kX11_least 54 = (0, oRload 0 55) := rfl
theorem aX11_least_55 : at_ kX11_least 55 = (0, oGetf 13 11 0 58) := rfl
theorem aX11_least_58 : at_ kX11_least 58 = (0, oRload 0 59) := rfl
theorem aX11_least_59 : at_ kX11_least 59 = (0, oGetf 13 11 0 62) := rfl
theorem aX11_least_62 : at_ kX11_least 62 = (2, oInvV 13 mX11_rulesInForce 2 65) := rfl
theorem aX11_least_65 : at_ kX11_least 65 = (2, oInvV 13 mX11_barredPhrases 3 68) := rfl
theorem aX11_least_68 : at_ kX11_least 68 = (2, oInvV 13 mX11_leastStruck 3 71) := rfl
theorem aX11_least_71 : at_ kX11_least 71 = (0, oPutf 13 13 0 74) := rfl
theorem aX11_least_74 : at_ kX11_least 74 = (0, oRload 0 75) := rfl
theorem aX11_least_75 : at_ kX11_least 75 = (0, oGetf 13 13 0 78) := rfl
theorem aX11_least_78 : at_ kX11_least 78 = (2, oInvS mJ6_bitCount_0f7a4 1 81) := rfl
theorem aX11_least_81 : at_ kX11_least 81 = (0, oRetI) := rfl
def kX11_leastSet_0 : List En := [(0, oRload 0 1), (0, oGetf 13 13 0 4), (1, oFail), (1, oFail), (0, oRetI)]
set_option maxRecDepth 20000 in
theorem zX11_leastSet_0 : SndL mX11_leastSet 0 kX11_leastSet_0 := SndL.c (s_aload_n (k := 0) (by decide +kernel) rfl) (SndL.c (s_getf (k := 13) clok12 (by decide) rfl (by decide) rfl w_1_205 (Or.inl rfl) (by decide +kernel)) (SndL.c (s_fail) (SndL.c (s_fail) (SndL.c (s_ret_i rfl (by decide +kernel)) (SndL.n)))))
def kX11_leastSet : Cd := [kX11_leastSet_0]
theorem zX11_leastSet : SndC mX11_leastSet 0 kX11_leastSet := SndC.c zX11_leastSet_0 (by decide) (SndC.n)
theorem aX11_leastSet_0 : at_ kX11_leastSet 0 = (0, oRload 0 1) := rfl
theorem aX11_leastSet_1 : at_ kX11_leastSet 1 = (0, oGetf 13 13 0 4) := rfl
theorem aX11_leastSet_4 : at_ kX11_leastSet 4 = (0, oRetI) := rfl
def kX11_judge_0 : List En := [(0, oRload 0 1), (0, oIload 1 2), (2, oInvV 13 mX11_advertOf 1 5), (1, oFail), (1, oFail), (0, oRstore 3 6), (0, oRload 3 7), (0, oIfnonnull 16 10), (1, oFail), (1, oFail), (0, oRload 0 11), (0, oPush (vI (-1)) 12), (2, oInvV 13 mX11_refused 1 15), (1, oFail), (1, oFail), (0, oRetI)]
set_option maxRecDepth 20000 in
theorem zX11_judge_0 : SndL mX11_judge 0 kX11_judge_0 := SndL.c (s_aload_n (k := 0) (by decide +kernel) rfl) (SndL.c (s_iload_n (k := 1) (by decide +kernel) rfl) (SndL.c (s_invV (r := (RX11, TX11, 14)) (ci := 12) okX11_advertOf rfl (by decide) rfl rfl w_2_187 w_2_189 v_5 (by decide +kernel)) (SndL.c (s_fail) (SndL.c (s_fail) (SndL.c (s_astore_n (k := 3) (by decide +kernel) rfl (by decide)) (SndL.c (s_aload_n (k := 3) (by decide +kernel) rfl) (SndL.c (s_ifnonnull (off := 9) (by decide +kernel) (by decide)) (SndL.c (s_fail) (SndL.c (s_fail) (SndL.c (s_aload_n (k := 0) (by decide +kernel) rfl) (SndL.c (s_iconst (by decide +kernel) (in32_d (by decide))) (SndL.c (s_invV (r := (RX11, TX11, 14)) (ci := 12) okX11_refused rfl (by decide) rfl rfl w_1_239 w_2_1 v_0 (by decide +kernel)) (SndL.c (s_fail) (SndL.c (s_fail) (SndL.c (s_ret_i rfl (by decide +kernel)) (SndL.n))))))))))))))))
def kX11_judge_1 : List En := [(0, oRload 0 17), (0, oIload 2 18), (2, oInvV 13 mX11_lackOfRow 1 21), (1, oFail), (1, oFail), (0, oIstore 4 23), (1, oFail), (0, oIload 4 25), (1, oFail), (0, oIfEq 35 28), (1, oFail), (1, oFail), (0, oRload 0 29), (0, oIload 4 31), (1, oFail), (2, oInvV 13 mX11_refused 1 34)]
set_option maxRecDepth 20000 in
theorem zX11_judge_1 : SndL mX11_judge 16 kX11_judge_1 := SndL.c (s_aload_n (k := 0) (by decide +kernel) rfl) (SndL.c (s_iload_n (k := 2) (by decide +kernel) rfl) (SndL.c (s_invV (r := (RX11, TX11, 14)) (ci := 12) okX11_lackOfRow rfl (by decide) rfl rfl w_2_18 w_2_20 v_1 (by decide +kernel)) (SndL.c (s_fail) (SndL.c (s_fail) (SndL.c (s_istore (by decide +kernel) (by decide)) (SndL.c (s_fail) (SndL.c (s_iload (by decide +kernel)) (SndL.c (s_fail) (SndL.c (s_if_eq (off := 10) (by decide +kernel) (by decide)) (SndL.c (s_fail) (SndL.c (s_fail) (SndL.c (s_aload_n (k := 0) (by decide +kernel) rfl) (SndL.c (s_iload (by decide +kernel)) (SndL.c (s_fail) (SndL.c (s_invV (r := (RX11, TX11, 14)) (ci := 12) okX11_refused rfl (by decide) rfl rfl w_1_239 w_2_1 v_0 (by decide +kernel)) (SndL.n))))))))))))))))
def kX11_judge_2 : List En := [(1, oFail), (1, oFail), (0, oRetI), (0, oPush (vI 0) 36), (0, oIstore 5 38), (1, oFail), (0, oPush (vI 0) 39), (0, oIstore 6 41), (1, oFail), (1, oIload 6 43), (1, oFail), (0, oRload 0 44), (0, oGetf 13 0 2 47), (1, oFail), (1, oFail), (0, oIload 2 48)]
set_option maxRecDepth 20000 in
theorem zX11_judge_2 : SndL mX11_judge 32 kX11_judge_2 := SndL.c (s_fail) (SndL.c (s_fail) (SndL.c (s_ret_i rfl (by decide +kernel)) (SndL.c (s_iconst (by decide +kernel) (in32_d (by decide))) (SndL.c (s_istore (by decide +kernel) (by decide)) (SndL.c (s_fail) (SndL.c (s_iconst (by decide +kernel) (in32_d (by decide))) (SndL.c (s_istore (by decide +kernel) (by decide)) (SndL.c (s_fail) (SndL.c (s_iload (by decide +kernel)) (SndL.c (s_fail) (SndL.c (s_aload_n (k := 0) (by decide +kernel) rfl) (SndL.c (s_getf (k := 0) clok12 (by decide) rfl (by decide) rfl w_1_192 (Or.inl rfl) (by decide +kernel)) (SndL.c (s_fail) (SndL.c (s_fail) (SndL.c (s_iload_n (k := 2) (by decide +kernel) rfl) (SndL.n))))))))))))))))
def kX11_judge_3 : List En := [(0, oAald 111 49), (0, oGetf 11 3 0 52), (1, oFail), (1, oFail), (0, oIcGe 105 55), (1, oFail), (1, oFail), (0, oRload 0 56), (0, oGetf 13 0 2 59), (1, oFail), (1, oFail), (0, oIload 2 60), (0, oAald 111 61), (0, oIload 6 63), (1, oFail), (2, oInvV 11 mX9_intAt 1 66)]
set_option maxRecDepth 20000 in
theorem zX11_judge_3 : SndL mX11_judge 48 kX11_judge_3 := SndL.c (s_aald (kd := 111) (akd_d (by decide)) rfl rfl (by decide +kernel)) (SndL.c (s_getf (k := 3) clok10 (by decide) rfl (by decide) rfl w_1_176 (Or.inl rfl) (by decide +kernel)) (SndL.c (s_fail) (SndL.c (s_fail) (SndL.c (s_ic_ge (off := 53) (by decide +kernel) (by decide)) (SndL.c (s_fail) (SndL.c (s_fail) (SndL.c (s_aload_n (k := 0) (by decide +kernel) rfl) (SndL.c (s_getf (k := 0) clok12 (by decide) rfl (by decide) rfl w_1_192 (Or.inl rfl) (by decide +kernel)) (SndL.c (s_fail) (SndL.c (s_fail) (SndL.c (s_iload_n (k := 2) (by decide +kernel) rfl) (SndL.c (s_aald (kd := 111) (akd_d (by decide)) rfl rfl (by decide +kernel)) (SndL.c (s_iload (by decide +kernel)) (SndL.c (s_fail) (SndL.c (s_invV (r := (RX9, TX9, 5)) (ci := 10) okX9_intAt rfl (by decide) rfl rfl w_5_64 w_2_74 w_2_75 (by decide +kernel)) (SndL.n))))))))))))))))
def kX11_judge_4 : List En := [(1, oFail), (1, oFail), (0, oIstore 7 68), (1, oFail), (0, oIload 7 70), (1, oFail), (0, oIfLt 83 73), (1, oFail), (1, oFail), (0, oIload 7 75), (1, oFail), (0, oRload 3 76), (0, oGetf 2 2 2 79), (1, oFail), (1, oFail), (0, oAlen 80)]
set_option maxRecDepth 20000 in
theorem zX11_judge_4 : SndL mX11_judge 64 kX11_judge_4 := SndL.c (s_fail) (SndL.c (s_fail) (SndL.c (s_istore (by decide +kernel) (by decide)) (SndL.c (s_fail) (SndL.c (s_iload (by decide +kernel)) (SndL.c (s_fail) (SndL.c (s_if_lt (off := 13) (by decide +kernel) (by decide)) (SndL.c (s_fail) (SndL.c (s_fail) (SndL.c (s_iload (by decide +kernel)) (SndL.c (s_fail) (SndL.c (s_aload_n (k := 3) (by decide +kernel) rfl) (SndL.c (s_getf (k := 2) clok1 (by decide) rfl (by decide) rfl w_2_88 (Or.inl rfl) (by decide +kernel)) (SndL.c (s_fail) (SndL.c (s_fail) (SndL.c (s_alen (by decide +kernel)) (SndL.n))))))))))))))))
def kX11_judge_5 : List En := [(0, oIcLt 90 83), (1, oFail), (1, oFail), (0, oRload 0 84), (0, oPush (vI (-6)) 86), (1, oFail), (2, oInvV 13 mX11_refused 1 89), (1, oFail), (1, oFail), (0, oRetI), (0, oIload 5 92), (1, oFail), (0, oPush (vI 1) 93), (0, oIload 7 95), (1, oFail), (0, oIshl 96)]
set_option maxRecDepth 20000 in
theorem zX11_judge_5 : SndL mX11_judge 80 kX11_judge_5 := SndL.c (s_ic_lt (off := 10) (by decide +kernel) (by decide)) (SndL.c (s_fail) (SndL.c (s_fail) (SndL.c (s_aload_n (k := 0) (by decide +kernel) rfl) (SndL.c (s_bipush (by decide +kernel) (in32_d (by decide)) (by decide +kernel)) (SndL.c (s_fail) (SndL.c (s_invV (r := (RX11, TX11, 14)) (ci := 12) okX11_refused rfl (by decide) rfl rfl w_1_239 w_2_1 v_0 (by decide +kernel)) (SndL.c (s_fail) (SndL.c (s_fail) (SndL.c (s_ret_i rfl (by decide +kernel)) (SndL.c (s_iload (by decide +kernel)) (SndL.c (s_fail) (SndL.c (s_iconst (by decide +kernel) (in32_d (by decide))) (SndL.c (s_iload (by decide +kernel)) (SndL.c (s_fail) (SndL.c (s_ishl (by decide +kernel)) (SndL.n))))))))))))))))
def kX11_judge_6 : List En := [(0, oIor 97), (0, oIstore 5 99), (1, oFail), (0, oIinc 6 1 102), (1, oFail), (1, oFail), (0, oGoto 41), (1, oFail), (1, oFail), (0, oRload 0 106), (0, oRload 0 107), (0, oGetf 13 11 0 110), (1, oFail), (1, oFail), (0, oRload 0 111), (0, oGetf 13 11 0 114)]
set_option maxRecDepth 20000 in
theorem zX11_judge_6 : SndL mX11_judge 96 kX11_judge_6 := SndL.c (s_ior (by decide +kernel)) (SndL.c (s_istore (by decide +kernel) (by decide)) (SndL.c (s_fail) (SndL.c (s_iinc (by decide +kernel) (by decide)) (SndL.c (s_fail) (SndL.c (s_fail) (SndL.c (s_goto (off := -61) (by decide +kernel) (by decide)) (SndL.c (s_fail) (SndL.c (s_fail) (SndL.c (s_aload_n (k := 0) (by decide +kernel) rfl) (SndL.c (s_aload_n (k := 0) (by decide +kernel) rfl) (SndL.c (s_getf (k := 11) clok12 (by decide) rfl (by decide) rfl w_1_203 (Or.inl rfl) (by decide +kernel)) (SndL.c (s_fail) (SndL.c (s_fail) (SndL.c (s_aload_n (k := 0) (by decide +kernel) rfl) (SndL.c (s_getf (k := 11) clok12 (by decide) rfl (by decide) rfl w_1_203 (Or.inl rfl) (by decide +kernel)) (SndL.n))))))))))))))))
def kX11_judge_7 : List En := [(1, oFail), (1, oFail), (2, oInvV 13 mX11_tellingPhrases 2 117), (1, oFail), (1, oFail), (0, oIstore 6 119), (1, oFail), (0, oRload 0 120), (0, oRload 3 121), (0, oIload 6 123), (1, oFail), (0, oRload 0 124), (0, oRload 0 125), (0, oGetf 13 11 0 128), (1, oFail), (1, oFail)]
set_option maxRecDepth 20000 in
theorem zX11_judge_7 : SndL mX11_judge 112 kX11_judge_7 := SndL.c (s_fail) (SndL.c (s_fail) (SndL.c (s_invV (r := (RX11, TX11, 14)) (ci := 12) okX11_tellingPhrases rfl (by decide) rfl rfl w_3_53 w_3_55 v_8 (by decide +kernel)) (SndL.c (s_fail) (SndL.c (s_fail) (SndL.c (s_istore (by decide +kernel) (by decide)) (SndL.c (s_fail) (SndL.c (s_aload_n (k := 0) (by decide +kernel) rfl) (SndL.c (s_aload_n (k := 3) (by decide +kernel) rfl) (SndL.c (s_iload (by decide +kernel)) (SndL.c (s_fail) (SndL.c (s_aload_n (k := 0) (by decide +kernel) rfl) (SndL.c (s_aload_n (k := 0) (by decide +kernel) rfl) (SndL.c (s_getf (k := 11) clok12 (by decide) rfl (by decide) rfl w_1_203 (Or.inl rfl) (by decide +kernel)) (SndL.c (s_fail) (SndL.c (s_fail) (SndL.n))))))))))))))))
def kX11_judge_8 : List En := [(0, oRload 0 129), (0, oGetf 13 11 0 132), (1, oFail), (1, oFail), (2, oInvV 13 mX11_rulesInForce 2 135), (1, oFail), (1, oFail), (2, oInvV 13 mX11_barredPhrases 3 138), (1, oFail), (1, oFail), (0, oIstore 7 140), (1, oFail), (0, oRload 0 141), (0, oRload 3 142), (0, oIload 5 144), (1, oFail)]
set_option maxRecDepth 20000 in
theorem zX11_judge_8 : SndL mX11_judge 128 kX11_judge_8 := SndL.c (s_aload_n (k := 0) (by decide +kernel) rfl) (SndL.c (s_getf (k := 11) clok12 (by decide) rfl (by decide) rfl w_1_203 (Or.inl rfl) (by decide +kernel)) (SndL.c (s_fail) (SndL.c (s_fail) (SndL.c (s_invV (r := (RX11, TX11, 14)) (ci := 12) okX11_rulesInForce rfl (by decide) rfl rfl w_4_78 w_4_80 v_23 (by decide +kernel)) (SndL.c (s_fail) (SndL.c (s_fail) (SndL.c (s_invV (r := (RX11, TX11, 14)) (ci := 12) okX11_barredPhrases rfl (by decide) rfl rfl w_5_38 w_5_40 v_26 (by decide +kernel)) (SndL.c (s_fail) (SndL.c (s_fail) (SndL.c (s_istore (by decide +kernel) (by decide)) (SndL.c (s_fail) (SndL.c (s_aload_n (k := 0) (by decide +kernel) rfl) (SndL.c (s_aload_n (k := 3) (by decide +kernel) rfl) (SndL.c (s_iload (by decide +kernel)) (SndL.c (s_fail) (SndL.n))))))))))))))))
def kX11_judge_9 : List En := [(0, oIload 6 146), (1, oFail), (0, oIload 7 148), (1, oFail), (2, oInvV 13 mX11_standsWithout 4 151), (1, oFail), (1, oFail), (2, oInvS mX11_bit 1 154), (1, oFail), (1, oFail), (0, oRetI)]
set_option maxRecDepth 20000 in
theorem zX11_judge_9 : SndL mX11_judge 144 kX11_judge_9 := SndL.c (s_iload (by decide +kernel)) (SndL.c (s_fail) (SndL.c (s_iload (by decide +kernel)) (SndL.c (s_fail) (SndL.c (s_invV (r := (RX11, TX11, 14)) (ci := 12) okX11_standsWithout rfl (by decide) rfl rfl w_5_52 w_5_54 v_28 (by decide +kernel)) (SndL.c (s_fail) (SndL.c (s_fail) (SndL.c (s_invS okX11_bit w_3_100 w_3_101 (by decide +kernel)) (SndL.c (s_fail) (SndL.c (s_fail) (SndL.c (s_ret_i rfl (by decide +kernel)) (SndL.n)))))))))))
def kX11_judge : Cd := [kX11_judge_0, kX11_judge_1, kX11_judge_2, kX11_judge_3, kX11_judge_4, kX11_judge_5, kX11_judge_6, kX11_judge_7, kX11_judge_8, kX11_judge_9]
theorem zX11_judge : SndC mX11_judge 0 kX11_judge := SndC.c zX11_judge_0 (by decide) (SndC.c zX11_judge_1 (by decide) (SndC.c zX11_judge_2 (by decide) (SndC.c zX11_judge_3 (by decide) (SndC.c zX11_judge_4 (by decide) (SndC.c zX11_judge_5 (by decide) (SndC.c zX11_judge_6 (by decide) (SndC.c zX11_judge_7 (by decide) (SndC.c zX11_judge_8 (by decide) (SndC.c zX11_judge_9 (by decide) (SndC.n))))))))))
theorem aX11_judge_0 : at_ kX11_judge 0 = (0, oRload 0 1) := rfl
theorem aX11_judge_1 : at_ kX11_judge 1 = (0, oIload 1 2) := rfl
theorem aX11_judge_2 : at_ kX11_judge 2 = (2, oInvV 13 mX11_advertOf 1 5) := rfl
theorem aX11_judge_5 : at_ kX11_judge 5 = (0, oRstore 3 6) := rfl
theorem aX11_judge_6 : at_ kX11_judge 6 = (0, oRload 3 7) := rfl
theorem aX11_judge_7 : at_ kX11_judge 7 = (0, oIfnonnull 16 10) := rfl
theorem aX11_judge_10 : at_ kX11_judge 10 = (0, oRload 0 11) := rfl
theorem aX11_judge_11 : at_ kX11_judge 11 = (0, oPush (vI (-1)) 12) := rfl
theorem aX11_judge_12 : at_ kX11_judge 12 = (2, oInvV 13 mX11_refused 1 15) := rfl
theorem aX11_judge_15 : at_ kX11_judge 15 = (0, oRetI) := rfl
theorem aX11_judge_16 : at_ kX11_judge 16 = (0, oRload 0 17) := rfl
theorem aX11_judge_17 : at_ kX11_judge 17 = (0, oIload 2 18) := rfl
theorem aX11_judge_18 : at_ kX11_judge 18 = (2, oInvV 13 mX11_lackOfRow 1 21) := rfl
theorem aX11_judge_21 : at_ kX11_judge 21 = (0, oIstore 4 23) := rfl
theorem aX11_judge_23 : at_ kX11_judge 23 = (0, oIload 4 25) := rfl
theorem aX11_judge_25 : at_ kX11_judge 25 = (0, oIfEq 35 28) := rfl
theorem aX11_judge_28 : at_ kX11_judge 28 = (0, oRload 0 29) := rfl
theorem aX11_judge_29 : at_ kX11_judge 29 = (0, oIload 4 31) := rfl
theorem aX11_judge_31 : at_ kX11_judge 31 = (2, oInvV 13 mX11_refused 1 34) := rfl
theorem aX11_judge_34 : at_ kX11_judge 34 = (0, oRetI) := rfl
theorem aX11_judge_35 : at_ kX11_judge 35 = (0, oPush (vI 0) 36) := rfl
theorem aX11_judge_36 : at_ kX11_judge 36 = (0, oIstore 5 38) := rfl
theorem aX11_judge_38 : at_ kX11_judge 38 = (0, oPush (vI 0) 39) := rfl
theorem aX11_judge_39 : at_ kX11_judge 39 = (0, oIstore 6 41) := rfl
theorem aX11_judge_41 : at_ kX11_judge 41 = (1, oIload 6 43) := rfl
theorem aX11_judge_43 : at_ kX11_judge 43 = (0, oRload 0 44) := rfl
theorem aX11_judge_44 : at_ kX11_judge 44 = (0, oGetf 13 0 2 47) := rfl
theorem aX11_judge_47 : at_ kX11_judge 47 = (0, oIload 2 48) := rfl
theorem aX11_judge_48 : at_ kX11_judge 48 = (0, oAald 111 49) := rfl
theorem aX11_judge_49 : at_ kX11_judge 49 = (0, oGetf 11 3 0 52) := rfl
theorem aX11_judge_52 : at_ kX11_judge 52 = (0, oIcGe 105 55) := rfl
theorem aX11_judge_55 : at_ kX11_judge 55 = (0, oRload 0 56) := rfl
theorem aX11_judge_56 : at_ kX11_judge 56 = (0, oGetf 13 0 2 59) := rfl
theorem aX11_judge_59 : at_ kX11_judge 59 = (0, oIload 2 60) := rfl
theorem aX11_judge_60 : at_ kX11_judge 60 = (0, oAald 111 61) := rfl
theorem aX11_judge_61 : at_ kX11_judge 61 = (0, oIload 6 63) := rfl
theorem aX11_judge_63 : at_ kX11_judge 63 = (2, oInvV 11 mX9_intAt 1 66) := rfl
theorem aX11_judge_66 : at_ kX11_judge 66 = (0, oIstore 7 68) := rfl
theorem aX11_judge_68 : at_ kX11_judge 68 = (0, oIload 7 70) := rfl
theorem aX11_judge_70 : at_ kX11_judge 70 = (0, oIfLt 83 73) := rfl
theorem aX11_judge_73 : at_ kX11_judge 73 = (0, oIload 7 75) := rfl
theorem aX11_judge_75 : at_ kX11_judge 75 = (0, oRload 3 76) := rfl
theorem aX11_judge_76 : at_ kX11_judge 76 = (0, oGetf 2 2 2 79) := rfl
theorem aX11_judge_79 : at_ kX11_judge 79 = (0, oAlen 80) := rfl
theorem aX11_judge_80 : at_ kX11_judge 80 = (0, oIcLt 90 83) := rfl
theorem aX11_judge_83 : at_ kX11_judge 83 = (0, oRload 0 84) := rfl
theorem aX11_judge_84 : at_ kX11_judge 84 = (0, oPush (vI (-6)) 86) := rfl
theorem aX11_judge_86 : at_ kX11_judge 86 = (2, oInvV 13 mX11_refused 1 89) := rfl
theorem aX11_judge_89 : at_ kX11_judge 89 = (0, oRetI) := rfl
theorem aX11_judge_90 : at_ kX11_judge 90 = (0, oIload 5 92) := rfl
theorem aX11_judge_92 : at_ kX11_judge 92 = (0, oPush (vI 1) 93) := rfl
theorem aX11_judge_93 : at_ kX11_judge 93 = (0, oIload 7 95) := rfl
theorem aX11_judge_95 : at_ kX11_judge 95 = (0, oIshl 96) := rfl
theorem aX11_judge_96 : at_ kX11_judge 96 = (0, oIor 97) := rfl
theorem aX11_judge_97 : at_ kX11_judge 97 = (0, oIstore 5 99) := rfl
theorem aX11_judge_99 : at_ kX11_judge 99 = (0, oIinc 6 1 102) := rfl
theorem aX11_judge_102 : at_ kX11_judge 102 = (0, oGoto 41) := rfl
theorem aX11_judge_105 : at_ kX11_judge 105 = (0, oRload 0 106) := rfl
theorem aX11_judge_106 : at_ kX11_judge 106 = (0, oRload 0 107) := rfl
theorem aX11_judge_107 : at_ kX11_judge 107 = (0, oGetf 13 11 0 110) := rfl
theorem aX11_judge_110 : at_ kX11_judge 110 = (0, oRload 0 111) := rfl
theorem aX11_judge_111 : at_ kX11_judge 111 = (0, oGetf 13 11 0 114) := rfl
theorem aX11_judge_114 : at_ kX11_judge 114 = (2, oInvV 13 mX11_tellingPhrases 2 117) := rfl
theorem aX11_judge_117 : at_ kX11_judge 117 = (0, oIstore 6 119) := rfl
theorem aX11_judge_119 : at_ kX11_judge 119 = (0, oRload 0 120) := rfl
theorem aX11_judge_120 : at_ kX11_judge 120 = (0, oRload 3 121) := rfl
theorem aX11_judge_121 : at_ kX11_judge 121 = (0, oIload 6 123) := rfl
theorem aX11_judge_123 : at_ kX11_judge 123 = (0, oRload 0 124) := rfl
theorem aX11_judge_124 : at_ kX11_judge 124 = (0, oRload 0 125) := rfl
theorem aX11_judge_125 : at_ kX11_judge 125 = (0, oGetf 13 11 0 128) := rfl
theorem aX11_judge_128 : at_ kX11_judge 128 = (0, oRload 0 129) := rfl
theorem aX11_judge_129 : at_ kX11_judge 129 = (0, oGetf 13 11 0 132) := rfl
theorem aX11_judge_132 : at_ kX11_judge 132 = (2, oInvV 13 mX11_rulesInForce 2 135) := rfl
theorem aX11_judge_135 : at_ kX11_judge 135 = (2, oInvV 13 mX11_barredPhrases 3 138) := rfl
theorem aX11_judge_138 : at_ kX11_judge 138 = (0, oIstore 7 140) := rfl
theorem aX11_judge_140 : at_ kX11_judge 140 = (0, oRload 0 141) := rfl
theorem aX11_judge_141 : at_ kX11_judge 141 = (0, oRload 3 142) := rfl
theorem aX11_judge_142 : at_ kX11_judge 142 = (0, oIload 5 144) := rfl
theorem aX11_judge_144 : at_ kX11_judge 144 = (0, oIload 6 146) := rfl
theorem aX11_judge_146 : at_ kX11_judge 146 = (0, oIload 7 148) := rfl
theorem aX11_judge_148 : at_ kX11_judge 148 = (2, oInvV 13 mX11_standsWithout 4 151) := rfl
theorem aX11_judge_151 : at_ kX11_judge 151 = (2, oInvS mX11_bit 1 154) := rfl
theorem aX11_judge_154 : at_ kX11_judge 154 = (0, oRetI) := rfl
def kX11_beside_0 : List En := [(0, oIload 1 1), (0, oRload 0 2), (0, oGetf 13 3 2 5), (1, oFail), (1, oFail), (2, oInvV 1 mJx4a65c_size_8abf5 0 8), (1, oFail), (1, oFail), (0, oIushr 9), (0, oIfEq 14 12), (1, oFail), (1, oFail), (0, oPush (vI (-1)) 13), (0, oRetI), (0, oRload 0 15), (0, oRload 0 16)]
set_option maxRecDepth 20000 in
theorem zX11_beside_0 : SndL mX11_beside 0 kX11_beside_0 := SndL.c (s_iload_n (k := 1) (by decide +kernel) rfl) (SndL.c (s_aload_n (k := 0) (by decide +kernel) rfl) (SndL.c (s_getf (k := 3) clok12 (by decide) rfl (by decide) rfl w_1_195 (Or.inl rfl) (by decide +kernel)) (SndL.c (s_fail) (SndL.c (s_fail) (SndL.c (s_invV (r := (RJx4a65c, TJx4a65c, 3)) (ci := 0) okJx4a65c_size_8abf5 rfl (by decide) rfl rfl w_2_63 w_2_64 w_2_65 (by decide +kernel)) (SndL.c (s_fail) (SndL.c (s_fail) (SndL.c (s_iushr (by decide +kernel)) (SndL.c (s_if_eq (off := 5) (by decide +kernel) (by decide)) (SndL.c (s_fail) (SndL.c (s_fail) (SndL.c (s_iconst (by decide +kernel) (in32_d (by decide))) (SndL.c (s_ret_i rfl (by decide +kernel)) (SndL.c (s_aload_n (k := 0) (by decide +kernel) rfl) (SndL.c (s_aload_n (k := 0) (by decide +kernel) rfl) (SndL.n))))))))))))))))
def kX11_beside_1 : List En := [(0, oGetf 13 11 0 19), (1, oFail), (1, oFail), (0, oRload 0 20), (0, oGetf 13 11 0 23), (1, oFail), (1, oFail), (2, oInvV 13 mX11_tellingPhrases 2 26), (1, oFail), (1, oFail), (0, oIstore 2 27), (0, oPush (vI 0) 28), (0, oIstore 3 29), (0, oPush (vI 0) 30), (0, oIstore 4 32), (1, oFail)]
set_option maxRecDepth 20000 in
theorem zX11_beside_1 : SndL mX11_beside 16 kX11_beside_1 := SndL.c (s_getf (k := 11) clok12 (by decide) rfl (by decide) rfl w_1_203 (Or.inl rfl) (by decide +kernel)) (SndL.c (s_fail) (SndL.c (s_fail) (SndL.c (s_aload_n (k := 0) (by decide +kernel) rfl) (SndL.c (s_getf (k := 11) clok12 (by decide) rfl (by decide) rfl w_1_203 (Or.inl rfl) (by decide +kernel)) (SndL.c (s_fail) (SndL.c (s_fail) (SndL.c (s_invV (r := (RX11, TX11, 14)) (ci := 12) okX11_tellingPhrases rfl (by decide) rfl rfl w_3_53 w_3_55 v_8 (by decide +kernel)) (SndL.c (s_fail) (SndL.c (s_fail) (SndL.c (s_istore_n (k := 2) (by decide +kernel) rfl (by decide)) (SndL.c (s_iconst (by decide +kernel) (in32_d (by decide))) (SndL.c (s_istore_n (k := 3) (by decide +kernel) rfl (by decide)) (SndL.c (s_iconst (by decide +kernel) (in32_d (by decide))) (SndL.c (s_istore (by decide +kernel) (by decide)) (SndL.c (s_fail) (SndL.n))))))))))))))))
def kX11_beside_2 : List En := [(1, oIload 4 34), (1, oFail), (0, oRload 0 35), (0, oGetf 13 1 2 38), (1, oFail), (1, oFail), (2, oInvV 1 mJx4a65c_size_8abf5 0 41), (1, oFail), (1, oFail), (0, oIcGe 111 44), (1, oFail), (1, oFail), (0, oRload 0 45), (0, oGetf 13 1 2 48), (1, oFail), (1, oFail)]
set_option maxRecDepth 20000 in
theorem zX11_beside_2 : SndL mX11_beside 32 kX11_beside_2 := SndL.c (s_iload (by decide +kernel)) (SndL.c (s_fail) (SndL.c (s_aload_n (k := 0) (by decide +kernel) rfl) (SndL.c (s_getf (k := 1) clok12 (by decide) rfl (by decide) rfl w_1_193 (Or.inl rfl) (by decide +kernel)) (SndL.c (s_fail) (SndL.c (s_fail) (SndL.c (s_invV (r := (RJx4a65c, TJx4a65c, 3)) (ci := 0) okJx4a65c_size_8abf5 rfl (by decide) rfl rfl w_2_63 w_2_64 w_2_65 (by decide +kernel)) (SndL.c (s_fail) (SndL.c (s_fail) (SndL.c (s_ic_ge (off := 70) (by decide +kernel) (by decide)) (SndL.c (s_fail) (SndL.c (s_fail) (SndL.c (s_aload_n (k := 0) (by decide +kernel) rfl) (SndL.c (s_getf (k := 1) clok12 (by decide) rfl (by decide) rfl w_1_193 (Or.inl rfl) (by decide +kernel)) (SndL.c (s_fail) (SndL.c (s_fail) (SndL.n))))))))))))))))
def kX11_beside_3 : List En := [(0, oIload 4 50), (1, oFail), (2, oInvV 1 mJx4a65c_get_915e3 1 53), (1, oFail), (1, oFail), (0, oCast 2 56), (1, oFail), (1, oFail), (0, oRstore 5 58), (1, oFail), (0, oRload 0 59), (0, oRload 5 61), (1, oFail), (0, oIload 2 62), (0, oIload 1 63), (2, oInvV 13 mX11_barredPhrases 3 66)]
set_option maxRecDepth 20000 in
theorem zX11_beside_3 : SndL mX11_beside 48 kX11_beside_3 := SndL.c (s_iload (by decide +kernel)) (SndL.c (s_fail) (SndL.c (s_invV (r := (RJx4a65c, TJx4a65c, 3)) (ci := 0) okJx4a65c_get_915e3 rfl (by decide) rfl rfl w_2_191 w_2_192 w_2_193 (by decide +kernel)) (SndL.c (s_fail) (SndL.c (s_fail) (SndL.c (s_cast (r := (RX0, TX0, 10)) (ci := 1) rfl (by decide) rfl w_2_67 (by decide +kernel)) (SndL.c (s_fail) (SndL.c (s_fail) (SndL.c (s_astore (by decide +kernel) (by decide)) (SndL.c (s_fail) (SndL.c (s_aload_n (k := 0) (by decide +kernel) rfl) (SndL.c (s_aload (by decide +kernel)) (SndL.c (s_fail) (SndL.c (s_iload_n (k := 2) (by decide +kernel) rfl) (SndL.c (s_iload_n (k := 1) (by decide +kernel) rfl) (SndL.c (s_invV (r := (RX11, TX11, 14)) (ci := 12) okX11_barredPhrases rfl (by decide) rfl rfl w_5_38 w_5_40 v_26 (by decide +kernel)) (SndL.n))))))))))))))))
def kX11_beside_4 : List En := [(1, oFail), (1, oFail), (0, oIstore 6 68), (1, oFail), (0, oRload 0 69), (0, oGetf 13 7 2 72), (1, oFail), (1, oFail), (0, oRload 0 73), (0, oGetf 13 2 2 76), (1, oFail), (1, oFail), (0, oIload 2 77), (0, oPush (vI 0) 78), (0, oRload 5 80), (1, oFail)]
set_option maxRecDepth 20000 in
theorem zX11_beside_4 : SndL mX11_beside 64 kX11_beside_4 := SndL.c (s_fail) (SndL.c (s_fail) (SndL.c (s_istore (by decide +kernel) (by decide)) (SndL.c (s_fail) (SndL.c (s_aload_n (k := 0) (by decide +kernel) rfl) (SndL.c (s_getf (k := 7) clok12 (by decide) rfl (by decide) rfl w_1_199 (Or.inl rfl) (by decide +kernel)) (SndL.c (s_fail) (SndL.c (s_fail) (SndL.c (s_aload_n (k := 0) (by decide +kernel) rfl) (SndL.c (s_getf (k := 2) clok12 (by decide) rfl (by decide) rfl w_1_194 (Or.inl rfl) (by decide +kernel)) (SndL.c (s_fail) (SndL.c (s_fail) (SndL.c (s_iload_n (k := 2) (by decide +kernel) rfl) (SndL.c (s_iconst (by decide +kernel) (in32_d (by decide))) (SndL.c (s_aload (by decide +kernel)) (SndL.c (s_fail) (SndL.n))))))))))))))))
def kX11_beside_5 : List En := [(0, oGetf 2 2 2 83), (1, oFail), (1, oFail), (0, oRload 5 85), (1, oFail), (0, oGetf 2 2 2 88), (1, oFail), (1, oFail), (0, oAlen 89), (2, oInvV 7 mX5_read 5 92), (1, oFail), (1, oFail), (0, oPop 93), (0, oIload 3 94), (0, oRload 0 95), (0, oGetf 13 7 2 98)]
set_option maxRecDepth 20000 in
theorem zX11_beside_5 : SndL mX11_beside 80 kX11_beside_5 := SndL.c (s_getf (k := 2) clok1 (by decide) rfl (by decide) rfl w_2_88 (Or.inl rfl) (by decide +kernel)) (SndL.c (s_fail) (SndL.c (s_fail) (SndL.c (s_aload (by decide +kernel)) (SndL.c (s_fail) (SndL.c (s_getf (k := 2) clok1 (by decide) rfl (by decide) rfl w_2_88 (Or.inl rfl) (by decide +kernel)) (SndL.c (s_fail) (SndL.c (s_fail) (SndL.c (s_alen (by decide +kernel)) (SndL.c (s_invV (r := (RX5, TX5, 3)) (ci := 6) okX5_read rfl (by decide) rfl rfl w_3_61 w_3_62 w_3_63 (by decide +kernel)) (SndL.c (s_fail) (SndL.c (s_fail) (SndL.c (s_pop (by decide +kernel)) (SndL.c (s_iload_n (k := 3) (by decide +kernel) rfl) (SndL.c (s_aload_n (k := 0) (by decide +kernel) rfl) (SndL.c (s_getf (k := 7) clok12 (by decide) rfl (by decide) rfl w_1_199 (Or.inl rfl) (by decide +kernel)) (SndL.n))))))))))))))))
def kX11_beside_6 : List En := [(1, oFail), (1, oFail), (0, oIload 6 100), (1, oFail), (2, oInvV 7 mX5_countIn 1 103), (1, oFail), (1, oFail), (0, oIadd 104), (0, oIstore 3 105), (0, oIinc 4 1 108), (1, oFail), (1, oFail), (0, oGoto 32), (1, oFail), (1, oFail), (0, oIload 3 112)]
set_option maxRecDepth 20000 in
theorem zX11_beside_6 : SndL mX11_beside 96 kX11_beside_6 := SndL.c (s_fail) (SndL.c (s_fail) (SndL.c (s_iload (by decide +kernel)) (SndL.c (s_fail) (SndL.c (s_invV (r := (RX5, TX5, 3)) (ci := 6) okX5_countIn rfl (by decide) rfl rfl w_5_69 w_5_70 w_5_71 (by decide +kernel)) (SndL.c (s_fail) (SndL.c (s_fail) (SndL.c (s_iadd (by decide +kernel)) (SndL.c (s_istore_n (k := 3) (by decide +kernel) rfl (by decide)) (SndL.c (s_iinc (by decide +kernel) (by decide)) (SndL.c (s_fail) (SndL.c (s_fail) (SndL.c (s_goto (off := -76) (by decide +kernel) (by decide)) (SndL.c (s_fail) (SndL.c (s_fail) (SndL.c (s_iload_n (k := 3) (by decide +kernel) rfl) (SndL.n))))))))))))))))
def kX11_beside_7 : List En := [(0, oRetI)]
set_option maxRecDepth 20000 in
theorem zX11_beside_7 : SndL mX11_beside 112 kX11_beside_7 := SndL.c (s_ret_i rfl (by decide +kernel)) (SndL.n)
def kX11_beside : Cd := [kX11_beside_0, kX11_beside_1, kX11_beside_2, kX11_beside_3, kX11_beside_4, kX11_beside_5, kX11_beside_6, kX11_beside_7]
theorem zX11_beside : SndC mX11_beside 0 kX11_beside := SndC.c zX11_beside_0 (by decide) (SndC.c zX11_beside_1 (by decide) (SndC.c zX11_beside_2 (by decide) (SndC.c zX11_beside_3 (by decide) (SndC.c zX11_beside_4 (by decide) (SndC.c zX11_beside_5 (by decide) (SndC.c zX11_beside_6 (by decide) (SndC.c zX11_beside_7 (by decide) (SndC.n))))))))
theorem aX11_beside_0 : at_ kX11_beside 0 = (0, oIload 1 1) := rfl
theorem aX11_beside_1 : at_ kX11_beside 1 = (0, oRload 0 2) := rfl
theorem aX11_beside_2 : at_ kX11_beside 2 = (0, oGetf 13 3 2 5) := rfl
theorem aX11_beside_5 : at_ kX11_beside 5 = (2, oInvV 1 mJx4a65c_size_8abf5 0 8) := rfl
theorem aX11_beside_8 : at_ kX11_beside 8 = (0, oIushr 9) := rfl
theorem aX11_beside_9 : at_ kX11_beside 9 = (0, oIfEq 14 12) := rfl
theorem aX11_beside_12 : at_ kX11_beside 12 = (0, oPush (vI (-1)) 13) := rfl
theorem aX11_beside_13 : at_ kX11_beside 13 = (0, oRetI) := rfl
theorem aX11_beside_14 : at_ kX11_beside 14 = (0, oRload 0 15) := rfl
theorem aX11_beside_15 : at_ kX11_beside 15 = (0, oRload 0 16) := rfl
theorem aX11_beside_16 : at_ kX11_beside 16 = (0, oGetf 13 11 0 19) := rfl
theorem aX11_beside_19 : at_ kX11_beside 19 = (0, oRload 0 20) := rfl
theorem aX11_beside_20 : at_ kX11_beside 20 = (0, oGetf 13 11 0 23) := rfl
theorem aX11_beside_23 : at_ kX11_beside 23 = (2, oInvV 13 mX11_tellingPhrases 2 26) := rfl
theorem aX11_beside_26 : at_ kX11_beside 26 = (0, oIstore 2 27) := rfl
theorem aX11_beside_27 : at_ kX11_beside 27 = (0, oPush (vI 0) 28) := rfl
theorem aX11_beside_28 : at_ kX11_beside 28 = (0, oIstore 3 29) := rfl
theorem aX11_beside_29 : at_ kX11_beside 29 = (0, oPush (vI 0) 30) := rfl
theorem aX11_beside_30 : at_ kX11_beside 30 = (0, oIstore 4 32) := rfl
theorem aX11_beside_32 : at_ kX11_beside 32 = (1, oIload 4 34) := rfl
theorem aX11_beside_34 : at_ kX11_beside 34 = (0, oRload 0 35) := rfl
theorem aX11_beside_35 : at_ kX11_beside 35 = (0, oGetf 13 1 2 38) := rfl
theorem aX11_beside_38 : at_ kX11_beside 38 = (2, oInvV 1 mJx4a65c_size_8abf5 0 41) := rfl
theorem aX11_beside_41 : at_ kX11_beside 41 = (0, oIcGe 111 44) := rfl
theorem aX11_beside_44 : at_ kX11_beside 44 = (0, oRload 0 45) := rfl
theorem aX11_beside_45 : at_ kX11_beside 45 = (0, oGetf 13 1 2 48) := rfl
theorem aX11_beside_48 : at_ kX11_beside 48 = (0, oIload 4 50) := rfl
theorem aX11_beside_50 : at_ kX11_beside 50 = (2, oInvV 1 mJx4a65c_get_915e3 1 53) := rfl
theorem aX11_beside_53 : at_ kX11_beside 53 = (0, oCast 2 56) := rfl
theorem aX11_beside_56 : at_ kX11_beside 56 = (0, oRstore 5 58) := rfl
theorem aX11_beside_58 : at_ kX11_beside 58 = (0, oRload 0 59) := rfl
theorem aX11_beside_59 : at_ kX11_beside 59 = (0, oRload 5 61) := rfl
theorem aX11_beside_61 : at_ kX11_beside 61 = (0, oIload 2 62) := rfl
theorem aX11_beside_62 : at_ kX11_beside 62 = (0, oIload 1 63) := rfl
theorem aX11_beside_63 : at_ kX11_beside 63 = (2, oInvV 13 mX11_barredPhrases 3 66) := rfl
theorem aX11_beside_66 : at_ kX11_beside 66 = (0, oIstore 6 68) := rfl
theorem aX11_beside_68 : at_ kX11_beside 68 = (0, oRload 0 69) := rfl
theorem aX11_beside_69 : at_ kX11_beside 69 = (0, oGetf 13 7 2 72) := rfl
theorem aX11_beside_72 : at_ kX11_beside 72 = (0, oRload 0 73) := rfl
theorem aX11_beside_73 : at_ kX11_beside 73 = (0, oGetf 13 2 2 76) := rfl
theorem aX11_beside_76 : at_ kX11_beside 76 = (0, oIload 2 77) := rfl
theorem aX11_beside_77 : at_ kX11_beside 77 = (0, oPush (vI 0) 78) := rfl
theorem aX11_beside_78 : at_ kX11_beside 78 = (0, oRload 5 80) := rfl
theorem aX11_beside_80 : at_ kX11_beside 80 = (0, oGetf 2 2 2 83) := rfl
theorem aX11_beside_83 : at_ kX11_beside 83 = (0, oRload 5 85) := rfl
theorem aX11_beside_85 : at_ kX11_beside 85 = (0, oGetf 2 2 2 88) := rfl
theorem aX11_beside_88 : at_ kX11_beside 88 = (0, oAlen 89) := rfl
theorem aX11_beside_89 : at_ kX11_beside 89 = (2, oInvV 7 mX5_read 5 92) := rfl
theorem aX11_beside_92 : at_ kX11_beside 92 = (0, oPop 93) := rfl
theorem aX11_beside_93 : at_ kX11_beside 93 = (0, oIload 3 94) := rfl
theorem aX11_beside_94 : at_ kX11_beside 94 = (0, oRload 0 95) := rfl
theorem aX11_beside_95 : at_ kX11_beside 95 = (0, oGetf 13 7 2 98) := rfl
theorem aX11_beside_98 : at_ kX11_beside 98 = (0, oIload 6 100) := rfl
theorem aX11_beside_100 : at_ kX11_beside 100 = (2, oInvV 7 mX5_countIn 1 103) := rfl
theorem aX11_beside_103 : at_ kX11_beside 103 = (0, oIadd 104) := rfl
theorem aX11_beside_104 : at_ kX11_beside 104 = (0, oIstore 3 105) := rfl
theorem aX11_beside_105 : at_ kX11_beside 105 = (0, oIinc 4 1 108) := rfl
theorem aX11_beside_108 : at_ kX11_beside 108 = (0, oGoto 32) := rfl
theorem aX11_beside_111 : at_ kX11_beside 111 = (0, oIload 3 112) := rfl
theorem aX11_beside_112 : at_ kX11_beside 112 = (0, oRetI) := rfl
def kX11_stop_0 : List En := [(0, oRload 0 1), (0, oIload 2 2), (2, oInvV 13 mX11_advertOf 1 5), (1, oFail), (1, oFail), (0, oRstore 4 7), (1, oFail), (0, oRload 4 9), (1, oFail), (0, oIfnull 19 12), (1, oFail), (1, oFail), (0, oIload 1 13), (2, oInvS mX11_isPaper 1 16), (1, oFail), (1, oFail)]
set_option maxRecDepth 20000 in
theorem zX11_stop_0 : SndL mX11_stop 0 kX11_stop_0 := SndL.c (s_aload_n (k := 0) (by decide +kernel) rfl) (SndL.c (s_iload_n (k := 2) (by decide +kernel) rfl) (SndL.c (s_invV (r := (RX11, TX11, 14)) (ci := 12) okX11_advertOf rfl (by decide) rfl rfl w_2_187 w_2_189 v_5 (by decide +kernel)) (SndL.c (s_fail) (SndL.c (s_fail) (SndL.c (s_astore (by decide +kernel) (by decide)) (SndL.c (s_fail) (SndL.c (s_aload (by decide +kernel)) (SndL.c (s_fail) (SndL.c (s_ifnull (off := 10) (by decide +kernel) (by decide)) (SndL.c (s_fail) (SndL.c (s_fail) (SndL.c (s_iload_n (k := 1) (by decide +kernel) rfl) (SndL.c (s_invS okX11_isPaper w_5_77 w_5_78 (by decide +kernel)) (SndL.c (s_fail) (SndL.c (s_fail) (SndL.n))))))))))))))))
def kX11_stop_1 : List En := [(0, oIfNe 25 19), (1, oFail), (1, oFail), (0, oRload 0 20), (0, oPush (vI (-1)) 21), (2, oInvV 13 mX11_refused 1 24), (1, oFail), (1, oFail), (0, oRetI), (0, oRload 4 27), (1, oFail), (0, oGetf 2 8 2 30), (1, oFail), (1, oFail), (0, oIload 1 31), (0, oIald 32)]
set_option maxRecDepth 20000 in
theorem zX11_stop_1 : SndL mX11_stop 16 kX11_stop_1 := SndL.c (s_if_ne (off := 9) (by decide +kernel) (by decide)) (SndL.c (s_fail) (SndL.c (s_fail) (SndL.c (s_aload_n (k := 0) (by decide +kernel) rfl) (SndL.c (s_iconst (by decide +kernel) (in32_d (by decide))) (SndL.c (s_invV (r := (RX11, TX11, 14)) (ci := 12) okX11_refused rfl (by decide) rfl rfl w_1_239 w_2_1 v_0 (by decide +kernel)) (SndL.c (s_fail) (SndL.c (s_fail) (SndL.c (s_ret_i rfl (by decide +kernel)) (SndL.c (s_aload (by decide +kernel)) (SndL.c (s_fail) (SndL.c (s_getf (k := 8) clok1 (by decide) rfl (by decide) rfl w_2_100 (Or.inl rfl) (by decide +kernel)) (SndL.c (s_fail) (SndL.c (s_fail) (SndL.c (s_iload_n (k := 1) (by decide +kernel) rfl) (SndL.c (s_iald (by decide +kernel)) (SndL.n))))))))))))))))
def kX11_stop_2 : List En := [(0, oPush (vI (-1)) 33), (0, oIcEq 40 36), (1, oFail), (1, oFail), (0, oPush (vI 1) 37), (0, oGoto 41), (1, oFail), (1, oFail), (0, oPush (vI 0) 41), (0, oIstore 5 43), (1, oFail), (0, oIload 3 44), (0, oIfNe 72 47), (1, oFail), (1, oFail), (0, oIload 5 49)]
set_option maxRecDepth 20000 in
theorem zX11_stop_2 : SndL mX11_stop 32 kX11_stop_2 := SndL.c (s_iconst (by decide +kernel) (in32_d (by decide))) (SndL.c (s_ic_eq (off := 7) (by decide +kernel) (by decide)) (SndL.c (s_fail) (SndL.c (s_fail) (SndL.c (s_iconst (by decide +kernel) (in32_d (by decide))) (SndL.c (s_goto (off := 4) (by decide +kernel) (by decide)) (SndL.c (s_fail) (SndL.c (s_fail) (SndL.c (s_iconst (by decide +kernel) (in32_d (by decide))) (SndL.c (s_istore (by decide +kernel) (by decide)) (SndL.c (s_fail) (SndL.c (s_iload_n (k := 3) (by decide +kernel) rfl) (SndL.c (s_if_ne (off := 28) (by decide +kernel) (by decide)) (SndL.c (s_fail) (SndL.c (s_fail) (SndL.c (s_iload (by decide +kernel)) (SndL.n))))))))))))))))
def kX11_stop_3 : List En := [(1, oFail), (0, oIfEq 59 52), (1, oFail), (1, oFail), (0, oRload 0 53), (0, oPush (vI (-6)) 55), (1, oFail), (2, oInvV 13 mX11_refused 1 58), (1, oFail), (1, oFail), (0, oRetI), (0, oRload 4 61), (1, oFail), (0, oGetf 2 8 2 64), (1, oFail), (1, oFail)]
set_option maxRecDepth 20000 in
theorem zX11_stop_3 : SndL mX11_stop 48 kX11_stop_3 := SndL.c (s_fail) (SndL.c (s_if_eq (off := 10) (by decide +kernel) (by decide)) (SndL.c (s_fail) (SndL.c (s_fail) (SndL.c (s_aload_n (k := 0) (by decide +kernel) rfl) (SndL.c (s_bipush (by decide +kernel) (in32_d (by decide)) (by decide +kernel)) (SndL.c (s_fail) (SndL.c (s_invV (r := (RX11, TX11, 14)) (ci := 12) okX11_refused rfl (by decide) rfl rfl w_1_239 w_2_1 v_0 (by decide +kernel)) (SndL.c (s_fail) (SndL.c (s_fail) (SndL.c (s_ret_i rfl (by decide +kernel)) (SndL.c (s_aload (by decide +kernel)) (SndL.c (s_fail) (SndL.c (s_getf (k := 8) clok1 (by decide) rfl (by decide) rfl w_2_100 (Or.inl rfl) (by decide +kernel)) (SndL.c (s_fail) (SndL.c (s_fail) (SndL.n))))))))))))))))
def kX11_stop_4 : List En := [(0, oIload 1 65), (0, oRload 0 66), (0, oGetf 13 11 0 69), (1, oFail), (1, oFail), (0, oIast 70), (0, oPush (vI 1) 71), (0, oRetI), (0, oIload 5 74), (1, oFail), (0, oIfEq 88 77), (1, oFail), (1, oFail), (0, oRload 4 79), (1, oFail), (0, oGetf 2 9 2 82)]
set_option maxRecDepth 20000 in
theorem zX11_stop_4 : SndL mX11_stop 64 kX11_stop_4 := SndL.c (s_iload_n (k := 1) (by decide +kernel) rfl) (SndL.c (s_aload_n (k := 0) (by decide +kernel) rfl) (SndL.c (s_getf (k := 11) clok12 (by decide) rfl (by decide) rfl w_1_203 (Or.inl rfl) (by decide +kernel)) (SndL.c (s_fail) (SndL.c (s_fail) (SndL.c (s_iast (by decide +kernel)) (SndL.c (s_iconst (by decide +kernel) (in32_d (by decide))) (SndL.c (s_ret_i rfl (by decide +kernel)) (SndL.c (s_iload (by decide +kernel)) (SndL.c (s_fail) (SndL.c (s_if_eq (off := 14) (by decide +kernel) (by decide)) (SndL.c (s_fail) (SndL.c (s_fail) (SndL.c (s_aload (by decide +kernel)) (SndL.c (s_fail) (SndL.c (s_getf (k := 9) clok1 (by decide) rfl (by decide) rfl w_2_102 (Or.inl rfl) (by decide +kernel)) (SndL.n))))))))))))))))
def kX11_stop_5 : List En := [(1, oFail), (1, oFail), (0, oIload 1 83), (0, oIald 84), (0, oPush (vI (-1)) 85), (0, oIcEq 95 88), (1, oFail), (1, oFail), (0, oRload 0 89), (0, oPush (vI (-6)) 91), (1, oFail), (2, oInvV 13 mX11_refused 1 94), (1, oFail), (1, oFail), (0, oRetI), (0, oRload 4 97)]
set_option maxRecDepth 20000 in
theorem zX11_stop_5 : SndL mX11_stop 80 kX11_stop_5 := SndL.c (s_fail) (SndL.c (s_fail) (SndL.c (s_iload_n (k := 1) (by decide +kernel) rfl) (SndL.c (s_iald (by decide +kernel)) (SndL.c (s_iconst (by decide +kernel) (in32_d (by decide))) (SndL.c (s_ic_eq (off := 10) (by decide +kernel) (by decide)) (SndL.c (s_fail) (SndL.c (s_fail) (SndL.c (s_aload_n (k := 0) (by decide +kernel) rfl) (SndL.c (s_bipush (by decide +kernel) (in32_d (by decide)) (by decide +kernel)) (SndL.c (s_fail) (SndL.c (s_invV (r := (RX11, TX11, 14)) (ci := 12) okX11_refused rfl (by decide) rfl rfl w_1_239 w_2_1 v_0 (by decide +kernel)) (SndL.c (s_fail) (SndL.c (s_fail) (SndL.c (s_ret_i rfl (by decide +kernel)) (SndL.c (s_aload (by decide +kernel)) (SndL.n))))))))))))))))
def kX11_stop_6 : List En := [(1, oFail), (0, oGetf 2 9 2 100), (1, oFail), (1, oFail), (0, oIload 1 101), (0, oRload 0 102), (0, oGetf 13 11 0 105), (1, oFail), (1, oFail), (0, oIast 106), (0, oPush (vI 2) 107), (0, oRetI)]
set_option maxRecDepth 20000 in
theorem zX11_stop_6 : SndL mX11_stop 96 kX11_stop_6 := SndL.c (s_fail) (SndL.c (s_getf (k := 9) clok1 (by decide) rfl (by decide) rfl w_2_102 (Or.inl rfl) (by decide +kernel)) (SndL.c (s_fail) (SndL.c (s_fail) (SndL.c (s_iload_n (k := 1) (by decide +kernel) rfl) (SndL.c (s_aload_n (k := 0) (by decide +kernel) rfl) (SndL.c (s_getf (k := 11) clok12 (by decide) rfl (by decide) rfl w_1_203 (Or.inl rfl) (by decide +kernel)) (SndL.c (s_fail) (SndL.c (s_fail) (SndL.c (s_iast (by decide +kernel)) (SndL.c (s_iconst (by decide +kernel) (in32_d (by decide))) (SndL.c (s_ret_i rfl (by decide +kernel)) (SndL.n))))))))))))
def kX11_stop : Cd := [kX11_stop_0, kX11_stop_1, kX11_stop_2, kX11_stop_3, kX11_stop_4, kX11_stop_5, kX11_stop_6]
theorem zX11_stop : SndC mX11_stop 0 kX11_stop := SndC.c zX11_stop_0 (by decide) (SndC.c zX11_stop_1 (by decide) (SndC.c zX11_stop_2 (by decide) (SndC.c zX11_stop_3 (by decide) (SndC.c zX11_stop_4 (by decide) (SndC.c zX11_stop_5 (by decide) (SndC.c zX11_stop_6 (by decide) (SndC.n)))))))
theorem aX11_stop_0 : at_ kX11_stop 0 = (0, oRload 0 1) := rfl
theorem aX11_stop_1 : at_ kX11_stop 1 = (0, oIload 2 2) := rfl
theorem aX11_stop_2 : at_ kX11_stop 2 = (2, oInvV 13 mX11_advertOf 1 5) := rfl
theorem aX11_stop_5 : at_ kX11_stop 5 = (0, oRstore 4 7) := rfl
theorem aX11_stop_7 : at_ kX11_stop 7 = (0, oRload 4 9) := rfl
theorem aX11_stop_9 : at_ kX11_stop 9 = (0, oIfnull 19 12) := rfl
theorem aX11_stop_12 : at_ kX11_stop 12 = (0, oIload 1 13) := rfl
theorem aX11_stop_13 : at_ kX11_stop 13 = (2, oInvS mX11_isPaper 1 16) := rfl
theorem aX11_stop_16 : at_ kX11_stop 16 = (0, oIfNe 25 19) := rfl
theorem aX11_stop_19 : at_ kX11_stop 19 = (0, oRload 0 20) := rfl
theorem aX11_stop_20 : at_ kX11_stop 20 = (0, oPush (vI (-1)) 21) := rfl
theorem aX11_stop_21 : at_ kX11_stop 21 = (2, oInvV 13 mX11_refused 1 24) := rfl
theorem aX11_stop_24 : at_ kX11_stop 24 = (0, oRetI) := rfl
theorem aX11_stop_25 : at_ kX11_stop 25 = (0, oRload 4 27) := rfl
theorem aX11_stop_27 : at_ kX11_stop 27 = (0, oGetf 2 8 2 30) := rfl
theorem aX11_stop_30 : at_ kX11_stop 30 = (0, oIload 1 31) := rfl
theorem aX11_stop_31 : at_ kX11_stop 31 = (0, oIald 32) := rfl
theorem aX11_stop_32 : at_ kX11_stop 32 = (0, oPush (vI (-1)) 33) := rfl
theorem aX11_stop_33 : at_ kX11_stop 33 = (0, oIcEq 40 36) := rfl
theorem aX11_stop_36 : at_ kX11_stop 36 = (0, oPush (vI 1) 37) := rfl
theorem aX11_stop_37 : at_ kX11_stop 37 = (0, oGoto 41) := rfl
theorem aX11_stop_40 : at_ kX11_stop 40 = (0, oPush (vI 0) 41) := rfl
theorem aX11_stop_41 : at_ kX11_stop 41 = (0, oIstore 5 43) := rfl
theorem aX11_stop_43 : at_ kX11_stop 43 = (0, oIload 3 44) := rfl
theorem aX11_stop_44 : at_ kX11_stop 44 = (0, oIfNe 72 47) := rfl
theorem aX11_stop_47 : at_ kX11_stop 47 = (0, oIload 5 49) := rfl
theorem aX11_stop_49 : at_ kX11_stop 49 = (0, oIfEq 59 52) := rfl
theorem aX11_stop_52 : at_ kX11_stop 52 = (0, oRload 0 53) := rfl
theorem aX11_stop_53 : at_ kX11_stop 53 = (0, oPush (vI (-6)) 55) := rfl
theorem aX11_stop_55 : at_ kX11_stop 55 = (2, oInvV 13 mX11_refused 1 58) := rfl
theorem aX11_stop_58 : at_ kX11_stop 58 = (0, oRetI) := rfl
theorem aX11_stop_59 : at_ kX11_stop 59 = (0, oRload 4 61) := rfl
theorem aX11_stop_61 : at_ kX11_stop 61 = (0, oGetf 2 8 2 64) := rfl
theorem aX11_stop_64 : at_ kX11_stop 64 = (0, oIload 1 65) := rfl
theorem aX11_stop_65 : at_ kX11_stop 65 = (0, oRload 0 66) := rfl
theorem aX11_stop_66 : at_ kX11_stop 66 = (0, oGetf 13 11 0 69) := rfl
theorem aX11_stop_69 : at_ kX11_stop 69 = (0, oIast 70) := rfl
theorem aX11_stop_70 : at_ kX11_stop 70 = (0, oPush (vI 1) 71) := rfl
theorem aX11_stop_71 : at_ kX11_stop 71 = (0, oRetI) := rfl
theorem aX11_stop_72 : at_ kX11_stop 72 = (0, oIload 5 74) := rfl
theorem aX11_stop_74 : at_ kX11_stop 74 = (0, oIfEq 88 77) := rfl
theorem aX11_stop_77 : at_ kX11_stop 77 = (0, oRload 4 79) := rfl
theorem aX11_stop_79 : at_ kX11_stop 79 = (0, oGetf 2 9 2 82) := rfl
theorem aX11_stop_82 : at_ kX11_stop 82 = (0, oIload 1 83) := rfl
theorem aX11_stop_83 : at_ kX11_stop 83 = (0, oIald 84) := rfl
theorem aX11_stop_84 : at_ kX11_stop 84 = (0, oPush (vI (-1)) 85) := rfl
theorem aX11_stop_85 : at_ kX11_stop 85 = (0, oIcEq 95 88) := rfl
theorem aX11_stop_88 : at_ kX11_stop 88 = (0, oRload 0 89) := rfl
theorem aX11_stop_89 : at_ kX11_stop 89 = (0, oPush (vI (-6)) 91) := rfl
theorem aX11_stop_91 : at_ kX11_stop 91 = (2, oInvV 13 mX11_refused 1 94) := rfl
theorem aX11_stop_94 : at_ kX11_stop 94 = (0, oRetI) := rfl
theorem aX11_stop_95 : at_ kX11_stop 95 = (0, oRload 4 97) := rfl
theorem aX11_stop_97 : at_ kX11_stop 97 = (0, oGetf 2 9 2 100) := rfl
theorem aX11_stop_100 : at_ kX11_stop 100 = (0, oIload 1 101) := rfl
theorem aX11_stop_101 : at_ kX11_stop 101 = (0, oRload 0 102) := rfl
theorem aX11_stop_102 : at_ kX11_stop 102 = (0, oGetf 13 11 0 105) := rfl
theorem aX11_stop_105 : at_ kX11_stop 105 = (0, oIast 106) := rfl
theorem aX11_stop_106 : at_ kX11_stop 106 = (0, oPush (vI 2) 107) := rfl
theorem aX11_stop_107 : at_ kX11_stop 107 = (0, oRetI) := rfl
def kX11_stopped_0 : List En := [(0, oRload 0 1), (0, oIload 2 2), (2, oInvV 13 mX11_advertOf 1 5), (1, oFail), (1, oFail), (0, oRstore 4 7), (1, oFail), (0, oRload 4 9), (1, oFail), (0, oIfnull 19 12), (1, oFail), (1, oFail), (0, oIload 1 13), (2, oInvS mX11_isPaper 1 16), (1, oFail), (1, oFail)]
set_option maxRecDepth 20000 in
theorem zX11_stopped_0 : SndL mX11_stopped 0 kX11_stopped_0 := SndL.c (s_aload_n (k := 0) (by decide +kernel) rfl) (SndL.c (s_iload_n (k := 2) (by decide +kernel) rfl) (SndL.c (s_invV (r := (RX11, TX11, 14)) (ci := 12) okX11_advertOf rfl (by decide) rfl rfl w_2_187 w_2_189 v_5 (by decide +kernel)) (SndL.c (s_fail) (SndL.c (s_fail) (SndL.c (s_astore (by decide +kernel) (by decide)) (SndL.c (s_fail) (SndL.c (s_aload (by decide +kernel)) (SndL.c (s_fail) (SndL.c (s_ifnull (off := 10) (by decide +kernel) (by decide)) (SndL.c (s_fail) (SndL.c (s_fail) (SndL.c (s_iload_n (k := 1) (by decide +kernel) rfl) (SndL.c (s_invS okX11_isPaper w_5_77 w_5_78 (by decide +kernel)) (SndL.c (s_fail) (SndL.c (s_fail) (SndL.n))))))))))))))))
def kX11_stopped_1 : List En := [(0, oIfNe 21 19), (1, oFail), (1, oFail), (0, oPush (vI (-1)) 20), (0, oRetI), (0, oIload 3 22), (0, oIfEq 35 25), (1, oFail), (1, oFail), (0, oRload 4 27), (1, oFail), (0, oGetf 2 9 2 30), (1, oFail), (1, oFail), (0, oIload 1 31), (0, oIald 32)]
set_option maxRecDepth 20000 in
theorem zX11_stopped_1 : SndL mX11_stopped 16 kX11_stopped_1 := SndL.c (s_if_ne (off := 5) (by decide +kernel) (by decide)) (SndL.c (s_fail) (SndL.c (s_fail) (SndL.c (s_iconst (by decide +kernel) (in32_d (by decide))) (SndL.c (s_ret_i rfl (by decide +kernel)) (SndL.c (s_iload_n (k := 3) (by decide +kernel) rfl) (SndL.c (s_if_eq (off := 13) (by decide +kernel) (by decide)) (SndL.c (s_fail) (SndL.c (s_fail) (SndL.c (s_aload (by decide +kernel)) (SndL.c (s_fail) (SndL.c (s_getf (k := 9) clok1 (by decide) rfl (by decide) rfl w_2_102 (Or.inl rfl) (by decide +kernel)) (SndL.c (s_fail) (SndL.c (s_fail) (SndL.c (s_iload_n (k := 1) (by decide +kernel) rfl) (SndL.c (s_iald (by decide +kernel)) (SndL.n))))))))))))))))
def kX11_stopped_2 : List En := [(0, oGoto 42), (1, oFail), (1, oFail), (0, oRload 4 37), (1, oFail), (0, oGetf 2 8 2 40), (1, oFail), (1, oFail), (0, oIload 1 41), (0, oIald 42), (0, oRetI)]
set_option maxRecDepth 20000 in
theorem zX11_stopped_2 : SndL mX11_stopped 32 kX11_stopped_2 := SndL.c (s_goto (off := 10) (by decide +kernel) (by decide)) (SndL.c (s_fail) (SndL.c (s_fail) (SndL.c (s_aload (by decide +kernel)) (SndL.c (s_fail) (SndL.c (s_getf (k := 8) clok1 (by decide) rfl (by decide) rfl w_2_100 (Or.inl rfl) (by decide +kernel)) (SndL.c (s_fail) (SndL.c (s_fail) (SndL.c (s_iload_n (k := 1) (by decide +kernel) rfl) (SndL.c (s_iald (by decide +kernel)) (SndL.c (s_ret_i rfl (by decide +kernel)) (SndL.n)))))))))))
def kX11_stopped : Cd := [kX11_stopped_0, kX11_stopped_1, kX11_stopped_2]
theorem zX11_stopped : SndC mX11_stopped 0 kX11_stopped := SndC.c zX11_stopped_0 (by decide) (SndC.c zX11_stopped_1 (by decide) (SndC.c zX11_stopped_2 (by decide) (SndC.n)))
theorem aX11_stopped_0 : at_ kX11_stopped 0 = (0, oRload 0 1) := rfl
theorem aX11_stopped_1 : at_ kX11_stopped 1 = (0, oIload 2 2) := rfl
theorem aX11_stopped_2 : at_ kX11_stopped 2 = (2, oInvV 13 mX11_advertOf 1 5) := rfl
theorem aX11_stopped_5 : at_ kX11_stopped 5 = (0, oRstore 4 7) := rfl
theorem aX11_stopped_7 : at_ kX11_stopped 7 = (0, oRload 4 9) := rfl
theorem aX11_stopped_9 : at_ kX11_stopped 9 = (0, oIfnull 19 12) := rfl
theorem aX11_stopped_12 : at_ kX11_stopped 12 = (0, oIload 1 13) := rfl
theorem aX11_stopped_13 : at_ kX11_stopped 13 = (2, oInvS mX11_isPaper 1 16) := rfl
theorem aX11_stopped_16 : at_ kX11_stopped 16 = (0, oIfNe 21 19) := rfl
theorem aX11_stopped_19 : at_ kX11_stopped 19 = (0, oPush (vI (-1)) 20) := rfl
theorem aX11_stopped_20 : at_ kX11_stopped 20 = (0, oRetI) := rfl
theorem aX11_stopped_21 : at_ kX11_stopped 21 = (0, oIload 3 22) := rfl
theorem aX11_stopped_22 : at_ kX11_stopped 22 = (0, oIfEq 35 25) := rfl
theorem aX11_stopped_25 : at_ kX11_stopped 25 = (0, oRload 4 27) := rfl
theorem aX11_stopped_27 : at_ kX11_stopped 27 = (0, oGetf 2 9 2 30) := rfl
theorem aX11_stopped_30 : at_ kX11_stopped 30 = (0, oIload 1 31) := rfl
theorem aX11_stopped_31 : at_ kX11_stopped 31 = (0, oIald 32) := rfl
theorem aX11_stopped_32 : at_ kX11_stopped 32 = (0, oGoto 42) := rfl
theorem aX11_stopped_35 : at_ kX11_stopped 35 = (0, oRload 4 37) := rfl
theorem aX11_stopped_37 : at_ kX11_stopped 37 = (0, oGetf 2 8 2 40) := rfl
theorem aX11_stopped_40 : at_ kX11_stopped 40 = (0, oIload 1 41) := rfl
theorem aX11_stopped_41 : at_ kX11_stopped 41 = (0, oIald 42) := rfl
theorem aX11_stopped_42 : at_ kX11_stopped 42 = (0, oRetI) := rfl
def kX11_status_0 : List En := [(0, oIload 1 1), (0, oPush (vI 11) 3), (1, oFail), (0, oIsub 4), (0, oIstore 2 5), (0, oIload 2 6), (0, oIfLt 22 9), (1, oFail), (1, oFail), (0, oIload 2 10), (0, oPush (vI 7) 12), (1, oFail), (0, oIcGe 22 15), (1, oFail), (1, oFail), (0, oRload 0 16)]
set_option maxRecDepth 20000 in
theorem zX11_status_0 : SndL mX11_status 0 kX11_status_0 := SndL.c (s_iload_n (k := 1) (by decide +kernel) rfl) (SndL.c (s_bipush (by decide +kernel) (in32_d (by decide)) (by decide +kernel)) (SndL.c (s_fail) (SndL.c (s_isub (by decide +kernel)) (SndL.c (s_istore_n (k := 2) (by decide +kernel) rfl (by decide)) (SndL.c (s_iload_n (k := 2) (by decide +kernel) rfl) (SndL.c (s_if_lt (off := 16) (by decide +kernel) (by decide)) (SndL.c (s_fail) (SndL.c (s_fail) (SndL.c (s_iload_n (k := 2) (by decide +kernel) rfl) (SndL.c (s_bipush (by decide +kernel) (in32_d (by decide)) (by decide +kernel)) (SndL.c (s_fail) (SndL.c (s_ic_ge (off := 10) (by decide +kernel) (by decide)) (SndL.c (s_fail) (SndL.c (s_fail) (SndL.c (s_aload_n (k := 0) (by decide +kernel) rfl) (SndL.n))))))))))))))))
def kX11_status_1 : List En := [(0, oGetf 13 10 2 19), (1, oFail), (1, oFail), (0, oIload 2 20), (0, oIald 21), (0, oRetI), (0, oIload 1 23), (0, oSwitch 0 10 [80, 88, 96, 107, 115, 123, 134, 143, 151, 160, 169] 174), (1, oFail), (1, oFail), (1, oFail), (1, oFail), (1, oFail), (1, oFail), (1, oFail), (1, oFail)]
set_option maxRecDepth 20000 in
theorem zX11_status_1 : SndL mX11_status 16 kX11_status_1 := SndL.c (s_getf (k := 10) clok12 (by decide) rfl (by decide) rfl w_1_202 (Or.inl rfl) (by decide +kernel)) (SndL.c (s_fail) (SndL.c (s_fail) (SndL.c (s_iload_n (k := 2) (by decide +kernel) rfl) (SndL.c (s_iald (by decide +kernel)) (SndL.c (s_ret_i rfl (by decide +kernel)) (SndL.c (s_iload_n (k := 1) (by decide +kernel) rfl) (SndL.c (s_switch2 (dflt := 151) (lo := 0) (hi := 10) (len := 57) (offs := #[57, 65, 73, 84, 92, 100, 111, 120, 128, 137, 146]) (by decide +kernel) (by decide) (by decide +kernel) (by decide +kernel)) (SndL.c (s_fail) (SndL.c (s_fail) (SndL.c (s_fail) (SndL.c (s_fail) (SndL.c (s_fail) (SndL.c (s_fail) (SndL.c (s_fail) (SndL.c (s_fail) (SndL.n))))))))))))))))
def kX11_status_2 : List En := [(1, oFail), (1, oFail), (1, oFail), (1, oFail), (1, oFail), (1, oFail), (1, oFail), (1, oFail), (1, oFail), (1, oFail), (1, oFail), (1, oFail), (1, oFail), (1, oFail), (1, oFail), (1, oFail)]
set_option maxRecDepth 20000 in
theorem zX11_status_2 : SndL mX11_status 32 kX11_status_2 := SndL.c (s_fail) (SndL.c (s_fail) (SndL.c (s_fail) (SndL.c (s_fail) (SndL.c (s_fail) (SndL.c (s_fail) (SndL.c (s_fail) (SndL.c (s_fail) (SndL.c (s_fail) (SndL.c (s_fail) (SndL.c (s_fail) (SndL.c (s_fail) (SndL.c (s_fail) (SndL.c (s_fail) (SndL.c (s_fail) (SndL.c (s_fail) (SndL.n))))))))))))))))
def kX11_status_3 : List En := [(1, oFail), (1, oFail), (1, oFail), (1, oFail), (1, oFail), (1, oFail), (1, oFail), (1, oFail), (1, oFail), (1, oFail), (1, oFail), (1, oFail), (1, oFail), (1, oFail), (1, oFail), (1, oFail)]
set_option maxRecDepth 20000 in
theorem zX11_status_3 : SndL mX11_status 48 kX11_status_3 := SndL.c (s_fail) (SndL.c (s_fail) (SndL.c (s_fail) (SndL.c (s_fail) (SndL.c (s_fail) (SndL.c (s_fail) (SndL.c (s_fail) (SndL.c (s_fail) (SndL.c (s_fail) (SndL.c (s_fail) (SndL.c (s_fail) (SndL.c (s_fail) (SndL.c (s_fail) (SndL.c (s_fail) (SndL.c (s_fail) (SndL.c (s_fail) (SndL.n))))))))))))))))
def kX11_status_4 : List En := [(1, oFail), (1, oFail), (1, oFail), (1, oFail), (1, oFail), (1, oFail), (1, oFail), (1, oFail), (1, oFail), (1, oFail), (1, oFail), (1, oFail), (1, oFail), (1, oFail), (1, oFail), (1, oFail)]
set_option maxRecDepth 20000 in
theorem zX11_status_4 : SndL mX11_status 64 kX11_status_4 := SndL.c (s_fail) (SndL.c (s_fail) (SndL.c (s_fail) (SndL.c (s_fail) (SndL.c (s_fail) (SndL.c (s_fail) (SndL.c (s_fail) (SndL.c (s_fail) (SndL.c (s_fail) (SndL.c (s_fail) (SndL.c (s_fail) (SndL.c (s_fail) (SndL.c (s_fail) (SndL.c (s_fail) (SndL.c (s_fail) (SndL.c (s_fail) (SndL.n))))))))))))))))
def kX11_status_5 : List En := [(0, oRload 0 81), (0, oGetf 13 1 2 84), (1, oFail), (1, oFail), (2, oInvV 1 mJx4a65c_size_8abf5 0 87), (1, oFail), (1, oFail), (0, oRetI), (0, oRload 0 89), (0, oGetf 13 2 2 92), (1, oFail), (1, oFail), (2, oInvV 1 mJx4a65c_size_8abf5 0 95), (1, oFail), (1, oFail), (0, oRetI)]
set_option maxRecDepth 20000 in
theorem zX11_status_5 : SndL mX11_status 80 kX11_status_5 := SndL.c (s_aload_n (k := 0) (by decide +kernel) rfl) (SndL.c (s_getf (k := 1) clok12 (by decide) rfl (by decide) rfl w_1_193 (Or.inl rfl) (by decide +kernel)) (SndL.c (s_fail) (SndL.c (s_fail) (SndL.c (s_invV (r := (RJx4a65c, TJx4a65c, 3)) (ci := 0) okJx4a65c_size_8abf5 rfl (by decide) rfl rfl w_2_63 w_2_64 w_2_65 (by decide +kernel)) (SndL.c (s_fail) (SndL.c (s_fail) (SndL.c (s_ret_i rfl (by decide +kernel)) (SndL.c (s_aload_n (k := 0) (by decide +kernel) rfl) (SndL.c (s_getf (k := 2) clok12 (by decide) rfl (by decide) rfl w_1_194 (Or.inl rfl) (by decide +kernel)) (SndL.c (s_fail) (SndL.c (s_fail) (SndL.c (s_invV (r := (RJx4a65c, TJx4a65c, 3)) (ci := 0) okJx4a65c_size_8abf5 rfl (by decide) rfl rfl w_2_63 w_2_64 w_2_65 (by decide +kernel)) (SndL.c (s_fail) (SndL.c (s_fail) (SndL.c (s_ret_i rfl (by decide +kernel)) (SndL.n))))))))))))))))
def kX11_status_6 : List En := [(0, oRload 0 97), (0, oGetf 13 4 2 100), (1, oFail), (1, oFail), (0, oGetf 6 0 2 103), (1, oFail), (1, oFail), (2, oInvV 1 mJx4a65c_size_8abf5 0 106), (1, oFail), (1, oFail), (0, oRetI), (0, oRload 0 108), (0, oGetf 13 3 2 111), (1, oFail), (1, oFail), (2, oInvV 1 mJx4a65c_size_8abf5 0 114)]
set_option maxRecDepth 20000 in
theorem zX11_status_6 : SndL mX11_status 96 kX11_status_6 := SndL.c (s_aload_n (k := 0) (by decide +kernel) rfl) (SndL.c (s_getf (k := 4) clok12 (by decide) rfl (by decide) rfl w_1_196 (Or.inl rfl) (by decide +kernel)) (SndL.c (s_fail) (SndL.c (s_fail) (SndL.c (s_getf (k := 0) clok5 (by decide) rfl (by decide) rfl w_1_72 (Or.inl rfl) (by decide +kernel)) (SndL.c (s_fail) (SndL.c (s_fail) (SndL.c (s_invV (r := (RJx4a65c, TJx4a65c, 3)) (ci := 0) okJx4a65c_size_8abf5 rfl (by decide) rfl rfl w_2_63 w_2_64 w_2_65 (by decide +kernel)) (SndL.c (s_fail) (SndL.c (s_fail) (SndL.c (s_ret_i rfl (by decide +kernel)) (SndL.c (s_aload_n (k := 0) (by decide +kernel) rfl) (SndL.c (s_getf (k := 3) clok12 (by decide) rfl (by decide) rfl w_1_195 (Or.inl rfl) (by decide +kernel)) (SndL.c (s_fail) (SndL.c (s_fail) (SndL.c (s_invV (r := (RJx4a65c, TJx4a65c, 3)) (ci := 0) okJx4a65c_size_8abf5 rfl (by decide) rfl rfl w_2_63 w_2_64 w_2_65 (by decide +kernel)) (SndL.n))))))))))))))))
def kX11_status_7 : List En := [(1, oFail), (1, oFail), (0, oRetI), (0, oRload 0 116), (0, oGetf 13 5 2 119), (1, oFail), (1, oFail), (0, oGetf 3 1 0 122), (1, oFail), (1, oFail), (0, oRetI), (0, oRload 0 124), (0, oGetf 13 5 2 127), (1, oFail), (1, oFail), (0, oGetf 3 2 2 130)]
set_option maxRecDepth 20000 in
theorem zX11_status_7 : SndL mX11_status 112 kX11_status_7 := SndL.c (s_fail) (SndL.c (s_fail) (SndL.c (s_ret_i rfl (by decide +kernel)) (SndL.c (s_aload_n (k := 0) (by decide +kernel) rfl) (SndL.c (s_getf (k := 5) clok12 (by decide) rfl (by decide) rfl w_1_197 (Or.inl rfl) (by decide +kernel)) (SndL.c (s_fail) (SndL.c (s_fail) (SndL.c (s_getf (k := 1) clok2 (by decide) rfl (by decide) rfl w_1_94 (Or.inl rfl) (by decide +kernel)) (SndL.c (s_fail) (SndL.c (s_fail) (SndL.c (s_ret_i rfl (by decide +kernel)) (SndL.c (s_aload_n (k := 0) (by decide +kernel) rfl) (SndL.c (s_getf (k := 5) clok12 (by decide) rfl (by decide) rfl w_1_197 (Or.inl rfl) (by decide +kernel)) (SndL.c (s_fail) (SndL.c (s_fail) (SndL.c (s_getf (k := 2) clok2 (by decide) rfl (by decide) rfl w_1_96 (Or.inl rfl) (by decide +kernel)) (SndL.n))))))))))))))))
def kX11_status_8 : List En := [(1, oFail), (1, oFail), (2, oInvV 1 mJx4a65c_size_8abf5 0 133), (1, oFail), (1, oFail), (0, oRetI), (0, oRload 0 135), (0, oGetf 13 5 2 138), (1, oFail), (1, oFail), (0, oPush (vI 0) 139), (2, oInvV 3 mX1_rulingsIn 1 142), (1, oFail), (1, oFail), (0, oRetI), (0, oRload 0 144)]
set_option maxRecDepth 20000 in
theorem zX11_status_8 : SndL mX11_status 128 kX11_status_8 := SndL.c (s_fail) (SndL.c (s_fail) (SndL.c (s_invV (r := (RJx4a65c, TJx4a65c, 3)) (ci := 0) okJx4a65c_size_8abf5 rfl (by decide) rfl rfl w_2_63 w_2_64 w_2_65 (by decide +kernel)) (SndL.c (s_fail) (SndL.c (s_fail) (SndL.c (s_ret_i rfl (by decide +kernel)) (SndL.c (s_aload_n (k := 0) (by decide +kernel) rfl) (SndL.c (s_getf (k := 5) clok12 (by decide) rfl (by decide) rfl w_1_197 (Or.inl rfl) (by decide +kernel)) (SndL.c (s_fail) (SndL.c (s_fail) (SndL.c (s_iconst (by decide +kernel) (in32_d (by decide))) (SndL.c (s_invV (r := (RX1, TX1, 3)) (ci := 2) okX1_rulingsIn rfl (by decide) rfl rfl w_5_88 w_5_89 w_5_90 (by decide +kernel)) (SndL.c (s_fail) (SndL.c (s_fail) (SndL.c (s_ret_i rfl (by decide +kernel)) (SndL.c (s_aload_n (k := 0) (by decide +kernel) rfl) (SndL.n))))))))))))))))
def kX11_status_9 : List En := [(0, oGetf 13 5 2 147), (1, oFail), (1, oFail), (2, oInvV 3 mX1_standingBars 0 150), (1, oFail), (1, oFail), (0, oRetI), (0, oRload 0 152), (0, oGetf 13 5 2 155), (1, oFail), (1, oFail), (0, oPush (vI 1) 156), (2, oInvV 3 mX1_rulingsIn 1 159), (1, oFail), (1, oFail), (0, oRetI)]
set_option maxRecDepth 20000 in
theorem zX11_status_9 : SndL mX11_status 144 kX11_status_9 := SndL.c (s_getf (k := 5) clok12 (by decide) rfl (by decide) rfl w_1_197 (Or.inl rfl) (by decide +kernel)) (SndL.c (s_fail) (SndL.c (s_fail) (SndL.c (s_invV (r := (RX1, TX1, 3)) (ci := 2) okX1_standingBars rfl (by decide) rfl rfl w_5_92 w_5_93 w_5_94 (by decide +kernel)) (SndL.c (s_fail) (SndL.c (s_fail) (SndL.c (s_ret_i rfl (by decide +kernel)) (SndL.c (s_aload_n (k := 0) (by decide +kernel) rfl) (SndL.c (s_getf (k := 5) clok12 (by decide) rfl (by decide) rfl w_1_197 (Or.inl rfl) (by decide +kernel)) (SndL.c (s_fail) (SndL.c (s_fail) (SndL.c (s_iconst (by decide +kernel) (in32_d (by decide))) (SndL.c (s_invV (r := (RX1, TX1, 3)) (ci := 2) okX1_rulingsIn rfl (by decide) rfl rfl w_5_88 w_5_89 w_5_90 (by decide +kernel)) (SndL.c (s_fail) (SndL.c (s_fail) (SndL.c (s_ret_i rfl (by decide +kernel)) (SndL.n))))))))))))))))
def kX11_status_10 : List En := [(0, oRload 0 161), (0, oGetf 13 5 2 164), (1, oFail), (1, oFail), (0, oPush (vI 2) 165), (2, oInvV 3 mX1_rulingsIn 1 168), (1, oFail), (1, oFail), (0, oRetI), (0, oRload 0 170), (0, oGetf 13 11 0 173), (1, oFail), (1, oFail), (0, oRetI), (0, oPush (vI (-1)) 175), (0, oRetI)]
set_option maxRecDepth 20000 in
theorem zX11_status_10 : SndL mX11_status 160 kX11_status_10 := SndL.c (s_aload_n (k := 0) (by decide +kernel) rfl) (SndL.c (s_getf (k := 5) clok12 (by decide) rfl (by decide) rfl w_1_197 (Or.inl rfl) (by decide +kernel)) (SndL.c (s_fail) (SndL.c (s_fail) (SndL.c (s_iconst (by decide +kernel) (in32_d (by decide))) (SndL.c (s_invV (r := (RX1, TX1, 3)) (ci := 2) okX1_rulingsIn rfl (by decide) rfl rfl w_5_88 w_5_89 w_5_90 (by decide +kernel)) (SndL.c (s_fail) (SndL.c (s_fail) (SndL.c (s_ret_i rfl (by decide +kernel)) (SndL.c (s_aload_n (k := 0) (by decide +kernel) rfl) (SndL.c (s_getf (k := 11) clok12 (by decide) rfl (by decide) rfl w_1_203 (Or.inl rfl) (by decide +kernel)) (SndL.c (s_fail) (SndL.c (s_fail) (SndL.c (s_ret_i rfl (by decide +kernel)) (SndL.c (s_iconst (by decide +kernel) (in32_d (by decide))) (SndL.c (s_ret_i rfl (by decide +kernel)) (SndL.n))))))))))))))))
def kX11_status : Cd := [kX11_status_0, kX11_status_1, kX11_status_2, kX11_status_3, kX11_status_4, kX11_status_5, kX11_status_6, kX11_status_7, kX11_status_8, kX11_status_9, kX11_status_10]
theorem zX11_status : SndC mX11_status 0 kX11_status := SndC.c zX11_status_0 (by decide) (SndC.c zX11_status_1 (by decide) (SndC.c zX11_status_2 (by decide) (SndC.c zX11_status_3 (by decide) (SndC.c zX11_status_4 (by decide) (SndC.c zX11_status_5 (by decide) (SndC.c zX11_status_6 (by decide) (SndC.c zX11_status_7 (by decide) (SndC.c zX11_status_8 (by decide) (SndC.c zX11_status_9 (by decide) (SndC.c zX11_status_10 (by decide) (SndC.n)))))))))))
theorem aX11_status_0 : at_ kX11_status 0 = (0, oIload 1 1) := rfl
theorem aX11_status_1 : at_ kX11_status 1 = (0, oPush (vI 11) 3) := rfl
theorem aX11_status_3 : at_ kX11_status 3 = (0, oIsub 4) := rfl
theorem aX11_status_4 : at_ kX11_status 4 = (0, oIstore 2 5) := rfl
theorem aX11_status_5 : at_ kX11_status 5 = (0, oIload 2 6) := rfl
theorem aX11_status_6 : at_ kX11_status 6 = (0, oIfLt 22 9) := rfl
theorem aX11_status_9 : at_ kX11_status 9 = (0, oIload 2 10) := rfl
theorem aX11_status_10 : at_ kX11_status 10 = (0, oPush (vI 7) 12) := rfl
theorem aX11_status_12 : at_ kX11_status 12 = (0, oIcGe 22 15) := rfl
theorem aX11_status_15 : at_ kX11_status 15 = (0, oRload 0 16) := rfl
theorem aX11_status_16 : at_ kX11_status 16 = (0, oGetf 13 10 2 19) := rfl
theorem aX11_status_19 : at_ kX11_status 19 = (0, oIload 2 20) := rfl
theorem aX11_status_20 : at_ kX11_status 20 = (0, oIald 21) := rfl
theorem aX11_status_21 : at_ kX11_status 21 = (0, oRetI) := rfl
theorem aX11_status_22 : at_ kX11_status 22 = (0, oIload 1 23) := rfl
theorem aX11_status_23 : at_ kX11_status 23 = (0, oSwitch 0 10 [80, 88, 96, 107, 115, 123, 134, 143, 151, 160, 169] 174) := rfl
theorem aX11_status_80 : at_ kX11_status 80 = (0, oRload 0 81) := rfl
theorem aX11_status_81 : at_ kX11_status 81 = (0, oGetf 13 1 2 84) := rfl
theorem aX11_status_84 : at_ kX11_status 84 = (2, oInvV 1 mJx4a65c_size_8abf5 0 87) := rfl
theorem aX11_status_87 : at_ kX11_status 87 = (0, oRetI) := rfl
theorem aX11_status_88 : at_ kX11_status 88 = (0, oRload 0 89) := rfl
theorem aX11_status_89 : at_ kX11_status 89 = (0, oGetf 13 2 2 92) := rfl
theorem aX11_status_92 : at_ kX11_status 92 = (2, oInvV 1 mJx4a65c_size_8abf5 0 95) := rfl
theorem aX11_status_95 : at_ kX11_status 95 = (0, oRetI) := rfl
theorem aX11_status_96 : at_ kX11_status 96 = (0, oRload 0 97) := rfl
theorem aX11_status_97 : at_ kX11_status 97 = (0, oGetf 13 4 2 100) := rfl
theorem aX11_status_100 : at_ kX11_status 100 = (0, oGetf 6 0 2 103) := rfl
theorem aX11_status_103 : at_ kX11_status 103 = (2, oInvV 1 mJx4a65c_size_8abf5 0 106) := rfl
theorem aX11_status_106 : at_ kX11_status 106 = (0, oRetI) := rfl
theorem aX11_status_107 : at_ kX11_status 107 = (0, oRload 0 108) := rfl
theorem aX11_status_108 : at_ kX11_status 108 = (0, oGetf 13 3 2 111) := rfl
theorem aX11_status_111 : at_ kX11_status 111 = (2, oInvV 1 mJx4a65c_size_8abf5 0 114) := rfl
theorem aX11_status_114 : at_ kX11_status 114 = (0, oRetI) := rfl
theorem aX11_status_115 : at_ kX11_status 115 = (0, oRload 0 116) := rfl
theorem aX11_status_116 : at_ kX11_status 116 = (0, oGetf 13 5 2 119) := rfl
theorem aX11_status_119 : at_ kX11_status 119 = (0, oGetf 3 1 0 122) := rfl
theorem aX11_status_122 : at_ kX11_status 122 = (0, oRetI) := rfl
theorem aX11_status_123 : at_ kX11_status 123 = (0, oRload 0 124) := rfl
theorem aX11_status_124 : at_ kX11_status 124 = (0, oGetf 13 5 2 127) := rfl
theorem aX11_status_127 : at_ kX11_status 127 = (0, oGetf 3 2 2 130) := rfl
theorem aX11_status_130 : at_ kX11_status 130 = (2, oInvV 1 mJx4a65c_size_8abf5 0 133) := rfl
theorem aX11_status_133 : at_ kX11_status 133 = (0, oRetI) := rfl
theorem aX11_status_134 : at_ kX11_status 134 = (0, oRload 0 135) := rfl
theorem aX11_status_135 : at_ kX11_status 135 = (0, oGetf 13 5 2 138) := rfl
theorem aX11_status_138 : at_ kX11_status 138 = (0, oPush (vI 0) 139) := rfl
theorem aX11_status_139 : at_ kX11_status 139 = (2, oInvV 3 mX1_rulingsIn 1 142) := rfl
theorem aX11_status_142 : at_ kX11_status 142 = (0, oRetI) := rfl
theorem aX11_status_143 : at_ kX11_status 143 = (0, oRload 0 144) := rfl
theorem aX11_status_144 : at_ kX11_status 144 = (0, oGetf 13 5 2 147) := rfl
theorem aX11_status_147 : at_ kX11_status 147 = (2, oInvV 3 mX1_standingBars 0 150) := rfl
theorem aX11_status_150 : at_ kX11_status 150 = (0, oRetI) := rfl
theorem aX11_status_151 : at_ kX11_status 151 = (0, oRload 0 152) := rfl
theorem aX11_status_152 : at_ kX11_status 152 = (0, oGetf 13 5 2 155) := rfl
theorem aX11_status_155 : at_ kX11_status 155 = (0, oPush (vI 1) 156) := rfl
theorem aX11_status_156 : at_ kX11_status 156 = (2, oInvV 3 mX1_rulingsIn 1 159) := rfl
theorem aX11_status_159 : at_ kX11_status 159 = (0, oRetI) := rfl
theorem aX11_status_160 : at_ kX11_status 160 = (0, oRload 0 161) := rfl
theorem aX11_status_161 : at_ kX11_status 161 = (0, oGetf 13 5 2 164) := rfl
theorem aX11_status_164 : at_ kX11_status 164 = (0, oPush (vI 2) 165) := rfl
theorem aX11_status_165 : at_ kX11_status 165 = (2, oInvV 3 mX1_rulingsIn 1 168) := rfl
theorem aX11_status_168 : at_ kX11_status 168 = (0, oRetI) := rfl
theorem aX11_status_169 : at_ kX11_status 169 = (0, oRload 0 170) := rfl
theorem aX11_status_170 : at_ kX11_status 170 = (0, oGetf 13 11 0 173) := rfl
theorem aX11_status_173 : at_ kX11_status 173 = (0, oRetI) := rfl
theorem aX11_status_174 : at_ kX11_status 174 = (0, oPush (vI (-1)) 175) := rfl
theorem aX11_status_175 : at_ kX11_status 175 = (0, oRetI) := rfl
def kX11_refused_0 : List En := [(0, oPush (vI (-1)) 1), (0, oIload 1 2), (0, oIsub 3), (0, oIstore 2 4), (0, oIload 2 5), (0, oIfLt 24 8), (1, oFail), (1, oFail), (0, oIload 2 9), (0, oPush (vI 7) 11), (1, oFail), (0, oIcGe 24 14), (1, oFail), (1, oFail), (0, oRload 0 15), (0, oGetf 13 10 2 18)]
set_option maxRecDepth 20000 in
theorem zX11_refused_0 : SndL mX11_refused 0 kX11_refused_0 := SndL.c (s_iconst (by decide +kernel) (in32_d (by decide))) (SndL.c (s_iload_n (k := 1) (by decide +kernel) rfl) (SndL.c (s_isub (by decide +kernel)) (SndL.c (s_istore_n (k := 2) (by decide +kernel) rfl (by decide)) (SndL.c (s_iload_n (k := 2) (by decide +kernel) rfl) (SndL.c (s_if_lt (off := 19) (by decide +kernel) (by decide)) (SndL.c (s_fail) (SndL.c (s_fail) (SndL.c (s_iload_n (k := 2) (by decide +kernel) rfl) (SndL.c (s_bipush (by decide +kernel) (in32_d (by decide)) (by decide +kernel)) (SndL.c (s_fail) (SndL.c (s_ic_ge (off := 13) (by decide +kernel) (by decide)) (SndL.c (s_fail) (SndL.c (s_fail) (SndL.c (s_aload_n (k := 0) (by decide +kernel) rfl) (SndL.c (s_getf (k := 10) clok12 (by decide) rfl (by decide) rfl w_1_202 (Or.inl rfl) (by decide +kernel)) (SndL.n))))))))))))))))
def kX11_refused_1 : List En := [(1, oFail), (1, oFail), (0, oIload 2 19), (0, oDup2 20), (0, oIald 21), (0, oPush (vI 1) 22), (0, oIadd 23), (0, oIast 24), (0, oIload 1 25), (0, oRetI)]
set_option maxRecDepth 20000 in
theorem zX11_refused_1 : SndL mX11_refused 16 kX11_refused_1 := SndL.c (s_fail) (SndL.c (s_fail) (SndL.c (s_iload_n (k := 2) (by decide +kernel) rfl) (SndL.c (s_dup2 (by decide +kernel)) (SndL.c (s_iald (by decide +kernel)) (SndL.c (s_iconst (by decide +kernel) (in32_d (by decide))) (SndL.c (s_iadd (by decide +kernel)) (SndL.c (s_iast (by decide +kernel)) (SndL.c (s_iload_n (k := 1) (by decide +kernel) rfl) (SndL.c (s_ret_i rfl (by decide +kernel)) (SndL.n))))))))))
def kX11_refused : Cd := [kX11_refused_0, kX11_refused_1]
theorem zX11_refused : SndC mX11_refused 0 kX11_refused := SndC.c zX11_refused_0 (by decide) (SndC.c zX11_refused_1 (by decide) (SndC.n))
theorem aX11_refused_0 : at_ kX11_refused 0 = (0, oPush (vI (-1)) 1) := rfl
theorem aX11_refused_1 : at_ kX11_refused 1 = (0, oIload 1 2) := rfl
theorem aX11_refused_2 : at_ kX11_refused 2 = (0, oIsub 3) := rfl
theorem aX11_refused_3 : at_ kX11_refused 3 = (0, oIstore 2 4) := rfl
theorem aX11_refused_4 : at_ kX11_refused 4 = (0, oIload 2 5) := rfl
theorem aX11_refused_5 : at_ kX11_refused 5 = (0, oIfLt 24 8) := rfl
theorem aX11_refused_8 : at_ kX11_refused 8 = (0, oIload 2 9) := rfl
theorem aX11_refused_9 : at_ kX11_refused 9 = (0, oPush (vI 7) 11) := rfl
theorem aX11_refused_11 : at_ kX11_refused 11 = (0, oIcGe 24 14) := rfl
theorem aX11_refused_14 : at_ kX11_refused 14 = (0, oRload 0 15) := rfl
theorem aX11_refused_15 : at_ kX11_refused 15 = (0, oGetf 13 10 2 18) := rfl
theorem aX11_refused_18 : at_ kX11_refused 18 = (0, oIload 2 19) := rfl
theorem aX11_refused_19 : at_ kX11_refused 19 = (0, oDup2 20) := rfl
theorem aX11_refused_20 : at_ kX11_refused 20 = (0, oIald 21) := rfl
theorem aX11_refused_21 : at_ kX11_refused 21 = (0, oPush (vI 1) 22) := rfl
theorem aX11_refused_22 : at_ kX11_refused 22 = (0, oIadd 23) := rfl
theorem aX11_refused_23 : at_ kX11_refused 23 = (0, oIast 24) := rfl
theorem aX11_refused_24 : at_ kX11_refused 24 = (0, oIload 1 25) := rfl
theorem aX11_refused_25 : at_ kX11_refused 25 = (0, oRetI) := rfl
def kX11_bit_0 : List En := [(0, oIload 0 1), (0, oIfEq 8 4), (1, oFail), (1, oFail), (0, oPush (vI 1) 5), (0, oGoto 9), (1, oFail), (1, oFail), (0, oPush (vI 0) 9), (0, oRetI)]
set_option maxRecDepth 20000 in
theorem zX11_bit_0 : SndL mX11_bit 0 kX11_bit_0 := SndL.c (s_iload_n (k := 0) (by decide +kernel) rfl) (SndL.c (s_if_eq (off := 7) (by decide +kernel) (by decide)) (SndL.c (s_fail) (SndL.c (s_fail) (SndL.c (s_iconst (by decide +kernel) (in32_d (by decide))) (SndL.c (s_goto (off := 4) (by decide +kernel) (by decide)) (SndL.c (s_fail) (SndL.c (s_fail) (SndL.c (s_iconst (by decide +kernel) (in32_d (by decide))) (SndL.c (s_ret_i rfl (by decide +kernel)) (SndL.n))))))))))
def kX11_bit : Cd := [kX11_bit_0]
theorem zX11_bit : SndC mX11_bit 0 kX11_bit := SndC.c zX11_bit_0 (by decide) (SndC.n)
theorem aX11_bit_0 : at_ kX11_bit 0 = (0, oIload 0 1) := rfl
theorem aX11_bit_1 : at_ kX11_bit 1 = (0, oIfEq 8 4) := rfl
theorem aX11_bit_4 : at_ kX11_bit 4 = (0, oPush (vI 1) 5) := rfl
theorem aX11_bit_5 : at_ kX11_bit 5 = (0, oGoto 9) := rfl
theorem aX11_bit_8 : at_ kX11_bit 8 = (0, oPush (vI 0) 9) := rfl
theorem aX11_bit_9 : at_ kX11_bit 9 = (0, oRetI) := rfl
def kX11_isShelf_0 : List En := [(0, oIload 0 1), (0, oIfLt 14 4), (1, oFail), (1, oFail), (0, oIload 0 5), (0, oPush (vI 8) 7), (1, oFail), (0, oIcGe 14 10), (1, oFail), (1, oFail), (0, oPush (vI 1) 11), (0, oGoto 15), (1, oFail), (1, oFail), (0, oPush (vI 0) 15), (0, oRetZ)]
set_option maxRecDepth 20000 in
theorem zX11_isShelf_0 : SndL mX11_isShelf 0 kX11_isShelf_0 := SndL.c (s_iload_n (k := 0) (by decide +kernel) rfl) (SndL.c (s_if_lt (off := 13) (by decide +kernel) (by decide)) (SndL.c (s_fail) (SndL.c (s_fail) (SndL.c (s_iload_n (k := 0) (by decide +kernel) rfl) (SndL.c (s_bipush (by decide +kernel) (in32_d (by decide)) (by decide +kernel)) (SndL.c (s_fail) (SndL.c (s_ic_ge (off := 7) (by decide +kernel) (by decide)) (SndL.c (s_fail) (SndL.c (s_fail) (SndL.c (s_iconst (by decide +kernel) (in32_d (by decide))) (SndL.c (s_goto (off := 4) (by decide +kernel) (by decide)) (SndL.c (s_fail) (SndL.c (s_fail) (SndL.c (s_iconst (by decide +kernel) (in32_d (by decide))) (SndL.c (s_ret_z rfl (by decide +kernel)) (SndL.n))))))))))))))))
def kX11_isShelf : Cd := [kX11_isShelf_0]
theorem zX11_isShelf : SndC mX11_isShelf 0 kX11_isShelf := SndC.c zX11_isShelf_0 (by decide) (SndC.n)
theorem aX11_isShelf_0 : at_ kX11_isShelf 0 = (0, oIload 0 1) := rfl
theorem aX11_isShelf_1 : at_ kX11_isShelf 1 = (0, oIfLt 14 4) := rfl
theorem aX11_isShelf_4 : at_ kX11_isShelf 4 = (0, oIload 0 5) := rfl
theorem aX11_isShelf_5 : at_ kX11_isShelf 5 = (0, oPush (vI 8) 7) := rfl
theorem aX11_isShelf_7 : at_ kX11_isShelf 7 = (0, oIcGe 14 10) := rfl
theorem aX11_isShelf_10 : at_ kX11_isShelf 10 = (0, oPush (vI 1) 11) := rfl
theorem aX11_isShelf_11 : at_ kX11_isShelf 11 = (0, oGoto 15) := rfl
theorem aX11_isShelf_14 : at_ kX11_isShelf 14 = (0, oPush (vI 0) 15) := rfl
theorem aX11_isShelf_15 : at_ kX11_isShelf 15 = (0, oRetZ) := rfl
def kX11_isFirm_0 : List En := [(0, oIload 0 1), (0, oIfLt 14 4), (1, oFail), (1, oFail), (0, oIload 0 5), (0, oPush (vI 12) 7), (1, oFail), (0, oIcGe 14 10), (1, oFail), (1, oFail), (0, oPush (vI 1) 11), (0, oGoto 15), (1, oFail), (1, oFail), (0, oPush (vI 0) 15), (0, oRetZ)]
set_option maxRecDepth 20000 in
theorem zX11_isFirm_0 : SndL mX11_isFirm 0 kX11_isFirm_0 := SndL.c (s_iload_n (k := 0) (by decide +kernel) rfl) (SndL.c (s_if_lt (off := 13) (by decide +kernel) (by decide)) (SndL.c (s_fail) (SndL.c (s_fail) (SndL.c (s_iload_n (k := 0) (by decide +kernel) rfl) (SndL.c (s_bipush (by decide +kernel) (in32_d (by decide)) (by decide +kernel)) (SndL.c (s_fail) (SndL.c (s_ic_ge (off := 7) (by decide +kernel) (by decide)) (SndL.c (s_fail) (SndL.c (s_fail) (SndL.c (s_iconst (by decide +kernel) (in32_d (by decide))) (SndL.c (s_goto (off := 4) (by decide +kernel) (by decide)) (SndL.c (s_fail) (SndL.c (s_fail) (SndL.c (s_iconst (by decide +kernel) (in32_d (by decide))) (SndL.c (s_ret_z rfl (by decide +kernel)) (SndL.n))))))))))))))))
def kX11_isFirm : Cd := [kX11_isFirm_0]
theorem zX11_isFirm : SndC mX11_isFirm 0 kX11_isFirm := SndC.c zX11_isFirm_0 (by decide) (SndC.n)
theorem aX11_isFirm_0 : at_ kX11_isFirm 0 = (0, oIload 0 1) := rfl
theorem aX11_isFirm_1 : at_ kX11_isFirm 1 = (0, oIfLt 14 4) := rfl
theorem aX11_isFirm_4 : at_ kX11_isFirm 4 = (0, oIload 0 5) := rfl
theorem aX11_isFirm_5 : at_ kX11_isFirm 5 = (0, oPush (vI 12) 7) := rfl
theorem aX11_isFirm_7 : at_ kX11_isFirm 7 = (0, oIcGe 14 10) := rfl
theorem aX11_isFirm_10 : at_ kX11_isFirm 10 = (0, oPush (vI 1) 11) := rfl
theorem aX11_isFirm_11 : at_ kX11_isFirm 11 = (0, oGoto 15) := rfl
theorem aX11_isFirm_14 : at_ kX11_isFirm 14 = (0, oPush (vI 0) 15) := rfl
theorem aX11_isFirm_15 : at_ kX11_isFirm 15 = (0, oRetZ) := rfl
def kX11_isKind_0 : List En := [(0, oIload 0 1), (0, oIfLt 14 4), (1, oFail), (1, oFail), (0, oIload 0 5), (0, oPush (vI 6) 7), (1, oFail), (0, oIcGe 14 10), (1, oFail), (1, oFail), (0, oPush (vI 1) 11), (0, oGoto 15), (1, oFail), (1, oFail), (0, oPush (vI 0) 15), (0, oRetZ)]
set_option maxRecDepth 20000 in
theorem zX11_isKind_0 : SndL mX11_isKind 0 kX11_isKind_0 := SndL.c (s_iload_n (k := 0) (by decide +kernel) rfl) (SndL.c (s_if_lt (off := 13) (by decide +kernel) (by decide)) (SndL.c (s_fail) (SndL.c (s_fail) (SndL.c (s_iload_n (k := 0) (by decide +kernel) rfl) (SndL.c (s_bipush (by decide +kernel) (in32_d (by decide)) (by decide +kernel)) (SndL.c (s_fail) (SndL.c (s_ic_ge (off := 7) (by decide +kernel) (by decide)) (SndL.c (s_fail) (SndL.c (s_fail) (SndL.c (s_iconst (by decide +kernel) (in32_d (by decide))) (SndL.c (s_goto (off := 4) (by decide +kernel) (by decide)) (SndL.c (s_fail) (SndL.c (s_fail) (SndL.c (s_iconst (by decide +kernel) (in32_d (by decide))) (SndL.c (s_ret_z rfl (by decide +kernel)) (SndL.n))))))))))))))))
def kX11_isKind : Cd := [kX11_isKind_0]
theorem zX11_isKind : SndC mX11_isKind 0 kX11_isKind := SndC.c zX11_isKind_0 (by decide) (SndC.n)
theorem aX11_isKind_0 : at_ kX11_isKind 0 = (0, oIload 0 1) := rfl
theorem aX11_isKind_1 : at_ kX11_isKind 1 = (0, oIfLt 14 4) := rfl
theorem aX11_isKind_4 : at_ kX11_isKind 4 = (0, oIload 0 5) := rfl
theorem aX11_isKind_5 : at_ kX11_isKind 5 = (0, oPush (vI 6) 7) := rfl
theorem aX11_isKind_7 : at_ kX11_isKind 7 = (0, oIcGe 14 10) := rfl
theorem aX11_isKind_10 : at_ kX11_isKind 10 = (0, oPush (vI 1) 11) := rfl
theorem aX11_isKind_11 : at_ kX11_isKind 11 = (0, oGoto 15) := rfl
theorem aX11_isKind_14 : at_ kX11_isKind 14 = (0, oPush (vI 0) 15) := rfl
theorem aX11_isKind_15 : at_ kX11_isKind 15 = (0, oRetZ) := rfl
def kX11_isSubject_0 : List En := [(0, oIload 0 1), (0, oIfLt 14 4), (1, oFail), (1, oFail), (0, oIload 0 5), (0, oPush (vI 16) 7), (1, oFail), (0, oIcGe 14 10), (1, oFail), (1, oFail), (0, oPush (vI 1) 11), (0, oGoto 15), (1, oFail), (1, oFail), (0, oPush (vI 0) 15), (0, oRetZ)]
set_option maxRecDepth 20000 in
theorem zX11_isSubject_0 : SndL mX11_isSubject 0 kX11_isSubject_0 := SndL.c (s_iload_n (k := 0) (by decide +kernel) rfl) (SndL.c (s_if_lt (off := 13) (by decide +kernel) (by decide)) (SndL.c (s_fail) (SndL.c (s_fail) (SndL.c (s_iload_n (k := 0) (by decide +kernel) rfl) (SndL.c (s_bipush (by decide +kernel) (in32_d (by decide)) (by decide +kernel)) (SndL.c (s_fail) (SndL.c (s_ic_ge (off := 7) (by decide +kernel) (by decide)) (SndL.c (s_fail) (SndL.c (s_fail) (SndL.c (s_iconst (by decide +kernel) (in32_d (by decide))) (SndL.c (s_goto (off := 4) (by decide +kernel) (by decide)) (SndL.c (s_fail) (SndL.c (s_fail) (SndL.c (s_iconst (by decide +kernel) (in32_d (by decide))) (SndL.c (s_ret_z rfl (by decide +kernel)) (SndL.n))))))))))))))))
def kX11_isSubject : Cd := [kX11_isSubject_0]
theorem zX11_isSubject : SndC mX11_isSubject 0 kX11_isSubject := SndC.c zX11_isSubject_0 (by decide) (SndC.n)
theorem aX11_isSubject_0 : at_ kX11_isSubject 0 = (0, oIload 0 1) := rfl
theorem aX11_isSubject_1 : at_ kX11_isSubject 1 = (0, oIfLt 14 4) := rfl
theorem aX11_isSubject_4 : at_ kX11_isSubject 4 = (0, oIload 0 5) := rfl
theorem aX11_isSubject_5 : at_ kX11_isSubject 5 = (0, oPush (vI 16) 7) := rfl
theorem aX11_isSubject_7 : at_ kX11_isSubject 7 = (0, oIcGe 14 10) := rfl
theorem aX11_isSubject_10 : at_ kX11_isSubject 10 = (0, oPush (vI 1) 11) := rfl
theorem aX11_isSubject_11 : at_ kX11_isSubject 11 = (0, oGoto 15) := rfl
theorem aX11_isSubject_14 : at_ kX11_isSubject 14 = (0, oPush (vI 0) 15) := rfl
theorem aX11_isSubject_15 : at_ kX11_isSubject 15 = (0, oRetZ) := rfl
def kX11_isDay_0 : List En := [(0, oIload 0 1), (0, oIfLt 15 4), (1, oFail), (1, oFail), (0, oIload 0 5), (0, oPush (vI 9000) 8), (1, oFail), (1, oFail), (0, oIcGt 15 11), (1, oFail), (1, oFail), (0, oPush (vI 1) 12), (0, oGoto 16), (1, oFail), (1, oFail), (0, oPush (vI 0) 16)]
set_option maxRecDepth 20000 in
theorem zX11_isDay_0 : SndL mX11_isDay 0 kX11_isDay_0 := SndL.c (s_iload_n (k := 0) (by decide +kernel) rfl) (SndL.c (s_if_lt (off := 14) (by decide +kernel) (by decide)) (SndL.c (s_fail) (SndL.c (s_fail) (SndL.c (s_iload_n (k := 0) (by decide +kernel) rfl) (SndL.c (s_sipush (by decide +kernel) (in32_d (by decide)) (by decide +kernel)) (SndL.c (s_fail) (SndL.c (s_fail) (SndL.c (s_ic_gt (off := 7) (by decide +kernel) (by decide)) (SndL.c (s_fail) (SndL.c (s_fail) (SndL.c (s_iconst (by decide +kernel) (in32_d (by decide))) (SndL.c (s_goto (off := 4) (by decide +kernel) (by decide)) (SndL.c (s_fail) (SndL.c (s_fail) (SndL.c (s_iconst (by decide +kernel) (in32_d (by decide))) (SndL.n))))))))))))))))
def kX11_isDay_1 : List En := [(0, oRetZ)]
set_option maxRecDepth 20000 in
theorem zX11_isDay_1 : SndL mX11_isDay 16 kX11_isDay_1 := SndL.c (s_ret_z rfl (by decide +kernel)) (SndL.n)
def kX11_isDay : Cd := [kX11_isDay_0, kX11_isDay_1]
theorem zX11_isDay : SndC mX11_isDay 0 kX11_isDay := SndC.c zX11_isDay_0 (by decide) (SndC.c zX11_isDay_1 (by decide) (SndC.n))
theorem aX11_isDay_0 : at_ kX11_isDay 0 = (0, oIload 0 1) := rfl
theorem aX11_isDay_1 : at_ kX11_isDay 1 = (0, oIfLt 15 4) := rfl
theorem aX11_isDay_4 : at_ kX11_isDay 4 = (0, oIload 0 5) := rfl
theorem aX11_isDay_5 : at_ kX11_isDay 5 = (0, oPush (vI 9000) 8) := rfl
theorem aX11_isDay_8 : at_ kX11_isDay 8 = (0, oIcGt 15 11) := rfl
theorem aX11_isDay_11 : at_ kX11_isDay 11 = (0, oPush (vI 1) 12) := rfl
theorem aX11_isDay_12 : at_ kX11_isDay 12 = (0, oGoto 16) := rfl
theorem aX11_isDay_15 : at_ kX11_isDay 15 = (0, oPush (vI 0) 16) := rfl
theorem aX11_isDay_16 : at_ kX11_isDay 16 = (0, oRetZ) := rfl
def kX11_isPaper_0 : List En := [(0, oIload 0 1), (0, oIfLt 14 4), (1, oFail), (1, oFail), (0, oIload 0 5), (0, oPush (vI 8) 7), (1, oFail), (0, oIcGe 14 10), (1, oFail), (1, oFail), (0, oPush (vI 1) 11), (0, oGoto 15), (1, oFail), (1, oFail), (0, oPush (vI 0) 15), (0, oRetZ)]
set_option maxRecDepth 20000 in
theorem zX11_isPaper_0 : SndL mX11_isPaper 0 kX11_isPaper_0 := SndL.c (s_iload_n (k := 0) (by decide +kernel) rfl) (SndL.c (s_if_lt (off := 13) (by decide +kernel) (by decide)) (SndL.c (s_fail) (SndL.c (s_fail) (SndL.c (s_iload_n (k := 0) (by decide +kernel) rfl) (SndL.c (s_bipush (by decide +kernel) (in32_d (by decide)) (by decide +kernel)) (SndL.c (s_fail) (SndL.c (s_ic_ge (off := 7) (by decide +kernel) (by decide)) (SndL.c (s_fail) (SndL.c (s_fail) (SndL.c (s_iconst (by decide +kernel) (in32_d (by decide))) (SndL.c (s_goto (off := 4) (by decide +kernel) (by decide)) (SndL.c (s_fail) (SndL.c (s_fail) (SndL.c (s_iconst (by decide +kernel) (in32_d (by decide))) (SndL.c (s_ret_z rfl (by decide +kernel)) (SndL.n))))))))))))))))
def kX11_isPaper : Cd := [kX11_isPaper_0]
theorem zX11_isPaper : SndC mX11_isPaper 0 kX11_isPaper := SndC.c zX11_isPaper_0 (by decide) (SndC.n)
theorem aX11_isPaper_0 : at_ kX11_isPaper 0 = (0, oIload 0 1) := rfl
theorem aX11_isPaper_1 : at_ kX11_isPaper 1 = (0, oIfLt 14 4) := rfl
theorem aX11_isPaper_4 : at_ kX11_isPaper 4 = (0, oIload 0 5) := rfl
theorem aX11_isPaper_5 : at_ kX11_isPaper 5 = (0, oPush (vI 8) 7) := rfl
theorem aX11_isPaper_7 : at_ kX11_isPaper 7 = (0, oIcGe 14 10) := rfl
theorem aX11_isPaper_10 : at_ kX11_isPaper 10 = (0, oPush (vI 1) 11) := rfl
theorem aX11_isPaper_11 : at_ kX11_isPaper 11 = (0, oGoto 15) := rfl
theorem aX11_isPaper_14 : at_ kX11_isPaper 14 = (0, oPush (vI 0) 15) := rfl
theorem aX11_isPaper_15 : at_ kX11_isPaper 15 = (0, oRetZ) := rfl
def kX11_lackOfRow_0 : List En := [(0, oIload 1 1), (2, oInvS mX11_isShelf 1 4), (1, oFail), (1, oFail), (0, oIfNe 9 7), (1, oFail), (1, oFail), (0, oPush (vI (-1)) 8), (0, oRetI), (0, oRload 0 10), (0, oGetf 13 0 2 13), (1, oFail), (1, oFail), (0, oIload 1 14), (0, oAald 111 15), (0, oGetf 11 4 2 18)]
set_option maxRecDepth 20000 in
theorem zX11_lackOfRow_0 : SndL mX11_lackOfRow 0 kX11_lackOfRow_0 := SndL.c (s_iload_n (k := 1) (by decide +kernel) rfl) (SndL.c (s_invS okX11_isShelf w_2_7 w_2_8 (by decide +kernel)) (SndL.c (s_fail) (SndL.c (s_fail) (SndL.c (s_if_ne (off := 5) (by decide +kernel) (by decide)) (SndL.c (s_fail) (SndL.c (s_fail) (SndL.c (s_iconst (by decide +kernel) (in32_d (by decide))) (SndL.c (s_ret_i rfl (by decide +kernel)) (SndL.c (s_aload_n (k := 0) (by decide +kernel) rfl) (SndL.c (s_getf (k := 0) clok12 (by decide) rfl (by decide) rfl w_1_192 (Or.inl rfl) (by decide +kernel)) (SndL.c (s_fail) (SndL.c (s_fail) (SndL.c (s_iload_n (k := 1) (by decide +kernel) rfl) (SndL.c (s_aald (kd := 111) (akd_d (by decide)) rfl rfl (by decide +kernel)) (SndL.c (s_getf (k := 4) clok10 (by decide) rfl (by decide) rfl w_1_178 (Or.inl rfl) (by decide +kernel)) (SndL.n))))))))))))))))
def kX11_lackOfRow_1 : List En := [(1, oFail), (1, oFail), (0, oIfnull 24 21), (1, oFail), (1, oFail), (0, oPush (vI (-2)) 23), (1, oFail), (0, oRetI), (0, oRload 0 25), (0, oGetf 13 0 2 28), (1, oFail), (1, oFail), (0, oIload 1 29), (0, oAald 111 30), (0, oGetf 11 1 3 33), (1, oFail)]
set_option maxRecDepth 20000 in
theorem zX11_lackOfRow_1 : SndL mX11_lackOfRow 16 kX11_lackOfRow_1 := SndL.c (s_fail) (SndL.c (s_fail) (SndL.c (s_ifnull (off := 6) (by decide +kernel) (by decide)) (SndL.c (s_fail) (SndL.c (s_fail) (SndL.c (s_bipush (by decide +kernel) (in32_d (by decide)) (by decide +kernel)) (SndL.c (s_fail) (SndL.c (s_ret_i rfl (by decide +kernel)) (SndL.c (s_aload_n (k := 0) (by decide +kernel) rfl) (SndL.c (s_getf (k := 0) clok12 (by decide) rfl (by decide) rfl w_1_192 (Or.inl rfl) (by decide +kernel)) (SndL.c (s_fail) (SndL.c (s_fail) (SndL.c (s_iload_n (k := 1) (by decide +kernel) rfl) (SndL.c (s_aald (kd := 111) (akd_d (by decide)) rfl rfl (by decide +kernel)) (SndL.c (s_getf (k := 1) clok10 (by decide) rfl (by decide) rfl w_1_171 (Or.inl rfl) (by decide +kernel)) (SndL.c (s_fail) (SndL.n))))))))))))))))
def kX11_lackOfRow_2 : List En := [(1, oFail), (0, oIfEq 40 36), (1, oFail), (1, oFail), (0, oPush (vI 0) 37), (0, oGoto 42), (1, oFail), (1, oFail), (0, oPush (vI (-3)) 42), (1, oFail), (0, oRetI)]
set_option maxRecDepth 20000 in
theorem zX11_lackOfRow_2 : SndL mX11_lackOfRow 32 kX11_lackOfRow_2 := SndL.c (s_fail) (SndL.c (s_if_eq (off := 7) (by decide +kernel) (by decide)) (SndL.c (s_fail) (SndL.c (s_fail) (SndL.c (s_iconst (by decide +kernel) (in32_d (by decide))) (SndL.c (s_goto (off := 5) (by decide +kernel) (by decide)) (SndL.c (s_fail) (SndL.c (s_fail) (SndL.c (s_bipush (by decide +kernel) (in32_d (by decide)) (by decide +kernel)) (SndL.c (s_fail) (SndL.c (s_ret_i rfl (by decide +kernel)) (SndL.n)))))))))))
def kX11_lackOfRow : Cd := [kX11_lackOfRow_0, kX11_lackOfRow_1, kX11_lackOfRow_2]
theorem zX11_lackOfRow : SndC mX11_lackOfRow 0 kX11_lackOfRow := SndC.c zX11_lackOfRow_0 (by decide) (SndC.c zX11_lackOfRow_1 (by decide) (SndC.c zX11_lackOfRow_2 (by decide) (SndC.n)))
theorem aX11_lackOfRow_0 : at_ kX11_lackOfRow 0 = (0, oIload 1 1) := rfl
theorem aX11_lackOfRow_1 : at_ kX11_lackOfRow 1 = (2, oInvS mX11_isShelf 1 4) := rfl
theorem aX11_lackOfRow_4 : at_ kX11_lackOfRow 4 = (0, oIfNe 9 7) := rfl
theorem aX11_lackOfRow_7 : at_ kX11_lackOfRow 7 = (0, oPush (vI (-1)) 8) := rfl
theorem aX11_lackOfRow_8 : at_ kX11_lackOfRow 8 = (0, oRetI) := rfl
theorem aX11_lackOfRow_9 : at_ kX11_lackOfRow 9 = (0, oRload 0 10) := rfl
theorem aX11_lackOfRow_10 : at_ kX11_lackOfRow 10 = (0, oGetf 13 0 2 13) := rfl
theorem aX11_lackOfRow_13 : at_ kX11_lackOfRow 13 = (0, oIload 1 14) := rfl
theorem aX11_lackOfRow_14 : at_ kX11_lackOfRow 14 = (0, oAald 111 15) := rfl
theorem aX11_lackOfRow_15 : at_ kX11_lackOfRow 15 = (0, oGetf 11 4 2 18) := rfl
theorem aX11_lackOfRow_18 : at_ kX11_lackOfRow 18 = (0, oIfnull 24 21) := rfl
theorem aX11_lackOfRow_21 : at_ kX11_lackOfRow 21 = (0, oPush (vI (-2)) 23) := rfl
theorem aX11_lackOfRow_23 : at_ kX11_lackOfRow 23 = (0, oRetI) := rfl
theorem aX11_lackOfRow_24 : at_ kX11_lackOfRow 24 = (0, oRload 0 25) := rfl
theorem aX11_lackOfRow_25 : at_ kX11_lackOfRow 25 = (0, oGetf 13 0 2 28) := rfl
theorem aX11_lackOfRow_28 : at_ kX11_lackOfRow 28 = (0, oIload 1 29) := rfl
theorem aX11_lackOfRow_29 : at_ kX11_lackOfRow 29 = (0, oAald 111 30) := rfl
theorem aX11_lackOfRow_30 : at_ kX11_lackOfRow 30 = (0, oGetf 11 1 3 33) := rfl
theorem aX11_lackOfRow_33 : at_ kX11_lackOfRow 33 = (0, oIfEq 40 36) := rfl
theorem aX11_lackOfRow_36 : at_ kX11_lackOfRow 36 = (0, oPush (vI 0) 37) := rfl
theorem aX11_lackOfRow_37 : at_ kX11_lackOfRow 37 = (0, oGoto 42) := rfl
theorem aX11_lackOfRow_40 : at_ kX11_lackOfRow 40 = (0, oPush (vI (-3)) 42) := rfl
theorem aX11_lackOfRow_42 : at_ kX11_lackOfRow 42 = (0, oRetI) := rfl
def kX11_advertOf_0 : List En := [(0, oIload 1 1), (0, oIfLt 29 4), (1, oFail), (1, oFail), (0, oIload 1 5), (0, oRload 0 6), (0, oGetf 13 1 2 9), (1, oFail), (1, oFail), (2, oInvV 1 mJx4a65c_size_8abf5 0 12), (1, oFail), (1, oFail), (0, oIcGe 29 15), (1, oFail), (1, oFail), (0, oRload 0 16)]
set_option maxRecDepth 20000 in
theorem zX11_advertOf_0 : SndL mX11_advertOf 0 kX11_advertOf_0 := SndL.c (s_iload_n (k := 1) (by decide +kernel) rfl) (SndL.c (s_if_lt (off := 28) (by decide +kernel) (by decide)) (SndL.c (s_fail) (SndL.c (s_fail) (SndL.c (s_iload_n (k := 1) (by decide +kernel) rfl) (SndL.c (s_aload_n (k := 0) (by decide +kernel) rfl) (SndL.c (s_getf (k := 1) clok12 (by decide) rfl (by decide) rfl w_1_193 (Or.inl rfl) (by decide +kernel)) (SndL.c (s_fail) (SndL.c (s_fail) (SndL.c (s_invV (r := (RJx4a65c, TJx4a65c, 3)) (ci := 0) okJx4a65c_size_8abf5 rfl (by decide) rfl rfl w_2_63 w_2_64 w_2_65 (by decide +kernel)) (SndL.c (s_fail) (SndL.c (s_fail) (SndL.c (s_ic_ge (off := 17) (by decide +kernel) (by decide)) (SndL.c (s_fail) (SndL.c (s_fail) (SndL.c (s_aload_n (k := 0) (by decide +kernel) rfl) (SndL.n))))))))))))))))
def kX11_advertOf_1 : List En := [(0, oGetf 13 1 2 19), (1, oFail), (1, oFail), (0, oIload 1 20), (2, oInvV 1 mJx4a65c_get_915e3 1 23), (1, oFail), (1, oFail), (0, oCast 2 26), (1, oFail), (1, oFail), (0, oGoto 30), (1, oFail), (1, oFail), (0, oPush (vR 0) 30), (0, oRetA)]
set_option maxRecDepth 20000 in
theorem zX11_advertOf_1 : SndL mX11_advertOf 16 kX11_advertOf_1 := SndL.c (s_getf (k := 1) clok12 (by decide) rfl (by decide) rfl w_1_193 (Or.inl rfl) (by decide +kernel)) (SndL.c (s_fail) (SndL.c (s_fail) (SndL.c (s_iload_n (k := 1) (by decide +kernel) rfl) (SndL.c (s_invV (r := (RJx4a65c, TJx4a65c, 3)) (ci := 0) okJx4a65c_get_915e3 rfl (by decide) rfl rfl w_2_191 w_2_192 w_2_193 (by decide +kernel)) (SndL.c (s_fail) (SndL.c (s_fail) (SndL.c (s_cast (r := (RX0, TX0, 10)) (ci := 1) rfl (by decide) rfl w_2_67 (by decide +kernel)) (SndL.c (s_fail) (SndL.c (s_fail) (SndL.c (s_goto (off := 4) (by decide +kernel) (by decide)) (SndL.c (s_fail) (SndL.c (s_fail) (SndL.c (s_null (by decide +kernel)) (SndL.c (s_ret_a rfl (Or.inl ⟨_, rfl⟩) (by decide +kernel)) (SndL.n)))))))))))))))
def kX11_advertOf : Cd := [kX11_advertOf_0, kX11_advertOf_1]
theorem zX11_advertOf : SndC mX11_advertOf 0 kX11_advertOf := SndC.c zX11_advertOf_0 (by decide) (SndC.c zX11_advertOf_1 (by decide) (SndC.n))
theorem aX11_advertOf_0 : at_ kX11_advertOf 0 = (0, oIload 1 1) := rfl
theorem aX11_advertOf_1 : at_ kX11_advertOf 1 = (0, oIfLt 29 4) := rfl
theorem aX11_advertOf_4 : at_ kX11_advertOf 4 = (0, oIload 1 5) := rfl
theorem aX11_advertOf_5 : at_ kX11_advertOf 5 = (0, oRload 0 6) := rfl
theorem aX11_advertOf_6 : at_ kX11_advertOf 6 = (0, oGetf 13 1 2 9) := rfl
theorem aX11_advertOf_9 : at_ kX11_advertOf 9 = (2, oInvV 1 mJx4a65c_size_8abf5 0 12) := rfl
theorem aX11_advertOf_12 : at_ kX11_advertOf 12 = (0, oIcGe 29 15) := rfl
theorem aX11_advertOf_15 : at_ kX11_advertOf 15 = (0, oRload 0 16) := rfl
theorem aX11_advertOf_16 : at_ kX11_advertOf 16 = (0, oGetf 13 1 2 19) := rfl
theorem aX11_advertOf_19 : at_ kX11_advertOf 19 = (0, oIload 1 20) := rfl
theorem aX11_advertOf_20 : at_ kX11_advertOf 20 = (2, oInvV 1 mJx4a65c_get_915e3 1 23) := rfl
theorem aX11_advertOf_23 : at_ kX11_advertOf 23 = (0, oCast 2 26) := rfl
theorem aX11_advertOf_26 : at_ kX11_advertOf 26 = (0, oGoto 30) := rfl
theorem aX11_advertOf_29 : at_ kX11_advertOf 29 = (0, oPush (vR 0) 30) := rfl
theorem aX11_advertOf_30 : at_ kX11_advertOf 30 = (0, oRetA) := rfl
def kX11_endedNow_0 : List En := [(0, oRload 1 1), (0, oGetf 12 2 0 4), (1, oFail), (1, oFail), (0, oPush (vI (-1)) 5), (0, oIcEq 15 8), (1, oFail), (1, oFail), (0, oRload 0 9), (0, oPush (vI (-6)) 11), (1, oFail), (2, oInvV 13 mX11_refused 1 14), (1, oFail), (1, oFail), (0, oRetI), (0, oRload 1 16)]
set_option maxRecDepth 20000 in
theorem zX11_endedNow_0 : SndL mX11_endedNow 0 kX11_endedNow_0 := SndL.c (s_aload_n (k := 1) (by decide +kernel) rfl) (SndL.c (s_getf (k := 2) clok11 (by decide) rfl (by decide) rfl w_2_231 (Or.inl rfl) (by decide +kernel)) (SndL.c (s_fail) (SndL.c (s_fail) (SndL.c (s_iconst (by decide +kernel) (in32_d (by decide))) (SndL.c (s_ic_eq (off := 10) (by decide +kernel) (by decide)) (SndL.c (s_fail) (SndL.c (s_fail) (SndL.c (s_aload_n (k := 0) (by decide +kernel) rfl) (SndL.c (s_bipush (by decide +kernel) (in32_d (by decide)) (by decide +kernel)) (SndL.c (s_fail) (SndL.c (s_invV (r := (RX11, TX11, 14)) (ci := 12) okX11_refused rfl (by decide) rfl rfl w_1_239 w_2_1 v_0 (by decide +kernel)) (SndL.c (s_fail) (SndL.c (s_fail) (SndL.c (s_ret_i rfl (by decide +kernel)) (SndL.c (s_aload_n (k := 1) (by decide +kernel) rfl) (SndL.n))))))))))))))))
def kX11_endedNow_1 : List En := [(0, oRload 0 17), (0, oGetf 13 11 0 20), (1, oFail), (1, oFail), (0, oPutf 12 2 0 23), (1, oFail), (1, oFail), (0, oPush (vI 1) 24), (0, oRetI)]
set_option maxRecDepth 20000 in
theorem zX11_endedNow_1 : SndL mX11_endedNow 16 kX11_endedNow_1 := SndL.c (s_aload_n (k := 0) (by decide +kernel) rfl) (SndL.c (s_getf (k := 11) clok12 (by decide) rfl (by decide) rfl w_1_203 (Or.inl rfl) (by decide +kernel)) (SndL.c (s_fail) (SndL.c (s_fail) (SndL.c (s_putf (k := 2) clok11 (by decide) rfl (by decide) rfl w_2_231 (Or.inl rfl) (Or.inl rfl) (by decide +kernel)) (SndL.c (s_fail) (SndL.c (s_fail) (SndL.c (s_iconst (by decide +kernel) (in32_d (by decide))) (SndL.c (s_ret_i rfl (by decide +kernel)) (SndL.n)))))))))
def kX11_endedNow : Cd := [kX11_endedNow_0, kX11_endedNow_1]
theorem zX11_endedNow : SndC mX11_endedNow 0 kX11_endedNow := SndC.c zX11_endedNow_0 (by decide) (SndC.c zX11_endedNow_1 (by decide) (SndC.n))
theorem aX11_endedNow_0 : at_ kX11_endedNow 0 = (0, oRload 1 1) := rfl
theorem aX11_endedNow_1 : at_ kX11_endedNow 1 = (0, oGetf 12 2 0 4) := rfl
theorem aX11_endedNow_4 : at_ kX11_endedNow 4 = (0, oPush (vI (-1)) 5) := rfl
theorem aX11_endedNow_5 : at_ kX11_endedNow 5 = (0, oIcEq 15 8) := rfl
theorem aX11_endedNow_8 : at_ kX11_endedNow 8 = (0, oRload 0 9) := rfl
theorem aX11_endedNow_9 : at_ kX11_endedNow 9 = (0, oPush (vI (-6)) 11) := rfl
theorem aX11_endedNow_11 : at_ kX11_endedNow 11 = (2, oInvV 13 mX11_refused 1 14) := rfl
theorem aX11_endedNow_14 : at_ kX11_endedNow 14 = (0, oRetI) := rfl
theorem aX11_endedNow_15 : at_ kX11_endedNow 15 = (0, oRload 1 16) := rfl
theorem aX11_endedNow_16 : at_ kX11_endedNow 16 = (0, oRload 0 17) := rfl
theorem aX11_endedNow_17 : at_ kX11_endedNow 17 = (0, oGetf 13 11 0 20) := rfl
theorem aX11_endedNow_20 : at_ kX11_endedNow 20 = (0, oPutf 12 2 0 23) := rfl
theorem aX11_endedNow_23 : at_ kX11_endedNow 23 = (0, oPush (vI 1) 24) := rfl
theorem aX11_endedNow_24 : at_ kX11_endedNow 24 = (0, oRetI) := rfl
def kX11_read_0 : List En := [(0, oRload 0 1), (0, oGetf 13 7 2 4), (1, oFail), (1, oFail), (0, oRload 0 5), (0, oGetf 13 2 2 8), (1, oFail), (1, oFail), (0, oRload 0 9), (0, oIload 2 10), (0, oIload 3 11), (2, oInvV 13 mX11_tellingPhrases 2 14), (1, oFail), (1, oFail), (0, oPush (vI 0) 15), (0, oRload 1 16)]
set_option maxRecDepth 20000 in
theorem zX11_read_0 : SndL mX11_read 0 kX11_read_0 := SndL.c (s_aload_n (k := 0) (by decide +kernel) rfl) (SndL.c (s_getf (k := 7) clok12 (by decide) rfl (by decide) rfl w_1_199 (Or.inl rfl) (by decide +kernel)) (SndL.c (s_fail) (SndL.c (s_fail) (SndL.c (s_aload_n (k := 0) (by decide +kernel) rfl) (SndL.c (s_getf (k := 2) clok12 (by decide) rfl (by decide) rfl w_1_194 (Or.inl rfl) (by decide +kernel)) (SndL.c (s_fail) (SndL.c (s_fail) (SndL.c (s_aload_n (k := 0) (by decide +kernel) rfl) (SndL.c (s_iload_n (k := 2) (by decide +kernel) rfl) (SndL.c (s_iload_n (k := 3) (by decide +kernel) rfl) (SndL.c (s_invV (r := (RX11, TX11, 14)) (ci := 12) okX11_tellingPhrases rfl (by decide) rfl rfl w_3_53 w_3_55 v_8 (by decide +kernel)) (SndL.c (s_fail) (SndL.c (s_fail) (SndL.c (s_iconst (by decide +kernel) (in32_d (by decide))) (SndL.c (s_aload_n (k := 1) (by decide +kernel) rfl) (SndL.n))))))))))))))))
def kX11_read_1 : List En := [(0, oGetf 2 2 2 19), (1, oFail), (1, oFail), (0, oRload 1 20), (0, oGetf 2 2 2 23), (1, oFail), (1, oFail), (0, oAlen 24), (2, oInvV 7 mX5_read 5 27), (1, oFail), (1, oFail), (0, oPop 28), (0, oRetV)]
set_option maxRecDepth 20000 in
theorem zX11_read_1 : SndL mX11_read 16 kX11_read_1 := SndL.c (s_getf (k := 2) clok1 (by decide) rfl (by decide) rfl w_2_88 (Or.inl rfl) (by decide +kernel)) (SndL.c (s_fail) (SndL.c (s_fail) (SndL.c (s_aload_n (k := 1) (by decide +kernel) rfl) (SndL.c (s_getf (k := 2) clok1 (by decide) rfl (by decide) rfl w_2_88 (Or.inl rfl) (by decide +kernel)) (SndL.c (s_fail) (SndL.c (s_fail) (SndL.c (s_alen (by decide +kernel)) (SndL.c (s_invV (r := (RX5, TX5, 3)) (ci := 6) okX5_read rfl (by decide) rfl rfl w_3_61 w_3_62 w_3_63 (by decide +kernel)) (SndL.c (s_fail) (SndL.c (s_fail) (SndL.c (s_pop (by decide +kernel)) (SndL.c (s_ret_v rfl (by decide +kernel)) (SndL.n)))))))))))))
def kX11_read : Cd := [kX11_read_0, kX11_read_1]
theorem zX11_read : SndC mX11_read 0 kX11_read := SndC.c zX11_read_0 (by decide) (SndC.c zX11_read_1 (by decide) (SndC.n))
theorem aX11_read_0 : at_ kX11_read 0 = (0, oRload 0 1) := rfl
theorem aX11_read_1 : at_ kX11_read 1 = (0, oGetf 13 7 2 4) := rfl
theorem aX11_read_4 : at_ kX11_read 4 = (0, oRload 0 5) := rfl
theorem aX11_read_5 : at_ kX11_read 5 = (0, oGetf 13 2 2 8) := rfl
theorem aX11_read_8 : at_ kX11_read 8 = (0, oRload 0 9) := rfl
theorem aX11_read_9 : at_ kX11_read 9 = (0, oIload 2 10) := rfl
theorem aX11_read_10 : at_ kX11_read 10 = (0, oIload 3 11) := rfl
theorem aX11_read_11 : at_ kX11_read 11 = (2, oInvV 13 mX11_tellingPhrases 2 14) := rfl
theorem aX11_read_14 : at_ kX11_read 14 = (0, oPush (vI 0) 15) := rfl
theorem aX11_read_15 : at_ kX11_read 15 = (0, oRload 1 16) := rfl
theorem aX11_read_16 : at_ kX11_read 16 = (0, oGetf 2 2 2 19) := rfl
theorem aX11_read_19 : at_ kX11_read 19 = (0, oRload 1 20) := rfl
theorem aX11_read_20 : at_ kX11_read 20 = (0, oGetf 2 2 2 23) := rfl
theorem aX11_read_23 : at_ kX11_read 23 = (0, oAlen 24) := rfl
theorem aX11_read_24 : at_ kX11_read 24 = (2, oInvV 7 mX5_read 5 27) := rfl
theorem aX11_read_27 : at_ kX11_read 27 = (0, oPop 28) := rfl
theorem aX11_read_28 : at_ kX11_read 28 = (0, oRetV) := rfl
def kX11_claimOf_0 : List En := [(0, oRload 1 1), (0, oIfnull 13 4), (1, oFail), (1, oFail), (0, oIload 3 5), (0, oIfLt 13 8), (1, oFail), (1, oFail), (0, oIload 4 10), (1, oFail), (0, oIfGe 15 13), (1, oFail), (1, oFail), (0, oPush (vR 0) 14), (0, oRetA), (0, oRload 0 16)]
set_option maxRecDepth 20000 in
theorem zX11_claimOf_0 : SndL mX11_claimOf 0 kX11_claimOf_0 := SndL.c (s_aload_n (k := 1) (by decide +kernel) rfl) (SndL.c (s_ifnull (off := 12) (by decide +kernel) (by decide)) (SndL.c (s_fail) (SndL.c (s_fail) (SndL.c (s_iload_n (k := 3) (by decide +kernel) rfl) (SndL.c (s_if_lt (off := 8) (by decide +kernel) (by decide)) (SndL.c (s_fail) (SndL.c (s_fail) (SndL.c (s_iload (by decide +kernel)) (SndL.c (s_fail) (SndL.c (s_if_ge (off := 5) (by decide +kernel) (by decide)) (SndL.c (s_fail) (SndL.c (s_fail) (SndL.c (s_null (by decide +kernel)) (SndL.c (s_ret_a rfl (Or.inl ⟨_, rfl⟩) (by decide +kernel)) (SndL.c (s_aload_n (k := 0) (by decide +kernel) rfl) (SndL.n))))))))))))))))
def kX11_claimOf_1 : List En := [(0, oRload 1 17), (0, oIload 3 18), (0, oIload 4 20), (1, oFail), (2, oInvV 13 mX11_read 3 23), (1, oFail), (1, oFail), (0, oRload 0 24), (0, oGetf 13 7 2 27), (1, oFail), (1, oFail), (0, oIload 2 28), (2, oInvV 7 mX5_phraseOf 1 31), (1, oFail), (1, oFail), (0, oRetA)]
set_option maxRecDepth 20000 in
theorem zX11_claimOf_1 : SndL mX11_claimOf 16 kX11_claimOf_1 := SndL.c (s_aload_n (k := 1) (by decide +kernel) rfl) (SndL.c (s_iload_n (k := 3) (by decide +kernel) rfl) (SndL.c (s_iload (by decide +kernel)) (SndL.c (s_fail) (SndL.c (s_invV (r := (RX11, TX11, 14)) (ci := 12) okX11_read rfl (by decide) rfl rfl w_3_49 w_3_51 v_7 (by decide +kernel)) (SndL.c (s_fail) (SndL.c (s_fail) (SndL.c (s_aload_n (k := 0) (by decide +kernel) rfl) (SndL.c (s_getf (k := 7) clok12 (by decide) rfl (by decide) rfl w_1_199 (Or.inl rfl) (by decide +kernel)) (SndL.c (s_fail) (SndL.c (s_fail) (SndL.c (s_iload_n (k := 2) (by decide +kernel) rfl) (SndL.c (s_invV (r := (RX5, TX5, 3)) (ci := 6) okX5_phraseOf rfl (by decide) rfl rfl w_3_83 w_3_84 w_3_85 (by decide +kernel)) (SndL.c (s_fail) (SndL.c (s_fail) (SndL.c (s_ret_a rfl (Or.inl ⟨_, rfl⟩) (by decide +kernel)) (SndL.n))))))))))))))))
def kX11_claimOf : Cd := [kX11_claimOf_0, kX11_claimOf_1]
theorem zX11_claimOf : SndC mX11_claimOf 0 kX11_claimOf := SndC.c zX11_claimOf_0 (by decide) (SndC.c zX11_claimOf_1 (by decide) (SndC.n))
theorem aX11_claimOf_0 : at_ kX11_claimOf 0 = (0, oRload 1 1) := rfl
theorem aX11_claimOf_1 : at_ kX11_claimOf 1 = (0, oIfnull 13 4) := rfl
theorem aX11_claimOf_4 : at_ kX11_claimOf 4 = (0, oIload 3 5) := rfl
theorem aX11_claimOf_5 : at_ kX11_claimOf 5 = (0, oIfLt 13 8) := rfl
theorem aX11_claimOf_8 : at_ kX11_claimOf 8 = (0, oIload 4 10) := rfl
theorem aX11_claimOf_10 : at_ kX11_claimOf 10 = (0, oIfGe 15 13) := rfl
theorem aX11_claimOf_13 : at_ kX11_claimOf 13 = (0, oPush (vR 0) 14) := rfl
theorem aX11_claimOf_14 : at_ kX11_claimOf 14 = (0, oRetA) := rfl
theorem aX11_claimOf_15 : at_ kX11_claimOf 15 = (0, oRload 0 16) := rfl
theorem aX11_claimOf_16 : at_ kX11_claimOf 16 = (0, oRload 1 17) := rfl
theorem aX11_claimOf_17 : at_ kX11_claimOf 17 = (0, oIload 3 18) := rfl
theorem aX11_claimOf_18 : at_ kX11_claimOf 18 = (0, oIload 4 20) := rfl
theorem aX11_claimOf_20 : at_ kX11_claimOf 20 = (2, oInvV 13 mX11_read 3 23) := rfl
theorem aX11_claimOf_23 : at_ kX11_claimOf 23 = (0, oRload 0 24) := rfl
theorem aX11_claimOf_24 : at_ kX11_claimOf 24 = (0, oGetf 13 7 2 27) := rfl
theorem aX11_claimOf_27 : at_ kX11_claimOf 27 = (0, oIload 2 28) := rfl
theorem aX11_claimOf_28 : at_ kX11_claimOf 28 = (2, oInvV 7 mX5_phraseOf 1 31) := rfl
theorem aX11_claimOf_31 : at_ kX11_claimOf 31 = (0, oRetA) := rfl
def kX11_claimNow_0 : List En := [(0, oRload 0 1), (0, oRload 1 2), (0, oIload 2 3), (0, oRload 0 4), (0, oGetf 13 11 0 7), (1, oFail), (1, oFail), (0, oRload 0 8), (0, oGetf 13 11 0 11), (1, oFail), (1, oFail), (2, oInvV 13 mX11_claimOf 4 14), (1, oFail), (1, oFail), (0, oRetA)]
set_option maxRecDepth 20000 in
theorem zX11_claimNow_0 : SndL mX11_claimNow 0 kX11_claimNow_0 := SndL.c (s_aload_n (k := 0) (by decide +kernel) rfl) (SndL.c (s_aload_n (k := 1) (by decide +kernel) rfl) (SndL.c (s_iload_n (k := 2) (by decide +kernel) rfl) (SndL.c (s_aload_n (k := 0) (by decide +kernel) rfl) (SndL.c (s_getf (k := 11) clok12 (by decide) rfl (by decide) rfl w_1_203 (Or.inl rfl) (by decide +kernel)) (SndL.c (s_fail) (SndL.c (s_fail) (SndL.c (s_aload_n (k := 0) (by decide +kernel) rfl) (SndL.c (s_getf (k := 11) clok12 (by decide) rfl (by decide) rfl w_1_203 (Or.inl rfl) (by decide +kernel)) (SndL.c (s_fail) (SndL.c (s_fail) (SndL.c (s_invV (r := (RX11, TX11, 14)) (ci := 12) okX11_claimOf rfl (by decide) rfl rfl w_3_79 w_3_81 v_10 (by decide +kernel)) (SndL.c (s_fail) (SndL.c (s_fail) (SndL.c (s_ret_a rfl (Or.inl ⟨_, rfl⟩) (by decide +kernel)) (SndL.n)))))))))))))))
def kX11_claimNow : Cd := [kX11_claimNow_0]
theorem zX11_claimNow : SndC mX11_claimNow 0 kX11_claimNow := SndC.c zX11_claimNow_0 (by decide) (SndC.n)
theorem aX11_claimNow_0 : at_ kX11_claimNow 0 = (0, oRload 0 1) := rfl
theorem aX11_claimNow_1 : at_ kX11_claimNow 1 = (0, oRload 1 2) := rfl
theorem aX11_claimNow_2 : at_ kX11_claimNow 2 = (0, oIload 2 3) := rfl
theorem aX11_claimNow_3 : at_ kX11_claimNow 3 = (0, oRload 0 4) := rfl
theorem aX11_claimNow_4 : at_ kX11_claimNow 4 = (0, oGetf 13 11 0 7) := rfl
theorem aX11_claimNow_7 : at_ kX11_claimNow 7 = (0, oRload 0 8) := rfl
theorem aX11_claimNow_8 : at_ kX11_claimNow 8 = (0, oGetf 13 11 0 11) := rfl
theorem aX11_claimNow_11 : at_ kX11_claimNow 11 = (2, oInvV 13 mX11_claimOf 4 14) := rfl
theorem aX11_claimNow_14 : at_ kX11_claimNow 14 = (0, oRetA) := rfl
def kX11_tellingPhrases_0 : List En := [(0, oPush (vI 0) 1), (0, oIstore 3 2), (0, oPush (vI 0) 3), (0, oIstore 4 5), (1, oFail), (1, oIload 4 7), (1, oFail), (0, oRload 0 8), (0, oGetf 13 2 2 11), (1, oFail), (1, oFail), (2, oInvV 1 mJx4a65c_size_8abf5 0 14), (1, oFail), (1, oFail), (0, oIcGe 66 17), (1, oFail)]
set_option maxRecDepth 20000 in
theorem zX11_tellingPhrases_0 : SndL mX11_tellingPhrases 0 kX11_tellingPhrases_0 := SndL.c (s_iconst (by decide +kernel) (in32_d (by decide))) (SndL.c (s_istore_n (k := 3) (by decide +kernel) rfl (by decide)) (SndL.c (s_iconst (by decide +kernel) (in32_d (by decide))) (SndL.c (s_istore (by decide +kernel) (by decide)) (SndL.c (s_fail) (SndL.c (s_iload (by decide +kernel)) (SndL.c (s_fail) (SndL.c (s_aload_n (k := 0) (by decide +kernel) rfl) (SndL.c (s_getf (k := 2) clok12 (by decide) rfl (by decide) rfl w_1_194 (Or.inl rfl) (by decide +kernel)) (SndL.c (s_fail) (SndL.c (s_fail) (SndL.c (s_invV (r := (RJx4a65c, TJx4a65c, 3)) (ci := 0) okJx4a65c_size_8abf5 rfl (by decide) rfl rfl w_2_63 w_2_64 w_2_65 (by decide +kernel)) (SndL.c (s_fail) (SndL.c (s_fail) (SndL.c (s_ic_ge (off := 52) (by decide +kernel) (by decide)) (SndL.c (s_fail) (SndL.n))))))))))))))))
def kX11_tellingPhrases_1 : List En := [(1, oFail), (0, oRload 0 18), (0, oGetf 13 2 2 21), (1, oFail), (1, oFail), (0, oIload 4 23), (1, oFail), (2, oInvV 1 mJx4a65c_get_915e3 1 26), (1, oFail), (1, oFail), (0, oCast 4 29), (1, oFail), (1, oFail), (0, oRstore 5 31), (1, oFail), (0, oRload 5 33)]
set_option maxRecDepth 20000 in
theorem zX11_tellingPhrases_1 : SndL mX11_tellingPhrases 16 kX11_tellingPhrases_1 := SndL.c (s_fail) (SndL.c (s_aload_n (k := 0) (by decide +kernel) rfl) (SndL.c (s_getf (k := 2) clok12 (by decide) rfl (by decide) rfl w_1_194 (Or.inl rfl) (by decide +kernel)) (SndL.c (s_fail) (SndL.c (s_fail) (SndL.c (s_iload (by decide +kernel)) (SndL.c (s_fail) (SndL.c (s_invV (r := (RJx4a65c, TJx4a65c, 3)) (ci := 0) okJx4a65c_get_915e3 rfl (by decide) rfl rfl w_2_191 w_2_192 w_2_193 (by decide +kernel)) (SndL.c (s_fail) (SndL.c (s_fail) (SndL.c (s_cast (r := (RX2, TX2, 6)) (ci := 3) rfl (by decide) rfl w_2_220 (by decide +kernel)) (SndL.c (s_fail) (SndL.c (s_fail) (SndL.c (s_astore (by decide +kernel) (by decide)) (SndL.c (s_fail) (SndL.c (s_aload (by decide +kernel)) (SndL.n))))))))))))))))
def kX11_tellingPhrases_2 : List En := [(1, oFail), (0, oGetf 4 2 0 36), (1, oFail), (1, oFail), (0, oPush (vI 3) 37), (0, oIcEq 60 40), (1, oFail), (1, oFail), (0, oRload 5 42), (1, oFail), (0, oGetf 4 5 2 45), (1, oFail), (1, oFail), (0, oIload 1 46), (0, oIload 2 47), (2, oInvV 12 mX10_isInForce 2 50)]
set_option maxRecDepth 20000 in
theorem zX11_tellingPhrases_2 : SndL mX11_tellingPhrases 32 kX11_tellingPhrases_2 := SndL.c (s_fail) (SndL.c (s_getf (k := 2) clok3 (by decide) rfl (by decide) rfl w_3_11 (Or.inl rfl) (by decide +kernel)) (SndL.c (s_fail) (SndL.c (s_fail) (SndL.c (s_iconst (by decide +kernel) (in32_d (by decide))) (SndL.c (s_ic_eq (off := 23) (by decide +kernel) (by decide)) (SndL.c (s_fail) (SndL.c (s_fail) (SndL.c (s_aload (by decide +kernel)) (SndL.c (s_fail) (SndL.c (s_getf (k := 5) clok3 (by decide) rfl (by decide) rfl w_3_23 (Or.inl rfl) (by decide +kernel)) (SndL.c (s_fail) (SndL.c (s_fail) (SndL.c (s_iload_n (k := 1) (by decide +kernel) rfl) (SndL.c (s_iload_n (k := 2) (by decide +kernel) rfl) (SndL.c (s_invV (r := (RX10, TX10, 3)) (ci := 11) okX10_isInForce rfl (by decide) rfl rfl w_3_57 w_3_58 w_3_59 (by decide +kernel)) (SndL.n))))))))))))))))
def kX11_tellingPhrases_3 : List En := [(1, oFail), (1, oFail), (0, oIfEq 60 53), (1, oFail), (1, oFail), (0, oIload 3 54), (0, oPush (vI 1) 55), (0, oIload 4 57), (1, oFail), (0, oIshl 58), (0, oIor 59), (0, oIstore 3 60), (0, oIinc 4 1 63), (1, oFail), (1, oFail), (0, oGoto 5)]
set_option maxRecDepth 20000 in
theorem zX11_tellingPhrases_3 : SndL mX11_tellingPhrases 48 kX11_tellingPhrases_3 := SndL.c (s_fail) (SndL.c (s_fail) (SndL.c (s_if_eq (off := 10) (by decide +kernel) (by decide)) (SndL.c (s_fail) (SndL.c (s_fail) (SndL.c (s_iload_n (k := 3) (by decide +kernel) rfl) (SndL.c (s_iconst (by decide +kernel) (in32_d (by decide))) (SndL.c (s_iload (by decide +kernel)) (SndL.c (s_fail) (SndL.c (s_ishl (by decide +kernel)) (SndL.c (s_ior (by decide +kernel)) (SndL.c (s_istore_n (k := 3) (by decide +kernel) rfl (by decide)) (SndL.c (s_iinc (by decide +kernel) (by decide)) (SndL.c (s_fail) (SndL.c (s_fail) (SndL.c (s_goto (off := -58) (by decide +kernel) (by decide)) (SndL.n))))))))))))))))
def kX11_tellingPhrases_4 : List En := [(1, oFail), (1, oFail), (0, oIload 3 67), (0, oRetI)]
set_option maxRecDepth 20000 in
theorem zX11_tellingPhrases_4 : SndL mX11_tellingPhrases 64 kX11_tellingPhrases_4 := SndL.c (s_fail) (SndL.c (s_fail) (SndL.c (s_iload_n (k := 3) (by decide +kernel) rfl) (SndL.c (s_ret_i rfl (by decide +kernel)) (SndL.n))))
def kX11_tellingPhrases : Cd := [kX11_tellingPhrases_0, kX11_tellingPhrases_1, kX11_tellingPhrases_2, kX11_tellingPhrases_3, kX11_tellingPhrases_4]
theorem zX11_tellingPhrases : SndC mX11_tellingPhrases 0 kX11_tellingPhrases := SndC.c zX11_tellingPhrases_0 (by decide) (SndC.c zX11_tellingPhrases_1 (by decide) (SndC.c zX11_tellingPhrases_2 (by decide) (SndC.c zX11_tellingPhrases_3 (by decide) (SndC.c zX11_tellingPhrases_4 (by decide) (SndC.n)))))
theorem aX11_tellingPhrases_0 : at_ kX11_tellingPhrases 0 = (0, oPush (vI 0) 1) := rfl
theorem aX11_tellingPhrases_1 : at_ kX11_tellingPhrases 1 = (0, oIstore 3 2) := rfl
theorem aX11_tellingPhrases_2 : at_ kX11_tellingPhrases 2 = (0, oPush (vI 0) 3) := rfl
theorem aX11_tellingPhrases_3 : at_ kX11_tellingPhrases 3 = (0, oIstore 4 5) := rfl
theorem aX11_tellingPhrases_5 : at_ kX11_tellingPhrases 5 = (1, oIload 4 7) := rfl
theorem aX11_tellingPhrases_7 : at_ kX11_tellingPhrases 7 = (0, oRload 0 8) := rfl
theorem aX11_tellingPhrases_8 : at_ kX11_tellingPhrases 8 = (0, oGetf 13 2 2 11) := rfl
theorem aX11_tellingPhrases_11 : at_ kX11_tellingPhrases 11 = (2, oInvV 1 mJx4a65c_size_8abf5 0 14) := rfl
theorem aX11_tellingPhrases_14 : at_ kX11_tellingPhrases 14 = (0, oIcGe 66 17) := rfl
theorem aX11_tellingPhrases_17 : at_ kX11_tellingPhrases 17 = (0, oRload 0 18) := rfl
theorem aX11_tellingPhrases_18 : at_ kX11_tellingPhrases 18 = (0, oGetf 13 2 2 21) := rfl
theorem aX11_tellingPhrases_21 : at_ kX11_tellingPhrases 21 = (0, oIload 4 23) := rfl
theorem aX11_tellingPhrases_23 : at_ kX11_tellingPhrases 23 = (2, oInvV 1 mJx4a65c_get_915e3 1 26) := rfl
theorem aX11_tellingPhrases_26 : at_ kX11_tellingPhrases 26 = (0, oCast 4 29) := rfl
theorem aX11_tellingPhrases_29 : at_ kX11_tellingPhrases 29 = (0, oRstore 5 31) := rfl
theorem aX11_tellingPhrases_31 : at_ kX11_tellingPhrases 31 = (0, oRload 5 33) := rfl
theorem aX11_tellingPhrases_33 : at_ kX11_tellingPhrases 33 = (0, oGetf 4 2 0 36) := rfl
theorem aX11_tellingPhrases_36 : at_ kX11_tellingPhrases 36 = (0, oPush (vI 3) 37) := rfl
theorem aX11_tellingPhrases_37 : at_ kX11_tellingPhrases 37 = (0, oIcEq 60 40) := rfl
theorem aX11_tellingPhrases_40 : at_ kX11_tellingPhrases 40 = (0, oRload 5 42) := rfl
theorem aX11_tellingPhrases_42 : at_ kX11_tellingPhrases 42 = (0, oGetf 4 5 2 45) := rfl
theorem aX11_tellingPhrases_45 : at_ kX11_tellingPhrases 45 = (0, oIload 1 46) := rfl
theorem aX11_tellingPhrases_46 : at_ kX11_tellingPhrases 46 = (0, oIload 2 47) := rfl
theorem aX11_tellingPhrases_47 : at_ kX11_tellingPhrases 47 = (2, oInvV 12 mX10_isInForce 2 50) := rfl
theorem aX11_tellingPhrases_50 : at_ kX11_tellingPhrases 50 = (0, oIfEq 60 53) := rfl
theorem aX11_tellingPhrases_53 : at_ kX11_tellingPhrases 53 = (0, oIload 3 54) := rfl
theorem aX11_tellingPhrases_54 : at_ kX11_tellingPhrases 54 = (0, oPush (vI 1) 55) := rfl
theorem aX11_tellingPhrases_55 : at_ kX11_tellingPhrases 55 = (0, oIload 4 57) := rfl
theorem aX11_tellingPhrases_57 : at_ kX11_tellingPhrases 57 = (0, oIshl 58) := rfl
theorem aX11_tellingPhrases_58 : at_ kX11_tellingPhrases 58 = (0, oIor 59) := rfl
theorem aX11_tellingPhrases_59 : at_ kX11_tellingPhrases 59 = (0, oIstore 3 60) := rfl
theorem aX11_tellingPhrases_60 : at_ kX11_tellingPhrases 60 = (0, oIinc 4 1 63) := rfl
theorem aX11_tellingPhrases_63 : at_ kX11_tellingPhrases 63 = (0, oGoto 5) := rfl
theorem aX11_tellingPhrases_66 : at_ kX11_tellingPhrases 66 = (0, oIload 3 67) := rfl
theorem aX11_tellingPhrases_67 : at_ kX11_tellingPhrases 67 = (0, oRetI) := rfl
def kX11_rulesInForce_0 : List En := [(0, oPush (vI 0) 1), (0, oIstore 3 2), (0, oPush (vI 0) 3), (0, oIstore 4 5), (1, oFail), (1, oIload 4 7), (1, oFail), (0, oRload 0 8), (0, oGetf 13 3 2 11), (1, oFail), (1, oFail), (2, oInvV 1 mJx4a65c_size_8abf5 0 14), (1, oFail), (1, oFail), (0, oIcGe 53 17), (1, oFail)]
set_option maxRecDepth 20000 in
theorem zX11_rulesInForce_0 : SndL mX11_rulesInForce 0 kX11_rulesInForce_0 := SndL.c (s_iconst (by decide +kernel) (in32_d (by decide))) (SndL.c (s_istore_n (k := 3) (by decide +kernel) rfl (by decide)) (SndL.c (s_iconst (by decide +kernel) (in32_d (by decide))) (SndL.c (s_istore (by decide +kernel) (by decide)) (SndL.c (s_fail) (SndL.c (s_iload (by decide +kernel)) (SndL.c (s_fail) (SndL.c (s_aload_n (k := 0) (by decide +kernel) rfl) (SndL.c (s_getf (k := 3) clok12 (by decide) rfl (by decide) rfl w_1_195 (Or.inl rfl) (by decide +kernel)) (SndL.c (s_fail) (SndL.c (s_fail) (SndL.c (s_invV (r := (RJx4a65c, TJx4a65c, 3)) (ci := 0) okJx4a65c_size_8abf5 rfl (by decide) rfl rfl w_2_63 w_2_64 w_2_65 (by decide +kernel)) (SndL.c (s_fail) (SndL.c (s_fail) (SndL.c (s_ic_ge (off := 39) (by decide +kernel) (by decide)) (SndL.c (s_fail) (SndL.n))))))))))))))))
def kX11_rulesInForce_1 : List En := [(1, oFail), (0, oRload 0 18), (0, oGetf 13 3 2 21), (1, oFail), (1, oFail), (0, oIload 4 23), (1, oFail), (2, oInvV 1 mJx4a65c_get_915e3 1 26), (1, oFail), (1, oFail), (0, oCast 8 29), (1, oFail), (1, oFail), (0, oGetf 8 1 2 32), (1, oFail), (1, oFail)]
set_option maxRecDepth 20000 in
theorem zX11_rulesInForce_1 : SndL mX11_rulesInForce 16 kX11_rulesInForce_1 := SndL.c (s_fail) (SndL.c (s_aload_n (k := 0) (by decide +kernel) rfl) (SndL.c (s_getf (k := 3) clok12 (by decide) rfl (by decide) rfl w_1_195 (Or.inl rfl) (by decide +kernel)) (SndL.c (s_fail) (SndL.c (s_fail) (SndL.c (s_iload (by decide +kernel)) (SndL.c (s_fail) (SndL.c (s_invV (r := (RJx4a65c, TJx4a65c, 3)) (ci := 0) okJx4a65c_get_915e3 rfl (by decide) rfl rfl w_2_191 w_2_192 w_2_193 (by decide +kernel)) (SndL.c (s_fail) (SndL.c (s_fail) (SndL.c (s_cast (r := (RX6, TX6, 2)) (ci := 7) rfl (by decide) rfl w_4_40 (by decide +kernel)) (SndL.c (s_fail) (SndL.c (s_fail) (SndL.c (s_getf (k := 1) clok7 (by decide) rfl (by decide) rfl w_4_52 (Or.inl rfl) (by decide +kernel)) (SndL.c (s_fail) (SndL.c (s_fail) (SndL.n))))))))))))))))
def kX11_rulesInForce_2 : List En := [(0, oIload 1 33), (0, oIload 2 34), (2, oInvV 12 mX10_isInForce 2 37), (1, oFail), (1, oFail), (0, oIfEq 47 40), (1, oFail), (1, oFail), (0, oIload 3 41), (0, oPush (vI 1) 42), (0, oIload 4 44), (1, oFail), (0, oIshl 45), (0, oIor 46), (0, oIstore 3 47), (0, oIinc 4 1 50)]
set_option maxRecDepth 20000 in
theorem zX11_rulesInForce_2 : SndL mX11_rulesInForce 32 kX11_rulesInForce_2 := SndL.c (s_iload_n (k := 1) (by decide +kernel) rfl) (SndL.c (s_iload_n (k := 2) (by decide +kernel) rfl) (SndL.c (s_invV (r := (RX10, TX10, 3)) (ci := 11) okX10_isInForce rfl (by decide) rfl rfl w_3_57 w_3_58 w_3_59 (by decide +kernel)) (SndL.c (s_fail) (SndL.c (s_fail) (SndL.c (s_if_eq (off := 10) (by decide +kernel) (by decide)) (SndL.c (s_fail) (SndL.c (s_fail) (SndL.c (s_iload_n (k := 3) (by decide +kernel) rfl) (SndL.c (s_iconst (by decide +kernel) (in32_d (by decide))) (SndL.c (s_iload (by decide +kernel)) (SndL.c (s_fail) (SndL.c (s_ishl (by decide +kernel)) (SndL.c (s_ior (by decide +kernel)) (SndL.c (s_istore_n (k := 3) (by decide +kernel) rfl (by decide)) (SndL.c (s_iinc (by decide +kernel) (by decide)) (SndL.n))))))))))))))))
def kX11_rulesInForce_3 : List En := [(1, oFail), (1, oFail), (0, oGoto 5), (1, oFail), (1, oFail), (0, oIload 3 54), (0, oRetI)]
set_option maxRecDepth 20000 in
theorem zX11_rulesInForce_3 : SndL mX11_rulesInForce 48 kX11_rulesInForce_3 := SndL.c (s_fail) (SndL.c (s_fail) (SndL.c (s_goto (off := -45) (by decide +kernel) (by decide)) (SndL.c (s_fail) (SndL.c (s_fail) (SndL.c (s_iload_n (k := 3) (by decide +kernel) rfl) (SndL.c (s_ret_i rfl (by decide +kernel)) (SndL.n)))))))
def kX11_rulesInForce : Cd := [kX11_rulesInForce_0, kX11_rulesInForce_1, kX11_rulesInForce_2, kX11_rulesInForce_3]
theorem zX11_rulesInForce : SndC mX11_rulesInForce 0 kX11_rulesInForce := SndC.c zX11_rulesInForce_0 (by decide) (SndC.c zX11_rulesInForce_1 (by decide) (SndC.c zX11_rulesInForce_2 (by decide) (SndC.c zX11_rulesInForce_3 (by decide) (SndC.n))))
theorem aX11_rulesInForce_0 : at_ kX11_rulesInForce 0 = (0, oPush (vI 0) 1) := rfl
theorem aX11_rulesInForce_1 : at_ kX11_rulesInForce 1 = (0, oIstore 3 2) := rfl
theorem aX11_rulesInForce_2 : at_ kX11_rulesInForce 2 = (0, oPush (vI 0) 3) := rfl
theorem aX11_rulesInForce_3 : at_ kX11_rulesInForce 3 = (0, oIstore 4 5) := rfl
theorem aX11_rulesInForce_5 : at_ kX11_rulesInForce 5 = (1, oIload 4 7) := rfl
theorem aX11_rulesInForce_7 : at_ kX11_rulesInForce 7 = (0, oRload 0 8) := rfl
theorem aX11_rulesInForce_8 : at_ kX11_rulesInForce 8 = (0, oGetf 13 3 2 11) := rfl
theorem aX11_rulesInForce_11 : at_ kX11_rulesInForce 11 = (2, oInvV 1 mJx4a65c_size_8abf5 0 14) := rfl
theorem aX11_rulesInForce_14 : at_ kX11_rulesInForce 14 = (0, oIcGe 53 17) := rfl
theorem aX11_rulesInForce_17 : at_ kX11_rulesInForce 17 = (0, oRload 0 18) := rfl
theorem aX11_rulesInForce_18 : at_ kX11_rulesInForce 18 = (0, oGetf 13 3 2 21) := rfl
theorem aX11_rulesInForce_21 : at_ kX11_rulesInForce 21 = (0, oIload 4 23) := rfl
theorem aX11_rulesInForce_23 : at_ kX11_rulesInForce 23 = (2, oInvV 1 mJx4a65c_get_915e3 1 26) := rfl
theorem aX11_rulesInForce_26 : at_ kX11_rulesInForce 26 = (0, oCast 8 29) := rfl
theorem aX11_rulesInForce_29 : at_ kX11_rulesInForce 29 = (0, oGetf 8 1 2 32) := rfl
theorem aX11_rulesInForce_32 : at_ kX11_rulesInForce 32 = (0, oIload 1 33) := rfl
theorem aX11_rulesInForce_33 : at_ kX11_rulesInForce 33 = (0, oIload 2 34) := rfl
theorem aX11_rulesInForce_34 : at_ kX11_rulesInForce 34 = (2, oInvV 12 mX10_isInForce 2 37) := rfl
theorem aX11_rulesInForce_37 : at_ kX11_rulesInForce 37 = (0, oIfEq 47 40) := rfl
theorem aX11_rulesInForce_40 : at_ kX11_rulesInForce 40 = (0, oIload 3 41) := rfl
theorem aX11_rulesInForce_41 : at_ kX11_rulesInForce 41 = (0, oPush (vI 1) 42) := rfl
theorem aX11_rulesInForce_42 : at_ kX11_rulesInForce 42 = (0, oIload 4 44) := rfl
theorem aX11_rulesInForce_44 : at_ kX11_rulesInForce 44 = (0, oIshl 45) := rfl
theorem aX11_rulesInForce_45 : at_ kX11_rulesInForce 45 = (0, oIor 46) := rfl
theorem aX11_rulesInForce_46 : at_ kX11_rulesInForce 46 = (0, oIstore 3 47) := rfl
theorem aX11_rulesInForce_47 : at_ kX11_rulesInForce 47 = (0, oIinc 4 1 50) := rfl
theorem aX11_rulesInForce_50 : at_ kX11_rulesInForce 50 = (0, oGoto 5) := rfl
theorem aX11_rulesInForce_53 : at_ kX11_rulesInForce 53 = (0, oIload 3 54) := rfl
theorem aX11_rulesInForce_54 : at_ kX11_rulesInForce 54 = (0, oRetI) := rfl
def kX11_isTakenBack_0 : List En := [(0, oPush (vI 0) 1), (0, oIstore 5 3), (1, oFail), (1, oIload 5 5), (1, oFail), (0, oRload 0 6), (0, oGetf 13 2 2 9), (1, oFail), (1, oFail), (2, oInvV 1 mJx4a65c_size_8abf5 0 12), (1, oFail), (1, oFail), (0, oIcGe 84 15), (1, oFail), (1, oFail), (0, oRload 0 16)]
set_option maxRecDepth 20000 in
theorem zX11_isTakenBack_0 : SndL mX11_isTakenBack 0 kX11_isTakenBack_0 := SndL.c (s_iconst (by decide +kernel) (in32_d (by decide))) (SndL.c (s_istore (by decide +kernel) (by decide)) (SndL.c (s_fail) (SndL.c (s_iload (by decide +kernel)) (SndL.c (s_fail) (SndL.c (s_aload_n (k := 0) (by decide +kernel) rfl) (SndL.c (s_getf (k := 2) clok12 (by decide) rfl (by decide) rfl w_1_194 (Or.inl rfl) (by decide +kernel)) (SndL.c (s_fail) (SndL.c (s_fail) (SndL.c (s_invV (r := (RJx4a65c, TJx4a65c, 3)) (ci := 0) okJx4a65c_size_8abf5 rfl (by decide) rfl rfl w_2_63 w_2_64 w_2_65 (by decide +kernel)) (SndL.c (s_fail) (SndL.c (s_fail) (SndL.c (s_ic_ge (off := 72) (by decide +kernel) (by decide)) (SndL.c (s_fail) (SndL.c (s_fail) (SndL.c (s_aload_n (k := 0) (by decide +kernel) rfl) (SndL.n))))))))))))))))
def kX11_isTakenBack_1 : List En := [(0, oGetf 13 2 2 19), (1, oFail), (1, oFail), (0, oIload 5 21), (1, oFail), (2, oInvV 1 mJx4a65c_get_915e3 1 24), (1, oFail), (1, oFail), (0, oCast 4 27), (1, oFail), (1, oFail), (0, oRstore 6 29), (1, oFail), (0, oRload 6 31), (1, oFail), (0, oGetf 4 2 0 34)]
set_option maxRecDepth 20000 in
theorem zX11_isTakenBack_1 : SndL mX11_isTakenBack 16 kX11_isTakenBack_1 := SndL.c (s_getf (k := 2) clok12 (by decide) rfl (by decide) rfl w_1_194 (Or.inl rfl) (by decide +kernel)) (SndL.c (s_fail) (SndL.c (s_fail) (SndL.c (s_iload (by decide +kernel)) (SndL.c (s_fail) (SndL.c (s_invV (r := (RJx4a65c, TJx4a65c, 3)) (ci := 0) okJx4a65c_get_915e3 rfl (by decide) rfl rfl w_2_191 w_2_192 w_2_193 (by decide +kernel)) (SndL.c (s_fail) (SndL.c (s_fail) (SndL.c (s_cast (r := (RX2, TX2, 6)) (ci := 3) rfl (by decide) rfl w_2_220 (by decide +kernel)) (SndL.c (s_fail) (SndL.c (s_fail) (SndL.c (s_astore (by decide +kernel) (by decide)) (SndL.c (s_fail) (SndL.c (s_aload (by decide +kernel)) (SndL.c (s_fail) (SndL.c (s_getf (k := 2) clok3 (by decide) rfl (by decide) rfl w_3_11 (Or.inl rfl) (by decide +kernel)) (SndL.n))))))))))))))))
def kX11_isTakenBack_2 : List En := [(1, oFail), (1, oFail), (0, oPush (vI 3) 35), (0, oIcNe 78 38), (1, oFail), (1, oFail), (0, oRload 6 40), (1, oFail), (0, oGetf 4 3 0 43), (1, oFail), (1, oFail), (0, oRload 2 44), (0, oGetf 4 3 0 47), (1, oFail), (1, oFail), (0, oIcNe 78 50)]
set_option maxRecDepth 20000 in
theorem zX11_isTakenBack_2 : SndL mX11_isTakenBack 32 kX11_isTakenBack_2 := SndL.c (s_fail) (SndL.c (s_fail) (SndL.c (s_iconst (by decide +kernel) (in32_d (by decide))) (SndL.c (s_ic_ne (off := 43) (by decide +kernel) (by decide)) (SndL.c (s_fail) (SndL.c (s_fail) (SndL.c (s_aload (by decide +kernel)) (SndL.c (s_fail) (SndL.c (s_getf (k := 3) clok3 (by decide) rfl (by decide) rfl w_3_16 (Or.inl rfl) (by decide +kernel)) (SndL.c (s_fail) (SndL.c (s_fail) (SndL.c (s_aload_n (k := 2) (by decide +kernel) rfl) (SndL.c (s_getf (k := 3) clok3 (by decide) rfl (by decide) rfl w_3_16 (Or.inl rfl) (by decide +kernel)) (SndL.c (s_fail) (SndL.c (s_fail) (SndL.c (s_ic_ne (off := 31) (by decide +kernel) (by decide)) (SndL.n))))))))))))))))
def kX11_isTakenBack_3 : List En := [(1, oFail), (1, oFail), (0, oRload 6 52), (1, oFail), (0, oGetf 4 5 2 55), (1, oFail), (1, oFail), (0, oIload 3 56), (0, oIload 4 58), (1, oFail), (2, oInvV 12 mX10_isInForce 2 61), (1, oFail), (1, oFail), (0, oIfEq 78 64), (1, oFail), (1, oFail)]
set_option maxRecDepth 20000 in
theorem zX11_isTakenBack_3 : SndL mX11_isTakenBack 48 kX11_isTakenBack_3 := SndL.c (s_fail) (SndL.c (s_fail) (SndL.c (s_aload (by decide +kernel)) (SndL.c (s_fail) (SndL.c (s_getf (k := 5) clok3 (by decide) rfl (by decide) rfl w_3_23 (Or.inl rfl) (by decide +kernel)) (SndL.c (s_fail) (SndL.c (s_fail) (SndL.c (s_iload_n (k := 3) (by decide +kernel) rfl) (SndL.c (s_iload (by decide +kernel)) (SndL.c (s_fail) (SndL.c (s_invV (r := (RX10, TX10, 3)) (ci := 11) okX10_isInForce rfl (by decide) rfl rfl w_3_57 w_3_58 w_3_59 (by decide +kernel)) (SndL.c (s_fail) (SndL.c (s_fail) (SndL.c (s_if_eq (off := 17) (by decide +kernel) (by decide)) (SndL.c (s_fail) (SndL.c (s_fail) (SndL.n))))))))))))))))
def kX11_isTakenBack_4 : List En := [(0, oRload 6 66), (1, oFail), (0, oRload 1 67), (0, oGetf 2 4 2 70), (1, oFail), (1, oFail), (2, oInvV 4 mX2_isIn 1 73), (1, oFail), (1, oFail), (0, oIfEq 78 76), (1, oFail), (1, oFail), (0, oPush (vI 1) 77), (0, oRetZ), (0, oIinc 5 1 81), (1, oFail)]
set_option maxRecDepth 20000 in
theorem zX11_isTakenBack_4 : SndL mX11_isTakenBack 64 kX11_isTakenBack_4 := SndL.c (s_aload (by decide +kernel)) (SndL.c (s_fail) (SndL.c (s_aload_n (k := 1) (by decide +kernel) rfl) (SndL.c (s_getf (k := 4) clok1 (by decide) rfl (by decide) rfl w_2_92 (Or.inl rfl) (by decide +kernel)) (SndL.c (s_fail) (SndL.c (s_fail) (SndL.c (s_invV (r := (RX2, TX2, 6)) (ci := 3) okX2_isIn rfl (by decide) rfl rfl w_3_95 w_3_96 w_3_97 (by decide +kernel)) (SndL.c (s_fail) (SndL.c (s_fail) (SndL.c (s_if_eq (off := 5) (by decide +kernel) (by decide)) (SndL.c (s_fail) (SndL.c (s_fail) (SndL.c (s_iconst (by decide +kernel) (in32_d (by decide))) (SndL.c (s_ret_z rfl (by decide +kernel)) (SndL.c (s_iinc (by decide +kernel) (by decide)) (SndL.c (s_fail) (SndL.n))))))))))))))))
def kX11_isTakenBack_5 : List En := [(1, oFail), (0, oGoto 3), (1, oFail), (1, oFail), (0, oPush (vI 0) 85), (0, oRetZ)]
set_option maxRecDepth 20000 in
theorem zX11_isTakenBack_5 : SndL mX11_isTakenBack 80 kX11_isTakenBack_5 := SndL.c (s_fail) (SndL.c (s_goto (off := -78) (by decide +kernel) (by decide)) (SndL.c (s_fail) (SndL.c (s_fail) (SndL.c (s_iconst (by decide +kernel) (in32_d (by decide))) (SndL.c (s_ret_z rfl (by decide +kernel)) (SndL.n))))))
def kX11_isTakenBack : Cd := [kX11_isTakenBack_0, kX11_isTakenBack_1, kX11_isTakenBack_2, kX11_isTakenBack_3, kX11_isTakenBack_4, kX11_isTakenBack_5]
theorem zX11_isTakenBack : SndC mX11_isTakenBack 0 kX11_isTakenBack := SndC.c zX11_isTakenBack_0 (by decide) (SndC.c zX11_isTakenBack_1 (by decide) (SndC.c zX11_isTakenBack_2 (by decide) (SndC.c zX11_isTakenBack_3 (by decide) (SndC.c zX11_isTakenBack_4 (by decide) (SndC.c zX11_isTakenBack_5 (by decide) (SndC.n))))))
theorem aX11_isTakenBack_0 : at_ kX11_isTakenBack 0 = (0, oPush (vI 0) 1) := rfl
theorem aX11_isTakenBack_1 : at_ kX11_isTakenBack 1 = (0, oIstore 5 3) := rfl
theorem aX11_isTakenBack_3 : at_ kX11_isTakenBack 3 = (1, oIload 5 5) := rfl
theorem aX11_isTakenBack_5 : at_ kX11_isTakenBack 5 = (0, oRload 0 6) := rfl
theorem aX11_isTakenBack_6 : at_ kX11_isTakenBack 6 = (0, oGetf 13 2 2 9) := rfl
theorem aX11_isTakenBack_9 : at_ kX11_isTakenBack 9 = (2, oInvV 1 mJx4a65c_size_8abf5 0 12) := rfl
theorem aX11_isTakenBack_12 : at_ kX11_isTakenBack 12 = (0, oIcGe 84 15) := rfl
theorem aX11_isTakenBack_15 : at_ kX11_isTakenBack 15 = (0, oRload 0 16) := rfl
theorem aX11_isTakenBack_16 : at_ kX11_isTakenBack 16 = (0, oGetf 13 2 2 19) := rfl
theorem aX11_isTakenBack_19 : at_ kX11_isTakenBack 19 = (0, oIload 5 21) := rfl
theorem aX11_isTakenBack_21 : at_ kX11_isTakenBack 21 = (2, oInvV 1 mJx4a65c_get_915e3 1 24) := rfl
theorem aX11_isTakenBack_24 : at_ kX11_isTakenBack 24 = (0, oCast 4 27) := rfl
theorem aX11_isTakenBack_27 : at_ kX11_isTakenBack 27 = (0, oRstore 6 29) := rfl
theorem aX11_isTakenBack_29 : at_ kX11_isTakenBack 29 = (0, oRload 6 31) := rfl
theorem aX11_isTakenBack_31 : at_ kX11_isTakenBack 31 = (0, oGetf 4 2 0 34) := rfl
theorem aX11_isTakenBack_34 : at_ kX11_isTakenBack 34 = (0, oPush (vI 3) 35) := rfl
theorem aX11_isTakenBack_35 : at_ kX11_isTakenBack 35 = (0, oIcNe 78 38) := rfl
theorem aX11_isTakenBack_38 : at_ kX11_isTakenBack 38 = (0, oRload 6 40) := rfl
theorem aX11_isTakenBack_40 : at_ kX11_isTakenBack 40 = (0, oGetf 4 3 0 43) := rfl
theorem aX11_isTakenBack_43 : at_ kX11_isTakenBack 43 = (0, oRload 2 44) := rfl
theorem aX11_isTakenBack_44 : at_ kX11_isTakenBack 44 = (0, oGetf 4 3 0 47) := rfl
theorem aX11_isTakenBack_47 : at_ kX11_isTakenBack 47 = (0, oIcNe 78 50) := rfl
theorem aX11_isTakenBack_50 : at_ kX11_isTakenBack 50 = (0, oRload 6 52) := rfl
theorem aX11_isTakenBack_52 : at_ kX11_isTakenBack 52 = (0, oGetf 4 5 2 55) := rfl
theorem aX11_isTakenBack_55 : at_ kX11_isTakenBack 55 = (0, oIload 3 56) := rfl
theorem aX11_isTakenBack_56 : at_ kX11_isTakenBack 56 = (0, oIload 4 58) := rfl
theorem aX11_isTakenBack_58 : at_ kX11_isTakenBack 58 = (2, oInvV 12 mX10_isInForce 2 61) := rfl
theorem aX11_isTakenBack_61 : at_ kX11_isTakenBack 61 = (0, oIfEq 78 64) := rfl
theorem aX11_isTakenBack_64 : at_ kX11_isTakenBack 64 = (0, oRload 6 66) := rfl
theorem aX11_isTakenBack_66 : at_ kX11_isTakenBack 66 = (0, oRload 1 67) := rfl
theorem aX11_isTakenBack_67 : at_ kX11_isTakenBack 67 = (0, oGetf 2 4 2 70) := rfl
theorem aX11_isTakenBack_70 : at_ kX11_isTakenBack 70 = (2, oInvV 4 mX2_isIn 1 73) := rfl
theorem aX11_isTakenBack_73 : at_ kX11_isTakenBack 73 = (0, oIfEq 78 76) := rfl
theorem aX11_isTakenBack_76 : at_ kX11_isTakenBack 76 = (0, oPush (vI 1) 77) := rfl
theorem aX11_isTakenBack_77 : at_ kX11_isTakenBack 77 = (0, oRetZ) := rfl
theorem aX11_isTakenBack_78 : at_ kX11_isTakenBack 78 = (0, oIinc 5 1 81) := rfl
theorem aX11_isTakenBack_81 : at_ kX11_isTakenBack 81 = (0, oGoto 3) := rfl
theorem aX11_isTakenBack_84 : at_ kX11_isTakenBack 84 = (0, oPush (vI 0) 85) := rfl
theorem aX11_isTakenBack_85 : at_ kX11_isTakenBack 85 = (0, oRetZ) := rfl
def kX11_tellFacts_0 : List En := [(0, oRload 0 1), (0, oGetf 13 8 2 4), (1, oFail), (1, oFail), (0, oPush (vI 0) 5), (0, oRload 2 6), (0, oGetf 4 2 0 9), (1, oFail), (1, oFail), (0, oIast 10), (0, oRload 0 11), (0, oGetf 13 8 2 14), (1, oFail), (1, oFail), (0, oPush (vI 1) 15), (0, oRload 2 16)]
set_option maxRecDepth 20000 in
theorem zX11_tellFacts_0 : SndL mX11_tellFacts 0 kX11_tellFacts_0 := SndL.c (s_aload_n (k := 0) (by decide +kernel) rfl) (SndL.c (s_getf (k := 8) clok12 (by decide) rfl (by decide) rfl w_1_200 (Or.inl rfl) (by decide +kernel)) (SndL.c (s_fail) (SndL.c (s_fail) (SndL.c (s_iconst (by decide +kernel) (in32_d (by decide))) (SndL.c (s_aload_n (k := 2) (by decide +kernel) rfl) (SndL.c (s_getf (k := 2) clok3 (by decide) rfl (by decide) rfl w_3_11 (Or.inl rfl) (by decide +kernel)) (SndL.c (s_fail) (SndL.c (s_fail) (SndL.c (s_iast (by decide +kernel)) (SndL.c (s_aload_n (k := 0) (by decide +kernel) rfl) (SndL.c (s_getf (k := 8) clok12 (by decide) rfl (by decide) rfl w_1_200 (Or.inl rfl) (by decide +kernel)) (SndL.c (s_fail) (SndL.c (s_fail) (SndL.c (s_iconst (by decide +kernel) (in32_d (by decide))) (SndL.c (s_aload_n (k := 2) (by decide +kernel) rfl) (SndL.n))))))))))))))))
def kX11_tellFacts_1 : List En := [(0, oGetf 4 4 0 19), (1, oFail), (1, oFail), (0, oIast 20), (0, oRload 0 21), (0, oGetf 13 8 2 24), (1, oFail), (1, oFail), (0, oPush (vI 2) 25), (0, oRload 2 26), (0, oGetf 4 3 0 29), (1, oFail), (1, oFail), (0, oIast 30), (0, oRload 0 31), (0, oGetf 13 8 2 34)]
set_option maxRecDepth 20000 in
theorem zX11_tellFacts_1 : SndL mX11_tellFacts 16 kX11_tellFacts_1 := SndL.c (s_getf (k := 4) clok3 (by decide) rfl (by decide) rfl w_3_21 (Or.inl rfl) (by decide +kernel)) (SndL.c (s_fail) (SndL.c (s_fail) (SndL.c (s_iast (by decide +kernel)) (SndL.c (s_aload_n (k := 0) (by decide +kernel) rfl) (SndL.c (s_getf (k := 8) clok12 (by decide) rfl (by decide) rfl w_1_200 (Or.inl rfl) (by decide +kernel)) (SndL.c (s_fail) (SndL.c (s_fail) (SndL.c (s_iconst (by decide +kernel) (in32_d (by decide))) (SndL.c (s_aload_n (k := 2) (by decide +kernel) rfl) (SndL.c (s_getf (k := 3) clok3 (by decide) rfl (by decide) rfl w_3_16 (Or.inl rfl) (by decide +kernel)) (SndL.c (s_fail) (SndL.c (s_fail) (SndL.c (s_iast (by decide +kernel)) (SndL.c (s_aload_n (k := 0) (by decide +kernel) rfl) (SndL.c (s_getf (k := 8) clok12 (by decide) rfl (by decide) rfl w_1_200 (Or.inl rfl) (by decide +kernel)) (SndL.n))))))))))))))))
def kX11_tellFacts_2 : List En := [(1, oFail), (1, oFail), (0, oPush (vI 3) 35), (0, oRload 1 36), (0, oGetf 2 1 0 39), (1, oFail), (1, oFail), (0, oIast 40), (0, oRload 0 41), (0, oGetf 13 8 2 44), (1, oFail), (1, oFail), (0, oPush (vI 4) 45), (0, oRload 0 46), (0, oGetf 13 4 2 49), (1, oFail)]
set_option maxRecDepth 20000 in
theorem zX11_tellFacts_2 : SndL mX11_tellFacts 32 kX11_tellFacts_2 := SndL.c (s_fail) (SndL.c (s_fail) (SndL.c (s_iconst (by decide +kernel) (in32_d (by decide))) (SndL.c (s_aload_n (k := 1) (by decide +kernel) rfl) (SndL.c (s_getf (k := 1) clok1 (by decide) rfl (by decide) rfl w_2_86 (Or.inl rfl) (by decide +kernel)) (SndL.c (s_fail) (SndL.c (s_fail) (SndL.c (s_iast (by decide +kernel)) (SndL.c (s_aload_n (k := 0) (by decide +kernel) rfl) (SndL.c (s_getf (k := 8) clok12 (by decide) rfl (by decide) rfl w_1_200 (Or.inl rfl) (by decide +kernel)) (SndL.c (s_fail) (SndL.c (s_fail) (SndL.c (s_iconst (by decide +kernel) (in32_d (by decide))) (SndL.c (s_aload_n (k := 0) (by decide +kernel) rfl) (SndL.c (s_getf (k := 4) clok12 (by decide) rfl (by decide) rfl w_1_196 (Or.inl rfl) (by decide +kernel)) (SndL.c (s_fail) (SndL.n))))))))))))))))
def kX11_tellFacts_3 : List En := [(1, oFail), (0, oRload 1 50), (0, oGetf 2 0 0 53), (1, oFail), (1, oFail), (0, oRload 2 54), (0, oIload 4 56), (1, oFail), (2, oInvV 6 mX4_bearOut 3 59), (1, oFail), (1, oFail), (2, oInvS mX11_bit 1 62), (1, oFail), (1, oFail), (0, oIast 63), (0, oRload 0 64)]
set_option maxRecDepth 20000 in
theorem zX11_tellFacts_3 : SndL mX11_tellFacts 48 kX11_tellFacts_3 := SndL.c (s_fail) (SndL.c (s_aload_n (k := 1) (by decide +kernel) rfl) (SndL.c (s_getf (k := 0) clok1 (by decide) rfl (by decide) rfl w_2_83 (Or.inl rfl) (by decide +kernel)) (SndL.c (s_fail) (SndL.c (s_fail) (SndL.c (s_aload_n (k := 2) (by decide +kernel) rfl) (SndL.c (s_iload (by decide +kernel)) (SndL.c (s_fail) (SndL.c (s_invV (r := (RX4, TX4, 3)) (ci := 5) okX4_bearOut rfl (by decide) rfl rfl w_3_103 w_3_104 w_3_105 (by decide +kernel)) (SndL.c (s_fail) (SndL.c (s_fail) (SndL.c (s_invS okX11_bit w_3_100 w_3_101 (by decide +kernel)) (SndL.c (s_fail) (SndL.c (s_fail) (SndL.c (s_iast (by decide +kernel)) (SndL.c (s_aload_n (k := 0) (by decide +kernel) rfl) (SndL.n))))))))))))))))
def kX11_tellFacts_4 : List En := [(0, oGetf 13 8 2 67), (1, oFail), (1, oFail), (0, oPush (vI 5) 68), (0, oRload 1 69), (2, oInvV 2 mX0_childrenOf100 0 72), (1, oFail), (1, oFail), (0, oIast 73), (0, oRload 0 74), (0, oGetf 13 8 2 77), (1, oFail), (1, oFail), (0, oPush (vI 6) 79), (1, oFail), (0, oRload 0 80)]
set_option maxRecDepth 20000 in
theorem zX11_tellFacts_4 : SndL mX11_tellFacts 64 kX11_tellFacts_4 := SndL.c (s_getf (k := 8) clok12 (by decide) rfl (by decide) rfl w_1_200 (Or.inl rfl) (by decide +kernel)) (SndL.c (s_fail) (SndL.c (s_fail) (SndL.c (s_iconst (by decide +kernel) (in32_d (by decide))) (SndL.c (s_aload_n (k := 1) (by decide +kernel) rfl) (SndL.c (s_invV (r := (RX0, TX0, 10)) (ci := 1) okX0_childrenOf100 rfl (by decide) rfl rfl w_4_74 w_4_75 w_4_76 (by decide +kernel)) (SndL.c (s_fail) (SndL.c (s_fail) (SndL.c (s_iast (by decide +kernel)) (SndL.c (s_aload_n (k := 0) (by decide +kernel) rfl) (SndL.c (s_getf (k := 8) clok12 (by decide) rfl (by decide) rfl w_1_200 (Or.inl rfl) (by decide +kernel)) (SndL.c (s_fail) (SndL.c (s_fail) (SndL.c (s_bipush (by decide +kernel) (in32_d (by decide)) (by decide +kernel)) (SndL.c (s_fail) (SndL.c (s_aload_n (k := 0) (by decide +kernel) rfl) (SndL.n))))))))))))))))
def kX11_tellFacts_5 : List En := [(0, oRload 1 81), (0, oRload 2 82), (0, oIload 3 83), (0, oIload 4 85), (1, oFail), (2, oInvV 13 mX11_isTakenBack 4 88), (1, oFail), (1, oFail), (2, oInvS mX11_bit 1 91), (1, oFail), (1, oFail), (0, oIast 92), (0, oRload 0 93), (0, oGetf 13 8 2 96), (1, oFail), (1, oFail)]
set_option maxRecDepth 20000 in
theorem zX11_tellFacts_5 : SndL mX11_tellFacts 80 kX11_tellFacts_5 := SndL.c (s_aload_n (k := 1) (by decide +kernel) rfl) (SndL.c (s_aload_n (k := 2) (by decide +kernel) rfl) (SndL.c (s_iload_n (k := 3) (by decide +kernel) rfl) (SndL.c (s_iload (by decide +kernel)) (SndL.c (s_fail) (SndL.c (s_invV (r := (RX11, TX11, 14)) (ci := 12) okX11_isTakenBack rfl (by decide) rfl rfl w_3_91 w_3_93 v_11 (by decide +kernel)) (SndL.c (s_fail) (SndL.c (s_fail) (SndL.c (s_invS okX11_bit w_3_100 w_3_101 (by decide +kernel)) (SndL.c (s_fail) (SndL.c (s_fail) (SndL.c (s_iast (by decide +kernel)) (SndL.c (s_aload_n (k := 0) (by decide +kernel) rfl) (SndL.c (s_getf (k := 8) clok12 (by decide) rfl (by decide) rfl w_1_200 (Or.inl rfl) (by decide +kernel)) (SndL.c (s_fail) (SndL.c (s_fail) (SndL.n))))))))))))))))
def kX11_tellFacts_6 : List En := [(0, oPush (vI 7) 98), (1, oFail), (0, oRload 0 99), (0, oGetf 13 5 2 102), (1, oFail), (1, oFail), (0, oRload 1 103), (0, oGetf 2 0 0 106), (1, oFail), (1, oFail), (0, oRload 2 107), (0, oIload 3 108), (0, oIload 4 110), (1, oFail), (2, oInvV 3 mX1_isSaidAgain 4 113), (1, oFail)]
set_option maxRecDepth 20000 in
theorem zX11_tellFacts_6 : SndL mX11_tellFacts 96 kX11_tellFacts_6 := SndL.c (s_bipush (by decide +kernel) (in32_d (by decide)) (by decide +kernel)) (SndL.c (s_fail) (SndL.c (s_aload_n (k := 0) (by decide +kernel) rfl) (SndL.c (s_getf (k := 5) clok12 (by decide) rfl (by decide) rfl w_1_197 (Or.inl rfl) (by decide +kernel)) (SndL.c (s_fail) (SndL.c (s_fail) (SndL.c (s_aload_n (k := 1) (by decide +kernel) rfl) (SndL.c (s_getf (k := 0) clok1 (by decide) rfl (by decide) rfl w_2_83 (Or.inl rfl) (by decide +kernel)) (SndL.c (s_fail) (SndL.c (s_fail) (SndL.c (s_aload_n (k := 2) (by decide +kernel) rfl) (SndL.c (s_iload_n (k := 3) (by decide +kernel) rfl) (SndL.c (s_iload (by decide +kernel)) (SndL.c (s_fail) (SndL.c (s_invV (r := (RX1, TX1, 3)) (ci := 2) okX1_isSaidAgain rfl (by decide) rfl rfl w_3_134 w_3_135 w_3_136 (by decide +kernel)) (SndL.c (s_fail) (SndL.n))))))))))))))))
def kX11_tellFacts_7 : List En := [(1, oFail), (2, oInvS mX11_bit 1 116), (1, oFail), (1, oFail), (0, oIast 117), (0, oRload 0 118), (0, oGetf 13 8 2 121), (1, oFail), (1, oFail), (0, oPush (vI 8) 123), (1, oFail), (0, oRload 1 124), (0, oGetf 2 5 0 127), (1, oFail), (1, oFail), (0, oIast 128)]
set_option maxRecDepth 20000 in
theorem zX11_tellFacts_7 : SndL mX11_tellFacts 112 kX11_tellFacts_7 := SndL.c (s_fail) (SndL.c (s_invS okX11_bit w_3_100 w_3_101 (by decide +kernel)) (SndL.c (s_fail) (SndL.c (s_fail) (SndL.c (s_iast (by decide +kernel)) (SndL.c (s_aload_n (k := 0) (by decide +kernel) rfl) (SndL.c (s_getf (k := 8) clok12 (by decide) rfl (by decide) rfl w_1_200 (Or.inl rfl) (by decide +kernel)) (SndL.c (s_fail) (SndL.c (s_fail) (SndL.c (s_bipush (by decide +kernel) (in32_d (by decide)) (by decide +kernel)) (SndL.c (s_fail) (SndL.c (s_aload_n (k := 1) (by decide +kernel) rfl) (SndL.c (s_getf (k := 5) clok1 (by decide) rfl (by decide) rfl w_2_94 (Or.inl rfl) (by decide +kernel)) (SndL.c (s_fail) (SndL.c (s_fail) (SndL.c (s_iast (by decide +kernel)) (SndL.n))))))))))))))))
def kX11_tellFacts_8 : List En := [(0, oRload 0 129), (0, oGetf 13 8 2 132), (1, oFail), (1, oFail), (0, oPush (vI 9) 134), (1, oFail), (0, oIload 3 135), (0, oPush (vI 360) 138), (1, oFail), (1, oFail), (0, oIdiv 139), (0, oIast 140), (0, oRetV)]
set_option maxRecDepth 20000 in
theorem zX11_tellFacts_8 : SndL mX11_tellFacts 128 kX11_tellFacts_8 := SndL.c (s_aload_n (k := 0) (by decide +kernel) rfl) (SndL.c (s_getf (k := 8) clok12 (by decide) rfl (by decide) rfl w_1_200 (Or.inl rfl) (by decide +kernel)) (SndL.c (s_fail) (SndL.c (s_fail) (SndL.c (s_bipush (by decide +kernel) (in32_d (by decide)) (by decide +kernel)) (SndL.c (s_fail) (SndL.c (s_iload_n (k := 3) (by decide +kernel) rfl) (SndL.c (s_sipush (by decide +kernel) (in32_d (by decide)) (by decide +kernel)) (SndL.c (s_fail) (SndL.c (s_fail) (SndL.c (s_idiv (by decide +kernel)) (SndL.c (s_iast (by decide +kernel)) (SndL.c (s_ret_v rfl (by decide +kernel)) (SndL.n)))))))))))))
def kX11_tellFacts : Cd := [kX11_tellFacts_0, kX11_tellFacts_1, kX11_tellFacts_2, kX11_tellFacts_3, kX11_tellFacts_4, kX11_tellFacts_5, kX11_tellFacts_6, kX11_tellFacts_7, kX11_tellFacts_8]
theorem zX11_tellFacts : SndC mX11_tellFacts 0 kX11_tellFacts := SndC.c zX11_tellFacts_0 (by decide) (SndC.c zX11_tellFacts_1 (by decide) (SndC.c zX11_tellFacts_2 (by decide) (SndC.c zX11_tellFacts_3 (by decide) (SndC.c zX11_tellFacts_4 (by decide) (SndC.c zX11_tellFacts_5 (by decide) (SndC.c zX11_tellFacts_6 (by decide) (SndC.c zX11_tellFacts_7 (by decide) (SndC.c zX11_tellFacts_8 (by decide) (SndC.n)))))))))
theorem aX11_tellFacts_0 : at_ kX11_tellFacts 0 = (0, oRload 0 1) := rfl
theorem aX11_tellFacts_1 : at_ kX11_tellFacts 1 = (0, oGetf 13 8 2 4) := rfl
theorem aX11_tellFacts_4 : at_ kX11_tellFacts 4 = (0, oPush (vI 0) 5) := rfl
theorem aX11_tellFacts_5 : at_ kX11_tellFacts 5 = (0, oRload 2 6) := rfl
theorem aX11_tellFacts_6 : at_ kX11_tellFacts 6 = (0, oGetf 4 2 0 9) := rfl
theorem aX11_tellFacts_9 : at_ kX11_tellFacts 9 = (0, oIast 10) := rfl
theorem aX11_tellFacts_10 : at_ kX11_tellFacts 10 = (0, oRload 0 11) := rfl
theorem aX11_tellFacts_11 : at_ kX11_tellFacts 11 = (0, oGetf 13 8 2 14) := rfl
theorem aX11_tellFacts_14 : at_ kX11_tellFacts 14 = (0, oPush (vI 1) 15) := rfl
theorem aX11_tellFacts_15 : at_ kX11_tellFacts 15 = (0, oRload 2 16) := rfl
theorem aX11_tellFacts_16 : at_ kX11_tellFacts 16 = (0, oGetf 4 4 0 19) := rfl
theorem aX11_tellFacts_19 : at_ kX11_tellFacts 19 = (0, oIast 20) := rfl
theorem aX11_tellFacts_20 : at_ kX11_tellFacts 20 = (0, oRload 0 21) := rfl
theorem aX11_tellFacts_21 : at_ kX11_tellFacts 21 = (0, oGetf 13 8 2 24) := rfl
theorem aX11_tellFacts_24 : at_ kX11_tellFacts 24 = (0, oPush (vI 2) 25) := rfl
theorem aX11_tellFacts_25 : at_ kX11_tellFacts 25 = (0, oRload 2 26) := rfl
theorem aX11_tellFacts_26 : at_ kX11_tellFacts 26 = (0, oGetf 4 3 0 29) := rfl
theorem aX11_tellFacts_29 : at_ kX11_tellFacts 29 = (0, oIast 30) := rfl
theorem aX11_tellFacts_30 : at_ kX11_tellFacts 30 = (0, oRload 0 31) := rfl
theorem aX11_tellFacts_31 : at_ kX11_tellFacts 31 = (0, oGetf 13 8 2 34) := rfl
theorem aX11_tellFacts_34 : at_ kX11_tellFacts 34 = (0, oPush (vI 3) 35) := rfl
theorem aX11_tellFacts_35 : at_ kX11_tellFacts 35 = (0, oRload 1 36) := rfl
theorem aX11_tellFacts_36 : at_ kX11_tellFacts 36 = (0, oGetf 2 1 0 39) := rfl
theorem aX11_tellFacts_39 : at_ kX11_tellFacts 39 = (0, oIast 40) := rfl
theorem aX11_tellFacts_40 : at_ kX11_tellFacts 40 = (0, oRload 0 41) := rfl
theorem aX11_tellFacts_41 : at_ kX11_tellFacts 41 = (0, oGetf 13 8 2 44) := rfl
theorem aX11_tellFacts_44 : at_ kX11_tellFacts 44 = (0, oPush (vI 4) 45) := rfl
theorem aX11_tellFacts_45 : at_ kX11_tellFacts 45 = (0, oRload 0 46) := rfl
theorem aX11_tellFacts_46 : at_ kX11_tellFacts 46 = (0, oGetf 13 4 2 49) := rfl
theorem aX11_tellFacts_49 : at_ kX11_tellFacts 49 = (0, oRload 1 50) := rfl
theorem aX11_tellFacts_50 : at_ kX11_tellFacts 50 = (0, oGetf 2 0 0 53) := rfl
theorem aX11_tellFacts_53 : at_ kX11_tellFacts 53 = (0, oRload 2 54) := rfl
theorem aX11_tellFacts_54 : at_ kX11_tellFacts 54 = (0, oIload 4 56) := rfl
theorem aX11_tellFacts_56 : at_ kX11_tellFacts 56 = (2, oInvV 6 mX4_bearOut 3 59) := rfl
theorem aX11_tellFacts_59 : at_ kX11_tellFacts 59 = (2, oInvS mX11_bit 1 62) := rfl
theorem aX11_tellFacts_62 : at_ kX11_tellFacts 62 = (0, oIast 63) := rfl
theorem aX11_tellFacts_63 : at_ kX11_tellFacts 63 = (0, oRload 0 64) := rfl
theorem aX11_tellFacts_64 : at_ kX11_tellFacts 64 = (0, oGetf 13 8 2 67) := rfl
theorem aX11_tellFacts_67 : at_ kX11_tellFacts 67 = (0, oPush (vI 5) 68) := rfl
theorem aX11_tellFacts_68 : at_ kX11_tellFacts 68 = (0, oRload 1 69) := rfl
theorem aX11_tellFacts_69 : at_ kX11_tellFacts 69 = (2, oInvV 2 mX0_childrenOf100 0 72) := rfl
theorem aX11_tellFacts_72 : at_ kX11_tellFacts 72 = (0, oIast 73) := rfl
theorem aX11_tellFacts_73 : at_ kX11_tellFacts 73 = (0, oRload 0 74) := rfl
theorem aX11_tellFacts_74 : at_ kX11_tellFacts 74 = (0, oGetf 13 8 2 77) := rfl
theorem aX11_tellFacts_77 : at_ kX11_tellFacts 77 = (0, oPush (vI 6) 79) := rfl
theorem aX11_tellFacts_79 : at_ kX11_tellFacts 79 = (0, oRload 0 80) := rfl
theorem aX11_tellFacts_80 : at_ kX11_tellFacts 80 = (0, oRload 1 81) := rfl
theorem aX11_tellFacts_81 : at_ kX11_tellFacts 81 = (0, oRload 2 82) := rfl
theorem aX11_tellFacts_82 : at_ kX11_tellFacts 82 = (0, oIload 3 83) := rfl
theorem aX11_tellFacts_83 : at_ kX11_tellFacts 83 = (0, oIload 4 85) := rfl
theorem aX11_tellFacts_85 : at_ kX11_tellFacts 85 = (2, oInvV 13 mX11_isTakenBack 4 88) := rfl
theorem aX11_tellFacts_88 : at_ kX11_tellFacts 88 = (2, oInvS mX11_bit 1 91) := rfl
theorem aX11_tellFacts_91 : at_ kX11_tellFacts 91 = (0, oIast 92) := rfl
theorem aX11_tellFacts_92 : at_ kX11_tellFacts 92 = (0, oRload 0 93) := rfl
theorem aX11_tellFacts_93 : at_ kX11_tellFacts 93 = (0, oGetf 13 8 2 96) := rfl
theorem aX11_tellFacts_96 : at_ kX11_tellFacts 96 = (0, oPush (vI 7) 98) := rfl
theorem aX11_tellFacts_98 : at_ kX11_tellFacts 98 = (0, oRload 0 99) := rfl
theorem aX11_tellFacts_99 : at_ kX11_tellFacts 99 = (0, oGetf 13 5 2 102) := rfl
theorem aX11_tellFacts_102 : at_ kX11_tellFacts 102 = (0, oRload 1 103) := rfl
theorem aX11_tellFacts_103 : at_ kX11_tellFacts 103 = (0, oGetf 2 0 0 106) := rfl
theorem aX11_tellFacts_106 : at_ kX11_tellFacts 106 = (0, oRload 2 107) := rfl
theorem aX11_tellFacts_107 : at_ kX11_tellFacts 107 = (0, oIload 3 108) := rfl
theorem aX11_tellFacts_108 : at_ kX11_tellFacts 108 = (0, oIload 4 110) := rfl
theorem aX11_tellFacts_110 : at_ kX11_tellFacts 110 = (2, oInvV 3 mX1_isSaidAgain 4 113) := rfl
theorem aX11_tellFacts_113 : at_ kX11_tellFacts 113 = (2, oInvS mX11_bit 1 116) := rfl
theorem aX11_tellFacts_116 : at_ kX11_tellFacts 116 = (0, oIast 117) := rfl
theorem aX11_tellFacts_117 : at_ kX11_tellFacts 117 = (0, oRload 0 118) := rfl
theorem aX11_tellFacts_118 : at_ kX11_tellFacts 118 = (0, oGetf 13 8 2 121) := rfl
theorem aX11_tellFacts_121 : at_ kX11_tellFacts 121 = (0, oPush (vI 8) 123) := rfl
theorem aX11_tellFacts_123 : at_ kX11_tellFacts 123 = (0, oRload 1 124) := rfl
theorem aX11_tellFacts_124 : at_ kX11_tellFacts 124 = (0, oGetf 2 5 0 127) := rfl
theorem aX11_tellFacts_127 : at_ kX11_tellFacts 127 = (0, oIast 128) := rfl
theorem aX11_tellFacts_128 : at_ kX11_tellFacts 128 = (0, oRload 0 129) := rfl
theorem aX11_tellFacts_129 : at_ kX11_tellFacts 129 = (0, oGetf 13 8 2 132) := rfl
theorem aX11_tellFacts_132 : at_ kX11_tellFacts 132 = (0, oPush (vI 9) 134) := rfl
theorem aX11_tellFacts_134 : at_ kX11_tellFacts 134 = (0, oIload 3 135) := rfl
theorem aX11_tellFacts_135 : at_ kX11_tellFacts 135 = (0, oPush (vI 360) 138) := rfl
theorem aX11_tellFacts_138 : at_ kX11_tellFacts 138 = (0, oIdiv 139) := rfl
theorem aX11_tellFacts_139 : at_ kX11_tellFacts 139 = (0, oIast 140) := rfl
theorem aX11_tellFacts_140 : at_ kX11_tellFacts 140 = (0, oRetV) := rfl
def kX11_barringRule_0 : List En := [(0, oPush (vI 0) 1), (0, oIstore 2 2), (1, oIload 2 3), (0, oRload 0 4), (0, oGetf 13 3 2 7), (1, oFail), (1, oFail), (2, oInvV 1 mJx4a65c_size_8abf5 0 10), (1, oFail), (1, oFail), (0, oIcGe 51 13), (1, oFail), (1, oFail), (0, oIload 1 14), (0, oIload 2 15), (0, oIushr 16)]
set_option maxRecDepth 20000 in
theorem zX11_barringRule_0 : SndL mX11_barringRule 0 kX11_barringRule_0 := SndL.c (s_iconst (by decide +kernel) (in32_d (by decide))) (SndL.c (s_istore_n (k := 2) (by decide +kernel) rfl (by decide)) (SndL.c (s_iload_n (k := 2) (by decide +kernel) rfl) (SndL.c (s_aload_n (k := 0) (by decide +kernel) rfl) (SndL.c (s_getf (k := 3) clok12 (by decide) rfl (by decide) rfl w_1_195 (Or.inl rfl) (by decide +kernel)) (SndL.c (s_fail) (SndL.c (s_fail) (SndL.c (s_invV (r := (RJx4a65c, TJx4a65c, 3)) (ci := 0) okJx4a65c_size_8abf5 rfl (by decide) rfl rfl w_2_63 w_2_64 w_2_65 (by decide +kernel)) (SndL.c (s_fail) (SndL.c (s_fail) (SndL.c (s_ic_ge (off := 41) (by decide +kernel) (by decide)) (SndL.c (s_fail) (SndL.c (s_fail) (SndL.c (s_iload_n (k := 1) (by decide +kernel) rfl) (SndL.c (s_iload_n (k := 2) (by decide +kernel) rfl) (SndL.c (s_iushr (by decide +kernel)) (SndL.n))))))))))))))))
def kX11_barringRule_1 : List En := [(0, oPush (vI 1) 17), (0, oIand 18), (0, oPush (vI 1) 19), (0, oIcNe 45 22), (1, oFail), (1, oFail), (0, oRload 0 23), (0, oGetf 13 3 2 26), (1, oFail), (1, oFail), (0, oIload 2 27), (2, oInvV 1 mJx4a65c_get_915e3 1 30), (1, oFail), (1, oFail), (0, oCast 8 33), (1, oFail)]
set_option maxRecDepth 20000 in
theorem zX11_barringRule_1 : SndL mX11_barringRule 16 kX11_barringRule_1 := SndL.c (s_iconst (by decide +kernel) (in32_d (by decide))) (SndL.c (s_iand (by decide +kernel)) (SndL.c (s_iconst (by decide +kernel) (in32_d (by decide))) (SndL.c (s_ic_ne (off := 26) (by decide +kernel) (by decide)) (SndL.c (s_fail) (SndL.c (s_fail) (SndL.c (s_aload_n (k := 0) (by decide +kernel) rfl) (SndL.c (s_getf (k := 3) clok12 (by decide) rfl (by decide) rfl w_1_195 (Or.inl rfl) (by decide +kernel)) (SndL.c (s_fail) (SndL.c (s_fail) (SndL.c (s_iload_n (k := 2) (by decide +kernel) rfl) (SndL.c (s_invV (r := (RJx4a65c, TJx4a65c, 3)) (ci := 0) okJx4a65c_get_915e3 rfl (by decide) rfl rfl w_2_191 w_2_192 w_2_193 (by decide +kernel)) (SndL.c (s_fail) (SndL.c (s_fail) (SndL.c (s_cast (r := (RX6, TX6, 2)) (ci := 7) rfl (by decide) rfl w_4_40 (by decide +kernel)) (SndL.c (s_fail) (SndL.n))))))))))))))))
def kX11_barringRule_2 : List En := [(1, oFail), (0, oRload 0 34), (0, oGetf 13 8 2 37), (1, oFail), (1, oFail), (2, oInvV 8 mX6_isTrueOf 1 40), (1, oFail), (1, oFail), (0, oIfEq 45 43), (1, oFail), (1, oFail), (0, oIload 2 44), (0, oRetI), (0, oIinc 2 1 48), (1, oFail), (1, oFail)]
set_option maxRecDepth 20000 in
theorem zX11_barringRule_2 : SndL mX11_barringRule 32 kX11_barringRule_2 := SndL.c (s_fail) (SndL.c (s_aload_n (k := 0) (by decide +kernel) rfl) (SndL.c (s_getf (k := 8) clok12 (by decide) rfl (by decide) rfl w_1_200 (Or.inl rfl) (by decide +kernel)) (SndL.c (s_fail) (SndL.c (s_fail) (SndL.c (s_invV (r := (RX6, TX6, 2)) (ci := 7) okX6_isTrueOf rfl (by decide) rfl rfl w_4_86 w_4_87 w_4_88 (by decide +kernel)) (SndL.c (s_fail) (SndL.c (s_fail) (SndL.c (s_if_eq (off := 5) (by decide +kernel) (by decide)) (SndL.c (s_fail) (SndL.c (s_fail) (SndL.c (s_iload_n (k := 2) (by decide +kernel) rfl) (SndL.c (s_ret_i rfl (by decide +kernel)) (SndL.c (s_iinc (by decide +kernel) (by decide)) (SndL.c (s_fail) (SndL.c (s_fail) (SndL.n))))))))))))))))
def kX11_barringRule_3 : List En := [(0, oGoto 2), (1, oFail), (1, oFail), (0, oPush (vI (-1)) 52), (0, oRetI)]
set_option maxRecDepth 20000 in
theorem zX11_barringRule_3 : SndL mX11_barringRule 48 kX11_barringRule_3 := SndL.c (s_goto (off := -46) (by decide +kernel) (by decide)) (SndL.c (s_fail) (SndL.c (s_fail) (SndL.c (s_iconst (by decide +kernel) (in32_d (by decide))) (SndL.c (s_ret_i rfl (by decide +kernel)) (SndL.n)))))
def kX11_barringRule : Cd := [kX11_barringRule_0, kX11_barringRule_1, kX11_barringRule_2, kX11_barringRule_3]
theorem zX11_barringRule : SndC mX11_barringRule 0 kX11_barringRule := SndC.c zX11_barringRule_0 (by decide) (SndC.c zX11_barringRule_1 (by decide) (SndC.c zX11_barringRule_2 (by decide) (SndC.c zX11_barringRule_3 (by decide) (SndC.n))))
theorem aX11_barringRule_0 : at_ kX11_barringRule 0 = (0, oPush (vI 0) 1) := rfl
theorem aX11_barringRule_1 : at_ kX11_barringRule 1 = (0, oIstore 2 2) := rfl
theorem aX11_barringRule_2 : at_ kX11_barringRule 2 = (1, oIload 2 3) := rfl
theorem aX11_barringRule_3 : at_ kX11_barringRule 3 = (0, oRload 0 4) := rfl
theorem aX11_barringRule_4 : at_ kX11_barringRule 4 = (0, oGetf 13 3 2 7) := rfl
theorem aX11_barringRule_7 : at_ kX11_barringRule 7 = (2, oInvV 1 mJx4a65c_size_8abf5 0 10) := rfl
theorem aX11_barringRule_10 : at_ kX11_barringRule 10 = (0, oIcGe 51 13) := rfl
theorem aX11_barringRule_13 : at_ kX11_barringRule 13 = (0, oIload 1 14) := rfl
theorem aX11_barringRule_14 : at_ kX11_barringRule 14 = (0, oIload 2 15) := rfl
theorem aX11_barringRule_15 : at_ kX11_barringRule 15 = (0, oIushr 16) := rfl
theorem aX11_barringRule_16 : at_ kX11_barringRule 16 = (0, oPush (vI 1) 17) := rfl
theorem aX11_barringRule_17 : at_ kX11_barringRule 17 = (0, oIand 18) := rfl
theorem aX11_barringRule_18 : at_ kX11_barringRule 18 = (0, oPush (vI 1) 19) := rfl
theorem aX11_barringRule_19 : at_ kX11_barringRule 19 = (0, oIcNe 45 22) := rfl
theorem aX11_barringRule_22 : at_ kX11_barringRule 22 = (0, oRload 0 23) := rfl
theorem aX11_barringRule_23 : at_ kX11_barringRule 23 = (0, oGetf 13 3 2 26) := rfl
theorem aX11_barringRule_26 : at_ kX11_barringRule 26 = (0, oIload 2 27) := rfl
theorem aX11_barringRule_27 : at_ kX11_barringRule 27 = (2, oInvV 1 mJx4a65c_get_915e3 1 30) := rfl
theorem aX11_barringRule_30 : at_ kX11_barringRule 30 = (0, oCast 8 33) := rfl
theorem aX11_barringRule_33 : at_ kX11_barringRule 33 = (0, oRload 0 34) := rfl
theorem aX11_barringRule_34 : at_ kX11_barringRule 34 = (0, oGetf 13 8 2 37) := rfl
theorem aX11_barringRule_37 : at_ kX11_barringRule 37 = (2, oInvV 8 mX6_isTrueOf 1 40) := rfl
theorem aX11_barringRule_40 : at_ kX11_barringRule 40 = (0, oIfEq 45 43) := rfl
theorem aX11_barringRule_43 : at_ kX11_barringRule 43 = (0, oIload 2 44) := rfl
theorem aX11_barringRule_44 : at_ kX11_barringRule 44 = (0, oRetI) := rfl
theorem aX11_barringRule_45 : at_ kX11_barringRule 45 = (0, oIinc 2 1 48) := rfl
theorem aX11_barringRule_48 : at_ kX11_barringRule 48 = (0, oGoto 2) := rfl
theorem aX11_barringRule_51 : at_ kX11_barringRule 51 = (0, oPush (vI (-1)) 52) := rfl
theorem aX11_barringRule_52 : at_ kX11_barringRule 52 = (0, oRetI) := rfl
def kX11_barredPhrases_0 : List En := [(0, oPush (vI 0) 1), (0, oIstore 4 3), (1, oFail), (0, oPush (vI 0) 4), (0, oIstore 5 6), (1, oFail), (1, oIload 5 8), (1, oFail), (0, oRload 0 9), (0, oGetf 13 2 2 12), (1, oFail), (1, oFail), (2, oInvV 1 mJx4a65c_size_8abf5 0 15), (1, oFail), (1, oFail), (0, oIcGe 84 18)]
set_option maxRecDepth 20000 in
theorem zX11_barredPhrases_0 : SndL mX11_barredPhrases 0 kX11_barredPhrases_0 := SndL.c (s_iconst (by decide +kernel) (in32_d (by decide))) (SndL.c (s_istore (by decide +kernel) (by decide)) (SndL.c (s_fail) (SndL.c (s_iconst (by decide +kernel) (in32_d (by decide))) (SndL.c (s_istore (by decide +kernel) (by decide)) (SndL.c (s_fail) (SndL.c (s_iload (by decide +kernel)) (SndL.c (s_fail) (SndL.c (s_aload_n (k := 0) (by decide +kernel) rfl) (SndL.c (s_getf (k := 2) clok12 (by decide) rfl (by decide) rfl w_1_194 (Or.inl rfl) (by decide +kernel)) (SndL.c (s_fail) (SndL.c (s_fail) (SndL.c (s_invV (r := (RJx4a65c, TJx4a65c, 3)) (ci := 0) okJx4a65c_size_8abf5 rfl (by decide) rfl rfl w_2_63 w_2_64 w_2_65 (by decide +kernel)) (SndL.c (s_fail) (SndL.c (s_fail) (SndL.c (s_ic_ge (off := 69) (by decide +kernel) (by decide)) (SndL.n))))))))))))))))
def kX11_barredPhrases_1 : List En := [(1, oFail), (1, oFail), (0, oIload 2 19), (0, oIload 5 21), (1, oFail), (0, oIushr 22), (0, oPush (vI 1) 23), (0, oIand 24), (0, oPush (vI 1) 25), (0, oIcNe 78 28), (1, oFail), (1, oFail), (0, oRload 0 29), (0, oRload 1 30), (0, oRload 0 31), (0, oGetf 13 2 2 34)]
set_option maxRecDepth 20000 in
theorem zX11_barredPhrases_1 : SndL mX11_barredPhrases 16 kX11_barredPhrases_1 := SndL.c (s_fail) (SndL.c (s_fail) (SndL.c (s_iload_n (k := 2) (by decide +kernel) rfl) (SndL.c (s_iload (by decide +kernel)) (SndL.c (s_fail) (SndL.c (s_iushr (by decide +kernel)) (SndL.c (s_iconst (by decide +kernel) (in32_d (by decide))) (SndL.c (s_iand (by decide +kernel)) (SndL.c (s_iconst (by decide +kernel) (in32_d (by decide))) (SndL.c (s_ic_ne (off := 53) (by decide +kernel) (by decide)) (SndL.c (s_fail) (SndL.c (s_fail) (SndL.c (s_aload_n (k := 0) (by decide +kernel) rfl) (SndL.c (s_aload_n (k := 1) (by decide +kernel) rfl) (SndL.c (s_aload_n (k := 0) (by decide +kernel) rfl) (SndL.c (s_getf (k := 2) clok12 (by decide) rfl (by decide) rfl w_1_194 (Or.inl rfl) (by decide +kernel)) (SndL.n))))))))))))))))
def kX11_barredPhrases_2 : List En := [(1, oFail), (1, oFail), (0, oIload 5 36), (1, oFail), (2, oInvV 1 mJx4a65c_get_915e3 1 39), (1, oFail), (1, oFail), (0, oCast 4 42), (1, oFail), (1, oFail), (0, oRload 0 43), (0, oGetf 13 11 0 46), (1, oFail), (1, oFail), (0, oRload 0 47), (0, oGetf 13 11 0 50)]
set_option maxRecDepth 20000 in
theorem zX11_barredPhrases_2 : SndL mX11_barredPhrases 32 kX11_barredPhrases_2 := SndL.c (s_fail) (SndL.c (s_fail) (SndL.c (s_iload (by decide +kernel)) (SndL.c (s_fail) (SndL.c (s_invV (r := (RJx4a65c, TJx4a65c, 3)) (ci := 0) okJx4a65c_get_915e3 rfl (by decide) rfl rfl w_2_191 w_2_192 w_2_193 (by decide +kernel)) (SndL.c (s_fail) (SndL.c (s_fail) (SndL.c (s_cast (r := (RX2, TX2, 6)) (ci := 3) rfl (by decide) rfl w_2_220 (by decide +kernel)) (SndL.c (s_fail) (SndL.c (s_fail) (SndL.c (s_aload_n (k := 0) (by decide +kernel) rfl) (SndL.c (s_getf (k := 11) clok12 (by decide) rfl (by decide) rfl w_1_203 (Or.inl rfl) (by decide +kernel)) (SndL.c (s_fail) (SndL.c (s_fail) (SndL.c (s_aload_n (k := 0) (by decide +kernel) rfl) (SndL.c (s_getf (k := 11) clok12 (by decide) rfl (by decide) rfl w_1_203 (Or.inl rfl) (by decide +kernel)) (SndL.n))))))))))))))))
def kX11_barredPhrases_3 : List En := [(1, oFail), (1, oFail), (2, oInvV 13 mX11_tellFacts 4 53), (1, oFail), (1, oFail), (0, oIload 4 55), (1, oFail), (0, oRload 0 56), (0, oIload 3 57), (2, oInvV 13 mX11_barringRule 1 60), (1, oFail), (1, oFail), (0, oPush (vI (-1)) 61), (0, oIcEq 68 64), (1, oFail), (1, oFail)]
set_option maxRecDepth 20000 in
theorem zX11_barredPhrases_3 : SndL mX11_barredPhrases 48 kX11_barredPhrases_3 := SndL.c (s_fail) (SndL.c (s_fail) (SndL.c (s_invV (r := (RX11, TX11, 14)) (ci := 12) okX11_tellFacts rfl (by decide) rfl rfl w_4_70 w_4_72 v_22 (by decide +kernel)) (SndL.c (s_fail) (SndL.c (s_fail) (SndL.c (s_iload (by decide +kernel)) (SndL.c (s_fail) (SndL.c (s_aload_n (k := 0) (by decide +kernel) rfl) (SndL.c (s_iload_n (k := 3) (by decide +kernel) rfl) (SndL.c (s_invV (r := (RX11, TX11, 14)) (ci := 12) okX11_barringRule rfl (by decide) rfl rfl w_4_82 w_4_84 v_24 (by decide +kernel)) (SndL.c (s_fail) (SndL.c (s_fail) (SndL.c (s_iconst (by decide +kernel) (in32_d (by decide))) (SndL.c (s_ic_eq (off := 7) (by decide +kernel) (by decide)) (SndL.c (s_fail) (SndL.c (s_fail) (SndL.n))))))))))))))))
def kX11_barredPhrases_4 : List En := [(0, oPush (vI 1) 65), (0, oGoto 69), (1, oFail), (1, oFail), (0, oPush (vI 0) 69), (2, oInvS mX11_bit 1 72), (1, oFail), (1, oFail), (0, oIload 5 74), (1, oFail), (0, oIshl 75), (0, oIor 76), (0, oIstore 4 78), (1, oFail), (0, oIinc 5 1 81), (1, oFail)]
set_option maxRecDepth 20000 in
theorem zX11_barredPhrases_4 : SndL mX11_barredPhrases 64 kX11_barredPhrases_4 := SndL.c (s_iconst (by decide +kernel) (in32_d (by decide))) (SndL.c (s_goto (off := 4) (by decide +kernel) (by decide)) (SndL.c (s_fail) (SndL.c (s_fail) (SndL.c (s_iconst (by decide +kernel) (in32_d (by decide))) (SndL.c (s_invS okX11_bit w_3_100 w_3_101 (by decide +kernel)) (SndL.c (s_fail) (SndL.c (s_fail) (SndL.c (s_iload (by decide +kernel)) (SndL.c (s_fail) (SndL.c (s_ishl (by decide +kernel)) (SndL.c (s_ior (by decide +kernel)) (SndL.c (s_istore (by decide +kernel) (by decide)) (SndL.c (s_fail) (SndL.c (s_iinc (by decide +kernel) (by decide)) (SndL.c (s_fail) (SndL.n))))))))))))))))
def kX11_barredPhrases_5 : List En := [(1, oFail), (0, oGoto 6), (1, oFail), (1, oFail), (0, oIload 4 86), (1, oFail), (0, oRetI)]
set_option maxRecDepth 20000 in
theorem zX11_barredPhrases_5 : SndL mX11_barredPhrases 80 kX11_barredPhrases_5 := SndL.c (s_fail) (SndL.c (s_goto (off := -75) (by decide +kernel) (by decide)) (SndL.c (s_fail) (SndL.c (s_fail) (SndL.c (s_iload (by decide +kernel)) (SndL.c (s_fail) (SndL.c (s_ret_i rfl (by decide +kernel)) (SndL.n)))))))
def kX11_barredPhrases : Cd := [kX11_barredPhrases_0, kX11_barredPhrases_1, kX11_barredPhrases_2, kX11_barredPhrases_3, kX11_barredPhrases_4, kX11_barredPhrases_5]
theorem zX11_barredPhrases : SndC mX11_barredPhrases 0 kX11_barredPhrases := SndC.c zX11_barredPhrases_0 (by decide) (SndC.c zX11_barredPhrases_1 (by decide) (SndC.c zX11_barredPhrases_2 (by decide) (SndC.c zX11_barredPhrases_3 (by decide) (SndC.c zX11_barredPhrases_4 (by decide) (SndC.c zX11_barredPhrases_5 (by decide) (SndC.n))))))
theorem aX11_barredPhrases_0 : at_ kX11_barredPhrases 0 = (0, oPush (vI 0) 1) := rfl
theorem aX11_barredPhrases_1 : at_ kX11_barredPhrases 1 = (0, oIstore 4 3) := rfl
theorem aX11_barredPhrases_3 : at_ kX11_barredPhrases 3 = (0, oPush (vI 0) 4) := rfl
theorem aX11_barredPhrases_4 : at_ kX11_barredPhrases 4 = (0, oIstore 5 6) := rfl
theorem aX11_barredPhrases_6 : at_ kX11_barredPhrases 6 = (1, oIload 5 8) := rfl
theorem aX11_barredPhrases_8 : at_ kX11_barredPhrases 8 = (0, oRload 0 9) := rfl
theorem aX11_barredPhrases_9 : at_ kX11_barredPhrases 9 = (0, oGetf 13 2 2 12) := rfl
theorem aX11_barredPhrases_12 : at_ kX11_barredPhrases 12 = (2, oInvV 1 mJx4a65c_size_8abf5 0 15) := rfl
theorem aX11_barredPhrases_15 : at_ kX11_barredPhrases 15 = (0, oIcGe 84 18) := rfl
theorem aX11_barredPhrases_18 : at_ kX11_barredPhrases 18 = (0, oIload 2 19) := rfl
theorem aX11_barredPhrases_19 : at_ kX11_barredPhrases 19 = (0, oIload 5 21) := rfl
theorem aX11_barredPhrases_21 : at_ kX11_barredPhrases 21 = (0, oIushr 22) := rfl
theorem aX11_barredPhrases_22 : at_ kX11_barredPhrases 22 = (0, oPush (vI 1) 23) := rfl
theorem aX11_barredPhrases_23 : at_ kX11_barredPhrases 23 = (0, oIand 24) := rfl
theorem aX11_barredPhrases_24 : at_ kX11_barredPhrases 24 = (0, oPush (vI 1) 25) := rfl
theorem aX11_barredPhrases_25 : at_ kX11_barredPhrases 25 = (0, oIcNe 78 28) := rfl
theorem aX11_barredPhrases_28 : at_ kX11_barredPhrases 28 = (0, oRload 0 29) := rfl
theorem aX11_barredPhrases_29 : at_ kX11_barredPhrases 29 = (0, oRload 1 30) := rfl
theorem aX11_barredPhrases_30 : at_ kX11_barredPhrases 30 = (0, oRload 0 31) := rfl
theorem aX11_barredPhrases_31 : at_ kX11_barredPhrases 31 = (0, oGetf 13 2 2 34) := rfl
theorem aX11_barredPhrases_34 : at_ kX11_barredPhrases 34 = (0, oIload 5 36) := rfl
theorem aX11_barredPhrases_36 : at_ kX11_barredPhrases 36 = (2, oInvV 1 mJx4a65c_get_915e3 1 39) := rfl
theorem aX11_barredPhrases_39 : at_ kX11_barredPhrases 39 = (0, oCast 4 42) := rfl
theorem aX11_barredPhrases_42 : at_ kX11_barredPhrases 42 = (0, oRload 0 43) := rfl
theorem aX11_barredPhrases_43 : at_ kX11_barredPhrases 43 = (0, oGetf 13 11 0 46) := rfl
theorem aX11_barredPhrases_46 : at_ kX11_barredPhrases 46 = (0, oRload 0 47) := rfl
theorem aX11_barredPhrases_47 : at_ kX11_barredPhrases 47 = (0, oGetf 13 11 0 50) := rfl
theorem aX11_barredPhrases_50 : at_ kX11_barredPhrases 50 = (2, oInvV 13 mX11_tellFacts 4 53) := rfl
theorem aX11_barredPhrases_53 : at_ kX11_barredPhrases 53 = (0, oIload 4 55) := rfl
theorem aX11_barredPhrases_55 : at_ kX11_barredPhrases 55 = (0, oRload 0 56) := rfl
theorem aX11_barredPhrases_56 : at_ kX11_barredPhrases 56 = (0, oIload 3 57) := rfl
theorem aX11_barredPhrases_57 : at_ kX11_barredPhrases 57 = (2, oInvV 13 mX11_barringRule 1 60) := rfl
theorem aX11_barredPhrases_60 : at_ kX11_barredPhrases 60 = (0, oPush (vI (-1)) 61) := rfl
theorem aX11_barredPhrases_61 : at_ kX11_barredPhrases 61 = (0, oIcEq 68 64) := rfl
theorem aX11_barredPhrases_64 : at_ kX11_barredPhrases 64 = (0, oPush (vI 1) 65) := rfl
theorem aX11_barredPhrases_65 : at_ kX11_barredPhrases 65 = (0, oGoto 69) := rfl
theorem aX11_barredPhrases_68 : at_ kX11_barredPhrases 68 = (0, oPush (vI 0) 69) := rfl
theorem aX11_barredPhrases_69 : at_ kX11_barredPhrases 69 = (2, oInvS mX11_bit 1 72) := rfl
theorem aX11_barredPhrases_72 : at_ kX11_barredPhrases 72 = (0, oIload 5 74) := rfl
theorem aX11_barredPhrases_74 : at_ kX11_barredPhrases 74 = (0, oIshl 75) := rfl
theorem aX11_barredPhrases_75 : at_ kX11_barredPhrases 75 = (0, oIor 76) := rfl
theorem aX11_barredPhrases_76 : at_ kX11_barredPhrases 76 = (0, oIstore 4 78) := rfl
theorem aX11_barredPhrases_78 : at_ kX11_barredPhrases 78 = (0, oIinc 5 1 81) := rfl
theorem aX11_barredPhrases_81 : at_ kX11_barredPhrases 81 = (0, oGoto 6) := rfl
theorem aX11_barredPhrases_84 : at_ kX11_barredPhrases 84 = (0, oIload 4 86) := rfl
theorem aX11_barredPhrases_86 : at_ kX11_barredPhrases 86 = (0, oRetI) := rfl
def kX11_leastStruck_0 : List En := [(0, oRload 1 1), (0, oGetf 2 2 2 4), (1, oFail), (1, oFail), (0, oAlen 5), (0, oIstore 4 7), (1, oFail), (0, oPush (vI 1) 8), (0, oIload 4 10), (1, oFail), (0, oIshl 11), (0, oPush (vI 1) 12), (0, oIsub 13), (0, oIstore 5 15), (1, oFail), (0, oPush (vI 0) 16)]
set_option maxRecDepth 20000 in
theorem zX11_leastStruck_0 : SndL mX11_leastStruck 0 kX11_leastStruck_0 := SndL.c (s_aload_n (k := 1) (by decide +kernel) rfl) (SndL.c (s_getf (k := 2) clok1 (by decide) rfl (by decide) rfl w_2_88 (Or.inl rfl) (by decide +kernel)) (SndL.c (s_fail) (SndL.c (s_fail) (SndL.c (s_alen (by decide +kernel)) (SndL.c (s_istore (by decide +kernel) (by decide)) (SndL.c (s_fail) (SndL.c (s_iconst (by decide +kernel) (in32_d (by decide))) (SndL.c (s_iload (by decide +kernel)) (SndL.c (s_fail) (SndL.c (s_ishl (by decide +kernel)) (SndL.c (s_iconst (by decide +kernel) (in32_d (by decide))) (SndL.c (s_isub (by decide +kernel)) (SndL.c (s_istore (by decide +kernel) (by decide)) (SndL.c (s_fail) (SndL.c (s_iconst (by decide +kernel) (in32_d (by decide))) (SndL.n))))))))))))))))
def kX11_leastStruck_1 : List En := [(0, oIstore 6 18), (1, oFail), (1, oIload 6 20), (1, oFail), (0, oIload 4 22), (1, oFail), (0, oIcGe 72 25), (1, oFail), (1, oFail), (0, oPush (vI 0) 26), (0, oIstore 7 28), (1, oFail), (1, oIload 7 30), (1, oFail), (0, oIload 5 32), (1, oFail)]
set_option maxRecDepth 20000 in
theorem zX11_leastStruck_1 : SndL mX11_leastStruck 16 kX11_leastStruck_1 := SndL.c (s_istore (by decide +kernel) (by decide)) (SndL.c (s_fail) (SndL.c (s_iload (by decide +kernel)) (SndL.c (s_fail) (SndL.c (s_iload (by decide +kernel)) (SndL.c (s_fail) (SndL.c (s_ic_ge (off := 50) (by decide +kernel) (by decide)) (SndL.c (s_fail) (SndL.c (s_fail) (SndL.c (s_iconst (by decide +kernel) (in32_d (by decide))) (SndL.c (s_istore (by decide +kernel) (by decide)) (SndL.c (s_fail) (SndL.c (s_iload (by decide +kernel)) (SndL.c (s_fail) (SndL.c (s_iload (by decide +kernel)) (SndL.c (s_fail) (SndL.n))))))))))))))))
def kX11_leastStruck_2 : List En := [(0, oIcGe 66 35), (1, oFail), (1, oFail), (0, oIload 7 37), (1, oFail), (2, oInvS mJ6_bitCount_0f7a4 1 40), (1, oFail), (1, oFail), (0, oIload 6 42), (1, oFail), (0, oIcNe 60 45), (1, oFail), (1, oFail), (0, oRload 0 46), (0, oRload 1 47), (0, oIload 7 49)]
set_option maxRecDepth 20000 in
theorem zX11_leastStruck_2 : SndL mX11_leastStruck 32 kX11_leastStruck_2 := SndL.c (s_ic_ge (off := 34) (by decide +kernel) (by decide)) (SndL.c (s_fail) (SndL.c (s_fail) (SndL.c (s_iload (by decide +kernel)) (SndL.c (s_fail) (SndL.c (s_invS okJ6_bitCount_0f7a4 w_5_46 w_5_47 (by decide +kernel)) (SndL.c (s_fail) (SndL.c (s_fail) (SndL.c (s_iload (by decide +kernel)) (SndL.c (s_fail) (SndL.c (s_ic_ne (off := 18) (by decide +kernel) (by decide)) (SndL.c (s_fail) (SndL.c (s_fail) (SndL.c (s_aload_n (k := 0) (by decide +kernel) rfl) (SndL.c (s_aload_n (k := 1) (by decide +kernel) rfl) (SndL.c (s_iload (by decide +kernel)) (SndL.n))))))))))))))))
def kX11_leastStruck_3 : List En := [(1, oFail), (0, oIload 2 50), (0, oIload 3 51), (2, oInvV 13 mX11_standsWithout 4 54), (1, oFail), (1, oFail), (0, oIfEq 60 57), (1, oFail), (1, oFail), (0, oIload 7 59), (1, oFail), (0, oRetI), (0, oIinc 7 1 63), (1, oFail), (1, oFail), (0, oGoto 28)]
set_option maxRecDepth 20000 in
theorem zX11_leastStruck_3 : SndL mX11_leastStruck 48 kX11_leastStruck_3 := SndL.c (s_fail) (SndL.c (s_iload_n (k := 2) (by decide +kernel) rfl) (SndL.c (s_iload_n (k := 3) (by decide +kernel) rfl) (SndL.c (s_invV (r := (RX11, TX11, 14)) (ci := 12) okX11_standsWithout rfl (by decide) rfl rfl w_5_52 w_5_54 v_28 (by decide +kernel)) (SndL.c (s_fail) (SndL.c (s_fail) (SndL.c (s_if_eq (off := 6) (by decide +kernel) (by decide)) (SndL.c (s_fail) (SndL.c (s_fail) (SndL.c (s_iload (by decide +kernel)) (SndL.c (s_fail) (SndL.c (s_ret_i rfl (by decide +kernel)) (SndL.c (s_iinc (by decide +kernel) (by decide)) (SndL.c (s_fail) (SndL.c (s_fail) (SndL.c (s_goto (off := -35) (by decide +kernel) (by decide)) (SndL.n))))))))))))))))
def kX11_leastStruck_4 : List En := [(1, oFail), (1, oFail), (0, oIinc 6 1 69), (1, oFail), (1, oFail), (0, oGoto 18), (1, oFail), (1, oFail), (0, oIload 5 74), (1, oFail), (0, oRetI)]
set_option maxRecDepth 20000 in
theorem zX11_leastStruck_4 : SndL mX11_leastStruck 64 kX11_leastStruck_4 := SndL.c (s_fail) (SndL.c (s_fail) (SndL.c (s_iinc (by decide +kernel) (by decide)) (SndL.c (s_fail) (SndL.c (s_fail) (SndL.c (s_goto (off := -51) (by decide +kernel) (by decide)) (SndL.c (s_fail) (SndL.c (s_fail) (SndL.c (s_iload (by decide +kernel)) (SndL.c (s_fail) (SndL.c (s_ret_i rfl (by decide +kernel)) (SndL.n)))))))))))
def kX11_leastStruck : Cd := [kX11_leastStruck_0, kX11_leastStruck_1, kX11_leastStruck_2, kX11_leastStruck_3, kX11_leastStruck_4]
theorem zX11_leastStruck : SndC mX11_leastStruck 0 kX11_leastStruck := SndC.c zX11_leastStruck_0 (by decide) (SndC.c zX11_leastStruck_1 (by decide) (SndC.c zX11_leastStruck_2 (by decide) (SndC.c zX11_leastStruck_3 (by decide) (SndC.c zX11_leastStruck_4 (by decide) (SndC.n)))))
theorem aX11_leastStruck_0 : at_ kX11_leastStruck 0 = (0, oRload 1 1) := rfl
theorem aX11_leastStruck_1 : at_ kX11_leastStruck 1 = (0, oGetf 2 2 2 4) := rfl
theorem aX11_leastStruck_4 : at_ kX11_leastStruck 4 = (0, oAlen 5) := rfl
theorem aX11_leastStruck_5 : at_ kX11_leastStruck 5 = (0, oIstore 4 7) := rfl
theorem aX11_leastStruck_7 : at_ kX11_leastStruck 7 = (0, oPush (vI 1) 8) := rfl
theorem aX11_leastStruck_8 : at_ kX11_leastStruck 8 = (0, oIload 4 10) := rfl
theorem aX11_leastStruck_10 : at_ kX11_leastStruck 10 = (0, oIshl 11) := rfl
theorem aX11_leastStruck_11 : at_ kX11_leastStruck 11 = (0, oPush (vI 1) 12) := rfl
theorem aX11_leastStruck_12 : at_ kX11_leastStruck 12 = (0, oIsub 13) := rfl
theorem aX11_leastStruck_13 : at_ kX11_leastStruck 13 = (0, oIstore 5 15) := rfl
theorem aX11_leastStruck_15 : at_ kX11_leastStruck 15 = (0, oPush (vI 0) 16) := rfl
theorem aX11_leastStruck_16 : at_ kX11_leastStruck 16 = (0, oIstore 6 18) := rfl
theorem aX11_leastStruck_18 : at_ kX11_leastStruck 18 = (1, oIload 6 20) := rfl
theorem aX11_leastStruck_20 : at_ kX11_leastStruck 20 = (0, oIload 4 22) := rfl
theorem aX11_leastStruck_22 : at_ kX11_leastStruck 22 = (0, oIcGe 72 25) := rfl
theorem aX11_leastStruck_25 : at_ kX11_leastStruck 25 = (0, oPush (vI 0) 26) := rfl
theorem aX11_leastStruck_26 : at_ kX11_leastStruck 26 = (0, oIstore 7 28) := rfl
theorem aX11_leastStruck_28 : at_ kX11_leastStruck 28 = (1, oIload 7 30) := rfl
theorem aX11_leastStruck_30 : at_ kX11_leastStruck 30 = (0, oIload 5 32) := rfl
theorem aX11_leastStruck_32 : at_ kX11_leastStruck 32 = (0, oIcGe 66 35) := rfl
theorem aX11_leastStruck_35 : at_ kX11_leastStruck 35 = (0, oIload 7 37) := rfl
theorem aX11_leastStruck_37 : at_ kX11_leastStruck 37 = (2, oInvS mJ6_bitCount_0f7a4 1 40) := rfl
theorem aX11_leastStruck_40 : at_ kX11_leastStruck 40 = (0, oIload 6 42) := rfl
theorem aX11_leastStruck_42 : at_ kX11_leastStruck 42 = (0, oIcNe 60 45) := rfl
theorem aX11_leastStruck_45 : at_ kX11_leastStruck 45 = (0, oRload 0 46) := rfl
theorem aX11_leastStruck_46 : at_ kX11_leastStruck 46 = (0, oRload 1 47) := rfl
theorem aX11_leastStruck_47 : at_ kX11_leastStruck 47 = (0, oIload 7 49) := rfl
theorem aX11_leastStruck_49 : at_ kX11_leastStruck 49 = (0, oIload 2 50) := rfl
theorem aX11_leastStruck_50 : at_ kX11_leastStruck 50 = (0, oIload 3 51) := rfl
theorem aX11_leastStruck_51 : at_ kX11_leastStruck 51 = (2, oInvV 13 mX11_standsWithout 4 54) := rfl
theorem aX11_leastStruck_54 : at_ kX11_leastStruck 54 = (0, oIfEq 60 57) := rfl
theorem aX11_leastStruck_57 : at_ kX11_leastStruck 57 = (0, oIload 7 59) := rfl
theorem aX11_leastStruck_59 : at_ kX11_leastStruck 59 = (0, oRetI) := rfl
theorem aX11_leastStruck_60 : at_ kX11_leastStruck 60 = (0, oIinc 7 1 63) := rfl
theorem aX11_leastStruck_63 : at_ kX11_leastStruck 63 = (0, oGoto 28) := rfl
theorem aX11_leastStruck_66 : at_ kX11_leastStruck 66 = (0, oIinc 6 1 69) := rfl
theorem aX11_leastStruck_69 : at_ kX11_leastStruck 69 = (0, oGoto 18) := rfl
theorem aX11_leastStruck_72 : at_ kX11_leastStruck 72 = (0, oIload 5 74) := rfl
theorem aX11_leastStruck_74 : at_ kX11_leastStruck 74 = (0, oRetI) := rfl
def kX11_standsWithout_0 : List En := [(0, oPush (vI 0) 1), (0, oIstore 5 3), (1, oFail), (0, oPush (vI 0) 4), (0, oIstore 6 6), (1, oFail), (1, oIload 6 8), (1, oFail), (0, oRload 1 9), (0, oGetf 2 2 2 12), (1, oFail), (1, oFail), (0, oAlen 13), (0, oIcGe 55 16), (1, oFail), (1, oFail)]
set_option maxRecDepth 20000 in
theorem zX11_standsWithout_0 : SndL mX11_standsWithout 0 kX11_standsWithout_0 := SndL.c (s_iconst (by decide +kernel) (in32_d (by decide))) (SndL.c (s_istore (by decide +kernel) (by decide)) (SndL.c (s_fail) (SndL.c (s_iconst (by decide +kernel) (in32_d (by decide))) (SndL.c (s_istore (by decide +kernel) (by decide)) (SndL.c (s_fail) (SndL.c (s_iload (by decide +kernel)) (SndL.c (s_fail) (SndL.c (s_aload_n (k := 1) (by decide +kernel) rfl) (SndL.c (s_getf (k := 2) clok1 (by decide) rfl (by decide) rfl w_2_88 (Or.inl rfl) (by decide +kernel)) (SndL.c (s_fail) (SndL.c (s_fail) (SndL.c (s_alen (by decide +kernel)) (SndL.c (s_ic_ge (off := 42) (by decide +kernel) (by decide)) (SndL.c (s_fail) (SndL.c (s_fail) (SndL.n))))))))))))))))
def kX11_standsWithout_1 : List En := [(0, oIload 5 18), (1, oFail), (0, oPush (vI 20) 20), (1, oFail), (0, oIcGe 55 23), (1, oFail), (1, oFail), (0, oIload 2 24), (0, oIload 6 26), (1, oFail), (0, oIushr 27), (0, oPush (vI 1) 28), (0, oIand 29), (0, oIfNe 49 32), (1, oFail), (1, oFail)]
set_option maxRecDepth 20000 in
theorem zX11_standsWithout_1 : SndL mX11_standsWithout 16 kX11_standsWithout_1 := SndL.c (s_iload (by decide +kernel)) (SndL.c (s_fail) (SndL.c (s_bipush (by decide +kernel) (in32_d (by decide)) (by decide +kernel)) (SndL.c (s_fail) (SndL.c (s_ic_ge (off := 35) (by decide +kernel) (by decide)) (SndL.c (s_fail) (SndL.c (s_fail) (SndL.c (s_iload_n (k := 2) (by decide +kernel) rfl) (SndL.c (s_iload (by decide +kernel)) (SndL.c (s_fail) (SndL.c (s_iushr (by decide +kernel)) (SndL.c (s_iconst (by decide +kernel) (in32_d (by decide))) (SndL.c (s_iand (by decide +kernel)) (SndL.c (s_if_ne (off := 20) (by decide +kernel) (by decide)) (SndL.c (s_fail) (SndL.c (s_fail) (SndL.n))))))))))))))))
def kX11_standsWithout_2 : List En := [(0, oRload 0 33), (0, oGetf 13 9 2 36), (1, oFail), (1, oFail), (0, oIload 5 38), (1, oFail), (0, oRload 1 39), (0, oGetf 2 2 2 42), (1, oFail), (1, oFail), (0, oIload 6 44), (1, oFail), (0, oIald 45), (0, oIast 46), (0, oIinc 5 1 49), (1, oFail)]
set_option maxRecDepth 20000 in
theorem zX11_standsWithout_2 : SndL mX11_standsWithout 32 kX11_standsWithout_2 := SndL.c (s_aload_n (k := 0) (by decide +kernel) rfl) (SndL.c (s_getf (k := 9) clok12 (by decide) rfl (by decide) rfl w_1_201 (Or.inl rfl) (by decide +kernel)) (SndL.c (s_fail) (SndL.c (s_fail) (SndL.c (s_iload (by decide +kernel)) (SndL.c (s_fail) (SndL.c (s_aload_n (k := 1) (by decide +kernel) rfl) (SndL.c (s_getf (k := 2) clok1 (by decide) rfl (by decide) rfl w_2_88 (Or.inl rfl) (by decide +kernel)) (SndL.c (s_fail) (SndL.c (s_fail) (SndL.c (s_iload (by decide +kernel)) (SndL.c (s_fail) (SndL.c (s_iald (by decide +kernel)) (SndL.c (s_iast (by decide +kernel)) (SndL.c (s_iinc (by decide +kernel) (by decide)) (SndL.c (s_fail) (SndL.n))))))))))))))))
def kX11_standsWithout_3 : List En := [(1, oFail), (0, oIinc 6 1 52), (1, oFail), (1, oFail), (0, oGoto 6), (1, oFail), (1, oFail), (0, oRload 0 56), (0, oGetf 13 7 2 59), (1, oFail), (1, oFail), (0, oRload 0 60), (0, oGetf 13 2 2 63), (1, oFail), (1, oFail), (0, oIload 3 64)]
set_option maxRecDepth 20000 in
theorem zX11_standsWithout_3 : SndL mX11_standsWithout 48 kX11_standsWithout_3 := SndL.c (s_fail) (SndL.c (s_iinc (by decide +kernel) (by decide)) (SndL.c (s_fail) (SndL.c (s_fail) (SndL.c (s_goto (off := -46) (by decide +kernel) (by decide)) (SndL.c (s_fail) (SndL.c (s_fail) (SndL.c (s_aload_n (k := 0) (by decide +kernel) rfl) (SndL.c (s_getf (k := 7) clok12 (by decide) rfl (by decide) rfl w_1_199 (Or.inl rfl) (by decide +kernel)) (SndL.c (s_fail) (SndL.c (s_fail) (SndL.c (s_aload_n (k := 0) (by decide +kernel) rfl) (SndL.c (s_getf (k := 2) clok12 (by decide) rfl (by decide) rfl w_1_194 (Or.inl rfl) (by decide +kernel)) (SndL.c (s_fail) (SndL.c (s_fail) (SndL.c (s_iload_n (k := 3) (by decide +kernel) rfl) (SndL.n))))))))))))))))
def kX11_standsWithout_4 : List En := [(0, oIload 4 66), (1, oFail), (0, oRload 0 67), (0, oGetf 13 9 2 70), (1, oFail), (1, oFail), (0, oIload 5 72), (1, oFail), (2, oInvV 7 mX5_read 5 75), (1, oFail), (1, oFail), (0, oIfNe 82 78), (1, oFail), (1, oFail), (0, oPush (vI 1) 79), (0, oGoto 83)]
set_option maxRecDepth 20000 in
theorem zX11_standsWithout_4 : SndL mX11_standsWithout 64 kX11_standsWithout_4 := SndL.c (s_iload (by decide +kernel)) (SndL.c (s_fail) (SndL.c (s_aload_n (k := 0) (by decide +kernel) rfl) (SndL.c (s_getf (k := 9) clok12 (by decide) rfl (by decide) rfl w_1_201 (Or.inl rfl) (by decide +kernel)) (SndL.c (s_fail) (SndL.c (s_fail) (SndL.c (s_iload (by decide +kernel)) (SndL.c (s_fail) (SndL.c (s_invV (r := (RX5, TX5, 3)) (ci := 6) okX5_read rfl (by decide) rfl rfl w_3_61 w_3_62 w_3_63 (by decide +kernel)) (SndL.c (s_fail) (SndL.c (s_fail) (SndL.c (s_if_ne (off := 7) (by decide +kernel) (by decide)) (SndL.c (s_fail) (SndL.c (s_fail) (SndL.c (s_iconst (by decide +kernel) (in32_d (by decide))) (SndL.c (s_goto (off := 4) (by decide +kernel) (by decide)) (SndL.n))))))))))))))))
def kX11_standsWithout_5 : List En := [(1, oFail), (1, oFail), (0, oPush (vI 0) 83), (0, oRetZ)]
set_option maxRecDepth 20000 in
theorem zX11_standsWithout_5 : SndL mX11_standsWithout 80 kX11_standsWithout_5 := SndL.c (s_fail) (SndL.c (s_fail) (SndL.c (s_iconst (by decide +kernel) (in32_d (by decide))) (SndL.c (s_ret_z rfl (by decide +kernel)) (SndL.n))))
def kX11_standsWithout : Cd := [kX11_standsWithout_0, kX11_standsWithout_1, kX11_standsWithout_2, kX11_standsWithout_3, kX11_standsWithout_4, kX11_standsWithout_5]
theorem zX11_standsWithout : SndC mX11_standsWithout 0 kX11_standsWithout := SndC.c zX11_standsWithout_0 (by decide) (SndC.c zX11_standsWithout_1 (by decide) (SndC.c zX11_standsWithout_2 (by decide) (SndC.c zX11_standsWithout_3 (by decide) (SndC.c zX11_standsWithout_4 (by decide) (SndC.c zX11_standsWithout_5 (by decide) (SndC.n))))))
theorem aX11_standsWithout_0 : at_ kX11_standsWithout 0 = (0, oPush (vI 0) 1) := rfl
theorem aX11_standsWithout_1 : at_ kX11_standsWithout 1 = (0, oIstore 5 3) := rfl
theorem aX11_standsWithout_3 : at_ kX11_standsWithout 3 = (0, oPush (vI 0) 4) := rfl
theorem aX11_standsWithout_4 : at_ kX11_standsWithout 4 = (0, oIstore 6 6) := rfl
theorem aX11_standsWithout_6 : at_ kX11_standsWithout 6 = (1, oIload 6 8) := rfl
theorem aX11_standsWithout_8 : at_ kX11_standsWithout 8 = (0, oRload 1 9) := rfl
theorem aX11_standsWithout_9 : at_ kX11_standsWithout 9 = (0, oGetf 2 2 2 12) := rfl
theorem aX11_standsWithout_12 : at_ kX11_standsWithout 12 = (0, oAlen 13) := rfl
theorem aX11_standsWithout_13 : at_ kX11_standsWithout 13 = (0, oIcGe 55 16) := rfl
theorem aX11_standsWithout_16 : at_ kX11_standsWithout 16 = (0, oIload 5 18) := rfl
theorem aX11_standsWithout_18 : at_ kX11_standsWithout 18 = (0, oPush (vI 20) 20) := rfl
theorem aX11_standsWithout_20 : at_ kX11_standsWithout 20 = (0, oIcGe 55 23) := rfl
theorem aX11_standsWithout_23 : at_ kX11_standsWithout 23 = (0, oIload 2 24) := rfl
theorem aX11_standsWithout_24 : at_ kX11_standsWithout 24 = (0, oIload 6 26) := rfl
theorem aX11_standsWithout_26 : at_ kX11_standsWithout 26 = (0, oIushr 27) := rfl
theorem aX11_standsWithout_27 : at_ kX11_standsWithout 27 = (0, oPush (vI 1) 28) := rfl
theorem aX11_standsWithout_28 : at_ kX11_standsWithout 28 = (0, oIand 29) := rfl
theorem aX11_standsWithout_29 : at_ kX11_standsWithout 29 = (0, oIfNe 49 32) := rfl
theorem aX11_standsWithout_32 : at_ kX11_standsWithout 32 = (0, oRload 0 33) := rfl
theorem aX11_standsWithout_33 : at_ kX11_standsWithout 33 = (0, oGetf 13 9 2 36) := rfl
theorem aX11_standsWithout_36 : at_ kX11_standsWithout 36 = (0, oIload 5 38) := rfl
theorem aX11_standsWithout_38 : at_ kX11_standsWithout 38 = (0, oRload 1 39) := rfl
theorem aX11_standsWithout_39 : at_ kX11_standsWithout 39 = (0, oGetf 2 2 2 42) := rfl
theorem aX11_standsWithout_42 : at_ kX11_standsWithout 42 = (0, oIload 6 44) := rfl
theorem aX11_standsWithout_44 : at_ kX11_standsWithout 44 = (0, oIald 45) := rfl
theorem aX11_standsWithout_45 : at_ kX11_standsWithout 45 = (0, oIast 46) := rfl
theorem aX11_standsWithout_46 : at_ kX11_standsWithout 46 = (0, oIinc 5 1 49) := rfl
theorem aX11_standsWithout_49 : at_ kX11_standsWithout 49 = (0, oIinc 6 1 52) := rfl
theorem aX11_standsWithout_52 : at_ kX11_standsWithout 52 = (0, oGoto 6) := rfl
theorem aX11_standsWithout_55 : at_ kX11_standsWithout 55 = (0, oRload 0 56) := rfl
theorem aX11_standsWithout_56 : at_ kX11_standsWithout 56 = (0, oGetf 13 7 2 59) := rfl
theorem aX11_standsWithout_59 : at_ kX11_standsWithout 59 = (0, oRload 0 60) := rfl
theorem aX11_standsWithout_60 : at_ kX11_standsWithout 60 = (0, oGetf 13 2 2 63) := rfl
theorem aX11_standsWithout_63 : at_ kX11_standsWithout 63 = (0, oIload 3 64) := rfl
theorem aX11_standsWithout_64 : at_ kX11_standsWithout 64 = (0, oIload 4 66) := rfl
theorem aX11_standsWithout_66 : at_ kX11_standsWithout 66 = (0, oRload 0 67) := rfl
theorem aX11_standsWithout_67 : at_ kX11_standsWithout 67 = (0, oGetf 13 9 2 70) := rfl
theorem aX11_standsWithout_70 : at_ kX11_standsWithout 70 = (0, oIload 5 72) := rfl
theorem aX11_standsWithout_72 : at_ kX11_standsWithout 72 = (2, oInvV 7 mX5_read 5 75) := rfl
theorem aX11_standsWithout_75 : at_ kX11_standsWithout 75 = (0, oIfNe 82 78) := rfl
theorem aX11_standsWithout_78 : at_ kX11_standsWithout 78 = (0, oPush (vI 1) 79) := rfl
theorem aX11_standsWithout_79 : at_ kX11_standsWithout 79 = (0, oGoto 83) := rfl
theorem aX11_standsWithout_82 : at_ kX11_standsWithout 82 = (0, oPush (vI 0) 83) := rfl
theorem aX11_standsWithout_83 : at_ kX11_standsWithout 83 = (0, oRetZ) := rfl
