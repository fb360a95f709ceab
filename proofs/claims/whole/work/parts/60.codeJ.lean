theorem w_2_151 : (Jvm.Cond.static ({ cls := "java/util/Arrays", name := "copyOf", desc := "([Ljava/lang/Object;I)[Ljava/lang/Object;" } : Jvm.MethodName)) ∈ lwG := lwG_2 (List.mem_of_getElem? (i := 151) (by decide +kernel)) rfl
def kJx4a65c_init_da8c8_0 : List En := [(0, oRload 0 1), (2, oInvI mJxc12de_init_da8c8 0 4), (1, oFail), (1, oFail), (0, oRload 0 5), (0, oGetE 8), (1, oFail), (1, oFail), (0, oPutf 1 1 2 11), (1, oFail), (1, oFail), (0, oRetV)]
set_option maxRecDepth 20000 in
theorem zJx4a65c_init_da8c8_0 : SndL mJx4a65c_init_da8c8 0 kJx4a65c_init_da8c8_0 := SndL.c (s_aload_n (k := 0) (by decide +kernel) rfl) (SndL.c (s_invI okJxc12de_init_da8c8 rfl rfl w_1_42 w_1_43 (by decide +kernel)) (SndL.c (s_fail) (SndL.c (s_fail) (SndL.c (s_aload_n (k := 0) (by decide +kernel) rfl) (SndL.c (s_getE w_1_49 (by decide +kernel)) (SndL.c (s_fail) (SndL.c (s_fail) (SndL.c (s_putf (k := 1) clok0 (by decide) rfl (by decide) rfl w_1_51 (Or.inl rfl) (Or.inl rfl) (by decide +kernel)) (SndL.c (s_fail) (SndL.c (s_fail) (SndL.c (s_ret_v rfl (by decide +kernel)) (SndL.n))))))))))))
def kJx4a65c_init_da8c8 : Cd := [kJx4a65c_init_da8c8_0]
theorem zJx4a65c_init_da8c8 : SndC mJx4a65c_init_da8c8 0 kJx4a65c_init_da8c8 := SndC.c zJx4a65c_init_da8c8_0 (by decide) (SndC.n)
theorem aJx4a65c_init_da8c8_0 : at_ kJx4a65c_init_da8c8 0 = (0, oRload 0 1) := rfl
theorem aJx4a65c_init_da8c8_1 : at_ kJx4a65c_init_da8c8 1 = (2, oInvI mJxc12de_init_da8c8 0 4) := rfl
theorem aJx4a65c_init_da8c8_4 : at_ kJx4a65c_init_da8c8 4 = (0, oRload 0 5) := rfl
theorem aJx4a65c_init_da8c8_5 : at_ kJx4a65c_init_da8c8 5 = (0, oGetE 8) := rfl
theorem aJx4a65c_init_da8c8_8 : at_ kJx4a65c_init_da8c8 8 = (0, oPutf 1 1 2 11) := rfl
theorem aJx4a65c_init_da8c8_11 : at_ kJx4a65c_init_da8c8 11 = (0, oRetV) := rfl
def kJxc12de_init_da8c8_0 : List En := [(0, oRload 0 1), (2, oInvI mJxa1e45_init_da8c8 0 4), (1, oFail), (1, oFail), (0, oRload 0 5), (0, oPush (vI 0) 6), (0, oPutf 1 0 0 9), (1, oFail), (1, oFail), (0, oRetV)]
set_option maxRecDepth 20000 in
theorem zJxc12de_init_da8c8_0 : SndL mJxc12de_init_da8c8 0 kJxc12de_init_da8c8_0 := SndL.c (s_aload_n (k := 0) (by decide +kernel) rfl) (SndL.c (s_invI okJxa1e45_init_da8c8 rfl rfl w_1_45 w_1_46 (by decide +kernel)) (SndL.c (s_fail) (SndL.c (s_fail) (SndL.c (s_aload_n (k := 0) (by decide +kernel) rfl) (SndL.c (s_iconst (by decide +kernel) (in32_d (by decide))) (SndL.c (s_putf (k := 0) clok0 (by decide) rfl (by decide) rfl w_1_53 (Or.inl rfl) (Or.inl rfl) (by decide +kernel)) (SndL.c (s_fail) (SndL.c (s_fail) (SndL.c (s_ret_v rfl (by decide +kernel)) (SndL.n))))))))))
def kJxc12de_init_da8c8 : Cd := [kJxc12de_init_da8c8_0]
theorem zJxc12de_init_da8c8 : SndC mJxc12de_init_da8c8 0 kJxc12de_init_da8c8 := SndC.c zJxc12de_init_da8c8_0 (by decide) (SndC.n)
theorem aJxc12de_init_da8c8_0 : at_ kJxc12de_init_da8c8 0 = (0, oRload 0 1) := rfl
theorem aJxc12de_init_da8c8_1 : at_ kJxc12de_init_da8c8 1 = (2, oInvI mJxa1e45_init_da8c8 0 4) := rfl
theorem aJxc12de_init_da8c8_4 : at_ kJxc12de_init_da8c8 4 = (0, oRload 0 5) := rfl
theorem aJxc12de_init_da8c8_5 : at_ kJxc12de_init_da8c8 5 = (0, oPush (vI 0) 6) := rfl
theorem aJxc12de_init_da8c8_6 : at_ kJxc12de_init_da8c8 6 = (0, oPutf 1 0 0 9) := rfl
theorem aJxc12de_init_da8c8_9 : at_ kJxc12de_init_da8c8 9 = (0, oRetV) := rfl
def kJxa1e45_init_da8c8_0 : List En := [(0, oRload 0 1), (0, oObji 4), (1, oFail), (1, oFail), (0, oRetV)]
set_option maxRecDepth 20000 in
theorem zJxa1e45_init_da8c8_0 : SndL mJxa1e45_init_da8c8 0 kJxa1e45_init_da8c8_0 := SndL.c (s_aload_n (k := 0) (by decide +kernel) rfl) (SndL.c (s_obji w_1_48 w_1_33 w_1_34 (by decide +kernel)) (SndL.c (s_fail) (SndL.c (s_fail) (SndL.c (s_ret_v rfl (by decide +kernel)) (SndL.n)))))
def kJxa1e45_init_da8c8 : Cd := [kJxa1e45_init_da8c8_0]
theorem zJxa1e45_init_da8c8 : SndC mJxa1e45_init_da8c8 0 kJxa1e45_init_da8c8 := SndC.c zJxa1e45_init_da8c8_0 (by decide) (SndC.n)
theorem aJxa1e45_init_da8c8_0 : at_ kJxa1e45_init_da8c8 0 = (0, oRload 0 1) := rfl
theorem aJxa1e45_init_da8c8_1 : at_ kJxa1e45_init_da8c8 1 = (0, oObji 4) := rfl
theorem aJxa1e45_init_da8c8_4 : at_ kJxa1e45_init_da8c8 4 = (0, oRetV) := rfl
def kJx4a65c_add_9ea2d_0 : List En := [(0, oRload 0 1), (0, oDup 2), (0, oGetf 1 0 0 5), (1, oFail), (1, oFail), (0, oPush (vI 1) 6), (0, oIadd 7), (0, oPutf 1 0 0 10), (1, oFail), (1, oFail), (0, oRload 0 11), (0, oRload 1 12), (0, oRload 0 13), (0, oGetf 1 1 2 16), (1, oFail), (1, oFail)]
set_option maxRecDepth 20000 in
theorem zJx4a65c_add_9ea2d_0 : SndL mJx4a65c_add_9ea2d 0 kJx4a65c_add_9ea2d_0 := SndL.c (s_aload_n (k := 0) (by decide +kernel) rfl) (SndL.c (s_dup (by decide +kernel)) (SndL.c (s_getf (k := 0) clok0 (by decide) rfl (by decide) rfl w_1_54 (Or.inr w_1_55) (by decide +kernel)) (SndL.c (s_fail) (SndL.c (s_fail) (SndL.c (s_iconst (by decide +kernel) (in32_d (by decide))) (SndL.c (s_iadd (by decide +kernel)) (SndL.c (s_putf (k := 0) clok0 (by decide) rfl (by decide) rfl w_1_54 (Or.inr w_1_55) (Or.inl rfl) (by decide +kernel)) (SndL.c (s_fail) (SndL.c (s_fail) (SndL.c (s_aload_n (k := 0) (by decide +kernel) rfl) (SndL.c (s_aload_n (k := 1) (by decide +kernel) rfl) (SndL.c (s_aload_n (k := 0) (by decide +kernel) rfl) (SndL.c (s_getf (k := 1) clok0 (by decide) rfl (by decide) rfl w_1_51 (Or.inl rfl) (by decide +kernel)) (SndL.c (s_fail) (SndL.c (s_fail) (SndL.n))))))))))))))))
def kJx4a65c_add_9ea2d_1 : List En := [(0, oRload 0 17), (0, oGetf 1 2 0 20), (1, oFail), (1, oFail), (2, oInvV 1 mJx4a65c_add_72be8 3 23), (1, oFail), (1, oFail), (0, oPush (vI 1) 24), (0, oRetZ)]
set_option maxRecDepth 20000 in
theorem zJx4a65c_add_9ea2d_1 : SndL mJx4a65c_add_9ea2d 16 kJx4a65c_add_9ea2d_1 := SndL.c (s_aload_n (k := 0) (by decide +kernel) rfl) (SndL.c (s_getf (k := 2) clok0 (by decide) rfl (by decide) rfl w_1_52 (Or.inl rfl) (by decide +kernel)) (SndL.c (s_fail) (SndL.c (s_fail) (SndL.c (s_invV (r := (RJx4a65c, TJx4a65c, 3)) (ci := 0) okJx4a65c_add_72be8 rfl (by decide) rfl rfl w_2_128 w_2_130 v_2 (by decide +kernel)) (SndL.c (s_fail) (SndL.c (s_fail) (SndL.c (s_iconst (by decide +kernel) (in32_d (by decide))) (SndL.c (s_ret_z rfl (by decide +kernel)) (SndL.n)))))))))
def kJx4a65c_add_9ea2d : Cd := [kJx4a65c_add_9ea2d_0, kJx4a65c_add_9ea2d_1]
theorem zJx4a65c_add_9ea2d : SndC mJx4a65c_add_9ea2d 0 kJx4a65c_add_9ea2d := SndC.c zJx4a65c_add_9ea2d_0 (by decide) (SndC.c zJx4a65c_add_9ea2d_1 (by decide) (SndC.n))
theorem aJx4a65c_add_9ea2d_0 : at_ kJx4a65c_add_9ea2d 0 = (0, oRload 0 1) := rfl
theorem aJx4a65c_add_9ea2d_1 : at_ kJx4a65c_add_9ea2d 1 = (0, oDup 2) := rfl
theorem aJx4a65c_add_9ea2d_2 : at_ kJx4a65c_add_9ea2d 2 = (0, oGetf 1 0 0 5) := rfl
theorem aJx4a65c_add_9ea2d_5 : at_ kJx4a65c_add_9ea2d 5 = (0, oPush (vI 1) 6) := rfl
theorem aJx4a65c_add_9ea2d_6 : at_ kJx4a65c_add_9ea2d 6 = (0, oIadd 7) := rfl
theorem aJx4a65c_add_9ea2d_7 : at_ kJx4a65c_add_9ea2d 7 = (0, oPutf 1 0 0 10) := rfl
theorem aJx4a65c_add_9ea2d_10 : at_ kJx4a65c_add_9ea2d 10 = (0, oRload 0 11) := rfl
theorem aJx4a65c_add_9ea2d_11 : at_ kJx4a65c_add_9ea2d 11 = (0, oRload 1 12) := rfl
theorem aJx4a65c_add_9ea2d_12 : at_ kJx4a65c_add_9ea2d 12 = (0, oRload 0 13) := rfl
theorem aJx4a65c_add_9ea2d_13 : at_ kJx4a65c_add_9ea2d 13 = (0, oGetf 1 1 2 16) := rfl
theorem aJx4a65c_add_9ea2d_16 : at_ kJx4a65c_add_9ea2d 16 = (0, oRload 0 17) := rfl
theorem aJx4a65c_add_9ea2d_17 : at_ kJx4a65c_add_9ea2d 17 = (0, oGetf 1 2 0 20) := rfl
theorem aJx4a65c_add_9ea2d_20 : at_ kJx4a65c_add_9ea2d 20 = (2, oInvV 1 mJx4a65c_add_72be8 3 23) := rfl
theorem aJx4a65c_add_9ea2d_23 : at_ kJx4a65c_add_9ea2d 23 = (0, oPush (vI 1) 24) := rfl
theorem aJx4a65c_add_9ea2d_24 : at_ kJx4a65c_add_9ea2d 24 = (0, oRetZ) := rfl
def kJx4a65c_add_72be8_0 : List En := [(0, oIload 3 1), (0, oRload 2 2), (0, oAlenE 3), (0, oIcNe 11 6), (1, oFail), (1, oFail), (0, oRload 0 7), (2, oInvV 1 mJx4a65c_grow_d5877 0 10), (1, oFail), (1, oFail), (0, oRstore 2 11), (0, oRload 2 12), (0, oIload 3 13), (0, oRload 1 14), (0, oAastO 15), (0, oRload 0 16)]
set_option maxRecDepth 20000 in
theorem zJx4a65c_add_72be8_0 : SndL mJx4a65c_add_72be8 0 kJx4a65c_add_72be8_0 := SndL.c (s_iload_n (k := 3) (by decide +kernel) rfl) (SndL.c (s_aload_n (k := 2) (by decide +kernel) rfl) (SndL.c (s_alenE (by decide +kernel)) (SndL.c (s_ic_ne (off := 8) (by decide +kernel) (by decide)) (SndL.c (s_fail) (SndL.c (s_fail) (SndL.c (s_aload_n (k := 0) (by decide +kernel) rfl) (SndL.c (s_invV (r := (RJx4a65c, TJx4a65c, 3)) (ci := 0) okJx4a65c_grow_d5877 rfl (by decide) rfl rfl w_2_132 w_2_134 v_3 (by decide +kernel)) (SndL.c (s_fail) (SndL.c (s_fail) (SndL.c (s_astore_n (k := 2) (by decide +kernel) rfl (by decide)) (SndL.c (s_aload_n (k := 2) (by decide +kernel) rfl) (SndL.c (s_iload_n (k := 3) (by decide +kernel) rfl) (SndL.c (s_aload_n (k := 1) (by decide +kernel) rfl) (SndL.c (s_aastO (by decide +kernel)) (SndL.c (s_aload_n (k := 0) (by decide +kernel) rfl) (SndL.n))))))))))))))))
def kJx4a65c_add_72be8_1 : List En := [(0, oIload 3 17), (0, oPush (vI 1) 18), (0, oIadd 19), (0, oPutf 1 2 0 22), (1, oFail), (1, oFail), (0, oRetV)]
set_option maxRecDepth 20000 in
theorem zJx4a65c_add_72be8_1 : SndL mJx4a65c_add_72be8 16 kJx4a65c_add_72be8_1 := SndL.c (s_iload_n (k := 3) (by decide +kernel) rfl) (SndL.c (s_iconst (by decide +kernel) (in32_d (by decide))) (SndL.c (s_iadd (by decide +kernel)) (SndL.c (s_putf (k := 2) clok0 (by decide) rfl (by decide) rfl w_1_52 (Or.inl rfl) (Or.inl rfl) (by decide +kernel)) (SndL.c (s_fail) (SndL.c (s_fail) (SndL.c (s_ret_v rfl (by decide +kernel)) (SndL.n)))))))
def kJx4a65c_add_72be8 : Cd := [kJx4a65c_add_72be8_0, kJx4a65c_add_72be8_1]
theorem zJx4a65c_add_72be8 : SndC mJx4a65c_add_72be8 0 kJx4a65c_add_72be8 := SndC.c zJx4a65c_add_72be8_0 (by decide) (SndC.c zJx4a65c_add_72be8_1 (by decide) (SndC.n))
theorem aJx4a65c_add_72be8_0 : at_ kJx4a65c_add_72be8 0 = (0, oIload 3 1) := rfl
theorem aJx4a65c_add_72be8_1 : at_ kJx4a65c_add_72be8 1 = (0, oRload 2 2) := rfl
theorem aJx4a65c_add_72be8_2 : at_ kJx4a65c_add_72be8 2 = (0, oAlenE 3) := rfl
theorem aJx4a65c_add_72be8_3 : at_ kJx4a65c_add_72be8 3 = (0, oIcNe 11 6) := rfl
theorem aJx4a65c_add_72be8_6 : at_ kJx4a65c_add_72be8 6 = (0, oRload 0 7) := rfl
theorem aJx4a65c_add_72be8_7 : at_ kJx4a65c_add_72be8 7 = (2, oInvV 1 mJx4a65c_grow_d5877 0 10) := rfl
theorem aJx4a65c_add_72be8_10 : at_ kJx4a65c_add_72be8 10 = (0, oRstore 2 11) := rfl
theorem aJx4a65c_add_72be8_11 : at_ kJx4a65c_add_72be8 11 = (0, oRload 2 12) := rfl
theorem aJx4a65c_add_72be8_12 : at_ kJx4a65c_add_72be8 12 = (0, oIload 3 13) := rfl
theorem aJx4a65c_add_72be8_13 : at_ kJx4a65c_add_72be8 13 = (0, oRload 1 14) := rfl
theorem aJx4a65c_add_72be8_14 : at_ kJx4a65c_add_72be8 14 = (0, oAastO 15) := rfl
theorem aJx4a65c_add_72be8_15 : at_ kJx4a65c_add_72be8 15 = (0, oRload 0 16) := rfl
theorem aJx4a65c_add_72be8_16 : at_ kJx4a65c_add_72be8 16 = (0, oIload 3 17) := rfl
theorem aJx4a65c_add_72be8_17 : at_ kJx4a65c_add_72be8 17 = (0, oPush (vI 1) 18) := rfl
theorem aJx4a65c_add_72be8_18 : at_ kJx4a65c_add_72be8 18 = (0, oIadd 19) := rfl
theorem aJx4a65c_add_72be8_19 : at_ kJx4a65c_add_72be8 19 = (0, oPutf 1 2 0 22) := rfl
theorem aJx4a65c_add_72be8_22 : at_ kJx4a65c_add_72be8 22 = (0, oRetV) := rfl
def kJx4a65c_get_915e3_0 : List En := [(0, oIload 1 1), (0, oRload 0 2), (0, oGetf 1 2 0 5), (1, oFail), (1, oFail), (2, oInvS mJ15_checkIndex_7cf53 2 8), (1, oFail), (1, oFail), (0, oPop 9), (0, oRload 0 10), (0, oIload 1 11), (2, oInvV 1 mJx4a65c_elementData_915e3 1 14), (1, oFail), (1, oFail), (0, oRetA)]
set_option maxRecDepth 20000 in
theorem zJx4a65c_get_915e3_0 : SndL mJx4a65c_get_915e3 0 kJx4a65c_get_915e3_0 := SndL.c (s_iload_n (k := 1) (by decide +kernel) rfl) (SndL.c (s_aload_n (k := 0) (by decide +kernel) rfl) (SndL.c (s_getf (k := 2) clok0 (by decide) rfl (by decide) rfl w_1_52 (Or.inl rfl) (by decide +kernel)) (SndL.c (s_fail) (SndL.c (s_fail) (SndL.c (s_invS okJ15_checkIndex_7cf53 w_2_195 w_2_196 (by decide +kernel)) (SndL.c (s_fail) (SndL.c (s_fail) (SndL.c (s_pop (by decide +kernel)) (SndL.c (s_aload_n (k := 0) (by decide +kernel) rfl) (SndL.c (s_iload_n (k := 1) (by decide +kernel) rfl) (SndL.c (s_invV (r := (RJx4a65c, TJx4a65c, 3)) (ci := 0) okJx4a65c_elementData_915e3 rfl (by decide) rfl rfl w_2_201 w_2_202 w_2_203 (by decide +kernel)) (SndL.c (s_fail) (SndL.c (s_fail) (SndL.c (s_ret_a rfl (Or.inl ⟨_, rfl⟩) (by decide +kernel)) (SndL.n)))))))))))))))
def kJx4a65c_get_915e3 : Cd := [kJx4a65c_get_915e3_0]
theorem zJx4a65c_get_915e3 : SndC mJx4a65c_get_915e3 0 kJx4a65c_get_915e3 := SndC.c zJx4a65c_get_915e3_0 (by decide) (SndC.n)
theorem aJx4a65c_get_915e3_0 : at_ kJx4a65c_get_915e3 0 = (0, oIload 1 1) := rfl
theorem aJx4a65c_get_915e3_1 : at_ kJx4a65c_get_915e3 1 = (0, oRload 0 2) := rfl
theorem aJx4a65c_get_915e3_2 : at_ kJx4a65c_get_915e3 2 = (0, oGetf 1 2 0 5) := rfl
theorem aJx4a65c_get_915e3_5 : at_ kJx4a65c_get_915e3 5 = (2, oInvS mJ15_checkIndex_7cf53 2 8) := rfl
theorem aJx4a65c_get_915e3_8 : at_ kJx4a65c_get_915e3 8 = (0, oPop 9) := rfl
theorem aJx4a65c_get_915e3_9 : at_ kJx4a65c_get_915e3 9 = (0, oRload 0 10) := rfl
theorem aJx4a65c_get_915e3_10 : at_ kJx4a65c_get_915e3 10 = (0, oIload 1 11) := rfl
theorem aJx4a65c_get_915e3_11 : at_ kJx4a65c_get_915e3 11 = (2, oInvV 1 mJx4a65c_elementData_915e3 1 14) := rfl
theorem aJx4a65c_get_915e3_14 : at_ kJx4a65c_get_915e3 14 = (0, oRetA) := rfl
def kJx4a65c_size_8abf5_0 : List En := [(0, oRload 0 1), (0, oGetf 1 2 0 4), (1, oFail), (1, oFail), (0, oRetI)]
set_option maxRecDepth 20000 in
theorem zJx4a65c_size_8abf5_0 : SndL mJx4a65c_size_8abf5 0 kJx4a65c_size_8abf5_0 := SndL.c (s_aload_n (k := 0) (by decide +kernel) rfl) (SndL.c (s_getf (k := 2) clok0 (by decide) rfl (by decide) rfl w_1_52 (Or.inl rfl) (by decide +kernel)) (SndL.c (s_fail) (SndL.c (s_fail) (SndL.c (s_ret_i rfl (by decide +kernel)) (SndL.n)))))
def kJx4a65c_size_8abf5 : Cd := [kJx4a65c_size_8abf5_0]
theorem zJx4a65c_size_8abf5 : SndC mJx4a65c_size_8abf5 0 kJx4a65c_size_8abf5 := SndC.c zJx4a65c_size_8abf5_0 (by decide) (SndC.n)
theorem aJx4a65c_size_8abf5_0 : at_ kJx4a65c_size_8abf5 0 = (0, oRload 0 1) := rfl
theorem aJx4a65c_size_8abf5_1 : at_ kJx4a65c_size_8abf5 1 = (0, oGetf 1 2 0 4) := rfl
theorem aJx4a65c_size_8abf5_4 : at_ kJx4a65c_size_8abf5 4 = (0, oRetI) := rfl
def kJx4a65c_elementData_915e3_0 : List En := [(0, oRload 0 1), (0, oGetf 1 1 2 4), (1, oFail), (1, oFail), (0, oIload 1 5), (0, oAald 110 6), (0, oRetA)]
set_option maxRecDepth 20000 in
theorem zJx4a65c_elementData_915e3_0 : SndL mJx4a65c_elementData_915e3 0 kJx4a65c_elementData_915e3_0 := SndL.c (s_aload_n (k := 0) (by decide +kernel) rfl) (SndL.c (s_getf (k := 1) clok0 (by decide) rfl (by decide) rfl w_1_51 (Or.inl rfl) (by decide +kernel)) (SndL.c (s_fail) (SndL.c (s_fail) (SndL.c (s_iload_n (k := 1) (by decide +kernel) rfl) (SndL.c (s_aald (kd := 110) (akd_d (by decide)) rfl rfl (by decide +kernel)) (SndL.c (s_ret_a rfl (Or.inl ⟨_, rfl⟩) (by decide +kernel)) (SndL.n)))))))
def kJx4a65c_elementData_915e3 : Cd := [kJx4a65c_elementData_915e3_0]
theorem zJx4a65c_elementData_915e3 : SndC mJx4a65c_elementData_915e3 0 kJx4a65c_elementData_915e3 := SndC.c zJx4a65c_elementData_915e3_0 (by decide) (SndC.n)
theorem aJx4a65c_elementData_915e3_0 : at_ kJx4a65c_elementData_915e3 0 = (0, oRload 0 1) := rfl
theorem aJx4a65c_elementData_915e3_1 : at_ kJx4a65c_elementData_915e3 1 = (0, oGetf 1 1 2 4) := rfl
theorem aJx4a65c_elementData_915e3_4 : at_ kJx4a65c_elementData_915e3 4 = (0, oIload 1 5) := rfl
theorem aJx4a65c_elementData_915e3_5 : at_ kJx4a65c_elementData_915e3 5 = (0, oAald 110 6) := rfl
theorem aJx4a65c_elementData_915e3_6 : at_ kJx4a65c_elementData_915e3 6 = (0, oRetA) := rfl
def kJx4a65c_grow_d5877_0 : List En := [(0, oRload 0 1), (0, oRload 0 2), (0, oGetf 1 2 0 5), (1, oFail), (1, oFail), (0, oPush (vI 1) 6), (0, oIadd 7), (2, oInvV 1 mJx4a65c_grow_92f84 1 10), (1, oFail), (1, oFail), (0, oRetA)]
set_option maxRecDepth 20000 in
theorem zJx4a65c_grow_d5877_0 : SndL mJx4a65c_grow_d5877 0 kJx4a65c_grow_d5877_0 := SndL.c (s_aload_n (k := 0) (by decide +kernel) rfl) (SndL.c (s_aload_n (k := 0) (by decide +kernel) rfl) (SndL.c (s_getf (k := 2) clok0 (by decide) rfl (by decide) rfl w_1_52 (Or.inl rfl) (by decide +kernel)) (SndL.c (s_fail) (SndL.c (s_fail) (SndL.c (s_iconst (by decide +kernel) (in32_d (by decide))) (SndL.c (s_iadd (by decide +kernel)) (SndL.c (s_invV (r := (RJx4a65c, TJx4a65c, 3)) (ci := 0) okJx4a65c_grow_92f84 rfl (by decide) rfl rfl w_2_136 w_2_138 v_4 (by decide +kernel)) (SndL.c (s_fail) (SndL.c (s_fail) (SndL.c (s_ret_a rfl (Or.inr ⟨_, rfl⟩) (by decide +kernel)) (SndL.n)))))))))))
def kJx4a65c_grow_d5877 : Cd := [kJx4a65c_grow_d5877_0]
theorem zJx4a65c_grow_d5877 : SndC mJx4a65c_grow_d5877 0 kJx4a65c_grow_d5877 := SndC.c zJx4a65c_grow_d5877_0 (by decide) (SndC.n)
theorem aJx4a65c_grow_d5877_0 : at_ kJx4a65c_grow_d5877 0 = (0, oRload 0 1) := rfl
theorem aJx4a65c_grow_d5877_1 : at_ kJx4a65c_grow_d5877 1 = (0, oRload 0 2) := rfl
theorem aJx4a65c_grow_d5877_2 : at_ kJx4a65c_grow_d5877 2 = (0, oGetf 1 2 0 5) := rfl
theorem aJx4a65c_grow_d5877_5 : at_ kJx4a65c_grow_d5877 5 = (0, oPush (vI 1) 6) := rfl
theorem aJx4a65c_grow_d5877_6 : at_ kJx4a65c_grow_d5877 6 = (0, oIadd 7) := rfl
theorem aJx4a65c_grow_d5877_7 : at_ kJx4a65c_grow_d5877 7 = (2, oInvV 1 mJx4a65c_grow_92f84 1 10) := rfl
theorem aJx4a65c_grow_d5877_10 : at_ kJx4a65c_grow_d5877 10 = (0, oRetA) := rfl
def kJx4a65c_grow_92f84_0 : List En := [(0, oRload 0 1), (0, oGetf 1 1 2 4), (1, oFail), (1, oFail), (0, oAlenE 5), (0, oIstore 2 6), (0, oIload 2 7), (0, oIfGt 20 10), (1, oFail), (1, oFail), (0, oRload 0 11), (0, oGetf 1 1 2 14), (1, oFail), (1, oFail), (0, oGetE 17), (1, oFail)]
set_option maxRecDepth 20000 in
theorem zJx4a65c_grow_92f84_0 : SndL mJx4a65c_grow_92f84 0 kJx4a65c_grow_92f84_0 := SndL.c (s_aload_n (k := 0) (by decide +kernel) rfl) (SndL.c (s_getf (k := 1) clok0 (by decide) rfl (by decide) rfl w_1_51 (Or.inl rfl) (by decide +kernel)) (SndL.c (s_fail) (SndL.c (s_fail) (SndL.c (s_alenE (by decide +kernel)) (SndL.c (s_istore_n (k := 2) (by decide +kernel) rfl (by decide)) (SndL.c (s_iload_n (k := 2) (by decide +kernel) rfl) (SndL.c (s_if_gt (off := 13) (by decide +kernel) (by decide)) (SndL.c (s_fail) (SndL.c (s_fail) (SndL.c (s_aload_n (k := 0) (by decide +kernel) rfl) (SndL.c (s_getf (k := 1) clok0 (by decide) rfl (by decide) rfl w_1_51 (Or.inl rfl) (by decide +kernel)) (SndL.c (s_fail) (SndL.c (s_fail) (SndL.c (s_getE w_1_49 (by decide +kernel)) (SndL.c (s_fail) (SndL.n))))))))))))))))
def kJx4a65c_grow_92f84_1 : List En := [(1, oFail), (0, oAcEq 45 20), (1, oFail), (1, oFail), (0, oIload 2 21), (0, oIload 1 22), (0, oIload 2 23), (0, oIsub 24), (0, oIload 2 25), (0, oPush (vI 1) 26), (0, oIshr 27), (2, oInvS mJ8_newLength_cabcc 3 30), (1, oFail), (1, oFail), (0, oIstore 3 31), (0, oRload 0 32)]
set_option maxRecDepth 20000 in
theorem zJx4a65c_grow_92f84_1 : SndL mJx4a65c_grow_92f84 16 kJx4a65c_grow_92f84_1 := SndL.c (s_fail) (SndL.c (s_ac_eq (off := 28) (by decide +kernel) (by decide)) (SndL.c (s_fail) (SndL.c (s_fail) (SndL.c (s_iload_n (k := 2) (by decide +kernel) rfl) (SndL.c (s_iload_n (k := 1) (by decide +kernel) rfl) (SndL.c (s_iload_n (k := 2) (by decide +kernel) rfl) (SndL.c (s_isub (by decide +kernel)) (SndL.c (s_iload_n (k := 2) (by decide +kernel) rfl) (SndL.c (s_iconst (by decide +kernel) (in32_d (by decide))) (SndL.c (s_ishr (by decide +kernel)) (SndL.c (s_invS okJ8_newLength_cabcc w_2_140 w_2_141 (by decide +kernel)) (SndL.c (s_fail) (SndL.c (s_fail) (SndL.c (s_istore_n (k := 3) (by decide +kernel) rfl (by decide)) (SndL.c (s_aload_n (k := 0) (by decide +kernel) rfl) (SndL.n))))))))))))))))
def kJx4a65c_grow_92f84_2 : List En := [(0, oRload 0 33), (0, oGetf 1 1 2 36), (1, oFail), (1, oFail), (0, oIload 3 37), (2, oInvS mJ7_copyOf2 2 40), (1, oFail), (1, oFail), (0, oDupx1 41), (0, oPutf 1 1 2 44), (1, oFail), (1, oFail), (0, oRetA), (0, oRload 0 46), (0, oPush (vI 10) 48), (1, oFail)]
set_option maxRecDepth 20000 in
theorem zJx4a65c_grow_92f84_2 : SndL mJx4a65c_grow_92f84 32 kJx4a65c_grow_92f84_2 := SndL.c (s_aload_n (k := 0) (by decide +kernel) rfl) (SndL.c (s_getf (k := 1) clok0 (by decide) rfl (by decide) rfl w_1_51 (Or.inl rfl) (by decide +kernel)) (SndL.c (s_fail) (SndL.c (s_fail) (SndL.c (s_iload_n (k := 3) (by decide +kernel) rfl) (SndL.c (s_invS okJ7_copyOf2 w_2_150 w_2_151 (by decide +kernel)) (SndL.c (s_fail) (SndL.c (s_fail) (SndL.c (s_dupx1 (by decide +kernel)) (SndL.c (s_putf (k := 1) clok0 (by decide) rfl (by decide) rfl w_1_51 (Or.inl rfl) (Or.inl rfl) (by decide +kernel)) (SndL.c (s_fail) (SndL.c (s_fail) (SndL.c (s_ret_a rfl (Or.inr ⟨_, rfl⟩) (by decide +kernel)) (SndL.c (s_aload_n (k := 0) (by decide +kernel) rfl) (SndL.c (s_bipush (by decide +kernel) (in32_d (by decide)) (by decide +kernel)) (SndL.c (s_fail) (SndL.n))))))))))))))))
def kJx4a65c_grow_92f84_3 : List En := [(0, oIload 1 49), (0, oMmax 52), (1, oFail), (1, oFail), (0, oNewa 110 55), (1, oFail), (1, oFail), (0, oDupx1 56), (0, oPutf 1 1 2 59), (1, oFail), (1, oFail), (0, oRetA)]
set_option maxRecDepth 20000 in
theorem zJx4a65c_grow_92f84_3 : SndL mJx4a65c_grow_92f84 48 kJx4a65c_grow_92f84_3 := SndL.c (s_iload_n (k := 1) (by decide +kernel) rfl) (SndL.c (s_mmax w_2_181 w_2_144 w_1_15 w_2_145 (by decide +kernel)) (SndL.c (s_fail) (SndL.c (s_fail) (SndL.c (s_anewa (kd := 110) (akd_d (by decide)) rfl w_2_182 u_2_175 (by decide +kernel)) (SndL.c (s_fail) (SndL.c (s_fail) (SndL.c (s_dupx1 (by decide +kernel)) (SndL.c (s_putf (k := 1) clok0 (by decide) rfl (by decide) rfl w_1_51 (Or.inl rfl) (Or.inl rfl) (by decide +kernel)) (SndL.c (s_fail) (SndL.c (s_fail) (SndL.c (s_ret_a rfl (Or.inr ⟨_, rfl⟩) (by decide +kernel)) (SndL.n))))))))))))
def kJx4a65c_grow_92f84 : Cd := [kJx4a65c_grow_92f84_0, kJx4a65c_grow_92f84_1, kJx4a65c_grow_92f84_2, kJx4a65c_grow_92f84_3]
theorem zJx4a65c_grow_92f84 : SndC mJx4a65c_grow_92f84 0 kJx4a65c_grow_92f84 := SndC.c zJx4a65c_grow_92f84_0 (by decide) (SndC.c zJx4a65c_grow_92f84_1 (by decide) (SndC.c zJx4a65c_grow_92f84_2 (by decide) (SndC.c zJx4a65c_grow_92f84_3 (by decide) (SndC.n))))
theorem aJx4a65c_grow_92f84_0 : at_ kJx4a65c_grow_92f84 0 = (0, oRload 0 1) := rfl
theorem aJx4a65c_grow_92f84_1 : at_ kJx4a65c_grow_92f84 1 = (0, oGetf 1 1 2 4) := rfl
theorem aJx4a65c_grow_92f84_4 : at_ kJx4a65c_grow_92f84 4 = (0, oAlenE 5) := rfl
theorem aJx4a65c_grow_92f84_5 : at_ kJx4a65c_grow_92f84 5 = (0, oIstore 2 6) := rfl
theorem aJx4a65c_grow_92f84_6 : at_ kJx4a65c_grow_92f84 6 = (0, oIload 2 7) := rfl
theorem aJx4a65c_grow_92f84_7 : at_ kJx4a65c_grow_92f84 7 = (0, oIfGt 20 10) := rfl
theorem aJx4a65c_grow_92f84_10 : at_ kJx4a65c_grow_92f84 10 = (0, oRload 0 11) := rfl
theorem aJx4a65c_grow_92f84_11 : at_ kJx4a65c_grow_92f84 11 = (0, oGetf 1 1 2 14) := rfl
theorem aJx4a65c_grow_92f84_14 : at_ kJx4a65c_grow_92f84 14 = (0, oGetE 17) := rfl
theorem aJx4a65c_grow_92f84_17 : at_ kJx4a65c_grow_92f84 17 = (0, oAcEq 45 20) := rfl
theorem aJx4a65c_grow_92f84_20 : at_ kJx4a65c_grow_92f84 20 = (0, oIload 2 21) := rfl
theorem aJx4a65c_grow_92f84_21 : at_ kJx4a65c_grow_92f84 21 = (0, oIload 1 22) := rfl
theorem aJx4a65c_grow_92f84_22 : at_ kJx4a65c_grow_92f84 22 = (0, oIload 2 23) := rfl
theorem aJx4a65c_grow_92f84_23 : at_ kJx4a65c_grow_92f84 23 = (0, oIsub 24) := rfl
theorem aJx4a65c_grow_92f84_24 : at_ kJx4a65c_grow_92f84 24 = (0, oIload 2 25) := rfl
theorem aJx4a65c_grow_92f84_25 : at_ kJx4a65c_grow_92f84 25 = (0, oPush (vI 1) 26) := rfl
theorem aJx4a65c_grow_92f84_26 : at_ kJx4a65c_grow_92f84 26 = (0, oIshr 27) := rfl
theorem aJx4a65c_grow_92f84_27 : at_ kJx4a65c_grow_92f84 27 = (2, oInvS mJ8_newLength_cabcc 3 30) := rfl
theorem aJx4a65c_grow_92f84_30 : at_ kJx4a65c_grow_92f84 30 = (0, oIstore 3 31) := rfl
theorem aJx4a65c_grow_92f84_31 : at_ kJx4a65c_grow_92f84 31 = (0, oRload 0 32) := rfl
theorem aJx4a65c_grow_92f84_32 : at_ kJx4a65c_grow_92f84 32 = (0, oRload 0 33) := rfl
theorem aJx4a65c_grow_92f84_33 : at_ kJx4a65c_grow_92f84 33 = (0, oGetf 1 1 2 36) := rfl
theorem aJx4a65c_grow_92f84_36 : at_ kJx4a65c_grow_92f84 36 = (0, oIload 3 37) := rfl
theorem aJx4a65c_grow_92f84_37 : at_ kJx4a65c_grow_92f84 37 = (2, oInvS mJ7_copyOf2 2 40) := rfl
theorem aJx4a65c_grow_92f84_40 : at_ kJx4a65c_grow_92f84 40 = (0, oDupx1 41) := rfl
theorem aJx4a65c_grow_92f84_41 : at_ kJx4a65c_grow_92f84 41 = (0, oPutf 1 1 2 44) := rfl
theorem aJx4a65c_grow_92f84_44 : at_ kJx4a65c_grow_92f84 44 = (0, oRetA) := rfl
theorem aJx4a65c_grow_92f84_45 : at_ kJx4a65c_grow_92f84 45 = (0, oRload 0 46) := rfl
theorem aJx4a65c_grow_92f84_46 : at_ kJx4a65c_grow_92f84 46 = (0, oPush (vI 10) 48) := rfl
theorem aJx4a65c_grow_92f84_48 : at_ kJx4a65c_grow_92f84 48 = (0, oIload 1 49) := rfl
theorem aJx4a65c_grow_92f84_49 : at_ kJx4a65c_grow_92f84 49 = (0, oMmax 52) := rfl
theorem aJx4a65c_grow_92f84_52 : at_ kJx4a65c_grow_92f84 52 = (0, oNewa 110 55) := rfl
theorem aJx4a65c_grow_92f84_55 : at_ kJx4a65c_grow_92f84 55 = (0, oDupx1 56) := rfl
theorem aJx4a65c_grow_92f84_56 : at_ kJx4a65c_grow_92f84 56 = (0, oPutf 1 1 2 59) := rfl
theorem aJx4a65c_grow_92f84_59 : at_ kJx4a65c_grow_92f84 59 = (0, oRetA) := rfl
def kJ8_newLength_cabcc_0 : List En := [(0, oIload 0 1), (0, oIload 1 2), (0, oIload 2 3), (0, oMmax 6), (1, oFail), (1, oFail), (0, oIadd 7), (0, oIstore 3 8), (0, oPush (vI 0) 9), (0, oIload 3 10), (0, oIcGe 21 13), (1, oFail), (1, oFail), (0, oIload 3 14), (0, oPush (vI 2147483639) 16), (1, oFail)]
set_option maxRecDepth 20000 in
theorem zJ8_newLength_cabcc_0 : SndL mJ8_newLength_cabcc 0 kJ8_newLength_cabcc_0 := SndL.c (s_iload_n (k := 0) (by decide +kernel) rfl) (SndL.c (s_iload_n (k := 1) (by decide +kernel) rfl) (SndL.c (s_iload_n (k := 2) (by decide +kernel) rfl) (SndL.c (s_mmax w_2_143 w_2_144 w_1_15 w_2_145 (by decide +kernel)) (SndL.c (s_fail) (SndL.c (s_fail) (SndL.c (s_iadd (by decide +kernel)) (SndL.c (s_istore_n (k := 3) (by decide +kernel) rfl (by decide)) (SndL.c (s_iconst (by decide +kernel) (in32_d (by decide))) (SndL.c (s_iload_n (k := 3) (by decide +kernel) rfl) (SndL.c (s_ic_ge (off := 11) (by decide +kernel) (by decide)) (SndL.c (s_fail) (SndL.c (s_fail) (SndL.c (s_iload_n (k := 3) (by decide +kernel) rfl) (SndL.c (s_ldc (by decide +kernel) (in32_d (by decide)) w_2_146) (SndL.c (s_fail) (SndL.n))))))))))))))))
def kJ8_newLength_cabcc_1 : List En := [(0, oIcGt 21 19), (1, oFail), (1, oFail), (0, oIload 3 20), (0, oRetI), (0, oIload 0 22), (0, oIload 1 23), (0, oFail), (1, oFail), (1, oFail), (0, oRetI)]
set_option maxRecDepth 20000 in
theorem zJ8_newLength_cabcc_1 : SndL mJ8_newLength_cabcc 16 kJ8_newLength_cabcc_1 := SndL.c (s_ic_gt (off := 5) (by decide +kernel) (by decide)) (SndL.c (s_fail) (SndL.c (s_fail) (SndL.c (s_iload_n (k := 3) (by decide +kernel) rfl) (SndL.c (s_ret_i rfl (by decide +kernel)) (SndL.c (s_iload_n (k := 0) (by decide +kernel) rfl) (SndL.c (s_iload_n (k := 1) (by decide +kernel) rfl) (SndL.c (s_fail) (SndL.c (s_fail) (SndL.c (s_fail) (SndL.c (s_ret_i rfl (by decide +kernel)) (SndL.n)))))))))))
def kJ8_newLength_cabcc : Cd := [kJ8_newLength_cabcc_0, kJ8_newLength_cabcc_1]
theorem zJ8_newLength_cabcc : SndC mJ8_newLength_cabcc 0 kJ8_newLength_cabcc := SndC.c zJ8_newLength_cabcc_0 (by decide) (SndC.c zJ8_newLength_cabcc_1 (by decide) (SndC.n))
theorem aJ8_newLength_cabcc_0 : at_ kJ8_newLength_cabcc 0 = (0, oIload 0 1) := rfl
theorem aJ8_newLength_cabcc_1 : at_ kJ8_newLength_cabcc 1 = (0, oIload 1 2) := rfl
theorem aJ8_newLength_cabcc_2 : at_ kJ8_newLength_cabcc 2 = (0, oIload 2 3) := rfl
theorem aJ8_newLength_cabcc_3 : at_ kJ8_newLength_cabcc 3 = (0, oMmax 6) := rfl
theorem aJ8_newLength_cabcc_6 : at_ kJ8_newLength_cabcc 6 = (0, oIadd 7) := rfl
theorem aJ8_newLength_cabcc_7 : at_ kJ8_newLength_cabcc 7 = (0, oIstore 3 8) := rfl
theorem aJ8_newLength_cabcc_8 : at_ kJ8_newLength_cabcc 8 = (0, oPush (vI 0) 9) := rfl
theorem aJ8_newLength_cabcc_9 : at_ kJ8_newLength_cabcc 9 = (0, oIload 3 10) := rfl
theorem aJ8_newLength_cabcc_10 : at_ kJ8_newLength_cabcc 10 = (0, oIcGe 21 13) := rfl
theorem aJ8_newLength_cabcc_13 : at_ kJ8_newLength_cabcc 13 = (0, oIload 3 14) := rfl
theorem aJ8_newLength_cabcc_14 : at_ kJ8_newLength_cabcc 14 = (0, oPush (vI 2147483639) 16) := rfl
theorem aJ8_newLength_cabcc_16 : at_ kJ8_newLength_cabcc 16 = (0, oIcGt 21 19) := rfl
theorem aJ8_newLength_cabcc_19 : at_ kJ8_newLength_cabcc 19 = (0, oIload 3 20) := rfl
theorem aJ8_newLength_cabcc_20 : at_ kJ8_newLength_cabcc 20 = (0, oRetI) := rfl
theorem aJ8_newLength_cabcc_21 : at_ kJ8_newLength_cabcc 21 = (0, oIload 0 22) := rfl
theorem aJ8_newLength_cabcc_22 : at_ kJ8_newLength_cabcc 22 = (0, oIload 1 23) := rfl
theorem aJ8_newLength_cabcc_23 : at_ kJ8_newLength_cabcc 23 = (0, oFail) := rfl
theorem aJ8_newLength_cabcc_26 : at_ kJ8_newLength_cabcc 26 = (0, oRetI) := rfl
def kJ15_checkIndex_7cf53_0 : List En := [(0, oIload 0 1), (0, oIload 1 2), (0, oPush (vR 0) 3), (2, oInvS mJ3_checkIndex_8e157 3 6), (1, oFail), (1, oFail), (0, oRetI)]
set_option maxRecDepth 20000 in
theorem zJ15_checkIndex_7cf53_0 : SndL mJ15_checkIndex_7cf53 0 kJ15_checkIndex_7cf53_0 := SndL.c (s_iload_n (k := 0) (by decide +kernel) rfl) (SndL.c (s_iload_n (k := 1) (by decide +kernel) rfl) (SndL.c (s_null (by decide +kernel)) (SndL.c (s_invS okJ3_checkIndex_8e157 w_2_198 w_2_199 (by decide +kernel)) (SndL.c (s_fail) (SndL.c (s_fail) (SndL.c (s_ret_i rfl (by decide +kernel)) (SndL.n)))))))
def kJ15_checkIndex_7cf53 : Cd := [kJ15_checkIndex_7cf53_0]
theorem zJ15_checkIndex_7cf53 : SndC mJ15_checkIndex_7cf53 0 kJ15_checkIndex_7cf53 := SndC.c zJ15_checkIndex_7cf53_0 (by decide) (SndC.n)
theorem aJ15_checkIndex_7cf53_0 : at_ kJ15_checkIndex_7cf53 0 = (0, oIload 0 1) := rfl
theorem aJ15_checkIndex_7cf53_1 : at_ kJ15_checkIndex_7cf53 1 = (0, oIload 1 2) := rfl
theorem aJ15_checkIndex_7cf53_2 : at_ kJ15_checkIndex_7cf53 2 = (0, oPush (vR 0) 3) := rfl
theorem aJ15_checkIndex_7cf53_3 : at_ kJ15_checkIndex_7cf53 3 = (2, oInvS mJ3_checkIndex_8e157 3 6) := rfl
theorem aJ15_checkIndex_7cf53_6 : at_ kJ15_checkIndex_7cf53 6 = (0, oRetI) := rfl
def kJ3_checkIndex_8e157_0 : List En := [(0, oIload 0 1), (0, oIfLt 9 4), (1, oFail), (1, oFail), (0, oIload 0 5), (0, oIload 1 6), (0, oIcLt 16 9), (1, oFail), (1, oFail), (0, oRload 2 10), (0, oIload 0 11), (0, oIload 1 12), (0, oFail), (1, oFail), (1, oFail), (0, oFail)]
set_option maxRecDepth 20000 in
theorem zJ3_checkIndex_8e157_0 : SndL mJ3_checkIndex_8e157 0 kJ3_checkIndex_8e157_0 := SndL.c (s_iload_n (k := 0) (by decide +kernel) rfl) (SndL.c (s_if_lt (off := 8) (by decide +kernel) (by decide)) (SndL.c (s_fail) (SndL.c (s_fail) (SndL.c (s_iload_n (k := 0) (by decide +kernel) rfl) (SndL.c (s_iload_n (k := 1) (by decide +kernel) rfl) (SndL.c (s_ic_lt (off := 10) (by decide +kernel) (by decide)) (SndL.c (s_fail) (SndL.c (s_fail) (SndL.c (s_aload_n (k := 2) (by decide +kernel) rfl) (SndL.c (s_iload_n (k := 0) (by decide +kernel) rfl) (SndL.c (s_iload_n (k := 1) (by decide +kernel) rfl) (SndL.c (s_fail) (SndL.c (s_fail) (SndL.c (s_fail) (SndL.c (s_fail) (SndL.n))))))))))))))))
def kJ3_checkIndex_8e157_1 : List En := [(0, oIload 0 17), (0, oRetI)]
set_option maxRecDepth 20000 in
theorem zJ3_checkIndex_8e157_1 : SndL mJ3_checkIndex_8e157 16 kJ3_checkIndex_8e157_1 := SndL.c (s_iload_n (k := 0) (by decide +kernel) rfl) (SndL.c (s_ret_i rfl (by decide +kernel)) (SndL.n))
def kJ3_checkIndex_8e157 : Cd := [kJ3_checkIndex_8e157_0, kJ3_checkIndex_8e157_1]
theorem zJ3_checkIndex_8e157 : SndC mJ3_checkIndex_8e157 0 kJ3_checkIndex_8e157 := SndC.c zJ3_checkIndex_8e157_0 (by decide) (SndC.c zJ3_checkIndex_8e157_1 (by decide) (SndC.n))
theorem aJ3_checkIndex_8e157_0 : at_ kJ3_checkIndex_8e157 0 = (0, oIload 0 1) := rfl
theorem aJ3_checkIndex_8e157_1 : at_ kJ3_checkIndex_8e157 1 = (0, oIfLt 9 4) := rfl
theorem aJ3_checkIndex_8e157_4 : at_ kJ3_checkIndex_8e157 4 = (0, oIload 0 5) := rfl
theorem aJ3_checkIndex_8e157_5 : at_ kJ3_checkIndex_8e157 5 = (0, oIload 1 6) := rfl
theorem aJ3_checkIndex_8e157_6 : at_ kJ3_checkIndex_8e157 6 = (0, oIcLt 16 9) := rfl
theorem aJ3_checkIndex_8e157_9 : at_ kJ3_checkIndex_8e157 9 = (0, oRload 2 10) := rfl
theorem aJ3_checkIndex_8e157_10 : at_ kJ3_checkIndex_8e157 10 = (0, oIload 0 11) := rfl
theorem aJ3_checkIndex_8e157_11 : at_ kJ3_checkIndex_8e157 11 = (0, oIload 1 12) := rfl
theorem aJ3_checkIndex_8e157_12 : at_ kJ3_checkIndex_8e157 12 = (0, oFail) := rfl
theorem aJ3_checkIndex_8e157_15 : at_ kJ3_checkIndex_8e157 15 = (0, oFail) := rfl
theorem aJ3_checkIndex_8e157_16 : at_ kJ3_checkIndex_8e157 16 = (0, oIload 0 17) := rfl
theorem aJ3_checkIndex_8e157_17 : at_ kJ3_checkIndex_8e157 17 = (0, oRetI) := rfl
def kJ6_bitCount_0f7a4_0 : List En := [(0, oIload 0 1), (0, oIload 0 2), (0, oPush (vI 1) 3), (0, oIushr 4), (0, oPush (vI 1431655765) 7), (1, oFail), (1, oFail), (0, oIand 8), (0, oIsub 9), (0, oIstore 0 10), (0, oIload 0 11), (0, oPush (vI 858993459) 14), (1, oFail), (1, oFail), (0, oIand 15), (0, oIload 0 16)]
set_option maxRecDepth 20000 in
theorem zJ6_bitCount_0f7a4_0 : SndL mJ6_bitCount_0f7a4 0 kJ6_bitCount_0f7a4_0 := SndL.c (s_iload_n (k := 0) (by decide +kernel) rfl) (SndL.c (s_iload_n (k := 0) (by decide +kernel) rfl) (SndL.c (s_iconst (by decide +kernel) (in32_d (by decide))) (SndL.c (s_iushr (by decide +kernel)) (SndL.c (s_ldcw (by decide +kernel) (in32_d (by decide)) w_5_49) (SndL.c (s_fail) (SndL.c (s_fail) (SndL.c (s_iand (by decide +kernel)) (SndL.c (s_isub (by decide +kernel)) (SndL.c (s_istore_n (k := 0) (by decide +kernel) rfl (by decide)) (SndL.c (s_iload_n (k := 0) (by decide +kernel) rfl) (SndL.c (s_ldcw (by decide +kernel) (in32_d (by decide)) w_5_50) (SndL.c (s_fail) (SndL.c (s_fail) (SndL.c (s_iand (by decide +kernel)) (SndL.c (s_iload_n (k := 0) (by decide +kernel) rfl) (SndL.n))))))))))))))))
def kJ6_bitCount_0f7a4_1 : List En := [(0, oPush (vI 2) 17), (0, oIushr 18), (0, oPush (vI 858993459) 21), (1, oFail), (1, oFail), (0, oIand 22), (0, oIadd 23), (0, oIstore 0 24), (0, oIload 0 25), (0, oIload 0 26), (0, oPush (vI 4) 27), (0, oIushr 28), (0, oIadd 29), (0, oPush (vI 252645135) 32), (1, oFail), (1, oFail)]
set_option maxRecDepth 20000 in
theorem zJ6_bitCount_0f7a4_1 : SndL mJ6_bitCount_0f7a4 16 kJ6_bitCount_0f7a4_1 := SndL.c (s_iconst (by decide +kernel) (in32_d (by decide))) (SndL.c (s_iushr (by decide +kernel)) (SndL.c (s_ldcw (by decide +kernel) (in32_d (by decide)) w_5_50) (SndL.c (s_fail) (SndL.c (s_fail) (SndL.c (s_iand (by decide +kernel)) (SndL.c (s_iadd (by decide +kernel)) (SndL.c (s_istore_n (k := 0) (by decide +kernel) rfl (by decide)) (SndL.c (s_iload_n (k := 0) (by decide +kernel) rfl) (SndL.c (s_iload_n (k := 0) (by decide +kernel) rfl) (SndL.c (s_iconst (by decide +kernel) (in32_d (by decide))) (SndL.c (s_iushr (by decide +kernel)) (SndL.c (s_iadd (by decide +kernel)) (SndL.c (s_ldcw (by decide +kernel) (in32_d (by decide)) w_5_51) (SndL.c (s_fail) (SndL.c (s_fail) (SndL.n))))))))))))))))
def kJ6_bitCount_0f7a4_2 : List En := [(0, oIand 33), (0, oIstore 0 34), (0, oIload 0 35), (0, oIload 0 36), (0, oPush (vI 8) 38), (1, oFail), (0, oIushr 39), (0, oIadd 40), (0, oIstore 0 41), (0, oIload 0 42), (0, oIload 0 43), (0, oPush (vI 16) 45), (1, oFail), (0, oIushr 46), (0, oIadd 47), (0, oIstore 0 48)]
set_option maxRecDepth 20000 in
theorem zJ6_bitCount_0f7a4_2 : SndL mJ6_bitCount_0f7a4 32 kJ6_bitCount_0f7a4_2 := SndL.c (s_iand (by decide +kernel)) (SndL.c (s_istore_n (k := 0) (by decide +kernel) rfl (by decide)) (SndL.c (s_iload_n (k := 0) (by decide +kernel) rfl) (SndL.c (s_iload_n (k := 0) (by decide +kernel) rfl) (SndL.c (s_bipush (by decide +kernel) (in32_d (by decide)) (by decide +kernel)) (SndL.c (s_fail) (SndL.c (s_iushr (by decide +kernel)) (SndL.c (s_iadd (by decide +kernel)) (SndL.c (s_istore_n (k := 0) (by decide +kernel) rfl (by decide)) (SndL.c (s_iload_n (k := 0) (by decide +kernel) rfl) (SndL.c (s_iload_n (k := 0) (by decide +kernel) rfl) (SndL.c (s_bipush (by decide +kernel) (in32_d (by decide)) (by decide +kernel)) (SndL.c (s_fail) (SndL.c (s_iushr (by decide +kernel)) (SndL.c (s_iadd (by decide +kernel)) (SndL.c (s_istore_n (k := 0) (by decide +kernel) rfl (by decide)) (SndL.n))))))))))))))))
def kJ6_bitCount_0f7a4_3 : List En := [(0, oIload 0 49), (0, oPush (vI 63) 51), (1, oFail), (0, oIand 52), (0, oRetI)]
set_option maxRecDepth 20000 in
theorem zJ6_bitCount_0f7a4_3 : SndL mJ6_bitCount_0f7a4 48 kJ6_bitCount_0f7a4_3 := SndL.c (s_iload_n (k := 0) (by decide +kernel) rfl) (SndL.c (s_bipush (by decide +kernel) (in32_d (by decide)) (by decide +kernel)) (SndL.c (s_fail) (SndL.c (s_iand (by decide +kernel)) (SndL.c (s_ret_i rfl (by decide +kernel)) (SndL.n)))))
def kJ6_bitCount_0f7a4 : Cd := [kJ6_bitCount_0f7a4_0, kJ6_bitCount_0f7a4_1, kJ6_bitCount_0f7a4_2, kJ6_bitCount_0f7a4_3]
theorem zJ6_bitCount_0f7a4 : SndC mJ6_bitCount_0f7a4 0 kJ6_bitCount_0f7a4 := SndC.c zJ6_bitCount_0f7a4_0 (by decide) (SndC.c zJ6_bitCount_0f7a4_1 (by decide) (SndC.c zJ6_bitCount_0f7a4_2 (by decide) (SndC.c zJ6_bitCount_0f7a4_3 (by decide) (SndC.n))))
theorem aJ6_bitCount_0f7a4_0 : at_ kJ6_bitCount_0f7a4 0 = (0, oIload 0 1) := rfl
theorem aJ6_bitCount_0f7a4_1 : at_ kJ6_bitCount_0f7a4 1 = (0, oIload 0 2) := rfl
theorem aJ6_bitCount_0f7a4_2 : at_ kJ6_bitCount_0f7a4 2 = (0, oPush (vI 1) 3) := rfl
theorem aJ6_bitCount_0f7a4_3 : at_ kJ6_bitCount_0f7a4 3 = (0, oIushr 4) := rfl
theorem aJ6_bitCount_0f7a4_4 : at_ kJ6_bitCount_0f7a4 4 = (0, oPush (vI 1431655765) 7) := rfl
theorem aJ6_bitCount_0f7a4_7 : at_ kJ6_bitCount_0f7a4 7 = (0, oIand 8) := rfl
theorem aJ6_bitCount_0f7a4_8 : at_ kJ6_bitCount_0f7a4 8 = (0, oIsub 9) := rfl
theorem aJ6_bitCount_0f7a4_9 : at_ kJ6_bitCount_0f7a4 9 = (0, oIstore 0 10) := rfl
theorem aJ6_bitCount_0f7a4_10 : at_ kJ6_bitCount_0f7a4 10 = (0, oIload 0 11) := rfl
theorem aJ6_bitCount_0f7a4_11 : at_ kJ6_bitCount_0f7a4 11 = (0, oPush (vI 858993459) 14) := rfl
theorem aJ6_bitCount_0f7a4_14 : at_ kJ6_bitCount_0f7a4 14 = (0, oIand 15) := rfl
theorem aJ6_bitCount_0f7a4_15 : at_ kJ6_bitCount_0f7a4 15 = (0, oIload 0 16) := rfl
theorem aJ6_bitCount_0f7a4_16 : at_ kJ6_bitCount_0f7a4 16 = (0, oPush (vI 2) 17) := rfl
theorem aJ6_bitCount_0f7a4_17 : at_ kJ6_bitCount_0f7a4 17 = (0, oIushr 18) := rfl
theorem aJ6_bitCount_0f7a4_18 : at_ kJ6_bitCount_0f7a4 18 = (0, oPush (vI 858993459) 21) := rfl
theorem aJ6_bitCount_0f7a4_21 : at_ kJ6_bitCount_0f7a4 21 = (0, oIand 22) := rfl
theorem aJ6_bitCount_0f7a4_22 : at_ kJ6_bitCount_0f7a4 22 = (0, oIadd 23) := rfl
theorem aJ6_bitCount_0f7a4_23 : at_ kJ6_bitCount_0f7a4 23 = (0, oIstore 0 24) := rfl
theorem aJ6_bitCount_0f7a4_24 : at_ kJ6_bitCount_0f7a4 24 = (0, oIload 0 25) := rfl
theorem aJ6_bitCount_0f7a4_25 : at_ kJ6_bitCount_0f7a4 25 = (0, oIload 0 26) := rfl
theorem aJ6_bitCount_0f7a4_26 : at_ kJ6_bitCount_0f7a4 26 = (0, oPush (vI 4) 27) := rfl
theorem aJ6_bitCount_0f7a4_27 : at_ kJ6_bitCount_0f7a4 27 = (0, oIushr 28) := rfl
theorem aJ6_bitCount_0f7a4_28 : at_ kJ6_bitCount_0f7a4 28 = (0, oIadd 29) := rfl
theorem aJ6_bitCount_0f7a4_29 : at_ kJ6_bitCount_0f7a4 29 = (0, oPush (vI 252645135) 32) := rfl
theorem aJ6_bitCount_0f7a4_32 : at_ kJ6_bitCount_0f7a4 32 = (0, oIand 33) := rfl
theorem aJ6_bitCount_0f7a4_33 : at_ kJ6_bitCount_0f7a4 33 = (0, oIstore 0 34) := rfl
theorem aJ6_bitCount_0f7a4_34 : at_ kJ6_bitCount_0f7a4 34 = (0, oIload 0 35) := rfl
theorem aJ6_bitCount_0f7a4_35 : at_ kJ6_bitCount_0f7a4 35 = (0, oIload 0 36) := rfl
theorem aJ6_bitCount_0f7a4_36 : at_ kJ6_bitCount_0f7a4 36 = (0, oPush (vI 8) 38) := rfl
theorem aJ6_bitCount_0f7a4_38 : at_ kJ6_bitCount_0f7a4 38 = (0, oIushr 39) := rfl
theorem aJ6_bitCount_0f7a4_39 : at_ kJ6_bitCount_0f7a4 39 = (0, oIadd 40) := rfl
theorem aJ6_bitCount_0f7a4_40 : at_ kJ6_bitCount_0f7a4 40 = (0, oIstore 0 41) := rfl
theorem aJ6_bitCount_0f7a4_41 : at_ kJ6_bitCount_0f7a4 41 = (0, oIload 0 42) := rfl
theorem aJ6_bitCount_0f7a4_42 : at_ kJ6_bitCount_0f7a4 42 = (0, oIload 0 43) := rfl
theorem aJ6_bitCount_0f7a4_43 : at_ kJ6_bitCount_0f7a4 43 = (0, oPush (vI 16) 45) := rfl
theorem aJ6_bitCount_0f7a4_45 : at_ kJ6_bitCount_0f7a4 45 = (0, oIushr 46) := rfl
theorem aJ6_bitCount_0f7a4_46 : at_ kJ6_bitCount_0f7a4 46 = (0, oIadd 47) := rfl
theorem aJ6_bitCount_0f7a4_47 : at_ kJ6_bitCount_0f7a4 47 = (0, oIstore 0 48) := rfl
theorem aJ6_bitCount_0f7a4_48 : at_ kJ6_bitCount_0f7a4 48 = (0, oIload 0 49) := rfl
theorem aJ6_bitCount_0f7a4_49 : at_ kJ6_bitCount_0f7a4 49 = (0, oPush (vI 63) 51) := rfl
theorem aJ6_bitCount_0f7a4_51 : at_ kJ6_bitCount_0f7a4 51 = (0, oIand 52) := rfl
theorem aJ6_bitCount_0f7a4_52 : at_ kJ6_bitCount_0f7a4 52 = (0, oRetI) := rfl
