def kX12_init_0 : List En := [(0, oRload 0 1), (0, oObji 4), (1, oFail), (1, oFail), (0, oRload 0 5), (0, oPush (vI 50) 7), (1, oFail), (0, oPutf 14 7 0 10), (1, oFail), (1, oFail), (0, oRload 0 11), (0, oPush (vI 10) 13), (1, oFail), (0, oPutf 14 8 0 16), (1, oFail), (1, oFail)]
set_option maxRecDepth 20000 in
theorem zX12_init_0 : SndL mX12_init 0 kX12_init_0 := SndL.c (s_aload_n (k := 0) (by decide +kernel) rfl) (SndL.c (s_obji w_5_101 w_1_33 w_1_34 (by decide +kernel)) (SndL.c (s_fail) (SndL.c (s_fail) (SndL.c (s_aload_n (k := 0) (by decide +kernel) rfl) (SndL.c (s_bipush (by decide +kernel) (in32_d (by decide)) (by decide +kernel)) (SndL.c (s_fail) (SndL.c (s_putf (k := 7) clok13 (by decide) rfl (by decide) rfl w_5_109 (Or.inl rfl) (Or.inl rfl) (by decide +kernel)) (SndL.c (s_fail) (SndL.c (s_fail) (SndL.c (s_aload_n (k := 0) (by decide +kernel) rfl) (SndL.c (s_bipush (by decide +kernel) (in32_d (by decide)) (by decide +kernel)) (SndL.c (s_fail) (SndL.c (s_putf (k := 8) clok13 (by decide) rfl (by decide) rfl w_5_110 (Or.inl rfl) (Or.inl rfl) (by decide +kernel)) (SndL.c (s_fail) (SndL.c (s_fail) (SndL.n))))))))))))))))
def kX12_init_1 : List En := [(0, oRload 0 17), (0, oPush (vI (-1)) 18), (0, oPutf 14 9 0 21), (1, oFail), (1, oFail), (0, oRload 0 22), (0, oPush (vI 8) 24), (1, oFail), (0, oNewa 100 26), (1, oFail), (0, oPutf 14 11 2 29), (1, oFail), (1, oFail), (0, oRload 0 30), (0, oPush (vI 8) 32), (1, oFail)]
set_option maxRecDepth 20000 in
theorem zX12_init_1 : SndL mX12_init 16 kX12_init_1 := SndL.c (s_aload_n (k := 0) (by decide +kernel) rfl) (SndL.c (s_iconst (by decide +kernel) (in32_d (by decide))) (SndL.c (s_putf (k := 9) clok13 (by decide) rfl (by decide) rfl w_5_111 (Or.inl rfl) (Or.inl rfl) (by decide +kernel)) (SndL.c (s_fail) (SndL.c (s_fail) (SndL.c (s_aload_n (k := 0) (by decide +kernel) rfl) (SndL.c (s_bipush (by decide +kernel) (in32_d (by decide)) (by decide +kernel)) (SndL.c (s_fail) (SndL.c (s_newa (kd := 100) (atype := .int) (akd_d (by decide)) rfl (by decide) w_1_104 (fun _ _ h => h) (by decide +kernel)) (SndL.c (s_fail) (SndL.c (s_putf (k := 11) clok13 (by decide) rfl (by decide) rfl w_5_113 (Or.inl rfl) (Or.inr ⟨rfl, rfl, rfl⟩) (by decide +kernel)) (SndL.c (s_fail) (SndL.c (s_fail) (SndL.c (s_aload_n (k := 0) (by decide +kernel) rfl) (SndL.c (s_bipush (by decide +kernel) (in32_d (by decide)) (by decide +kernel)) (SndL.c (s_fail) (SndL.n))))))))))))))))
def kX12_init_2 : List En := [(0, oNewa 100 34), (1, oFail), (0, oPutf 14 12 2 37), (1, oFail), (1, oFail), (0, oRload 0 38), (0, oPush (vI 8) 40), (1, oFail), (0, oNewa 100 42), (1, oFail), (0, oPutf 14 13 2 45), (1, oFail), (1, oFail), (0, oRload 0 46), (0, oPush (vI 8) 48), (1, oFail)]
set_option maxRecDepth 20000 in
theorem zX12_init_2 : SndL mX12_init 32 kX12_init_2 := SndL.c (s_newa (kd := 100) (atype := .int) (akd_d (by decide)) rfl (by decide) w_1_104 (fun _ _ h => h) (by decide +kernel)) (SndL.c (s_fail) (SndL.c (s_putf (k := 12) clok13 (by decide) rfl (by decide) rfl w_5_114 (Or.inl rfl) (Or.inr ⟨rfl, rfl, rfl⟩) (by decide +kernel)) (SndL.c (s_fail) (SndL.c (s_fail) (SndL.c (s_aload_n (k := 0) (by decide +kernel) rfl) (SndL.c (s_bipush (by decide +kernel) (in32_d (by decide)) (by decide +kernel)) (SndL.c (s_fail) (SndL.c (s_newa (kd := 100) (atype := .int) (akd_d (by decide)) rfl (by decide) w_1_104 (fun _ _ h => h) (by decide +kernel)) (SndL.c (s_fail) (SndL.c (s_putf (k := 13) clok13 (by decide) rfl (by decide) rfl w_5_115 (Or.inl rfl) (Or.inr ⟨rfl, rfl, rfl⟩) (by decide +kernel)) (SndL.c (s_fail) (SndL.c (s_fail) (SndL.c (s_aload_n (k := 0) (by decide +kernel) rfl) (SndL.c (s_bipush (by decide +kernel) (in32_d (by decide)) (by decide +kernel)) (SndL.c (s_fail) (SndL.n))))))))))))))))
def kX12_init_3 : List En := [(0, oNewa 100 50), (1, oFail), (0, oPutf 14 14 2 53), (1, oFail), (1, oFail), (0, oRload 0 54), (0, oPush (vI 8) 56), (1, oFail), (0, oNewa 100 58), (1, oFail), (0, oPutf 14 15 2 61), (1, oFail), (1, oFail), (0, oRload 0 62), (0, oPush (vI 8) 64), (1, oFail)]
set_option maxRecDepth 20000 in
theorem zX12_init_3 : SndL mX12_init 48 kX12_init_3 := SndL.c (s_newa (kd := 100) (atype := .int) (akd_d (by decide)) rfl (by decide) w_1_104 (fun _ _ h => h) (by decide +kernel)) (SndL.c (s_fail) (SndL.c (s_putf (k := 14) clok13 (by decide) rfl (by decide) rfl w_5_116 (Or.inl rfl) (Or.inr ⟨rfl, rfl, rfl⟩) (by decide +kernel)) (SndL.c (s_fail) (SndL.c (s_fail) (SndL.c (s_aload_n (k := 0) (by decide +kernel) rfl) (SndL.c (s_bipush (by decide +kernel) (in32_d (by decide)) (by decide +kernel)) (SndL.c (s_fail) (SndL.c (s_newa (kd := 100) (atype := .int) (akd_d (by decide)) rfl (by decide) w_1_104 (fun _ _ h => h) (by decide +kernel)) (SndL.c (s_fail) (SndL.c (s_putf (k := 15) clok13 (by decide) rfl (by decide) rfl w_5_117 (Or.inl rfl) (Or.inr ⟨rfl, rfl, rfl⟩) (by decide +kernel)) (SndL.c (s_fail) (SndL.c (s_fail) (SndL.c (s_aload_n (k := 0) (by decide +kernel) rfl) (SndL.c (s_bipush (by decide +kernel) (in32_d (by decide)) (by decide +kernel)) (SndL.c (s_fail) (SndL.n))))))))))))))))
def kX12_init_4 : List En := [(0, oNewa 100 66), (1, oFail), (0, oPutf 14 16 2 69), (1, oFail), (1, oFail), (0, oRload 0 70), (0, oPush (vI 8) 72), (1, oFail), (0, oNewa 100 74), (1, oFail), (0, oPutf 14 17 2 77), (1, oFail), (1, oFail), (0, oRload 0 78), (0, oPush (vI 480) 81), (1, oFail)]
set_option maxRecDepth 20000 in
theorem zX12_init_4 : SndL mX12_init 64 kX12_init_4 := SndL.c (s_newa (kd := 100) (atype := .int) (akd_d (by decide)) rfl (by decide) w_1_104 (fun _ _ h => h) (by decide +kernel)) (SndL.c (s_fail) (SndL.c (s_putf (k := 16) clok13 (by decide) rfl (by decide) rfl w_5_118 (Or.inl rfl) (Or.inr ⟨rfl, rfl, rfl⟩) (by decide +kernel)) (SndL.c (s_fail) (SndL.c (s_fail) (SndL.c (s_aload_n (k := 0) (by decide +kernel) rfl) (SndL.c (s_bipush (by decide +kernel) (in32_d (by decide)) (by decide +kernel)) (SndL.c (s_fail) (SndL.c (s_newa (kd := 100) (atype := .int) (akd_d (by decide)) rfl (by decide) w_1_104 (fun _ _ h => h) (by decide +kernel)) (SndL.c (s_fail) (SndL.c (s_putf (k := 17) clok13 (by decide) rfl (by decide) rfl w_5_119 (Or.inl rfl) (Or.inr ⟨rfl, rfl, rfl⟩) (by decide +kernel)) (SndL.c (s_fail) (SndL.c (s_fail) (SndL.c (s_aload_n (k := 0) (by decide +kernel) rfl) (SndL.c (s_sipush (by decide +kernel) (in32_d (by decide)) (by decide +kernel)) (SndL.c (s_fail) (SndL.n))))))))))))))))
def kX12_init_5 : List En := [(1, oFail), (0, oNewa 101 83), (1, oFail), (0, oPutf 14 18 2 86), (1, oFail), (1, oFail), (0, oRload 0 87), (0, oPush (vI 60) 89), (1, oFail), (0, oNewa 101 91), (1, oFail), (0, oPutf 14 19 2 94), (1, oFail), (1, oFail), (0, oRload 0 95), (0, oPush (vI 24) 97)]
set_option maxRecDepth 20000 in
theorem zX12_init_5 : SndL mX12_init 80 kX12_init_5 := SndL.c (s_fail) (SndL.c (s_newa (kd := 101) (atype := .long) (akd_d (by decide)) rfl (by decide) w_1_191 (fun _ _ h => h) (by decide +kernel)) (SndL.c (s_fail) (SndL.c (s_putf (k := 18) clok13 (by decide) rfl (by decide) rfl w_5_120 (Or.inl rfl) (Or.inr ⟨rfl, rfl, rfl⟩) (by decide +kernel)) (SndL.c (s_fail) (SndL.c (s_fail) (SndL.c (s_aload_n (k := 0) (by decide +kernel) rfl) (SndL.c (s_bipush (by decide +kernel) (in32_d (by decide)) (by decide +kernel)) (SndL.c (s_fail) (SndL.c (s_newa (kd := 101) (atype := .long) (akd_d (by decide)) rfl (by decide) w_1_191 (fun _ _ h => h) (by decide +kernel)) (SndL.c (s_fail) (SndL.c (s_putf (k := 19) clok13 (by decide) rfl (by decide) rfl w_5_121 (Or.inl rfl) (Or.inr ⟨rfl, rfl, rfl⟩) (by decide +kernel)) (SndL.c (s_fail) (SndL.c (s_fail) (SndL.c (s_aload_n (k := 0) (by decide +kernel) rfl) (SndL.c (s_bipush (by decide +kernel) (in32_d (by decide)) (by decide +kernel)) (SndL.n))))))))))))))))
def kX12_init_6 : List En := [(1, oFail), (0, oNewa 100 99), (1, oFail), (0, oPutf 14 20 2 102), (1, oFail), (1, oFail), (0, oRload 0 103), (0, oPush (vI 24) 105), (1, oFail), (0, oNewa 100 107), (1, oFail), (0, oPutf 14 21 2 110), (1, oFail), (1, oFail), (0, oRload 0 111), (0, oPush (vI 24) 113)]
set_option maxRecDepth 20000 in
theorem zX12_init_6 : SndL mX12_init 96 kX12_init_6 := SndL.c (s_fail) (SndL.c (s_newa (kd := 100) (atype := .int) (akd_d (by decide)) rfl (by decide) w_1_104 (fun _ _ h => h) (by decide +kernel)) (SndL.c (s_fail) (SndL.c (s_putf (k := 20) clok13 (by decide) rfl (by decide) rfl w_5_122 (Or.inl rfl) (Or.inr ⟨rfl, rfl, rfl⟩) (by decide +kernel)) (SndL.c (s_fail) (SndL.c (s_fail) (SndL.c (s_aload_n (k := 0) (by decide +kernel) rfl) (SndL.c (s_bipush (by decide +kernel) (in32_d (by decide)) (by decide +kernel)) (SndL.c (s_fail) (SndL.c (s_newa (kd := 100) (atype := .int) (akd_d (by decide)) rfl (by decide) w_1_104 (fun _ _ h => h) (by decide +kernel)) (SndL.c (s_fail) (SndL.c (s_putf (k := 21) clok13 (by decide) rfl (by decide) rfl w_5_123 (Or.inl rfl) (Or.inr ⟨rfl, rfl, rfl⟩) (by decide +kernel)) (SndL.c (s_fail) (SndL.c (s_fail) (SndL.c (s_aload_n (k := 0) (by decide +kernel) rfl) (SndL.c (s_bipush (by decide +kernel) (in32_d (by decide)) (by decide +kernel)) (SndL.n))))))))))))))))
def kX12_init_7 : List En := [(1, oFail), (0, oNewa 100 115), (1, oFail), (0, oPutf 14 22 2 118), (1, oFail), (1, oFail), (0, oRload 0 119), (0, oPush (vI 24) 121), (1, oFail), (0, oNewa 100 123), (1, oFail), (0, oPutf 14 23 2 126), (1, oFail), (1, oFail), (0, oRload 0 127), (0, oPush (vI 24) 129)]
set_option maxRecDepth 20000 in
theorem zX12_init_7 : SndL mX12_init 112 kX12_init_7 := SndL.c (s_fail) (SndL.c (s_newa (kd := 100) (atype := .int) (akd_d (by decide)) rfl (by decide) w_1_104 (fun _ _ h => h) (by decide +kernel)) (SndL.c (s_fail) (SndL.c (s_putf (k := 22) clok13 (by decide) rfl (by decide) rfl w_5_124 (Or.inl rfl) (Or.inr ⟨rfl, rfl, rfl⟩) (by decide +kernel)) (SndL.c (s_fail) (SndL.c (s_fail) (SndL.c (s_aload_n (k := 0) (by decide +kernel) rfl) (SndL.c (s_bipush (by decide +kernel) (in32_d (by decide)) (by decide +kernel)) (SndL.c (s_fail) (SndL.c (s_newa (kd := 100) (atype := .int) (akd_d (by decide)) rfl (by decide) w_1_104 (fun _ _ h => h) (by decide +kernel)) (SndL.c (s_fail) (SndL.c (s_putf (k := 23) clok13 (by decide) rfl (by decide) rfl w_5_125 (Or.inl rfl) (Or.inr ⟨rfl, rfl, rfl⟩) (by decide +kernel)) (SndL.c (s_fail) (SndL.c (s_fail) (SndL.c (s_aload_n (k := 0) (by decide +kernel) rfl) (SndL.c (s_bipush (by decide +kernel) (in32_d (by decide)) (by decide +kernel)) (SndL.n))))))))))))))))
def kX12_init_8 : List En := [(1, oFail), (0, oNewa 100 131), (1, oFail), (0, oPutf 14 24 2 134), (1, oFail), (1, oFail), (0, oRload 0 135), (0, oPush (vI 24) 137), (1, oFail), (0, oNewa 100 139), (1, oFail), (0, oPutf 14 25 2 142), (1, oFail), (1, oFail), (0, oRload 0 143), (0, oPush (vI 24) 145)]
set_option maxRecDepth 20000 in
theorem zX12_init_8 : SndL mX12_init 128 kX12_init_8 := SndL.c (s_fail) (SndL.c (s_newa (kd := 100) (atype := .int) (akd_d (by decide)) rfl (by decide) w_1_104 (fun _ _ h => h) (by decide +kernel)) (SndL.c (s_fail) (SndL.c (s_putf (k := 24) clok13 (by decide) rfl (by decide) rfl w_5_126 (Or.inl rfl) (Or.inr ⟨rfl, rfl, rfl⟩) (by decide +kernel)) (SndL.c (s_fail) (SndL.c (s_fail) (SndL.c (s_aload_n (k := 0) (by decide +kernel) rfl) (SndL.c (s_bipush (by decide +kernel) (in32_d (by decide)) (by decide +kernel)) (SndL.c (s_fail) (SndL.c (s_newa (kd := 100) (atype := .int) (akd_d (by decide)) rfl (by decide) w_1_104 (fun _ _ h => h) (by decide +kernel)) (SndL.c (s_fail) (SndL.c (s_putf (k := 25) clok13 (by decide) rfl (by decide) rfl w_5_127 (Or.inl rfl) (Or.inr ⟨rfl, rfl, rfl⟩) (by decide +kernel)) (SndL.c (s_fail) (SndL.c (s_fail) (SndL.c (s_aload_n (k := 0) (by decide +kernel) rfl) (SndL.c (s_bipush (by decide +kernel) (in32_d (by decide)) (by decide +kernel)) (SndL.n))))))))))))))))
def kX12_init_9 : List En := [(1, oFail), (0, oNewa 100 147), (1, oFail), (0, oPutf 14 26 2 150), (1, oFail), (1, oFail), (0, oRload 0 151), (0, oPush (vI 24) 153), (1, oFail), (0, oNewa 100 155), (1, oFail), (0, oPutf 14 27 2 158), (1, oFail), (1, oFail), (0, oRload 0 159), (0, oPush (vI 480) 162)]
set_option maxRecDepth 20000 in
theorem zX12_init_9 : SndL mX12_init 144 kX12_init_9 := SndL.c (s_fail) (SndL.c (s_newa (kd := 100) (atype := .int) (akd_d (by decide)) rfl (by decide) w_1_104 (fun _ _ h => h) (by decide +kernel)) (SndL.c (s_fail) (SndL.c (s_putf (k := 26) clok13 (by decide) rfl (by decide) rfl w_5_128 (Or.inl rfl) (Or.inr ⟨rfl, rfl, rfl⟩) (by decide +kernel)) (SndL.c (s_fail) (SndL.c (s_fail) (SndL.c (s_aload_n (k := 0) (by decide +kernel) rfl) (SndL.c (s_bipush (by decide +kernel) (in32_d (by decide)) (by decide +kernel)) (SndL.c (s_fail) (SndL.c (s_newa (kd := 100) (atype := .int) (akd_d (by decide)) rfl (by decide) w_1_104 (fun _ _ h => h) (by decide +kernel)) (SndL.c (s_fail) (SndL.c (s_putf (k := 27) clok13 (by decide) rfl (by decide) rfl w_5_129 (Or.inl rfl) (Or.inr ⟨rfl, rfl, rfl⟩) (by decide +kernel)) (SndL.c (s_fail) (SndL.c (s_fail) (SndL.c (s_aload_n (k := 0) (by decide +kernel) rfl) (SndL.c (s_sipush (by decide +kernel) (in32_d (by decide)) (by decide +kernel)) (SndL.n))))))))))))))))
def kX12_init_10 : List En := [(1, oFail), (1, oFail), (0, oNewa 100 164), (1, oFail), (0, oPutf 14 28 2 167), (1, oFail), (1, oFail), (0, oRload 0 168), (0, oPush (vI 288) 171), (1, oFail), (1, oFail), (0, oNewa 100 173), (1, oFail), (0, oPutf 14 29 2 176), (1, oFail), (1, oFail)]
set_option maxRecDepth 20000 in
theorem zX12_init_10 : SndL mX12_init 160 kX12_init_10 := SndL.c (s_fail) (SndL.c (s_fail) (SndL.c (s_newa (kd := 100) (atype := .int) (akd_d (by decide)) rfl (by decide) w_1_104 (fun _ _ h => h) (by decide +kernel)) (SndL.c (s_fail) (SndL.c (s_putf (k := 28) clok13 (by decide) rfl (by decide) rfl w_5_130 (Or.inl rfl) (Or.inr ⟨rfl, rfl, rfl⟩) (by decide +kernel)) (SndL.c (s_fail) (SndL.c (s_fail) (SndL.c (s_aload_n (k := 0) (by decide +kernel) rfl) (SndL.c (s_sipush (by decide +kernel) (in32_d (by decide)) (by decide +kernel)) (SndL.c (s_fail) (SndL.c (s_fail) (SndL.c (s_newa (kd := 100) (atype := .int) (akd_d (by decide)) rfl (by decide) w_1_104 (fun _ _ h => h) (by decide +kernel)) (SndL.c (s_fail) (SndL.c (s_putf (k := 29) clok13 (by decide) rfl (by decide) rfl w_5_131 (Or.inl rfl) (Or.inr ⟨rfl, rfl, rfl⟩) (by decide +kernel)) (SndL.c (s_fail) (SndL.c (s_fail) (SndL.n))))))))))))))))
def kX12_init_11 : List En := [(0, oRload 0 177), (0, oPush (vI 192) 180), (1, oFail), (1, oFail), (0, oNewa 100 182), (1, oFail), (0, oPutf 14 30 2 185), (1, oFail), (1, oFail), (0, oRload 0 186), (0, oPush (vI 192) 189), (1, oFail), (1, oFail), (0, oNewa 100 191), (1, oFail), (0, oPutf 14 31 2 194)]
set_option maxRecDepth 20000 in
theorem zX12_init_11 : SndL mX12_init 176 kX12_init_11 := SndL.c (s_aload_n (k := 0) (by decide +kernel) rfl) (SndL.c (s_sipush (by decide +kernel) (in32_d (by decide)) (by decide +kernel)) (SndL.c (s_fail) (SndL.c (s_fail) (SndL.c (s_newa (kd := 100) (atype := .int) (akd_d (by decide)) rfl (by decide) w_1_104 (fun _ _ h => h) (by decide +kernel)) (SndL.c (s_fail) (SndL.c (s_putf (k := 30) clok13 (by decide) rfl (by decide) rfl w_5_132 (Or.inl rfl) (Or.inr ⟨rfl, rfl, rfl⟩) (by decide +kernel)) (SndL.c (s_fail) (SndL.c (s_fail) (SndL.c (s_aload_n (k := 0) (by decide +kernel) rfl) (SndL.c (s_sipush (by decide +kernel) (in32_d (by decide)) (by decide +kernel)) (SndL.c (s_fail) (SndL.c (s_fail) (SndL.c (s_newa (kd := 100) (atype := .int) (akd_d (by decide)) rfl (by decide) w_1_104 (fun _ _ h => h) (by decide +kernel)) (SndL.c (s_fail) (SndL.c (s_putf (k := 31) clok13 (by decide) rfl (by decide) rfl w_5_133 (Or.inl rfl) (Or.inr ⟨rfl, rfl, rfl⟩) (by decide +kernel)) (SndL.n))))))))))))))))
def kX12_init_12 : List En := [(1, oFail), (1, oFail), (0, oRload 0 195), (0, oPush (vI 20) 197), (1, oFail), (0, oNewa 100 199), (1, oFail), (0, oPutf 14 32 2 202), (1, oFail), (1, oFail), (0, oRload 0 203), (0, oPush (vI 120) 205), (1, oFail), (0, oNewa 100 207), (1, oFail), (0, oPutf 14 33 2 210)]
set_option maxRecDepth 20000 in
theorem zX12_init_12 : SndL mX12_init 192 kX12_init_12 := SndL.c (s_fail) (SndL.c (s_fail) (SndL.c (s_aload_n (k := 0) (by decide +kernel) rfl) (SndL.c (s_bipush (by decide +kernel) (in32_d (by decide)) (by decide +kernel)) (SndL.c (s_fail) (SndL.c (s_newa (kd := 100) (atype := .int) (akd_d (by decide)) rfl (by decide) w_1_104 (fun _ _ h => h) (by decide +kernel)) (SndL.c (s_fail) (SndL.c (s_putf (k := 32) clok13 (by decide) rfl (by decide) rfl w_5_134 (Or.inl rfl) (Or.inr ⟨rfl, rfl, rfl⟩) (by decide +kernel)) (SndL.c (s_fail) (SndL.c (s_fail) (SndL.c (s_aload_n (k := 0) (by decide +kernel) rfl) (SndL.c (s_bipush (by decide +kernel) (in32_d (by decide)) (by decide +kernel)) (SndL.c (s_fail) (SndL.c (s_newa (kd := 100) (atype := .int) (akd_d (by decide)) rfl (by decide) w_1_104 (fun _ _ h => h) (by decide +kernel)) (SndL.c (s_fail) (SndL.c (s_putf (k := 33) clok13 (by decide) rfl (by decide) rfl w_5_135 (Or.inl rfl) (Or.inr ⟨rfl, rfl, rfl⟩) (by decide +kernel)) (SndL.n))))))))))))))))
def kX12_init_13 : List En := [(1, oFail), (1, oFail), (0, oRload 0 211), (0, oPush (vI 20) 213), (1, oFail), (0, oNewa 100 215), (1, oFail), (0, oPutf 14 34 2 218), (1, oFail), (1, oFail), (0, oRload 0 219), (0, oPush (vI 20) 221), (1, oFail), (0, oNewa 100 223), (1, oFail), (0, oPutf 14 35 2 226)]
set_option maxRecDepth 20000 in
theorem zX12_init_13 : SndL mX12_init 208 kX12_init_13 := SndL.c (s_fail) (SndL.c (s_fail) (SndL.c (s_aload_n (k := 0) (by decide +kernel) rfl) (SndL.c (s_bipush (by decide +kernel) (in32_d (by decide)) (by decide +kernel)) (SndL.c (s_fail) (SndL.c (s_newa (kd := 100) (atype := .int) (akd_d (by decide)) rfl (by decide) w_1_104 (fun _ _ h => h) (by decide +kernel)) (SndL.c (s_fail) (SndL.c (s_putf (k := 34) clok13 (by decide) rfl (by decide) rfl w_5_136 (Or.inl rfl) (Or.inr ⟨rfl, rfl, rfl⟩) (by decide +kernel)) (SndL.c (s_fail) (SndL.c (s_fail) (SndL.c (s_aload_n (k := 0) (by decide +kernel) rfl) (SndL.c (s_bipush (by decide +kernel) (in32_d (by decide)) (by decide +kernel)) (SndL.c (s_fail) (SndL.c (s_newa (kd := 100) (atype := .int) (akd_d (by decide)) rfl (by decide) w_1_104 (fun _ _ h => h) (by decide +kernel)) (SndL.c (s_fail) (SndL.c (s_putf (k := 35) clok13 (by decide) rfl (by decide) rfl w_5_137 (Or.inl rfl) (Or.inr ⟨rfl, rfl, rfl⟩) (by decide +kernel)) (SndL.n))))))))))))))))
def kX12_init_14 : List En := [(1, oFail), (1, oFail), (0, oRload 0 227), (0, oPush (vI 20) 229), (1, oFail), (0, oNewa 100 231), (1, oFail), (0, oPutf 14 36 2 234), (1, oFail), (1, oFail), (0, oRload 0 235), (0, oPush (vI 20) 237), (1, oFail), (0, oNewa 100 239), (1, oFail), (0, oPutf 14 37 2 242)]
set_option maxRecDepth 20000 in
theorem zX12_init_14 : SndL mX12_init 224 kX12_init_14 := SndL.c (s_fail) (SndL.c (s_fail) (SndL.c (s_aload_n (k := 0) (by decide +kernel) rfl) (SndL.c (s_bipush (by decide +kernel) (in32_d (by decide)) (by decide +kernel)) (SndL.c (s_fail) (SndL.c (s_newa (kd := 100) (atype := .int) (akd_d (by decide)) rfl (by decide) w_1_104 (fun _ _ h => h) (by decide +kernel)) (SndL.c (s_fail) (SndL.c (s_putf (k := 36) clok13 (by decide) rfl (by decide) rfl w_5_138 (Or.inl rfl) (Or.inr ⟨rfl, rfl, rfl⟩) (by decide +kernel)) (SndL.c (s_fail) (SndL.c (s_fail) (SndL.c (s_aload_n (k := 0) (by decide +kernel) rfl) (SndL.c (s_bipush (by decide +kernel) (in32_d (by decide)) (by decide +kernel)) (SndL.c (s_fail) (SndL.c (s_newa (kd := 100) (atype := .int) (akd_d (by decide)) rfl (by decide) w_1_104 (fun _ _ h => h) (by decide +kernel)) (SndL.c (s_fail) (SndL.c (s_putf (k := 37) clok13 (by decide) rfl (by decide) rfl w_5_139 (Or.inl rfl) (Or.inr ⟨rfl, rfl, rfl⟩) (by decide +kernel)) (SndL.n))))))))))))))))
def kX12_init_15 : List En := [(1, oFail), (1, oFail), (0, oRload 0 243), (0, oPush (vI 20) 245), (1, oFail), (0, oNewa 100 247), (1, oFail), (0, oPutf 14 38 2 250), (1, oFail), (1, oFail), (0, oRload 0 251), (0, oPush (vI 20) 253), (1, oFail), (0, oNewa 100 255), (1, oFail), (0, oPutf 14 39 2 258)]
set_option maxRecDepth 20000 in
theorem zX12_init_15 : SndL mX12_init 240 kX12_init_15 := SndL.c (s_fail) (SndL.c (s_fail) (SndL.c (s_aload_n (k := 0) (by decide +kernel) rfl) (SndL.c (s_bipush (by decide +kernel) (in32_d (by decide)) (by decide +kernel)) (SndL.c (s_fail) (SndL.c (s_newa (kd := 100) (atype := .int) (akd_d (by decide)) rfl (by decide) w_1_104 (fun _ _ h => h) (by decide +kernel)) (SndL.c (s_fail) (SndL.c (s_putf (k := 38) clok13 (by decide) rfl (by decide) rfl w_5_140 (Or.inl rfl) (Or.inr ⟨rfl, rfl, rfl⟩) (by decide +kernel)) (SndL.c (s_fail) (SndL.c (s_fail) (SndL.c (s_aload_n (k := 0) (by decide +kernel) rfl) (SndL.c (s_bipush (by decide +kernel) (in32_d (by decide)) (by decide +kernel)) (SndL.c (s_fail) (SndL.c (s_newa (kd := 100) (atype := .int) (akd_d (by decide)) rfl (by decide) w_1_104 (fun _ _ h => h) (by decide +kernel)) (SndL.c (s_fail) (SndL.c (s_putf (k := 39) clok13 (by decide) rfl (by decide) rfl w_5_141 (Or.inl rfl) (Or.inr ⟨rfl, rfl, rfl⟩) (by decide +kernel)) (SndL.n))))))))))))))))
def kX12_init_16 : List En := [(1, oFail), (1, oFail), (0, oRload 0 259), (0, oPush (vI 40) 261), (1, oFail), (0, oNewa 100 263), (1, oFail), (0, oPutf 14 40 2 266), (1, oFail), (1, oFail), (0, oRload 0 267), (0, oPush (vI 40) 269), (1, oFail), (0, oNewa 100 271), (1, oFail), (0, oPutf 14 41 2 274)]
set_option maxRecDepth 20000 in
theorem zX12_init_16 : SndL mX12_init 256 kX12_init_16 := SndL.c (s_fail) (SndL.c (s_fail) (SndL.c (s_aload_n (k := 0) (by decide +kernel) rfl) (SndL.c (s_bipush (by decide +kernel) (in32_d (by decide)) (by decide +kernel)) (SndL.c (s_fail) (SndL.c (s_newa (kd := 100) (atype := .int) (akd_d (by decide)) rfl (by decide) w_1_104 (fun _ _ h => h) (by decide +kernel)) (SndL.c (s_fail) (SndL.c (s_putf (k := 40) clok13 (by decide) rfl (by decide) rfl w_5_142 (Or.inl rfl) (Or.inr ⟨rfl, rfl, rfl⟩) (by decide +kernel)) (SndL.c (s_fail) (SndL.c (s_fail) (SndL.c (s_aload_n (k := 0) (by decide +kernel) rfl) (SndL.c (s_bipush (by decide +kernel) (in32_d (by decide)) (by decide +kernel)) (SndL.c (s_fail) (SndL.c (s_newa (kd := 100) (atype := .int) (akd_d (by decide)) rfl (by decide) w_1_104 (fun _ _ h => h) (by decide +kernel)) (SndL.c (s_fail) (SndL.c (s_putf (k := 41) clok13 (by decide) rfl (by decide) rfl w_5_143 (Or.inl rfl) (Or.inr ⟨rfl, rfl, rfl⟩) (by decide +kernel)) (SndL.n))))))))))))))))
def kX12_init_17 : List En := [(1, oFail), (1, oFail), (0, oRload 0 275), (0, oPush (vI 40) 277), (1, oFail), (0, oNewa 100 279), (1, oFail), (0, oPutf 14 42 2 282), (1, oFail), (1, oFail), (0, oRload 0 283), (0, oPush (vI 40) 285), (1, oFail), (0, oNewa 100 287), (1, oFail), (0, oPutf 14 43 2 290)]
set_option maxRecDepth 20000 in
theorem zX12_init_17 : SndL mX12_init 272 kX12_init_17 := SndL.c (s_fail) (SndL.c (s_fail) (SndL.c (s_aload_n (k := 0) (by decide +kernel) rfl) (SndL.c (s_bipush (by decide +kernel) (in32_d (by decide)) (by decide +kernel)) (SndL.c (s_fail) (SndL.c (s_newa (kd := 100) (atype := .int) (akd_d (by decide)) rfl (by decide) w_1_104 (fun _ _ h => h) (by decide +kernel)) (SndL.c (s_fail) (SndL.c (s_putf (k := 42) clok13 (by decide) rfl (by decide) rfl w_5_144 (Or.inl rfl) (Or.inr ⟨rfl, rfl, rfl⟩) (by decide +kernel)) (SndL.c (s_fail) (SndL.c (s_fail) (SndL.c (s_aload_n (k := 0) (by decide +kernel) rfl) (SndL.c (s_bipush (by decide +kernel) (in32_d (by decide)) (by decide +kernel)) (SndL.c (s_fail) (SndL.c (s_newa (kd := 100) (atype := .int) (akd_d (by decide)) rfl (by decide) w_1_104 (fun _ _ h => h) (by decide +kernel)) (SndL.c (s_fail) (SndL.c (s_putf (k := 43) clok13 (by decide) rfl (by decide) rfl w_5_145 (Or.inl rfl) (Or.inr ⟨rfl, rfl, rfl⟩) (by decide +kernel)) (SndL.n))))))))))))))))
def kX12_init_18 : List En := [(1, oFail), (1, oFail), (0, oRload 0 291), (0, oPush (vI 2400) 294), (1, oFail), (1, oFail), (0, oNewa 100 296), (1, oFail), (0, oPutf 14 44 2 299), (1, oFail), (1, oFail), (0, oRload 0 300), (0, oPush (vI 17) 302), (1, oFail), (0, oNewa 100 304), (1, oFail)]
set_option maxRecDepth 20000 in
theorem zX12_init_18 : SndL mX12_init 288 kX12_init_18 := SndL.c (s_fail) (SndL.c (s_fail) (SndL.c (s_aload_n (k := 0) (by decide +kernel) rfl) (SndL.c (s_sipush (by decide +kernel) (in32_d (by decide)) (by decide +kernel)) (SndL.c (s_fail) (SndL.c (s_fail) (SndL.c (s_newa (kd := 100) (atype := .int) (akd_d (by decide)) rfl (by decide) w_1_104 (fun _ _ h => h) (by decide +kernel)) (SndL.c (s_fail) (SndL.c (s_putf (k := 44) clok13 (by decide) rfl (by decide) rfl w_5_146 (Or.inl rfl) (Or.inr ⟨rfl, rfl, rfl⟩) (by decide +kernel)) (SndL.c (s_fail) (SndL.c (s_fail) (SndL.c (s_aload_n (k := 0) (by decide +kernel) rfl) (SndL.c (s_bipush (by decide +kernel) (in32_d (by decide)) (by decide +kernel)) (SndL.c (s_fail) (SndL.c (s_newa (kd := 100) (atype := .int) (akd_d (by decide)) rfl (by decide) w_1_104 (fun _ _ h => h) (by decide +kernel)) (SndL.c (s_fail) (SndL.n))))))))))))))))
def kX12_init_19 : List En := [(0, oPutf 14 45 2 307), (1, oFail), (1, oFail), (0, oRload 0 308), (0, oPush (vI 17) 310), (1, oFail), (0, oNewa 100 312), (1, oFail), (0, oPutf 14 46 2 315), (1, oFail), (1, oFail), (0, oRload 0 316), (0, oPush (vI 17) 318), (1, oFail), (0, oNewa 100 320), (1, oFail)]
set_option maxRecDepth 20000 in
theorem zX12_init_19 : SndL mX12_init 304 kX12_init_19 := SndL.c (s_putf (k := 45) clok13 (by decide) rfl (by decide) rfl w_5_147 (Or.inl rfl) (Or.inr ⟨rfl, rfl, rfl⟩) (by decide +kernel)) (SndL.c (s_fail) (SndL.c (s_fail) (SndL.c (s_aload_n (k := 0) (by decide +kernel) rfl) (SndL.c (s_bipush (by decide +kernel) (in32_d (by decide)) (by decide +kernel)) (SndL.c (s_fail) (SndL.c (s_newa (kd := 100) (atype := .int) (akd_d (by decide)) rfl (by decide) w_1_104 (fun _ _ h => h) (by decide +kernel)) (SndL.c (s_fail) (SndL.c (s_putf (k := 46) clok13 (by decide) rfl (by decide) rfl w_5_148 (Or.inl rfl) (Or.inr ⟨rfl, rfl, rfl⟩) (by decide +kernel)) (SndL.c (s_fail) (SndL.c (s_fail) (SndL.c (s_aload_n (k := 0) (by decide +kernel) rfl) (SndL.c (s_bipush (by decide +kernel) (in32_d (by decide)) (by decide +kernel)) (SndL.c (s_fail) (SndL.c (s_newa (kd := 100) (atype := .int) (akd_d (by decide)) rfl (by decide) w_1_104 (fun _ _ h => h) (by decide +kernel)) (SndL.c (s_fail) (SndL.n))))))))))))))))
def kX12_init_20 : List En := [(0, oPutf 14 47 2 323), (1, oFail), (1, oFail), (0, oRload 0 324), (0, oPush (vI 17) 326), (1, oFail), (0, oNewa 100 328), (1, oFail), (0, oPutf 14 48 2 331), (1, oFail), (1, oFail), (0, oRload 0 332), (0, oPush (vI 1700) 335), (1, oFail), (1, oFail), (0, oNewa 100 337)]
set_option maxRecDepth 20000 in
theorem zX12_init_20 : SndL mX12_init 320 kX12_init_20 := SndL.c (s_putf (k := 47) clok13 (by decide) rfl (by decide) rfl w_5_149 (Or.inl rfl) (Or.inr ⟨rfl, rfl, rfl⟩) (by decide +kernel)) (SndL.c (s_fail) (SndL.c (s_fail) (SndL.c (s_aload_n (k := 0) (by decide +kernel) rfl) (SndL.c (s_bipush (by decide +kernel) (in32_d (by decide)) (by decide +kernel)) (SndL.c (s_fail) (SndL.c (s_newa (kd := 100) (atype := .int) (akd_d (by decide)) rfl (by decide) w_1_104 (fun _ _ h => h) (by decide +kernel)) (SndL.c (s_fail) (SndL.c (s_putf (k := 48) clok13 (by decide) rfl (by decide) rfl w_5_150 (Or.inl rfl) (Or.inr ⟨rfl, rfl, rfl⟩) (by decide +kernel)) (SndL.c (s_fail) (SndL.c (s_fail) (SndL.c (s_aload_n (k := 0) (by decide +kernel) rfl) (SndL.c (s_sipush (by decide +kernel) (in32_d (by decide)) (by decide +kernel)) (SndL.c (s_fail) (SndL.c (s_fail) (SndL.c (s_newa (kd := 100) (atype := .int) (akd_d (by decide)) rfl (by decide) w_1_104 (fun _ _ h => h) (by decide +kernel)) (SndL.n))))))))))))))))
def kX12_init_21 : List En := [(1, oFail), (0, oPutf 14 49 2 340), (1, oFail), (1, oFail), (0, oRload 0 341), (0, oPush (vI 680) 344), (1, oFail), (1, oFail), (0, oNewa 100 346), (1, oFail), (0, oPutf 14 50 2 349), (1, oFail), (1, oFail), (0, oRload 0 350), (0, oPush (vI 680) 353), (1, oFail)]
set_option maxRecDepth 20000 in
theorem zX12_init_21 : SndL mX12_init 336 kX12_init_21 := SndL.c (s_fail) (SndL.c (s_putf (k := 49) clok13 (by decide) rfl (by decide) rfl w_5_151 (Or.inl rfl) (Or.inr ⟨rfl, rfl, rfl⟩) (by decide +kernel)) (SndL.c (s_fail) (SndL.c (s_fail) (SndL.c (s_aload_n (k := 0) (by decide +kernel) rfl) (SndL.c (s_sipush (by decide +kernel) (in32_d (by decide)) (by decide +kernel)) (SndL.c (s_fail) (SndL.c (s_fail) (SndL.c (s_newa (kd := 100) (atype := .int) (akd_d (by decide)) rfl (by decide) w_1_104 (fun _ _ h => h) (by decide +kernel)) (SndL.c (s_fail) (SndL.c (s_putf (k := 50) clok13 (by decide) rfl (by decide) rfl w_5_152 (Or.inl rfl) (Or.inr ⟨rfl, rfl, rfl⟩) (by decide +kernel)) (SndL.c (s_fail) (SndL.c (s_fail) (SndL.c (s_aload_n (k := 0) (by decide +kernel) rfl) (SndL.c (s_sipush (by decide +kernel) (in32_d (by decide)) (by decide +kernel)) (SndL.c (s_fail) (SndL.n))))))))))))))))
def kX12_init_22 : List En := [(1, oFail), (0, oNewa 100 355), (1, oFail), (0, oPutf 14 51 2 358), (1, oFail), (1, oFail), (0, oRload 0 359), (0, oPush (vI 680) 362), (1, oFail), (1, oFail), (0, oNewa 100 364), (1, oFail), (0, oPutf 14 52 2 367), (1, oFail), (1, oFail), (0, oRload 0 368)]
set_option maxRecDepth 20000 in
theorem zX12_init_22 : SndL mX12_init 352 kX12_init_22 := SndL.c (s_fail) (SndL.c (s_newa (kd := 100) (atype := .int) (akd_d (by decide)) rfl (by decide) w_1_104 (fun _ _ h => h) (by decide +kernel)) (SndL.c (s_fail) (SndL.c (s_putf (k := 51) clok13 (by decide) rfl (by decide) rfl w_5_153 (Or.inl rfl) (Or.inr ⟨rfl, rfl, rfl⟩) (by decide +kernel)) (SndL.c (s_fail) (SndL.c (s_fail) (SndL.c (s_aload_n (k := 0) (by decide +kernel) rfl) (SndL.c (s_sipush (by decide +kernel) (in32_d (by decide)) (by decide +kernel)) (SndL.c (s_fail) (SndL.c (s_fail) (SndL.c (s_newa (kd := 100) (atype := .int) (akd_d (by decide)) rfl (by decide) w_1_104 (fun _ _ h => h) (by decide +kernel)) (SndL.c (s_fail) (SndL.c (s_putf (k := 52) clok13 (by decide) rfl (by decide) rfl w_5_154 (Or.inl rfl) (Or.inr ⟨rfl, rfl, rfl⟩) (by decide +kernel)) (SndL.c (s_fail) (SndL.c (s_fail) (SndL.c (s_aload_n (k := 0) (by decide +kernel) rfl) (SndL.n))))))))))))))))
def kX12_init_23 : List En := [(0, oPush (vI 680) 371), (1, oFail), (1, oFail), (0, oNewa 100 373), (1, oFail), (0, oPutf 14 53 2 376), (1, oFail), (1, oFail), (0, oRload 0 377), (0, oPush (vI 680) 380), (1, oFail), (1, oFail), (0, oNewa 100 382), (1, oFail), (0, oPutf 14 54 2 385), (1, oFail)]
set_option maxRecDepth 20000 in
theorem zX12_init_23 : SndL mX12_init 368 kX12_init_23 := SndL.c (s_sipush (by decide +kernel) (in32_d (by decide)) (by decide +kernel)) (SndL.c (s_fail) (SndL.c (s_fail) (SndL.c (s_newa (kd := 100) (atype := .int) (akd_d (by decide)) rfl (by decide) w_1_104 (fun _ _ h => h) (by decide +kernel)) (SndL.c (s_fail) (SndL.c (s_putf (k := 53) clok13 (by decide) rfl (by decide) rfl w_5_155 (Or.inl rfl) (Or.inr ⟨rfl, rfl, rfl⟩) (by decide +kernel)) (SndL.c (s_fail) (SndL.c (s_fail) (SndL.c (s_aload_n (k := 0) (by decide +kernel) rfl) (SndL.c (s_sipush (by decide +kernel) (in32_d (by decide)) (by decide +kernel)) (SndL.c (s_fail) (SndL.c (s_fail) (SndL.c (s_newa (kd := 100) (atype := .int) (akd_d (by decide)) rfl (by decide) w_1_104 (fun _ _ h => h) (by decide +kernel)) (SndL.c (s_fail) (SndL.c (s_putf (k := 54) clok13 (by decide) rfl (by decide) rfl w_5_156 (Or.inl rfl) (Or.inr ⟨rfl, rfl, rfl⟩) (by decide +kernel)) (SndL.c (s_fail) (SndL.n))))))))))))))))
def kX12_init_24 : List En := [(1, oFail), (0, oRload 0 386), (0, oPush (vI 9) 388), (1, oFail), (0, oNewa 100 390), (1, oFail), (0, oPutf 14 55 2 393), (1, oFail), (1, oFail), (0, oRload 0 394), (0, oPush (vI 40) 396), (1, oFail), (0, oNewa 100 398), (1, oFail), (0, oPutf 14 56 2 401), (1, oFail)]
set_option maxRecDepth 20000 in
theorem zX12_init_24 : SndL mX12_init 384 kX12_init_24 := SndL.c (s_fail) (SndL.c (s_aload_n (k := 0) (by decide +kernel) rfl) (SndL.c (s_bipush (by decide +kernel) (in32_d (by decide)) (by decide +kernel)) (SndL.c (s_fail) (SndL.c (s_newa (kd := 100) (atype := .int) (akd_d (by decide)) rfl (by decide) w_1_104 (fun _ _ h => h) (by decide +kernel)) (SndL.c (s_fail) (SndL.c (s_putf (k := 55) clok13 (by decide) rfl (by decide) rfl w_5_157 (Or.inl rfl) (Or.inr ⟨rfl, rfl, rfl⟩) (by decide +kernel)) (SndL.c (s_fail) (SndL.c (s_fail) (SndL.c (s_aload_n (k := 0) (by decide +kernel) rfl) (SndL.c (s_bipush (by decide +kernel) (in32_d (by decide)) (by decide +kernel)) (SndL.c (s_fail) (SndL.c (s_newa (kd := 100) (atype := .int) (akd_d (by decide)) rfl (by decide) w_1_104 (fun _ _ h => h) (by decide +kernel)) (SndL.c (s_fail) (SndL.c (s_putf (k := 56) clok13 (by decide) rfl (by decide) rfl w_5_158 (Or.inl rfl) (Or.inr ⟨rfl, rfl, rfl⟩) (by decide +kernel)) (SndL.c (s_fail) (SndL.n))))))))))))))))
def kX12_init_25 : List En := [(1, oFail), (0, oRload 0 402), (0, oPush (vI 40) 404), (1, oFail), (0, oNewa 100 406), (1, oFail), (0, oPutf 14 57 2 409), (1, oFail), (1, oFail), (0, oRload 0 410), (0, oPush (vI 40) 412), (1, oFail), (0, oNewa 100 414), (1, oFail), (0, oPutf 14 58 2 417), (1, oFail)]
set_option maxRecDepth 20000 in
theorem zX12_init_25 : SndL mX12_init 400 kX12_init_25 := SndL.c (s_fail) (SndL.c (s_aload_n (k := 0) (by decide +kernel) rfl) (SndL.c (s_bipush (by decide +kernel) (in32_d (by decide)) (by decide +kernel)) (SndL.c (s_fail) (SndL.c (s_newa (kd := 100) (atype := .int) (akd_d (by decide)) rfl (by decide) w_1_104 (fun _ _ h => h) (by decide +kernel)) (SndL.c (s_fail) (SndL.c (s_putf (k := 57) clok13 (by decide) rfl (by decide) rfl w_5_159 (Or.inl rfl) (Or.inr ⟨rfl, rfl, rfl⟩) (by decide +kernel)) (SndL.c (s_fail) (SndL.c (s_fail) (SndL.c (s_aload_n (k := 0) (by decide +kernel) rfl) (SndL.c (s_bipush (by decide +kernel) (in32_d (by decide)) (by decide +kernel)) (SndL.c (s_fail) (SndL.c (s_newa (kd := 100) (atype := .int) (akd_d (by decide)) rfl (by decide) w_1_104 (fun _ _ h => h) (by decide +kernel)) (SndL.c (s_fail) (SndL.c (s_putf (k := 58) clok13 (by decide) rfl (by decide) rfl w_5_160 (Or.inl rfl) (Or.inr ⟨rfl, rfl, rfl⟩) (by decide +kernel)) (SndL.c (s_fail) (SndL.n))))))))))))))))
def kX12_init_26 : List En := [(1, oFail), (0, oRload 0 418), (0, oPush (vI 40) 420), (1, oFail), (0, oNewa 100 422), (1, oFail), (0, oPutf 14 59 2 425), (1, oFail), (1, oFail), (0, oRload 0 426), (0, oPush (vI 40) 428), (1, oFail), (0, oNewa 100 430), (1, oFail), (0, oPutf 14 60 2 433), (1, oFail)]
set_option maxRecDepth 20000 in
theorem zX12_init_26 : SndL mX12_init 416 kX12_init_26 := SndL.c (s_fail) (SndL.c (s_aload_n (k := 0) (by decide +kernel) rfl) (SndL.c (s_bipush (by decide +kernel) (in32_d (by decide)) (by decide +kernel)) (SndL.c (s_fail) (SndL.c (s_newa (kd := 100) (atype := .int) (akd_d (by decide)) rfl (by decide) w_1_104 (fun _ _ h => h) (by decide +kernel)) (SndL.c (s_fail) (SndL.c (s_putf (k := 59) clok13 (by decide) rfl (by decide) rfl w_5_161 (Or.inl rfl) (Or.inr ⟨rfl, rfl, rfl⟩) (by decide +kernel)) (SndL.c (s_fail) (SndL.c (s_fail) (SndL.c (s_aload_n (k := 0) (by decide +kernel) rfl) (SndL.c (s_bipush (by decide +kernel) (in32_d (by decide)) (by decide +kernel)) (SndL.c (s_fail) (SndL.c (s_newa (kd := 100) (atype := .int) (akd_d (by decide)) rfl (by decide) w_1_104 (fun _ _ h => h) (by decide +kernel)) (SndL.c (s_fail) (SndL.c (s_putf (k := 60) clok13 (by decide) rfl (by decide) rfl w_5_162 (Or.inl rfl) (Or.inr ⟨rfl, rfl, rfl⟩) (by decide +kernel)) (SndL.c (s_fail) (SndL.n))))))))))))))))
def kX12_init_27 : List En := [(1, oFail), (0, oRload 0 434), (0, oPush (vI 40) 436), (1, oFail), (0, oNewa 100 438), (1, oFail), (0, oPutf 14 61 2 441), (1, oFail), (1, oFail), (0, oRload 0 442), (0, oPush (vI 40) 444), (1, oFail), (0, oNewa 100 446), (1, oFail), (0, oPutf 14 62 2 449), (1, oFail)]
set_option maxRecDepth 20000 in
theorem zX12_init_27 : SndL mX12_init 432 kX12_init_27 := SndL.c (s_fail) (SndL.c (s_aload_n (k := 0) (by decide +kernel) rfl) (SndL.c (s_bipush (by decide +kernel) (in32_d (by decide)) (by decide +kernel)) (SndL.c (s_fail) (SndL.c (s_newa (kd := 100) (atype := .int) (akd_d (by decide)) rfl (by decide) w_1_104 (fun _ _ h => h) (by decide +kernel)) (SndL.c (s_fail) (SndL.c (s_putf (k := 61) clok13 (by decide) rfl (by decide) rfl w_5_163 (Or.inl rfl) (Or.inr ⟨rfl, rfl, rfl⟩) (by decide +kernel)) (SndL.c (s_fail) (SndL.c (s_fail) (SndL.c (s_aload_n (k := 0) (by decide +kernel) rfl) (SndL.c (s_bipush (by decide +kernel) (in32_d (by decide)) (by decide +kernel)) (SndL.c (s_fail) (SndL.c (s_newa (kd := 100) (atype := .int) (akd_d (by decide)) rfl (by decide) w_1_104 (fun _ _ h => h) (by decide +kernel)) (SndL.c (s_fail) (SndL.c (s_putf (k := 62) clok13 (by decide) rfl (by decide) rfl w_5_164 (Or.inl rfl) (Or.inr ⟨rfl, rfl, rfl⟩) (by decide +kernel)) (SndL.c (s_fail) (SndL.n))))))))))))))))
def kX12_init_28 : List En := [(1, oFail), (0, oRload 0 450), (0, oPush (vI 40) 452), (1, oFail), (0, oNewa 100 454), (1, oFail), (0, oPutf 14 63 2 457), (1, oFail), (1, oFail), (0, oRload 0 458), (0, oPush (vI 40) 460), (1, oFail), (0, oNewa 100 462), (1, oFail), (0, oPutf 14 64 2 465), (1, oFail)]
set_option maxRecDepth 20000 in
theorem zX12_init_28 : SndL mX12_init 448 kX12_init_28 := SndL.c (s_fail) (SndL.c (s_aload_n (k := 0) (by decide +kernel) rfl) (SndL.c (s_bipush (by decide +kernel) (in32_d (by decide)) (by decide +kernel)) (SndL.c (s_fail) (SndL.c (s_newa (kd := 100) (atype := .int) (akd_d (by decide)) rfl (by decide) w_1_104 (fun _ _ h => h) (by decide +kernel)) (SndL.c (s_fail) (SndL.c (s_putf (k := 63) clok13 (by decide) rfl (by decide) rfl w_5_165 (Or.inl rfl) (Or.inr ⟨rfl, rfl, rfl⟩) (by decide +kernel)) (SndL.c (s_fail) (SndL.c (s_fail) (SndL.c (s_aload_n (k := 0) (by decide +kernel) rfl) (SndL.c (s_bipush (by decide +kernel) (in32_d (by decide)) (by decide +kernel)) (SndL.c (s_fail) (SndL.c (s_newa (kd := 100) (atype := .int) (akd_d (by decide)) rfl (by decide) w_1_104 (fun _ _ h => h) (by decide +kernel)) (SndL.c (s_fail) (SndL.c (s_putf (k := 64) clok13 (by decide) rfl (by decide) rfl w_5_166 (Or.inl rfl) (Or.inr ⟨rfl, rfl, rfl⟩) (by decide +kernel)) (SndL.c (s_fail) (SndL.n))))))))))))))))
def kX12_init_29 : List En := [(1, oFail), (0, oRload 0 466), (0, oPush (vI 40) 468), (1, oFail), (0, oNewa 100 470), (1, oFail), (0, oPutf 14 65 2 473), (1, oFail), (1, oFail), (0, oRload 0 474), (0, oPush (vI 40) 476), (1, oFail), (0, oNewa 100 478), (1, oFail), (0, oPutf 14 66 2 481), (1, oFail)]
set_option maxRecDepth 20000 in
theorem zX12_init_29 : SndL mX12_init 464 kX12_init_29 := SndL.c (s_fail) (SndL.c (s_aload_n (k := 0) (by decide +kernel) rfl) (SndL.c (s_bipush (by decide +kernel) (in32_d (by decide)) (by decide +kernel)) (SndL.c (s_fail) (SndL.c (s_newa (kd := 100) (atype := .int) (akd_d (by decide)) rfl (by decide) w_1_104 (fun _ _ h => h) (by decide +kernel)) (SndL.c (s_fail) (SndL.c (s_putf (k := 65) clok13 (by decide) rfl (by decide) rfl w_5_167 (Or.inl rfl) (Or.inr ⟨rfl, rfl, rfl⟩) (by decide +kernel)) (SndL.c (s_fail) (SndL.c (s_fail) (SndL.c (s_aload_n (k := 0) (by decide +kernel) rfl) (SndL.c (s_bipush (by decide +kernel) (in32_d (by decide)) (by decide +kernel)) (SndL.c (s_fail) (SndL.c (s_newa (kd := 100) (atype := .int) (akd_d (by decide)) rfl (by decide) w_1_104 (fun _ _ h => h) (by decide +kernel)) (SndL.c (s_fail) (SndL.c (s_putf (k := 66) clok13 (by decide) rfl (by decide) rfl w_5_168 (Or.inl rfl) (Or.inr ⟨rfl, rfl, rfl⟩) (by decide +kernel)) (SndL.c (s_fail) (SndL.n))))))))))))))))
def kX12_init_30 : List En := [(1, oFail), (0, oRload 0 482), (0, oPush (vI 40) 484), (1, oFail), (0, oNewa 103 486), (1, oFail), (0, oPutf 14 67 2 489), (1, oFail), (1, oFail), (0, oRload 0 490), (0, oPush (vI 40) 492), (1, oFail), (0, oNewa 103 494), (1, oFail), (0, oPutf 14 68 2 497), (1, oFail)]
set_option maxRecDepth 20000 in
theorem zX12_init_30 : SndL mX12_init 480 kX12_init_30 := SndL.c (s_fail) (SndL.c (s_aload_n (k := 0) (by decide +kernel) rfl) (SndL.c (s_bipush (by decide +kernel) (in32_d (by decide)) (by decide +kernel)) (SndL.c (s_fail) (SndL.c (s_newa (kd := 103) (atype := .boolean) (akd_d (by decide)) rfl (by decide) w_6_133 (fun _ _ h => h) (by decide +kernel)) (SndL.c (s_fail) (SndL.c (s_putf (k := 67) clok13 (by decide) rfl (by decide) rfl w_5_169 (Or.inl rfl) (Or.inr ⟨rfl, rfl, rfl⟩) (by decide +kernel)) (SndL.c (s_fail) (SndL.c (s_fail) (SndL.c (s_aload_n (k := 0) (by decide +kernel) rfl) (SndL.c (s_bipush (by decide +kernel) (in32_d (by decide)) (by decide +kernel)) (SndL.c (s_fail) (SndL.c (s_newa (kd := 103) (atype := .boolean) (akd_d (by decide)) rfl (by decide) w_6_133 (fun _ _ h => h) (by decide +kernel)) (SndL.c (s_fail) (SndL.c (s_putf (k := 68) clok13 (by decide) rfl (by decide) rfl w_5_170 (Or.inl rfl) (Or.inr ⟨rfl, rfl, rfl⟩) (by decide +kernel)) (SndL.c (s_fail) (SndL.n))))))))))))))))
def kX12_init_31 : List En := [(1, oFail), (0, oRload 0 498), (0, oPush (vI 40) 500), (1, oFail), (0, oNewa 103 502), (1, oFail), (0, oPutf 14 69 2 505), (1, oFail), (1, oFail), (0, oRload 0 506), (0, oPush (vI 8) 508), (1, oFail), (0, oNewa 100 510), (1, oFail), (0, oPutf 14 70 2 513), (1, oFail)]
set_option maxRecDepth 20000 in
theorem zX12_init_31 : SndL mX12_init 496 kX12_init_31 := SndL.c (s_fail) (SndL.c (s_aload_n (k := 0) (by decide +kernel) rfl) (SndL.c (s_bipush (by decide +kernel) (in32_d (by decide)) (by decide +kernel)) (SndL.c (s_fail) (SndL.c (s_newa (kd := 103) (atype := .boolean) (akd_d (by decide)) rfl (by decide) w_6_133 (fun _ _ h => h) (by decide +kernel)) (SndL.c (s_fail) (SndL.c (s_putf (k := 69) clok13 (by decide) rfl (by decide) rfl w_5_171 (Or.inl rfl) (Or.inr ⟨rfl, rfl, rfl⟩) (by decide +kernel)) (SndL.c (s_fail) (SndL.c (s_fail) (SndL.c (s_aload_n (k := 0) (by decide +kernel) rfl) (SndL.c (s_bipush (by decide +kernel) (in32_d (by decide)) (by decide +kernel)) (SndL.c (s_fail) (SndL.c (s_newa (kd := 100) (atype := .int) (akd_d (by decide)) rfl (by decide) w_1_104 (fun _ _ h => h) (by decide +kernel)) (SndL.c (s_fail) (SndL.c (s_putf (k := 70) clok13 (by decide) rfl (by decide) rfl w_5_172 (Or.inl rfl) (Or.inr ⟨rfl, rfl, rfl⟩) (by decide +kernel)) (SndL.c (s_fail) (SndL.n))))))))))))))))
def kX12_init_32 : List En := [(1, oFail), (0, oRload 0 514), (0, oPush (vI 20) 516), (1, oFail), (0, oNewa 100 518), (1, oFail), (0, oPutf 14 71 2 521), (1, oFail), (1, oFail), (0, oRload 0 522), (0, oPush (vI 24) 524), (1, oFail), (0, oNewa 100 526), (1, oFail), (0, oPutf 14 73 2 529), (1, oFail)]
set_option maxRecDepth 20000 in
theorem zX12_init_32 : SndL mX12_init 512 kX12_init_32 := SndL.c (s_fail) (SndL.c (s_aload_n (k := 0) (by decide +kernel) rfl) (SndL.c (s_bipush (by decide +kernel) (in32_d (by decide)) (by decide +kernel)) (SndL.c (s_fail) (SndL.c (s_newa (kd := 100) (atype := .int) (akd_d (by decide)) rfl (by decide) w_1_104 (fun _ _ h => h) (by decide +kernel)) (SndL.c (s_fail) (SndL.c (s_putf (k := 71) clok13 (by decide) rfl (by decide) rfl w_5_173 (Or.inl rfl) (Or.inr ⟨rfl, rfl, rfl⟩) (by decide +kernel)) (SndL.c (s_fail) (SndL.c (s_fail) (SndL.c (s_aload_n (k := 0) (by decide +kernel) rfl) (SndL.c (s_bipush (by decide +kernel) (in32_d (by decide)) (by decide +kernel)) (SndL.c (s_fail) (SndL.c (s_newa (kd := 100) (atype := .int) (akd_d (by decide)) rfl (by decide) w_1_104 (fun _ _ h => h) (by decide +kernel)) (SndL.c (s_fail) (SndL.c (s_putf (k := 73) clok13 (by decide) rfl (by decide) rfl w_5_175 (Or.inl rfl) (Or.inr ⟨rfl, rfl, rfl⟩) (by decide +kernel)) (SndL.c (s_fail) (SndL.n))))))))))))))))
def kX12_init_33 : List En := [(1, oFail), (0, oRload 0 530), (0, oPush (vI 24) 532), (1, oFail), (0, oNewa 100 534), (1, oFail), (0, oPutf 14 74 2 537), (1, oFail), (1, oFail), (0, oRload 0 538), (0, oPush (vI 100) 540), (1, oFail), (0, oNewa 100 542), (1, oFail), (0, oPutf 14 78 2 545), (1, oFail)]
set_option maxRecDepth 20000 in
theorem zX12_init_33 : SndL mX12_init 528 kX12_init_33 := SndL.c (s_fail) (SndL.c (s_aload_n (k := 0) (by decide +kernel) rfl) (SndL.c (s_bipush (by decide +kernel) (in32_d (by decide)) (by decide +kernel)) (SndL.c (s_fail) (SndL.c (s_newa (kd := 100) (atype := .int) (akd_d (by decide)) rfl (by decide) w_1_104 (fun _ _ h => h) (by decide +kernel)) (SndL.c (s_fail) (SndL.c (s_putf (k := 74) clok13 (by decide) rfl (by decide) rfl w_5_176 (Or.inl rfl) (Or.inr ⟨rfl, rfl, rfl⟩) (by decide +kernel)) (SndL.c (s_fail) (SndL.c (s_fail) (SndL.c (s_aload_n (k := 0) (by decide +kernel) rfl) (SndL.c (s_bipush (by decide +kernel) (in32_d (by decide)) (by decide +kernel)) (SndL.c (s_fail) (SndL.c (s_newa (kd := 100) (atype := .int) (akd_d (by decide)) rfl (by decide) w_1_104 (fun _ _ h => h) (by decide +kernel)) (SndL.c (s_fail) (SndL.c (s_putf (k := 78) clok13 (by decide) rfl (by decide) rfl w_5_180 (Or.inl rfl) (Or.inr ⟨rfl, rfl, rfl⟩) (by decide +kernel)) (SndL.c (s_fail) (SndL.n))))))))))))))))
def kX12_init_34 : List En := [(1, oFail), (0, oRload 0 546), (0, oPush (vI 60) 548), (1, oFail), (0, oNewa 100 550), (1, oFail), (0, oPutf 14 79 2 553), (1, oFail), (1, oFail), (0, oRload 0 554), (0, oPush (vI 20) 556), (1, oFail), (0, oNewa 103 558), (1, oFail), (0, oPutf 14 89 2 561), (1, oFail)]
set_option maxRecDepth 20000 in
theorem zX12_init_34 : SndL mX12_init 544 kX12_init_34 := SndL.c (s_fail) (SndL.c (s_aload_n (k := 0) (by decide +kernel) rfl) (SndL.c (s_bipush (by decide +kernel) (in32_d (by decide)) (by decide +kernel)) (SndL.c (s_fail) (SndL.c (s_newa (kd := 100) (atype := .int) (akd_d (by decide)) rfl (by decide) w_1_104 (fun _ _ h => h) (by decide +kernel)) (SndL.c (s_fail) (SndL.c (s_putf (k := 79) clok13 (by decide) rfl (by decide) rfl w_5_181 (Or.inl rfl) (Or.inr ⟨rfl, rfl, rfl⟩) (by decide +kernel)) (SndL.c (s_fail) (SndL.c (s_fail) (SndL.c (s_aload_n (k := 0) (by decide +kernel) rfl) (SndL.c (s_bipush (by decide +kernel) (in32_d (by decide)) (by decide +kernel)) (SndL.c (s_fail) (SndL.c (s_newa (kd := 103) (atype := .boolean) (akd_d (by decide)) rfl (by decide) w_6_133 (fun _ _ h => h) (by decide +kernel)) (SndL.c (s_fail) (SndL.c (s_putf (k := 89) clok13 (by decide) rfl (by decide) rfl w_5_191 (Or.inl rfl) (Or.inr ⟨rfl, rfl, rfl⟩) (by decide +kernel)) (SndL.c (s_fail) (SndL.n))))))))))))))))
def kX12_init_35 : List En := [(1, oFail), (0, oPush (vI 0) 562), (0, oIstore 1 563), (1, oIload 1 564), (0, oPush (vI 192) 567), (1, oFail), (1, oFail), (0, oIcGe 590 570), (1, oFail), (1, oFail), (0, oRload 0 571), (0, oGetf 14 30 2 574), (1, oFail), (1, oFail), (0, oIload 1 575), (0, oPush (vI (-1)) 576)]
set_option maxRecDepth 20000 in
theorem zX12_init_35 : SndL mX12_init 560 kX12_init_35 := SndL.c (s_fail) (SndL.c (s_iconst (by decide +kernel) (in32_d (by decide))) (SndL.c (s_istore_n (k := 1) (by decide +kernel) rfl (by decide)) (SndL.c (s_iload_n (k := 1) (by decide +kernel) rfl) (SndL.c (s_sipush (by decide +kernel) (in32_d (by decide)) (by decide +kernel)) (SndL.c (s_fail) (SndL.c (s_fail) (SndL.c (s_ic_ge (off := 23) (by decide +kernel) (by decide)) (SndL.c (s_fail) (SndL.c (s_fail) (SndL.c (s_aload_n (k := 0) (by decide +kernel) rfl) (SndL.c (s_getf (k := 30) clok13 (by decide) rfl (by decide) rfl w_5_132 (Or.inl rfl) (by decide +kernel)) (SndL.c (s_fail) (SndL.c (s_fail) (SndL.c (s_iload_n (k := 1) (by decide +kernel) rfl) (SndL.c (s_iconst (by decide +kernel) (in32_d (by decide))) (SndL.n))))))))))))))))
def kX12_init_36 : List En := [(0, oIast 577), (0, oRload 0 578), (0, oGetf 14 31 2 581), (1, oFail), (1, oFail), (0, oIload 1 582), (0, oPush (vI (-1)) 583), (0, oIast 584), (0, oIinc 1 1 587), (1, oFail), (1, oFail), (0, oGoto 563), (1, oFail), (1, oFail), (0, oRetV)]
set_option maxRecDepth 20000 in
theorem zX12_init_36 : SndL mX12_init 576 kX12_init_36 := SndL.c (s_iast (by decide +kernel)) (SndL.c (s_aload_n (k := 0) (by decide +kernel) rfl) (SndL.c (s_getf (k := 31) clok13 (by decide) rfl (by decide) rfl w_5_133 (Or.inl rfl) (by decide +kernel)) (SndL.c (s_fail) (SndL.c (s_fail) (SndL.c (s_iload_n (k := 1) (by decide +kernel) rfl) (SndL.c (s_iconst (by decide +kernel) (in32_d (by decide))) (SndL.c (s_iast (by decide +kernel)) (SndL.c (s_iinc (by decide +kernel) (by decide)) (SndL.c (s_fail) (SndL.c (s_fail) (SndL.c (s_goto (off := -24) (by decide +kernel) (by decide)) (SndL.c (s_fail) (SndL.c (s_fail) (SndL.c (s_ret_v rfl (by decide +kernel)) (SndL.n)))))))))))))))
def kX12_init : Cd := [kX12_init_0, kX12_init_1, kX12_init_2, kX12_init_3, kX12_init_4, kX12_init_5, kX12_init_6, kX12_init_7, kX12_init_8, kX12_init_9, kX12_init_10, kX12_init_11, kX12_init_12, kX12_init_13, kX12_init_14, kX12_init_15, kX12_init_16, kX12_init_17, kX12_init_18, kX12_init_19, kX12_init_20, kX12_init_21, kX12_init_22, kX12_init_23, kX12_init_24, kX12_init_25, kX12_init_26, kX12_init_27, kX12_init_28, kX12_init_29, kX12_init_30, kX12_init_31, kX12_init_32, kX12_init_33, kX12_init_34, kX12_init_35, kX12_init_36]
theorem zX12_init : SndC mX12_init 0 kX12_init := SndC.c zX12_init_0 (by decide) (SndC.c zX12_init_1 (by decide) (SndC.c zX12_init_2 (by decide) (SndC.c zX12_init_3 (by decide) (SndC.c zX12_init_4 (by decide) (SndC.c zX12_init_5 (by decide) (SndC.c zX12_init_6 (by decide) (SndC.c zX12_init_7 (by decide) (SndC.c zX12_init_8 (by decide) (SndC.c zX12_init_9 (by decide) (SndC.c zX12_init_10 (by decide) (SndC.c zX12_init_11 (by decide) (SndC.c zX12_init_12 (by decide) (SndC.c zX12_init_13 (by decide) (SndC.c zX12_init_14 (by decide) (SndC.c zX12_init_15 (by decide) (SndC.c zX12_init_16 (by decide) (SndC.c zX12_init_17 (by decide) (SndC.c zX12_init_18 (by decide) (SndC.c zX12_init_19 (by decide) (SndC.c zX12_init_20 (by decide) (SndC.c zX12_init_21 (by decide) (SndC.c zX12_init_22 (by decide) (SndC.c zX12_init_23 (by decide) (SndC.c zX12_init_24 (by decide) (SndC.c zX12_init_25 (by decide) (SndC.c zX12_init_26 (by decide) (SndC.c zX12_init_27 (by decide) (SndC.c zX12_init_28 (by decide) (SndC.c zX12_init_29 (by decide) (SndC.c zX12_init_30 (by decide) (SndC.c zX12_init_31 (by decide) (SndC.c zX12_init_32 (by decide) (SndC.c zX12_init_33 (by decide) (SndC.c zX12_init_34 (by decide) (SndC.c zX12_init_35 (by decide) (SndC.c zX12_init_36 (by decide) (SndC.n)))))))))))))))))))))))))))))))))))))
theorem aX12_init_0 : at_ kX12_init 0 = (0, oRload 0 1) := rfl
theorem aX12_init_1 : at_ kX12_init 1 = (0, oObji 4) := rfl
theorem aX12_init_4 : at_ kX12_init 4 = (0, oRload 0 5) := rfl
theorem aX12_init_5 : at_ kX12_init 5 = (0, oPush (vI 50) 7) := rfl
theorem aX12_init_7 : at_ kX12_init 7 = (0, oPutf 14 7 0 10) := rfl
theorem aX12_init_10 : at_ kX12_init 10 = (0, oRload 0 11) := rfl
theorem aX12_init_11 : at_ kX12_init 11 = (0, oPush (vI 10) 13) := rfl
theorem aX12_init_13 : at_ kX12_init 13 = (0, oPutf 14 8 0 16) := rfl
theorem aX12_init_16 : at_ kX12_init 16 = (0, oRload 0 17) := rfl
theorem aX12_init_17 : at_ kX12_init 17 = (0, oPush (vI (-1)) 18) := rfl
theorem aX12_init_18 : at_ kX12_init 18 = (0, oPutf 14 9 0 21) := rfl
theorem aX12_init_21 : at_ kX12_init 21 = (0, oRload 0 22) := rfl
theorem aX12_init_22 : at_ kX12_init 22 = (0, oPush (vI 8) 24) := rfl
theorem aX12_init_24 : at_ kX12_init 24 = (0, oNewa 100 26) := rfl
theorem aX12_init_26 : at_ kX12_init 26 = (0, oPutf 14 11 2 29) := rfl
theorem aX12_init_29 : at_ kX12_init 29 = (0, oRload 0 30) := rfl
theorem aX12_init_30 : at_ kX12_init 30 = (0, oPush (vI 8) 32) := rfl
theorem aX12_init_32 : at_ kX12_init 32 = (0, oNewa 100 34) := rfl
theorem aX12_init_34 : at_ kX12_init 34 = (0, oPutf 14 12 2 37) := rfl
theorem aX12_init_37 : at_ kX12_init 37 = (0, oRload 0 38) := rfl
theorem aX12_init_38 : at_ kX12_init 38 = (0, oPush (vI 8) 40) := rfl
theorem aX12_init_40 : at_ kX12_init 40 = (0, oNewa 100 42) := rfl
theorem aX12_init_42 : at_ kX12_init 42 = (0, oPutf 14 13 2 45) := rfl
theorem aX12_init_45 : at_ kX12_init 45 = (0, oRload 0 46) := rfl
theorem aX12_init_46 : at_ kX12_init 46 = (0, oPush (vI 8) 48) := rfl
theorem aX12_init_48 : at_ kX12_init 48 = (0, oNewa 100 50) := rfl
theorem aX12_init_50 : at_ kX12_init 50 = (0, oPutf 14 14 2 53) := rfl
theorem aX12_init_53 : at_ kX12_init 53 = (0, oRload 0 54) := rfl
theorem aX12_init_54 : at_ kX12_init 54 = (0, oPush (vI 8) 56) := rfl
theorem aX12_init_56 : at_ kX12_init 56 = (0, oNewa 100 58) := rfl
theorem aX12_init_58 : at_ kX12_init 58 = (0, oPutf 14 15 2 61) := rfl
theorem aX12_init_61 : at_ kX12_init 61 = (0, oRload 0 62) := rfl
theorem aX12_init_62 : at_ kX12_init 62 = (0, oPush (vI 8) 64) := rfl
theorem aX12_init_64 : at_ kX12_init 64 = (0, oNewa 100 66) := rfl
theorem aX12_init_66 : at_ kX12_init 66 = (0, oPutf 14 16 2 69) := rfl
theorem aX12_init_69 : at_ kX12_init 69 = (0, oRload 0 70) := rfl
theorem aX12_init_70 : at_ kX12_init 70 = (0, oPush (vI 8) 72) := rfl
theorem aX12_init_72 : at_ kX12_init 72 = (0, oNewa 100 74) := rfl
theorem aX12_init_74 : at_ kX12_init 74 = (0, oPutf 14 17 2 77) := rfl
theorem aX12_init_77 : at_ kX12_init 77 = (0, oRload 0 78) := rfl
theorem aX12_init_78 : at_ kX12_init 78 = (0, oPush (vI 480) 81) := rfl
theorem aX12_init_81 : at_ kX12_init 81 = (0, oNewa 101 83) := rfl
theorem aX12_init_83 : at_ kX12_init 83 = (0, oPutf 14 18 2 86) := rfl
theorem aX12_init_86 : at_ kX12_init 86 = (0, oRload 0 87) := rfl
theorem aX12_init_87 : at_ kX12_init 87 = (0, oPush (vI 60) 89) := rfl
theorem aX12_init_89 : at_ kX12_init 89 = (0, oNewa 101 91) := rfl
theorem aX12_init_91 : at_ kX12_init 91 = (0, oPutf 14 19 2 94) := rfl
theorem aX12_init_94 : at_ kX12_init 94 = (0, oRload 0 95) := rfl
theorem aX12_init_95 : at_ kX12_init 95 = (0, oPush (vI 24) 97) := rfl
theorem aX12_init_97 : at_ kX12_init 97 = (0, oNewa 100 99) := rfl
theorem aX12_init_99 : at_ kX12_init 99 = (0, oPutf 14 20 2 102) := rfl
theorem aX12_init_102 : at_ kX12_init 102 = (0, oRload 0 103) := rfl
theorem aX12_init_103 : at_ kX12_init 103 = (0, oPush (vI 24) 105) := rfl
theorem aX12_init_105 : at_ kX12_init 105 = (0, oNewa 100 107) := rfl
theorem aX12_init_107 : at_ kX12_init 107 = (0, oPutf 14 21 2 110) := rfl
theorem aX12_init_110 : at_ kX12_init 110 = (0, oRload 0 111) := rfl
theorem aX12_init_111 : at_ kX12_init 111 = (0, oPush (vI 24) 113) := rfl
theorem aX12_init_113 : at_ kX12_init 113 = (0, oNewa 100 115) := rfl
theorem aX12_init_115 : at_ kX12_init 115 = (0, oPutf 14 22 2 118) := rfl
theorem aX12_init_118 : at_ kX12_init 118 = (0, oRload 0 119) := rfl
theorem aX12_init_119 : at_ kX12_init 119 = (0, oPush (vI 24) 121) := rfl
theorem aX12_init_121 : at_ kX12_init 121 = (0, oNewa 100 123) := rfl
theorem aX12_init_123 : at_ kX12_init 123 = (0, oPutf 14 23 2 126) := rfl
theorem aX12_init_126 : at_ kX12_init 126 = (0, oRload 0 127) := rfl
theorem aX12_init_127 : at_ kX12_init 127 = (0, oPush (vI 24) 129) := rfl
theorem aX12_init_129 : at_ kX12_init 129 = (0, oNewa 100 131) := rfl
theorem aX12_init_131 : at_ kX12_init 131 = (0, oPutf 14 24 2 134) := rfl
theorem aX12_init_134 : at_ kX12_init 134 = (0, oRload 0 135) := rfl
theorem aX12_init_135 : at_ kX12_init 135 = (0, oPush (vI 24) 137) := rfl
theorem aX12_init_137 : at_ kX12_init 137 = (0, oNewa 100 139) := rfl
theorem aX12_init_139 : at_ kX12_init 139 = (0, oPutf 14 25 2 142) := rfl
theorem aX12_init_142 : at_ kX12_init 142 = (0, oRload 0 143) := rfl
theorem aX12_init_143 : at_ kX12_init 143 = (0, oPush (vI 24) 145) := rfl
theorem aX12_init_145 : at_ kX12_init 145 = (0, oNewa 100 147) := rfl
theorem aX12_init_147 : at_ kX12_init 147 = (0, oPutf 14 26 2 150) := rfl
theorem aX12_init_150 : at_ kX12_init 150 = (0, oRload 0 151) := rfl
theorem aX12_init_151 : at_ kX12_init 151 = (0, oPush (vI 24) 153) := rfl
theorem aX12_init_153 : at_ kX12_init 153 = (0, oNewa 100 155) := rfl
theorem aX12_init_155 : at_ kX12_init 155 = (0, oPutf 14 27 2 158) := rfl
theorem aX12_init_158 : at_ kX12_init 158 = (0, oRload 0 159) := rfl
theorem aX12_init_159 : at_ kX12_init 159 = (0, oPush (vI 480) 162) := rfl
theorem aX12_init_162 : at_ kX12_init 162 = (0, oNewa 100 164) := rfl
theorem aX12_init_164 : at_ kX12_init 164 = (0, oPutf 14 28 2 167) := rfl
theorem aX12_init_167 : at_ kX12_init 167 = (0, oRload 0 168) := rfl
theorem aX12_init_168 : at_ kX12_init 168 = (0, oPush (vI 288) 171) := rfl
theorem aX12_init_171 : at_ kX12_init 171 = (0, oNewa 100 173) := rfl
theorem aX12_init_173 : at_ kX12_init 173 = (0, oPutf 14 29 2 176) := rfl
theorem aX12_init_176 : at_ kX12_init 176 = (0, oRload 0 177) := rfl
theorem aX12_init_177 : at_ kX12_init 177 = (0, oPush (vI 192) 180) := rfl
theorem aX12_init_180 : at_ kX12_init 180 = (0, oNewa 100 182) := rfl
theorem aX12_init_182 : at_ kX12_init 182 = (0, oPutf 14 30 2 185) := rfl
theorem aX12_init_185 : at_ kX12_init 185 = (0, oRload 0 186) := rfl
theorem aX12_init_186 : at_ kX12_init 186 = (0, oPush (vI 192) 189) := rfl
theorem aX12_init_189 : at_ kX12_init 189 = (0, oNewa 100 191) := rfl
theorem aX12_init_191 : at_ kX12_init 191 = (0, oPutf 14 31 2 194) := rfl
theorem aX12_init_194 : at_ kX12_init 194 = (0, oRload 0 195) := rfl
theorem aX12_init_195 : at_ kX12_init 195 = (0, oPush (vI 20) 197) := rfl
theorem aX12_init_197 : at_ kX12_init 197 = (0, oNewa 100 199) := rfl
theorem aX12_init_199 : at_ kX12_init 199 = (0, oPutf 14 32 2 202) := rfl
theorem aX12_init_202 : at_ kX12_init 202 = (0, oRload 0 203) := rfl
theorem aX12_init_203 : at_ kX12_init 203 = (0, oPush (vI 120) 205) := rfl
theorem aX12_init_205 : at_ kX12_init 205 = (0, oNewa 100 207) := rfl
theorem aX12_init_207 : at_ kX12_init 207 = (0, oPutf 14 33 2 210) := rfl
theorem aX12_init_210 : at_ kX12_init 210 = (0, oRload 0 211) := rfl
theorem aX12_init_211 : at_ kX12_init 211 = (0, oPush (vI 20) 213) := rfl
theorem aX12_init_213 : at_ kX12_init 213 = (0, oNewa 100 215) := rfl
theorem aX12_init_215 : at_ kX12_init 215 = (0, oPutf 14 34 2 218) := rfl
theorem aX12_init_218 : at_ kX12_init 218 = (0, oRload 0 219) := rfl
theorem aX12_init_219 : at_ kX12_init 219 = (0, oPush (vI 20) 221) := rfl
theorem aX12_init_221 : at_ kX12_init 221 = (0, oNewa 100 223) := rfl
theorem aX12_init_223 : at_ kX12_init 223 = (0, oPutf 14 35 2 226) := rfl
theorem aX12_init_226 : at_ kX12_init 226 = (0, oRload 0 227) := rfl
theorem aX12_init_227 : at_ kX12_init 227 = (0, oPush (vI 20) 229) := rfl
theorem aX12_init_229 : at_ kX12_init 229 = (0, oNewa 100 231) := rfl
theorem aX12_init_231 : at_ kX12_init 231 = (0, oPutf 14 36 2 234) := rfl
theorem aX12_init_234 : at_ kX12_init 234 = (0, oRload 0 235) := rfl
theorem aX12_init_235 : at_ kX12_init 235 = (0, oPush (vI 20) 237) := rfl
theorem aX12_init_237 : at_ kX12_init 237 = (0, oNewa 100 239) := rfl
theorem aX12_init_239 : at_ kX12_init 239 = (0, oPutf 14 37 2 242) := rfl
theorem aX12_init_242 : at_ kX12_init 242 = (0, oRload 0 243) := rfl
theorem aX12_init_243 : at_ kX12_init 243 = (0, oPush (vI 20) 245) := rfl
theorem aX12_init_245 : at_ kX12_init 245 = (0, oNewa 100 247) := rfl
theorem aX12_init_247 : at_ kX12_init 247 = (0, oPutf 14 38 2 250) := rfl
theorem aX12_init_250 : at_ kX12_init 250 = (0, oRload 0 251) := rfl
theorem aX12_init_251 : at_ kX12_init 251 = (0, oPush (vI 20) 253) := rfl
theorem aX12_init_253 : at_ kX12_init 253 = (0, oNewa 100 255) := rfl
theorem aX12_init_255 : at_ kX12_init 255 = (0, oPutf 14 39 2 258) := rfl
theorem aX12_init_258 : at_ kX12_init 258 = (0, oRload 0 259) := rfl
theorem aX12_init_259 : at_ kX12_init 259 = (0, oPush (vI 40) 261) := rfl
theorem aX12_init_261 : at_ kX12_init 261 = (0, oNewa 100 263) := rfl
theorem aX12_init_263 : at_ kX12_init 263 = (0, oPutf 14 40 2 266) := rfl
theorem aX12_init_266 : at_ kX12_init 266 = (0, oRload 0 267) := rfl
theorem aX12_init_267 : at_ kX12_init 267 = (0, oPush (vI 40) 269) := rfl
theorem aX12_init_269 : at_ kX12_init 269 = (0, oNewa 100 271) := rfl
theorem aX12_init_271 : at_ kX12_init 271 = (0, oPutf 14 41 2 274) := rfl
theorem aX12_init_274 : at_ kX12_init 274 = (0, oRload 0 275) := rfl
theorem aX12_init_275 : at_ kX12_init 275 = (0, oPush (vI 40) 277) := rfl
theorem aX12_init_277 : at_ kX12_init 277 = (0, oNewa 100 279) := rfl
theorem aX12_init_279 : at_ kX12_init 279 = (0, oPutf 14 42 2 282) := rfl
theorem aX12_init_282 : at_ kX12_init 282 = (0, oRload 0 283) := rfl
theorem aX12_init_283 : at_ kX12_init 283 = (0, oPush (vI 40) 285) := rfl
theorem aX12_init_285 : at_ kX12_init 285 = (0, oNewa 100 287) := rfl
theorem aX12_init_287 : at_ kX12_init 287 = (0, oPutf 14 43 2 290) := rfl
theorem aX12_init_290 : at_ kX12_init 290 = (0, oRload 0 291) := rfl
theorem aX12_init_291 : at_ kX12_init 291 = (0, oPush (vI 2400) 294) := rfl
theorem aX12_init_294 : at_ kX12_init 294 = (0, oNewa 100 296) := rfl
theorem aX12_init_296 : at_ kX12_init 296 = (0, oPutf 14 44 2 299) := rfl
theorem aX12_init_299 : at_ kX12_init 299 = (0, oRload 0 300) := rfl
theorem aX12_init_300 : at_ kX12_init 300 = (0, oPush (vI 17) 302) := rfl
theorem aX12_init_302 : at_ kX12_init 302 = (0, oNewa 100 304) := rfl
theorem aX12_init_304 : at_ kX12_init 304 = (0, oPutf 14 45 2 307) := rfl
theorem aX12_init_307 : at_ kX12_init 307 = (0, oRload 0 308) := rfl
theorem aX12_init_308 : at_ kX12_init 308 = (0, oPush (vI 17) 310) := rfl
theorem aX12_init_310 : at_ kX12_init 310 = (0, oNewa 100 312) := rfl
theorem aX12_init_312 : at_ kX12_init 312 = (0, oPutf 14 46 2 315) := rfl
theorem aX12_init_315 : at_ kX12_init 315 = (0, oRload 0 316) := rfl
theorem aX12_init_316 : at_ kX12_init 316 = (0, oPush (vI 17) 318) := rfl
theorem aX12_init_318 : at_ kX12_init 318 = (0, oNewa 100 320) := rfl
theorem aX12_init_320 : at_ kX12_init 320 = (0, oPutf 14 47 2 323) := rfl
theorem aX12_init_323 : at_ kX12_init 323 = (0, oRload 0 324) := rfl
theorem aX12_init_324 : at_ kX12_init 324 = (0, oPush (vI 17) 326) := rfl
theorem aX12_init_326 : at_ kX12_init 326 = (0, oNewa 100 328) := rfl
theorem aX12_init_328 : at_ kX12_init 328 = (0, oPutf 14 48 2 331) := rfl
theorem aX12_init_331 : at_ kX12_init 331 = (0, oRload 0 332) := rfl
theorem aX12_init_332 : at_ kX12_init 332 = (0, oPush (vI 1700) 335) := rfl
theorem aX12_init_335 : at_ kX12_init 335 = (0, oNewa 100 337) := rfl
theorem aX12_init_337 : at_ kX12_init 337 = (0, oPutf 14 49 2 340) := rfl
theorem aX12_init_340 : at_ kX12_init 340 = (0, oRload 0 341) := rfl
theorem aX12_init_341 : at_ kX12_init 341 = (0, oPush (vI 680) 344) := rfl
theorem aX12_init_344 : at_ kX12_init 344 = (0, oNewa 100 346) := rfl
theorem aX12_init_346 : at_ kX12_init 346 = (0, oPutf 14 50 2 349) := rfl
theorem aX12_init_349 : at_ kX12_init 349 = (0, oRload 0 350) := rfl
theorem aX12_init_350 : at_ kX12_init 350 = (0, oPush (vI 680) 353) := rfl
theorem aX12_init_353 : at_ kX12_init 353 = (0, oNewa 100 355) := rfl
theorem aX12_init_355 : at_ kX12_init 355 = (0, oPutf 14 51 2 358) := rfl
theorem aX12_init_358 : at_ kX12_init 358 = (0, oRload 0 359) := rfl
theorem aX12_init_359 : at_ kX12_init 359 = (0, oPush (vI 680) 362) := rfl
theorem aX12_init_362 : at_ kX12_init 362 = (0, oNewa 100 364) := rfl
theorem aX12_init_364 : at_ kX12_init 364 = (0, oPutf 14 52 2 367) := rfl
theorem aX12_init_367 : at_ kX12_init 367 = (0, oRload 0 368) := rfl
theorem aX12_init_368 : at_ kX12_init 368 = (0, oPush (vI 680) 371) := rfl
theorem aX12_init_371 : at_ kX12_init 371 = (0, oNewa 100 373) := rfl
theorem aX12_init_373 : at_ kX12_init 373 = (0, oPutf 14 53 2 376) := rfl
theorem aX12_init_376 : at_ kX12_init 376 = (0, oRload 0 377) := rfl
theorem aX12_init_377 : at_ kX12_init 377 = (0, oPush (vI 680) 380) := rfl
theorem aX12_init_380 : at_ kX12_init 380 = (0, oNewa 100 382) := rfl
theorem aX12_init_382 : at_ kX12_init 382 = (0, oPutf 14 54 2 385) := rfl
theorem aX12_init_385 : at_ kX12_init 385 = (0, oRload 0 386) := rfl
theorem aX12_init_386 : at_ kX12_init 386 = (0, oPush (vI 9) 388) := rfl
theorem aX12_init_388 : at_ kX12_init 388 = (0, oNewa 100 390) := rfl
theorem aX12_init_390 : at_ kX12_init 390 = (0, oPutf 14 55 2 393) := rfl
theorem aX12_init_393 : at_ kX12_init 393 = (0, oRload 0 394) := rfl
theorem aX12_init_394 : at_ kX12_init 394 = (0, oPush (vI 40) 396) := rfl
theorem aX12_init_396 : at_ kX12_init 396 = (0, oNewa 100 398) := rfl
theorem aX12_init_398 : at_ kX12_init 398 = (0, oPutf 14 56 2 401) := rfl
theorem aX12_init_401 : at_ kX12_init 401 = (0, oRload 0 402) := rfl
theorem aX12_init_402 : at_ kX12_init 402 = (0, oPush (vI 40) 404) := rfl
theorem aX12_init_404 : at_ kX12_init 404 = (0, oNewa 100 406) := rfl
theorem aX12_init_406 : at_ kX12_init 406 = (0, oPutf 14 57 2 409) := rfl
theorem aX12_init_409 : at_ kX12_init 409 = (0, oRload 0 410) := rfl
theorem aX12_init_410 : at_ kX12_init 410 = (0, oPush (vI 40) 412) := rfl
theorem aX12_init_412 : at_ kX12_init 412 = (0, oNewa 100 414) := rfl
theorem aX12_init_414 : at_ kX12_init 414 = (0, oPutf 14 58 2 417) := rfl
theorem aX12_init_417 : at_ kX12_init 417 = (0, oRload 0 418) := rfl
theorem aX12_init_418 : at_ kX12_init 418 = (0, oPush (vI 40) 420) := rfl
theorem aX12_init_420 : at_ kX12_init 420 = (0, oNewa 100 422) := rfl
theorem aX12_init_422 : at_ kX12_init 422 = (0, oPutf 14 59 2 425) := rfl
theorem aX12_init_425 : at_ kX12_init 425 = (0, oRload 0 426) := rfl
theorem aX12_init_426 : at_ kX12_init 426 = (0, oPush (vI 40) 428) := rfl
theorem aX12_init_428 : at_ kX12_init 428 = (0, oNewa 100 430) := rfl
theorem aX12_init_430 : at_ kX12_init 430 = (0, oPutf 14 60 2 433) := rfl
theorem aX12_init_433 : at_ kX12_init 433 = (0, oRload 0 434) := rfl
theorem aX12_init_434 : at_ kX12_init 434 = (0, oPush (vI 40) 436) := rfl
theorem aX12_init_436 : at_ kX12_init 436 = (0, oNewa 100 438) := rfl
theorem aX12_init_438 : at_ kX12_init 438 = (0, oPutf 14 61 2 441) := rfl
theorem aX12_init_441 : at_ kX12_init 441 = (0, oRload 0 442) := rfl
theorem aX12_init_442 : at_ kX12_init 442 = (0, oPush (vI 40) 444) := rfl
theorem aX12_init_444 : at_ kX12_init 444 = (0, oNewa 100 446) := rfl
theorem aX12_init_446 : at_ kX12_init 446 = (0, oPutf 14 62 2 449) := rfl
theorem aX12_init_449 : at_ kX12_init 449 = (0, oRload 0 450) := rfl
theorem aX12_init_450 : at_ kX12_init 450 = (0, oPush (vI 40) 452) := rfl
theorem aX12_init_452 : at_ kX12_init 452 = (0, oNewa 100 454) := rfl
theorem aX12_init_454 : at_ kX12_init 454 = (0, oPutf 14 63 2 457) := rfl
theorem aX12_init_457 : at_ kX12_init 457 = (0, oRload 0 458) := rfl
theorem aX12_init_458 : at_ kX12_init 458 = (0, oPush (vI 40) 460) := rfl
theorem aX12_init_460 : at_ kX12_init 460 = (0, oNewa 100 462) := rfl
theorem aX12_init_462 : at_ kX12_init 462 = (0, oPutf 14 64 2 465) := rfl
theorem aX12_init_465 : at_ kX12_init 465 = (0, oRload 0 466) := rfl
theorem aX12_init_466 : at_ kX12_init 466 = (0, oPush (vI 40) 468) := rfl
theorem aX12_init_468 : at_ kX12_init 468 = (0, oNewa 100 470) := rfl
theorem aX12_init_470 : at_ kX12_init 470 = (0, oPutf 14 65 2 473) := rfl
theorem aX12_init_473 : at_ kX12_init 473 = (0, oRload 0 474) := rfl
theorem aX12_init_474 : at_ kX12_init 474 = (0, oPush (vI 40) 476) := rfl
theorem aX12_init_476 : at_ kX12_init 476 = (0, oNewa 100 478) := rfl
theorem aX12_init_478 : at_ kX12_init 478 = (0, oPutf 14 66 2 481) := rfl
theorem aX12_init_481 : at_ kX12_init 481 = (0, oRload 0 482) := rfl
theorem aX12_init_482 : at_ kX12_init 482 = (0, oPush (vI 40) 484) := rfl
theorem aX12_init_484 : at_ kX12_init 484 = (0, oNewa 103 486) := rfl
theorem aX12_init_486 : at_ kX12_init 486 = (0, oPutf 14 67 2 489) := rfl
theorem aX12_init_489 : at_ kX12_init 489 = (0, oRload 0 490) := rfl
theorem aX12_init_490 : at_ kX12_init 490 = (0, oPush (vI 40) 492) := rfl
theorem aX12_init_492 : at_ kX12_init 492 = (0, oNewa 103 494) := rfl
theorem aX12_init_494 : at_ kX12_init 494 = (0, oPutf 14 68 2 497) := rfl
theorem aX12_init_497 : at_ kX12_init 497 = (0, oRload 0 498) := rfl
theorem aX12_init_498 : at_ kX12_init 498 = (0, oPush (vI 40) 500) := rfl
theorem aX12_init_500 : at_ kX12_init 500 = (0, oNewa 103 502) := rfl
theorem aX12_init_502 : at_ kX12_init 502 = (0, oPutf 14 69 2 505) := rfl
theorem aX12_init_505 : at_ kX12_init 505 = (0, oRload 0 506) := rfl
theorem aX12_init_506 : at_ kX12_init 506 = (0, oPush (vI 8) 508) := rfl
theorem aX12_init_508 : at_ kX12_init 508 = (0, oNewa 100 510) := rfl
theorem aX12_init_510 : at_ kX12_init 510 = (0, oPutf 14 70 2 513) := rfl
theorem aX12_init_513 : at_ kX12_init 513 = (0, oRload 0 514) := rfl
theorem aX12_init_514 : at_ kX12_init 514 = (0, oPush (vI 20) 516) := rfl
theorem aX12_init_516 : at_ kX12_init 516 = (0, oNewa 100 518) := rfl
theorem aX12_init_518 : at_ kX12_init 518 = (0, oPutf 14 71 2 521) := rfl
theorem aX12_init_521 : at_ kX12_init 521 = (0, oRload 0 522) := rfl
theorem aX12_init_522 : at_ kX12_init 522 = (0, oPush (vI 24) 524) := rfl
theorem aX12_init_524 : at_ kX12_init 524 = (0, oNewa 100 526) := rfl
theorem aX12_init_526 : at_ kX12_init 526 = (0, oPutf 14 73 2 529) := rfl
theorem aX12_init_529 : at_ kX12_init 529 = (0, oRload 0 530) := rfl
theorem aX12_init_530 : at_ kX12_init 530 = (0, oPush (vI 24) 532) := rfl
theorem aX12_init_532 : at_ kX12_init 532 = (0, oNewa 100 534) := rfl
theorem aX12_init_534 : at_ kX12_init 534 = (0, oPutf 14 74 2 537) := rfl
theorem aX12_init_537 : at_ kX12_init 537 = (0, oRload 0 538) := rfl
theorem aX12_init_538 : at_ kX12_init 538 = (0, oPush (vI 100) 540) := rfl
theorem aX12_init_540 : at_ kX12_init 540 = (0, oNewa 100 542) := rfl
theorem aX12_init_542 : at_ kX12_init 542 = (0, oPutf 14 78 2 545) := rfl
theorem aX12_init_545 : at_ kX12_init 545 = (0, oRload 0 546) := rfl
theorem aX12_init_546 : at_ kX12_init 546 = (0, oPush (vI 60) 548) := rfl
theorem aX12_init_548 : at_ kX12_init 548 = (0, oNewa 100 550) := rfl
theorem aX12_init_550 : at_ kX12_init 550 = (0, oPutf 14 79 2 553) := rfl
theorem aX12_init_553 : at_ kX12_init 553 = (0, oRload 0 554) := rfl
theorem aX12_init_554 : at_ kX12_init 554 = (0, oPush (vI 20) 556) := rfl
theorem aX12_init_556 : at_ kX12_init 556 = (0, oNewa 103 558) := rfl
theorem aX12_init_558 : at_ kX12_init 558 = (0, oPutf 14 89 2 561) := rfl
theorem aX12_init_561 : at_ kX12_init 561 = (0, oPush (vI 0) 562) := rfl
theorem aX12_init_562 : at_ kX12_init 562 = (0, oIstore 1 563) := rfl
theorem aX12_init_563 : at_ kX12_init 563 = (1, oIload 1 564) := rfl
theorem aX12_init_564 : at_ kX12_init 564 = (0, oPush (vI 192) 567) := rfl
theorem aX12_init_567 : at_ kX12_init 567 = (0, oIcGe 590 570) := rfl
theorem aX12_init_570 : at_ kX12_init 570 = (0, oRload 0 571) := rfl
theorem aX12_init_571 : at_ kX12_init 571 = (0, oGetf 14 30 2 574) := rfl
theorem aX12_init_574 : at_ kX12_init 574 = (0, oIload 1 575) := rfl
theorem aX12_init_575 : at_ kX12_init 575 = (0, oPush (vI (-1)) 576) := rfl
theorem aX12_init_576 : at_ kX12_init 576 = (0, oIast 577) := rfl
theorem aX12_init_577 : at_ kX12_init 577 = (0, oRload 0 578) := rfl
theorem aX12_init_578 : at_ kX12_init 578 = (0, oGetf 14 31 2 581) := rfl
theorem aX12_init_581 : at_ kX12_init 581 = (0, oIload 1 582) := rfl
theorem aX12_init_582 : at_ kX12_init 582 = (0, oPush (vI (-1)) 583) := rfl
theorem aX12_init_583 : at_ kX12_init 583 = (0, oIast 584) := rfl
theorem aX12_init_584 : at_ kX12_init 584 = (0, oIinc 1 1 587) := rfl
theorem aX12_init_587 : at_ kX12_init 587 = (0, oGoto 563) := rfl
theorem aX12_init_590 : at_ kX12_init 590 = (0, oRetV) := rfl
def kX12_no_0 : List En := [(0, oRload 0 1), (0, oGetf 14 70 2 4), (1, oFail), (1, oFail), (0, oIload 1 5), (0, oIneg 6), (0, oDup2 7), (0, oIald 8), (0, oPush (vI 1) 9), (0, oIadd 10), (0, oIast 11), (0, oIload 1 12), (0, oRetI)]
set_option maxRecDepth 20000 in
theorem zX12_no_0 : SndL mX12_no 0 kX12_no_0 := SndL.c (s_aload_n (k := 0) (by decide +kernel) rfl) (SndL.c (s_getf (k := 70) clok13 (by decide) rfl (by decide) rfl w_5_172 (Or.inl rfl) (by decide +kernel)) (SndL.c (s_fail) (SndL.c (s_fail) (SndL.c (s_iload_n (k := 1) (by decide +kernel) rfl) (SndL.c (s_ineg (by decide +kernel)) (SndL.c (s_dup2 (by decide +kernel)) (SndL.c (s_iald (by decide +kernel)) (SndL.c (s_iconst (by decide +kernel) (in32_d (by decide))) (SndL.c (s_iadd (by decide +kernel)) (SndL.c (s_iast (by decide +kernel)) (SndL.c (s_iload_n (k := 1) (by decide +kernel) rfl) (SndL.c (s_ret_i rfl (by decide +kernel)) (SndL.n)))))))))))))
def kX12_no : Cd := [kX12_no_0]
theorem zX12_no : SndC mX12_no 0 kX12_no := SndC.c zX12_no_0 (by decide) (SndC.n)
theorem aX12_no_0 : at_ kX12_no 0 = (0, oRload 0 1) := rfl
theorem aX12_no_1 : at_ kX12_no 1 = (0, oGetf 14 70 2 4) := rfl
theorem aX12_no_4 : at_ kX12_no 4 = (0, oIload 1 5) := rfl
theorem aX12_no_5 : at_ kX12_no 5 = (0, oIneg 6) := rfl
theorem aX12_no_6 : at_ kX12_no 6 = (0, oDup2 7) := rfl
theorem aX12_no_7 : at_ kX12_no 7 = (0, oIald 8) := rfl
theorem aX12_no_8 : at_ kX12_no 8 = (0, oPush (vI 1) 9) := rfl
theorem aX12_no_9 : at_ kX12_no 9 = (0, oIadd 10) := rfl
theorem aX12_no_10 : at_ kX12_no 10 = (0, oIast 11) := rfl
theorem aX12_no_11 : at_ kX12_no 11 = (0, oIload 1 12) := rfl
theorem aX12_no_12 : at_ kX12_no 12 = (0, oRetI) := rfl
def kX12_isShelf_0 : List En := [(0, oIload 0 1), (0, oIfLt 14 4), (1, oFail), (1, oFail), (0, oIload 0 5), (0, oPush (vI 8) 7), (1, oFail), (0, oIcGe 14 10), (1, oFail), (1, oFail), (0, oPush (vI 1) 11), (0, oGoto 15), (1, oFail), (1, oFail), (0, oPush (vI 0) 15), (0, oRetZ)]
set_option maxRecDepth 20000 in
theorem zX12_isShelf_0 : SndL mX12_isShelf 0 kX12_isShelf_0 := SndL.c (s_iload_n (k := 0) (by decide +kernel) rfl) (SndL.c (s_if_lt (off := 13) (by decide +kernel) (by decide)) (SndL.c (s_fail) (SndL.c (s_fail) (SndL.c (s_iload_n (k := 0) (by decide +kernel) rfl) (SndL.c (s_bipush (by decide +kernel) (in32_d (by decide)) (by decide +kernel)) (SndL.c (s_fail) (SndL.c (s_ic_ge (off := 7) (by decide +kernel) (by decide)) (SndL.c (s_fail) (SndL.c (s_fail) (SndL.c (s_iconst (by decide +kernel) (in32_d (by decide))) (SndL.c (s_goto (off := 4) (by decide +kernel) (by decide)) (SndL.c (s_fail) (SndL.c (s_fail) (SndL.c (s_iconst (by decide +kernel) (in32_d (by decide))) (SndL.c (s_ret_z rfl (by decide +kernel)) (SndL.n))))))))))))))))
def kX12_isShelf : Cd := [kX12_isShelf_0]
theorem zX12_isShelf : SndC mX12_isShelf 0 kX12_isShelf := SndC.c zX12_isShelf_0 (by decide) (SndC.n)
theorem aX12_isShelf_0 : at_ kX12_isShelf 0 = (0, oIload 0 1) := rfl
theorem aX12_isShelf_1 : at_ kX12_isShelf 1 = (0, oIfLt 14 4) := rfl
theorem aX12_isShelf_4 : at_ kX12_isShelf 4 = (0, oIload 0 5) := rfl
theorem aX12_isShelf_5 : at_ kX12_isShelf 5 = (0, oPush (vI 8) 7) := rfl
theorem aX12_isShelf_7 : at_ kX12_isShelf 7 = (0, oIcGe 14 10) := rfl
theorem aX12_isShelf_10 : at_ kX12_isShelf 10 = (0, oPush (vI 1) 11) := rfl
theorem aX12_isShelf_11 : at_ kX12_isShelf 11 = (0, oGoto 15) := rfl
theorem aX12_isShelf_14 : at_ kX12_isShelf 14 = (0, oPush (vI 0) 15) := rfl
theorem aX12_isShelf_15 : at_ kX12_isShelf 15 = (0, oRetZ) := rfl
def kX12_isFirm_0 : List En := [(0, oIload 0 1), (0, oIfLt 14 4), (1, oFail), (1, oFail), (0, oIload 0 5), (0, oPush (vI 12) 7), (1, oFail), (0, oIcGe 14 10), (1, oFail), (1, oFail), (0, oPush (vI 1) 11), (0, oGoto 15), (1, oFail), (1, oFail), (0, oPush (vI 0) 15), (0, oRetZ)]
set_option maxRecDepth 20000 in
theorem zX12_isFirm_0 : SndL mX12_isFirm 0 kX12_isFirm_0 := SndL.c (s_iload_n (k := 0) (by decide +kernel) rfl) (SndL.c (s_if_lt (off := 13) (by decide +kernel) (by decide)) (SndL.c (s_fail) (SndL.c (s_fail) (SndL.c (s_iload_n (k := 0) (by decide +kernel) rfl) (SndL.c (s_bipush (by decide +kernel) (in32_d (by decide)) (by decide +kernel)) (SndL.c (s_fail) (SndL.c (s_ic_ge (off := 7) (by decide +kernel) (by decide)) (SndL.c (s_fail) (SndL.c (s_fail) (SndL.c (s_iconst (by decide +kernel) (in32_d (by decide))) (SndL.c (s_goto (off := 4) (by decide +kernel) (by decide)) (SndL.c (s_fail) (SndL.c (s_fail) (SndL.c (s_iconst (by decide +kernel) (in32_d (by decide))) (SndL.c (s_ret_z rfl (by decide +kernel)) (SndL.n))))))))))))))))
def kX12_isFirm : Cd := [kX12_isFirm_0]
theorem zX12_isFirm : SndC mX12_isFirm 0 kX12_isFirm := SndC.c zX12_isFirm_0 (by decide) (SndC.n)
theorem aX12_isFirm_0 : at_ kX12_isFirm 0 = (0, oIload 0 1) := rfl
theorem aX12_isFirm_1 : at_ kX12_isFirm 1 = (0, oIfLt 14 4) := rfl
theorem aX12_isFirm_4 : at_ kX12_isFirm 4 = (0, oIload 0 5) := rfl
theorem aX12_isFirm_5 : at_ kX12_isFirm 5 = (0, oPush (vI 12) 7) := rfl
theorem aX12_isFirm_7 : at_ kX12_isFirm 7 = (0, oIcGe 14 10) := rfl
theorem aX12_isFirm_10 : at_ kX12_isFirm 10 = (0, oPush (vI 1) 11) := rfl
theorem aX12_isFirm_11 : at_ kX12_isFirm 11 = (0, oGoto 15) := rfl
theorem aX12_isFirm_14 : at_ kX12_isFirm 14 = (0, oPush (vI 0) 15) := rfl
theorem aX12_isFirm_15 : at_ kX12_isFirm 15 = (0, oRetZ) := rfl
def kX12_isAdvert_0 : List En := [(0, oIload 1 1), (0, oIfLt 16 4), (1, oFail), (1, oFail), (0, oIload 1 5), (0, oRload 0 6), (0, oGetf 14 1 0 9), (1, oFail), (1, oFail), (0, oIcGe 16 12), (1, oFail), (1, oFail), (0, oPush (vI 1) 13), (0, oGoto 17), (1, oFail), (1, oFail)]
set_option maxRecDepth 20000 in
theorem zX12_isAdvert_0 : SndL mX12_isAdvert 0 kX12_isAdvert_0 := SndL.c (s_iload_n (k := 1) (by decide +kernel) rfl) (SndL.c (s_if_lt (off := 15) (by decide +kernel) (by decide)) (SndL.c (s_fail) (SndL.c (s_fail) (SndL.c (s_iload_n (k := 1) (by decide +kernel) rfl) (SndL.c (s_aload_n (k := 0) (by decide +kernel) rfl) (SndL.c (s_getf (k := 1) clok13 (by decide) rfl (by decide) rfl w_5_103 (Or.inl rfl) (by decide +kernel)) (SndL.c (s_fail) (SndL.c (s_fail) (SndL.c (s_ic_ge (off := 7) (by decide +kernel) (by decide)) (SndL.c (s_fail) (SndL.c (s_fail) (SndL.c (s_iconst (by decide +kernel) (in32_d (by decide))) (SndL.c (s_goto (off := 4) (by decide +kernel) (by decide)) (SndL.c (s_fail) (SndL.c (s_fail) (SndL.n))))))))))))))))
def kX12_isAdvert_1 : List En := [(0, oPush (vI 0) 17), (0, oRetZ)]
set_option maxRecDepth 20000 in
theorem zX12_isAdvert_1 : SndL mX12_isAdvert 16 kX12_isAdvert_1 := SndL.c (s_iconst (by decide +kernel) (in32_d (by decide))) (SndL.c (s_ret_z rfl (by decide +kernel)) (SndL.n))
def kX12_isAdvert : Cd := [kX12_isAdvert_0, kX12_isAdvert_1]
theorem zX12_isAdvert : SndC mX12_isAdvert 0 kX12_isAdvert := SndC.c zX12_isAdvert_0 (by decide) (SndC.c zX12_isAdvert_1 (by decide) (SndC.n))
theorem aX12_isAdvert_0 : at_ kX12_isAdvert 0 = (0, oIload 1 1) := rfl
theorem aX12_isAdvert_1 : at_ kX12_isAdvert 1 = (0, oIfLt 16 4) := rfl
theorem aX12_isAdvert_4 : at_ kX12_isAdvert 4 = (0, oIload 1 5) := rfl
theorem aX12_isAdvert_5 : at_ kX12_isAdvert 5 = (0, oRload 0 6) := rfl
theorem aX12_isAdvert_6 : at_ kX12_isAdvert 6 = (0, oGetf 14 1 0 9) := rfl
theorem aX12_isAdvert_9 : at_ kX12_isAdvert 9 = (0, oIcGe 16 12) := rfl
theorem aX12_isAdvert_12 : at_ kX12_isAdvert 12 = (0, oPush (vI 1) 13) := rfl
theorem aX12_isAdvert_13 : at_ kX12_isAdvert 13 = (0, oGoto 17) := rfl
theorem aX12_isAdvert_16 : at_ kX12_isAdvert 16 = (0, oPush (vI 0) 17) := rfl
theorem aX12_isAdvert_17 : at_ kX12_isAdvert 17 = (0, oRetZ) := rfl
def kX12_days_0 : List En := [(0, oIload 1 1), (0, oPush (vI 1) 2), (0, oIcLt 24 5), (1, oFail), (1, oFail), (0, oIload 1 6), (0, oPush (vI 1000) 9), (1, oFail), (1, oFail), (0, oIcGt 24 12), (1, oFail), (1, oFail), (0, oRload 0 13), (0, oGetf 14 0 0 16), (1, oFail), (1, oFail)]
set_option maxRecDepth 20000 in
theorem zX12_days_0 : SndL mX12_days 0 kX12_days_0 := SndL.c (s_iload_n (k := 1) (by decide +kernel) rfl) (SndL.c (s_iconst (by decide +kernel) (in32_d (by decide))) (SndL.c (s_ic_lt (off := 22) (by decide +kernel) (by decide)) (SndL.c (s_fail) (SndL.c (s_fail) (SndL.c (s_iload_n (k := 1) (by decide +kernel) rfl) (SndL.c (s_sipush (by decide +kernel) (in32_d (by decide)) (by decide +kernel)) (SndL.c (s_fail) (SndL.c (s_fail) (SndL.c (s_ic_gt (off := 15) (by decide +kernel) (by decide)) (SndL.c (s_fail) (SndL.c (s_fail) (SndL.c (s_aload_n (k := 0) (by decide +kernel) rfl) (SndL.c (s_getf (k := 0) clok13 (by decide) rfl (by decide) rfl w_5_102 (Or.inl rfl) (by decide +kernel)) (SndL.c (s_fail) (SndL.c (s_fail) (SndL.n))))))))))))))))
def kX12_days_1 : List En := [(0, oIload 1 17), (0, oIadd 18), (0, oPush (vI 9000) 21), (1, oFail), (1, oFail), (0, oIcLe 31 24), (1, oFail), (1, oFail), (0, oRload 0 25), (0, oPush (vI (-6)) 27), (1, oFail), (2, oInvV 14 mX12_no 1 30), (1, oFail), (1, oFail), (0, oRetI), (0, oRload 0 32)]
set_option maxRecDepth 20000 in
theorem zX12_days_1 : SndL mX12_days 16 kX12_days_1 := SndL.c (s_iload_n (k := 1) (by decide +kernel) rfl) (SndL.c (s_iadd (by decide +kernel)) (SndL.c (s_sipush (by decide +kernel) (in32_d (by decide)) (by decide +kernel)) (SndL.c (s_fail) (SndL.c (s_fail) (SndL.c (s_ic_le (off := 10) (by decide +kernel) (by decide)) (SndL.c (s_fail) (SndL.c (s_fail) (SndL.c (s_aload_n (k := 0) (by decide +kernel) rfl) (SndL.c (s_bipush (by decide +kernel) (in32_d (by decide)) (by decide +kernel)) (SndL.c (s_fail) (SndL.c (s_invV (r := (RX12, TX12, 90)) (ci := 13) okX12_no rfl (by decide) rfl rfl w_6_138 w_6_140 v_29 (by decide +kernel)) (SndL.c (s_fail) (SndL.c (s_fail) (SndL.c (s_ret_i rfl (by decide +kernel)) (SndL.c (s_aload_n (k := 0) (by decide +kernel) rfl) (SndL.n))))))))))))))))
def kX12_days_2 : List En := [(0, oDup 33), (0, oGetf 14 0 0 36), (1, oFail), (1, oFail), (0, oIload 1 37), (0, oIadd 38), (0, oPutf 14 0 0 41), (1, oFail), (1, oFail), (0, oRload 0 42), (0, oGetf 14 0 0 45), (1, oFail), (1, oFail), (0, oRetI)]
set_option maxRecDepth 20000 in
theorem zX12_days_2 : SndL mX12_days 32 kX12_days_2 := SndL.c (s_dup (by decide +kernel)) (SndL.c (s_getf (k := 0) clok13 (by decide) rfl (by decide) rfl w_5_102 (Or.inl rfl) (by decide +kernel)) (SndL.c (s_fail) (SndL.c (s_fail) (SndL.c (s_iload_n (k := 1) (by decide +kernel) rfl) (SndL.c (s_iadd (by decide +kernel)) (SndL.c (s_putf (k := 0) clok13 (by decide) rfl (by decide) rfl w_5_102 (Or.inl rfl) (Or.inl rfl) (by decide +kernel)) (SndL.c (s_fail) (SndL.c (s_fail) (SndL.c (s_aload_n (k := 0) (by decide +kernel) rfl) (SndL.c (s_getf (k := 0) clok13 (by decide) rfl (by decide) rfl w_5_102 (Or.inl rfl) (by decide +kernel)) (SndL.c (s_fail) (SndL.c (s_fail) (SndL.c (s_ret_i rfl (by decide +kernel)) (SndL.n))))))))))))))
def kX12_days : Cd := [kX12_days_0, kX12_days_1, kX12_days_2]
theorem zX12_days : SndC mX12_days 0 kX12_days := SndC.c zX12_days_0 (by decide) (SndC.c zX12_days_1 (by decide) (SndC.c zX12_days_2 (by decide) (SndC.n)))
theorem aX12_days_0 : at_ kX12_days 0 = (0, oIload 1 1) := rfl
theorem aX12_days_1 : at_ kX12_days 1 = (0, oPush (vI 1) 2) := rfl
theorem aX12_days_2 : at_ kX12_days 2 = (0, oIcLt 24 5) := rfl
theorem aX12_days_5 : at_ kX12_days 5 = (0, oIload 1 6) := rfl
theorem aX12_days_6 : at_ kX12_days 6 = (0, oPush (vI 1000) 9) := rfl
theorem aX12_days_9 : at_ kX12_days 9 = (0, oIcGt 24 12) := rfl
theorem aX12_days_12 : at_ kX12_days 12 = (0, oRload 0 13) := rfl
theorem aX12_days_13 : at_ kX12_days 13 = (0, oGetf 14 0 0 16) := rfl
theorem aX12_days_16 : at_ kX12_days 16 = (0, oIload 1 17) := rfl
theorem aX12_days_17 : at_ kX12_days 17 = (0, oIadd 18) := rfl
theorem aX12_days_18 : at_ kX12_days 18 = (0, oPush (vI 9000) 21) := rfl
theorem aX12_days_21 : at_ kX12_days 21 = (0, oIcLe 31 24) := rfl
theorem aX12_days_24 : at_ kX12_days 24 = (0, oRload 0 25) := rfl
theorem aX12_days_25 : at_ kX12_days 25 = (0, oPush (vI (-6)) 27) := rfl
theorem aX12_days_27 : at_ kX12_days 27 = (2, oInvV 14 mX12_no 1 30) := rfl
theorem aX12_days_30 : at_ kX12_days 30 = (0, oRetI) := rfl
theorem aX12_days_31 : at_ kX12_days 31 = (0, oRload 0 32) := rfl
theorem aX12_days_32 : at_ kX12_days 32 = (0, oDup 33) := rfl
theorem aX12_days_33 : at_ kX12_days 33 = (0, oGetf 14 0 0 36) := rfl
theorem aX12_days_36 : at_ kX12_days 36 = (0, oIload 1 37) := rfl
theorem aX12_days_37 : at_ kX12_days 37 = (0, oIadd 38) := rfl
theorem aX12_days_38 : at_ kX12_days 38 = (0, oPutf 14 0 0 41) := rfl
theorem aX12_days_41 : at_ kX12_days 41 = (0, oRload 0 42) := rfl
theorem aX12_days_42 : at_ kX12_days 42 = (0, oGetf 14 0 0 45) := rfl
theorem aX12_days_45 : at_ kX12_days 45 = (0, oRetI) := rfl
def kX12_row_0 : List En := [(0, oIload 1 1), (2, oInvS mX12_isShelf 1 4), (1, oFail), (1, oFail), (0, oIfNe 13 7), (1, oFail), (1, oFail), (0, oRload 0 8), (0, oPush (vI (-1)) 9), (2, oInvV 14 mX12_no 1 12), (1, oFail), (1, oFail), (0, oRetI), (0, oIload 3 14), (0, oIfGe 24 17), (1, oFail)]
set_option maxRecDepth 20000 in
theorem zX12_row_0 : SndL mX12_row 0 kX12_row_0 := SndL.c (s_iload_n (k := 1) (by decide +kernel) rfl) (SndL.c (s_invS okX12_isShelf w_6_146 w_6_147 (by decide +kernel)) (SndL.c (s_fail) (SndL.c (s_fail) (SndL.c (s_if_ne (off := 9) (by decide +kernel) (by decide)) (SndL.c (s_fail) (SndL.c (s_fail) (SndL.c (s_aload_n (k := 0) (by decide +kernel) rfl) (SndL.c (s_iconst (by decide +kernel) (in32_d (by decide))) (SndL.c (s_invV (r := (RX12, TX12, 90)) (ci := 13) okX12_no rfl (by decide) rfl rfl w_6_138 w_6_140 v_29 (by decide +kernel)) (SndL.c (s_fail) (SndL.c (s_fail) (SndL.c (s_ret_i rfl (by decide +kernel)) (SndL.c (s_iload_n (k := 3) (by decide +kernel) rfl) (SndL.c (s_if_ge (off := 10) (by decide +kernel) (by decide)) (SndL.c (s_fail) (SndL.n))))))))))))))))
def kX12_row_1 : List En := [(1, oFail), (0, oRload 0 18), (0, oPush (vI (-4)) 20), (1, oFail), (2, oInvV 14 mX12_no 1 23), (1, oFail), (1, oFail), (0, oRetI), (0, oIload 2 25), (0, oIfLt 33 28), (1, oFail), (1, oFail), (0, oIload 2 29), (0, oPush (vI 3) 30), (0, oIcLe 40 33), (1, oFail)]
set_option maxRecDepth 20000 in
theorem zX12_row_1 : SndL mX12_row 16 kX12_row_1 := SndL.c (s_fail) (SndL.c (s_aload_n (k := 0) (by decide +kernel) rfl) (SndL.c (s_bipush (by decide +kernel) (in32_d (by decide)) (by decide +kernel)) (SndL.c (s_fail) (SndL.c (s_invV (r := (RX12, TX12, 90)) (ci := 13) okX12_no rfl (by decide) rfl rfl w_6_138 w_6_140 v_29 (by decide +kernel)) (SndL.c (s_fail) (SndL.c (s_fail) (SndL.c (s_ret_i rfl (by decide +kernel)) (SndL.c (s_iload_n (k := 2) (by decide +kernel) rfl) (SndL.c (s_if_lt (off := 8) (by decide +kernel) (by decide)) (SndL.c (s_fail) (SndL.c (s_fail) (SndL.c (s_iload_n (k := 2) (by decide +kernel) rfl) (SndL.c (s_iconst (by decide +kernel) (in32_d (by decide))) (SndL.c (s_ic_le (off := 10) (by decide +kernel) (by decide)) (SndL.c (s_fail) (SndL.n))))))))))))))))
def kX12_row_2 : List En := [(1, oFail), (0, oRload 0 34), (0, oPush (vI (-6)) 36), (1, oFail), (2, oInvV 14 mX12_no 1 39), (1, oFail), (1, oFail), (0, oRetI), (0, oIload 3 41), (0, oPush (vI 60) 43), (1, oFail), (0, oIcLe 53 46), (1, oFail), (1, oFail), (0, oRload 0 47), (0, oPush (vI (-7)) 49)]
set_option maxRecDepth 20000 in
theorem zX12_row_2 : SndL mX12_row 32 kX12_row_2 := SndL.c (s_fail) (SndL.c (s_aload_n (k := 0) (by decide +kernel) rfl) (SndL.c (s_bipush (by decide +kernel) (in32_d (by decide)) (by decide +kernel)) (SndL.c (s_fail) (SndL.c (s_invV (r := (RX12, TX12, 90)) (ci := 13) okX12_no rfl (by decide) rfl rfl w_6_138 w_6_140 v_29 (by decide +kernel)) (SndL.c (s_fail) (SndL.c (s_fail) (SndL.c (s_ret_i rfl (by decide +kernel)) (SndL.c (s_iload_n (k := 3) (by decide +kernel) rfl) (SndL.c (s_bipush (by decide +kernel) (in32_d (by decide)) (by decide +kernel)) (SndL.c (s_fail) (SndL.c (s_ic_le (off := 10) (by decide +kernel) (by decide)) (SndL.c (s_fail) (SndL.c (s_fail) (SndL.c (s_aload_n (k := 0) (by decide +kernel) rfl) (SndL.c (s_bipush (by decide +kernel) (in32_d (by decide)) (by decide +kernel)) (SndL.n))))))))))))))))
def kX12_row_3 : List En := [(1, oFail), (2, oInvV 14 mX12_no 1 52), (1, oFail), (1, oFail), (0, oRetI), (0, oRload 0 54), (0, oGetf 14 11 2 57), (1, oFail), (1, oFail), (0, oIload 1 58), (0, oPush (vI 1) 59), (0, oIast 60), (0, oRload 0 61), (0, oGetf 14 12 2 64), (1, oFail), (1, oFail)]
set_option maxRecDepth 20000 in
theorem zX12_row_3 : SndL mX12_row 48 kX12_row_3 := SndL.c (s_fail) (SndL.c (s_invV (r := (RX12, TX12, 90)) (ci := 13) okX12_no rfl (by decide) rfl rfl w_6_138 w_6_140 v_29 (by decide +kernel)) (SndL.c (s_fail) (SndL.c (s_fail) (SndL.c (s_ret_i rfl (by decide +kernel)) (SndL.c (s_aload_n (k := 0) (by decide +kernel) rfl) (SndL.c (s_getf (k := 11) clok13 (by decide) rfl (by decide) rfl w_5_113 (Or.inl rfl) (by decide +kernel)) (SndL.c (s_fail) (SndL.c (s_fail) (SndL.c (s_iload_n (k := 1) (by decide +kernel) rfl) (SndL.c (s_iconst (by decide +kernel) (in32_d (by decide))) (SndL.c (s_iast (by decide +kernel)) (SndL.c (s_aload_n (k := 0) (by decide +kernel) rfl) (SndL.c (s_getf (k := 12) clok13 (by decide) rfl (by decide) rfl w_5_114 (Or.inl rfl) (by decide +kernel)) (SndL.c (s_fail) (SndL.c (s_fail) (SndL.n))))))))))))))))
def kX12_row_4 : List En := [(0, oIload 1 65), (0, oIload 2 66), (0, oIast 67), (0, oRload 0 68), (0, oGetf 14 13 2 71), (1, oFail), (1, oFail), (0, oIload 1 72), (0, oIload 3 73), (0, oIast 74), (0, oPush (vI 0) 75), (0, oIstore 4 77), (1, oFail), (1, oIload 4 79), (1, oFail), (0, oPush (vI 60) 81)]
set_option maxRecDepth 20000 in
theorem zX12_row_4 : SndL mX12_row 64 kX12_row_4 := SndL.c (s_iload_n (k := 1) (by decide +kernel) rfl) (SndL.c (s_iload_n (k := 2) (by decide +kernel) rfl) (SndL.c (s_iast (by decide +kernel)) (SndL.c (s_aload_n (k := 0) (by decide +kernel) rfl) (SndL.c (s_getf (k := 13) clok13 (by decide) rfl (by decide) rfl w_5_115 (Or.inl rfl) (by decide +kernel)) (SndL.c (s_fail) (SndL.c (s_fail) (SndL.c (s_iload_n (k := 1) (by decide +kernel) rfl) (SndL.c (s_iload_n (k := 3) (by decide +kernel) rfl) (SndL.c (s_iast (by decide +kernel)) (SndL.c (s_iconst (by decide +kernel) (in32_d (by decide))) (SndL.c (s_istore (by decide +kernel) (by decide)) (SndL.c (s_fail) (SndL.c (s_iload (by decide +kernel)) (SndL.c (s_fail) (SndL.c (s_bipush (by decide +kernel) (in32_d (by decide)) (by decide +kernel)) (SndL.n))))))))))))))))
def kX12_row_5 : List En := [(1, oFail), (0, oIcGe 103 84), (1, oFail), (1, oFail), (0, oRload 0 85), (0, oGetf 14 18 2 88), (1, oFail), (1, oFail), (0, oPush (vI 60) 90), (1, oFail), (0, oIload 1 91), (0, oImul 92), (0, oIload 4 94), (1, oFail), (0, oIadd 95), (0, oPush (vL 0) 96)]
set_option maxRecDepth 20000 in
theorem zX12_row_5 : SndL mX12_row 80 kX12_row_5 := SndL.c (s_fail) (SndL.c (s_ic_ge (off := 22) (by decide +kernel) (by decide)) (SndL.c (s_fail) (SndL.c (s_fail) (SndL.c (s_aload_n (k := 0) (by decide +kernel) rfl) (SndL.c (s_getf (k := 18) clok13 (by decide) rfl (by decide) rfl w_5_120 (Or.inl rfl) (by decide +kernel)) (SndL.c (s_fail) (SndL.c (s_fail) (SndL.c (s_bipush (by decide +kernel) (in32_d (by decide)) (by decide +kernel)) (SndL.c (s_fail) (SndL.c (s_iload_n (k := 1) (by decide +kernel) rfl) (SndL.c (s_imul (by decide +kernel)) (SndL.c (s_iload (by decide +kernel)) (SndL.c (s_fail) (SndL.c (s_iadd (by decide +kernel)) (SndL.c (s_lconst (n := 0) (by decide +kernel) (in64_d (by decide)) (by decide +kernel)) (SndL.n))))))))))))))))
def kX12_row_6 : List En := [(0, oLast 97), (0, oIinc 4 1 100), (1, oFail), (1, oFail), (0, oGoto 77), (1, oFail), (1, oFail), (0, oPush (vI 1) 104), (0, oRetI)]
set_option maxRecDepth 20000 in
theorem zX12_row_6 : SndL mX12_row 96 kX12_row_6 := SndL.c (s_last (by decide +kernel)) (SndL.c (s_iinc (by decide +kernel) (by decide)) (SndL.c (s_fail) (SndL.c (s_fail) (SndL.c (s_goto (off := -23) (by decide +kernel) (by decide)) (SndL.c (s_fail) (SndL.c (s_fail) (SndL.c (s_iconst (by decide +kernel) (in32_d (by decide))) (SndL.c (s_ret_i rfl (by decide +kernel)) (SndL.n)))))))))
def kX12_row : Cd := [kX12_row_0, kX12_row_1, kX12_row_2, kX12_row_3, kX12_row_4, kX12_row_5, kX12_row_6]
theorem zX12_row : SndC mX12_row 0 kX12_row := SndC.c zX12_row_0 (by decide) (SndC.c zX12_row_1 (by decide) (SndC.c zX12_row_2 (by decide) (SndC.c zX12_row_3 (by decide) (SndC.c zX12_row_4 (by decide) (SndC.c zX12_row_5 (by decide) (SndC.c zX12_row_6 (by decide) (SndC.n)))))))
theorem aX12_row_0 : at_ kX12_row 0 = (0, oIload 1 1) := rfl
theorem aX12_row_1 : at_ kX12_row 1 = (2, oInvS mX12_isShelf 1 4) := rfl
theorem aX12_row_4 : at_ kX12_row 4 = (0, oIfNe 13 7) := rfl
theorem aX12_row_7 : at_ kX12_row 7 = (0, oRload 0 8) := rfl
theorem aX12_row_8 : at_ kX12_row 8 = (0, oPush (vI (-1)) 9) := rfl
theorem aX12_row_9 : at_ kX12_row 9 = (2, oInvV 14 mX12_no 1 12) := rfl
theorem aX12_row_12 : at_ kX12_row 12 = (0, oRetI) := rfl
theorem aX12_row_13 : at_ kX12_row 13 = (0, oIload 3 14) := rfl
theorem aX12_row_14 : at_ kX12_row 14 = (0, oIfGe 24 17) := rfl
theorem aX12_row_17 : at_ kX12_row 17 = (0, oRload 0 18) := rfl
theorem aX12_row_18 : at_ kX12_row 18 = (0, oPush (vI (-4)) 20) := rfl
theorem aX12_row_20 : at_ kX12_row 20 = (2, oInvV 14 mX12_no 1 23) := rfl
theorem aX12_row_23 : at_ kX12_row 23 = (0, oRetI) := rfl
theorem aX12_row_24 : at_ kX12_row 24 = (0, oIload 2 25) := rfl
theorem aX12_row_25 : at_ kX12_row 25 = (0, oIfLt 33 28) := rfl
theorem aX12_row_28 : at_ kX12_row 28 = (0, oIload 2 29) := rfl
theorem aX12_row_29 : at_ kX12_row 29 = (0, oPush (vI 3) 30) := rfl
theorem aX12_row_30 : at_ kX12_row 30 = (0, oIcLe 40 33) := rfl
theorem aX12_row_33 : at_ kX12_row 33 = (0, oRload 0 34) := rfl
theorem aX12_row_34 : at_ kX12_row 34 = (0, oPush (vI (-6)) 36) := rfl
theorem aX12_row_36 : at_ kX12_row 36 = (2, oInvV 14 mX12_no 1 39) := rfl
theorem aX12_row_39 : at_ kX12_row 39 = (0, oRetI) := rfl
theorem aX12_row_40 : at_ kX12_row 40 = (0, oIload 3 41) := rfl
theorem aX12_row_41 : at_ kX12_row 41 = (0, oPush (vI 60) 43) := rfl
theorem aX12_row_43 : at_ kX12_row 43 = (0, oIcLe 53 46) := rfl
theorem aX12_row_46 : at_ kX12_row 46 = (0, oRload 0 47) := rfl
theorem aX12_row_47 : at_ kX12_row 47 = (0, oPush (vI (-7)) 49) := rfl
theorem aX12_row_49 : at_ kX12_row 49 = (2, oInvV 14 mX12_no 1 52) := rfl
theorem aX12_row_52 : at_ kX12_row 52 = (0, oRetI) := rfl
theorem aX12_row_53 : at_ kX12_row 53 = (0, oRload 0 54) := rfl
theorem aX12_row_54 : at_ kX12_row 54 = (0, oGetf 14 11 2 57) := rfl
theorem aX12_row_57 : at_ kX12_row 57 = (0, oIload 1 58) := rfl
theorem aX12_row_58 : at_ kX12_row 58 = (0, oPush (vI 1) 59) := rfl
theorem aX12_row_59 : at_ kX12_row 59 = (0, oIast 60) := rfl
theorem aX12_row_60 : at_ kX12_row 60 = (0, oRload 0 61) := rfl
theorem aX12_row_61 : at_ kX12_row 61 = (0, oGetf 14 12 2 64) := rfl
theorem aX12_row_64 : at_ kX12_row 64 = (0, oIload 1 65) := rfl
theorem aX12_row_65 : at_ kX12_row 65 = (0, oIload 2 66) := rfl
theorem aX12_row_66 : at_ kX12_row 66 = (0, oIast 67) := rfl
theorem aX12_row_67 : at_ kX12_row 67 = (0, oRload 0 68) := rfl
theorem aX12_row_68 : at_ kX12_row 68 = (0, oGetf 14 13 2 71) := rfl
theorem aX12_row_71 : at_ kX12_row 71 = (0, oIload 1 72) := rfl
theorem aX12_row_72 : at_ kX12_row 72 = (0, oIload 3 73) := rfl
theorem aX12_row_73 : at_ kX12_row 73 = (0, oIast 74) := rfl
theorem aX12_row_74 : at_ kX12_row 74 = (0, oPush (vI 0) 75) := rfl
theorem aX12_row_75 : at_ kX12_row 75 = (0, oIstore 4 77) := rfl
theorem aX12_row_77 : at_ kX12_row 77 = (1, oIload 4 79) := rfl
theorem aX12_row_79 : at_ kX12_row 79 = (0, oPush (vI 60) 81) := rfl
theorem aX12_row_81 : at_ kX12_row 81 = (0, oIcGe 103 84) := rfl
theorem aX12_row_84 : at_ kX12_row 84 = (0, oRload 0 85) := rfl
theorem aX12_row_85 : at_ kX12_row 85 = (0, oGetf 14 18 2 88) := rfl
theorem aX12_row_88 : at_ kX12_row 88 = (0, oPush (vI 60) 90) := rfl
theorem aX12_row_90 : at_ kX12_row 90 = (0, oIload 1 91) := rfl
theorem aX12_row_91 : at_ kX12_row 91 = (0, oImul 92) := rfl
theorem aX12_row_92 : at_ kX12_row 92 = (0, oIload 4 94) := rfl
theorem aX12_row_94 : at_ kX12_row 94 = (0, oIadd 95) := rfl
theorem aX12_row_95 : at_ kX12_row 95 = (0, oPush (vL 0) 96) := rfl
theorem aX12_row_96 : at_ kX12_row 96 = (0, oLast 97) := rfl
theorem aX12_row_97 : at_ kX12_row 97 = (0, oIinc 4 1 100) := rfl
theorem aX12_row_100 : at_ kX12_row 100 = (0, oGoto 77) := rfl
theorem aX12_row_103 : at_ kX12_row 103 = (0, oPush (vI 1) 104) := rfl
theorem aX12_row_104 : at_ kX12_row 104 = (0, oRetI) := rfl
def kX12_set_0 : List En := [(0, oIload 1 1), (2, oInvS mX12_isShelf 1 4), (1, oFail), (1, oFail), (0, oIfNe 13 7), (1, oFail), (1, oFail), (0, oRload 0 8), (0, oPush (vI (-1)) 9), (2, oInvV 14 mX12_no 1 12), (1, oFail), (1, oFail), (0, oRetI), (0, oRload 0 14), (0, oGetf 14 11 2 17), (1, oFail)]
set_option maxRecDepth 20000 in
theorem zX12_set_0 : SndL mX12_set 0 kX12_set_0 := SndL.c (s_iload_n (k := 1) (by decide +kernel) rfl) (SndL.c (s_invS okX12_isShelf w_6_146 w_6_147 (by decide +kernel)) (SndL.c (s_fail) (SndL.c (s_fail) (SndL.c (s_if_ne (off := 9) (by decide +kernel) (by decide)) (SndL.c (s_fail) (SndL.c (s_fail) (SndL.c (s_aload_n (k := 0) (by decide +kernel) rfl) (SndL.c (s_iconst (by decide +kernel) (in32_d (by decide))) (SndL.c (s_invV (r := (RX12, TX12, 90)) (ci := 13) okX12_no rfl (by decide) rfl rfl w_6_138 w_6_140 v_29 (by decide +kernel)) (SndL.c (s_fail) (SndL.c (s_fail) (SndL.c (s_ret_i rfl (by decide +kernel)) (SndL.c (s_aload_n (k := 0) (by decide +kernel) rfl) (SndL.c (s_getf (k := 11) clok13 (by decide) rfl (by decide) rfl w_5_113 (Or.inl rfl) (by decide +kernel)) (SndL.c (s_fail) (SndL.n))))))))))))))))
def kX12_set_1 : List En := [(1, oFail), (0, oIload 1 18), (0, oIald 19), (0, oPush (vI 2) 20), (0, oIcNe 30 23), (1, oFail), (1, oFail), (0, oRload 0 24), (0, oPush (vI (-2)) 26), (1, oFail), (2, oInvV 14 mX12_no 1 29), (1, oFail), (1, oFail), (0, oRetI), (0, oRload 0 31), (0, oGetf 14 11 2 34)]
set_option maxRecDepth 20000 in
theorem zX12_set_1 : SndL mX12_set 16 kX12_set_1 := SndL.c (s_fail) (SndL.c (s_iload_n (k := 1) (by decide +kernel) rfl) (SndL.c (s_iald (by decide +kernel)) (SndL.c (s_iconst (by decide +kernel) (in32_d (by decide))) (SndL.c (s_ic_ne (off := 10) (by decide +kernel) (by decide)) (SndL.c (s_fail) (SndL.c (s_fail) (SndL.c (s_aload_n (k := 0) (by decide +kernel) rfl) (SndL.c (s_bipush (by decide +kernel) (in32_d (by decide)) (by decide +kernel)) (SndL.c (s_fail) (SndL.c (s_invV (r := (RX12, TX12, 90)) (ci := 13) okX12_no rfl (by decide) rfl rfl w_6_138 w_6_140 v_29 (by decide +kernel)) (SndL.c (s_fail) (SndL.c (s_fail) (SndL.c (s_ret_i rfl (by decide +kernel)) (SndL.c (s_aload_n (k := 0) (by decide +kernel) rfl) (SndL.c (s_getf (k := 11) clok13 (by decide) rfl (by decide) rfl w_5_113 (Or.inl rfl) (by decide +kernel)) (SndL.n))))))))))))))))
def kX12_set_2 : List En := [(1, oFail), (1, oFail), (0, oIload 1 35), (0, oIald 36), (0, oIfNe 46 39), (1, oFail), (1, oFail), (0, oRload 0 40), (0, oPush (vI (-3)) 42), (1, oFail), (2, oInvV 14 mX12_no 1 45), (1, oFail), (1, oFail), (0, oRetI), (0, oIload 2 47), (0, oIfLt 60 50)]
set_option maxRecDepth 20000 in
theorem zX12_set_2 : SndL mX12_set 32 kX12_set_2 := SndL.c (s_fail) (SndL.c (s_fail) (SndL.c (s_iload_n (k := 1) (by decide +kernel) rfl) (SndL.c (s_iald (by decide +kernel)) (SndL.c (s_if_ne (off := 10) (by decide +kernel) (by decide)) (SndL.c (s_fail) (SndL.c (s_fail) (SndL.c (s_aload_n (k := 0) (by decide +kernel) rfl) (SndL.c (s_bipush (by decide +kernel) (in32_d (by decide)) (by decide +kernel)) (SndL.c (s_fail) (SndL.c (s_invV (r := (RX12, TX12, 90)) (ci := 13) okX12_no rfl (by decide) rfl rfl w_6_138 w_6_140 v_29 (by decide +kernel)) (SndL.c (s_fail) (SndL.c (s_fail) (SndL.c (s_ret_i rfl (by decide +kernel)) (SndL.c (s_iload_n (k := 2) (by decide +kernel) rfl) (SndL.c (s_if_lt (off := 13) (by decide +kernel) (by decide)) (SndL.n))))))))))))))))
def kX12_set_3 : List En := [(1, oFail), (1, oFail), (0, oIload 2 51), (0, oRload 0 52), (0, oGetf 14 13 2 55), (1, oFail), (1, oFail), (0, oIload 1 56), (0, oIald 57), (0, oIcLt 67 60), (1, oFail), (1, oFail), (0, oRload 0 61), (0, oPush (vI (-5)) 63), (1, oFail), (2, oInvV 14 mX12_no 1 66)]
set_option maxRecDepth 20000 in
theorem zX12_set_3 : SndL mX12_set 48 kX12_set_3 := SndL.c (s_fail) (SndL.c (s_fail) (SndL.c (s_iload_n (k := 2) (by decide +kernel) rfl) (SndL.c (s_aload_n (k := 0) (by decide +kernel) rfl) (SndL.c (s_getf (k := 13) clok13 (by decide) rfl (by decide) rfl w_5_115 (Or.inl rfl) (by decide +kernel)) (SndL.c (s_fail) (SndL.c (s_fail) (SndL.c (s_iload_n (k := 1) (by decide +kernel) rfl) (SndL.c (s_iald (by decide +kernel)) (SndL.c (s_ic_lt (off := 10) (by decide +kernel) (by decide)) (SndL.c (s_fail) (SndL.c (s_fail) (SndL.c (s_aload_n (k := 0) (by decide +kernel) rfl) (SndL.c (s_bipush (by decide +kernel) (in32_d (by decide)) (by decide +kernel)) (SndL.c (s_fail) (SndL.c (s_invV (r := (RX12, TX12, 90)) (ci := 13) okX12_no rfl (by decide) rfl rfl w_6_138 w_6_140 v_29 (by decide +kernel)) (SndL.n))))))))))))))))
def kX12_set_4 : List En := [(1, oFail), (1, oFail), (0, oRetI), (0, oRload 0 68), (0, oGetf 14 18 2 71), (1, oFail), (1, oFail), (0, oPush (vI 60) 73), (1, oFail), (0, oIload 1 74), (0, oImul 75), (0, oIload 2 76), (0, oIadd 77), (0, oRload 0 78), (0, oGetf 14 12 2 81), (1, oFail)]
set_option maxRecDepth 20000 in
theorem zX12_set_4 : SndL mX12_set 64 kX12_set_4 := SndL.c (s_fail) (SndL.c (s_fail) (SndL.c (s_ret_i rfl (by decide +kernel)) (SndL.c (s_aload_n (k := 0) (by decide +kernel) rfl) (SndL.c (s_getf (k := 18) clok13 (by decide) rfl (by decide) rfl w_5_120 (Or.inl rfl) (by decide +kernel)) (SndL.c (s_fail) (SndL.c (s_fail) (SndL.c (s_bipush (by decide +kernel) (in32_d (by decide)) (by decide +kernel)) (SndL.c (s_fail) (SndL.c (s_iload_n (k := 1) (by decide +kernel) rfl) (SndL.c (s_imul (by decide +kernel)) (SndL.c (s_iload_n (k := 2) (by decide +kernel) rfl) (SndL.c (s_iadd (by decide +kernel)) (SndL.c (s_aload_n (k := 0) (by decide +kernel) rfl) (SndL.c (s_getf (k := 12) clok13 (by decide) rfl (by decide) rfl w_5_114 (Or.inl rfl) (by decide +kernel)) (SndL.c (s_fail) (SndL.n))))))))))))))))
def kX12_set_5 : List En := [(1, oFail), (0, oIload 1 82), (0, oIald 83), (0, oIfNe 93 86), (1, oFail), (1, oFail), (0, oLload 3 87), (0, oL2i 88), (0, oI2b 89), (0, oI2l 90), (0, oGoto 127), (1, oFail), (1, oFail), (0, oRload 0 94), (0, oGetf 14 12 2 97), (1, oFail)]
set_option maxRecDepth 20000 in
theorem zX12_set_5 : SndL mX12_set 80 kX12_set_5 := SndL.c (s_fail) (SndL.c (s_iload_n (k := 1) (by decide +kernel) rfl) (SndL.c (s_iald (by decide +kernel)) (SndL.c (s_if_ne (off := 10) (by decide +kernel) (by decide)) (SndL.c (s_fail) (SndL.c (s_fail) (SndL.c (s_lload_n (k := 3) (by decide +kernel) rfl) (SndL.c (s_l2i (by decide +kernel)) (SndL.c (s_i2b (by decide +kernel)) (SndL.c (s_i2l (by decide +kernel)) (SndL.c (s_goto (off := 37) (by decide +kernel) (by decide)) (SndL.c (s_fail) (SndL.c (s_fail) (SndL.c (s_aload_n (k := 0) (by decide +kernel) rfl) (SndL.c (s_getf (k := 12) clok13 (by decide) rfl (by decide) rfl w_5_114 (Or.inl rfl) (by decide +kernel)) (SndL.c (s_fail) (SndL.n))))))))))))))))
def kX12_set_6 : List En := [(1, oFail), (0, oIload 1 98), (0, oIald 99), (0, oPush (vI 1) 100), (0, oIcNe 110 103), (1, oFail), (1, oFail), (0, oLload 3 104), (0, oL2i 105), (0, oI2s 106), (0, oI2l 107), (0, oGoto 127), (1, oFail), (1, oFail), (0, oRload 0 111), (0, oGetf 14 12 2 114)]
set_option maxRecDepth 20000 in
theorem zX12_set_6 : SndL mX12_set 96 kX12_set_6 := SndL.c (s_fail) (SndL.c (s_iload_n (k := 1) (by decide +kernel) rfl) (SndL.c (s_iald (by decide +kernel)) (SndL.c (s_iconst (by decide +kernel) (in32_d (by decide))) (SndL.c (s_ic_ne (off := 10) (by decide +kernel) (by decide)) (SndL.c (s_fail) (SndL.c (s_fail) (SndL.c (s_lload_n (k := 3) (by decide +kernel) rfl) (SndL.c (s_l2i (by decide +kernel)) (SndL.c (s_i2s (by decide +kernel)) (SndL.c (s_i2l (by decide +kernel)) (SndL.c (s_goto (off := 20) (by decide +kernel) (by decide)) (SndL.c (s_fail) (SndL.c (s_fail) (SndL.c (s_aload_n (k := 0) (by decide +kernel) rfl) (SndL.c (s_getf (k := 12) clok13 (by decide) rfl (by decide) rfl w_5_114 (Or.inl rfl) (by decide +kernel)) (SndL.n))))))))))))))))
def kX12_set_7 : List En := [(1, oFail), (1, oFail), (0, oIload 1 115), (0, oIald 116), (0, oPush (vI 2) 117), (0, oIcNe 126 120), (1, oFail), (1, oFail), (0, oLload 3 121), (0, oL2i 122), (0, oI2l 123), (0, oGoto 127), (1, oFail), (1, oFail), (0, oLload 3 127), (0, oLast 128)]
set_option maxRecDepth 20000 in
theorem zX12_set_7 : SndL mX12_set 112 kX12_set_7 := SndL.c (s_fail) (SndL.c (s_fail) (SndL.c (s_iload_n (k := 1) (by decide +kernel) rfl) (SndL.c (s_iald (by decide +kernel)) (SndL.c (s_iconst (by decide +kernel) (in32_d (by decide))) (SndL.c (s_ic_ne (off := 9) (by decide +kernel) (by decide)) (SndL.c (s_fail) (SndL.c (s_fail) (SndL.c (s_lload_n (k := 3) (by decide +kernel) rfl) (SndL.c (s_l2i (by decide +kernel)) (SndL.c (s_i2l (by decide +kernel)) (SndL.c (s_goto (off := 4) (by decide +kernel) (by decide)) (SndL.c (s_fail) (SndL.c (s_fail) (SndL.c (s_lload_n (k := 3) (by decide +kernel) rfl) (SndL.c (s_last (by decide +kernel)) (SndL.n))))))))))))))))
def kX12_set_8 : List En := [(0, oPush (vI 1) 129), (0, oRetI)]
set_option maxRecDepth 20000 in
theorem zX12_set_8 : SndL mX12_set 128 kX12_set_8 := SndL.c (s_iconst (by decide +kernel) (in32_d (by decide))) (SndL.c (s_ret_i rfl (by decide +kernel)) (SndL.n))
def kX12_set : Cd := [kX12_set_0, kX12_set_1, kX12_set_2, kX12_set_3, kX12_set_4, kX12_set_5, kX12_set_6, kX12_set_7, kX12_set_8]
theorem zX12_set : SndC mX12_set 0 kX12_set := SndC.c zX12_set_0 (by decide) (SndC.c zX12_set_1 (by decide) (SndC.c zX12_set_2 (by decide) (SndC.c zX12_set_3 (by decide) (SndC.c zX12_set_4 (by decide) (SndC.c zX12_set_5 (by decide) (SndC.c zX12_set_6 (by decide) (SndC.c zX12_set_7 (by decide) (SndC.c zX12_set_8 (by decide) (SndC.n)))))))))
theorem aX12_set_0 : at_ kX12_set 0 = (0, oIload 1 1) := rfl
theorem aX12_set_1 : at_ kX12_set 1 = (2, oInvS mX12_isShelf 1 4) := rfl
theorem aX12_set_4 : at_ kX12_set 4 = (0, oIfNe 13 7) := rfl
theorem aX12_set_7 : at_ kX12_set 7 = (0, oRload 0 8) := rfl
theorem aX12_set_8 : at_ kX12_set 8 = (0, oPush (vI (-1)) 9) := rfl
theorem aX12_set_9 : at_ kX12_set 9 = (2, oInvV 14 mX12_no 1 12) := rfl
theorem aX12_set_12 : at_ kX12_set 12 = (0, oRetI) := rfl
theorem aX12_set_13 : at_ kX12_set 13 = (0, oRload 0 14) := rfl
theorem aX12_set_14 : at_ kX12_set 14 = (0, oGetf 14 11 2 17) := rfl
theorem aX12_set_17 : at_ kX12_set 17 = (0, oIload 1 18) := rfl
theorem aX12_set_18 : at_ kX12_set 18 = (0, oIald 19) := rfl
theorem aX12_set_19 : at_ kX12_set 19 = (0, oPush (vI 2) 20) := rfl
theorem aX12_set_20 : at_ kX12_set 20 = (0, oIcNe 30 23) := rfl
theorem aX12_set_23 : at_ kX12_set 23 = (0, oRload 0 24) := rfl
theorem aX12_set_24 : at_ kX12_set 24 = (0, oPush (vI (-2)) 26) := rfl
theorem aX12_set_26 : at_ kX12_set 26 = (2, oInvV 14 mX12_no 1 29) := rfl
theorem aX12_set_29 : at_ kX12_set 29 = (0, oRetI) := rfl
theorem aX12_set_30 : at_ kX12_set 30 = (0, oRload 0 31) := rfl
theorem aX12_set_31 : at_ kX12_set 31 = (0, oGetf 14 11 2 34) := rfl
theorem aX12_set_34 : at_ kX12_set 34 = (0, oIload 1 35) := rfl
theorem aX12_set_35 : at_ kX12_set 35 = (0, oIald 36) := rfl
theorem aX12_set_36 : at_ kX12_set 36 = (0, oIfNe 46 39) := rfl
theorem aX12_set_39 : at_ kX12_set 39 = (0, oRload 0 40) := rfl
theorem aX12_set_40 : at_ kX12_set 40 = (0, oPush (vI (-3)) 42) := rfl
theorem aX12_set_42 : at_ kX12_set 42 = (2, oInvV 14 mX12_no 1 45) := rfl
theorem aX12_set_45 : at_ kX12_set 45 = (0, oRetI) := rfl
theorem aX12_set_46 : at_ kX12_set 46 = (0, oIload 2 47) := rfl
theorem aX12_set_47 : at_ kX12_set 47 = (0, oIfLt 60 50) := rfl
theorem aX12_set_50 : at_ kX12_set 50 = (0, oIload 2 51) := rfl
theorem aX12_set_51 : at_ kX12_set 51 = (0, oRload 0 52) := rfl
theorem aX12_set_52 : at_ kX12_set 52 = (0, oGetf 14 13 2 55) := rfl
theorem aX12_set_55 : at_ kX12_set 55 = (0, oIload 1 56) := rfl
theorem aX12_set_56 : at_ kX12_set 56 = (0, oIald 57) := rfl
theorem aX12_set_57 : at_ kX12_set 57 = (0, oIcLt 67 60) := rfl
theorem aX12_set_60 : at_ kX12_set 60 = (0, oRload 0 61) := rfl
theorem aX12_set_61 : at_ kX12_set 61 = (0, oPush (vI (-5)) 63) := rfl
theorem aX12_set_63 : at_ kX12_set 63 = (2, oInvV 14 mX12_no 1 66) := rfl
theorem aX12_set_66 : at_ kX12_set 66 = (0, oRetI) := rfl
theorem aX12_set_67 : at_ kX12_set 67 = (0, oRload 0 68) := rfl
theorem aX12_set_68 : at_ kX12_set 68 = (0, oGetf 14 18 2 71) := rfl
theorem aX12_set_71 : at_ kX12_set 71 = (0, oPush (vI 60) 73) := rfl
theorem aX12_set_73 : at_ kX12_set 73 = (0, oIload 1 74) := rfl
theorem aX12_set_74 : at_ kX12_set 74 = (0, oImul 75) := rfl
theorem aX12_set_75 : at_ kX12_set 75 = (0, oIload 2 76) := rfl
theorem aX12_set_76 : at_ kX12_set 76 = (0, oIadd 77) := rfl
theorem aX12_set_77 : at_ kX12_set 77 = (0, oRload 0 78) := rfl
theorem aX12_set_78 : at_ kX12_set 78 = (0, oGetf 14 12 2 81) := rfl
theorem aX12_set_81 : at_ kX12_set 81 = (0, oIload 1 82) := rfl
theorem aX12_set_82 : at_ kX12_set 82 = (0, oIald 83) := rfl
theorem aX12_set_83 : at_ kX12_set 83 = (0, oIfNe 93 86) := rfl
theorem aX12_set_86 : at_ kX12_set 86 = (0, oLload 3 87) := rfl
theorem aX12_set_87 : at_ kX12_set 87 = (0, oL2i 88) := rfl
theorem aX12_set_88 : at_ kX12_set 88 = (0, oI2b 89) := rfl
theorem aX12_set_89 : at_ kX12_set 89 = (0, oI2l 90) := rfl
theorem aX12_set_90 : at_ kX12_set 90 = (0, oGoto 127) := rfl
theorem aX12_set_93 : at_ kX12_set 93 = (0, oRload 0 94) := rfl
theorem aX12_set_94 : at_ kX12_set 94 = (0, oGetf 14 12 2 97) := rfl
theorem aX12_set_97 : at_ kX12_set 97 = (0, oIload 1 98) := rfl
theorem aX12_set_98 : at_ kX12_set 98 = (0, oIald 99) := rfl
theorem aX12_set_99 : at_ kX12_set 99 = (0, oPush (vI 1) 100) := rfl
theorem aX12_set_100 : at_ kX12_set 100 = (0, oIcNe 110 103) := rfl
theorem aX12_set_103 : at_ kX12_set 103 = (0, oLload 3 104) := rfl
theorem aX12_set_104 : at_ kX12_set 104 = (0, oL2i 105) := rfl
theorem aX12_set_105 : at_ kX12_set 105 = (0, oI2s 106) := rfl
theorem aX12_set_106 : at_ kX12_set 106 = (0, oI2l 107) := rfl
theorem aX12_set_107 : at_ kX12_set 107 = (0, oGoto 127) := rfl
theorem aX12_set_110 : at_ kX12_set 110 = (0, oRload 0 111) := rfl
theorem aX12_set_111 : at_ kX12_set 111 = (0, oGetf 14 12 2 114) := rfl
theorem aX12_set_114 : at_ kX12_set 114 = (0, oIload 1 115) := rfl
theorem aX12_set_115 : at_ kX12_set 115 = (0, oIald 116) := rfl
theorem aX12_set_116 : at_ kX12_set 116 = (0, oPush (vI 2) 117) := rfl
theorem aX12_set_117 : at_ kX12_set 117 = (0, oIcNe 126 120) := rfl
theorem aX12_set_120 : at_ kX12_set 120 = (0, oLload 3 121) := rfl
theorem aX12_set_121 : at_ kX12_set 121 = (0, oL2i 122) := rfl
theorem aX12_set_122 : at_ kX12_set 122 = (0, oI2l 123) := rfl
theorem aX12_set_123 : at_ kX12_set 123 = (0, oGoto 127) := rfl
theorem aX12_set_126 : at_ kX12_set 126 = (0, oLload 3 127) := rfl
theorem aX12_set_127 : at_ kX12_set 127 = (0, oLast 128) := rfl
theorem aX12_set_128 : at_ kX12_set 128 = (0, oPush (vI 1) 129) := rfl
theorem aX12_set_129 : at_ kX12_set 129 = (0, oRetI) := rfl
def kX12_copy_0 : List En := [(0, oIload 1 1), (2, oInvS mX12_isShelf 1 4), (1, oFail), (1, oFail), (0, oIfEq 14 7), (1, oFail), (1, oFail), (0, oIload 2 8), (2, oInvS mX12_isShelf 1 11), (1, oFail), (1, oFail), (0, oIfNe 20 14), (1, oFail), (1, oFail), (0, oRload 0 15), (0, oPush (vI (-1)) 16)]
set_option maxRecDepth 20000 in
theorem zX12_copy_0 : SndL mX12_copy 0 kX12_copy_0 := SndL.c (s_iload_n (k := 1) (by decide +kernel) rfl) (SndL.c (s_invS okX12_isShelf w_6_146 w_6_147 (by decide +kernel)) (SndL.c (s_fail) (SndL.c (s_fail) (SndL.c (s_if_eq (off := 10) (by decide +kernel) (by decide)) (SndL.c (s_fail) (SndL.c (s_fail) (SndL.c (s_iload_n (k := 2) (by decide +kernel) rfl) (SndL.c (s_invS okX12_isShelf w_6_146 w_6_147 (by decide +kernel)) (SndL.c (s_fail) (SndL.c (s_fail) (SndL.c (s_if_ne (off := 9) (by decide +kernel) (by decide)) (SndL.c (s_fail) (SndL.c (s_fail) (SndL.c (s_aload_n (k := 0) (by decide +kernel) rfl) (SndL.c (s_iconst (by decide +kernel) (in32_d (by decide))) (SndL.n))))))))))))))))
def kX12_copy_1 : List En := [(2, oInvV 14 mX12_no 1 19), (1, oFail), (1, oFail), (0, oRetI), (0, oRload 0 21), (0, oGetf 14 11 2 24), (1, oFail), (1, oFail), (0, oIload 1 25), (0, oIald 26), (0, oPush (vI 2) 27), (0, oIcEq 75 30), (1, oFail), (1, oFail), (0, oRload 0 31), (0, oGetf 14 11 2 34)]
set_option maxRecDepth 20000 in
theorem zX12_copy_1 : SndL mX12_copy 16 kX12_copy_1 := SndL.c (s_invV (r := (RX12, TX12, 90)) (ci := 13) okX12_no rfl (by decide) rfl rfl w_6_138 w_6_140 v_29 (by decide +kernel)) (SndL.c (s_fail) (SndL.c (s_fail) (SndL.c (s_ret_i rfl (by decide +kernel)) (SndL.c (s_aload_n (k := 0) (by decide +kernel) rfl) (SndL.c (s_getf (k := 11) clok13 (by decide) rfl (by decide) rfl w_5_113 (Or.inl rfl) (by decide +kernel)) (SndL.c (s_fail) (SndL.c (s_fail) (SndL.c (s_iload_n (k := 1) (by decide +kernel) rfl) (SndL.c (s_iald (by decide +kernel)) (SndL.c (s_iconst (by decide +kernel) (in32_d (by decide))) (SndL.c (s_ic_eq (off := 48) (by decide +kernel) (by decide)) (SndL.c (s_fail) (SndL.c (s_fail) (SndL.c (s_aload_n (k := 0) (by decide +kernel) rfl) (SndL.c (s_getf (k := 11) clok13 (by decide) rfl (by decide) rfl w_5_113 (Or.inl rfl) (by decide +kernel)) (SndL.n))))))))))))))))
def kX12_copy_2 : List En := [(1, oFail), (1, oFail), (0, oIload 2 35), (0, oIald 36), (0, oPush (vI 2) 37), (0, oIcEq 75 40), (1, oFail), (1, oFail), (0, oRload 0 41), (0, oGetf 14 11 2 44), (1, oFail), (1, oFail), (0, oIload 1 45), (0, oIald 46), (0, oPush (vI 1) 47), (0, oIcNe 82 50)]
set_option maxRecDepth 20000 in
theorem zX12_copy_2 : SndL mX12_copy 32 kX12_copy_2 := SndL.c (s_fail) (SndL.c (s_fail) (SndL.c (s_iload_n (k := 2) (by decide +kernel) rfl) (SndL.c (s_iald (by decide +kernel)) (SndL.c (s_iconst (by decide +kernel) (in32_d (by decide))) (SndL.c (s_ic_eq (off := 38) (by decide +kernel) (by decide)) (SndL.c (s_fail) (SndL.c (s_fail) (SndL.c (s_aload_n (k := 0) (by decide +kernel) rfl) (SndL.c (s_getf (k := 11) clok13 (by decide) rfl (by decide) rfl w_5_113 (Or.inl rfl) (by decide +kernel)) (SndL.c (s_fail) (SndL.c (s_fail) (SndL.c (s_iload_n (k := 1) (by decide +kernel) rfl) (SndL.c (s_iald (by decide +kernel)) (SndL.c (s_iconst (by decide +kernel) (in32_d (by decide))) (SndL.c (s_ic_ne (off := 35) (by decide +kernel) (by decide)) (SndL.n))))))))))))))))
def kX12_copy_3 : List En := [(1, oFail), (1, oFail), (0, oRload 0 51), (0, oGetf 14 11 2 54), (1, oFail), (1, oFail), (0, oIload 2 55), (0, oIald 56), (0, oPush (vI 1) 57), (0, oIcNe 82 60), (1, oFail), (1, oFail), (0, oRload 0 61), (0, oGetf 14 12 2 64), (1, oFail), (1, oFail)]
set_option maxRecDepth 20000 in
theorem zX12_copy_3 : SndL mX12_copy 48 kX12_copy_3 := SndL.c (s_fail) (SndL.c (s_fail) (SndL.c (s_aload_n (k := 0) (by decide +kernel) rfl) (SndL.c (s_getf (k := 11) clok13 (by decide) rfl (by decide) rfl w_5_113 (Or.inl rfl) (by decide +kernel)) (SndL.c (s_fail) (SndL.c (s_fail) (SndL.c (s_iload_n (k := 2) (by decide +kernel) rfl) (SndL.c (s_iald (by decide +kernel)) (SndL.c (s_iconst (by decide +kernel) (in32_d (by decide))) (SndL.c (s_ic_ne (off := 25) (by decide +kernel) (by decide)) (SndL.c (s_fail) (SndL.c (s_fail) (SndL.c (s_aload_n (k := 0) (by decide +kernel) rfl) (SndL.c (s_getf (k := 12) clok13 (by decide) rfl (by decide) rfl w_5_114 (Or.inl rfl) (by decide +kernel)) (SndL.c (s_fail) (SndL.c (s_fail) (SndL.n))))))))))))))))
def kX12_copy_4 : List En := [(0, oIload 1 65), (0, oIald 66), (0, oRload 0 67), (0, oGetf 14 12 2 70), (1, oFail), (1, oFail), (0, oIload 2 71), (0, oIald 72), (0, oIcEq 82 75), (1, oFail), (1, oFail), (0, oRload 0 76), (0, oPush (vI (-2)) 78), (1, oFail), (2, oInvV 14 mX12_no 1 81), (1, oFail)]
set_option maxRecDepth 20000 in
theorem zX12_copy_4 : SndL mX12_copy 64 kX12_copy_4 := SndL.c (s_iload_n (k := 1) (by decide +kernel) rfl) (SndL.c (s_iald (by decide +kernel)) (SndL.c (s_aload_n (k := 0) (by decide +kernel) rfl) (SndL.c (s_getf (k := 12) clok13 (by decide) rfl (by decide) rfl w_5_114 (Or.inl rfl) (by decide +kernel)) (SndL.c (s_fail) (SndL.c (s_fail) (SndL.c (s_iload_n (k := 2) (by decide +kernel) rfl) (SndL.c (s_iald (by decide +kernel)) (SndL.c (s_ic_eq (off := 10) (by decide +kernel) (by decide)) (SndL.c (s_fail) (SndL.c (s_fail) (SndL.c (s_aload_n (k := 0) (by decide +kernel) rfl) (SndL.c (s_bipush (by decide +kernel) (in32_d (by decide)) (by decide +kernel)) (SndL.c (s_fail) (SndL.c (s_invV (r := (RX12, TX12, 90)) (ci := 13) okX12_no rfl (by decide) rfl rfl w_6_138 w_6_140 v_29 (by decide +kernel)) (SndL.c (s_fail) (SndL.n))))))))))))))))
def kX12_copy_5 : List En := [(1, oFail), (0, oRetI), (0, oRload 0 83), (0, oGetf 14 11 2 86), (1, oFail), (1, oFail), (0, oIload 1 87), (0, oIald 88), (0, oIfEq 100 91), (1, oFail), (1, oFail), (0, oRload 0 92), (0, oGetf 14 11 2 95), (1, oFail), (1, oFail), (0, oIload 2 96)]
set_option maxRecDepth 20000 in
theorem zX12_copy_5 : SndL mX12_copy 80 kX12_copy_5 := SndL.c (s_fail) (SndL.c (s_ret_i rfl (by decide +kernel)) (SndL.c (s_aload_n (k := 0) (by decide +kernel) rfl) (SndL.c (s_getf (k := 11) clok13 (by decide) rfl (by decide) rfl w_5_113 (Or.inl rfl) (by decide +kernel)) (SndL.c (s_fail) (SndL.c (s_fail) (SndL.c (s_iload_n (k := 1) (by decide +kernel) rfl) (SndL.c (s_iald (by decide +kernel)) (SndL.c (s_if_eq (off := 12) (by decide +kernel) (by decide)) (SndL.c (s_fail) (SndL.c (s_fail) (SndL.c (s_aload_n (k := 0) (by decide +kernel) rfl) (SndL.c (s_getf (k := 11) clok13 (by decide) rfl (by decide) rfl w_5_113 (Or.inl rfl) (by decide +kernel)) (SndL.c (s_fail) (SndL.c (s_fail) (SndL.c (s_iload_n (k := 2) (by decide +kernel) rfl) (SndL.n))))))))))))))))
def kX12_copy_6 : List En := [(0, oIald 97), (0, oIfNe 107 100), (1, oFail), (1, oFail), (0, oRload 0 101), (0, oPush (vI (-3)) 103), (1, oFail), (2, oInvV 14 mX12_no 1 106), (1, oFail), (1, oFail), (0, oRetI), (0, oIload 5 109), (1, oFail), (0, oIfGe 119 112), (1, oFail), (1, oFail)]
set_option maxRecDepth 20000 in
theorem zX12_copy_6 : SndL mX12_copy 96 kX12_copy_6 := SndL.c (s_iald (by decide +kernel)) (SndL.c (s_if_ne (off := 10) (by decide +kernel) (by decide)) (SndL.c (s_fail) (SndL.c (s_fail) (SndL.c (s_aload_n (k := 0) (by decide +kernel) rfl) (SndL.c (s_bipush (by decide +kernel) (in32_d (by decide)) (by decide +kernel)) (SndL.c (s_fail) (SndL.c (s_invV (r := (RX12, TX12, 90)) (ci := 13) okX12_no rfl (by decide) rfl rfl w_6_138 w_6_140 v_29 (by decide +kernel)) (SndL.c (s_fail) (SndL.c (s_fail) (SndL.c (s_ret_i rfl (by decide +kernel)) (SndL.c (s_iload (by decide +kernel)) (SndL.c (s_fail) (SndL.c (s_if_ge (off := 10) (by decide +kernel) (by decide)) (SndL.c (s_fail) (SndL.c (s_fail) (SndL.n))))))))))))))))
def kX12_copy_7 : List En := [(0, oRload 0 113), (0, oPush (vI (-4)) 115), (1, oFail), (2, oInvV 14 mX12_no 1 118), (1, oFail), (1, oFail), (0, oRetI), (0, oIload 3 120), (0, oIfLt 155 123), (1, oFail), (1, oFail), (0, oIload 4 125), (1, oFail), (0, oIfLt 155 128), (1, oFail), (1, oFail)]
set_option maxRecDepth 20000 in
theorem zX12_copy_7 : SndL mX12_copy 112 kX12_copy_7 := SndL.c (s_aload_n (k := 0) (by decide +kernel) rfl) (SndL.c (s_bipush (by decide +kernel) (in32_d (by decide)) (by decide +kernel)) (SndL.c (s_fail) (SndL.c (s_invV (r := (RX12, TX12, 90)) (ci := 13) okX12_no rfl (by decide) rfl rfl w_6_138 w_6_140 v_29 (by decide +kernel)) (SndL.c (s_fail) (SndL.c (s_fail) (SndL.c (s_ret_i rfl (by decide +kernel)) (SndL.c (s_iload_n (k := 3) (by decide +kernel) rfl) (SndL.c (s_if_lt (off := 35) (by decide +kernel) (by decide)) (SndL.c (s_fail) (SndL.c (s_fail) (SndL.c (s_iload (by decide +kernel)) (SndL.c (s_fail) (SndL.c (s_if_lt (off := 30) (by decide +kernel) (by decide)) (SndL.c (s_fail) (SndL.c (s_fail) (SndL.n))))))))))))))))
def kX12_copy_8 : List En := [(0, oIload 3 129), (0, oRload 0 130), (0, oGetf 14 13 2 133), (1, oFail), (1, oFail), (0, oIload 1 134), (0, oIald 135), (0, oIload 5 137), (1, oFail), (0, oIsub 138), (0, oIcGt 155 141), (1, oFail), (1, oFail), (0, oIload 4 143), (1, oFail), (0, oRload 0 144)]
set_option maxRecDepth 20000 in
theorem zX12_copy_8 : SndL mX12_copy 128 kX12_copy_8 := SndL.c (s_iload_n (k := 3) (by decide +kernel) rfl) (SndL.c (s_aload_n (k := 0) (by decide +kernel) rfl) (SndL.c (s_getf (k := 13) clok13 (by decide) rfl (by decide) rfl w_5_115 (Or.inl rfl) (by decide +kernel)) (SndL.c (s_fail) (SndL.c (s_fail) (SndL.c (s_iload_n (k := 1) (by decide +kernel) rfl) (SndL.c (s_iald (by decide +kernel)) (SndL.c (s_iload (by decide +kernel)) (SndL.c (s_fail) (SndL.c (s_isub (by decide +kernel)) (SndL.c (s_ic_gt (off := 17) (by decide +kernel) (by decide)) (SndL.c (s_fail) (SndL.c (s_fail) (SndL.c (s_iload (by decide +kernel)) (SndL.c (s_fail) (SndL.c (s_aload_n (k := 0) (by decide +kernel) rfl) (SndL.n))))))))))))))))
def kX12_copy_9 : List En := [(0, oGetf 14 13 2 147), (1, oFail), (1, oFail), (0, oIload 2 148), (0, oIald 149), (0, oIload 5 151), (1, oFail), (0, oIsub 152), (0, oIcLe 162 155), (1, oFail), (1, oFail), (0, oRload 0 156), (0, oPush (vI (-5)) 158), (1, oFail), (2, oInvV 14 mX12_no 1 161), (1, oFail)]
set_option maxRecDepth 20000 in
theorem zX12_copy_9 : SndL mX12_copy 144 kX12_copy_9 := SndL.c (s_getf (k := 13) clok13 (by decide) rfl (by decide) rfl w_5_115 (Or.inl rfl) (by decide +kernel)) (SndL.c (s_fail) (SndL.c (s_fail) (SndL.c (s_iload_n (k := 2) (by decide +kernel) rfl) (SndL.c (s_iald (by decide +kernel)) (SndL.c (s_iload (by decide +kernel)) (SndL.c (s_fail) (SndL.c (s_isub (by decide +kernel)) (SndL.c (s_ic_le (off := 10) (by decide +kernel) (by decide)) (SndL.c (s_fail) (SndL.c (s_fail) (SndL.c (s_aload_n (k := 0) (by decide +kernel) rfl) (SndL.c (s_bipush (by decide +kernel) (in32_d (by decide)) (by decide +kernel)) (SndL.c (s_fail) (SndL.c (s_invV (r := (RX12, TX12, 90)) (ci := 13) okX12_no rfl (by decide) rfl rfl w_6_138 w_6_140 v_29 (by decide +kernel)) (SndL.c (s_fail) (SndL.n))))))))))))))))
def kX12_copy_10 : List En := [(1, oFail), (0, oRetI), (0, oPush (vI 0) 163), (0, oIstore 6 165), (1, oFail), (1, oIload 6 167), (1, oFail), (0, oIload 5 169), (1, oFail), (0, oIcGe 199 172), (1, oFail), (1, oFail), (0, oRload 0 173), (0, oGetf 14 19 2 176), (1, oFail), (1, oFail)]
set_option maxRecDepth 20000 in
theorem zX12_copy_10 : SndL mX12_copy 160 kX12_copy_10 := SndL.c (s_fail) (SndL.c (s_ret_i rfl (by decide +kernel)) (SndL.c (s_iconst (by decide +kernel) (in32_d (by decide))) (SndL.c (s_istore (by decide +kernel) (by decide)) (SndL.c (s_fail) (SndL.c (s_iload (by decide +kernel)) (SndL.c (s_fail) (SndL.c (s_iload (by decide +kernel)) (SndL.c (s_fail) (SndL.c (s_ic_ge (off := 30) (by decide +kernel) (by decide)) (SndL.c (s_fail) (SndL.c (s_fail) (SndL.c (s_aload_n (k := 0) (by decide +kernel) rfl) (SndL.c (s_getf (k := 19) clok13 (by decide) rfl (by decide) rfl w_5_121 (Or.inl rfl) (by decide +kernel)) (SndL.c (s_fail) (SndL.c (s_fail) (SndL.n))))))))))))))))
def kX12_copy_11 : List En := [(0, oIload 6 178), (1, oFail), (0, oRload 0 179), (0, oGetf 14 18 2 182), (1, oFail), (1, oFail), (0, oPush (vI 60) 184), (1, oFail), (0, oIload 1 185), (0, oImul 186), (0, oIload 3 187), (0, oIadd 188), (0, oIload 6 190), (1, oFail), (0, oIadd 191), (0, oLald 192)]
set_option maxRecDepth 20000 in
theorem zX12_copy_11 : SndL mX12_copy 176 kX12_copy_11 := SndL.c (s_iload (by decide +kernel)) (SndL.c (s_fail) (SndL.c (s_aload_n (k := 0) (by decide +kernel) rfl) (SndL.c (s_getf (k := 18) clok13 (by decide) rfl (by decide) rfl w_5_120 (Or.inl rfl) (by decide +kernel)) (SndL.c (s_fail) (SndL.c (s_fail) (SndL.c (s_bipush (by decide +kernel) (in32_d (by decide)) (by decide +kernel)) (SndL.c (s_fail) (SndL.c (s_iload_n (k := 1) (by decide +kernel) rfl) (SndL.c (s_imul (by decide +kernel)) (SndL.c (s_iload_n (k := 3) (by decide +kernel) rfl) (SndL.c (s_iadd (by decide +kernel)) (SndL.c (s_iload (by decide +kernel)) (SndL.c (s_fail) (SndL.c (s_iadd (by decide +kernel)) (SndL.c (s_lald (by decide +kernel)) (SndL.n))))))))))))))))
def kX12_copy_12 : List En := [(0, oLast 193), (0, oIinc 6 1 196), (1, oFail), (1, oFail), (0, oGoto 165), (1, oFail), (1, oFail), (0, oPush (vI 0) 200), (0, oIstore 6 202), (1, oFail), (1, oIload 6 204), (1, oFail), (0, oIload 5 206), (1, oFail), (0, oIcGe 237 209), (1, oFail)]
set_option maxRecDepth 20000 in
theorem zX12_copy_12 : SndL mX12_copy 192 kX12_copy_12 := SndL.c (s_last (by decide +kernel)) (SndL.c (s_iinc (by decide +kernel) (by decide)) (SndL.c (s_fail) (SndL.c (s_fail) (SndL.c (s_goto (off := -31) (by decide +kernel) (by decide)) (SndL.c (s_fail) (SndL.c (s_fail) (SndL.c (s_iconst (by decide +kernel) (in32_d (by decide))) (SndL.c (s_istore (by decide +kernel) (by decide)) (SndL.c (s_fail) (SndL.c (s_iload (by decide +kernel)) (SndL.c (s_fail) (SndL.c (s_iload (by decide +kernel)) (SndL.c (s_fail) (SndL.c (s_ic_ge (off := 31) (by decide +kernel) (by decide)) (SndL.c (s_fail) (SndL.n))))))))))))))))
def kX12_copy_13 : List En := [(1, oFail), (0, oRload 0 210), (0, oGetf 14 18 2 213), (1, oFail), (1, oFail), (0, oPush (vI 60) 215), (1, oFail), (0, oIload 2 216), (0, oImul 217), (0, oIload 4 219), (1, oFail), (0, oIadd 220), (0, oIload 6 222), (1, oFail), (0, oIadd 223), (0, oRload 0 224)]
set_option maxRecDepth 20000 in
theorem zX12_copy_13 : SndL mX12_copy 208 kX12_copy_13 := SndL.c (s_fail) (SndL.c (s_aload_n (k := 0) (by decide +kernel) rfl) (SndL.c (s_getf (k := 18) clok13 (by decide) rfl (by decide) rfl w_5_120 (Or.inl rfl) (by decide +kernel)) (SndL.c (s_fail) (SndL.c (s_fail) (SndL.c (s_bipush (by decide +kernel) (in32_d (by decide)) (by decide +kernel)) (SndL.c (s_fail) (SndL.c (s_iload_n (k := 2) (by decide +kernel) rfl) (SndL.c (s_imul (by decide +kernel)) (SndL.c (s_iload (by decide +kernel)) (SndL.c (s_fail) (SndL.c (s_iadd (by decide +kernel)) (SndL.c (s_iload (by decide +kernel)) (SndL.c (s_fail) (SndL.c (s_iadd (by decide +kernel)) (SndL.c (s_aload_n (k := 0) (by decide +kernel) rfl) (SndL.n))))))))))))))))
def kX12_copy_14 : List En := [(0, oGetf 14 19 2 227), (1, oFail), (1, oFail), (0, oIload 6 229), (1, oFail), (0, oLald 230), (0, oLast 231), (0, oIinc 6 1 234), (1, oFail), (1, oFail), (0, oGoto 202), (1, oFail), (1, oFail), (0, oPush (vI 1) 238), (0, oRetI)]
set_option maxRecDepth 20000 in
theorem zX12_copy_14 : SndL mX12_copy 224 kX12_copy_14 := SndL.c (s_getf (k := 19) clok13 (by decide) rfl (by decide) rfl w_5_121 (Or.inl rfl) (by decide +kernel)) (SndL.c (s_fail) (SndL.c (s_fail) (SndL.c (s_iload (by decide +kernel)) (SndL.c (s_fail) (SndL.c (s_lald (by decide +kernel)) (SndL.c (s_last (by decide +kernel)) (SndL.c (s_iinc (by decide +kernel) (by decide)) (SndL.c (s_fail) (SndL.c (s_fail) (SndL.c (s_goto (off := -32) (by decide +kernel) (by decide)) (SndL.c (s_fail) (SndL.c (s_fail) (SndL.c (s_iconst (by decide +kernel) (in32_d (by decide))) (SndL.c (s_ret_i rfl (by decide +kernel)) (SndL.n)))))))))))))))
def kX12_copy : Cd := [kX12_copy_0, kX12_copy_1, kX12_copy_2, kX12_copy_3, kX12_copy_4, kX12_copy_5, kX12_copy_6, kX12_copy_7, kX12_copy_8, kX12_copy_9, kX12_copy_10, kX12_copy_11, kX12_copy_12, kX12_copy_13, kX12_copy_14]
theorem zX12_copy : SndC mX12_copy 0 kX12_copy := SndC.c zX12_copy_0 (by decide) (SndC.c zX12_copy_1 (by decide) (SndC.c zX12_copy_2 (by decide) (SndC.c zX12_copy_3 (by decide) (SndC.c zX12_copy_4 (by decide) (SndC.c zX12_copy_5 (by decide) (SndC.c zX12_copy_6 (by decide) (SndC.c zX12_copy_7 (by decide) (SndC.c zX12_copy_8 (by decide) (SndC.c zX12_copy_9 (by decide) (SndC.c zX12_copy_10 (by decide) (SndC.c zX12_copy_11 (by decide) (SndC.c zX12_copy_12 (by decide) (SndC.c zX12_copy_13 (by decide) (SndC.c zX12_copy_14 (by decide) (SndC.n)))))))))))))))
theorem aX12_copy_0 : at_ kX12_copy 0 = (0, oIload 1 1) := rfl
theorem aX12_copy_1 : at_ kX12_copy 1 = (2, oInvS mX12_isShelf 1 4) := rfl
theorem aX12_copy_4 : at_ kX12_copy 4 = (0, oIfEq 14 7) := rfl
theorem aX12_copy_7 : at_ kX12_copy 7 = (0, oIload 2 8) := rfl
theorem aX12_copy_8 : at_ kX12_copy 8 = (2, oInvS mX12_isShelf 1 11) := rfl
theorem aX12_copy_11 : at_ kX12_copy 11 = (0, oIfNe 20 14) := rfl
theorem aX12_copy_14 : at_ kX12_copy 14 = (0, oRload 0 15) := rfl
theorem aX12_copy_15 : at_ kX12_copy 15 = (0, oPush (vI (-1)) 16) := rfl
theorem aX12_copy_16 : at_ kX12_copy 16 = (2, oInvV 14 mX12_no 1 19) := rfl
theorem aX12_copy_19 : at_ kX12_copy 19 = (0, oRetI) := rfl
theorem aX12_copy_20 : at_ kX12_copy 20 = (0, oRload 0 21) := rfl
theorem aX12_copy_21 : at_ kX12_copy 21 = (0, oGetf 14 11 2 24) := rfl
theorem aX12_copy_24 : at_ kX12_copy 24 = (0, oIload 1 25) := rfl
theorem aX12_copy_25 : at_ kX12_copy 25 = (0, oIald 26) := rfl
theorem aX12_copy_26 : at_ kX12_copy 26 = (0, oPush (vI 2) 27) := rfl
theorem aX12_copy_27 : at_ kX12_copy 27 = (0, oIcEq 75 30) := rfl
theorem aX12_copy_30 : at_ kX12_copy 30 = (0, oRload 0 31) := rfl
theorem aX12_copy_31 : at_ kX12_copy 31 = (0, oGetf 14 11 2 34) := rfl
theorem aX12_copy_34 : at_ kX12_copy 34 = (0, oIload 2 35) := rfl
theorem aX12_copy_35 : at_ kX12_copy 35 = (0, oIald 36) := rfl
theorem aX12_copy_36 : at_ kX12_copy 36 = (0, oPush (vI 2) 37) := rfl
theorem aX12_copy_37 : at_ kX12_copy 37 = (0, oIcEq 75 40) := rfl
theorem aX12_copy_40 : at_ kX12_copy 40 = (0, oRload 0 41) := rfl
theorem aX12_copy_41 : at_ kX12_copy 41 = (0, oGetf 14 11 2 44) := rfl
theorem aX12_copy_44 : at_ kX12_copy 44 = (0, oIload 1 45) := rfl
theorem aX12_copy_45 : at_ kX12_copy 45 = (0, oIald 46) := rfl
theorem aX12_copy_46 : at_ kX12_copy 46 = (0, oPush (vI 1) 47) := rfl
theorem aX12_copy_47 : at_ kX12_copy 47 = (0, oIcNe 82 50) := rfl
theorem aX12_copy_50 : at_ kX12_copy 50 = (0, oRload 0 51) := rfl
theorem aX12_copy_51 : at_ kX12_copy 51 = (0, oGetf 14 11 2 54) := rfl
theorem aX12_copy_54 : at_ kX12_copy 54 = (0, oIload 2 55) := rfl
theorem aX12_copy_55 : at_ kX12_copy 55 = (0, oIald 56) := rfl
theorem aX12_copy_56 : at_ kX12_copy 56 = (0, oPush (vI 1) 57) := rfl
theorem aX12_copy_57 : at_ kX12_copy 57 = (0, oIcNe 82 60) := rfl
theorem aX12_copy_60 : at_ kX12_copy 60 = (0, oRload 0 61) := rfl
theorem aX12_copy_61 : at_ kX12_copy 61 = (0, oGetf 14 12 2 64) := rfl
theorem aX12_copy_64 : at_ kX12_copy 64 = (0, oIload 1 65) := rfl
theorem aX12_copy_65 : at_ kX12_copy 65 = (0, oIald 66) := rfl
theorem aX12_copy_66 : at_ kX12_copy 66 = (0, oRload 0 67) := rfl
theorem aX12_copy_67 : at_ kX12_copy 67 = (0, oGetf 14 12 2 70) := rfl
theorem aX12_copy_70 : at_ kX12_copy 70 = (0, oIload 2 71) := rfl
theorem aX12_copy_71 : at_ kX12_copy 71 = (0, oIald 72) := rfl
theorem aX12_copy_72 : at_ kX12_copy 72 = (0, oIcEq 82 75) := rfl
theorem aX12_copy_75 : at_ kX12_copy 75 = (0, oRload 0 76) := rfl
theorem aX12_copy_76 : at_ kX12_copy 76 = (0, oPush (vI (-2)) 78) := rfl
theorem aX12_copy_78 : at_ kX12_copy 78 = (2, oInvV 14 mX12_no 1 81) := rfl
theorem aX12_copy_81 : at_ kX12_copy 81 = (0, oRetI) := rfl
theorem aX12_copy_82 : at_ kX12_copy 82 = (0, oRload 0 83) := rfl
theorem aX12_copy_83 : at_ kX12_copy 83 = (0, oGetf 14 11 2 86) := rfl
theorem aX12_copy_86 : at_ kX12_copy 86 = (0, oIload 1 87) := rfl
theorem aX12_copy_87 : at_ kX12_copy 87 = (0, oIald 88) := rfl
theorem aX12_copy_88 : at_ kX12_copy 88 = (0, oIfEq 100 91) := rfl
theorem aX12_copy_91 : at_ kX12_copy 91 = (0, oRload 0 92) := rfl
theorem aX12_copy_92 : at_ kX12_copy 92 = (0, oGetf 14 11 2 95) := rfl
theorem aX12_copy_95 : at_ kX12_copy 95 = (0, oIload 2 96) := rfl
theorem aX12_copy_96 : at_ kX12_copy 96 = (0, oIald 97) := rfl
theorem aX12_copy_97 : at_ kX12_copy 97 = (0, oIfNe 107 100) := rfl
theorem aX12_copy_100 : at_ kX12_copy 100 = (0, oRload 0 101) := rfl
theorem aX12_copy_101 : at_ kX12_copy 101 = (0, oPush (vI (-3)) 103) := rfl
theorem aX12_copy_103 : at_ kX12_copy 103 = (2, oInvV 14 mX12_no 1 106) := rfl
theorem aX12_copy_106 : at_ kX12_copy 106 = (0, oRetI) := rfl
theorem aX12_copy_107 : at_ kX12_copy 107 = (0, oIload 5 109) := rfl
theorem aX12_copy_109 : at_ kX12_copy 109 = (0, oIfGe 119 112) := rfl
theorem aX12_copy_112 : at_ kX12_copy 112 = (0, oRload 0 113) := rfl
theorem aX12_copy_113 : at_ kX12_copy 113 = (0, oPush (vI (-4)) 115) := rfl
theorem aX12_copy_115 : at_ kX12_copy 115 = (2, oInvV 14 mX12_no 1 118) := rfl
theorem aX12_copy_118 : at_ kX12_copy 118 = (0, oRetI) := rfl
theorem aX12_copy_119 : at_ kX12_copy 119 = (0, oIload 3 120) := rfl
theorem aX12_copy_120 : at_ kX12_copy 120 = (0, oIfLt 155 123) := rfl
theorem aX12_copy_123 : at_ kX12_copy 123 = (0, oIload 4 125) := rfl
theorem aX12_copy_125 : at_ kX12_copy 125 = (0, oIfLt 155 128) := rfl
theorem aX12_copy_128 : at_ kX12_copy 128 = (0, oIload 3 129) := rfl
theorem aX12_copy_129 : at_ kX12_copy 129 = (0, oRload 0 130) := rfl
theorem aX12_copy_130 : at_ kX12_copy 130 = (0, oGetf 14 13 2 133) := rfl
theorem aX12_copy_133 : at_ kX12_copy 133 = (0, oIload 1 134) := rfl
theorem aX12_copy_134 : at_ kX12_copy 134 = (0, oIald 135) := rfl
theorem aX12_copy_135 : at_ kX12_copy 135 = (0, oIload 5 137) := rfl
theorem aX12_copy_137 : at_ kX12_copy 137 = (0, oIsub 138) := rfl
theorem aX12_copy_138 : at_ kX12_copy 138 = (0, oIcGt 155 141) := rfl
theorem aX12_copy_141 : at_ kX12_copy 141 = (0, oIload 4 143) := rfl
theorem aX12_copy_143 : at_ kX12_copy 143 = (0, oRload 0 144) := rfl
theorem aX12_copy_144 : at_ kX12_copy 144 = (0, oGetf 14 13 2 147) := rfl
theorem aX12_copy_147 : at_ kX12_copy 147 = (0, oIload 2 148) := rfl
theorem aX12_copy_148 : at_ kX12_copy 148 = (0, oIald 149) := rfl
theorem aX12_copy_149 : at_ kX12_copy 149 = (0, oIload 5 151) := rfl
theorem aX12_copy_151 : at_ kX12_copy 151 = (0, oIsub 152) := rfl
theorem aX12_copy_152 : at_ kX12_copy 152 = (0, oIcLe 162 155) := rfl
theorem aX12_copy_155 : at_ kX12_copy 155 = (0, oRload 0 156) := rfl
theorem aX12_copy_156 : at_ kX12_copy 156 = (0, oPush (vI (-5)) 158) := rfl
theorem aX12_copy_158 : at_ kX12_copy 158 = (2, oInvV 14 mX12_no 1 161) := rfl
theorem aX12_copy_161 : at_ kX12_copy 161 = (0, oRetI) := rfl
theorem aX12_copy_162 : at_ kX12_copy 162 = (0, oPush (vI 0) 163) := rfl
theorem aX12_copy_163 : at_ kX12_copy 163 = (0, oIstore 6 165) := rfl
theorem aX12_copy_165 : at_ kX12_copy 165 = (1, oIload 6 167) := rfl
theorem aX12_copy_167 : at_ kX12_copy 167 = (0, oIload 5 169) := rfl
theorem aX12_copy_169 : at_ kX12_copy 169 = (0, oIcGe 199 172) := rfl
theorem aX12_copy_172 : at_ kX12_copy 172 = (0, oRload 0 173) := rfl
theorem aX12_copy_173 : at_ kX12_copy 173 = (0, oGetf 14 19 2 176) := rfl
theorem aX12_copy_176 : at_ kX12_copy 176 = (0, oIload 6 178) := rfl
theorem aX12_copy_178 : at_ kX12_copy 178 = (0, oRload 0 179) := rfl
theorem aX12_copy_179 : at_ kX12_copy 179 = (0, oGetf 14 18 2 182) := rfl
theorem aX12_copy_182 : at_ kX12_copy 182 = (0, oPush (vI 60) 184) := rfl
theorem aX12_copy_184 : at_ kX12_copy 184 = (0, oIload 1 185) := rfl
theorem aX12_copy_185 : at_ kX12_copy 185 = (0, oImul 186) := rfl
theorem aX12_copy_186 : at_ kX12_copy 186 = (0, oIload 3 187) := rfl
theorem aX12_copy_187 : at_ kX12_copy 187 = (0, oIadd 188) := rfl
theorem aX12_copy_188 : at_ kX12_copy 188 = (0, oIload 6 190) := rfl
theorem aX12_copy_190 : at_ kX12_copy 190 = (0, oIadd 191) := rfl
theorem aX12_copy_191 : at_ kX12_copy 191 = (0, oLald 192) := rfl
theorem aX12_copy_192 : at_ kX12_copy 192 = (0, oLast 193) := rfl
theorem aX12_copy_193 : at_ kX12_copy 193 = (0, oIinc 6 1 196) := rfl
theorem aX12_copy_196 : at_ kX12_copy 196 = (0, oGoto 165) := rfl
theorem aX12_copy_199 : at_ kX12_copy 199 = (0, oPush (vI 0) 200) := rfl
theorem aX12_copy_200 : at_ kX12_copy 200 = (0, oIstore 6 202) := rfl
theorem aX12_copy_202 : at_ kX12_copy 202 = (1, oIload 6 204) := rfl
theorem aX12_copy_204 : at_ kX12_copy 204 = (0, oIload 5 206) := rfl
theorem aX12_copy_206 : at_ kX12_copy 206 = (0, oIcGe 237 209) := rfl
theorem aX12_copy_209 : at_ kX12_copy 209 = (0, oRload 0 210) := rfl
theorem aX12_copy_210 : at_ kX12_copy 210 = (0, oGetf 14 18 2 213) := rfl
theorem aX12_copy_213 : at_ kX12_copy 213 = (0, oPush (vI 60) 215) := rfl
theorem aX12_copy_215 : at_ kX12_copy 215 = (0, oIload 2 216) := rfl
theorem aX12_copy_216 : at_ kX12_copy 216 = (0, oImul 217) := rfl
theorem aX12_copy_217 : at_ kX12_copy 217 = (0, oIload 4 219) := rfl
theorem aX12_copy_219 : at_ kX12_copy 219 = (0, oIadd 220) := rfl
theorem aX12_copy_220 : at_ kX12_copy 220 = (0, oIload 6 222) := rfl
theorem aX12_copy_222 : at_ kX12_copy 222 = (0, oIadd 223) := rfl
theorem aX12_copy_223 : at_ kX12_copy 223 = (0, oRload 0 224) := rfl
theorem aX12_copy_224 : at_ kX12_copy 224 = (0, oGetf 14 19 2 227) := rfl
theorem aX12_copy_227 : at_ kX12_copy 227 = (0, oIload 6 229) := rfl
theorem aX12_copy_229 : at_ kX12_copy 229 = (0, oLald 230) := rfl
theorem aX12_copy_230 : at_ kX12_copy 230 = (0, oLast 231) := rfl
theorem aX12_copy_231 : at_ kX12_copy 231 = (0, oIinc 6 1 234) := rfl
theorem aX12_copy_234 : at_ kX12_copy 234 = (0, oGoto 202) := rfl
theorem aX12_copy_237 : at_ kX12_copy 237 = (0, oPush (vI 1) 238) := rfl
theorem aX12_copy_238 : at_ kX12_copy 238 = (0, oRetI) := rfl
def kX12_element_0 : List En := [(0, oIload 1 1), (2, oInvS mX12_isShelf 1 4), (1, oFail), (1, oFail), (0, oIfEq 45 7), (1, oFail), (1, oFail), (0, oRload 0 8), (0, oGetf 14 11 2 11), (1, oFail), (1, oFail), (0, oIload 1 12), (0, oIald 13), (0, oPush (vI 1) 14), (0, oIcNe 45 17), (1, oFail)]
set_option maxRecDepth 20000 in
theorem zX12_element_0 : SndL mX12_element 0 kX12_element_0 := SndL.c (s_iload_n (k := 1) (by decide +kernel) rfl) (SndL.c (s_invS okX12_isShelf w_6_146 w_6_147 (by decide +kernel)) (SndL.c (s_fail) (SndL.c (s_fail) (SndL.c (s_if_eq (off := 41) (by decide +kernel) (by decide)) (SndL.c (s_fail) (SndL.c (s_fail) (SndL.c (s_aload_n (k := 0) (by decide +kernel) rfl) (SndL.c (s_getf (k := 11) clok13 (by decide) rfl (by decide) rfl w_5_113 (Or.inl rfl) (by decide +kernel)) (SndL.c (s_fail) (SndL.c (s_fail) (SndL.c (s_iload_n (k := 1) (by decide +kernel) rfl) (SndL.c (s_iald (by decide +kernel)) (SndL.c (s_iconst (by decide +kernel) (in32_d (by decide))) (SndL.c (s_ic_ne (off := 31) (by decide +kernel) (by decide)) (SndL.c (s_fail) (SndL.n))))))))))))))))
def kX12_element_1 : List En := [(1, oFail), (0, oIload 2 18), (0, oIfLt 45 21), (1, oFail), (1, oFail), (0, oIload 2 22), (0, oRload 0 23), (0, oGetf 14 13 2 26), (1, oFail), (1, oFail), (0, oIload 1 27), (0, oIald 28), (0, oIcGe 45 31), (1, oFail), (1, oFail), (0, oRload 0 32)]
set_option maxRecDepth 20000 in
theorem zX12_element_1 : SndL mX12_element 16 kX12_element_1 := SndL.c (s_fail) (SndL.c (s_iload_n (k := 2) (by decide +kernel) rfl) (SndL.c (s_if_lt (off := 27) (by decide +kernel) (by decide)) (SndL.c (s_fail) (SndL.c (s_fail) (SndL.c (s_iload_n (k := 2) (by decide +kernel) rfl) (SndL.c (s_aload_n (k := 0) (by decide +kernel) rfl) (SndL.c (s_getf (k := 13) clok13 (by decide) rfl (by decide) rfl w_5_115 (Or.inl rfl) (by decide +kernel)) (SndL.c (s_fail) (SndL.c (s_fail) (SndL.c (s_iload_n (k := 1) (by decide +kernel) rfl) (SndL.c (s_iald (by decide +kernel)) (SndL.c (s_ic_ge (off := 17) (by decide +kernel) (by decide)) (SndL.c (s_fail) (SndL.c (s_fail) (SndL.c (s_aload_n (k := 0) (by decide +kernel) rfl) (SndL.n))))))))))))))))
def kX12_element_2 : List En := [(0, oGetf 14 18 2 35), (1, oFail), (1, oFail), (0, oPush (vI 60) 37), (1, oFail), (0, oIload 1 38), (0, oImul 39), (0, oIload 2 40), (0, oIadd 41), (0, oLald 42), (0, oGoto 46), (1, oFail), (1, oFail), (0, oPush (vL 0) 46), (0, oRetL)]
set_option maxRecDepth 20000 in
theorem zX12_element_2 : SndL mX12_element 32 kX12_element_2 := SndL.c (s_getf (k := 18) clok13 (by decide) rfl (by decide) rfl w_5_120 (Or.inl rfl) (by decide +kernel)) (SndL.c (s_fail) (SndL.c (s_fail) (SndL.c (s_bipush (by decide +kernel) (in32_d (by decide)) (by decide +kernel)) (SndL.c (s_fail) (SndL.c (s_iload_n (k := 1) (by decide +kernel) rfl) (SndL.c (s_imul (by decide +kernel)) (SndL.c (s_iload_n (k := 2) (by decide +kernel) rfl) (SndL.c (s_iadd (by decide +kernel)) (SndL.c (s_lald (by decide +kernel)) (SndL.c (s_goto (off := 4) (by decide +kernel) (by decide)) (SndL.c (s_fail) (SndL.c (s_fail) (SndL.c (s_lconst (n := 0) (by decide +kernel) (in64_d (by decide)) (by decide +kernel)) (SndL.c (s_ret_l rfl (by decide +kernel)) (SndL.n)))))))))))))))
def kX12_element : Cd := [kX12_element_0, kX12_element_1, kX12_element_2]
theorem zX12_element : SndC mX12_element 0 kX12_element := SndC.c zX12_element_0 (by decide) (SndC.c zX12_element_1 (by decide) (SndC.c zX12_element_2 (by decide) (SndC.n)))
theorem aX12_element_0 : at_ kX12_element 0 = (0, oIload 1 1) := rfl
theorem aX12_element_1 : at_ kX12_element 1 = (2, oInvS mX12_isShelf 1 4) := rfl
theorem aX12_element_4 : at_ kX12_element 4 = (0, oIfEq 45 7) := rfl
theorem aX12_element_7 : at_ kX12_element 7 = (0, oRload 0 8) := rfl
theorem aX12_element_8 : at_ kX12_element 8 = (0, oGetf 14 11 2 11) := rfl
theorem aX12_element_11 : at_ kX12_element 11 = (0, oIload 1 12) := rfl
theorem aX12_element_12 : at_ kX12_element 12 = (0, oIald 13) := rfl
theorem aX12_element_13 : at_ kX12_element 13 = (0, oPush (vI 1) 14) := rfl
theorem aX12_element_14 : at_ kX12_element 14 = (0, oIcNe 45 17) := rfl
theorem aX12_element_17 : at_ kX12_element 17 = (0, oIload 2 18) := rfl
theorem aX12_element_18 : at_ kX12_element 18 = (0, oIfLt 45 21) := rfl
theorem aX12_element_21 : at_ kX12_element 21 = (0, oIload 2 22) := rfl
theorem aX12_element_22 : at_ kX12_element 22 = (0, oRload 0 23) := rfl
theorem aX12_element_23 : at_ kX12_element 23 = (0, oGetf 14 13 2 26) := rfl
theorem aX12_element_26 : at_ kX12_element 26 = (0, oIload 1 27) := rfl
theorem aX12_element_27 : at_ kX12_element 27 = (0, oIald 28) := rfl
theorem aX12_element_28 : at_ kX12_element 28 = (0, oIcGe 45 31) := rfl
theorem aX12_element_31 : at_ kX12_element 31 = (0, oRload 0 32) := rfl
theorem aX12_element_32 : at_ kX12_element 32 = (0, oGetf 14 18 2 35) := rfl
theorem aX12_element_35 : at_ kX12_element 35 = (0, oPush (vI 60) 37) := rfl
theorem aX12_element_37 : at_ kX12_element 37 = (0, oIload 1 38) := rfl
theorem aX12_element_38 : at_ kX12_element 38 = (0, oImul 39) := rfl
theorem aX12_element_39 : at_ kX12_element 39 = (0, oIload 2 40) := rfl
theorem aX12_element_40 : at_ kX12_element 40 = (0, oIadd 41) := rfl
theorem aX12_element_41 : at_ kX12_element 41 = (0, oLald 42) := rfl
theorem aX12_element_42 : at_ kX12_element 42 = (0, oGoto 46) := rfl
theorem aX12_element_45 : at_ kX12_element 45 = (0, oPush (vL 0) 46) := rfl
theorem aX12_element_46 : at_ kX12_element 46 = (0, oRetL) := rfl
def kX12_holds_0 : List En := [(0, oIload 1 1), (2, oInvS mX12_isShelf 1 4), (1, oFail), (1, oFail), (0, oIfEq 16 7), (1, oFail), (1, oFail), (0, oRload 0 8), (0, oGetf 14 11 2 11), (1, oFail), (1, oFail), (0, oIload 1 12), (0, oIald 13), (0, oIfNe 18 16), (1, oFail), (1, oFail)]
set_option maxRecDepth 20000 in
theorem zX12_holds_0 : SndL mX12_holds 0 kX12_holds_0 := SndL.c (s_iload_n (k := 1) (by decide +kernel) rfl) (SndL.c (s_invS okX12_isShelf w_6_146 w_6_147 (by decide +kernel)) (SndL.c (s_fail) (SndL.c (s_fail) (SndL.c (s_if_eq (off := 12) (by decide +kernel) (by decide)) (SndL.c (s_fail) (SndL.c (s_fail) (SndL.c (s_aload_n (k := 0) (by decide +kernel) rfl) (SndL.c (s_getf (k := 11) clok13 (by decide) rfl (by decide) rfl w_5_113 (Or.inl rfl) (by decide +kernel)) (SndL.c (s_fail) (SndL.c (s_fail) (SndL.c (s_iload_n (k := 1) (by decide +kernel) rfl) (SndL.c (s_iald (by decide +kernel)) (SndL.c (s_if_ne (off := 5) (by decide +kernel) (by decide)) (SndL.c (s_fail) (SndL.c (s_fail) (SndL.n))))))))))))))))
def kX12_holds_1 : List En := [(0, oPush (vI (-1)) 17), (0, oRetI), (0, oRload 0 19), (0, oGetf 14 11 2 22), (1, oFail), (1, oFail), (0, oIload 1 23), (0, oIald 24), (0, oPush (vI 1) 25), (0, oIcNe 40 28), (1, oFail), (1, oFail), (0, oPush (vI 100) 30), (1, oFail), (0, oRload 0 31), (0, oGetf 14 12 2 34)]
set_option maxRecDepth 20000 in
theorem zX12_holds_1 : SndL mX12_holds 16 kX12_holds_1 := SndL.c (s_iconst (by decide +kernel) (in32_d (by decide))) (SndL.c (s_ret_i rfl (by decide +kernel)) (SndL.c (s_aload_n (k := 0) (by decide +kernel) rfl) (SndL.c (s_getf (k := 11) clok13 (by decide) rfl (by decide) rfl w_5_113 (Or.inl rfl) (by decide +kernel)) (SndL.c (s_fail) (SndL.c (s_fail) (SndL.c (s_iload_n (k := 1) (by decide +kernel) rfl) (SndL.c (s_iald (by decide +kernel)) (SndL.c (s_iconst (by decide +kernel) (in32_d (by decide))) (SndL.c (s_ic_ne (off := 15) (by decide +kernel) (by decide)) (SndL.c (s_fail) (SndL.c (s_fail) (SndL.c (s_bipush (by decide +kernel) (in32_d (by decide)) (by decide +kernel)) (SndL.c (s_fail) (SndL.c (s_aload_n (k := 0) (by decide +kernel) rfl) (SndL.c (s_getf (k := 12) clok13 (by decide) rfl (by decide) rfl w_5_114 (Or.inl rfl) (by decide +kernel)) (SndL.n))))))))))))))))
def kX12_holds_2 : List En := [(1, oFail), (1, oFail), (0, oIload 1 35), (0, oIald 36), (0, oIadd 37), (0, oGoto 46), (1, oFail), (1, oFail), (0, oRload 0 41), (0, oGetf 14 14 2 44), (1, oFail), (1, oFail), (0, oIload 1 45), (0, oIald 46), (0, oRetI)]
set_option maxRecDepth 20000 in
theorem zX12_holds_2 : SndL mX12_holds 32 kX12_holds_2 := SndL.c (s_fail) (SndL.c (s_fail) (SndL.c (s_iload_n (k := 1) (by decide +kernel) rfl) (SndL.c (s_iald (by decide +kernel)) (SndL.c (s_iadd (by decide +kernel)) (SndL.c (s_goto (off := 9) (by decide +kernel) (by decide)) (SndL.c (s_fail) (SndL.c (s_fail) (SndL.c (s_aload_n (k := 0) (by decide +kernel) rfl) (SndL.c (s_getf (k := 14) clok13 (by decide) rfl (by decide) rfl w_5_116 (Or.inl rfl) (by decide +kernel)) (SndL.c (s_fail) (SndL.c (s_fail) (SndL.c (s_iload_n (k := 1) (by decide +kernel) rfl) (SndL.c (s_iald (by decide +kernel)) (SndL.c (s_ret_i rfl (by decide +kernel)) (SndL.n)))))))))))))))
def kX12_holds : Cd := [kX12_holds_0, kX12_holds_1, kX12_holds_2]
theorem zX12_holds : SndC mX12_holds 0 kX12_holds := SndC.c zX12_holds_0 (by decide) (SndC.c zX12_holds_1 (by decide) (SndC.c zX12_holds_2 (by decide) (SndC.n)))
theorem aX12_holds_0 : at_ kX12_holds 0 = (0, oIload 1 1) := rfl
theorem aX12_holds_1 : at_ kX12_holds 1 = (2, oInvS mX12_isShelf 1 4) := rfl
theorem aX12_holds_4 : at_ kX12_holds 4 = (0, oIfEq 16 7) := rfl
theorem aX12_holds_7 : at_ kX12_holds 7 = (0, oRload 0 8) := rfl
theorem aX12_holds_8 : at_ kX12_holds 8 = (0, oGetf 14 11 2 11) := rfl
theorem aX12_holds_11 : at_ kX12_holds 11 = (0, oIload 1 12) := rfl
theorem aX12_holds_12 : at_ kX12_holds 12 = (0, oIald 13) := rfl
theorem aX12_holds_13 : at_ kX12_holds 13 = (0, oIfNe 18 16) := rfl
theorem aX12_holds_16 : at_ kX12_holds 16 = (0, oPush (vI (-1)) 17) := rfl
theorem aX12_holds_17 : at_ kX12_holds 17 = (0, oRetI) := rfl
theorem aX12_holds_18 : at_ kX12_holds 18 = (0, oRload 0 19) := rfl
theorem aX12_holds_19 : at_ kX12_holds 19 = (0, oGetf 14 11 2 22) := rfl
theorem aX12_holds_22 : at_ kX12_holds 22 = (0, oIload 1 23) := rfl
theorem aX12_holds_23 : at_ kX12_holds 23 = (0, oIald 24) := rfl
theorem aX12_holds_24 : at_ kX12_holds 24 = (0, oPush (vI 1) 25) := rfl
theorem aX12_holds_25 : at_ kX12_holds 25 = (0, oIcNe 40 28) := rfl
theorem aX12_holds_28 : at_ kX12_holds 28 = (0, oPush (vI 100) 30) := rfl
theorem aX12_holds_30 : at_ kX12_holds 30 = (0, oRload 0 31) := rfl
theorem aX12_holds_31 : at_ kX12_holds 31 = (0, oGetf 14 12 2 34) := rfl
theorem aX12_holds_34 : at_ kX12_holds 34 = (0, oIload 1 35) := rfl
theorem aX12_holds_35 : at_ kX12_holds 35 = (0, oIald 36) := rfl
theorem aX12_holds_36 : at_ kX12_holds 36 = (0, oIadd 37) := rfl
theorem aX12_holds_37 : at_ kX12_holds 37 = (0, oGoto 46) := rfl
theorem aX12_holds_40 : at_ kX12_holds 40 = (0, oRload 0 41) := rfl
theorem aX12_holds_41 : at_ kX12_holds 41 = (0, oGetf 14 14 2 44) := rfl
theorem aX12_holds_44 : at_ kX12_holds 44 = (0, oIload 1 45) := rfl
theorem aX12_holds_45 : at_ kX12_holds 45 = (0, oIald 46) := rfl
theorem aX12_holds_46 : at_ kX12_holds 46 = (0, oRetI) := rfl
def kX12_says_0 : List En := [(0, oIload 1 1), (2, oInvS mX12_isShelf 1 4), (1, oFail), (1, oFail), (0, oIfEq 16 7), (1, oFail), (1, oFail), (0, oIload 2 8), (0, oIfLt 16 11), (1, oFail), (1, oFail), (0, oIload 2 12), (0, oPush (vI 5) 13), (0, oIcLe 22 16), (1, oFail), (1, oFail)]
set_option maxRecDepth 20000 in
theorem zX12_says_0 : SndL mX12_says 0 kX12_says_0 := SndL.c (s_iload_n (k := 1) (by decide +kernel) rfl) (SndL.c (s_invS okX12_isShelf w_6_146 w_6_147 (by decide +kernel)) (SndL.c (s_fail) (SndL.c (s_fail) (SndL.c (s_if_eq (off := 12) (by decide +kernel) (by decide)) (SndL.c (s_fail) (SndL.c (s_fail) (SndL.c (s_iload_n (k := 2) (by decide +kernel) rfl) (SndL.c (s_if_lt (off := 8) (by decide +kernel) (by decide)) (SndL.c (s_fail) (SndL.c (s_fail) (SndL.c (s_iload_n (k := 2) (by decide +kernel) rfl) (SndL.c (s_iconst (by decide +kernel) (in32_d (by decide))) (SndL.c (s_ic_le (off := 9) (by decide +kernel) (by decide)) (SndL.c (s_fail) (SndL.c (s_fail) (SndL.n))))))))))))))))
def kX12_says_1 : List En := [(0, oRload 0 17), (0, oPush (vI (-1)) 18), (2, oInvV 14 mX12_no 1 21), (1, oFail), (1, oFail), (0, oRetI), (0, oRload 0 23), (0, oGetf 14 11 2 26), (1, oFail), (1, oFail), (0, oIload 1 27), (0, oIald 28), (0, oPush (vI 1) 29), (0, oIcNe 39 32), (1, oFail), (1, oFail)]
set_option maxRecDepth 20000 in
theorem zX12_says_1 : SndL mX12_says 16 kX12_says_1 := SndL.c (s_aload_n (k := 0) (by decide +kernel) rfl) (SndL.c (s_iconst (by decide +kernel) (in32_d (by decide))) (SndL.c (s_invV (r := (RX12, TX12, 90)) (ci := 13) okX12_no rfl (by decide) rfl rfl w_6_138 w_6_140 v_29 (by decide +kernel)) (SndL.c (s_fail) (SndL.c (s_fail) (SndL.c (s_ret_i rfl (by decide +kernel)) (SndL.c (s_aload_n (k := 0) (by decide +kernel) rfl) (SndL.c (s_getf (k := 11) clok13 (by decide) rfl (by decide) rfl w_5_113 (Or.inl rfl) (by decide +kernel)) (SndL.c (s_fail) (SndL.c (s_fail) (SndL.c (s_iload_n (k := 1) (by decide +kernel) rfl) (SndL.c (s_iald (by decide +kernel)) (SndL.c (s_iconst (by decide +kernel) (in32_d (by decide))) (SndL.c (s_ic_ne (off := 10) (by decide +kernel) (by decide)) (SndL.c (s_fail) (SndL.c (s_fail) (SndL.n))))))))))))))))
def kX12_says_2 : List En := [(0, oRload 0 33), (0, oPush (vI (-2)) 35), (1, oFail), (2, oInvV 14 mX12_no 1 38), (1, oFail), (1, oFail), (0, oRetI), (0, oRload 0 40), (0, oGetf 14 11 2 43), (1, oFail), (1, oFail), (0, oIload 1 44), (0, oIald 45), (0, oIfNe 55 48), (1, oFail), (1, oFail)]
set_option maxRecDepth 20000 in
theorem zX12_says_2 : SndL mX12_says 32 kX12_says_2 := SndL.c (s_aload_n (k := 0) (by decide +kernel) rfl) (SndL.c (s_bipush (by decide +kernel) (in32_d (by decide)) (by decide +kernel)) (SndL.c (s_fail) (SndL.c (s_invV (r := (RX12, TX12, 90)) (ci := 13) okX12_no rfl (by decide) rfl rfl w_6_138 w_6_140 v_29 (by decide +kernel)) (SndL.c (s_fail) (SndL.c (s_fail) (SndL.c (s_ret_i rfl (by decide +kernel)) (SndL.c (s_aload_n (k := 0) (by decide +kernel) rfl) (SndL.c (s_getf (k := 11) clok13 (by decide) rfl (by decide) rfl w_5_113 (Or.inl rfl) (by decide +kernel)) (SndL.c (s_fail) (SndL.c (s_fail) (SndL.c (s_iload_n (k := 1) (by decide +kernel) rfl) (SndL.c (s_iald (by decide +kernel)) (SndL.c (s_if_ne (off := 10) (by decide +kernel) (by decide)) (SndL.c (s_fail) (SndL.c (s_fail) (SndL.n))))))))))))))))
def kX12_says_3 : List En := [(0, oRload 0 49), (0, oPush (vI (-3)) 51), (1, oFail), (2, oInvV 14 mX12_no 1 54), (1, oFail), (1, oFail), (0, oRetI), (0, oRload 0 56), (0, oGetf 14 15 2 59), (1, oFail), (1, oFail), (0, oIload 1 60), (0, oIald 61), (0, oIstore 3 62), (0, oIload 2 63), (0, oIfEq 88 66)]
set_option maxRecDepth 20000 in
theorem zX12_says_3 : SndL mX12_says 48 kX12_says_3 := SndL.c (s_aload_n (k := 0) (by decide +kernel) rfl) (SndL.c (s_bipush (by decide +kernel) (in32_d (by decide)) (by decide +kernel)) (SndL.c (s_fail) (SndL.c (s_invV (r := (RX12, TX12, 90)) (ci := 13) okX12_no rfl (by decide) rfl rfl w_6_138 w_6_140 v_29 (by decide +kernel)) (SndL.c (s_fail) (SndL.c (s_fail) (SndL.c (s_ret_i rfl (by decide +kernel)) (SndL.c (s_aload_n (k := 0) (by decide +kernel) rfl) (SndL.c (s_getf (k := 15) clok13 (by decide) rfl (by decide) rfl w_5_117 (Or.inl rfl) (by decide +kernel)) (SndL.c (s_fail) (SndL.c (s_fail) (SndL.c (s_iload_n (k := 1) (by decide +kernel) rfl) (SndL.c (s_iald (by decide +kernel)) (SndL.c (s_istore_n (k := 3) (by decide +kernel) rfl (by decide)) (SndL.c (s_iload_n (k := 2) (by decide +kernel) rfl) (SndL.c (s_if_eq (off := 25) (by decide +kernel) (by decide)) (SndL.n))))))))))))))))
def kX12_says_4 : List En := [(1, oFail), (1, oFail), (0, oIload 3 67), (0, oIload 2 68), (0, oIcEq 88 71), (1, oFail), (1, oFail), (0, oIload 2 72), (0, oPush (vI 1) 73), (0, oIcNe 81 76), (1, oFail), (1, oFail), (0, oIload 3 77), (0, oPush (vI 5) 78), (0, oIcEq 88 81), (1, oFail)]
set_option maxRecDepth 20000 in
theorem zX12_says_4 : SndL mX12_says 64 kX12_says_4 := SndL.c (s_fail) (SndL.c (s_fail) (SndL.c (s_iload_n (k := 3) (by decide +kernel) rfl) (SndL.c (s_iload_n (k := 2) (by decide +kernel) rfl) (SndL.c (s_ic_eq (off := 20) (by decide +kernel) (by decide)) (SndL.c (s_fail) (SndL.c (s_fail) (SndL.c (s_iload_n (k := 2) (by decide +kernel) rfl) (SndL.c (s_iconst (by decide +kernel) (in32_d (by decide))) (SndL.c (s_ic_ne (off := 8) (by decide +kernel) (by decide)) (SndL.c (s_fail) (SndL.c (s_fail) (SndL.c (s_iload_n (k := 3) (by decide +kernel) rfl) (SndL.c (s_iconst (by decide +kernel) (in32_d (by decide))) (SndL.c (s_ic_eq (off := 10) (by decide +kernel) (by decide)) (SndL.c (s_fail) (SndL.n))))))))))))))))
def kX12_says_5 : List En := [(1, oFail), (0, oRload 0 82), (0, oPush (vI (-2)) 84), (1, oFail), (2, oInvV 14 mX12_no 1 87), (1, oFail), (1, oFail), (0, oRetI), (0, oIload 2 89), (0, oSwitch 0 5 [128, 135, 142, 163, 163, 152] 163), (1, oFail), (1, oFail), (1, oFail), (1, oFail), (1, oFail), (1, oFail)]
set_option maxRecDepth 20000 in
theorem zX12_says_5 : SndL mX12_says 80 kX12_says_5 := SndL.c (s_fail) (SndL.c (s_aload_n (k := 0) (by decide +kernel) rfl) (SndL.c (s_bipush (by decide +kernel) (in32_d (by decide)) (by decide +kernel)) (SndL.c (s_fail) (SndL.c (s_invV (r := (RX12, TX12, 90)) (ci := 13) okX12_no rfl (by decide) rfl rfl w_6_138 w_6_140 v_29 (by decide +kernel)) (SndL.c (s_fail) (SndL.c (s_fail) (SndL.c (s_ret_i rfl (by decide +kernel)) (SndL.c (s_iload_n (k := 2) (by decide +kernel) rfl) (SndL.c (s_switch2 (dflt := 74) (lo := 0) (hi := 5) (len := 39) (offs := #[39, 46, 53, 74, 74, 63]) (by decide +kernel) (by decide) (by decide +kernel) (by decide +kernel)) (SndL.c (s_fail) (SndL.c (s_fail) (SndL.c (s_fail) (SndL.c (s_fail) (SndL.c (s_fail) (SndL.c (s_fail) (SndL.n))))))))))))))))
def kX12_says_6 : List En := [(1, oFail), (1, oFail), (1, oFail), (1, oFail), (1, oFail), (1, oFail), (1, oFail), (1, oFail), (1, oFail), (1, oFail), (1, oFail), (1, oFail), (1, oFail), (1, oFail), (1, oFail), (1, oFail)]
set_option maxRecDepth 20000 in
theorem zX12_says_6 : SndL mX12_says 96 kX12_says_6 := SndL.c (s_fail) (SndL.c (s_fail) (SndL.c (s_fail) (SndL.c (s_fail) (SndL.c (s_fail) (SndL.c (s_fail) (SndL.c (s_fail) (SndL.c (s_fail) (SndL.c (s_fail) (SndL.c (s_fail) (SndL.c (s_fail) (SndL.c (s_fail) (SndL.c (s_fail) (SndL.c (s_fail) (SndL.c (s_fail) (SndL.c (s_fail) (SndL.n))))))))))))))))
def kX12_says_7 : List En := [(1, oFail), (1, oFail), (1, oFail), (1, oFail), (1, oFail), (1, oFail), (1, oFail), (1, oFail), (1, oFail), (1, oFail), (1, oFail), (1, oFail), (1, oFail), (1, oFail), (1, oFail), (1, oFail)]
set_option maxRecDepth 20000 in
theorem zX12_says_7 : SndL mX12_says 112 kX12_says_7 := SndL.c (s_fail) (SndL.c (s_fail) (SndL.c (s_fail) (SndL.c (s_fail) (SndL.c (s_fail) (SndL.c (s_fail) (SndL.c (s_fail) (SndL.c (s_fail) (SndL.c (s_fail) (SndL.c (s_fail) (SndL.c (s_fail) (SndL.c (s_fail) (SndL.c (s_fail) (SndL.c (s_fail) (SndL.c (s_fail) (SndL.c (s_fail) (SndL.n))))))))))))))))
def kX12_says_8 : List En := [(0, oRload 0 129), (0, oGetf 14 16 2 132), (1, oFail), (1, oFail), (0, oIload 1 133), (0, oIald 134), (0, oRetI), (0, oRload 0 136), (0, oGetf 14 17 2 139), (1, oFail), (1, oFail), (0, oIload 1 140), (0, oIald 141), (0, oRetI), (0, oRload 0 143), (0, oGetf 14 17 2 146)]
set_option maxRecDepth 20000 in
theorem zX12_says_8 : SndL mX12_says 128 kX12_says_8 := SndL.c (s_aload_n (k := 0) (by decide +kernel) rfl) (SndL.c (s_getf (k := 16) clok13 (by decide) rfl (by decide) rfl w_5_118 (Or.inl rfl) (by decide +kernel)) (SndL.c (s_fail) (SndL.c (s_fail) (SndL.c (s_iload_n (k := 1) (by decide +kernel) rfl) (SndL.c (s_iald (by decide +kernel)) (SndL.c (s_ret_i rfl (by decide +kernel)) (SndL.c (s_aload_n (k := 0) (by decide +kernel) rfl) (SndL.c (s_getf (k := 17) clok13 (by decide) rfl (by decide) rfl w_5_119 (Or.inl rfl) (by decide +kernel)) (SndL.c (s_fail) (SndL.c (s_fail) (SndL.c (s_iload_n (k := 1) (by decide +kernel) rfl) (SndL.c (s_iald (by decide +kernel)) (SndL.c (s_ret_i rfl (by decide +kernel)) (SndL.c (s_aload_n (k := 0) (by decide +kernel) rfl) (SndL.c (s_getf (k := 17) clok13 (by decide) rfl (by decide) rfl w_5_119 (Or.inl rfl) (by decide +kernel)) (SndL.n))))))))))))))))
def kX12_says_9 : List En := [(1, oFail), (1, oFail), (0, oIload 1 147), (0, oIald 148), (0, oPush (vI 12) 150), (1, oFail), (0, oIrem 151), (0, oRetI), (0, oPush (vI 1000) 155), (1, oFail), (1, oFail), (0, oRload 0 156), (0, oGetf 14 17 2 159), (1, oFail), (1, oFail), (0, oIload 1 160)]
set_option maxRecDepth 20000 in
theorem zX12_says_9 : SndL mX12_says 144 kX12_says_9 := SndL.c (s_fail) (SndL.c (s_fail) (SndL.c (s_iload_n (k := 1) (by decide +kernel) rfl) (SndL.c (s_iald (by decide +kernel)) (SndL.c (s_bipush (by decide +kernel) (in32_d (by decide)) (by decide +kernel)) (SndL.c (s_fail) (SndL.c (s_irem (by decide +kernel)) (SndL.c (s_ret_i rfl (by decide +kernel)) (SndL.c (s_sipush (by decide +kernel) (in32_d (by decide)) (by decide +kernel)) (SndL.c (s_fail) (SndL.c (s_fail) (SndL.c (s_aload_n (k := 0) (by decide +kernel) rfl) (SndL.c (s_getf (k := 17) clok13 (by decide) rfl (by decide) rfl w_5_119 (Or.inl rfl) (by decide +kernel)) (SndL.c (s_fail) (SndL.c (s_fail) (SndL.c (s_iload_n (k := 1) (by decide +kernel) rfl) (SndL.n))))))))))))))))
def kX12_says_10 : List En := [(0, oIald 161), (0, oIadd 162), (0, oRetI), (0, oPush (vI 0) 164), (0, oRetI)]
set_option maxRecDepth 20000 in
theorem zX12_says_10 : SndL mX12_says 160 kX12_says_10 := SndL.c (s_iald (by decide +kernel)) (SndL.c (s_iadd (by decide +kernel)) (SndL.c (s_ret_i rfl (by decide +kernel)) (SndL.c (s_iconst (by decide +kernel) (in32_d (by decide))) (SndL.c (s_ret_i rfl (by decide +kernel)) (SndL.n)))))
def kX12_says : Cd := [kX12_says_0, kX12_says_1, kX12_says_2, kX12_says_3, kX12_says_4, kX12_says_5, kX12_says_6, kX12_says_7, kX12_says_8, kX12_says_9, kX12_says_10]
theorem zX12_says : SndC mX12_says 0 kX12_says := SndC.c zX12_says_0 (by decide) (SndC.c zX12_says_1 (by decide) (SndC.c zX12_says_2 (by decide) (SndC.c zX12_says_3 (by decide) (SndC.c zX12_says_4 (by decide) (SndC.c zX12_says_5 (by decide) (SndC.c zX12_says_6 (by decide) (SndC.c zX12_says_7 (by decide) (SndC.c zX12_says_8 (by decide) (SndC.c zX12_says_9 (by decide) (SndC.c zX12_says_10 (by decide) (SndC.n)))))))))))
theorem aX12_says_0 : at_ kX12_says 0 = (0, oIload 1 1) := rfl
theorem aX12_says_1 : at_ kX12_says 1 = (2, oInvS mX12_isShelf 1 4) := rfl
theorem aX12_says_4 : at_ kX12_says 4 = (0, oIfEq 16 7) := rfl
theorem aX12_says_7 : at_ kX12_says 7 = (0, oIload 2 8) := rfl
theorem aX12_says_8 : at_ kX12_says 8 = (0, oIfLt 16 11) := rfl
theorem aX12_says_11 : at_ kX12_says 11 = (0, oIload 2 12) := rfl
theorem aX12_says_12 : at_ kX12_says 12 = (0, oPush (vI 5) 13) := rfl
theorem aX12_says_13 : at_ kX12_says 13 = (0, oIcLe 22 16) := rfl
theorem aX12_says_16 : at_ kX12_says 16 = (0, oRload 0 17) := rfl
theorem aX12_says_17 : at_ kX12_says 17 = (0, oPush (vI (-1)) 18) := rfl
theorem aX12_says_18 : at_ kX12_says 18 = (2, oInvV 14 mX12_no 1 21) := rfl
theorem aX12_says_21 : at_ kX12_says 21 = (0, oRetI) := rfl
theorem aX12_says_22 : at_ kX12_says 22 = (0, oRload 0 23) := rfl
theorem aX12_says_23 : at_ kX12_says 23 = (0, oGetf 14 11 2 26) := rfl
theorem aX12_says_26 : at_ kX12_says 26 = (0, oIload 1 27) := rfl
theorem aX12_says_27 : at_ kX12_says 27 = (0, oIald 28) := rfl
theorem aX12_says_28 : at_ kX12_says 28 = (0, oPush (vI 1) 29) := rfl
theorem aX12_says_29 : at_ kX12_says 29 = (0, oIcNe 39 32) := rfl
theorem aX12_says_32 : at_ kX12_says 32 = (0, oRload 0 33) := rfl
theorem aX12_says_33 : at_ kX12_says 33 = (0, oPush (vI (-2)) 35) := rfl
theorem aX12_says_35 : at_ kX12_says 35 = (2, oInvV 14 mX12_no 1 38) := rfl
theorem aX12_says_38 : at_ kX12_says 38 = (0, oRetI) := rfl
theorem aX12_says_39 : at_ kX12_says 39 = (0, oRload 0 40) := rfl
theorem aX12_says_40 : at_ kX12_says 40 = (0, oGetf 14 11 2 43) := rfl
theorem aX12_says_43 : at_ kX12_says 43 = (0, oIload 1 44) := rfl
theorem aX12_says_44 : at_ kX12_says 44 = (0, oIald 45) := rfl
theorem aX12_says_45 : at_ kX12_says 45 = (0, oIfNe 55 48) := rfl
theorem aX12_says_48 : at_ kX12_says 48 = (0, oRload 0 49) := rfl
theorem aX12_says_49 : at_ kX12_says 49 = (0, oPush (vI (-3)) 51) := rfl
theorem aX12_says_51 : at_ kX12_says 51 = (2, oInvV 14 mX12_no 1 54) := rfl
theorem aX12_says_54 : at_ kX12_says 54 = (0, oRetI) := rfl
theorem aX12_says_55 : at_ kX12_says 55 = (0, oRload 0 56) := rfl
theorem aX12_says_56 : at_ kX12_says 56 = (0, oGetf 14 15 2 59) := rfl
theorem aX12_says_59 : at_ kX12_says 59 = (0, oIload 1 60) := rfl
theorem aX12_says_60 : at_ kX12_says 60 = (0, oIald 61) := rfl
theorem aX12_says_61 : at_ kX12_says 61 = (0, oIstore 3 62) := rfl
theorem aX12_says_62 : at_ kX12_says 62 = (0, oIload 2 63) := rfl
theorem aX12_says_63 : at_ kX12_says 63 = (0, oIfEq 88 66) := rfl
theorem aX12_says_66 : at_ kX12_says 66 = (0, oIload 3 67) := rfl
theorem aX12_says_67 : at_ kX12_says 67 = (0, oIload 2 68) := rfl
theorem aX12_says_68 : at_ kX12_says 68 = (0, oIcEq 88 71) := rfl
theorem aX12_says_71 : at_ kX12_says 71 = (0, oIload 2 72) := rfl
theorem aX12_says_72 : at_ kX12_says 72 = (0, oPush (vI 1) 73) := rfl
theorem aX12_says_73 : at_ kX12_says 73 = (0, oIcNe 81 76) := rfl
theorem aX12_says_76 : at_ kX12_says 76 = (0, oIload 3 77) := rfl
theorem aX12_says_77 : at_ kX12_says 77 = (0, oPush (vI 5) 78) := rfl
theorem aX12_says_78 : at_ kX12_says 78 = (0, oIcEq 88 81) := rfl
theorem aX12_says_81 : at_ kX12_says 81 = (0, oRload 0 82) := rfl
theorem aX12_says_82 : at_ kX12_says 82 = (0, oPush (vI (-2)) 84) := rfl
theorem aX12_says_84 : at_ kX12_says 84 = (2, oInvV 14 mX12_no 1 87) := rfl
theorem aX12_says_87 : at_ kX12_says 87 = (0, oRetI) := rfl
theorem aX12_says_88 : at_ kX12_says 88 = (0, oIload 2 89) := rfl
theorem aX12_says_89 : at_ kX12_says 89 = (0, oSwitch 0 5 [128, 135, 142, 163, 163, 152] 163) := rfl
theorem aX12_says_128 : at_ kX12_says 128 = (0, oRload 0 129) := rfl
theorem aX12_says_129 : at_ kX12_says 129 = (0, oGetf 14 16 2 132) := rfl
theorem aX12_says_132 : at_ kX12_says 132 = (0, oIload 1 133) := rfl
theorem aX12_says_133 : at_ kX12_says 133 = (0, oIald 134) := rfl
theorem aX12_says_134 : at_ kX12_says 134 = (0, oRetI) := rfl
theorem aX12_says_135 : at_ kX12_says 135 = (0, oRload 0 136) := rfl
theorem aX12_says_136 : at_ kX12_says 136 = (0, oGetf 14 17 2 139) := rfl
theorem aX12_says_139 : at_ kX12_says 139 = (0, oIload 1 140) := rfl
theorem aX12_says_140 : at_ kX12_says 140 = (0, oIald 141) := rfl
theorem aX12_says_141 : at_ kX12_says 141 = (0, oRetI) := rfl
theorem aX12_says_142 : at_ kX12_says 142 = (0, oRload 0 143) := rfl
theorem aX12_says_143 : at_ kX12_says 143 = (0, oGetf 14 17 2 146) := rfl
theorem aX12_says_146 : at_ kX12_says 146 = (0, oIload 1 147) := rfl
theorem aX12_says_147 : at_ kX12_says 147 = (0, oIald 148) := rfl
theorem aX12_says_148 : at_ kX12_says 148 = (0, oPush (vI 12) 150) := rfl
theorem aX12_says_150 : at_ kX12_says 150 = (0, oIrem 151) := rfl
theorem aX12_says_151 : at_ kX12_says 151 = (0, oRetI) := rfl
theorem aX12_says_152 : at_ kX12_says 152 = (0, oPush (vI 1000) 155) := rfl
theorem aX12_says_155 : at_ kX12_says 155 = (0, oRload 0 156) := rfl
theorem aX12_says_156 : at_ kX12_says 156 = (0, oGetf 14 17 2 159) := rfl
theorem aX12_says_159 : at_ kX12_says 159 = (0, oIload 1 160) := rfl
theorem aX12_says_160 : at_ kX12_says 160 = (0, oIald 161) := rfl
theorem aX12_says_161 : at_ kX12_says 161 = (0, oIadd 162) := rfl
theorem aX12_says_162 : at_ kX12_says 162 = (0, oRetI) := rfl
theorem aX12_says_163 : at_ kX12_says 163 = (0, oPush (vI 0) 164) := rfl
theorem aX12_says_164 : at_ kX12_says 164 = (0, oRetI) := rfl
def kX12_wants_0 : List En := [(0, oIload 1 1), (2, oInvS mX12_isShelf 1 4), (1, oFail), (1, oFail), (0, oIfNe 11 7), (1, oFail), (1, oFail), (0, oPush (vI (-1)) 8), (0, oGoto 41), (1, oFail), (1, oFail), (0, oRload 0 12), (0, oGetf 14 11 2 15), (1, oFail), (1, oFail), (0, oIload 1 16)]
set_option maxRecDepth 20000 in
theorem zX12_wants_0 : SndL mX12_wants 0 kX12_wants_0 := SndL.c (s_iload_n (k := 1) (by decide +kernel) rfl) (SndL.c (s_invS okX12_isShelf w_6_146 w_6_147 (by decide +kernel)) (SndL.c (s_fail) (SndL.c (s_fail) (SndL.c (s_if_ne (off := 7) (by decide +kernel) (by decide)) (SndL.c (s_fail) (SndL.c (s_fail) (SndL.c (s_iconst (by decide +kernel) (in32_d (by decide))) (SndL.c (s_goto (off := 33) (by decide +kernel) (by decide)) (SndL.c (s_fail) (SndL.c (s_fail) (SndL.c (s_aload_n (k := 0) (by decide +kernel) rfl) (SndL.c (s_getf (k := 11) clok13 (by decide) rfl (by decide) rfl w_5_113 (Or.inl rfl) (by decide +kernel)) (SndL.c (s_fail) (SndL.c (s_fail) (SndL.c (s_iload_n (k := 1) (by decide +kernel) rfl) (SndL.n))))))))))))))))
def kX12_wants_1 : List En := [(0, oIald 17), (0, oPush (vI 2) 18), (0, oIcNe 26 21), (1, oFail), (1, oFail), (0, oPush (vI (-2)) 23), (1, oFail), (0, oGoto 41), (1, oFail), (1, oFail), (0, oRload 0 27), (0, oGetf 14 11 2 30), (1, oFail), (1, oFail), (0, oIload 1 31), (0, oIald 32)]
set_option maxRecDepth 20000 in
theorem zX12_wants_1 : SndL mX12_wants 16 kX12_wants_1 := SndL.c (s_iald (by decide +kernel)) (SndL.c (s_iconst (by decide +kernel) (in32_d (by decide))) (SndL.c (s_ic_ne (off := 8) (by decide +kernel) (by decide)) (SndL.c (s_fail) (SndL.c (s_fail) (SndL.c (s_bipush (by decide +kernel) (in32_d (by decide)) (by decide +kernel)) (SndL.c (s_fail) (SndL.c (s_goto (off := 18) (by decide +kernel) (by decide)) (SndL.c (s_fail) (SndL.c (s_fail) (SndL.c (s_aload_n (k := 0) (by decide +kernel) rfl) (SndL.c (s_getf (k := 11) clok13 (by decide) rfl (by decide) rfl w_5_113 (Or.inl rfl) (by decide +kernel)) (SndL.c (s_fail) (SndL.c (s_fail) (SndL.c (s_iload_n (k := 1) (by decide +kernel) rfl) (SndL.c (s_iald (by decide +kernel)) (SndL.n))))))))))))))))
def kX12_wants_2 : List En := [(0, oIfNe 40 35), (1, oFail), (1, oFail), (0, oPush (vI (-3)) 37), (1, oFail), (0, oGoto 41), (1, oFail), (1, oFail), (0, oPush (vI 0) 41), (0, oRetI)]
set_option maxRecDepth 20000 in
theorem zX12_wants_2 : SndL mX12_wants 32 kX12_wants_2 := SndL.c (s_if_ne (off := 8) (by decide +kernel) (by decide)) (SndL.c (s_fail) (SndL.c (s_fail) (SndL.c (s_bipush (by decide +kernel) (in32_d (by decide)) (by decide +kernel)) (SndL.c (s_fail) (SndL.c (s_goto (off := 4) (by decide +kernel) (by decide)) (SndL.c (s_fail) (SndL.c (s_fail) (SndL.c (s_iconst (by decide +kernel) (in32_d (by decide))) (SndL.c (s_ret_i rfl (by decide +kernel)) (SndL.n))))))))))
def kX12_wants : Cd := [kX12_wants_0, kX12_wants_1, kX12_wants_2]
theorem zX12_wants : SndC mX12_wants 0 kX12_wants := SndC.c zX12_wants_0 (by decide) (SndC.c zX12_wants_1 (by decide) (SndC.c zX12_wants_2 (by decide) (SndC.n)))
theorem aX12_wants_0 : at_ kX12_wants 0 = (0, oIload 1 1) := rfl
theorem aX12_wants_1 : at_ kX12_wants 1 = (2, oInvS mX12_isShelf 1 4) := rfl
theorem aX12_wants_4 : at_ kX12_wants 4 = (0, oIfNe 11 7) := rfl
theorem aX12_wants_7 : at_ kX12_wants 7 = (0, oPush (vI (-1)) 8) := rfl
theorem aX12_wants_8 : at_ kX12_wants 8 = (0, oGoto 41) := rfl
theorem aX12_wants_11 : at_ kX12_wants 11 = (0, oRload 0 12) := rfl
theorem aX12_wants_12 : at_ kX12_wants 12 = (0, oGetf 14 11 2 15) := rfl
theorem aX12_wants_15 : at_ kX12_wants 15 = (0, oIload 1 16) := rfl
theorem aX12_wants_16 : at_ kX12_wants 16 = (0, oIald 17) := rfl
theorem aX12_wants_17 : at_ kX12_wants 17 = (0, oPush (vI 2) 18) := rfl
theorem aX12_wants_18 : at_ kX12_wants 18 = (0, oIcNe 26 21) := rfl
theorem aX12_wants_21 : at_ kX12_wants 21 = (0, oPush (vI (-2)) 23) := rfl
theorem aX12_wants_23 : at_ kX12_wants 23 = (0, oGoto 41) := rfl
theorem aX12_wants_26 : at_ kX12_wants 26 = (0, oRload 0 27) := rfl
theorem aX12_wants_27 : at_ kX12_wants 27 = (0, oGetf 14 11 2 30) := rfl
theorem aX12_wants_30 : at_ kX12_wants 30 = (0, oIload 1 31) := rfl
theorem aX12_wants_31 : at_ kX12_wants 31 = (0, oIald 32) := rfl
theorem aX12_wants_32 : at_ kX12_wants 32 = (0, oIfNe 40 35) := rfl
theorem aX12_wants_35 : at_ kX12_wants 35 = (0, oPush (vI (-3)) 37) := rfl
theorem aX12_wants_37 : at_ kX12_wants 37 = (0, oGoto 41) := rfl
theorem aX12_wants_40 : at_ kX12_wants 40 = (0, oPush (vI 0) 41) := rfl
theorem aX12_wants_41 : at_ kX12_wants 41 = (0, oRetI) := rfl
def kX12_intAt_0 : List En := [(0, oRload 0 1), (0, oGetf 14 18 2 4), (1, oFail), (1, oFail), (0, oPush (vI 60) 6), (1, oFail), (0, oIload 1 7), (0, oImul 8), (0, oIload 2 9), (0, oIadd 10), (0, oLald 11), (0, oL2i 12), (0, oRetI)]
set_option maxRecDepth 20000 in
theorem zX12_intAt_0 : SndL mX12_intAt 0 kX12_intAt_0 := SndL.c (s_aload_n (k := 0) (by decide +kernel) rfl) (SndL.c (s_getf (k := 18) clok13 (by decide) rfl (by decide) rfl w_5_120 (Or.inl rfl) (by decide +kernel)) (SndL.c (s_fail) (SndL.c (s_fail) (SndL.c (s_bipush (by decide +kernel) (in32_d (by decide)) (by decide +kernel)) (SndL.c (s_fail) (SndL.c (s_iload_n (k := 1) (by decide +kernel) rfl) (SndL.c (s_imul (by decide +kernel)) (SndL.c (s_iload_n (k := 2) (by decide +kernel) rfl) (SndL.c (s_iadd (by decide +kernel)) (SndL.c (s_lald (by decide +kernel)) (SndL.c (s_l2i (by decide +kernel)) (SndL.c (s_ret_i rfl (by decide +kernel)) (SndL.n)))))))))))))
def kX12_intAt : Cd := [kX12_intAt_0]
theorem zX12_intAt : SndC mX12_intAt 0 kX12_intAt := SndC.c zX12_intAt_0 (by decide) (SndC.n)
theorem aX12_intAt_0 : at_ kX12_intAt 0 = (0, oRload 0 1) := rfl
theorem aX12_intAt_1 : at_ kX12_intAt 1 = (0, oGetf 14 18 2 4) := rfl
theorem aX12_intAt_4 : at_ kX12_intAt 4 = (0, oPush (vI 60) 6) := rfl
theorem aX12_intAt_6 : at_ kX12_intAt 6 = (0, oIload 1 7) := rfl
theorem aX12_intAt_7 : at_ kX12_intAt 7 = (0, oImul 8) := rfl
theorem aX12_intAt_8 : at_ kX12_intAt 8 = (0, oIload 2 9) := rfl
theorem aX12_intAt_9 : at_ kX12_intAt 9 = (0, oIadd 10) := rfl
theorem aX12_intAt_10 : at_ kX12_intAt 10 = (0, oLald 11) := rfl
theorem aX12_intAt_11 : at_ kX12_intAt 11 = (0, oL2i 12) := rfl
theorem aX12_intAt_12 : at_ kX12_intAt 12 = (0, oRetI) := rfl
def kX12_advert_0 : List En := [(0, oIload 1 1), (2, oInvS mX12_isFirm 1 4), (1, oFail), (1, oFail), (0, oIfEq 15 7), (1, oFail), (1, oFail), (0, oRload 0 8), (0, oIload 3 9), (2, oInvV 14 mX12_wants 1 12), (1, oFail), (1, oFail), (0, oGoto 16), (1, oFail), (1, oFail), (0, oPush (vI (-1)) 16)]
set_option maxRecDepth 20000 in
theorem zX12_advert_0 : SndL mX12_advert 0 kX12_advert_0 := SndL.c (s_iload_n (k := 1) (by decide +kernel) rfl) (SndL.c (s_invS okX12_isFirm w_6_173 w_6_174 (by decide +kernel)) (SndL.c (s_fail) (SndL.c (s_fail) (SndL.c (s_if_eq (off := 11) (by decide +kernel) (by decide)) (SndL.c (s_fail) (SndL.c (s_fail) (SndL.c (s_aload_n (k := 0) (by decide +kernel) rfl) (SndL.c (s_iload_n (k := 3) (by decide +kernel) rfl) (SndL.c (s_invV (r := (RX12, TX12, 90)) (ci := 13) okX12_wants rfl (by decide) rfl rfl w_6_176 w_6_178 v_30 (by decide +kernel)) (SndL.c (s_fail) (SndL.c (s_fail) (SndL.c (s_goto (off := 4) (by decide +kernel) (by decide)) (SndL.c (s_fail) (SndL.c (s_fail) (SndL.c (s_iconst (by decide +kernel) (in32_d (by decide))) (SndL.n))))))))))))))))
def kX12_advert_1 : List En := [(0, oIstore 4 18), (1, oFail), (0, oIload 4 20), (1, oFail), (0, oIfEq 30 23), (1, oFail), (1, oFail), (0, oRload 0 24), (0, oIload 4 26), (1, oFail), (2, oInvV 14 mX12_no 1 29), (1, oFail), (1, oFail), (0, oRetI), (0, oIload 2 31), (0, oIfLt 50 34)]
set_option maxRecDepth 20000 in
theorem zX12_advert_1 : SndL mX12_advert 16 kX12_advert_1 := SndL.c (s_istore (by decide +kernel) (by decide)) (SndL.c (s_fail) (SndL.c (s_iload (by decide +kernel)) (SndL.c (s_fail) (SndL.c (s_if_eq (off := 10) (by decide +kernel) (by decide)) (SndL.c (s_fail) (SndL.c (s_fail) (SndL.c (s_aload_n (k := 0) (by decide +kernel) rfl) (SndL.c (s_iload (by decide +kernel)) (SndL.c (s_fail) (SndL.c (s_invV (r := (RX12, TX12, 90)) (ci := 13) okX12_no rfl (by decide) rfl rfl w_6_138 w_6_140 v_29 (by decide +kernel)) (SndL.c (s_fail) (SndL.c (s_fail) (SndL.c (s_ret_i rfl (by decide +kernel)) (SndL.c (s_iload_n (k := 2) (by decide +kernel) rfl) (SndL.c (s_if_lt (off := 19) (by decide +kernel) (by decide)) (SndL.n))))))))))))))))
def kX12_advert_2 : List En := [(1, oFail), (1, oFail), (0, oIload 2 35), (0, oPush (vI 5) 36), (0, oIcGt 50 39), (1, oFail), (1, oFail), (0, oRload 0 40), (0, oGetf 14 13 2 43), (1, oFail), (1, oFail), (0, oIload 3 44), (0, oIald 45), (0, oPush (vI 20) 47), (1, oFail), (0, oIcLe 57 50)]
set_option maxRecDepth 20000 in
theorem zX12_advert_2 : SndL mX12_advert 32 kX12_advert_2 := SndL.c (s_fail) (SndL.c (s_fail) (SndL.c (s_iload_n (k := 2) (by decide +kernel) rfl) (SndL.c (s_iconst (by decide +kernel) (in32_d (by decide))) (SndL.c (s_ic_gt (off := 14) (by decide +kernel) (by decide)) (SndL.c (s_fail) (SndL.c (s_fail) (SndL.c (s_aload_n (k := 0) (by decide +kernel) rfl) (SndL.c (s_getf (k := 13) clok13 (by decide) rfl (by decide) rfl w_5_115 (Or.inl rfl) (by decide +kernel)) (SndL.c (s_fail) (SndL.c (s_fail) (SndL.c (s_iload_n (k := 3) (by decide +kernel) rfl) (SndL.c (s_iald (by decide +kernel)) (SndL.c (s_bipush (by decide +kernel) (in32_d (by decide)) (by decide +kernel)) (SndL.c (s_fail) (SndL.c (s_ic_le (off := 10) (by decide +kernel) (by decide)) (SndL.n))))))))))))))))
def kX12_advert_3 : List En := [(1, oFail), (1, oFail), (0, oRload 0 51), (0, oPush (vI (-6)) 53), (1, oFail), (2, oInvV 14 mX12_no 1 56), (1, oFail), (1, oFail), (0, oRetI), (0, oRload 0 58), (0, oGetf 14 1 0 61), (1, oFail), (1, oFail), (0, oPush (vI 24) 63), (1, oFail), (0, oIcNe 73 66)]
set_option maxRecDepth 20000 in
theorem zX12_advert_3 : SndL mX12_advert 48 kX12_advert_3 := SndL.c (s_fail) (SndL.c (s_fail) (SndL.c (s_aload_n (k := 0) (by decide +kernel) rfl) (SndL.c (s_bipush (by decide +kernel) (in32_d (by decide)) (by decide +kernel)) (SndL.c (s_fail) (SndL.c (s_invV (r := (RX12, TX12, 90)) (ci := 13) okX12_no rfl (by decide) rfl rfl w_6_138 w_6_140 v_29 (by decide +kernel)) (SndL.c (s_fail) (SndL.c (s_fail) (SndL.c (s_ret_i rfl (by decide +kernel)) (SndL.c (s_aload_n (k := 0) (by decide +kernel) rfl) (SndL.c (s_getf (k := 1) clok13 (by decide) rfl (by decide) rfl w_5_103 (Or.inl rfl) (by decide +kernel)) (SndL.c (s_fail) (SndL.c (s_fail) (SndL.c (s_bipush (by decide +kernel) (in32_d (by decide)) (by decide +kernel)) (SndL.c (s_fail) (SndL.c (s_ic_ne (off := 10) (by decide +kernel) (by decide)) (SndL.n))))))))))))))))
def kX12_advert_4 : List En := [(1, oFail), (1, oFail), (0, oRload 0 67), (0, oPush (vI (-7)) 69), (1, oFail), (2, oInvV 14 mX12_no 1 72), (1, oFail), (1, oFail), (0, oRetI), (0, oRload 0 74), (0, oGetf 14 20 2 77), (1, oFail), (1, oFail), (0, oRload 0 78), (0, oGetf 14 1 0 81), (1, oFail)]
set_option maxRecDepth 20000 in
theorem zX12_advert_4 : SndL mX12_advert 64 kX12_advert_4 := SndL.c (s_fail) (SndL.c (s_fail) (SndL.c (s_aload_n (k := 0) (by decide +kernel) rfl) (SndL.c (s_bipush (by decide +kernel) (in32_d (by decide)) (by decide +kernel)) (SndL.c (s_fail) (SndL.c (s_invV (r := (RX12, TX12, 90)) (ci := 13) okX12_no rfl (by decide) rfl rfl w_6_138 w_6_140 v_29 (by decide +kernel)) (SndL.c (s_fail) (SndL.c (s_fail) (SndL.c (s_ret_i rfl (by decide +kernel)) (SndL.c (s_aload_n (k := 0) (by decide +kernel) rfl) (SndL.c (s_getf (k := 20) clok13 (by decide) rfl (by decide) rfl w_5_122 (Or.inl rfl) (by decide +kernel)) (SndL.c (s_fail) (SndL.c (s_fail) (SndL.c (s_aload_n (k := 0) (by decide +kernel) rfl) (SndL.c (s_getf (k := 1) clok13 (by decide) rfl (by decide) rfl w_5_103 (Or.inl rfl) (by decide +kernel)) (SndL.c (s_fail) (SndL.n))))))))))))))))
def kX12_advert_5 : List En := [(1, oFail), (0, oIload 1 82), (0, oIast 83), (0, oRload 0 84), (0, oGetf 14 21 2 87), (1, oFail), (1, oFail), (0, oRload 0 88), (0, oGetf 14 1 0 91), (1, oFail), (1, oFail), (0, oIload 2 92), (0, oIast 93), (0, oRload 0 94), (0, oGetf 14 22 2 97), (1, oFail)]
set_option maxRecDepth 20000 in
theorem zX12_advert_5 : SndL mX12_advert 80 kX12_advert_5 := SndL.c (s_fail) (SndL.c (s_iload_n (k := 1) (by decide +kernel) rfl) (SndL.c (s_iast (by decide +kernel)) (SndL.c (s_aload_n (k := 0) (by decide +kernel) rfl) (SndL.c (s_getf (k := 21) clok13 (by decide) rfl (by decide) rfl w_5_123 (Or.inl rfl) (by decide +kernel)) (SndL.c (s_fail) (SndL.c (s_fail) (SndL.c (s_aload_n (k := 0) (by decide +kernel) rfl) (SndL.c (s_getf (k := 1) clok13 (by decide) rfl (by decide) rfl w_5_103 (Or.inl rfl) (by decide +kernel)) (SndL.c (s_fail) (SndL.c (s_fail) (SndL.c (s_iload_n (k := 2) (by decide +kernel) rfl) (SndL.c (s_iast (by decide +kernel)) (SndL.c (s_aload_n (k := 0) (by decide +kernel) rfl) (SndL.c (s_getf (k := 22) clok13 (by decide) rfl (by decide) rfl w_5_124 (Or.inl rfl) (by decide +kernel)) (SndL.c (s_fail) (SndL.n))))))))))))))))
def kX12_advert_6 : List En := [(1, oFail), (0, oRload 0 98), (0, oGetf 14 1 0 101), (1, oFail), (1, oFail), (0, oRload 0 102), (0, oGetf 14 13 2 105), (1, oFail), (1, oFail), (0, oIload 3 106), (0, oIald 107), (0, oIast 108), (0, oPush (vI 0) 109), (0, oIstore 5 111), (1, oFail), (1, oIload 5 113)]
set_option maxRecDepth 20000 in
theorem zX12_advert_6 : SndL mX12_advert 96 kX12_advert_6 := SndL.c (s_fail) (SndL.c (s_aload_n (k := 0) (by decide +kernel) rfl) (SndL.c (s_getf (k := 1) clok13 (by decide) rfl (by decide) rfl w_5_103 (Or.inl rfl) (by decide +kernel)) (SndL.c (s_fail) (SndL.c (s_fail) (SndL.c (s_aload_n (k := 0) (by decide +kernel) rfl) (SndL.c (s_getf (k := 13) clok13 (by decide) rfl (by decide) rfl w_5_115 (Or.inl rfl) (by decide +kernel)) (SndL.c (s_fail) (SndL.c (s_fail) (SndL.c (s_iload_n (k := 3) (by decide +kernel) rfl) (SndL.c (s_iald (by decide +kernel)) (SndL.c (s_iast (by decide +kernel)) (SndL.c (s_iconst (by decide +kernel) (in32_d (by decide))) (SndL.c (s_istore (by decide +kernel) (by decide)) (SndL.c (s_fail) (SndL.c (s_iload (by decide +kernel)) (SndL.n))))))))))))))))
def kX12_advert_7 : List En := [(1, oFail), (0, oRload 0 114), (0, oGetf 14 13 2 117), (1, oFail), (1, oFail), (0, oIload 3 118), (0, oIald 119), (0, oIcGe 150 122), (1, oFail), (1, oFail), (0, oRload 0 123), (0, oGetf 14 28 2 126), (1, oFail), (1, oFail), (0, oPush (vI 20) 128), (1, oFail)]
set_option maxRecDepth 20000 in
theorem zX12_advert_7 : SndL mX12_advert 112 kX12_advert_7 := SndL.c (s_fail) (SndL.c (s_aload_n (k := 0) (by decide +kernel) rfl) (SndL.c (s_getf (k := 13) clok13 (by decide) rfl (by decide) rfl w_5_115 (Or.inl rfl) (by decide +kernel)) (SndL.c (s_fail) (SndL.c (s_fail) (SndL.c (s_iload_n (k := 3) (by decide +kernel) rfl) (SndL.c (s_iald (by decide +kernel)) (SndL.c (s_ic_ge (off := 31) (by decide +kernel) (by decide)) (SndL.c (s_fail) (SndL.c (s_fail) (SndL.c (s_aload_n (k := 0) (by decide +kernel) rfl) (SndL.c (s_getf (k := 28) clok13 (by decide) rfl (by decide) rfl w_5_130 (Or.inl rfl) (by decide +kernel)) (SndL.c (s_fail) (SndL.c (s_fail) (SndL.c (s_bipush (by decide +kernel) (in32_d (by decide)) (by decide +kernel)) (SndL.c (s_fail) (SndL.n))))))))))))))))
def kX12_advert_8 : List En := [(0, oRload 0 129), (0, oGetf 14 1 0 132), (1, oFail), (1, oFail), (0, oImul 133), (0, oIload 5 135), (1, oFail), (0, oIadd 136), (0, oRload 0 137), (0, oIload 3 138), (0, oIload 5 140), (1, oFail), (2, oInvV 14 mX12_intAt 2 143), (1, oFail), (1, oFail), (0, oIast 144)]
set_option maxRecDepth 20000 in
theorem zX12_advert_8 : SndL mX12_advert 128 kX12_advert_8 := SndL.c (s_aload_n (k := 0) (by decide +kernel) rfl) (SndL.c (s_getf (k := 1) clok13 (by decide) rfl (by decide) rfl w_5_103 (Or.inl rfl) (by decide +kernel)) (SndL.c (s_fail) (SndL.c (s_fail) (SndL.c (s_imul (by decide +kernel)) (SndL.c (s_iload (by decide +kernel)) (SndL.c (s_fail) (SndL.c (s_iadd (by decide +kernel)) (SndL.c (s_aload_n (k := 0) (by decide +kernel) rfl) (SndL.c (s_iload_n (k := 3) (by decide +kernel) rfl) (SndL.c (s_iload (by decide +kernel)) (SndL.c (s_fail) (SndL.c (s_invV (r := (RX12, TX12, 90)) (ci := 13) okX12_intAt rfl (by decide) rfl rfl w_6_180 w_6_182 v_31 (by decide +kernel)) (SndL.c (s_fail) (SndL.c (s_fail) (SndL.c (s_iast (by decide +kernel)) (SndL.n))))))))))))))))
def kX12_advert_9 : List En := [(0, oIinc 5 1 147), (1, oFail), (1, oFail), (0, oGoto 111), (1, oFail), (1, oFail), (0, oRload 0 151), (0, oGetf 14 27 2 154), (1, oFail), (1, oFail), (0, oRload 0 155), (0, oGetf 14 1 0 158), (1, oFail), (1, oFail), (0, oRload 0 159), (0, oGetf 14 0 0 162)]
set_option maxRecDepth 20000 in
theorem zX12_advert_9 : SndL mX12_advert 144 kX12_advert_9 := SndL.c (s_iinc (by decide +kernel) (by decide)) (SndL.c (s_fail) (SndL.c (s_fail) (SndL.c (s_goto (off := -36) (by decide +kernel) (by decide)) (SndL.c (s_fail) (SndL.c (s_fail) (SndL.c (s_aload_n (k := 0) (by decide +kernel) rfl) (SndL.c (s_getf (k := 27) clok13 (by decide) rfl (by decide) rfl w_5_129 (Or.inl rfl) (by decide +kernel)) (SndL.c (s_fail) (SndL.c (s_fail) (SndL.c (s_aload_n (k := 0) (by decide +kernel) rfl) (SndL.c (s_getf (k := 1) clok13 (by decide) rfl (by decide) rfl w_5_103 (Or.inl rfl) (by decide +kernel)) (SndL.c (s_fail) (SndL.c (s_fail) (SndL.c (s_aload_n (k := 0) (by decide +kernel) rfl) (SndL.c (s_getf (k := 0) clok13 (by decide) rfl (by decide) rfl w_5_102 (Or.inl rfl) (by decide +kernel)) (SndL.n))))))))))))))))
def kX12_advert_10 : List En := [(1, oFail), (1, oFail), (0, oIast 163), (0, oRload 0 164), (0, oDup 165), (0, oGetf 14 1 0 168), (1, oFail), (1, oFail), (0, oDupx1 169), (0, oPush (vI 1) 170), (0, oIadd 171), (0, oPutf 14 1 0 174), (1, oFail), (1, oFail), (0, oRetI)]
set_option maxRecDepth 20000 in
theorem zX12_advert_10 : SndL mX12_advert 160 kX12_advert_10 := SndL.c (s_fail) (SndL.c (s_fail) (SndL.c (s_iast (by decide +kernel)) (SndL.c (s_aload_n (k := 0) (by decide +kernel) rfl) (SndL.c (s_dup (by decide +kernel)) (SndL.c (s_getf (k := 1) clok13 (by decide) rfl (by decide) rfl w_5_103 (Or.inl rfl) (by decide +kernel)) (SndL.c (s_fail) (SndL.c (s_fail) (SndL.c (s_dupx1 (by decide +kernel)) (SndL.c (s_iconst (by decide +kernel) (in32_d (by decide))) (SndL.c (s_iadd (by decide +kernel)) (SndL.c (s_putf (k := 1) clok13 (by decide) rfl (by decide) rfl w_5_103 (Or.inl rfl) (Or.inl rfl) (by decide +kernel)) (SndL.c (s_fail) (SndL.c (s_fail) (SndL.c (s_ret_i rfl (by decide +kernel)) (SndL.n)))))))))))))))
def kX12_advert : Cd := [kX12_advert_0, kX12_advert_1, kX12_advert_2, kX12_advert_3, kX12_advert_4, kX12_advert_5, kX12_advert_6, kX12_advert_7, kX12_advert_8, kX12_advert_9, kX12_advert_10]
theorem zX12_advert : SndC mX12_advert 0 kX12_advert := SndC.c zX12_advert_0 (by decide) (SndC.c zX12_advert_1 (by decide) (SndC.c zX12_advert_2 (by decide) (SndC.c zX12_advert_3 (by decide) (SndC.c zX12_advert_4 (by decide) (SndC.c zX12_advert_5 (by decide) (SndC.c zX12_advert_6 (by decide) (SndC.c zX12_advert_7 (by decide) (SndC.c zX12_advert_8 (by decide) (SndC.c zX12_advert_9 (by decide) (SndC.c zX12_advert_10 (by decide) (SndC.n)))))))))))
theorem aX12_advert_0 : at_ kX12_advert 0 = (0, oIload 1 1) := rfl
theorem aX12_advert_1 : at_ kX12_advert 1 = (2, oInvS mX12_isFirm 1 4) := rfl
theorem aX12_advert_4 : at_ kX12_advert 4 = (0, oIfEq 15 7) := rfl
theorem aX12_advert_7 : at_ kX12_advert 7 = (0, oRload 0 8) := rfl
theorem aX12_advert_8 : at_ kX12_advert 8 = (0, oIload 3 9) := rfl
theorem aX12_advert_9 : at_ kX12_advert 9 = (2, oInvV 14 mX12_wants 1 12) := rfl
theorem aX12_advert_12 : at_ kX12_advert 12 = (0, oGoto 16) := rfl
theorem aX12_advert_15 : at_ kX12_advert 15 = (0, oPush (vI (-1)) 16) := rfl
theorem aX12_advert_16 : at_ kX12_advert 16 = (0, oIstore 4 18) := rfl
theorem aX12_advert_18 : at_ kX12_advert 18 = (0, oIload 4 20) := rfl
theorem aX12_advert_20 : at_ kX12_advert 20 = (0, oIfEq 30 23) := rfl
theorem aX12_advert_23 : at_ kX12_advert 23 = (0, oRload 0 24) := rfl
theorem aX12_advert_24 : at_ kX12_advert 24 = (0, oIload 4 26) := rfl
theorem aX12_advert_26 : at_ kX12_advert 26 = (2, oInvV 14 mX12_no 1 29) := rfl
theorem aX12_advert_29 : at_ kX12_advert 29 = (0, oRetI) := rfl
theorem aX12_advert_30 : at_ kX12_advert 30 = (0, oIload 2 31) := rfl
theorem aX12_advert_31 : at_ kX12_advert 31 = (0, oIfLt 50 34) := rfl
theorem aX12_advert_34 : at_ kX12_advert 34 = (0, oIload 2 35) := rfl
theorem aX12_advert_35 : at_ kX12_advert 35 = (0, oPush (vI 5) 36) := rfl
theorem aX12_advert_36 : at_ kX12_advert 36 = (0, oIcGt 50 39) := rfl
theorem aX12_advert_39 : at_ kX12_advert 39 = (0, oRload 0 40) := rfl
theorem aX12_advert_40 : at_ kX12_advert 40 = (0, oGetf 14 13 2 43) := rfl
theorem aX12_advert_43 : at_ kX12_advert 43 = (0, oIload 3 44) := rfl
theorem aX12_advert_44 : at_ kX12_advert 44 = (0, oIald 45) := rfl
theorem aX12_advert_45 : at_ kX12_advert 45 = (0, oPush (vI 20) 47) := rfl
theorem aX12_advert_47 : at_ kX12_advert 47 = (0, oIcLe 57 50) := rfl
theorem aX12_advert_50 : at_ kX12_advert 50 = (0, oRload 0 51) := rfl
theorem aX12_advert_51 : at_ kX12_advert 51 = (0, oPush (vI (-6)) 53) := rfl
theorem aX12_advert_53 : at_ kX12_advert 53 = (2, oInvV 14 mX12_no 1 56) := rfl
theorem aX12_advert_56 : at_ kX12_advert 56 = (0, oRetI) := rfl
theorem aX12_advert_57 : at_ kX12_advert 57 = (0, oRload 0 58) := rfl
theorem aX12_advert_58 : at_ kX12_advert 58 = (0, oGetf 14 1 0 61) := rfl
theorem aX12_advert_61 : at_ kX12_advert 61 = (0, oPush (vI 24) 63) := rfl
theorem aX12_advert_63 : at_ kX12_advert 63 = (0, oIcNe 73 66) := rfl
theorem aX12_advert_66 : at_ kX12_advert 66 = (0, oRload 0 67) := rfl
theorem aX12_advert_67 : at_ kX12_advert 67 = (0, oPush (vI (-7)) 69) := rfl
theorem aX12_advert_69 : at_ kX12_advert 69 = (2, oInvV 14 mX12_no 1 72) := rfl
theorem aX12_advert_72 : at_ kX12_advert 72 = (0, oRetI) := rfl
theorem aX12_advert_73 : at_ kX12_advert 73 = (0, oRload 0 74) := rfl
theorem aX12_advert_74 : at_ kX12_advert 74 = (0, oGetf 14 20 2 77) := rfl
theorem aX12_advert_77 : at_ kX12_advert 77 = (0, oRload 0 78) := rfl
theorem aX12_advert_78 : at_ kX12_advert 78 = (0, oGetf 14 1 0 81) := rfl
theorem aX12_advert_81 : at_ kX12_advert 81 = (0, oIload 1 82) := rfl
theorem aX12_advert_82 : at_ kX12_advert 82 = (0, oIast 83) := rfl
theorem aX12_advert_83 : at_ kX12_advert 83 = (0, oRload 0 84) := rfl
theorem aX12_advert_84 : at_ kX12_advert 84 = (0, oGetf 14 21 2 87) := rfl
theorem aX12_advert_87 : at_ kX12_advert 87 = (0, oRload 0 88) := rfl
theorem aX12_advert_88 : at_ kX12_advert 88 = (0, oGetf 14 1 0 91) := rfl
theorem aX12_advert_91 : at_ kX12_advert 91 = (0, oIload 2 92) := rfl
theorem aX12_advert_92 : at_ kX12_advert 92 = (0, oIast 93) := rfl
theorem aX12_advert_93 : at_ kX12_advert 93 = (0, oRload 0 94) := rfl
theorem aX12_advert_94 : at_ kX12_advert 94 = (0, oGetf 14 22 2 97) := rfl
theorem aX12_advert_97 : at_ kX12_advert 97 = (0, oRload 0 98) := rfl
theorem aX12_advert_98 : at_ kX12_advert 98 = (0, oGetf 14 1 0 101) := rfl
theorem aX12_advert_101 : at_ kX12_advert 101 = (0, oRload 0 102) := rfl
theorem aX12_advert_102 : at_ kX12_advert 102 = (0, oGetf 14 13 2 105) := rfl
theorem aX12_advert_105 : at_ kX12_advert 105 = (0, oIload 3 106) := rfl
theorem aX12_advert_106 : at_ kX12_advert 106 = (0, oIald 107) := rfl
theorem aX12_advert_107 : at_ kX12_advert 107 = (0, oIast 108) := rfl
theorem aX12_advert_108 : at_ kX12_advert 108 = (0, oPush (vI 0) 109) := rfl
theorem aX12_advert_109 : at_ kX12_advert 109 = (0, oIstore 5 111) := rfl
theorem aX12_advert_111 : at_ kX12_advert 111 = (1, oIload 5 113) := rfl
theorem aX12_advert_113 : at_ kX12_advert 113 = (0, oRload 0 114) := rfl
theorem aX12_advert_114 : at_ kX12_advert 114 = (0, oGetf 14 13 2 117) := rfl
theorem aX12_advert_117 : at_ kX12_advert 117 = (0, oIload 3 118) := rfl
theorem aX12_advert_118 : at_ kX12_advert 118 = (0, oIald 119) := rfl
theorem aX12_advert_119 : at_ kX12_advert 119 = (0, oIcGe 150 122) := rfl
theorem aX12_advert_122 : at_ kX12_advert 122 = (0, oRload 0 123) := rfl
theorem aX12_advert_123 : at_ kX12_advert 123 = (0, oGetf 14 28 2 126) := rfl
theorem aX12_advert_126 : at_ kX12_advert 126 = (0, oPush (vI 20) 128) := rfl
theorem aX12_advert_128 : at_ kX12_advert 128 = (0, oRload 0 129) := rfl
theorem aX12_advert_129 : at_ kX12_advert 129 = (0, oGetf 14 1 0 132) := rfl
theorem aX12_advert_132 : at_ kX12_advert 132 = (0, oImul 133) := rfl
theorem aX12_advert_133 : at_ kX12_advert 133 = (0, oIload 5 135) := rfl
theorem aX12_advert_135 : at_ kX12_advert 135 = (0, oIadd 136) := rfl
theorem aX12_advert_136 : at_ kX12_advert 136 = (0, oRload 0 137) := rfl
theorem aX12_advert_137 : at_ kX12_advert 137 = (0, oIload 3 138) := rfl
theorem aX12_advert_138 : at_ kX12_advert 138 = (0, oIload 5 140) := rfl
theorem aX12_advert_140 : at_ kX12_advert 140 = (2, oInvV 14 mX12_intAt 2 143) := rfl
theorem aX12_advert_143 : at_ kX12_advert 143 = (0, oIast 144) := rfl
theorem aX12_advert_144 : at_ kX12_advert 144 = (0, oIinc 5 1 147) := rfl
theorem aX12_advert_147 : at_ kX12_advert 147 = (0, oGoto 111) := rfl
theorem aX12_advert_150 : at_ kX12_advert 150 = (0, oRload 0 151) := rfl
theorem aX12_advert_151 : at_ kX12_advert 151 = (0, oGetf 14 27 2 154) := rfl
theorem aX12_advert_154 : at_ kX12_advert 154 = (0, oRload 0 155) := rfl
theorem aX12_advert_155 : at_ kX12_advert 155 = (0, oGetf 14 1 0 158) := rfl
theorem aX12_advert_158 : at_ kX12_advert 158 = (0, oRload 0 159) := rfl
theorem aX12_advert_159 : at_ kX12_advert 159 = (0, oGetf 14 0 0 162) := rfl
theorem aX12_advert_162 : at_ kX12_advert 162 = (0, oIast 163) := rfl
theorem aX12_advert_163 : at_ kX12_advert 163 = (0, oRload 0 164) := rfl
theorem aX12_advert_164 : at_ kX12_advert 164 = (0, oDup 165) := rfl
theorem aX12_advert_165 : at_ kX12_advert 165 = (0, oGetf 14 1 0 168) := rfl
theorem aX12_advert_168 : at_ kX12_advert 168 = (0, oDupx1 169) := rfl
theorem aX12_advert_169 : at_ kX12_advert 169 = (0, oPush (vI 1) 170) := rfl
theorem aX12_advert_170 : at_ kX12_advert 170 = (0, oIadd 171) := rfl
theorem aX12_advert_171 : at_ kX12_advert 171 = (0, oPutf 14 1 0 174) := rfl
theorem aX12_advert_174 : at_ kX12_advert 174 = (0, oRetI) := rfl
def kX12_print_0 : List En := [(0, oRload 0 1), (0, oIload 1 2), (2, oInvV 14 mX12_isAdvert 1 5), (1, oFail), (1, oFail), (0, oIfEq 16 8), (1, oFail), (1, oFail), (0, oRload 0 9), (0, oIload 2 10), (2, oInvV 14 mX12_wants 1 13), (1, oFail), (1, oFail), (0, oGoto 17), (1, oFail), (1, oFail)]
set_option maxRecDepth 20000 in
theorem zX12_print_0 : SndL mX12_print 0 kX12_print_0 := SndL.c (s_aload_n (k := 0) (by decide +kernel) rfl) (SndL.c (s_iload_n (k := 1) (by decide +kernel) rfl) (SndL.c (s_invV (r := (RX12, TX12, 90)) (ci := 13) okX12_isAdvert rfl (by decide) rfl rfl w_6_188 w_6_190 v_32 (by decide +kernel)) (SndL.c (s_fail) (SndL.c (s_fail) (SndL.c (s_if_eq (off := 11) (by decide +kernel) (by decide)) (SndL.c (s_fail) (SndL.c (s_fail) (SndL.c (s_aload_n (k := 0) (by decide +kernel) rfl) (SndL.c (s_iload_n (k := 2) (by decide +kernel) rfl) (SndL.c (s_invV (r := (RX12, TX12, 90)) (ci := 13) okX12_wants rfl (by decide) rfl rfl w_6_176 w_6_178 v_30 (by decide +kernel)) (SndL.c (s_fail) (SndL.c (s_fail) (SndL.c (s_goto (off := 4) (by decide +kernel) (by decide)) (SndL.c (s_fail) (SndL.c (s_fail) (SndL.n))))))))))))))))
def kX12_print_1 : List En := [(0, oPush (vI (-1)) 17), (0, oIstore 4 19), (1, oFail), (0, oIload 4 21), (1, oFail), (0, oIfEq 31 24), (1, oFail), (1, oFail), (0, oRload 0 25), (0, oIload 4 27), (1, oFail), (2, oInvV 14 mX12_no 1 30), (1, oFail), (1, oFail), (0, oRetI), (0, oIload 3 32)]
set_option maxRecDepth 20000 in
theorem zX12_print_1 : SndL mX12_print 16 kX12_print_1 := SndL.c (s_iconst (by decide +kernel) (in32_d (by decide))) (SndL.c (s_istore (by decide +kernel) (by decide)) (SndL.c (s_fail) (SndL.c (s_iload (by decide +kernel)) (SndL.c (s_fail) (SndL.c (s_if_eq (off := 10) (by decide +kernel) (by decide)) (SndL.c (s_fail) (SndL.c (s_fail) (SndL.c (s_aload_n (k := 0) (by decide +kernel) rfl) (SndL.c (s_iload (by decide +kernel)) (SndL.c (s_fail) (SndL.c (s_invV (r := (RX12, TX12, 90)) (ci := 13) okX12_no rfl (by decide) rfl rfl w_6_138 w_6_140 v_29 (by decide +kernel)) (SndL.c (s_fail) (SndL.c (s_fail) (SndL.c (s_ret_i rfl (by decide +kernel)) (SndL.c (s_iload_n (k := 3) (by decide +kernel) rfl) (SndL.n))))))))))))))))
def kX12_print_2 : List En := [(0, oIfLt 52 35), (1, oFail), (1, oFail), (0, oIload 3 36), (0, oPush (vI 20) 38), (1, oFail), (0, oIcGt 52 41), (1, oFail), (1, oFail), (0, oRload 0 42), (0, oGetf 14 13 2 45), (1, oFail), (1, oFail), (0, oIload 2 46), (0, oIald 47), (0, oPush (vI 12) 49)]
set_option maxRecDepth 20000 in
theorem zX12_print_2 : SndL mX12_print 32 kX12_print_2 := SndL.c (s_if_lt (off := 20) (by decide +kernel) (by decide)) (SndL.c (s_fail) (SndL.c (s_fail) (SndL.c (s_iload_n (k := 3) (by decide +kernel) rfl) (SndL.c (s_bipush (by decide +kernel) (in32_d (by decide)) (by decide +kernel)) (SndL.c (s_fail) (SndL.c (s_ic_gt (off := 14) (by decide +kernel) (by decide)) (SndL.c (s_fail) (SndL.c (s_fail) (SndL.c (s_aload_n (k := 0) (by decide +kernel) rfl) (SndL.c (s_getf (k := 13) clok13 (by decide) rfl (by decide) rfl w_5_115 (Or.inl rfl) (by decide +kernel)) (SndL.c (s_fail) (SndL.c (s_fail) (SndL.c (s_iload_n (k := 2) (by decide +kernel) rfl) (SndL.c (s_iald (by decide +kernel)) (SndL.c (s_bipush (by decide +kernel) (in32_d (by decide)) (by decide +kernel)) (SndL.n))))))))))))))))
def kX12_print_3 : List En := [(1, oFail), (0, oIcLe 59 52), (1, oFail), (1, oFail), (0, oRload 0 53), (0, oPush (vI (-6)) 55), (1, oFail), (2, oInvV 14 mX12_no 1 58), (1, oFail), (1, oFail), (0, oRetI), (0, oRload 0 60), (0, oGetf 14 24 2 63), (1, oFail), (1, oFail), (0, oIload 1 64)]
set_option maxRecDepth 20000 in
theorem zX12_print_3 : SndL mX12_print 48 kX12_print_3 := SndL.c (s_fail) (SndL.c (s_ic_le (off := 10) (by decide +kernel) (by decide)) (SndL.c (s_fail) (SndL.c (s_fail) (SndL.c (s_aload_n (k := 0) (by decide +kernel) rfl) (SndL.c (s_bipush (by decide +kernel) (in32_d (by decide)) (by decide +kernel)) (SndL.c (s_fail) (SndL.c (s_invV (r := (RX12, TX12, 90)) (ci := 13) okX12_no rfl (by decide) rfl rfl w_6_138 w_6_140 v_29 (by decide +kernel)) (SndL.c (s_fail) (SndL.c (s_fail) (SndL.c (s_ret_i rfl (by decide +kernel)) (SndL.c (s_aload_n (k := 0) (by decide +kernel) rfl) (SndL.c (s_getf (k := 24) clok13 (by decide) rfl (by decide) rfl w_5_126 (Or.inl rfl) (by decide +kernel)) (SndL.c (s_fail) (SndL.c (s_fail) (SndL.c (s_iload_n (k := 1) (by decide +kernel) rfl) (SndL.n))))))))))))))))
def kX12_print_4 : List En := [(0, oIald 65), (0, oIstore 5 67), (1, oFail), (0, oRload 0 68), (0, oGetf 14 24 2 71), (1, oFail), (1, oFail), (0, oIload 1 72), (0, oIload 3 73), (0, oIast 74), (0, oRload 0 75), (0, oGetf 14 23 2 78), (1, oFail), (1, oFail), (0, oIload 1 79), (0, oRload 0 80)]
set_option maxRecDepth 20000 in
theorem zX12_print_4 : SndL mX12_print 64 kX12_print_4 := SndL.c (s_iald (by decide +kernel)) (SndL.c (s_istore (by decide +kernel) (by decide)) (SndL.c (s_fail) (SndL.c (s_aload_n (k := 0) (by decide +kernel) rfl) (SndL.c (s_getf (k := 24) clok13 (by decide) rfl (by decide) rfl w_5_126 (Or.inl rfl) (by decide +kernel)) (SndL.c (s_fail) (SndL.c (s_fail) (SndL.c (s_iload_n (k := 1) (by decide +kernel) rfl) (SndL.c (s_iload_n (k := 3) (by decide +kernel) rfl) (SndL.c (s_iast (by decide +kernel)) (SndL.c (s_aload_n (k := 0) (by decide +kernel) rfl) (SndL.c (s_getf (k := 23) clok13 (by decide) rfl (by decide) rfl w_5_125 (Or.inl rfl) (by decide +kernel)) (SndL.c (s_fail) (SndL.c (s_fail) (SndL.c (s_iload_n (k := 1) (by decide +kernel) rfl) (SndL.c (s_aload_n (k := 0) (by decide +kernel) rfl) (SndL.n))))))))))))))))
def kX12_print_5 : List En := [(0, oGetf 14 13 2 83), (1, oFail), (1, oFail), (0, oIload 2 84), (0, oIald 85), (0, oIast 86), (0, oPush (vI 0) 87), (0, oIstore 6 89), (1, oFail), (1, oIload 6 91), (1, oFail), (0, oRload 0 92), (0, oGetf 14 13 2 95), (1, oFail), (1, oFail), (0, oIload 2 96)]
set_option maxRecDepth 20000 in
theorem zX12_print_5 : SndL mX12_print 80 kX12_print_5 := SndL.c (s_getf (k := 13) clok13 (by decide) rfl (by decide) rfl w_5_115 (Or.inl rfl) (by decide +kernel)) (SndL.c (s_fail) (SndL.c (s_fail) (SndL.c (s_iload_n (k := 2) (by decide +kernel) rfl) (SndL.c (s_iald (by decide +kernel)) (SndL.c (s_iast (by decide +kernel)) (SndL.c (s_iconst (by decide +kernel) (in32_d (by decide))) (SndL.c (s_istore (by decide +kernel) (by decide)) (SndL.c (s_fail) (SndL.c (s_iload (by decide +kernel)) (SndL.c (s_fail) (SndL.c (s_aload_n (k := 0) (by decide +kernel) rfl) (SndL.c (s_getf (k := 13) clok13 (by decide) rfl (by decide) rfl w_5_115 (Or.inl rfl) (by decide +kernel)) (SndL.c (s_fail) (SndL.c (s_fail) (SndL.c (s_iload_n (k := 2) (by decide +kernel) rfl) (SndL.n))))))))))))))))
def kX12_print_6 : List En := [(0, oIald 97), (0, oIcGe 125 100), (1, oFail), (1, oFail), (0, oRload 0 101), (0, oGetf 14 29 2 104), (1, oFail), (1, oFail), (0, oPush (vI 12) 106), (1, oFail), (0, oIload 1 107), (0, oImul 108), (0, oIload 6 110), (1, oFail), (0, oIadd 111), (0, oRload 0 112)]
set_option maxRecDepth 20000 in
theorem zX12_print_6 : SndL mX12_print 96 kX12_print_6 := SndL.c (s_iald (by decide +kernel)) (SndL.c (s_ic_ge (off := 28) (by decide +kernel) (by decide)) (SndL.c (s_fail) (SndL.c (s_fail) (SndL.c (s_aload_n (k := 0) (by decide +kernel) rfl) (SndL.c (s_getf (k := 29) clok13 (by decide) rfl (by decide) rfl w_5_131 (Or.inl rfl) (by decide +kernel)) (SndL.c (s_fail) (SndL.c (s_fail) (SndL.c (s_bipush (by decide +kernel) (in32_d (by decide)) (by decide +kernel)) (SndL.c (s_fail) (SndL.c (s_iload_n (k := 1) (by decide +kernel) rfl) (SndL.c (s_imul (by decide +kernel)) (SndL.c (s_iload (by decide +kernel)) (SndL.c (s_fail) (SndL.c (s_iadd (by decide +kernel)) (SndL.c (s_aload_n (k := 0) (by decide +kernel) rfl) (SndL.n))))))))))))))))
def kX12_print_7 : List En := [(0, oIload 2 113), (0, oIload 6 115), (1, oFail), (2, oInvV 14 mX12_intAt 2 118), (1, oFail), (1, oFail), (0, oIast 119), (0, oIinc 6 1 122), (1, oFail), (1, oFail), (0, oGoto 89), (1, oFail), (1, oFail), (0, oIload 5 127), (1, oFail), (0, oRetI)]
set_option maxRecDepth 20000 in
theorem zX12_print_7 : SndL mX12_print 112 kX12_print_7 := SndL.c (s_iload_n (k := 2) (by decide +kernel) rfl) (SndL.c (s_iload (by decide +kernel)) (SndL.c (s_fail) (SndL.c (s_invV (r := (RX12, TX12, 90)) (ci := 13) okX12_intAt rfl (by decide) rfl rfl w_6_180 w_6_182 v_31 (by decide +kernel)) (SndL.c (s_fail) (SndL.c (s_fail) (SndL.c (s_iast (by decide +kernel)) (SndL.c (s_iinc (by decide +kernel) (by decide)) (SndL.c (s_fail) (SndL.c (s_fail) (SndL.c (s_goto (off := -33) (by decide +kernel) (by decide)) (SndL.c (s_fail) (SndL.c (s_fail) (SndL.c (s_iload (by decide +kernel)) (SndL.c (s_fail) (SndL.c (s_ret_i rfl (by decide +kernel)) (SndL.n))))))))))))))))
def kX12_print : Cd := [kX12_print_0, kX12_print_1, kX12_print_2, kX12_print_3, kX12_print_4, kX12_print_5, kX12_print_6, kX12_print_7]
theorem zX12_print : SndC mX12_print 0 kX12_print := SndC.c zX12_print_0 (by decide) (SndC.c zX12_print_1 (by decide) (SndC.c zX12_print_2 (by decide) (SndC.c zX12_print_3 (by decide) (SndC.c zX12_print_4 (by decide) (SndC.c zX12_print_5 (by decide) (SndC.c zX12_print_6 (by decide) (SndC.c zX12_print_7 (by decide) (SndC.n))))))))
theorem aX12_print_0 : at_ kX12_print 0 = (0, oRload 0 1) := rfl
theorem aX12_print_1 : at_ kX12_print 1 = (0, oIload 1 2) := rfl
theorem aX12_print_2 : at_ kX12_print 2 = (2, oInvV 14 mX12_isAdvert 1 5) := rfl
theorem aX12_print_5 : at_ kX12_print 5 = (0, oIfEq 16 8) := rfl
theorem aX12_print_8 : at_ kX12_print 8 = (0, oRload 0 9) := rfl
theorem aX12_print_9 : at_ kX12_print 9 = (0, oIload 2 10) := rfl
theorem aX12_print_10 : at_ kX12_print 10 = (2, oInvV 14 mX12_wants 1 13) := rfl
theorem aX12_print_13 : at_ kX12_print 13 = (0, oGoto 17) := rfl
theorem aX12_print_16 : at_ kX12_print 16 = (0, oPush (vI (-1)) 17) := rfl
theorem aX12_print_17 : at_ kX12_print 17 = (0, oIstore 4 19) := rfl
theorem aX12_print_19 : at_ kX12_print 19 = (0, oIload 4 21) := rfl
theorem aX12_print_21 : at_ kX12_print 21 = (0, oIfEq 31 24) := rfl
theorem aX12_print_24 : at_ kX12_print 24 = (0, oRload 0 25) := rfl
theorem aX12_print_25 : at_ kX12_print 25 = (0, oIload 4 27) := rfl
theorem aX12_print_27 : at_ kX12_print 27 = (2, oInvV 14 mX12_no 1 30) := rfl
theorem aX12_print_30 : at_ kX12_print 30 = (0, oRetI) := rfl
theorem aX12_print_31 : at_ kX12_print 31 = (0, oIload 3 32) := rfl
theorem aX12_print_32 : at_ kX12_print 32 = (0, oIfLt 52 35) := rfl
theorem aX12_print_35 : at_ kX12_print 35 = (0, oIload 3 36) := rfl
theorem aX12_print_36 : at_ kX12_print 36 = (0, oPush (vI 20) 38) := rfl
theorem aX12_print_38 : at_ kX12_print 38 = (0, oIcGt 52 41) := rfl
theorem aX12_print_41 : at_ kX12_print 41 = (0, oRload 0 42) := rfl
theorem aX12_print_42 : at_ kX12_print 42 = (0, oGetf 14 13 2 45) := rfl
theorem aX12_print_45 : at_ kX12_print 45 = (0, oIload 2 46) := rfl
theorem aX12_print_46 : at_ kX12_print 46 = (0, oIald 47) := rfl
theorem aX12_print_47 : at_ kX12_print 47 = (0, oPush (vI 12) 49) := rfl
theorem aX12_print_49 : at_ kX12_print 49 = (0, oIcLe 59 52) := rfl
theorem aX12_print_52 : at_ kX12_print 52 = (0, oRload 0 53) := rfl
theorem aX12_print_53 : at_ kX12_print 53 = (0, oPush (vI (-6)) 55) := rfl
theorem aX12_print_55 : at_ kX12_print 55 = (2, oInvV 14 mX12_no 1 58) := rfl
theorem aX12_print_58 : at_ kX12_print 58 = (0, oRetI) := rfl
theorem aX12_print_59 : at_ kX12_print 59 = (0, oRload 0 60) := rfl
theorem aX12_print_60 : at_ kX12_print 60 = (0, oGetf 14 24 2 63) := rfl
theorem aX12_print_63 : at_ kX12_print 63 = (0, oIload 1 64) := rfl
theorem aX12_print_64 : at_ kX12_print 64 = (0, oIald 65) := rfl
theorem aX12_print_65 : at_ kX12_print 65 = (0, oIstore 5 67) := rfl
theorem aX12_print_67 : at_ kX12_print 67 = (0, oRload 0 68) := rfl
theorem aX12_print_68 : at_ kX12_print 68 = (0, oGetf 14 24 2 71) := rfl
theorem aX12_print_71 : at_ kX12_print 71 = (0, oIload 1 72) := rfl
theorem aX12_print_72 : at_ kX12_print 72 = (0, oIload 3 73) := rfl
theorem aX12_print_73 : at_ kX12_print 73 = (0, oIast 74) := rfl
theorem aX12_print_74 : at_ kX12_print 74 = (0, oRload 0 75) := rfl
theorem aX12_print_75 : at_ kX12_print 75 = (0, oGetf 14 23 2 78) := rfl
theorem aX12_print_78 : at_ kX12_print 78 = (0, oIload 1 79) := rfl
theorem aX12_print_79 : at_ kX12_print 79 = (0, oRload 0 80) := rfl
theorem aX12_print_80 : at_ kX12_print 80 = (0, oGetf 14 13 2 83) := rfl
theorem aX12_print_83 : at_ kX12_print 83 = (0, oIload 2 84) := rfl
theorem aX12_print_84 : at_ kX12_print 84 = (0, oIald 85) := rfl
theorem aX12_print_85 : at_ kX12_print 85 = (0, oIast 86) := rfl
theorem aX12_print_86 : at_ kX12_print 86 = (0, oPush (vI 0) 87) := rfl
theorem aX12_print_87 : at_ kX12_print 87 = (0, oIstore 6 89) := rfl
theorem aX12_print_89 : at_ kX12_print 89 = (1, oIload 6 91) := rfl
theorem aX12_print_91 : at_ kX12_print 91 = (0, oRload 0 92) := rfl
theorem aX12_print_92 : at_ kX12_print 92 = (0, oGetf 14 13 2 95) := rfl
theorem aX12_print_95 : at_ kX12_print 95 = (0, oIload 2 96) := rfl
theorem aX12_print_96 : at_ kX12_print 96 = (0, oIald 97) := rfl
theorem aX12_print_97 : at_ kX12_print 97 = (0, oIcGe 125 100) := rfl
theorem aX12_print_100 : at_ kX12_print 100 = (0, oRload 0 101) := rfl
theorem aX12_print_101 : at_ kX12_print 101 = (0, oGetf 14 29 2 104) := rfl
theorem aX12_print_104 : at_ kX12_print 104 = (0, oPush (vI 12) 106) := rfl
theorem aX12_print_106 : at_ kX12_print 106 = (0, oIload 1 107) := rfl
theorem aX12_print_107 : at_ kX12_print 107 = (0, oImul 108) := rfl
theorem aX12_print_108 : at_ kX12_print 108 = (0, oIload 6 110) := rfl
theorem aX12_print_110 : at_ kX12_print 110 = (0, oIadd 111) := rfl
theorem aX12_print_111 : at_ kX12_print 111 = (0, oRload 0 112) := rfl
theorem aX12_print_112 : at_ kX12_print 112 = (0, oIload 2 113) := rfl
theorem aX12_print_113 : at_ kX12_print 113 = (0, oIload 6 115) := rfl
theorem aX12_print_115 : at_ kX12_print 115 = (2, oInvV 14 mX12_intAt 2 118) := rfl
theorem aX12_print_118 : at_ kX12_print 118 = (0, oIast 119) := rfl
theorem aX12_print_119 : at_ kX12_print 119 = (0, oIinc 6 1 122) := rfl
theorem aX12_print_122 : at_ kX12_print 122 = (0, oGoto 89) := rfl
theorem aX12_print_125 : at_ kX12_print 125 = (0, oIload 5 127) := rfl
theorem aX12_print_127 : at_ kX12_print 127 = (0, oRetI) := rfl
def kX12_saw_0 : List En := [(0, oRload 0 1), (0, oIload 1 2), (2, oInvV 14 mX12_isAdvert 1 5), (1, oFail), (1, oFail), (0, oIfNe 14 8), (1, oFail), (1, oFail), (0, oRload 0 9), (0, oPush (vI (-1)) 10), (2, oInvV 14 mX12_no 1 13), (1, oFail), (1, oFail), (0, oRetI), (0, oIload 2 15), (0, oIfLt 36 18)]
set_option maxRecDepth 20000 in
theorem zX12_saw_0 : SndL mX12_saw 0 kX12_saw_0 := SndL.c (s_aload_n (k := 0) (by decide +kernel) rfl) (SndL.c (s_iload_n (k := 1) (by decide +kernel) rfl) (SndL.c (s_invV (r := (RX12, TX12, 90)) (ci := 13) okX12_isAdvert rfl (by decide) rfl rfl w_6_188 w_6_190 v_32 (by decide +kernel)) (SndL.c (s_fail) (SndL.c (s_fail) (SndL.c (s_if_ne (off := 9) (by decide +kernel) (by decide)) (SndL.c (s_fail) (SndL.c (s_fail) (SndL.c (s_aload_n (k := 0) (by decide +kernel) rfl) (SndL.c (s_iconst (by decide +kernel) (in32_d (by decide))) (SndL.c (s_invV (r := (RX12, TX12, 90)) (ci := 13) okX12_no rfl (by decide) rfl rfl w_6_138 w_6_140 v_29 (by decide +kernel)) (SndL.c (s_fail) (SndL.c (s_fail) (SndL.c (s_ret_i rfl (by decide +kernel)) (SndL.c (s_iload_n (k := 2) (by decide +kernel) rfl) (SndL.c (s_if_lt (off := 21) (by decide +kernel) (by decide)) (SndL.n))))))))))))))))
def kX12_saw_1 : List En := [(1, oFail), (1, oFail), (0, oIload 2 19), (0, oPush (vI 9999) 22), (1, oFail), (1, oFail), (0, oIcGt 36 25), (1, oFail), (1, oFail), (0, oIload 3 26), (0, oIfLt 36 29), (1, oFail), (1, oFail), (0, oIload 3 30), (0, oPush (vI 9999) 33), (1, oFail)]
set_option maxRecDepth 20000 in
theorem zX12_saw_1 : SndL mX12_saw 16 kX12_saw_1 := SndL.c (s_fail) (SndL.c (s_fail) (SndL.c (s_iload_n (k := 2) (by decide +kernel) rfl) (SndL.c (s_sipush (by decide +kernel) (in32_d (by decide)) (by decide +kernel)) (SndL.c (s_fail) (SndL.c (s_fail) (SndL.c (s_ic_gt (off := 14) (by decide +kernel) (by decide)) (SndL.c (s_fail) (SndL.c (s_fail) (SndL.c (s_iload_n (k := 3) (by decide +kernel) rfl) (SndL.c (s_if_lt (off := 10) (by decide +kernel) (by decide)) (SndL.c (s_fail) (SndL.c (s_fail) (SndL.c (s_iload_n (k := 3) (by decide +kernel) rfl) (SndL.c (s_sipush (by decide +kernel) (in32_d (by decide)) (by decide +kernel)) (SndL.c (s_fail) (SndL.n))))))))))))))))
def kX12_saw_2 : List En := [(1, oFail), (0, oIcLe 43 36), (1, oFail), (1, oFail), (0, oRload 0 37), (0, oPush (vI (-6)) 39), (1, oFail), (2, oInvV 14 mX12_no 1 42), (1, oFail), (1, oFail), (0, oRetI), (0, oRload 0 44), (0, oGetf 14 25 2 47), (1, oFail), (1, oFail), (0, oIload 1 48)]
set_option maxRecDepth 20000 in
theorem zX12_saw_2 : SndL mX12_saw 32 kX12_saw_2 := SndL.c (s_fail) (SndL.c (s_ic_le (off := 10) (by decide +kernel) (by decide)) (SndL.c (s_fail) (SndL.c (s_fail) (SndL.c (s_aload_n (k := 0) (by decide +kernel) rfl) (SndL.c (s_bipush (by decide +kernel) (in32_d (by decide)) (by decide +kernel)) (SndL.c (s_fail) (SndL.c (s_invV (r := (RX12, TX12, 90)) (ci := 13) okX12_no rfl (by decide) rfl rfl w_6_138 w_6_140 v_29 (by decide +kernel)) (SndL.c (s_fail) (SndL.c (s_fail) (SndL.c (s_ret_i rfl (by decide +kernel)) (SndL.c (s_aload_n (k := 0) (by decide +kernel) rfl) (SndL.c (s_getf (k := 25) clok13 (by decide) rfl (by decide) rfl w_5_127 (Or.inl rfl) (by decide +kernel)) (SndL.c (s_fail) (SndL.c (s_fail) (SndL.c (s_iload_n (k := 1) (by decide +kernel) rfl) (SndL.n))))))))))))))))
def kX12_saw_3 : List En := [(0, oIald 49), (0, oIload 2 50), (0, oIadd 51), (0, oPush (vI 9999) 54), (1, oFail), (1, oFail), (0, oIcGt 71 57), (1, oFail), (1, oFail), (0, oRload 0 58), (0, oGetf 14 26 2 61), (1, oFail), (1, oFail), (0, oIload 1 62), (0, oIald 63), (0, oIload 3 64)]
set_option maxRecDepth 20000 in
theorem zX12_saw_3 : SndL mX12_saw 48 kX12_saw_3 := SndL.c (s_iald (by decide +kernel)) (SndL.c (s_iload_n (k := 2) (by decide +kernel) rfl) (SndL.c (s_iadd (by decide +kernel)) (SndL.c (s_sipush (by decide +kernel) (in32_d (by decide)) (by decide +kernel)) (SndL.c (s_fail) (SndL.c (s_fail) (SndL.c (s_ic_gt (off := 17) (by decide +kernel) (by decide)) (SndL.c (s_fail) (SndL.c (s_fail) (SndL.c (s_aload_n (k := 0) (by decide +kernel) rfl) (SndL.c (s_getf (k := 26) clok13 (by decide) rfl (by decide) rfl w_5_128 (Or.inl rfl) (by decide +kernel)) (SndL.c (s_fail) (SndL.c (s_fail) (SndL.c (s_iload_n (k := 1) (by decide +kernel) rfl) (SndL.c (s_iald (by decide +kernel)) (SndL.c (s_iload_n (k := 3) (by decide +kernel) rfl) (SndL.n))))))))))))))))
def kX12_saw_4 : List En := [(0, oIadd 65), (0, oPush (vI 9999) 68), (1, oFail), (1, oFail), (0, oIcLe 78 71), (1, oFail), (1, oFail), (0, oRload 0 72), (0, oPush (vI (-7)) 74), (1, oFail), (2, oInvV 14 mX12_no 1 77), (1, oFail), (1, oFail), (0, oRetI), (0, oRload 0 79), (0, oGetf 14 25 2 82)]
set_option maxRecDepth 20000 in
theorem zX12_saw_4 : SndL mX12_saw 64 kX12_saw_4 := SndL.c (s_iadd (by decide +kernel)) (SndL.c (s_sipush (by decide +kernel) (in32_d (by decide)) (by decide +kernel)) (SndL.c (s_fail) (SndL.c (s_fail) (SndL.c (s_ic_le (off := 10) (by decide +kernel) (by decide)) (SndL.c (s_fail) (SndL.c (s_fail) (SndL.c (s_aload_n (k := 0) (by decide +kernel) rfl) (SndL.c (s_bipush (by decide +kernel) (in32_d (by decide)) (by decide +kernel)) (SndL.c (s_fail) (SndL.c (s_invV (r := (RX12, TX12, 90)) (ci := 13) okX12_no rfl (by decide) rfl rfl w_6_138 w_6_140 v_29 (by decide +kernel)) (SndL.c (s_fail) (SndL.c (s_fail) (SndL.c (s_ret_i rfl (by decide +kernel)) (SndL.c (s_aload_n (k := 0) (by decide +kernel) rfl) (SndL.c (s_getf (k := 25) clok13 (by decide) rfl (by decide) rfl w_5_127 (Or.inl rfl) (by decide +kernel)) (SndL.n))))))))))))))))
def kX12_saw_5 : List En := [(1, oFail), (1, oFail), (0, oIload 1 83), (0, oDup2 84), (0, oIald 85), (0, oIload 2 86), (0, oIadd 87), (0, oIast 88), (0, oRload 0 89), (0, oGetf 14 26 2 92), (1, oFail), (1, oFail), (0, oIload 1 93), (0, oDup2 94), (0, oIald 95), (0, oIload 3 96)]
set_option maxRecDepth 20000 in
theorem zX12_saw_5 : SndL mX12_saw 80 kX12_saw_5 := SndL.c (s_fail) (SndL.c (s_fail) (SndL.c (s_iload_n (k := 1) (by decide +kernel) rfl) (SndL.c (s_dup2 (by decide +kernel)) (SndL.c (s_iald (by decide +kernel)) (SndL.c (s_iload_n (k := 2) (by decide +kernel) rfl) (SndL.c (s_iadd (by decide +kernel)) (SndL.c (s_iast (by decide +kernel)) (SndL.c (s_aload_n (k := 0) (by decide +kernel) rfl) (SndL.c (s_getf (k := 26) clok13 (by decide) rfl (by decide) rfl w_5_128 (Or.inl rfl) (by decide +kernel)) (SndL.c (s_fail) (SndL.c (s_fail) (SndL.c (s_iload_n (k := 1) (by decide +kernel) rfl) (SndL.c (s_dup2 (by decide +kernel)) (SndL.c (s_iald (by decide +kernel)) (SndL.c (s_iload_n (k := 3) (by decide +kernel) rfl) (SndL.n))))))))))))))))
def kX12_saw_6 : List En := [(0, oIadd 97), (0, oIast 98), (0, oRload 0 99), (0, oGetf 14 25 2 102), (1, oFail), (1, oFail), (0, oIload 1 103), (0, oIald 104), (0, oRload 0 105), (0, oGetf 14 26 2 108), (1, oFail), (1, oFail), (0, oIload 1 109), (0, oIald 110), (0, oIadd 111), (0, oRetI)]
set_option maxRecDepth 20000 in
theorem zX12_saw_6 : SndL mX12_saw 96 kX12_saw_6 := SndL.c (s_iadd (by decide +kernel)) (SndL.c (s_iast (by decide +kernel)) (SndL.c (s_aload_n (k := 0) (by decide +kernel) rfl) (SndL.c (s_getf (k := 25) clok13 (by decide) rfl (by decide) rfl w_5_127 (Or.inl rfl) (by decide +kernel)) (SndL.c (s_fail) (SndL.c (s_fail) (SndL.c (s_iload_n (k := 1) (by decide +kernel) rfl) (SndL.c (s_iald (by decide +kernel)) (SndL.c (s_aload_n (k := 0) (by decide +kernel) rfl) (SndL.c (s_getf (k := 26) clok13 (by decide) rfl (by decide) rfl w_5_128 (Or.inl rfl) (by decide +kernel)) (SndL.c (s_fail) (SndL.c (s_fail) (SndL.c (s_iload_n (k := 1) (by decide +kernel) rfl) (SndL.c (s_iald (by decide +kernel)) (SndL.c (s_iadd (by decide +kernel)) (SndL.c (s_ret_i rfl (by decide +kernel)) (SndL.n))))))))))))))))
def kX12_saw : Cd := [kX12_saw_0, kX12_saw_1, kX12_saw_2, kX12_saw_3, kX12_saw_4, kX12_saw_5, kX12_saw_6]
theorem zX12_saw : SndC mX12_saw 0 kX12_saw := SndC.c zX12_saw_0 (by decide) (SndC.c zX12_saw_1 (by decide) (SndC.c zX12_saw_2 (by decide) (SndC.c zX12_saw_3 (by decide) (SndC.c zX12_saw_4 (by decide) (SndC.c zX12_saw_5 (by decide) (SndC.c zX12_saw_6 (by decide) (SndC.n)))))))
theorem aX12_saw_0 : at_ kX12_saw 0 = (0, oRload 0 1) := rfl
theorem aX12_saw_1 : at_ kX12_saw 1 = (0, oIload 1 2) := rfl
theorem aX12_saw_2 : at_ kX12_saw 2 = (2, oInvV 14 mX12_isAdvert 1 5) := rfl
theorem aX12_saw_5 : at_ kX12_saw 5 = (0, oIfNe 14 8) := rfl
theorem aX12_saw_8 : at_ kX12_saw 8 = (0, oRload 0 9) := rfl
theorem aX12_saw_9 : at_ kX12_saw 9 = (0, oPush (vI (-1)) 10) := rfl
theorem aX12_saw_10 : at_ kX12_saw 10 = (2, oInvV 14 mX12_no 1 13) := rfl
theorem aX12_saw_13 : at_ kX12_saw 13 = (0, oRetI) := rfl
theorem aX12_saw_14 : at_ kX12_saw 14 = (0, oIload 2 15) := rfl
theorem aX12_saw_15 : at_ kX12_saw 15 = (0, oIfLt 36 18) := rfl
theorem aX12_saw_18 : at_ kX12_saw 18 = (0, oIload 2 19) := rfl
theorem aX12_saw_19 : at_ kX12_saw 19 = (0, oPush (vI 9999) 22) := rfl
theorem aX12_saw_22 : at_ kX12_saw 22 = (0, oIcGt 36 25) := rfl
theorem aX12_saw_25 : at_ kX12_saw 25 = (0, oIload 3 26) := rfl
theorem aX12_saw_26 : at_ kX12_saw 26 = (0, oIfLt 36 29) := rfl
theorem aX12_saw_29 : at_ kX12_saw 29 = (0, oIload 3 30) := rfl
theorem aX12_saw_30 : at_ kX12_saw 30 = (0, oPush (vI 9999) 33) := rfl
theorem aX12_saw_33 : at_ kX12_saw 33 = (0, oIcLe 43 36) := rfl
theorem aX12_saw_36 : at_ kX12_saw 36 = (0, oRload 0 37) := rfl
theorem aX12_saw_37 : at_ kX12_saw 37 = (0, oPush (vI (-6)) 39) := rfl
theorem aX12_saw_39 : at_ kX12_saw 39 = (2, oInvV 14 mX12_no 1 42) := rfl
theorem aX12_saw_42 : at_ kX12_saw 42 = (0, oRetI) := rfl
theorem aX12_saw_43 : at_ kX12_saw 43 = (0, oRload 0 44) := rfl
theorem aX12_saw_44 : at_ kX12_saw 44 = (0, oGetf 14 25 2 47) := rfl
theorem aX12_saw_47 : at_ kX12_saw 47 = (0, oIload 1 48) := rfl
theorem aX12_saw_48 : at_ kX12_saw 48 = (0, oIald 49) := rfl
theorem aX12_saw_49 : at_ kX12_saw 49 = (0, oIload 2 50) := rfl
theorem aX12_saw_50 : at_ kX12_saw 50 = (0, oIadd 51) := rfl
theorem aX12_saw_51 : at_ kX12_saw 51 = (0, oPush (vI 9999) 54) := rfl
theorem aX12_saw_54 : at_ kX12_saw 54 = (0, oIcGt 71 57) := rfl
theorem aX12_saw_57 : at_ kX12_saw 57 = (0, oRload 0 58) := rfl
theorem aX12_saw_58 : at_ kX12_saw 58 = (0, oGetf 14 26 2 61) := rfl
theorem aX12_saw_61 : at_ kX12_saw 61 = (0, oIload 1 62) := rfl
theorem aX12_saw_62 : at_ kX12_saw 62 = (0, oIald 63) := rfl
theorem aX12_saw_63 : at_ kX12_saw 63 = (0, oIload 3 64) := rfl
theorem aX12_saw_64 : at_ kX12_saw 64 = (0, oIadd 65) := rfl
theorem aX12_saw_65 : at_ kX12_saw 65 = (0, oPush (vI 9999) 68) := rfl
theorem aX12_saw_68 : at_ kX12_saw 68 = (0, oIcLe 78 71) := rfl
theorem aX12_saw_71 : at_ kX12_saw 71 = (0, oRload 0 72) := rfl
theorem aX12_saw_72 : at_ kX12_saw 72 = (0, oPush (vI (-7)) 74) := rfl
theorem aX12_saw_74 : at_ kX12_saw 74 = (2, oInvV 14 mX12_no 1 77) := rfl
theorem aX12_saw_77 : at_ kX12_saw 77 = (0, oRetI) := rfl
theorem aX12_saw_78 : at_ kX12_saw 78 = (0, oRload 0 79) := rfl
theorem aX12_saw_79 : at_ kX12_saw 79 = (0, oGetf 14 25 2 82) := rfl
theorem aX12_saw_82 : at_ kX12_saw 82 = (0, oIload 1 83) := rfl
theorem aX12_saw_83 : at_ kX12_saw 83 = (0, oDup2 84) := rfl
theorem aX12_saw_84 : at_ kX12_saw 84 = (0, oIald 85) := rfl
theorem aX12_saw_85 : at_ kX12_saw 85 = (0, oIload 2 86) := rfl
theorem aX12_saw_86 : at_ kX12_saw 86 = (0, oIadd 87) := rfl
theorem aX12_saw_87 : at_ kX12_saw 87 = (0, oIast 88) := rfl
theorem aX12_saw_88 : at_ kX12_saw 88 = (0, oRload 0 89) := rfl
theorem aX12_saw_89 : at_ kX12_saw 89 = (0, oGetf 14 26 2 92) := rfl
theorem aX12_saw_92 : at_ kX12_saw 92 = (0, oIload 1 93) := rfl
theorem aX12_saw_93 : at_ kX12_saw 93 = (0, oDup2 94) := rfl
theorem aX12_saw_94 : at_ kX12_saw 94 = (0, oIald 95) := rfl
theorem aX12_saw_95 : at_ kX12_saw 95 = (0, oIload 3 96) := rfl
theorem aX12_saw_96 : at_ kX12_saw 96 = (0, oIadd 97) := rfl
theorem aX12_saw_97 : at_ kX12_saw 97 = (0, oIast 98) := rfl
theorem aX12_saw_98 : at_ kX12_saw 98 = (0, oRload 0 99) := rfl
theorem aX12_saw_99 : at_ kX12_saw 99 = (0, oGetf 14 25 2 102) := rfl
theorem aX12_saw_102 : at_ kX12_saw 102 = (0, oIload 1 103) := rfl
theorem aX12_saw_103 : at_ kX12_saw 103 = (0, oIald 104) := rfl
theorem aX12_saw_104 : at_ kX12_saw 104 = (0, oRload 0 105) := rfl
theorem aX12_saw_105 : at_ kX12_saw 105 = (0, oGetf 14 26 2 108) := rfl
theorem aX12_saw_108 : at_ kX12_saw 108 = (0, oIload 1 109) := rfl
theorem aX12_saw_109 : at_ kX12_saw 109 = (0, oIald 110) := rfl
theorem aX12_saw_110 : at_ kX12_saw 110 = (0, oIadd 111) := rfl
theorem aX12_saw_111 : at_ kX12_saw 111 = (0, oRetI) := rfl
def kX12_about_0 : List En := [(0, oRload 0 1), (0, oIload 1 2), (2, oInvV 14 mX12_isAdvert 1 5), (1, oFail), (1, oFail), (0, oIfNe 10 8), (1, oFail), (1, oFail), (0, oPush (vI (-1)) 9), (0, oRetI), (0, oIload 2 11), (0, oSwitch 0 7 [56, 63, 70, 77, 84, 91, 98, 105] 112), (1, oFail), (1, oFail), (1, oFail), (1, oFail)]
set_option maxRecDepth 20000 in
theorem zX12_about_0 : SndL mX12_about 0 kX12_about_0 := SndL.c (s_aload_n (k := 0) (by decide +kernel) rfl) (SndL.c (s_iload_n (k := 1) (by decide +kernel) rfl) (SndL.c (s_invV (r := (RX12, TX12, 90)) (ci := 13) okX12_isAdvert rfl (by decide) rfl rfl w_6_188 w_6_190 v_32 (by decide +kernel)) (SndL.c (s_fail) (SndL.c (s_fail) (SndL.c (s_if_ne (off := 5) (by decide +kernel) (by decide)) (SndL.c (s_fail) (SndL.c (s_fail) (SndL.c (s_iconst (by decide +kernel) (in32_d (by decide))) (SndL.c (s_ret_i rfl (by decide +kernel)) (SndL.c (s_iload_n (k := 2) (by decide +kernel) rfl) (SndL.c (s_switch2 (dflt := 101) (lo := 0) (hi := 7) (len := 45) (offs := #[45, 52, 59, 66, 73, 80, 87, 94]) (by decide +kernel) (by decide) (by decide +kernel) (by decide +kernel)) (SndL.c (s_fail) (SndL.c (s_fail) (SndL.c (s_fail) (SndL.c (s_fail) (SndL.n))))))))))))))))
def kX12_about_1 : List En := [(1, oFail), (1, oFail), (1, oFail), (1, oFail), (1, oFail), (1, oFail), (1, oFail), (1, oFail), (1, oFail), (1, oFail), (1, oFail), (1, oFail), (1, oFail), (1, oFail), (1, oFail), (1, oFail)]
set_option maxRecDepth 20000 in
theorem zX12_about_1 : SndL mX12_about 16 kX12_about_1 := SndL.c (s_fail) (SndL.c (s_fail) (SndL.c (s_fail) (SndL.c (s_fail) (SndL.c (s_fail) (SndL.c (s_fail) (SndL.c (s_fail) (SndL.c (s_fail) (SndL.c (s_fail) (SndL.c (s_fail) (SndL.c (s_fail) (SndL.c (s_fail) (SndL.c (s_fail) (SndL.c (s_fail) (SndL.c (s_fail) (SndL.c (s_fail) (SndL.n))))))))))))))))
def kX12_about_2 : List En := [(1, oFail), (1, oFail), (1, oFail), (1, oFail), (1, oFail), (1, oFail), (1, oFail), (1, oFail), (1, oFail), (1, oFail), (1, oFail), (1, oFail), (1, oFail), (1, oFail), (1, oFail), (1, oFail)]
set_option maxRecDepth 20000 in
theorem zX12_about_2 : SndL mX12_about 32 kX12_about_2 := SndL.c (s_fail) (SndL.c (s_fail) (SndL.c (s_fail) (SndL.c (s_fail) (SndL.c (s_fail) (SndL.c (s_fail) (SndL.c (s_fail) (SndL.c (s_fail) (SndL.c (s_fail) (SndL.c (s_fail) (SndL.c (s_fail) (SndL.c (s_fail) (SndL.c (s_fail) (SndL.c (s_fail) (SndL.c (s_fail) (SndL.c (s_fail) (SndL.n))))))))))))))))
def kX12_about_3 : List En := [(1, oFail), (1, oFail), (1, oFail), (1, oFail), (1, oFail), (1, oFail), (1, oFail), (1, oFail), (0, oRload 0 57), (0, oGetf 14 20 2 60), (1, oFail), (1, oFail), (0, oIload 1 61), (0, oIald 62), (0, oRetI), (0, oRload 0 64)]
set_option maxRecDepth 20000 in
theorem zX12_about_3 : SndL mX12_about 48 kX12_about_3 := SndL.c (s_fail) (SndL.c (s_fail) (SndL.c (s_fail) (SndL.c (s_fail) (SndL.c (s_fail) (SndL.c (s_fail) (SndL.c (s_fail) (SndL.c (s_fail) (SndL.c (s_aload_n (k := 0) (by decide +kernel) rfl) (SndL.c (s_getf (k := 20) clok13 (by decide) rfl (by decide) rfl w_5_122 (Or.inl rfl) (by decide +kernel)) (SndL.c (s_fail) (SndL.c (s_fail) (SndL.c (s_iload_n (k := 1) (by decide +kernel) rfl) (SndL.c (s_iald (by decide +kernel)) (SndL.c (s_ret_i rfl (by decide +kernel)) (SndL.c (s_aload_n (k := 0) (by decide +kernel) rfl) (SndL.n))))))))))))))))
def kX12_about_4 : List En := [(0, oGetf 14 21 2 67), (1, oFail), (1, oFail), (0, oIload 1 68), (0, oIald 69), (0, oRetI), (0, oRload 0 71), (0, oGetf 14 22 2 74), (1, oFail), (1, oFail), (0, oIload 1 75), (0, oIald 76), (0, oRetI), (0, oRload 0 78), (0, oGetf 14 23 2 81), (1, oFail)]
set_option maxRecDepth 20000 in
theorem zX12_about_4 : SndL mX12_about 64 kX12_about_4 := SndL.c (s_getf (k := 21) clok13 (by decide) rfl (by decide) rfl w_5_123 (Or.inl rfl) (by decide +kernel)) (SndL.c (s_fail) (SndL.c (s_fail) (SndL.c (s_iload_n (k := 1) (by decide +kernel) rfl) (SndL.c (s_iald (by decide +kernel)) (SndL.c (s_ret_i rfl (by decide +kernel)) (SndL.c (s_aload_n (k := 0) (by decide +kernel) rfl) (SndL.c (s_getf (k := 22) clok13 (by decide) rfl (by decide) rfl w_5_124 (Or.inl rfl) (by decide +kernel)) (SndL.c (s_fail) (SndL.c (s_fail) (SndL.c (s_iload_n (k := 1) (by decide +kernel) rfl) (SndL.c (s_iald (by decide +kernel)) (SndL.c (s_ret_i rfl (by decide +kernel)) (SndL.c (s_aload_n (k := 0) (by decide +kernel) rfl) (SndL.c (s_getf (k := 23) clok13 (by decide) rfl (by decide) rfl w_5_125 (Or.inl rfl) (by decide +kernel)) (SndL.c (s_fail) (SndL.n))))))))))))))))
def kX12_about_5 : List En := [(1, oFail), (0, oIload 1 82), (0, oIald 83), (0, oRetI), (0, oRload 0 85), (0, oGetf 14 24 2 88), (1, oFail), (1, oFail), (0, oIload 1 89), (0, oIald 90), (0, oRetI), (0, oRload 0 92), (0, oGetf 14 25 2 95), (1, oFail), (1, oFail), (0, oIload 1 96)]
set_option maxRecDepth 20000 in
theorem zX12_about_5 : SndL mX12_about 80 kX12_about_5 := SndL.c (s_fail) (SndL.c (s_iload_n (k := 1) (by decide +kernel) rfl) (SndL.c (s_iald (by decide +kernel)) (SndL.c (s_ret_i rfl (by decide +kernel)) (SndL.c (s_aload_n (k := 0) (by decide +kernel) rfl) (SndL.c (s_getf (k := 24) clok13 (by decide) rfl (by decide) rfl w_5_126 (Or.inl rfl) (by decide +kernel)) (SndL.c (s_fail) (SndL.c (s_fail) (SndL.c (s_iload_n (k := 1) (by decide +kernel) rfl) (SndL.c (s_iald (by decide +kernel)) (SndL.c (s_ret_i rfl (by decide +kernel)) (SndL.c (s_aload_n (k := 0) (by decide +kernel) rfl) (SndL.c (s_getf (k := 25) clok13 (by decide) rfl (by decide) rfl w_5_127 (Or.inl rfl) (by decide +kernel)) (SndL.c (s_fail) (SndL.c (s_fail) (SndL.c (s_iload_n (k := 1) (by decide +kernel) rfl) (SndL.n))))))))))))))))
def kX12_about_6 : List En := [(0, oIald 97), (0, oRetI), (0, oRload 0 99), (0, oGetf 14 26 2 102), (1, oFail), (1, oFail), (0, oIload 1 103), (0, oIald 104), (0, oRetI), (0, oRload 0 106), (0, oGetf 14 27 2 109), (1, oFail), (1, oFail), (0, oIload 1 110), (0, oIald 111), (0, oRetI)]
set_option maxRecDepth 20000 in
theorem zX12_about_6 : SndL mX12_about 96 kX12_about_6 := SndL.c (s_iald (by decide +kernel)) (SndL.c (s_ret_i rfl (by decide +kernel)) (SndL.c (s_aload_n (k := 0) (by decide +kernel) rfl) (SndL.c (s_getf (k := 26) clok13 (by decide) rfl (by decide) rfl w_5_128 (Or.inl rfl) (by decide +kernel)) (SndL.c (s_fail) (SndL.c (s_fail) (SndL.c (s_iload_n (k := 1) (by decide +kernel) rfl) (SndL.c (s_iald (by decide +kernel)) (SndL.c (s_ret_i rfl (by decide +kernel)) (SndL.c (s_aload_n (k := 0) (by decide +kernel) rfl) (SndL.c (s_getf (k := 27) clok13 (by decide) rfl (by decide) rfl w_5_129 (Or.inl rfl) (by decide +kernel)) (SndL.c (s_fail) (SndL.c (s_fail) (SndL.c (s_iload_n (k := 1) (by decide +kernel) rfl) (SndL.c (s_iald (by decide +kernel)) (SndL.c (s_ret_i rfl (by decide +kernel)) (SndL.n))))))))))))))))
def kX12_about_7 : List En := [(0, oPush (vI (-1)) 113), (0, oRetI)]
set_option maxRecDepth 20000 in
theorem zX12_about_7 : SndL mX12_about 112 kX12_about_7 := SndL.c (s_iconst (by decide +kernel) (in32_d (by decide))) (SndL.c (s_ret_i rfl (by decide +kernel)) (SndL.n))
def kX12_about : Cd := [kX12_about_0, kX12_about_1, kX12_about_2, kX12_about_3, kX12_about_4, kX12_about_5, kX12_about_6, kX12_about_7]
theorem zX12_about : SndC mX12_about 0 kX12_about := SndC.c zX12_about_0 (by decide) (SndC.c zX12_about_1 (by decide) (SndC.c zX12_about_2 (by decide) (SndC.c zX12_about_3 (by decide) (SndC.c zX12_about_4 (by decide) (SndC.c zX12_about_5 (by decide) (SndC.c zX12_about_6 (by decide) (SndC.c zX12_about_7 (by decide) (SndC.n))))))))
theorem aX12_about_0 : at_ kX12_about 0 = (0, oRload 0 1) := rfl
theorem aX12_about_1 : at_ kX12_about 1 = (0, oIload 1 2) := rfl
theorem aX12_about_2 : at_ kX12_about 2 = (2, oInvV 14 mX12_isAdvert 1 5) := rfl
theorem aX12_about_5 : at_ kX12_about 5 = (0, oIfNe 10 8) := rfl
theorem aX12_about_8 : at_ kX12_about 8 = (0, oPush (vI (-1)) 9) := rfl
theorem aX12_about_9 : at_ kX12_about 9 = (0, oRetI) := rfl
theorem aX12_about_10 : at_ kX12_about 10 = (0, oIload 2 11) := rfl
theorem aX12_about_11 : at_ kX12_about 11 = (0, oSwitch 0 7 [56, 63, 70, 77, 84, 91, 98, 105] 112) := rfl
theorem aX12_about_56 : at_ kX12_about 56 = (0, oRload 0 57) := rfl
theorem aX12_about_57 : at_ kX12_about 57 = (0, oGetf 14 20 2 60) := rfl
theorem aX12_about_60 : at_ kX12_about 60 = (0, oIload 1 61) := rfl
theorem aX12_about_61 : at_ kX12_about 61 = (0, oIald 62) := rfl
theorem aX12_about_62 : at_ kX12_about 62 = (0, oRetI) := rfl
theorem aX12_about_63 : at_ kX12_about 63 = (0, oRload 0 64) := rfl
theorem aX12_about_64 : at_ kX12_about 64 = (0, oGetf 14 21 2 67) := rfl
theorem aX12_about_67 : at_ kX12_about 67 = (0, oIload 1 68) := rfl
theorem aX12_about_68 : at_ kX12_about 68 = (0, oIald 69) := rfl
theorem aX12_about_69 : at_ kX12_about 69 = (0, oRetI) := rfl
theorem aX12_about_70 : at_ kX12_about 70 = (0, oRload 0 71) := rfl
theorem aX12_about_71 : at_ kX12_about 71 = (0, oGetf 14 22 2 74) := rfl
theorem aX12_about_74 : at_ kX12_about 74 = (0, oIload 1 75) := rfl
theorem aX12_about_75 : at_ kX12_about 75 = (0, oIald 76) := rfl
theorem aX12_about_76 : at_ kX12_about 76 = (0, oRetI) := rfl
theorem aX12_about_77 : at_ kX12_about 77 = (0, oRload 0 78) := rfl
theorem aX12_about_78 : at_ kX12_about 78 = (0, oGetf 14 23 2 81) := rfl
theorem aX12_about_81 : at_ kX12_about 81 = (0, oIload 1 82) := rfl
theorem aX12_about_82 : at_ kX12_about 82 = (0, oIald 83) := rfl
theorem aX12_about_83 : at_ kX12_about 83 = (0, oRetI) := rfl
theorem aX12_about_84 : at_ kX12_about 84 = (0, oRload 0 85) := rfl
theorem aX12_about_85 : at_ kX12_about 85 = (0, oGetf 14 24 2 88) := rfl
theorem aX12_about_88 : at_ kX12_about 88 = (0, oIload 1 89) := rfl
theorem aX12_about_89 : at_ kX12_about 89 = (0, oIald 90) := rfl
theorem aX12_about_90 : at_ kX12_about 90 = (0, oRetI) := rfl
theorem aX12_about_91 : at_ kX12_about 91 = (0, oRload 0 92) := rfl
theorem aX12_about_92 : at_ kX12_about 92 = (0, oGetf 14 25 2 95) := rfl
theorem aX12_about_95 : at_ kX12_about 95 = (0, oIload 1 96) := rfl
theorem aX12_about_96 : at_ kX12_about 96 = (0, oIald 97) := rfl
theorem aX12_about_97 : at_ kX12_about 97 = (0, oRetI) := rfl
theorem aX12_about_98 : at_ kX12_about 98 = (0, oRload 0 99) := rfl
theorem aX12_about_99 : at_ kX12_about 99 = (0, oGetf 14 26 2 102) := rfl
theorem aX12_about_102 : at_ kX12_about 102 = (0, oIload 1 103) := rfl
theorem aX12_about_103 : at_ kX12_about 103 = (0, oIald 104) := rfl
theorem aX12_about_104 : at_ kX12_about 104 = (0, oRetI) := rfl
theorem aX12_about_105 : at_ kX12_about 105 = (0, oRload 0 106) := rfl
theorem aX12_about_106 : at_ kX12_about 106 = (0, oGetf 14 27 2 109) := rfl
theorem aX12_about_109 : at_ kX12_about 109 = (0, oIload 1 110) := rfl
theorem aX12_about_110 : at_ kX12_about 110 = (0, oIald 111) := rfl
theorem aX12_about_111 : at_ kX12_about 111 = (0, oRetI) := rfl
theorem aX12_about_112 : at_ kX12_about 112 = (0, oPush (vI (-1)) 113) := rfl
theorem aX12_about_113 : at_ kX12_about 113 = (0, oRetI) := rfl
def kX12_phrase_0 : List En := [(0, oIload 2 1), (0, oIfLt 9 4), (1, oFail), (1, oFail), (0, oIload 2 5), (0, oPush (vI 5) 6), (0, oIcLe 13 9), (1, oFail), (1, oFail), (0, oPush (vI (-1)) 10), (0, oGoto 18), (1, oFail), (1, oFail), (0, oRload 0 14), (0, oIload 1 15), (2, oInvV 14 mX12_wants 1 18)]
set_option maxRecDepth 20000 in
theorem zX12_phrase_0 : SndL mX12_phrase 0 kX12_phrase_0 := SndL.c (s_iload_n (k := 2) (by decide +kernel) rfl) (SndL.c (s_if_lt (off := 8) (by decide +kernel) (by decide)) (SndL.c (s_fail) (SndL.c (s_fail) (SndL.c (s_iload_n (k := 2) (by decide +kernel) rfl) (SndL.c (s_iconst (by decide +kernel) (in32_d (by decide))) (SndL.c (s_ic_le (off := 7) (by decide +kernel) (by decide)) (SndL.c (s_fail) (SndL.c (s_fail) (SndL.c (s_iconst (by decide +kernel) (in32_d (by decide))) (SndL.c (s_goto (off := 8) (by decide +kernel) (by decide)) (SndL.c (s_fail) (SndL.c (s_fail) (SndL.c (s_aload_n (k := 0) (by decide +kernel) rfl) (SndL.c (s_iload_n (k := 1) (by decide +kernel) rfl) (SndL.c (s_invV (r := (RX12, TX12, 90)) (ci := 13) okX12_wants rfl (by decide) rfl rfl w_6_176 w_6_178 v_30 (by decide +kernel)) (SndL.n))))))))))))))))
def kX12_phrase_1 : List En := [(1, oFail), (1, oFail), (0, oIstore 5 20), (1, oFail), (0, oIload 5 22), (1, oFail), (0, oIfEq 32 25), (1, oFail), (1, oFail), (0, oRload 0 26), (0, oIload 5 28), (1, oFail), (2, oInvV 14 mX12_no 1 31), (1, oFail), (1, oFail), (0, oRetI)]
set_option maxRecDepth 20000 in
theorem zX12_phrase_1 : SndL mX12_phrase 16 kX12_phrase_1 := SndL.c (s_fail) (SndL.c (s_fail) (SndL.c (s_istore (by decide +kernel) (by decide)) (SndL.c (s_fail) (SndL.c (s_iload (by decide +kernel)) (SndL.c (s_fail) (SndL.c (s_if_eq (off := 10) (by decide +kernel) (by decide)) (SndL.c (s_fail) (SndL.c (s_fail) (SndL.c (s_aload_n (k := 0) (by decide +kernel) rfl) (SndL.c (s_iload (by decide +kernel)) (SndL.c (s_fail) (SndL.c (s_invV (r := (RX12, TX12, 90)) (ci := 13) okX12_no rfl (by decide) rfl rfl w_6_138 w_6_140 v_29 (by decide +kernel)) (SndL.c (s_fail) (SndL.c (s_fail) (SndL.c (s_ret_i rfl (by decide +kernel)) (SndL.n))))))))))))))))
def kX12_phrase_2 : List En := [(0, oRload 0 33), (0, oGetf 14 13 2 36), (1, oFail), (1, oFail), (0, oIload 1 37), (0, oIald 38), (0, oPush (vI 1) 39), (0, oIcLt 77 42), (1, oFail), (1, oFail), (0, oRload 0 43), (0, oGetf 14 13 2 46), (1, oFail), (1, oFail), (0, oIload 1 47), (0, oIald 48)]
set_option maxRecDepth 20000 in
theorem zX12_phrase_2 : SndL mX12_phrase 32 kX12_phrase_2 := SndL.c (s_aload_n (k := 0) (by decide +kernel) rfl) (SndL.c (s_getf (k := 13) clok13 (by decide) rfl (by decide) rfl w_5_115 (Or.inl rfl) (by decide +kernel)) (SndL.c (s_fail) (SndL.c (s_fail) (SndL.c (s_iload_n (k := 1) (by decide +kernel) rfl) (SndL.c (s_iald (by decide +kernel)) (SndL.c (s_iconst (by decide +kernel) (in32_d (by decide))) (SndL.c (s_ic_lt (off := 38) (by decide +kernel) (by decide)) (SndL.c (s_fail) (SndL.c (s_fail) (SndL.c (s_aload_n (k := 0) (by decide +kernel) rfl) (SndL.c (s_getf (k := 13) clok13 (by decide) rfl (by decide) rfl w_5_115 (Or.inl rfl) (by decide +kernel)) (SndL.c (s_fail) (SndL.c (s_fail) (SndL.c (s_iload_n (k := 1) (by decide +kernel) rfl) (SndL.c (s_iald (by decide +kernel)) (SndL.n))))))))))))))))
def kX12_phrase_3 : List En := [(0, oPush (vI 6) 50), (1, oFail), (0, oIcGt 77 53), (1, oFail), (1, oFail), (0, oIload 3 54), (0, oIfLt 77 57), (1, oFail), (1, oFail), (0, oIload 3 58), (0, oPush (vI 15999) 61), (1, oFail), (1, oFail), (0, oIcGt 77 64), (1, oFail), (1, oFail)]
set_option maxRecDepth 20000 in
theorem zX12_phrase_3 : SndL mX12_phrase 48 kX12_phrase_3 := SndL.c (s_bipush (by decide +kernel) (in32_d (by decide)) (by decide +kernel)) (SndL.c (s_fail) (SndL.c (s_ic_gt (off := 27) (by decide +kernel) (by decide)) (SndL.c (s_fail) (SndL.c (s_fail) (SndL.c (s_iload_n (k := 3) (by decide +kernel) rfl) (SndL.c (s_if_lt (off := 23) (by decide +kernel) (by decide)) (SndL.c (s_fail) (SndL.c (s_fail) (SndL.c (s_iload_n (k := 3) (by decide +kernel) rfl) (SndL.c (s_sipush (by decide +kernel) (in32_d (by decide)) (by decide +kernel)) (SndL.c (s_fail) (SndL.c (s_fail) (SndL.c (s_ic_gt (off := 16) (by decide +kernel) (by decide)) (SndL.c (s_fail) (SndL.c (s_fail) (SndL.n))))))))))))))))
def kX12_phrase_4 : List En := [(0, oIload 4 66), (1, oFail), (0, oIfLt 77 69), (1, oFail), (1, oFail), (0, oIload 4 71), (1, oFail), (0, oPush (vI 9000) 74), (1, oFail), (1, oFail), (0, oIcLe 84 77), (1, oFail), (1, oFail), (0, oRload 0 78), (0, oPush (vI (-6)) 80), (1, oFail)]
set_option maxRecDepth 20000 in
theorem zX12_phrase_4 : SndL mX12_phrase 64 kX12_phrase_4 := SndL.c (s_iload (by decide +kernel)) (SndL.c (s_fail) (SndL.c (s_if_lt (off := 11) (by decide +kernel) (by decide)) (SndL.c (s_fail) (SndL.c (s_fail) (SndL.c (s_iload (by decide +kernel)) (SndL.c (s_fail) (SndL.c (s_sipush (by decide +kernel) (in32_d (by decide)) (by decide +kernel)) (SndL.c (s_fail) (SndL.c (s_fail) (SndL.c (s_ic_le (off := 10) (by decide +kernel) (by decide)) (SndL.c (s_fail) (SndL.c (s_fail) (SndL.c (s_aload_n (k := 0) (by decide +kernel) rfl) (SndL.c (s_bipush (by decide +kernel) (in32_d (by decide)) (by decide +kernel)) (SndL.c (s_fail) (SndL.n))))))))))))))))
def kX12_phrase_5 : List En := [(2, oInvV 14 mX12_no 1 83), (1, oFail), (1, oFail), (0, oRetI), (0, oRload 0 85), (0, oGetf 14 2 0 88), (1, oFail), (1, oFail), (0, oPush (vI 20) 90), (1, oFail), (0, oIcNe 100 93), (1, oFail), (1, oFail), (0, oRload 0 94), (0, oPush (vI (-7)) 96), (1, oFail)]
set_option maxRecDepth 20000 in
theorem zX12_phrase_5 : SndL mX12_phrase 80 kX12_phrase_5 := SndL.c (s_invV (r := (RX12, TX12, 90)) (ci := 13) okX12_no rfl (by decide) rfl rfl w_6_138 w_6_140 v_29 (by decide +kernel)) (SndL.c (s_fail) (SndL.c (s_fail) (SndL.c (s_ret_i rfl (by decide +kernel)) (SndL.c (s_aload_n (k := 0) (by decide +kernel) rfl) (SndL.c (s_getf (k := 2) clok13 (by decide) rfl (by decide) rfl w_5_104 (Or.inl rfl) (by decide +kernel)) (SndL.c (s_fail) (SndL.c (s_fail) (SndL.c (s_bipush (by decide +kernel) (in32_d (by decide)) (by decide +kernel)) (SndL.c (s_fail) (SndL.c (s_ic_ne (off := 10) (by decide +kernel) (by decide)) (SndL.c (s_fail) (SndL.c (s_fail) (SndL.c (s_aload_n (k := 0) (by decide +kernel) rfl) (SndL.c (s_bipush (by decide +kernel) (in32_d (by decide)) (by decide +kernel)) (SndL.c (s_fail) (SndL.n))))))))))))))))
def kX12_phrase_6 : List En := [(2, oInvV 14 mX12_no 1 99), (1, oFail), (1, oFail), (0, oRetI), (0, oRload 0 101), (0, oGetf 14 32 2 104), (1, oFail), (1, oFail), (0, oRload 0 105), (0, oGetf 14 2 0 108), (1, oFail), (1, oFail), (0, oRload 0 109), (0, oGetf 14 13 2 112), (1, oFail), (1, oFail)]
set_option maxRecDepth 20000 in
theorem zX12_phrase_6 : SndL mX12_phrase 96 kX12_phrase_6 := SndL.c (s_invV (r := (RX12, TX12, 90)) (ci := 13) okX12_no rfl (by decide) rfl rfl w_6_138 w_6_140 v_29 (by decide +kernel)) (SndL.c (s_fail) (SndL.c (s_fail) (SndL.c (s_ret_i rfl (by decide +kernel)) (SndL.c (s_aload_n (k := 0) (by decide +kernel) rfl) (SndL.c (s_getf (k := 32) clok13 (by decide) rfl (by decide) rfl w_5_134 (Or.inl rfl) (by decide +kernel)) (SndL.c (s_fail) (SndL.c (s_fail) (SndL.c (s_aload_n (k := 0) (by decide +kernel) rfl) (SndL.c (s_getf (k := 2) clok13 (by decide) rfl (by decide) rfl w_5_104 (Or.inl rfl) (by decide +kernel)) (SndL.c (s_fail) (SndL.c (s_fail) (SndL.c (s_aload_n (k := 0) (by decide +kernel) rfl) (SndL.c (s_getf (k := 13) clok13 (by decide) rfl (by decide) rfl w_5_115 (Or.inl rfl) (by decide +kernel)) (SndL.c (s_fail) (SndL.c (s_fail) (SndL.n))))))))))))))))
def kX12_phrase_7 : List En := [(0, oIload 1 113), (0, oIald 114), (0, oIast 115), (0, oPush (vI 0) 116), (0, oIstore 6 118), (1, oFail), (1, oIload 6 120), (1, oFail), (0, oRload 0 121), (0, oGetf 14 13 2 124), (1, oFail), (1, oFail), (0, oIload 1 125), (0, oIald 126), (0, oIcGe 157 129), (1, oFail)]
set_option maxRecDepth 20000 in
theorem zX12_phrase_7 : SndL mX12_phrase 112 kX12_phrase_7 := SndL.c (s_iload_n (k := 1) (by decide +kernel) rfl) (SndL.c (s_iald (by decide +kernel)) (SndL.c (s_iast (by decide +kernel)) (SndL.c (s_iconst (by decide +kernel) (in32_d (by decide))) (SndL.c (s_istore (by decide +kernel) (by decide)) (SndL.c (s_fail) (SndL.c (s_iload (by decide +kernel)) (SndL.c (s_fail) (SndL.c (s_aload_n (k := 0) (by decide +kernel) rfl) (SndL.c (s_getf (k := 13) clok13 (by decide) rfl (by decide) rfl w_5_115 (Or.inl rfl) (by decide +kernel)) (SndL.c (s_fail) (SndL.c (s_fail) (SndL.c (s_iload_n (k := 1) (by decide +kernel) rfl) (SndL.c (s_iald (by decide +kernel)) (SndL.c (s_ic_ge (off := 31) (by decide +kernel) (by decide)) (SndL.c (s_fail) (SndL.n))))))))))))))))
def kX12_phrase_8 : List En := [(1, oFail), (0, oRload 0 130), (0, oGetf 14 33 2 133), (1, oFail), (1, oFail), (0, oPush (vI 6) 135), (1, oFail), (0, oRload 0 136), (0, oGetf 14 2 0 139), (1, oFail), (1, oFail), (0, oImul 140), (0, oIload 6 142), (1, oFail), (0, oIadd 143), (0, oRload 0 144)]
set_option maxRecDepth 20000 in
theorem zX12_phrase_8 : SndL mX12_phrase 128 kX12_phrase_8 := SndL.c (s_fail) (SndL.c (s_aload_n (k := 0) (by decide +kernel) rfl) (SndL.c (s_getf (k := 33) clok13 (by decide) rfl (by decide) rfl w_5_135 (Or.inl rfl) (by decide +kernel)) (SndL.c (s_fail) (SndL.c (s_fail) (SndL.c (s_bipush (by decide +kernel) (in32_d (by decide)) (by decide +kernel)) (SndL.c (s_fail) (SndL.c (s_aload_n (k := 0) (by decide +kernel) rfl) (SndL.c (s_getf (k := 2) clok13 (by decide) rfl (by decide) rfl w_5_104 (Or.inl rfl) (by decide +kernel)) (SndL.c (s_fail) (SndL.c (s_fail) (SndL.c (s_imul (by decide +kernel)) (SndL.c (s_iload (by decide +kernel)) (SndL.c (s_fail) (SndL.c (s_iadd (by decide +kernel)) (SndL.c (s_aload_n (k := 0) (by decide +kernel) rfl) (SndL.n))))))))))))))))
def kX12_phrase_9 : List En := [(0, oIload 1 145), (0, oIload 6 147), (1, oFail), (2, oInvV 14 mX12_intAt 2 150), (1, oFail), (1, oFail), (0, oIast 151), (0, oIinc 6 1 154), (1, oFail), (1, oFail), (0, oGoto 118), (1, oFail), (1, oFail), (0, oRload 0 158), (0, oGetf 14 34 2 161), (1, oFail)]
set_option maxRecDepth 20000 in
theorem zX12_phrase_9 : SndL mX12_phrase 144 kX12_phrase_9 := SndL.c (s_iload_n (k := 1) (by decide +kernel) rfl) (SndL.c (s_iload (by decide +kernel)) (SndL.c (s_fail) (SndL.c (s_invV (r := (RX12, TX12, 90)) (ci := 13) okX12_intAt rfl (by decide) rfl rfl w_6_180 w_6_182 v_31 (by decide +kernel)) (SndL.c (s_fail) (SndL.c (s_fail) (SndL.c (s_iast (by decide +kernel)) (SndL.c (s_iinc (by decide +kernel) (by decide)) (SndL.c (s_fail) (SndL.c (s_fail) (SndL.c (s_goto (off := -36) (by decide +kernel) (by decide)) (SndL.c (s_fail) (SndL.c (s_fail) (SndL.c (s_aload_n (k := 0) (by decide +kernel) rfl) (SndL.c (s_getf (k := 34) clok13 (by decide) rfl (by decide) rfl w_5_136 (Or.inl rfl) (by decide +kernel)) (SndL.c (s_fail) (SndL.n))))))))))))))))
def kX12_phrase_10 : List En := [(1, oFail), (0, oRload 0 162), (0, oGetf 14 2 0 165), (1, oFail), (1, oFail), (0, oIload 2 166), (0, oIast 167), (0, oRload 0 168), (0, oGetf 14 35 2 171), (1, oFail), (1, oFail), (0, oRload 0 172), (0, oGetf 14 2 0 175), (1, oFail), (1, oFail), (0, oIload 3 176)]
set_option maxRecDepth 20000 in
theorem zX12_phrase_10 : SndL mX12_phrase 160 kX12_phrase_10 := SndL.c (s_fail) (SndL.c (s_aload_n (k := 0) (by decide +kernel) rfl) (SndL.c (s_getf (k := 2) clok13 (by decide) rfl (by decide) rfl w_5_104 (Or.inl rfl) (by decide +kernel)) (SndL.c (s_fail) (SndL.c (s_fail) (SndL.c (s_iload_n (k := 2) (by decide +kernel) rfl) (SndL.c (s_iast (by decide +kernel)) (SndL.c (s_aload_n (k := 0) (by decide +kernel) rfl) (SndL.c (s_getf (k := 35) clok13 (by decide) rfl (by decide) rfl w_5_137 (Or.inl rfl) (by decide +kernel)) (SndL.c (s_fail) (SndL.c (s_fail) (SndL.c (s_aload_n (k := 0) (by decide +kernel) rfl) (SndL.c (s_getf (k := 2) clok13 (by decide) rfl (by decide) rfl w_5_104 (Or.inl rfl) (by decide +kernel)) (SndL.c (s_fail) (SndL.c (s_fail) (SndL.c (s_iload_n (k := 3) (by decide +kernel) rfl) (SndL.n))))))))))))))))
def kX12_phrase_11 : List En := [(0, oPush (vI 1000) 179), (1, oFail), (1, oFail), (0, oIdiv 180), (0, oIast 181), (0, oRload 0 182), (0, oGetf 14 36 2 185), (1, oFail), (1, oFail), (0, oRload 0 186), (0, oGetf 14 2 0 189), (1, oFail), (1, oFail), (0, oIload 3 190), (0, oPush (vI 1000) 193), (1, oFail)]
set_option maxRecDepth 20000 in
theorem zX12_phrase_11 : SndL mX12_phrase 176 kX12_phrase_11 := SndL.c (s_sipush (by decide +kernel) (in32_d (by decide)) (by decide +kernel)) (SndL.c (s_fail) (SndL.c (s_fail) (SndL.c (s_idiv (by decide +kernel)) (SndL.c (s_iast (by decide +kernel)) (SndL.c (s_aload_n (k := 0) (by decide +kernel) rfl) (SndL.c (s_getf (k := 36) clok13 (by decide) rfl (by decide) rfl w_5_138 (Or.inl rfl) (by decide +kernel)) (SndL.c (s_fail) (SndL.c (s_fail) (SndL.c (s_aload_n (k := 0) (by decide +kernel) rfl) (SndL.c (s_getf (k := 2) clok13 (by decide) rfl (by decide) rfl w_5_104 (Or.inl rfl) (by decide +kernel)) (SndL.c (s_fail) (SndL.c (s_fail) (SndL.c (s_iload_n (k := 3) (by decide +kernel) rfl) (SndL.c (s_sipush (by decide +kernel) (in32_d (by decide)) (by decide +kernel)) (SndL.c (s_fail) (SndL.n))))))))))))))))
def kX12_phrase_12 : List En := [(1, oFail), (0, oIrem 194), (0, oIast 195), (0, oRload 0 196), (0, oGetf 14 37 2 199), (1, oFail), (1, oFail), (0, oRload 0 200), (0, oGetf 14 2 0 203), (1, oFail), (1, oFail), (0, oIload 4 205), (1, oFail), (0, oIast 206), (0, oRload 0 207), (0, oGetf 14 38 2 210)]
set_option maxRecDepth 20000 in
theorem zX12_phrase_12 : SndL mX12_phrase 192 kX12_phrase_12 := SndL.c (s_fail) (SndL.c (s_irem (by decide +kernel)) (SndL.c (s_iast (by decide +kernel)) (SndL.c (s_aload_n (k := 0) (by decide +kernel) rfl) (SndL.c (s_getf (k := 37) clok13 (by decide) rfl (by decide) rfl w_5_139 (Or.inl rfl) (by decide +kernel)) (SndL.c (s_fail) (SndL.c (s_fail) (SndL.c (s_aload_n (k := 0) (by decide +kernel) rfl) (SndL.c (s_getf (k := 2) clok13 (by decide) rfl (by decide) rfl w_5_104 (Or.inl rfl) (by decide +kernel)) (SndL.c (s_fail) (SndL.c (s_fail) (SndL.c (s_iload (by decide +kernel)) (SndL.c (s_fail) (SndL.c (s_iast (by decide +kernel)) (SndL.c (s_aload_n (k := 0) (by decide +kernel) rfl) (SndL.c (s_getf (k := 38) clok13 (by decide) rfl (by decide) rfl w_5_140 (Or.inl rfl) (by decide +kernel)) (SndL.n))))))))))))))))
def kX12_phrase_13 : List En := [(1, oFail), (1, oFail), (0, oRload 0 211), (0, oGetf 14 2 0 214), (1, oFail), (1, oFail), (0, oRload 0 215), (0, oGetf 14 0 0 218), (1, oFail), (1, oFail), (0, oIast 219), (0, oRload 0 220), (0, oGetf 14 39 2 223), (1, oFail), (1, oFail), (0, oRload 0 224)]
set_option maxRecDepth 20000 in
theorem zX12_phrase_13 : SndL mX12_phrase 208 kX12_phrase_13 := SndL.c (s_fail) (SndL.c (s_fail) (SndL.c (s_aload_n (k := 0) (by decide +kernel) rfl) (SndL.c (s_getf (k := 2) clok13 (by decide) rfl (by decide) rfl w_5_104 (Or.inl rfl) (by decide +kernel)) (SndL.c (s_fail) (SndL.c (s_fail) (SndL.c (s_aload_n (k := 0) (by decide +kernel) rfl) (SndL.c (s_getf (k := 0) clok13 (by decide) rfl (by decide) rfl w_5_102 (Or.inl rfl) (by decide +kernel)) (SndL.c (s_fail) (SndL.c (s_fail) (SndL.c (s_iast (by decide +kernel)) (SndL.c (s_aload_n (k := 0) (by decide +kernel) rfl) (SndL.c (s_getf (k := 39) clok13 (by decide) rfl (by decide) rfl w_5_141 (Or.inl rfl) (by decide +kernel)) (SndL.c (s_fail) (SndL.c (s_fail) (SndL.c (s_aload_n (k := 0) (by decide +kernel) rfl) (SndL.n))))))))))))))))
def kX12_phrase_14 : List En := [(0, oGetf 14 2 0 227), (1, oFail), (1, oFail), (0, oPush (vI (-1)) 228), (0, oIast 229), (0, oRload 0 230), (0, oDup 231), (0, oGetf 14 2 0 234), (1, oFail), (1, oFail), (0, oDupx1 235), (0, oPush (vI 1) 236), (0, oIadd 237), (0, oPutf 14 2 0 240), (1, oFail), (1, oFail)]
set_option maxRecDepth 20000 in
theorem zX12_phrase_14 : SndL mX12_phrase 224 kX12_phrase_14 := SndL.c (s_getf (k := 2) clok13 (by decide) rfl (by decide) rfl w_5_104 (Or.inl rfl) (by decide +kernel)) (SndL.c (s_fail) (SndL.c (s_fail) (SndL.c (s_iconst (by decide +kernel) (in32_d (by decide))) (SndL.c (s_iast (by decide +kernel)) (SndL.c (s_aload_n (k := 0) (by decide +kernel) rfl) (SndL.c (s_dup (by decide +kernel)) (SndL.c (s_getf (k := 2) clok13 (by decide) rfl (by decide) rfl w_5_104 (Or.inl rfl) (by decide +kernel)) (SndL.c (s_fail) (SndL.c (s_fail) (SndL.c (s_dupx1 (by decide +kernel)) (SndL.c (s_iconst (by decide +kernel) (in32_d (by decide))) (SndL.c (s_iadd (by decide +kernel)) (SndL.c (s_putf (k := 2) clok13 (by decide) rfl (by decide) rfl w_5_104 (Or.inl rfl) (Or.inl rfl) (by decide +kernel)) (SndL.c (s_fail) (SndL.c (s_fail) (SndL.n))))))))))))))))
def kX12_phrase_15 : List En := [(0, oRetI)]
set_option maxRecDepth 20000 in
theorem zX12_phrase_15 : SndL mX12_phrase 240 kX12_phrase_15 := SndL.c (s_ret_i rfl (by decide +kernel)) (SndL.n)
def kX12_phrase : Cd := [kX12_phrase_0, kX12_phrase_1, kX12_phrase_2, kX12_phrase_3, kX12_phrase_4, kX12_phrase_5, kX12_phrase_6, kX12_phrase_7, kX12_phrase_8, kX12_phrase_9, kX12_phrase_10, kX12_phrase_11, kX12_phrase_12, kX12_phrase_13, kX12_phrase_14, kX12_phrase_15]
theorem zX12_phrase : SndC mX12_phrase 0 kX12_phrase := SndC.c zX12_phrase_0 (by decide) (SndC.c zX12_phrase_1 (by decide) (SndC.c zX12_phrase_2 (by decide) (SndC.c zX12_phrase_3 (by decide) (SndC.c zX12_phrase_4 (by decide) (SndC.c zX12_phrase_5 (by decide) (SndC.c zX12_phrase_6 (by decide) (SndC.c zX12_phrase_7 (by decide) (SndC.c zX12_phrase_8 (by decide) (SndC.c zX12_phrase_9 (by decide) (SndC.c zX12_phrase_10 (by decide) (SndC.c zX12_phrase_11 (by decide) (SndC.c zX12_phrase_12 (by decide) (SndC.c zX12_phrase_13 (by decide) (SndC.c zX12_phrase_14 (by decide) (SndC.c zX12_phrase_15 (by decide) (SndC.n))))))))))))))))
theorem aX12_phrase_0 : at_ kX12_phrase 0 = (0, oIload 2 1) := rfl
theorem aX12_phrase_1 : at_ kX12_phrase 1 = (0, oIfLt 9 4) := rfl
theorem aX12_phrase_4 : at_ kX12_phrase 4 = (0, oIload 2 5) := rfl
theorem aX12_phrase_5 : at_ kX12_phrase 5 = (0, oPush (vI 5) 6) := rfl
theorem aX12_phrase_6 : at_ kX12_phrase 6 = (0, oIcLe 13 9) := rfl
theorem aX12_phrase_9 : at_ kX12_phrase 9 = (0, oPush (vI (-1)) 10) := rfl
theorem aX12_phrase_10 : at_ kX12_phrase 10 = (0, oGoto 18) := rfl
theorem aX12_phrase_13 : at_ kX12_phrase 13 = (0, oRload 0 14) := rfl
theorem aX12_phrase_14 : at_ kX12_phrase 14 = (0, oIload 1 15) := rfl
theorem aX12_phrase_15 : at_ kX12_phrase 15 = (2, oInvV 14 mX12_wants 1 18) := rfl
theorem aX12_phrase_18 : at_ kX12_phrase 18 = (0, oIstore 5 20) := rfl
theorem aX12_phrase_20 : at_ kX12_phrase 20 = (0, oIload 5 22) := rfl
theorem aX12_phrase_22 : at_ kX12_phrase 22 = (0, oIfEq 32 25) := rfl
theorem aX12_phrase_25 : at_ kX12_phrase 25 = (0, oRload 0 26) := rfl
theorem aX12_phrase_26 : at_ kX12_phrase 26 = (0, oIload 5 28) := rfl
theorem aX12_phrase_28 : at_ kX12_phrase 28 = (2, oInvV 14 mX12_no 1 31) := rfl
theorem aX12_phrase_31 : at_ kX12_phrase 31 = (0, oRetI) := rfl
theorem aX12_phrase_32 : at_ kX12_phrase 32 = (0, oRload 0 33) := rfl
theorem aX12_phrase_33 : at_ kX12_phrase 33 = (0, oGetf 14 13 2 36) := rfl
theorem aX12_phrase_36 : at_ kX12_phrase 36 = (0, oIload 1 37) := rfl
theorem aX12_phrase_37 : at_ kX12_phrase 37 = (0, oIald 38) := rfl
theorem aX12_phrase_38 : at_ kX12_phrase 38 = (0, oPush (vI 1) 39) := rfl
theorem aX12_phrase_39 : at_ kX12_phrase 39 = (0, oIcLt 77 42) := rfl
theorem aX12_phrase_42 : at_ kX12_phrase 42 = (0, oRload 0 43) := rfl
theorem aX12_phrase_43 : at_ kX12_phrase 43 = (0, oGetf 14 13 2 46) := rfl
theorem aX12_phrase_46 : at_ kX12_phrase 46 = (0, oIload 1 47) := rfl
theorem aX12_phrase_47 : at_ kX12_phrase 47 = (0, oIald 48) := rfl
theorem aX12_phrase_48 : at_ kX12_phrase 48 = (0, oPush (vI 6) 50) := rfl
theorem aX12_phrase_50 : at_ kX12_phrase 50 = (0, oIcGt 77 53) := rfl
theorem aX12_phrase_53 : at_ kX12_phrase 53 = (0, oIload 3 54) := rfl
theorem aX12_phrase_54 : at_ kX12_phrase 54 = (0, oIfLt 77 57) := rfl
theorem aX12_phrase_57 : at_ kX12_phrase 57 = (0, oIload 3 58) := rfl
theorem aX12_phrase_58 : at_ kX12_phrase 58 = (0, oPush (vI 15999) 61) := rfl
theorem aX12_phrase_61 : at_ kX12_phrase 61 = (0, oIcGt 77 64) := rfl
theorem aX12_phrase_64 : at_ kX12_phrase 64 = (0, oIload 4 66) := rfl
theorem aX12_phrase_66 : at_ kX12_phrase 66 = (0, oIfLt 77 69) := rfl
theorem aX12_phrase_69 : at_ kX12_phrase 69 = (0, oIload 4 71) := rfl
theorem aX12_phrase_71 : at_ kX12_phrase 71 = (0, oPush (vI 9000) 74) := rfl
theorem aX12_phrase_74 : at_ kX12_phrase 74 = (0, oIcLe 84 77) := rfl
theorem aX12_phrase_77 : at_ kX12_phrase 77 = (0, oRload 0 78) := rfl
theorem aX12_phrase_78 : at_ kX12_phrase 78 = (0, oPush (vI (-6)) 80) := rfl
theorem aX12_phrase_80 : at_ kX12_phrase 80 = (2, oInvV 14 mX12_no 1 83) := rfl
theorem aX12_phrase_83 : at_ kX12_phrase 83 = (0, oRetI) := rfl
theorem aX12_phrase_84 : at_ kX12_phrase 84 = (0, oRload 0 85) := rfl
theorem aX12_phrase_85 : at_ kX12_phrase 85 = (0, oGetf 14 2 0 88) := rfl
theorem aX12_phrase_88 : at_ kX12_phrase 88 = (0, oPush (vI 20) 90) := rfl
theorem aX12_phrase_90 : at_ kX12_phrase 90 = (0, oIcNe 100 93) := rfl
theorem aX12_phrase_93 : at_ kX12_phrase 93 = (0, oRload 0 94) := rfl
theorem aX12_phrase_94 : at_ kX12_phrase 94 = (0, oPush (vI (-7)) 96) := rfl
theorem aX12_phrase_96 : at_ kX12_phrase 96 = (2, oInvV 14 mX12_no 1 99) := rfl
theorem aX12_phrase_99 : at_ kX12_phrase 99 = (0, oRetI) := rfl
theorem aX12_phrase_100 : at_ kX12_phrase 100 = (0, oRload 0 101) := rfl
theorem aX12_phrase_101 : at_ kX12_phrase 101 = (0, oGetf 14 32 2 104) := rfl
theorem aX12_phrase_104 : at_ kX12_phrase 104 = (0, oRload 0 105) := rfl
theorem aX12_phrase_105 : at_ kX12_phrase 105 = (0, oGetf 14 2 0 108) := rfl
theorem aX12_phrase_108 : at_ kX12_phrase 108 = (0, oRload 0 109) := rfl
theorem aX12_phrase_109 : at_ kX12_phrase 109 = (0, oGetf 14 13 2 112) := rfl
theorem aX12_phrase_112 : at_ kX12_phrase 112 = (0, oIload 1 113) := rfl
theorem aX12_phrase_113 : at_ kX12_phrase 113 = (0, oIald 114) := rfl
theorem aX12_phrase_114 : at_ kX12_phrase 114 = (0, oIast 115) := rfl
theorem aX12_phrase_115 : at_ kX12_phrase 115 = (0, oPush (vI 0) 116) := rfl
theorem aX12_phrase_116 : at_ kX12_phrase 116 = (0, oIstore 6 118) := rfl
theorem aX12_phrase_118 : at_ kX12_phrase 118 = (1, oIload 6 120) := rfl
theorem aX12_phrase_120 : at_ kX12_phrase 120 = (0, oRload 0 121) := rfl
theorem aX12_phrase_121 : at_ kX12_phrase 121 = (0, oGetf 14 13 2 124) := rfl
theorem aX12_phrase_124 : at_ kX12_phrase 124 = (0, oIload 1 125) := rfl
theorem aX12_phrase_125 : at_ kX12_phrase 125 = (0, oIald 126) := rfl
theorem aX12_phrase_126 : at_ kX12_phrase 126 = (0, oIcGe 157 129) := rfl
theorem aX12_phrase_129 : at_ kX12_phrase 129 = (0, oRload 0 130) := rfl
theorem aX12_phrase_130 : at_ kX12_phrase 130 = (0, oGetf 14 33 2 133) := rfl
theorem aX12_phrase_133 : at_ kX12_phrase 133 = (0, oPush (vI 6) 135) := rfl
theorem aX12_phrase_135 : at_ kX12_phrase 135 = (0, oRload 0 136) := rfl
theorem aX12_phrase_136 : at_ kX12_phrase 136 = (0, oGetf 14 2 0 139) := rfl
theorem aX12_phrase_139 : at_ kX12_phrase 139 = (0, oImul 140) := rfl
theorem aX12_phrase_140 : at_ kX12_phrase 140 = (0, oIload 6 142) := rfl
theorem aX12_phrase_142 : at_ kX12_phrase 142 = (0, oIadd 143) := rfl
theorem aX12_phrase_143 : at_ kX12_phrase 143 = (0, oRload 0 144) := rfl
theorem aX12_phrase_144 : at_ kX12_phrase 144 = (0, oIload 1 145) := rfl
theorem aX12_phrase_145 : at_ kX12_phrase 145 = (0, oIload 6 147) := rfl
theorem aX12_phrase_147 : at_ kX12_phrase 147 = (2, oInvV 14 mX12_intAt 2 150) := rfl
theorem aX12_phrase_150 : at_ kX12_phrase 150 = (0, oIast 151) := rfl
theorem aX12_phrase_151 : at_ kX12_phrase 151 = (0, oIinc 6 1 154) := rfl
theorem aX12_phrase_154 : at_ kX12_phrase 154 = (0, oGoto 118) := rfl
theorem aX12_phrase_157 : at_ kX12_phrase 157 = (0, oRload 0 158) := rfl
theorem aX12_phrase_158 : at_ kX12_phrase 158 = (0, oGetf 14 34 2 161) := rfl
theorem aX12_phrase_161 : at_ kX12_phrase 161 = (0, oRload 0 162) := rfl
theorem aX12_phrase_162 : at_ kX12_phrase 162 = (0, oGetf 14 2 0 165) := rfl
theorem aX12_phrase_165 : at_ kX12_phrase 165 = (0, oIload 2 166) := rfl
theorem aX12_phrase_166 : at_ kX12_phrase 166 = (0, oIast 167) := rfl
theorem aX12_phrase_167 : at_ kX12_phrase 167 = (0, oRload 0 168) := rfl
theorem aX12_phrase_168 : at_ kX12_phrase 168 = (0, oGetf 14 35 2 171) := rfl
theorem aX12_phrase_171 : at_ kX12_phrase 171 = (0, oRload 0 172) := rfl
theorem aX12_phrase_172 : at_ kX12_phrase 172 = (0, oGetf 14 2 0 175) := rfl
theorem aX12_phrase_175 : at_ kX12_phrase 175 = (0, oIload 3 176) := rfl
theorem aX12_phrase_176 : at_ kX12_phrase 176 = (0, oPush (vI 1000) 179) := rfl
theorem aX12_phrase_179 : at_ kX12_phrase 179 = (0, oIdiv 180) := rfl
theorem aX12_phrase_180 : at_ kX12_phrase 180 = (0, oIast 181) := rfl
theorem aX12_phrase_181 : at_ kX12_phrase 181 = (0, oRload 0 182) := rfl
theorem aX12_phrase_182 : at_ kX12_phrase 182 = (0, oGetf 14 36 2 185) := rfl
theorem aX12_phrase_185 : at_ kX12_phrase 185 = (0, oRload 0 186) := rfl
theorem aX12_phrase_186 : at_ kX12_phrase 186 = (0, oGetf 14 2 0 189) := rfl
theorem aX12_phrase_189 : at_ kX12_phrase 189 = (0, oIload 3 190) := rfl
theorem aX12_phrase_190 : at_ kX12_phrase 190 = (0, oPush (vI 1000) 193) := rfl
theorem aX12_phrase_193 : at_ kX12_phrase 193 = (0, oIrem 194) := rfl
theorem aX12_phrase_194 : at_ kX12_phrase 194 = (0, oIast 195) := rfl
theorem aX12_phrase_195 : at_ kX12_phrase 195 = (0, oRload 0 196) := rfl
theorem aX12_phrase_196 : at_ kX12_phrase 196 = (0, oGetf 14 37 2 199) := rfl
theorem aX12_phrase_199 : at_ kX12_phrase 199 = (0, oRload 0 200) := rfl
theorem aX12_phrase_200 : at_ kX12_phrase 200 = (0, oGetf 14 2 0 203) := rfl
theorem aX12_phrase_203 : at_ kX12_phrase 203 = (0, oIload 4 205) := rfl
theorem aX12_phrase_205 : at_ kX12_phrase 205 = (0, oIast 206) := rfl
theorem aX12_phrase_206 : at_ kX12_phrase 206 = (0, oRload 0 207) := rfl
theorem aX12_phrase_207 : at_ kX12_phrase 207 = (0, oGetf 14 38 2 210) := rfl
theorem aX12_phrase_210 : at_ kX12_phrase 210 = (0, oRload 0 211) := rfl
theorem aX12_phrase_211 : at_ kX12_phrase 211 = (0, oGetf 14 2 0 214) := rfl
theorem aX12_phrase_214 : at_ kX12_phrase 214 = (0, oRload 0 215) := rfl
theorem aX12_phrase_215 : at_ kX12_phrase 215 = (0, oGetf 14 0 0 218) := rfl
theorem aX12_phrase_218 : at_ kX12_phrase 218 = (0, oIast 219) := rfl
theorem aX12_phrase_219 : at_ kX12_phrase 219 = (0, oRload 0 220) := rfl
theorem aX12_phrase_220 : at_ kX12_phrase 220 = (0, oGetf 14 39 2 223) := rfl
theorem aX12_phrase_223 : at_ kX12_phrase 223 = (0, oRload 0 224) := rfl
theorem aX12_phrase_224 : at_ kX12_phrase 224 = (0, oGetf 14 2 0 227) := rfl
theorem aX12_phrase_227 : at_ kX12_phrase 227 = (0, oPush (vI (-1)) 228) := rfl
theorem aX12_phrase_228 : at_ kX12_phrase 228 = (0, oIast 229) := rfl
theorem aX12_phrase_229 : at_ kX12_phrase 229 = (0, oRload 0 230) := rfl
theorem aX12_phrase_230 : at_ kX12_phrase 230 = (0, oDup 231) := rfl
theorem aX12_phrase_231 : at_ kX12_phrase 231 = (0, oGetf 14 2 0 234) := rfl
theorem aX12_phrase_234 : at_ kX12_phrase 234 = (0, oDupx1 235) := rfl
theorem aX12_phrase_235 : at_ kX12_phrase 235 = (0, oPush (vI 1) 236) := rfl
theorem aX12_phrase_236 : at_ kX12_phrase 236 = (0, oIadd 237) := rfl
theorem aX12_phrase_237 : at_ kX12_phrase 237 = (0, oPutf 14 2 0 240) := rfl
theorem aX12_phrase_240 : at_ kX12_phrase 240 = (0, oRetI) := rfl
def kX12_unphrase_0 : List En := [(0, oIload 1 1), (0, oIfLt 12 4), (1, oFail), (1, oFail), (0, oIload 1 5), (0, oRload 0 6), (0, oGetf 14 2 0 9), (1, oFail), (1, oFail), (0, oIcLt 18 12), (1, oFail), (1, oFail), (0, oRload 0 13), (0, oPush (vI (-1)) 14), (2, oInvV 14 mX12_no 1 17), (1, oFail)]
set_option maxRecDepth 20000 in
theorem zX12_unphrase_0 : SndL mX12_unphrase 0 kX12_unphrase_0 := SndL.c (s_iload_n (k := 1) (by decide +kernel) rfl) (SndL.c (s_if_lt (off := 11) (by decide +kernel) (by decide)) (SndL.c (s_fail) (SndL.c (s_fail) (SndL.c (s_iload_n (k := 1) (by decide +kernel) rfl) (SndL.c (s_aload_n (k := 0) (by decide +kernel) rfl) (SndL.c (s_getf (k := 2) clok13 (by decide) rfl (by decide) rfl w_5_104 (Or.inl rfl) (by decide +kernel)) (SndL.c (s_fail) (SndL.c (s_fail) (SndL.c (s_ic_lt (off := 9) (by decide +kernel) (by decide)) (SndL.c (s_fail) (SndL.c (s_fail) (SndL.c (s_aload_n (k := 0) (by decide +kernel) rfl) (SndL.c (s_iconst (by decide +kernel) (in32_d (by decide))) (SndL.c (s_invV (r := (RX12, TX12, 90)) (ci := 13) okX12_no rfl (by decide) rfl rfl w_6_138 w_6_140 v_29 (by decide +kernel)) (SndL.c (s_fail) (SndL.n))))))))))))))))
def kX12_unphrase_1 : List En := [(1, oFail), (0, oRetI), (0, oRload 0 19), (0, oGetf 14 39 2 22), (1, oFail), (1, oFail), (0, oIload 1 23), (0, oIald 24), (0, oPush (vI (-1)) 25), (0, oIcEq 35 28), (1, oFail), (1, oFail), (0, oRload 0 29), (0, oPush (vI (-6)) 31), (1, oFail), (2, oInvV 14 mX12_no 1 34)]
set_option maxRecDepth 20000 in
theorem zX12_unphrase_1 : SndL mX12_unphrase 16 kX12_unphrase_1 := SndL.c (s_fail) (SndL.c (s_ret_i rfl (by decide +kernel)) (SndL.c (s_aload_n (k := 0) (by decide +kernel) rfl) (SndL.c (s_getf (k := 39) clok13 (by decide) rfl (by decide) rfl w_5_141 (Or.inl rfl) (by decide +kernel)) (SndL.c (s_fail) (SndL.c (s_fail) (SndL.c (s_iload_n (k := 1) (by decide +kernel) rfl) (SndL.c (s_iald (by decide +kernel)) (SndL.c (s_iconst (by decide +kernel) (in32_d (by decide))) (SndL.c (s_ic_eq (off := 10) (by decide +kernel) (by decide)) (SndL.c (s_fail) (SndL.c (s_fail) (SndL.c (s_aload_n (k := 0) (by decide +kernel) rfl) (SndL.c (s_bipush (by decide +kernel) (in32_d (by decide)) (by decide +kernel)) (SndL.c (s_fail) (SndL.c (s_invV (r := (RX12, TX12, 90)) (ci := 13) okX12_no rfl (by decide) rfl rfl w_6_138 w_6_140 v_29 (by decide +kernel)) (SndL.n))))))))))))))))
def kX12_unphrase_2 : List En := [(1, oFail), (1, oFail), (0, oRetI), (0, oRload 0 36), (0, oGetf 14 39 2 39), (1, oFail), (1, oFail), (0, oIload 1 40), (0, oRload 0 41), (0, oGetf 14 0 0 44), (1, oFail), (1, oFail), (0, oIast 45), (0, oPush (vI 1) 46), (0, oRetI)]
set_option maxRecDepth 20000 in
theorem zX12_unphrase_2 : SndL mX12_unphrase 32 kX12_unphrase_2 := SndL.c (s_fail) (SndL.c (s_fail) (SndL.c (s_ret_i rfl (by decide +kernel)) (SndL.c (s_aload_n (k := 0) (by decide +kernel) rfl) (SndL.c (s_getf (k := 39) clok13 (by decide) rfl (by decide) rfl w_5_141 (Or.inl rfl) (by decide +kernel)) (SndL.c (s_fail) (SndL.c (s_fail) (SndL.c (s_iload_n (k := 1) (by decide +kernel) rfl) (SndL.c (s_aload_n (k := 0) (by decide +kernel) rfl) (SndL.c (s_getf (k := 0) clok13 (by decide) rfl (by decide) rfl w_5_102 (Or.inl rfl) (by decide +kernel)) (SndL.c (s_fail) (SndL.c (s_fail) (SndL.c (s_iast (by decide +kernel)) (SndL.c (s_iconst (by decide +kernel) (in32_d (by decide))) (SndL.c (s_ret_i rfl (by decide +kernel)) (SndL.n)))))))))))))))
def kX12_unphrase : Cd := [kX12_unphrase_0, kX12_unphrase_1, kX12_unphrase_2]
theorem zX12_unphrase : SndC mX12_unphrase 0 kX12_unphrase := SndC.c zX12_unphrase_0 (by decide) (SndC.c zX12_unphrase_1 (by decide) (SndC.c zX12_unphrase_2 (by decide) (SndC.n)))
theorem aX12_unphrase_0 : at_ kX12_unphrase 0 = (0, oIload 1 1) := rfl
theorem aX12_unphrase_1 : at_ kX12_unphrase 1 = (0, oIfLt 12 4) := rfl
theorem aX12_unphrase_4 : at_ kX12_unphrase 4 = (0, oIload 1 5) := rfl
theorem aX12_unphrase_5 : at_ kX12_unphrase 5 = (0, oRload 0 6) := rfl
theorem aX12_unphrase_6 : at_ kX12_unphrase 6 = (0, oGetf 14 2 0 9) := rfl
theorem aX12_unphrase_9 : at_ kX12_unphrase 9 = (0, oIcLt 18 12) := rfl
theorem aX12_unphrase_12 : at_ kX12_unphrase 12 = (0, oRload 0 13) := rfl
theorem aX12_unphrase_13 : at_ kX12_unphrase 13 = (0, oPush (vI (-1)) 14) := rfl
theorem aX12_unphrase_14 : at_ kX12_unphrase 14 = (2, oInvV 14 mX12_no 1 17) := rfl
theorem aX12_unphrase_17 : at_ kX12_unphrase 17 = (0, oRetI) := rfl
theorem aX12_unphrase_18 : at_ kX12_unphrase 18 = (0, oRload 0 19) := rfl
theorem aX12_unphrase_19 : at_ kX12_unphrase 19 = (0, oGetf 14 39 2 22) := rfl
theorem aX12_unphrase_22 : at_ kX12_unphrase 22 = (0, oIload 1 23) := rfl
theorem aX12_unphrase_23 : at_ kX12_unphrase 23 = (0, oIald 24) := rfl
theorem aX12_unphrase_24 : at_ kX12_unphrase 24 = (0, oPush (vI (-1)) 25) := rfl
theorem aX12_unphrase_25 : at_ kX12_unphrase 25 = (0, oIcEq 35 28) := rfl
theorem aX12_unphrase_28 : at_ kX12_unphrase 28 = (0, oRload 0 29) := rfl
theorem aX12_unphrase_29 : at_ kX12_unphrase 29 = (0, oPush (vI (-6)) 31) := rfl
theorem aX12_unphrase_31 : at_ kX12_unphrase 31 = (2, oInvV 14 mX12_no 1 34) := rfl
theorem aX12_unphrase_34 : at_ kX12_unphrase 34 = (0, oRetI) := rfl
theorem aX12_unphrase_35 : at_ kX12_unphrase 35 = (0, oRload 0 36) := rfl
theorem aX12_unphrase_36 : at_ kX12_unphrase 36 = (0, oGetf 14 39 2 39) := rfl
theorem aX12_unphrase_39 : at_ kX12_unphrase 39 = (0, oIload 1 40) := rfl
theorem aX12_unphrase_40 : at_ kX12_unphrase 40 = (0, oRload 0 41) := rfl
theorem aX12_unphrase_41 : at_ kX12_unphrase 41 = (0, oGetf 14 0 0 44) := rfl
theorem aX12_unphrase_44 : at_ kX12_unphrase 44 = (0, oIast 45) := rfl
theorem aX12_unphrase_45 : at_ kX12_unphrase 45 = (0, oPush (vI 1) 46) := rfl
theorem aX12_unphrase_46 : at_ kX12_unphrase 46 = (0, oRetI) := rfl
def kX12_isIn_0 : List En := [(0, oIload 0 1), (0, oIload 3 2), (0, oIcGt 31 5), (1, oFail), (1, oFail), (0, oIload 1 6), (0, oIload 4 8), (1, oFail), (0, oIcGt 31 11), (1, oFail), (1, oFail), (0, oIload 2 12), (0, oPush (vI (-1)) 13), (0, oIcEq 27 16), (1, oFail), (1, oFail)]
set_option maxRecDepth 20000 in
theorem zX12_isIn_0 : SndL mX12_isIn 0 kX12_isIn_0 := SndL.c (s_iload_n (k := 0) (by decide +kernel) rfl) (SndL.c (s_iload_n (k := 3) (by decide +kernel) rfl) (SndL.c (s_ic_gt (off := 29) (by decide +kernel) (by decide)) (SndL.c (s_fail) (SndL.c (s_fail) (SndL.c (s_iload_n (k := 1) (by decide +kernel) rfl) (SndL.c (s_iload (by decide +kernel)) (SndL.c (s_fail) (SndL.c (s_ic_gt (off := 23) (by decide +kernel) (by decide)) (SndL.c (s_fail) (SndL.c (s_fail) (SndL.c (s_iload_n (k := 2) (by decide +kernel) rfl) (SndL.c (s_iconst (by decide +kernel) (in32_d (by decide))) (SndL.c (s_ic_eq (off := 14) (by decide +kernel) (by decide)) (SndL.c (s_fail) (SndL.c (s_fail) (SndL.n))))))))))))))))
def kX12_isIn_1 : List En := [(0, oIload 2 17), (0, oIload 3 18), (0, oIcGt 27 21), (1, oFail), (1, oFail), (0, oIload 2 22), (0, oIload 4 24), (1, oFail), (0, oIcLe 31 27), (1, oFail), (1, oFail), (0, oPush (vI 1) 28), (0, oGoto 32), (1, oFail), (1, oFail), (0, oPush (vI 0) 32)]
set_option maxRecDepth 20000 in
theorem zX12_isIn_1 : SndL mX12_isIn 16 kX12_isIn_1 := SndL.c (s_iload_n (k := 2) (by decide +kernel) rfl) (SndL.c (s_iload_n (k := 3) (by decide +kernel) rfl) (SndL.c (s_ic_gt (off := 9) (by decide +kernel) (by decide)) (SndL.c (s_fail) (SndL.c (s_fail) (SndL.c (s_iload_n (k := 2) (by decide +kernel) rfl) (SndL.c (s_iload (by decide +kernel)) (SndL.c (s_fail) (SndL.c (s_ic_le (off := 7) (by decide +kernel) (by decide)) (SndL.c (s_fail) (SndL.c (s_fail) (SndL.c (s_iconst (by decide +kernel) (in32_d (by decide))) (SndL.c (s_goto (off := 4) (by decide +kernel) (by decide)) (SndL.c (s_fail) (SndL.c (s_fail) (SndL.c (s_iconst (by decide +kernel) (in32_d (by decide))) (SndL.n))))))))))))))))
def kX12_isIn_2 : List En := [(0, oRetZ)]
set_option maxRecDepth 20000 in
theorem zX12_isIn_2 : SndL mX12_isIn 32 kX12_isIn_2 := SndL.c (s_ret_z rfl (by decide +kernel)) (SndL.n)
def kX12_isIn : Cd := [kX12_isIn_0, kX12_isIn_1, kX12_isIn_2]
theorem zX12_isIn : SndC mX12_isIn 0 kX12_isIn := SndC.c zX12_isIn_0 (by decide) (SndC.c zX12_isIn_1 (by decide) (SndC.c zX12_isIn_2 (by decide) (SndC.n)))
theorem aX12_isIn_0 : at_ kX12_isIn 0 = (0, oIload 0 1) := rfl
theorem aX12_isIn_1 : at_ kX12_isIn 1 = (0, oIload 3 2) := rfl
theorem aX12_isIn_2 : at_ kX12_isIn 2 = (0, oIcGt 31 5) := rfl
theorem aX12_isIn_5 : at_ kX12_isIn 5 = (0, oIload 1 6) := rfl
theorem aX12_isIn_6 : at_ kX12_isIn 6 = (0, oIload 4 8) := rfl
theorem aX12_isIn_8 : at_ kX12_isIn 8 = (0, oIcGt 31 11) := rfl
theorem aX12_isIn_11 : at_ kX12_isIn 11 = (0, oIload 2 12) := rfl
theorem aX12_isIn_12 : at_ kX12_isIn 12 = (0, oPush (vI (-1)) 13) := rfl
theorem aX12_isIn_13 : at_ kX12_isIn 13 = (0, oIcEq 27 16) := rfl
theorem aX12_isIn_16 : at_ kX12_isIn 16 = (0, oIload 2 17) := rfl
theorem aX12_isIn_17 : at_ kX12_isIn 17 = (0, oIload 3 18) := rfl
theorem aX12_isIn_18 : at_ kX12_isIn 18 = (0, oIcGt 27 21) := rfl
theorem aX12_isIn_21 : at_ kX12_isIn 21 = (0, oIload 2 22) := rfl
theorem aX12_isIn_22 : at_ kX12_isIn 22 = (0, oIload 4 24) := rfl
theorem aX12_isIn_24 : at_ kX12_isIn 24 = (0, oIcLe 31 27) := rfl
theorem aX12_isIn_27 : at_ kX12_isIn 27 = (0, oPush (vI 1) 28) := rfl
theorem aX12_isIn_28 : at_ kX12_isIn 28 = (0, oGoto 32) := rfl
theorem aX12_isIn_31 : at_ kX12_isIn 31 = (0, oPush (vI 0) 32) := rfl
theorem aX12_isIn_32 : at_ kX12_isIn 32 = (0, oRetZ) := rfl
def kX12_isPhraseIn_0 : List En := [(0, oRload 0 1), (0, oGetf 14 37 2 4), (1, oFail), (1, oFail), (0, oIload 1 5), (0, oIald 6), (0, oRload 0 7), (0, oGetf 14 38 2 10), (1, oFail), (1, oFail), (0, oIload 1 11), (0, oIald 12), (0, oRload 0 13), (0, oGetf 14 39 2 16), (1, oFail), (1, oFail)]
set_option maxRecDepth 20000 in
theorem zX12_isPhraseIn_0 : SndL mX12_isPhraseIn 0 kX12_isPhraseIn_0 := SndL.c (s_aload_n (k := 0) (by decide +kernel) rfl) (SndL.c (s_getf (k := 37) clok13 (by decide) rfl (by decide) rfl w_5_139 (Or.inl rfl) (by decide +kernel)) (SndL.c (s_fail) (SndL.c (s_fail) (SndL.c (s_iload_n (k := 1) (by decide +kernel) rfl) (SndL.c (s_iald (by decide +kernel)) (SndL.c (s_aload_n (k := 0) (by decide +kernel) rfl) (SndL.c (s_getf (k := 38) clok13 (by decide) rfl (by decide) rfl w_5_140 (Or.inl rfl) (by decide +kernel)) (SndL.c (s_fail) (SndL.c (s_fail) (SndL.c (s_iload_n (k := 1) (by decide +kernel) rfl) (SndL.c (s_iald (by decide +kernel)) (SndL.c (s_aload_n (k := 0) (by decide +kernel) rfl) (SndL.c (s_getf (k := 39) clok13 (by decide) rfl (by decide) rfl w_5_141 (Or.inl rfl) (by decide +kernel)) (SndL.c (s_fail) (SndL.c (s_fail) (SndL.n))))))))))))))))
def kX12_isPhraseIn_1 : List En := [(0, oIload 1 17), (0, oIald 18), (0, oIload 2 19), (0, oIload 3 20), (2, oInvS mX12_isIn 5 23), (1, oFail), (1, oFail), (0, oRetZ)]
set_option maxRecDepth 20000 in
theorem zX12_isPhraseIn_1 : SndL mX12_isPhraseIn 16 kX12_isPhraseIn_1 := SndL.c (s_iload_n (k := 1) (by decide +kernel) rfl) (SndL.c (s_iald (by decide +kernel)) (SndL.c (s_iload_n (k := 2) (by decide +kernel) rfl) (SndL.c (s_iload_n (k := 3) (by decide +kernel) rfl) (SndL.c (s_invS okX12_isIn w_6_228 w_6_229 (by decide +kernel)) (SndL.c (s_fail) (SndL.c (s_fail) (SndL.c (s_ret_z rfl (by decide +kernel)) (SndL.n))))))))
def kX12_isPhraseIn : Cd := [kX12_isPhraseIn_0, kX12_isPhraseIn_1]
theorem zX12_isPhraseIn : SndC mX12_isPhraseIn 0 kX12_isPhraseIn := SndC.c zX12_isPhraseIn_0 (by decide) (SndC.c zX12_isPhraseIn_1 (by decide) (SndC.n))
theorem aX12_isPhraseIn_0 : at_ kX12_isPhraseIn 0 = (0, oRload 0 1) := rfl
theorem aX12_isPhraseIn_1 : at_ kX12_isPhraseIn 1 = (0, oGetf 14 37 2 4) := rfl
theorem aX12_isPhraseIn_4 : at_ kX12_isPhraseIn 4 = (0, oIload 1 5) := rfl
theorem aX12_isPhraseIn_5 : at_ kX12_isPhraseIn 5 = (0, oIald 6) := rfl
theorem aX12_isPhraseIn_6 : at_ kX12_isPhraseIn 6 = (0, oRload 0 7) := rfl
theorem aX12_isPhraseIn_7 : at_ kX12_isPhraseIn 7 = (0, oGetf 14 38 2 10) := rfl
theorem aX12_isPhraseIn_10 : at_ kX12_isPhraseIn 10 = (0, oIload 1 11) := rfl
theorem aX12_isPhraseIn_11 : at_ kX12_isPhraseIn 11 = (0, oIald 12) := rfl
theorem aX12_isPhraseIn_12 : at_ kX12_isPhraseIn 12 = (0, oRload 0 13) := rfl
theorem aX12_isPhraseIn_13 : at_ kX12_isPhraseIn 13 = (0, oGetf 14 39 2 16) := rfl
theorem aX12_isPhraseIn_16 : at_ kX12_isPhraseIn 16 = (0, oIload 1 17) := rfl
theorem aX12_isPhraseIn_17 : at_ kX12_isPhraseIn 17 = (0, oIald 18) := rfl
theorem aX12_isPhraseIn_18 : at_ kX12_isPhraseIn 18 = (0, oIload 2 19) := rfl
theorem aX12_isPhraseIn_19 : at_ kX12_isPhraseIn 19 = (0, oIload 3 20) := rfl
theorem aX12_isPhraseIn_20 : at_ kX12_isPhraseIn 20 = (2, oInvS mX12_isIn 5 23) := rfl
theorem aX12_isPhraseIn_23 : at_ kX12_isPhraseIn 23 = (0, oRetZ) := rfl
def kX12_strikes_0 : List En := [(0, oRload 0 1), (0, oPush (vI 0) 2), (0, oPutf 14 72 0 5), (1, oFail), (1, oFail), (0, oPush (vI 0) 6), (0, oIstore 3 7), (1, oIload 3 8), (0, oRload 0 9), (0, oGetf 14 22 2 12), (1, oFail), (1, oFail), (0, oIload 1 13), (0, oIald 14), (0, oIcGe 58 17), (1, oFail)]
set_option maxRecDepth 20000 in
theorem zX12_strikes_0 : SndL mX12_strikes 0 kX12_strikes_0 := SndL.c (s_aload_n (k := 0) (by decide +kernel) rfl) (SndL.c (s_iconst (by decide +kernel) (in32_d (by decide))) (SndL.c (s_putf (k := 72) clok13 (by decide) rfl (by decide) rfl w_5_174 (Or.inl rfl) (Or.inl rfl) (by decide +kernel)) (SndL.c (s_fail) (SndL.c (s_fail) (SndL.c (s_iconst (by decide +kernel) (in32_d (by decide))) (SndL.c (s_istore_n (k := 3) (by decide +kernel) rfl (by decide)) (SndL.c (s_iload_n (k := 3) (by decide +kernel) rfl) (SndL.c (s_aload_n (k := 0) (by decide +kernel) rfl) (SndL.c (s_getf (k := 22) clok13 (by decide) rfl (by decide) rfl w_5_124 (Or.inl rfl) (by decide +kernel)) (SndL.c (s_fail) (SndL.c (s_fail) (SndL.c (s_iload_n (k := 1) (by decide +kernel) rfl) (SndL.c (s_iald (by decide +kernel)) (SndL.c (s_ic_ge (off := 44) (by decide +kernel) (by decide)) (SndL.c (s_fail) (SndL.n))))))))))))))))
def kX12_strikes_1 : List En := [(1, oFail), (0, oIload 2 18), (0, oIload 3 19), (0, oIshr 20), (0, oPush (vI 1) 21), (0, oIand 22), (0, oIfNe 52 25), (1, oFail), (1, oFail), (0, oRload 0 26), (0, oGetf 14 71 2 29), (1, oFail), (1, oFail), (0, oRload 0 30), (0, oDup 31), (0, oGetf 14 72 0 34)]
set_option maxRecDepth 20000 in
theorem zX12_strikes_1 : SndL mX12_strikes 16 kX12_strikes_1 := SndL.c (s_fail) (SndL.c (s_iload_n (k := 2) (by decide +kernel) rfl) (SndL.c (s_iload_n (k := 3) (by decide +kernel) rfl) (SndL.c (s_ishr (by decide +kernel)) (SndL.c (s_iconst (by decide +kernel) (in32_d (by decide))) (SndL.c (s_iand (by decide +kernel)) (SndL.c (s_if_ne (off := 30) (by decide +kernel) (by decide)) (SndL.c (s_fail) (SndL.c (s_fail) (SndL.c (s_aload_n (k := 0) (by decide +kernel) rfl) (SndL.c (s_getf (k := 71) clok13 (by decide) rfl (by decide) rfl w_5_173 (Or.inl rfl) (by decide +kernel)) (SndL.c (s_fail) (SndL.c (s_fail) (SndL.c (s_aload_n (k := 0) (by decide +kernel) rfl) (SndL.c (s_dup (by decide +kernel)) (SndL.c (s_getf (k := 72) clok13 (by decide) rfl (by decide) rfl w_5_174 (Or.inl rfl) (by decide +kernel)) (SndL.n))))))))))))))))
def kX12_strikes_2 : List En := [(1, oFail), (1, oFail), (0, oDupx1 35), (0, oPush (vI 1) 36), (0, oIadd 37), (0, oPutf 14 72 0 40), (1, oFail), (1, oFail), (0, oRload 0 41), (0, oGetf 14 28 2 44), (1, oFail), (1, oFail), (0, oPush (vI 20) 46), (1, oFail), (0, oIload 1 47), (0, oImul 48)]
set_option maxRecDepth 20000 in
theorem zX12_strikes_2 : SndL mX12_strikes 32 kX12_strikes_2 := SndL.c (s_fail) (SndL.c (s_fail) (SndL.c (s_dupx1 (by decide +kernel)) (SndL.c (s_iconst (by decide +kernel) (in32_d (by decide))) (SndL.c (s_iadd (by decide +kernel)) (SndL.c (s_putf (k := 72) clok13 (by decide) rfl (by decide) rfl w_5_174 (Or.inl rfl) (Or.inl rfl) (by decide +kernel)) (SndL.c (s_fail) (SndL.c (s_fail) (SndL.c (s_aload_n (k := 0) (by decide +kernel) rfl) (SndL.c (s_getf (k := 28) clok13 (by decide) rfl (by decide) rfl w_5_130 (Or.inl rfl) (by decide +kernel)) (SndL.c (s_fail) (SndL.c (s_fail) (SndL.c (s_bipush (by decide +kernel) (in32_d (by decide)) (by decide +kernel)) (SndL.c (s_fail) (SndL.c (s_iload_n (k := 1) (by decide +kernel) rfl) (SndL.c (s_imul (by decide +kernel)) (SndL.n))))))))))))))))
def kX12_strikes_3 : List En := [(0, oIload 3 49), (0, oIadd 50), (0, oIald 51), (0, oIast 52), (0, oIinc 3 1 55), (1, oFail), (1, oFail), (0, oGoto 7), (1, oFail), (1, oFail), (0, oRetV)]
set_option maxRecDepth 20000 in
theorem zX12_strikes_3 : SndL mX12_strikes 48 kX12_strikes_3 := SndL.c (s_iload_n (k := 3) (by decide +kernel) rfl) (SndL.c (s_iadd (by decide +kernel)) (SndL.c (s_iald (by decide +kernel)) (SndL.c (s_iast (by decide +kernel)) (SndL.c (s_iinc (by decide +kernel) (by decide)) (SndL.c (s_fail) (SndL.c (s_fail) (SndL.c (s_goto (off := -48) (by decide +kernel) (by decide)) (SndL.c (s_fail) (SndL.c (s_fail) (SndL.c (s_ret_v rfl (by decide +kernel)) (SndL.n)))))))))))
def kX12_strikes : Cd := [kX12_strikes_0, kX12_strikes_1, kX12_strikes_2, kX12_strikes_3]
theorem zX12_strikes : SndC mX12_strikes 0 kX12_strikes := SndC.c zX12_strikes_0 (by decide) (SndC.c zX12_strikes_1 (by decide) (SndC.c zX12_strikes_2 (by decide) (SndC.c zX12_strikes_3 (by decide) (SndC.n))))
theorem aX12_strikes_0 : at_ kX12_strikes 0 = (0, oRload 0 1) := rfl
theorem aX12_strikes_1 : at_ kX12_strikes 1 = (0, oPush (vI 0) 2) := rfl
theorem aX12_strikes_2 : at_ kX12_strikes 2 = (0, oPutf 14 72 0 5) := rfl
theorem aX12_strikes_5 : at_ kX12_strikes 5 = (0, oPush (vI 0) 6) := rfl
theorem aX12_strikes_6 : at_ kX12_strikes 6 = (0, oIstore 3 7) := rfl
theorem aX12_strikes_7 : at_ kX12_strikes 7 = (1, oIload 3 8) := rfl
theorem aX12_strikes_8 : at_ kX12_strikes 8 = (0, oRload 0 9) := rfl
theorem aX12_strikes_9 : at_ kX12_strikes 9 = (0, oGetf 14 22 2 12) := rfl
theorem aX12_strikes_12 : at_ kX12_strikes 12 = (0, oIload 1 13) := rfl
theorem aX12_strikes_13 : at_ kX12_strikes 13 = (0, oIald 14) := rfl
theorem aX12_strikes_14 : at_ kX12_strikes 14 = (0, oIcGe 58 17) := rfl
theorem aX12_strikes_17 : at_ kX12_strikes 17 = (0, oIload 2 18) := rfl
theorem aX12_strikes_18 : at_ kX12_strikes 18 = (0, oIload 3 19) := rfl
theorem aX12_strikes_19 : at_ kX12_strikes 19 = (0, oIshr 20) := rfl
theorem aX12_strikes_20 : at_ kX12_strikes 20 = (0, oPush (vI 1) 21) := rfl
theorem aX12_strikes_21 : at_ kX12_strikes 21 = (0, oIand 22) := rfl
theorem aX12_strikes_22 : at_ kX12_strikes 22 = (0, oIfNe 52 25) := rfl
theorem aX12_strikes_25 : at_ kX12_strikes 25 = (0, oRload 0 26) := rfl
theorem aX12_strikes_26 : at_ kX12_strikes 26 = (0, oGetf 14 71 2 29) := rfl
theorem aX12_strikes_29 : at_ kX12_strikes 29 = (0, oRload 0 30) := rfl
theorem aX12_strikes_30 : at_ kX12_strikes 30 = (0, oDup 31) := rfl
theorem aX12_strikes_31 : at_ kX12_strikes 31 = (0, oGetf 14 72 0 34) := rfl
theorem aX12_strikes_34 : at_ kX12_strikes 34 = (0, oDupx1 35) := rfl
theorem aX12_strikes_35 : at_ kX12_strikes 35 = (0, oPush (vI 1) 36) := rfl
theorem aX12_strikes_36 : at_ kX12_strikes 36 = (0, oIadd 37) := rfl
theorem aX12_strikes_37 : at_ kX12_strikes 37 = (0, oPutf 14 72 0 40) := rfl
theorem aX12_strikes_40 : at_ kX12_strikes 40 = (0, oRload 0 41) := rfl
theorem aX12_strikes_41 : at_ kX12_strikes 41 = (0, oGetf 14 28 2 44) := rfl
theorem aX12_strikes_44 : at_ kX12_strikes 44 = (0, oPush (vI 20) 46) := rfl
theorem aX12_strikes_46 : at_ kX12_strikes 46 = (0, oIload 1 47) := rfl
theorem aX12_strikes_47 : at_ kX12_strikes 47 = (0, oImul 48) := rfl
theorem aX12_strikes_48 : at_ kX12_strikes 48 = (0, oIload 3 49) := rfl
theorem aX12_strikes_49 : at_ kX12_strikes 49 = (0, oIadd 50) := rfl
theorem aX12_strikes_50 : at_ kX12_strikes 50 = (0, oIald 51) := rfl
theorem aX12_strikes_51 : at_ kX12_strikes 51 = (0, oIast 52) := rfl
theorem aX12_strikes_52 : at_ kX12_strikes 52 = (0, oIinc 3 1 55) := rfl
theorem aX12_strikes_55 : at_ kX12_strikes 55 = (0, oGoto 7) := rfl
theorem aX12_strikes_58 : at_ kX12_strikes 58 = (0, oRetV) := rfl
def kX12_standsAt_0 : List En := [(0, oIload 5 2), (1, oFail), (0, oRload 0 3), (0, oGetf 14 32 2 6), (1, oFail), (1, oFail), (0, oIload 1 7), (0, oIald 8), (0, oIadd 9), (0, oIload 4 11), (1, oFail), (0, oIcLe 16 14), (1, oFail), (1, oFail), (0, oPush (vI 0) 15), (0, oRetZ)]
set_option maxRecDepth 20000 in
theorem zX12_standsAt_0 : SndL mX12_standsAt 0 kX12_standsAt_0 := SndL.c (s_iload (by decide +kernel)) (SndL.c (s_fail) (SndL.c (s_aload_n (k := 0) (by decide +kernel) rfl) (SndL.c (s_getf (k := 32) clok13 (by decide) rfl (by decide) rfl w_5_134 (Or.inl rfl) (by decide +kernel)) (SndL.c (s_fail) (SndL.c (s_fail) (SndL.c (s_iload_n (k := 1) (by decide +kernel) rfl) (SndL.c (s_iald (by decide +kernel)) (SndL.c (s_iadd (by decide +kernel)) (SndL.c (s_iload (by decide +kernel)) (SndL.c (s_fail) (SndL.c (s_ic_le (off := 5) (by decide +kernel) (by decide)) (SndL.c (s_fail) (SndL.c (s_fail) (SndL.c (s_iconst (by decide +kernel) (in32_d (by decide))) (SndL.c (s_ret_z rfl (by decide +kernel)) (SndL.n))))))))))))))))
def kX12_standsAt_1 : List En := [(0, oPush (vI 0) 17), (0, oIstore 6 19), (1, oFail), (1, oIload 6 21), (1, oFail), (0, oRload 0 22), (0, oGetf 14 32 2 25), (1, oFail), (1, oFail), (0, oIload 1 26), (0, oIald 27), (0, oIcGe 62 30), (1, oFail), (1, oFail), (0, oRload 2 31), (0, oIload 3 32)]
set_option maxRecDepth 20000 in
theorem zX12_standsAt_1 : SndL mX12_standsAt 16 kX12_standsAt_1 := SndL.c (s_iconst (by decide +kernel) (in32_d (by decide))) (SndL.c (s_istore (by decide +kernel) (by decide)) (SndL.c (s_fail) (SndL.c (s_iload (by decide +kernel)) (SndL.c (s_fail) (SndL.c (s_aload_n (k := 0) (by decide +kernel) rfl) (SndL.c (s_getf (k := 32) clok13 (by decide) rfl (by decide) rfl w_5_134 (Or.inl rfl) (by decide +kernel)) (SndL.c (s_fail) (SndL.c (s_fail) (SndL.c (s_iload_n (k := 1) (by decide +kernel) rfl) (SndL.c (s_iald (by decide +kernel)) (SndL.c (s_ic_ge (off := 35) (by decide +kernel) (by decide)) (SndL.c (s_fail) (SndL.c (s_fail) (SndL.c (s_aload_n (k := 2) (by decide +kernel) rfl) (SndL.c (s_iload_n (k := 3) (by decide +kernel) rfl) (SndL.n))))))))))))))))
def kX12_standsAt_2 : List En := [(0, oIload 5 34), (1, oFail), (0, oIadd 35), (0, oIload 6 37), (1, oFail), (0, oIadd 38), (0, oIald 39), (0, oRload 0 40), (0, oGetf 14 33 2 43), (1, oFail), (1, oFail), (0, oPush (vI 6) 45), (1, oFail), (0, oIload 1 46), (0, oImul 47), (0, oIload 6 49)]
set_option maxRecDepth 20000 in
theorem zX12_standsAt_2 : SndL mX12_standsAt 32 kX12_standsAt_2 := SndL.c (s_iload (by decide +kernel)) (SndL.c (s_fail) (SndL.c (s_iadd (by decide +kernel)) (SndL.c (s_iload (by decide +kernel)) (SndL.c (s_fail) (SndL.c (s_iadd (by decide +kernel)) (SndL.c (s_iald (by decide +kernel)) (SndL.c (s_aload_n (k := 0) (by decide +kernel) rfl) (SndL.c (s_getf (k := 33) clok13 (by decide) rfl (by decide) rfl w_5_135 (Or.inl rfl) (by decide +kernel)) (SndL.c (s_fail) (SndL.c (s_fail) (SndL.c (s_bipush (by decide +kernel) (in32_d (by decide)) (by decide +kernel)) (SndL.c (s_fail) (SndL.c (s_iload_n (k := 1) (by decide +kernel) rfl) (SndL.c (s_imul (by decide +kernel)) (SndL.c (s_iload (by decide +kernel)) (SndL.n))))))))))))))))
def kX12_standsAt_3 : List En := [(1, oFail), (0, oIadd 50), (0, oIald 51), (0, oIcEq 56 54), (1, oFail), (1, oFail), (0, oPush (vI 0) 55), (0, oRetZ), (0, oIinc 6 1 59), (1, oFail), (1, oFail), (0, oGoto 19), (1, oFail), (1, oFail), (0, oPush (vI 1) 63), (0, oRetZ)]
set_option maxRecDepth 20000 in
theorem zX12_standsAt_3 : SndL mX12_standsAt 48 kX12_standsAt_3 := SndL.c (s_fail) (SndL.c (s_iadd (by decide +kernel)) (SndL.c (s_iald (by decide +kernel)) (SndL.c (s_ic_eq (off := 5) (by decide +kernel) (by decide)) (SndL.c (s_fail) (SndL.c (s_fail) (SndL.c (s_iconst (by decide +kernel) (in32_d (by decide))) (SndL.c (s_ret_z rfl (by decide +kernel)) (SndL.c (s_iinc (by decide +kernel) (by decide)) (SndL.c (s_fail) (SndL.c (s_fail) (SndL.c (s_goto (off := -40) (by decide +kernel) (by decide)) (SndL.c (s_fail) (SndL.c (s_fail) (SndL.c (s_iconst (by decide +kernel) (in32_d (by decide))) (SndL.c (s_ret_z rfl (by decide +kernel)) (SndL.n))))))))))))))))
def kX12_standsAt : Cd := [kX12_standsAt_0, kX12_standsAt_1, kX12_standsAt_2, kX12_standsAt_3]
theorem zX12_standsAt : SndC mX12_standsAt 0 kX12_standsAt := SndC.c zX12_standsAt_0 (by decide) (SndC.c zX12_standsAt_1 (by decide) (SndC.c zX12_standsAt_2 (by decide) (SndC.c zX12_standsAt_3 (by decide) (SndC.n))))
theorem aX12_standsAt_0 : at_ kX12_standsAt 0 = (0, oIload 5 2) := rfl
theorem aX12_standsAt_2 : at_ kX12_standsAt 2 = (0, oRload 0 3) := rfl
theorem aX12_standsAt_3 : at_ kX12_standsAt 3 = (0, oGetf 14 32 2 6) := rfl
theorem aX12_standsAt_6 : at_ kX12_standsAt 6 = (0, oIload 1 7) := rfl
theorem aX12_standsAt_7 : at_ kX12_standsAt 7 = (0, oIald 8) := rfl
theorem aX12_standsAt_8 : at_ kX12_standsAt 8 = (0, oIadd 9) := rfl
theorem aX12_standsAt_9 : at_ kX12_standsAt 9 = (0, oIload 4 11) := rfl
theorem aX12_standsAt_11 : at_ kX12_standsAt 11 = (0, oIcLe 16 14) := rfl
theorem aX12_standsAt_14 : at_ kX12_standsAt 14 = (0, oPush (vI 0) 15) := rfl
theorem aX12_standsAt_15 : at_ kX12_standsAt 15 = (0, oRetZ) := rfl
theorem aX12_standsAt_16 : at_ kX12_standsAt 16 = (0, oPush (vI 0) 17) := rfl
theorem aX12_standsAt_17 : at_ kX12_standsAt 17 = (0, oIstore 6 19) := rfl
theorem aX12_standsAt_19 : at_ kX12_standsAt 19 = (1, oIload 6 21) := rfl
theorem aX12_standsAt_21 : at_ kX12_standsAt 21 = (0, oRload 0 22) := rfl
theorem aX12_standsAt_22 : at_ kX12_standsAt 22 = (0, oGetf 14 32 2 25) := rfl
theorem aX12_standsAt_25 : at_ kX12_standsAt 25 = (0, oIload 1 26) := rfl
theorem aX12_standsAt_26 : at_ kX12_standsAt 26 = (0, oIald 27) := rfl
theorem aX12_standsAt_27 : at_ kX12_standsAt 27 = (0, oIcGe 62 30) := rfl
theorem aX12_standsAt_30 : at_ kX12_standsAt 30 = (0, oRload 2 31) := rfl
theorem aX12_standsAt_31 : at_ kX12_standsAt 31 = (0, oIload 3 32) := rfl
theorem aX12_standsAt_32 : at_ kX12_standsAt 32 = (0, oIload 5 34) := rfl
theorem aX12_standsAt_34 : at_ kX12_standsAt 34 = (0, oIadd 35) := rfl
theorem aX12_standsAt_35 : at_ kX12_standsAt 35 = (0, oIload 6 37) := rfl
theorem aX12_standsAt_37 : at_ kX12_standsAt 37 = (0, oIadd 38) := rfl
theorem aX12_standsAt_38 : at_ kX12_standsAt 38 = (0, oIald 39) := rfl
theorem aX12_standsAt_39 : at_ kX12_standsAt 39 = (0, oRload 0 40) := rfl
theorem aX12_standsAt_40 : at_ kX12_standsAt 40 = (0, oGetf 14 33 2 43) := rfl
theorem aX12_standsAt_43 : at_ kX12_standsAt 43 = (0, oPush (vI 6) 45) := rfl
theorem aX12_standsAt_45 : at_ kX12_standsAt 45 = (0, oIload 1 46) := rfl
theorem aX12_standsAt_46 : at_ kX12_standsAt 46 = (0, oImul 47) := rfl
theorem aX12_standsAt_47 : at_ kX12_standsAt 47 = (0, oIload 6 49) := rfl
theorem aX12_standsAt_49 : at_ kX12_standsAt 49 = (0, oIadd 50) := rfl
theorem aX12_standsAt_50 : at_ kX12_standsAt 50 = (0, oIald 51) := rfl
theorem aX12_standsAt_51 : at_ kX12_standsAt 51 = (0, oIcEq 56 54) := rfl
theorem aX12_standsAt_54 : at_ kX12_standsAt 54 = (0, oPush (vI 0) 55) := rfl
theorem aX12_standsAt_55 : at_ kX12_standsAt 55 = (0, oRetZ) := rfl
theorem aX12_standsAt_56 : at_ kX12_standsAt 56 = (0, oIinc 6 1 59) := rfl
theorem aX12_standsAt_59 : at_ kX12_standsAt 59 = (0, oGoto 19) := rfl
theorem aX12_standsAt_62 : at_ kX12_standsAt 62 = (0, oPush (vI 1) 63) := rfl
theorem aX12_standsAt_63 : at_ kX12_standsAt 63 = (0, oRetZ) := rfl
def kX12_reads_0 : List En := [(0, oRload 0 1), (0, oPush (vI 0) 2), (0, oPutf 14 75 0 5), (1, oFail), (1, oFail), (0, oPush (vI 0) 6), (0, oIstore 3 7), (1, oIload 3 8), (0, oRload 0 9), (0, oGetf 14 72 0 12), (1, oFail), (1, oFail), (0, oIcGe 120 15), (1, oFail), (1, oFail), (0, oPush (vI 0) 16)]
set_option maxRecDepth 20000 in
theorem zX12_reads_0 : SndL mX12_reads 0 kX12_reads_0 := SndL.c (s_aload_n (k := 0) (by decide +kernel) rfl) (SndL.c (s_iconst (by decide +kernel) (in32_d (by decide))) (SndL.c (s_putf (k := 75) clok13 (by decide) rfl (by decide) rfl w_5_177 (Or.inl rfl) (Or.inl rfl) (by decide +kernel)) (SndL.c (s_fail) (SndL.c (s_fail) (SndL.c (s_iconst (by decide +kernel) (in32_d (by decide))) (SndL.c (s_istore_n (k := 3) (by decide +kernel) rfl (by decide)) (SndL.c (s_iload_n (k := 3) (by decide +kernel) rfl) (SndL.c (s_aload_n (k := 0) (by decide +kernel) rfl) (SndL.c (s_getf (k := 72) clok13 (by decide) rfl (by decide) rfl w_5_174 (Or.inl rfl) (by decide +kernel)) (SndL.c (s_fail) (SndL.c (s_fail) (SndL.c (s_ic_ge (off := 108) (by decide +kernel) (by decide)) (SndL.c (s_fail) (SndL.c (s_fail) (SndL.c (s_iconst (by decide +kernel) (in32_d (by decide))) (SndL.n))))))))))))))))
def kX12_reads_1 : List En := [(0, oIstore 4 18), (1, oFail), (1, oIload 4 20), (1, oFail), (0, oRload 0 21), (0, oGetf 14 2 0 24), (1, oFail), (1, oFail), (0, oIcGe 114 27), (1, oFail), (1, oFail), (0, oRload 0 28), (0, oGetf 14 75 0 31), (1, oFail), (1, oFail), (0, oPush (vI 24) 33)]
set_option maxRecDepth 20000 in
theorem zX12_reads_1 : SndL mX12_reads 16 kX12_reads_1 := SndL.c (s_istore (by decide +kernel) (by decide)) (SndL.c (s_fail) (SndL.c (s_iload (by decide +kernel)) (SndL.c (s_fail) (SndL.c (s_aload_n (k := 0) (by decide +kernel) rfl) (SndL.c (s_getf (k := 2) clok13 (by decide) rfl (by decide) rfl w_5_104 (Or.inl rfl) (by decide +kernel)) (SndL.c (s_fail) (SndL.c (s_fail) (SndL.c (s_ic_ge (off := 90) (by decide +kernel) (by decide)) (SndL.c (s_fail) (SndL.c (s_fail) (SndL.c (s_aload_n (k := 0) (by decide +kernel) rfl) (SndL.c (s_getf (k := 75) clok13 (by decide) rfl (by decide) rfl w_5_177 (Or.inl rfl) (by decide +kernel)) (SndL.c (s_fail) (SndL.c (s_fail) (SndL.c (s_bipush (by decide +kernel) (in32_d (by decide)) (by decide +kernel)) (SndL.n))))))))))))))))
def kX12_reads_2 : List En := [(1, oFail), (0, oIcEq 108 36), (1, oFail), (1, oFail), (0, oRload 0 37), (0, oGetf 14 34 2 40), (1, oFail), (1, oFail), (0, oIload 4 42), (1, oFail), (0, oIald 43), (0, oPush (vI 3) 44), (0, oIcEq 108 47), (1, oFail), (1, oFail), (0, oRload 0 48)]
set_option maxRecDepth 20000 in
theorem zX12_reads_2 : SndL mX12_reads 32 kX12_reads_2 := SndL.c (s_fail) (SndL.c (s_ic_eq (off := 75) (by decide +kernel) (by decide)) (SndL.c (s_fail) (SndL.c (s_fail) (SndL.c (s_aload_n (k := 0) (by decide +kernel) rfl) (SndL.c (s_getf (k := 34) clok13 (by decide) rfl (by decide) rfl w_5_136 (Or.inl rfl) (by decide +kernel)) (SndL.c (s_fail) (SndL.c (s_fail) (SndL.c (s_iload (by decide +kernel)) (SndL.c (s_fail) (SndL.c (s_iald (by decide +kernel)) (SndL.c (s_iconst (by decide +kernel) (in32_d (by decide))) (SndL.c (s_ic_eq (off := 64) (by decide +kernel) (by decide)) (SndL.c (s_fail) (SndL.c (s_fail) (SndL.c (s_aload_n (k := 0) (by decide +kernel) rfl) (SndL.n))))))))))))))))
def kX12_reads_3 : List En := [(0, oIload 4 50), (1, oFail), (0, oIload 1 51), (0, oIload 2 52), (2, oInvV 14 mX12_isPhraseIn 3 55), (1, oFail), (1, oFail), (0, oIfEq 108 58), (1, oFail), (1, oFail), (0, oRload 0 59), (0, oIload 4 61), (1, oFail), (0, oRload 0 62), (0, oGetf 14 71 2 65), (1, oFail)]
set_option maxRecDepth 20000 in
theorem zX12_reads_3 : SndL mX12_reads 48 kX12_reads_3 := SndL.c (s_iload (by decide +kernel)) (SndL.c (s_fail) (SndL.c (s_iload_n (k := 1) (by decide +kernel) rfl) (SndL.c (s_iload_n (k := 2) (by decide +kernel) rfl) (SndL.c (s_invV (r := (RX12, TX12, 90)) (ci := 13) okX12_isPhraseIn rfl (by decide) rfl rfl w_6_224 w_6_226 v_36 (by decide +kernel)) (SndL.c (s_fail) (SndL.c (s_fail) (SndL.c (s_if_eq (off := 53) (by decide +kernel) (by decide)) (SndL.c (s_fail) (SndL.c (s_fail) (SndL.c (s_aload_n (k := 0) (by decide +kernel) rfl) (SndL.c (s_iload (by decide +kernel)) (SndL.c (s_fail) (SndL.c (s_aload_n (k := 0) (by decide +kernel) rfl) (SndL.c (s_getf (k := 71) clok13 (by decide) rfl (by decide) rfl w_5_173 (Or.inl rfl) (by decide +kernel)) (SndL.c (s_fail) (SndL.n))))))))))))))))
def kX12_reads_4 : List En := [(1, oFail), (0, oPush (vI 0) 66), (0, oRload 0 67), (0, oGetf 14 72 0 70), (1, oFail), (1, oFail), (0, oIload 3 71), (2, oInvV 14 mX12_standsAt 5 74), (1, oFail), (1, oFail), (0, oIfNe 80 77), (1, oFail), (1, oFail), (0, oGoto 108), (1, oFail), (1, oFail)]
set_option maxRecDepth 20000 in
theorem zX12_reads_4 : SndL mX12_reads 64 kX12_reads_4 := SndL.c (s_fail) (SndL.c (s_iconst (by decide +kernel) (in32_d (by decide))) (SndL.c (s_aload_n (k := 0) (by decide +kernel) rfl) (SndL.c (s_getf (k := 72) clok13 (by decide) rfl (by decide) rfl w_5_174 (Or.inl rfl) (by decide +kernel)) (SndL.c (s_fail) (SndL.c (s_fail) (SndL.c (s_iload_n (k := 3) (by decide +kernel) rfl) (SndL.c (s_invV (r := (RX12, TX12, 90)) (ci := 13) okX12_standsAt rfl (by decide) rfl rfl w_6_231 w_6_233 v_37 (by decide +kernel)) (SndL.c (s_fail) (SndL.c (s_fail) (SndL.c (s_if_ne (off := 6) (by decide +kernel) (by decide)) (SndL.c (s_fail) (SndL.c (s_fail) (SndL.c (s_goto (off := 31) (by decide +kernel) (by decide)) (SndL.c (s_fail) (SndL.c (s_fail) (SndL.n))))))))))))))))
def kX12_reads_5 : List En := [(0, oRload 0 81), (0, oGetf 14 73 2 84), (1, oFail), (1, oFail), (0, oRload 0 85), (0, oGetf 14 75 0 88), (1, oFail), (1, oFail), (0, oIload 4 90), (1, oFail), (0, oIast 91), (0, oRload 0 92), (0, oGetf 14 74 2 95), (1, oFail), (1, oFail), (0, oRload 0 96)]
set_option maxRecDepth 20000 in
theorem zX12_reads_5 : SndL mX12_reads 80 kX12_reads_5 := SndL.c (s_aload_n (k := 0) (by decide +kernel) rfl) (SndL.c (s_getf (k := 73) clok13 (by decide) rfl (by decide) rfl w_5_175 (Or.inl rfl) (by decide +kernel)) (SndL.c (s_fail) (SndL.c (s_fail) (SndL.c (s_aload_n (k := 0) (by decide +kernel) rfl) (SndL.c (s_getf (k := 75) clok13 (by decide) rfl (by decide) rfl w_5_177 (Or.inl rfl) (by decide +kernel)) (SndL.c (s_fail) (SndL.c (s_fail) (SndL.c (s_iload (by decide +kernel)) (SndL.c (s_fail) (SndL.c (s_iast (by decide +kernel)) (SndL.c (s_aload_n (k := 0) (by decide +kernel) rfl) (SndL.c (s_getf (k := 74) clok13 (by decide) rfl (by decide) rfl w_5_176 (Or.inl rfl) (by decide +kernel)) (SndL.c (s_fail) (SndL.c (s_fail) (SndL.c (s_aload_n (k := 0) (by decide +kernel) rfl) (SndL.n))))))))))))))))
def kX12_reads_6 : List En := [(0, oDup 97), (0, oGetf 14 75 0 100), (1, oFail), (1, oFail), (0, oDupx1 101), (0, oPush (vI 1) 102), (0, oIadd 103), (0, oPutf 14 75 0 106), (1, oFail), (1, oFail), (0, oIload 3 107), (0, oIast 108), (0, oIinc 4 1 111), (1, oFail), (1, oFail), (0, oGoto 18)]
set_option maxRecDepth 20000 in
theorem zX12_reads_6 : SndL mX12_reads 96 kX12_reads_6 := SndL.c (s_dup (by decide +kernel)) (SndL.c (s_getf (k := 75) clok13 (by decide) rfl (by decide) rfl w_5_177 (Or.inl rfl) (by decide +kernel)) (SndL.c (s_fail) (SndL.c (s_fail) (SndL.c (s_dupx1 (by decide +kernel)) (SndL.c (s_iconst (by decide +kernel) (in32_d (by decide))) (SndL.c (s_iadd (by decide +kernel)) (SndL.c (s_putf (k := 75) clok13 (by decide) rfl (by decide) rfl w_5_177 (Or.inl rfl) (Or.inl rfl) (by decide +kernel)) (SndL.c (s_fail) (SndL.c (s_fail) (SndL.c (s_iload_n (k := 3) (by decide +kernel) rfl) (SndL.c (s_iast (by decide +kernel)) (SndL.c (s_iinc (by decide +kernel) (by decide)) (SndL.c (s_fail) (SndL.c (s_fail) (SndL.c (s_goto (off := -93) (by decide +kernel) (by decide)) (SndL.n))))))))))))))))
def kX12_reads_7 : List En := [(1, oFail), (1, oFail), (0, oIinc 3 1 117), (1, oFail), (1, oFail), (0, oGoto 7), (1, oFail), (1, oFail), (0, oRetV)]
set_option maxRecDepth 20000 in
theorem zX12_reads_7 : SndL mX12_reads 112 kX12_reads_7 := SndL.c (s_fail) (SndL.c (s_fail) (SndL.c (s_iinc (by decide +kernel) (by decide)) (SndL.c (s_fail) (SndL.c (s_fail) (SndL.c (s_goto (off := -110) (by decide +kernel) (by decide)) (SndL.c (s_fail) (SndL.c (s_fail) (SndL.c (s_ret_v rfl (by decide +kernel)) (SndL.n)))))))))
def kX12_reads : Cd := [kX12_reads_0, kX12_reads_1, kX12_reads_2, kX12_reads_3, kX12_reads_4, kX12_reads_5, kX12_reads_6, kX12_reads_7]
theorem zX12_reads : SndC mX12_reads 0 kX12_reads := SndC.c zX12_reads_0 (by decide) (SndC.c zX12_reads_1 (by decide) (SndC.c zX12_reads_2 (by decide) (SndC.c zX12_reads_3 (by decide) (SndC.c zX12_reads_4 (by decide) (SndC.c zX12_reads_5 (by decide) (SndC.c zX12_reads_6 (by decide) (SndC.c zX12_reads_7 (by decide) (SndC.n))))))))
theorem aX12_reads_0 : at_ kX12_reads 0 = (0, oRload 0 1) := rfl
theorem aX12_reads_1 : at_ kX12_reads 1 = (0, oPush (vI 0) 2) := rfl
theorem aX12_reads_2 : at_ kX12_reads 2 = (0, oPutf 14 75 0 5) := rfl
theorem aX12_reads_5 : at_ kX12_reads 5 = (0, oPush (vI 0) 6) := rfl
theorem aX12_reads_6 : at_ kX12_reads 6 = (0, oIstore 3 7) := rfl
theorem aX12_reads_7 : at_ kX12_reads 7 = (1, oIload 3 8) := rfl
theorem aX12_reads_8 : at_ kX12_reads 8 = (0, oRload 0 9) := rfl
theorem aX12_reads_9 : at_ kX12_reads 9 = (0, oGetf 14 72 0 12) := rfl
theorem aX12_reads_12 : at_ kX12_reads 12 = (0, oIcGe 120 15) := rfl
theorem aX12_reads_15 : at_ kX12_reads 15 = (0, oPush (vI 0) 16) := rfl
theorem aX12_reads_16 : at_ kX12_reads 16 = (0, oIstore 4 18) := rfl
theorem aX12_reads_18 : at_ kX12_reads 18 = (1, oIload 4 20) := rfl
theorem aX12_reads_20 : at_ kX12_reads 20 = (0, oRload 0 21) := rfl
theorem aX12_reads_21 : at_ kX12_reads 21 = (0, oGetf 14 2 0 24) := rfl
theorem aX12_reads_24 : at_ kX12_reads 24 = (0, oIcGe 114 27) := rfl
theorem aX12_reads_27 : at_ kX12_reads 27 = (0, oRload 0 28) := rfl
theorem aX12_reads_28 : at_ kX12_reads 28 = (0, oGetf 14 75 0 31) := rfl
theorem aX12_reads_31 : at_ kX12_reads 31 = (0, oPush (vI 24) 33) := rfl
theorem aX12_reads_33 : at_ kX12_reads 33 = (0, oIcEq 108 36) := rfl
theorem aX12_reads_36 : at_ kX12_reads 36 = (0, oRload 0 37) := rfl
theorem aX12_reads_37 : at_ kX12_reads 37 = (0, oGetf 14 34 2 40) := rfl
theorem aX12_reads_40 : at_ kX12_reads 40 = (0, oIload 4 42) := rfl
theorem aX12_reads_42 : at_ kX12_reads 42 = (0, oIald 43) := rfl
theorem aX12_reads_43 : at_ kX12_reads 43 = (0, oPush (vI 3) 44) := rfl
theorem aX12_reads_44 : at_ kX12_reads 44 = (0, oIcEq 108 47) := rfl
theorem aX12_reads_47 : at_ kX12_reads 47 = (0, oRload 0 48) := rfl
theorem aX12_reads_48 : at_ kX12_reads 48 = (0, oIload 4 50) := rfl
theorem aX12_reads_50 : at_ kX12_reads 50 = (0, oIload 1 51) := rfl
theorem aX12_reads_51 : at_ kX12_reads 51 = (0, oIload 2 52) := rfl
theorem aX12_reads_52 : at_ kX12_reads 52 = (2, oInvV 14 mX12_isPhraseIn 3 55) := rfl
theorem aX12_reads_55 : at_ kX12_reads 55 = (0, oIfEq 108 58) := rfl
theorem aX12_reads_58 : at_ kX12_reads 58 = (0, oRload 0 59) := rfl
theorem aX12_reads_59 : at_ kX12_reads 59 = (0, oIload 4 61) := rfl
theorem aX12_reads_61 : at_ kX12_reads 61 = (0, oRload 0 62) := rfl
theorem aX12_reads_62 : at_ kX12_reads 62 = (0, oGetf 14 71 2 65) := rfl
theorem aX12_reads_65 : at_ kX12_reads 65 = (0, oPush (vI 0) 66) := rfl
theorem aX12_reads_66 : at_ kX12_reads 66 = (0, oRload 0 67) := rfl
theorem aX12_reads_67 : at_ kX12_reads 67 = (0, oGetf 14 72 0 70) := rfl
theorem aX12_reads_70 : at_ kX12_reads 70 = (0, oIload 3 71) := rfl
theorem aX12_reads_71 : at_ kX12_reads 71 = (2, oInvV 14 mX12_standsAt 5 74) := rfl
theorem aX12_reads_74 : at_ kX12_reads 74 = (0, oIfNe 80 77) := rfl
theorem aX12_reads_77 : at_ kX12_reads 77 = (0, oGoto 108) := rfl
theorem aX12_reads_80 : at_ kX12_reads 80 = (0, oRload 0 81) := rfl
theorem aX12_reads_81 : at_ kX12_reads 81 = (0, oGetf 14 73 2 84) := rfl
theorem aX12_reads_84 : at_ kX12_reads 84 = (0, oRload 0 85) := rfl
theorem aX12_reads_85 : at_ kX12_reads 85 = (0, oGetf 14 75 0 88) := rfl
theorem aX12_reads_88 : at_ kX12_reads 88 = (0, oIload 4 90) := rfl
theorem aX12_reads_90 : at_ kX12_reads 90 = (0, oIast 91) := rfl
theorem aX12_reads_91 : at_ kX12_reads 91 = (0, oRload 0 92) := rfl
theorem aX12_reads_92 : at_ kX12_reads 92 = (0, oGetf 14 74 2 95) := rfl
theorem aX12_reads_95 : at_ kX12_reads 95 = (0, oRload 0 96) := rfl
theorem aX12_reads_96 : at_ kX12_reads 96 = (0, oDup 97) := rfl
theorem aX12_reads_97 : at_ kX12_reads 97 = (0, oGetf 14 75 0 100) := rfl
theorem aX12_reads_100 : at_ kX12_reads 100 = (0, oDupx1 101) := rfl
theorem aX12_reads_101 : at_ kX12_reads 101 = (0, oPush (vI 1) 102) := rfl
theorem aX12_reads_102 : at_ kX12_reads 102 = (0, oIadd 103) := rfl
theorem aX12_reads_103 : at_ kX12_reads 103 = (0, oPutf 14 75 0 106) := rfl
theorem aX12_reads_106 : at_ kX12_reads 106 = (0, oIload 3 107) := rfl
theorem aX12_reads_107 : at_ kX12_reads 107 = (0, oIast 108) := rfl
theorem aX12_reads_108 : at_ kX12_reads 108 = (0, oIinc 4 1 111) := rfl
theorem aX12_reads_111 : at_ kX12_reads 111 = (0, oGoto 18) := rfl
theorem aX12_reads_114 : at_ kX12_reads 114 = (0, oIinc 3 1 117) := rfl
theorem aX12_reads_117 : at_ kX12_reads 117 = (0, oGoto 7) := rfl
theorem aX12_reads_120 : at_ kX12_reads 120 = (0, oRetV) := rfl
def kX12_readsAll_0 : List En := [(0, oRload 0 1), (0, oIload 1 2), (0, oPush (vI 0) 3), (2, oInvV 14 mX12_strikes 2 6), (1, oFail), (1, oFail), (0, oRload 0 7), (0, oIload 2 8), (0, oIload 3 9), (2, oInvV 14 mX12_reads 2 12), (1, oFail), (1, oFail), (0, oRetV)]
set_option maxRecDepth 20000 in
theorem zX12_readsAll_0 : SndL mX12_readsAll 0 kX12_readsAll_0 := SndL.c (s_aload_n (k := 0) (by decide +kernel) rfl) (SndL.c (s_iload_n (k := 1) (by decide +kernel) rfl) (SndL.c (s_iconst (by decide +kernel) (in32_d (by decide))) (SndL.c (s_invV (r := (RX12, TX12, 90)) (ci := 13) okX12_strikes rfl (by decide) rfl rfl w_6_216 w_6_218 v_34 (by decide +kernel)) (SndL.c (s_fail) (SndL.c (s_fail) (SndL.c (s_aload_n (k := 0) (by decide +kernel) rfl) (SndL.c (s_iload_n (k := 2) (by decide +kernel) rfl) (SndL.c (s_iload_n (k := 3) (by decide +kernel) rfl) (SndL.c (s_invV (r := (RX12, TX12, 90)) (ci := 13) okX12_reads rfl (by decide) rfl rfl w_6_220 w_6_222 v_35 (by decide +kernel)) (SndL.c (s_fail) (SndL.c (s_fail) (SndL.c (s_ret_v rfl (by decide +kernel)) (SndL.n)))))))))))))
def kX12_readsAll : Cd := [kX12_readsAll_0]
theorem zX12_readsAll : SndC mX12_readsAll 0 kX12_readsAll := SndC.c zX12_readsAll_0 (by decide) (SndC.n)
theorem aX12_readsAll_0 : at_ kX12_readsAll 0 = (0, oRload 0 1) := rfl
theorem aX12_readsAll_1 : at_ kX12_readsAll 1 = (0, oIload 1 2) := rfl
theorem aX12_readsAll_2 : at_ kX12_readsAll 2 = (0, oPush (vI 0) 3) := rfl
theorem aX12_readsAll_3 : at_ kX12_readsAll 3 = (2, oInvV 14 mX12_strikes 2 6) := rfl
theorem aX12_readsAll_6 : at_ kX12_readsAll 6 = (0, oRload 0 7) := rfl
theorem aX12_readsAll_7 : at_ kX12_readsAll 7 = (0, oIload 2 8) := rfl
theorem aX12_readsAll_8 : at_ kX12_readsAll 8 = (0, oIload 3 9) := rfl
theorem aX12_readsAll_9 : at_ kX12_readsAll 9 = (2, oInvV 14 mX12_reads 2 12) := rfl
theorem aX12_readsAll_12 : at_ kX12_readsAll 12 = (0, oRetV) := rfl
def kX12_isTakenBack_0 : List En := [(0, oPush (vI 0) 1), (0, oIstore 5 3), (1, oFail), (1, oIload 5 5), (1, oFail), (0, oRload 0 6), (0, oGetf 14 2 0 9), (1, oFail), (1, oFail), (0, oIcGe 107 12), (1, oFail), (1, oFail), (0, oRload 0 13), (0, oGetf 14 34 2 16), (1, oFail), (1, oFail)]
set_option maxRecDepth 20000 in
theorem zX12_isTakenBack_0 : SndL mX12_isTakenBack 0 kX12_isTakenBack_0 := SndL.c (s_iconst (by decide +kernel) (in32_d (by decide))) (SndL.c (s_istore (by decide +kernel) (by decide)) (SndL.c (s_fail) (SndL.c (s_iload (by decide +kernel)) (SndL.c (s_fail) (SndL.c (s_aload_n (k := 0) (by decide +kernel) rfl) (SndL.c (s_getf (k := 2) clok13 (by decide) rfl (by decide) rfl w_5_104 (Or.inl rfl) (by decide +kernel)) (SndL.c (s_fail) (SndL.c (s_fail) (SndL.c (s_ic_ge (off := 98) (by decide +kernel) (by decide)) (SndL.c (s_fail) (SndL.c (s_fail) (SndL.c (s_aload_n (k := 0) (by decide +kernel) rfl) (SndL.c (s_getf (k := 34) clok13 (by decide) rfl (by decide) rfl w_5_136 (Or.inl rfl) (by decide +kernel)) (SndL.c (s_fail) (SndL.c (s_fail) (SndL.n))))))))))))))))
def kX12_isTakenBack_1 : List En := [(0, oIload 5 18), (1, oFail), (0, oIald 19), (0, oPush (vI 3) 20), (0, oIcNe 101 23), (1, oFail), (1, oFail), (0, oRload 0 24), (0, oGetf 14 35 2 27), (1, oFail), (1, oFail), (0, oIload 5 29), (1, oFail), (0, oIald 30), (0, oRload 0 31), (0, oGetf 14 35 2 34)]
set_option maxRecDepth 20000 in
theorem zX12_isTakenBack_1 : SndL mX12_isTakenBack 16 kX12_isTakenBack_1 := SndL.c (s_iload (by decide +kernel)) (SndL.c (s_fail) (SndL.c (s_iald (by decide +kernel)) (SndL.c (s_iconst (by decide +kernel) (in32_d (by decide))) (SndL.c (s_ic_ne (off := 81) (by decide +kernel) (by decide)) (SndL.c (s_fail) (SndL.c (s_fail) (SndL.c (s_aload_n (k := 0) (by decide +kernel) rfl) (SndL.c (s_getf (k := 35) clok13 (by decide) rfl (by decide) rfl w_5_137 (Or.inl rfl) (by decide +kernel)) (SndL.c (s_fail) (SndL.c (s_fail) (SndL.c (s_iload (by decide +kernel)) (SndL.c (s_fail) (SndL.c (s_iald (by decide +kernel)) (SndL.c (s_aload_n (k := 0) (by decide +kernel) rfl) (SndL.c (s_getf (k := 35) clok13 (by decide) rfl (by decide) rfl w_5_137 (Or.inl rfl) (by decide +kernel)) (SndL.n))))))))))))))))
def kX12_isTakenBack_2 : List En := [(1, oFail), (1, oFail), (0, oIload 2 35), (0, oIald 36), (0, oIcNe 101 39), (1, oFail), (1, oFail), (0, oRload 0 40), (0, oIload 5 42), (1, oFail), (0, oIload 3 43), (0, oIload 4 45), (1, oFail), (2, oInvV 14 mX12_isPhraseIn 3 48), (1, oFail), (1, oFail)]
set_option maxRecDepth 20000 in
theorem zX12_isTakenBack_2 : SndL mX12_isTakenBack 32 kX12_isTakenBack_2 := SndL.c (s_fail) (SndL.c (s_fail) (SndL.c (s_iload_n (k := 2) (by decide +kernel) rfl) (SndL.c (s_iald (by decide +kernel)) (SndL.c (s_ic_ne (off := 65) (by decide +kernel) (by decide)) (SndL.c (s_fail) (SndL.c (s_fail) (SndL.c (s_aload_n (k := 0) (by decide +kernel) rfl) (SndL.c (s_iload (by decide +kernel)) (SndL.c (s_fail) (SndL.c (s_iload_n (k := 3) (by decide +kernel) rfl) (SndL.c (s_iload (by decide +kernel)) (SndL.c (s_fail) (SndL.c (s_invV (r := (RX12, TX12, 90)) (ci := 13) okX12_isPhraseIn rfl (by decide) rfl rfl w_6_224 w_6_226 v_36 (by decide +kernel)) (SndL.c (s_fail) (SndL.c (s_fail) (SndL.n))))))))))))))))
def kX12_isTakenBack_3 : List En := [(0, oIfNe 54 51), (1, oFail), (1, oFail), (0, oGoto 101), (1, oFail), (1, oFail), (0, oPush (vI 0) 55), (0, oIstore 6 57), (1, oFail), (1, oIload 6 59), (1, oFail), (0, oRload 0 60), (0, oGetf 14 23 2 63), (1, oFail), (1, oFail), (0, oIload 1 64)]
set_option maxRecDepth 20000 in
theorem zX12_isTakenBack_3 : SndL mX12_isTakenBack 48 kX12_isTakenBack_3 := SndL.c (s_if_ne (off := 6) (by decide +kernel) (by decide)) (SndL.c (s_fail) (SndL.c (s_fail) (SndL.c (s_goto (off := 50) (by decide +kernel) (by decide)) (SndL.c (s_fail) (SndL.c (s_fail) (SndL.c (s_iconst (by decide +kernel) (in32_d (by decide))) (SndL.c (s_istore (by decide +kernel) (by decide)) (SndL.c (s_fail) (SndL.c (s_iload (by decide +kernel)) (SndL.c (s_fail) (SndL.c (s_aload_n (k := 0) (by decide +kernel) rfl) (SndL.c (s_getf (k := 23) clok13 (by decide) rfl (by decide) rfl w_5_125 (Or.inl rfl) (by decide +kernel)) (SndL.c (s_fail) (SndL.c (s_fail) (SndL.c (s_iload_n (k := 1) (by decide +kernel) rfl) (SndL.n))))))))))))))))
def kX12_isTakenBack_4 : List En := [(0, oIald 65), (0, oIcGe 101 68), (1, oFail), (1, oFail), (0, oRload 0 69), (0, oIload 5 71), (1, oFail), (0, oRload 0 72), (0, oGetf 14 29 2 75), (1, oFail), (1, oFail), (0, oPush (vI 12) 77), (1, oFail), (0, oIload 1 78), (0, oImul 79), (0, oRload 0 80)]
set_option maxRecDepth 20000 in
theorem zX12_isTakenBack_4 : SndL mX12_isTakenBack 64 kX12_isTakenBack_4 := SndL.c (s_iald (by decide +kernel)) (SndL.c (s_ic_ge (off := 36) (by decide +kernel) (by decide)) (SndL.c (s_fail) (SndL.c (s_fail) (SndL.c (s_aload_n (k := 0) (by decide +kernel) rfl) (SndL.c (s_iload (by decide +kernel)) (SndL.c (s_fail) (SndL.c (s_aload_n (k := 0) (by decide +kernel) rfl) (SndL.c (s_getf (k := 29) clok13 (by decide) rfl (by decide) rfl w_5_131 (Or.inl rfl) (by decide +kernel)) (SndL.c (s_fail) (SndL.c (s_fail) (SndL.c (s_bipush (by decide +kernel) (in32_d (by decide)) (by decide +kernel)) (SndL.c (s_fail) (SndL.c (s_iload_n (k := 1) (by decide +kernel) rfl) (SndL.c (s_imul (by decide +kernel)) (SndL.c (s_aload_n (k := 0) (by decide +kernel) rfl) (SndL.n))))))))))))))))
def kX12_isTakenBack_5 : List En := [(0, oGetf 14 23 2 83), (1, oFail), (1, oFail), (0, oIload 1 84), (0, oIald 85), (0, oIload 6 87), (1, oFail), (2, oInvV 14 mX12_standsAt 5 90), (1, oFail), (1, oFail), (0, oIfEq 95 93), (1, oFail), (1, oFail), (0, oPush (vI 1) 94), (0, oRetZ), (0, oIinc 6 1 98)]
set_option maxRecDepth 20000 in
theorem zX12_isTakenBack_5 : SndL mX12_isTakenBack 80 kX12_isTakenBack_5 := SndL.c (s_getf (k := 23) clok13 (by decide) rfl (by decide) rfl w_5_125 (Or.inl rfl) (by decide +kernel)) (SndL.c (s_fail) (SndL.c (s_fail) (SndL.c (s_iload_n (k := 1) (by decide +kernel) rfl) (SndL.c (s_iald (by decide +kernel)) (SndL.c (s_iload (by decide +kernel)) (SndL.c (s_fail) (SndL.c (s_invV (r := (RX12, TX12, 90)) (ci := 13) okX12_standsAt rfl (by decide) rfl rfl w_6_231 w_6_233 v_37 (by decide +kernel)) (SndL.c (s_fail) (SndL.c (s_fail) (SndL.c (s_if_eq (off := 5) (by decide +kernel) (by decide)) (SndL.c (s_fail) (SndL.c (s_fail) (SndL.c (s_iconst (by decide +kernel) (in32_d (by decide))) (SndL.c (s_ret_z rfl (by decide +kernel)) (SndL.c (s_iinc (by decide +kernel) (by decide)) (SndL.n))))))))))))))))
def kX12_isTakenBack_6 : List En := [(1, oFail), (1, oFail), (0, oGoto 57), (1, oFail), (1, oFail), (0, oIinc 5 1 104), (1, oFail), (1, oFail), (0, oGoto 3), (1, oFail), (1, oFail), (0, oPush (vI 0) 108), (0, oRetZ)]
set_option maxRecDepth 20000 in
theorem zX12_isTakenBack_6 : SndL mX12_isTakenBack 96 kX12_isTakenBack_6 := SndL.c (s_fail) (SndL.c (s_fail) (SndL.c (s_goto (off := -41) (by decide +kernel) (by decide)) (SndL.c (s_fail) (SndL.c (s_fail) (SndL.c (s_iinc (by decide +kernel) (by decide)) (SndL.c (s_fail) (SndL.c (s_fail) (SndL.c (s_goto (off := -101) (by decide +kernel) (by decide)) (SndL.c (s_fail) (SndL.c (s_fail) (SndL.c (s_iconst (by decide +kernel) (in32_d (by decide))) (SndL.c (s_ret_z rfl (by decide +kernel)) (SndL.n)))))))))))))
def kX12_isTakenBack : Cd := [kX12_isTakenBack_0, kX12_isTakenBack_1, kX12_isTakenBack_2, kX12_isTakenBack_3, kX12_isTakenBack_4, kX12_isTakenBack_5, kX12_isTakenBack_6]
theorem zX12_isTakenBack : SndC mX12_isTakenBack 0 kX12_isTakenBack := SndC.c zX12_isTakenBack_0 (by decide) (SndC.c zX12_isTakenBack_1 (by decide) (SndC.c zX12_isTakenBack_2 (by decide) (SndC.c zX12_isTakenBack_3 (by decide) (SndC.c zX12_isTakenBack_4 (by decide) (SndC.c zX12_isTakenBack_5 (by decide) (SndC.c zX12_isTakenBack_6 (by decide) (SndC.n)))))))
theorem aX12_isTakenBack_0 : at_ kX12_isTakenBack 0 = (0, oPush (vI 0) 1) := rfl
theorem aX12_isTakenBack_1 : at_ kX12_isTakenBack 1 = (0, oIstore 5 3) := rfl
theorem aX12_isTakenBack_3 : at_ kX12_isTakenBack 3 = (1, oIload 5 5) := rfl
theorem aX12_isTakenBack_5 : at_ kX12_isTakenBack 5 = (0, oRload 0 6) := rfl
theorem aX12_isTakenBack_6 : at_ kX12_isTakenBack 6 = (0, oGetf 14 2 0 9) := rfl
theorem aX12_isTakenBack_9 : at_ kX12_isTakenBack 9 = (0, oIcGe 107 12) := rfl
theorem aX12_isTakenBack_12 : at_ kX12_isTakenBack 12 = (0, oRload 0 13) := rfl
theorem aX12_isTakenBack_13 : at_ kX12_isTakenBack 13 = (0, oGetf 14 34 2 16) := rfl
theorem aX12_isTakenBack_16 : at_ kX12_isTakenBack 16 = (0, oIload 5 18) := rfl
theorem aX12_isTakenBack_18 : at_ kX12_isTakenBack 18 = (0, oIald 19) := rfl
theorem aX12_isTakenBack_19 : at_ kX12_isTakenBack 19 = (0, oPush (vI 3) 20) := rfl
theorem aX12_isTakenBack_20 : at_ kX12_isTakenBack 20 = (0, oIcNe 101 23) := rfl
theorem aX12_isTakenBack_23 : at_ kX12_isTakenBack 23 = (0, oRload 0 24) := rfl
theorem aX12_isTakenBack_24 : at_ kX12_isTakenBack 24 = (0, oGetf 14 35 2 27) := rfl
theorem aX12_isTakenBack_27 : at_ kX12_isTakenBack 27 = (0, oIload 5 29) := rfl
theorem aX12_isTakenBack_29 : at_ kX12_isTakenBack 29 = (0, oIald 30) := rfl
theorem aX12_isTakenBack_30 : at_ kX12_isTakenBack 30 = (0, oRload 0 31) := rfl
theorem aX12_isTakenBack_31 : at_ kX12_isTakenBack 31 = (0, oGetf 14 35 2 34) := rfl
theorem aX12_isTakenBack_34 : at_ kX12_isTakenBack 34 = (0, oIload 2 35) := rfl
theorem aX12_isTakenBack_35 : at_ kX12_isTakenBack 35 = (0, oIald 36) := rfl
theorem aX12_isTakenBack_36 : at_ kX12_isTakenBack 36 = (0, oIcNe 101 39) := rfl
theorem aX12_isTakenBack_39 : at_ kX12_isTakenBack 39 = (0, oRload 0 40) := rfl
theorem aX12_isTakenBack_40 : at_ kX12_isTakenBack 40 = (0, oIload 5 42) := rfl
theorem aX12_isTakenBack_42 : at_ kX12_isTakenBack 42 = (0, oIload 3 43) := rfl
theorem aX12_isTakenBack_43 : at_ kX12_isTakenBack 43 = (0, oIload 4 45) := rfl
theorem aX12_isTakenBack_45 : at_ kX12_isTakenBack 45 = (2, oInvV 14 mX12_isPhraseIn 3 48) := rfl
theorem aX12_isTakenBack_48 : at_ kX12_isTakenBack 48 = (0, oIfNe 54 51) := rfl
theorem aX12_isTakenBack_51 : at_ kX12_isTakenBack 51 = (0, oGoto 101) := rfl
theorem aX12_isTakenBack_54 : at_ kX12_isTakenBack 54 = (0, oPush (vI 0) 55) := rfl
theorem aX12_isTakenBack_55 : at_ kX12_isTakenBack 55 = (0, oIstore 6 57) := rfl
theorem aX12_isTakenBack_57 : at_ kX12_isTakenBack 57 = (1, oIload 6 59) := rfl
theorem aX12_isTakenBack_59 : at_ kX12_isTakenBack 59 = (0, oRload 0 60) := rfl
theorem aX12_isTakenBack_60 : at_ kX12_isTakenBack 60 = (0, oGetf 14 23 2 63) := rfl
theorem aX12_isTakenBack_63 : at_ kX12_isTakenBack 63 = (0, oIload 1 64) := rfl
theorem aX12_isTakenBack_64 : at_ kX12_isTakenBack 64 = (0, oIald 65) := rfl
theorem aX12_isTakenBack_65 : at_ kX12_isTakenBack 65 = (0, oIcGe 101 68) := rfl
theorem aX12_isTakenBack_68 : at_ kX12_isTakenBack 68 = (0, oRload 0 69) := rfl
theorem aX12_isTakenBack_69 : at_ kX12_isTakenBack 69 = (0, oIload 5 71) := rfl
theorem aX12_isTakenBack_71 : at_ kX12_isTakenBack 71 = (0, oRload 0 72) := rfl
theorem aX12_isTakenBack_72 : at_ kX12_isTakenBack 72 = (0, oGetf 14 29 2 75) := rfl
theorem aX12_isTakenBack_75 : at_ kX12_isTakenBack 75 = (0, oPush (vI 12) 77) := rfl
theorem aX12_isTakenBack_77 : at_ kX12_isTakenBack 77 = (0, oIload 1 78) := rfl
theorem aX12_isTakenBack_78 : at_ kX12_isTakenBack 78 = (0, oImul 79) := rfl
theorem aX12_isTakenBack_79 : at_ kX12_isTakenBack 79 = (0, oRload 0 80) := rfl
theorem aX12_isTakenBack_80 : at_ kX12_isTakenBack 80 = (0, oGetf 14 23 2 83) := rfl
theorem aX12_isTakenBack_83 : at_ kX12_isTakenBack 83 = (0, oIload 1 84) := rfl
theorem aX12_isTakenBack_84 : at_ kX12_isTakenBack 84 = (0, oIald 85) := rfl
theorem aX12_isTakenBack_85 : at_ kX12_isTakenBack 85 = (0, oIload 6 87) := rfl
theorem aX12_isTakenBack_87 : at_ kX12_isTakenBack 87 = (2, oInvV 14 mX12_standsAt 5 90) := rfl
theorem aX12_isTakenBack_90 : at_ kX12_isTakenBack 90 = (0, oIfEq 95 93) := rfl
theorem aX12_isTakenBack_93 : at_ kX12_isTakenBack 93 = (0, oPush (vI 1) 94) := rfl
theorem aX12_isTakenBack_94 : at_ kX12_isTakenBack 94 = (0, oRetZ) := rfl
theorem aX12_isTakenBack_95 : at_ kX12_isTakenBack 95 = (0, oIinc 6 1 98) := rfl
theorem aX12_isTakenBack_98 : at_ kX12_isTakenBack 98 = (0, oGoto 57) := rfl
theorem aX12_isTakenBack_101 : at_ kX12_isTakenBack 101 = (0, oIinc 5 1 104) := rfl
theorem aX12_isTakenBack_104 : at_ kX12_isTakenBack 104 = (0, oGoto 3) := rfl
theorem aX12_isTakenBack_107 : at_ kX12_isTakenBack 107 = (0, oPush (vI 0) 108) := rfl
theorem aX12_isTakenBack_108 : at_ kX12_isTakenBack 108 = (0, oRetZ) := rfl
def kX12_sums_0 : List En := [(0, oPush (vI 0) 1), (0, oIstore 4 3), (1, oFail), (0, oRload 0 4), (0, oPush (vI 0) 5), (0, oPutf 14 76 0 8), (1, oFail), (1, oFail), (0, oRload 0 9), (0, oPush (vL 0) 10), (0, oPutf 14 77 1 13), (1, oFail), (1, oFail), (0, oPush (vI 0) 14), (0, oIstore 5 16), (1, oFail)]
set_option maxRecDepth 20000 in
theorem zX12_sums_0 : SndL mX12_sums 0 kX12_sums_0 := SndL.c (s_iconst (by decide +kernel) (in32_d (by decide))) (SndL.c (s_istore (by decide +kernel) (by decide)) (SndL.c (s_fail) (SndL.c (s_aload_n (k := 0) (by decide +kernel) rfl) (SndL.c (s_iconst (by decide +kernel) (in32_d (by decide))) (SndL.c (s_putf (k := 76) clok13 (by decide) rfl (by decide) rfl w_5_178 (Or.inl rfl) (Or.inl rfl) (by decide +kernel)) (SndL.c (s_fail) (SndL.c (s_fail) (SndL.c (s_aload_n (k := 0) (by decide +kernel) rfl) (SndL.c (s_lconst (n := 0) (by decide +kernel) (in64_d (by decide)) (by decide +kernel)) (SndL.c (s_putf (k := 77) clok13 (by decide) rfl (by decide) rfl w_5_179 (Or.inl rfl) (Or.inl rfl) (by decide +kernel)) (SndL.c (s_fail) (SndL.c (s_fail) (SndL.c (s_iconst (by decide +kernel) (in32_d (by decide))) (SndL.c (s_istore (by decide +kernel) (by decide)) (SndL.c (s_fail) (SndL.n))))))))))))))))
def kX12_sums_1 : List En := [(1, oIload 5 18), (1, oFail), (0, oRload 0 19), (0, oGetf 14 3 0 22), (1, oFail), (1, oFail), (0, oIcGe 124 25), (1, oFail), (1, oFail), (0, oRload 0 26), (0, oGetf 14 40 2 29), (1, oFail), (1, oFail), (0, oIload 5 31), (1, oFail), (0, oIald 32)]
set_option maxRecDepth 20000 in
theorem zX12_sums_1 : SndL mX12_sums 16 kX12_sums_1 := SndL.c (s_iload (by decide +kernel)) (SndL.c (s_fail) (SndL.c (s_aload_n (k := 0) (by decide +kernel) rfl) (SndL.c (s_getf (k := 3) clok13 (by decide) rfl (by decide) rfl w_5_105 (Or.inl rfl) (by decide +kernel)) (SndL.c (s_fail) (SndL.c (s_fail) (SndL.c (s_ic_ge (off := 102) (by decide +kernel) (by decide)) (SndL.c (s_fail) (SndL.c (s_fail) (SndL.c (s_aload_n (k := 0) (by decide +kernel) rfl) (SndL.c (s_getf (k := 40) clok13 (by decide) rfl (by decide) rfl w_5_142 (Or.inl rfl) (by decide +kernel)) (SndL.c (s_fail) (SndL.c (s_fail) (SndL.c (s_iload (by decide +kernel)) (SndL.c (s_fail) (SndL.c (s_iald (by decide +kernel)) (SndL.n))))))))))))))))
def kX12_sums_2 : List En := [(0, oIload 1 33), (0, oIcNe 118 36), (1, oFail), (1, oFail), (0, oRload 0 37), (0, oGetf 14 41 2 40), (1, oFail), (1, oFail), (0, oIload 5 42), (1, oFail), (0, oIald 43), (0, oIload 2 44), (0, oIcNe 118 47), (1, oFail), (1, oFail), (0, oRload 0 48)]
set_option maxRecDepth 20000 in
theorem zX12_sums_2 : SndL mX12_sums 32 kX12_sums_2 := SndL.c (s_iload_n (k := 1) (by decide +kernel) rfl) (SndL.c (s_ic_ne (off := 85) (by decide +kernel) (by decide)) (SndL.c (s_fail) (SndL.c (s_fail) (SndL.c (s_aload_n (k := 0) (by decide +kernel) rfl) (SndL.c (s_getf (k := 41) clok13 (by decide) rfl (by decide) rfl w_5_143 (Or.inl rfl) (by decide +kernel)) (SndL.c (s_fail) (SndL.c (s_fail) (SndL.c (s_iload (by decide +kernel)) (SndL.c (s_fail) (SndL.c (s_iald (by decide +kernel)) (SndL.c (s_iload_n (k := 2) (by decide +kernel) rfl) (SndL.c (s_ic_ne (off := 74) (by decide +kernel) (by decide)) (SndL.c (s_fail) (SndL.c (s_fail) (SndL.c (s_aload_n (k := 0) (by decide +kernel) rfl) (SndL.n))))))))))))))))
def kX12_sums_3 : List En := [(0, oGetf 14 42 2 51), (1, oFail), (1, oFail), (0, oIload 5 53), (1, oFail), (0, oIald 54), (0, oIload 3 55), (0, oIcLe 61 58), (1, oFail), (1, oFail), (0, oGoto 118), (1, oFail), (1, oFail), (0, oPush (vI 1) 62), (0, oIstore 4 64), (1, oFail)]
set_option maxRecDepth 20000 in
theorem zX12_sums_3 : SndL mX12_sums 48 kX12_sums_3 := SndL.c (s_getf (k := 42) clok13 (by decide) rfl (by decide) rfl w_5_144 (Or.inl rfl) (by decide +kernel)) (SndL.c (s_fail) (SndL.c (s_fail) (SndL.c (s_iload (by decide +kernel)) (SndL.c (s_fail) (SndL.c (s_iald (by decide +kernel)) (SndL.c (s_iload_n (k := 3) (by decide +kernel) rfl) (SndL.c (s_ic_le (off := 6) (by decide +kernel) (by decide)) (SndL.c (s_fail) (SndL.c (s_fail) (SndL.c (s_goto (off := 60) (by decide +kernel) (by decide)) (SndL.c (s_fail) (SndL.c (s_fail) (SndL.c (s_iconst (by decide +kernel) (in32_d (by decide))) (SndL.c (s_istore (by decide +kernel) (by decide)) (SndL.c (s_fail) (SndL.n))))))))))))))))
def kX12_sums_4 : List En := [(0, oPush (vI 0) 65), (0, oIstore 6 67), (1, oFail), (1, oIload 6 69), (1, oFail), (0, oRload 0 70), (0, oGetf 14 43 2 73), (1, oFail), (1, oFail), (0, oIload 5 75), (1, oFail), (0, oIald 76), (0, oIcGe 118 79), (1, oFail), (1, oFail), (0, oRload 0 80)]
set_option maxRecDepth 20000 in
theorem zX12_sums_4 : SndL mX12_sums 64 kX12_sums_4 := SndL.c (s_iconst (by decide +kernel) (in32_d (by decide))) (SndL.c (s_istore (by decide +kernel) (by decide)) (SndL.c (s_fail) (SndL.c (s_iload (by decide +kernel)) (SndL.c (s_fail) (SndL.c (s_aload_n (k := 0) (by decide +kernel) rfl) (SndL.c (s_getf (k := 43) clok13 (by decide) rfl (by decide) rfl w_5_145 (Or.inl rfl) (by decide +kernel)) (SndL.c (s_fail) (SndL.c (s_fail) (SndL.c (s_iload (by decide +kernel)) (SndL.c (s_fail) (SndL.c (s_iald (by decide +kernel)) (SndL.c (s_ic_ge (off := 42) (by decide +kernel) (by decide)) (SndL.c (s_fail) (SndL.c (s_fail) (SndL.c (s_aload_n (k := 0) (by decide +kernel) rfl) (SndL.n))))))))))))))))
def kX12_sums_5 : List En := [(0, oDup 81), (0, oGetf 14 76 0 84), (1, oFail), (1, oFail), (0, oPush (vI 1) 85), (0, oIadd 86), (0, oPutf 14 76 0 89), (1, oFail), (1, oFail), (0, oRload 0 90), (0, oDup 91), (0, oGetf 14 77 1 94), (1, oFail), (1, oFail), (0, oRload 0 95), (0, oGetf 14 44 2 98)]
set_option maxRecDepth 20000 in
theorem zX12_sums_5 : SndL mX12_sums 80 kX12_sums_5 := SndL.c (s_dup (by decide +kernel)) (SndL.c (s_getf (k := 76) clok13 (by decide) rfl (by decide) rfl w_5_178 (Or.inl rfl) (by decide +kernel)) (SndL.c (s_fail) (SndL.c (s_fail) (SndL.c (s_iconst (by decide +kernel) (in32_d (by decide))) (SndL.c (s_iadd (by decide +kernel)) (SndL.c (s_putf (k := 76) clok13 (by decide) rfl (by decide) rfl w_5_178 (Or.inl rfl) (Or.inl rfl) (by decide +kernel)) (SndL.c (s_fail) (SndL.c (s_fail) (SndL.c (s_aload_n (k := 0) (by decide +kernel) rfl) (SndL.c (s_dup (by decide +kernel)) (SndL.c (s_getf (k := 77) clok13 (by decide) rfl (by decide) rfl w_5_179 (Or.inl rfl) (by decide +kernel)) (SndL.c (s_fail) (SndL.c (s_fail) (SndL.c (s_aload_n (k := 0) (by decide +kernel) rfl) (SndL.c (s_getf (k := 44) clok13 (by decide) rfl (by decide) rfl w_5_146 (Or.inl rfl) (by decide +kernel)) (SndL.n))))))))))))))))
def kX12_sums_6 : List En := [(1, oFail), (1, oFail), (0, oPush (vI 60) 100), (1, oFail), (0, oIload 5 102), (1, oFail), (0, oImul 103), (0, oIload 6 105), (1, oFail), (0, oIadd 106), (0, oIald 107), (0, oI2l 108), (0, oLadd 109), (0, oPutf 14 77 1 112), (1, oFail), (1, oFail)]
set_option maxRecDepth 20000 in
theorem zX12_sums_6 : SndL mX12_sums 96 kX12_sums_6 := SndL.c (s_fail) (SndL.c (s_fail) (SndL.c (s_bipush (by decide +kernel) (in32_d (by decide)) (by decide +kernel)) (SndL.c (s_fail) (SndL.c (s_iload (by decide +kernel)) (SndL.c (s_fail) (SndL.c (s_imul (by decide +kernel)) (SndL.c (s_iload (by decide +kernel)) (SndL.c (s_fail) (SndL.c (s_iadd (by decide +kernel)) (SndL.c (s_iald (by decide +kernel)) (SndL.c (s_i2l (by decide +kernel)) (SndL.c (s_ladd (by decide +kernel)) (SndL.c (s_putf (k := 77) clok13 (by decide) rfl (by decide) rfl w_5_179 (Or.inl rfl) (Or.inl rfl) (by decide +kernel)) (SndL.c (s_fail) (SndL.c (s_fail) (SndL.n))))))))))))))))
def kX12_sums_7 : List En := [(0, oIinc 6 1 115), (1, oFail), (1, oFail), (0, oGoto 67), (1, oFail), (1, oFail), (0, oIinc 5 1 121), (1, oFail), (1, oFail), (0, oGoto 16), (1, oFail), (1, oFail), (0, oIload 4 126), (1, oFail), (0, oRetZ)]
set_option maxRecDepth 20000 in
theorem zX12_sums_7 : SndL mX12_sums 112 kX12_sums_7 := SndL.c (s_iinc (by decide +kernel) (by decide)) (SndL.c (s_fail) (SndL.c (s_fail) (SndL.c (s_goto (off := -48) (by decide +kernel) (by decide)) (SndL.c (s_fail) (SndL.c (s_fail) (SndL.c (s_iinc (by decide +kernel) (by decide)) (SndL.c (s_fail) (SndL.c (s_fail) (SndL.c (s_goto (off := -105) (by decide +kernel) (by decide)) (SndL.c (s_fail) (SndL.c (s_fail) (SndL.c (s_iload (by decide +kernel)) (SndL.c (s_fail) (SndL.c (s_ret_z rfl (by decide +kernel)) (SndL.n)))))))))))))))
def kX12_sums : Cd := [kX12_sums_0, kX12_sums_1, kX12_sums_2, kX12_sums_3, kX12_sums_4, kX12_sums_5, kX12_sums_6, kX12_sums_7]
theorem zX12_sums : SndC mX12_sums 0 kX12_sums := SndC.c zX12_sums_0 (by decide) (SndC.c zX12_sums_1 (by decide) (SndC.c zX12_sums_2 (by decide) (SndC.c zX12_sums_3 (by decide) (SndC.c zX12_sums_4 (by decide) (SndC.c zX12_sums_5 (by decide) (SndC.c zX12_sums_6 (by decide) (SndC.c zX12_sums_7 (by decide) (SndC.n))))))))
theorem aX12_sums_0 : at_ kX12_sums 0 = (0, oPush (vI 0) 1) := rfl
theorem aX12_sums_1 : at_ kX12_sums 1 = (0, oIstore 4 3) := rfl
theorem aX12_sums_3 : at_ kX12_sums 3 = (0, oRload 0 4) := rfl
theorem aX12_sums_4 : at_ kX12_sums 4 = (0, oPush (vI 0) 5) := rfl
theorem aX12_sums_5 : at_ kX12_sums 5 = (0, oPutf 14 76 0 8) := rfl
theorem aX12_sums_8 : at_ kX12_sums 8 = (0, oRload 0 9) := rfl
theorem aX12_sums_9 : at_ kX12_sums 9 = (0, oPush (vL 0) 10) := rfl
theorem aX12_sums_10 : at_ kX12_sums 10 = (0, oPutf 14 77 1 13) := rfl
theorem aX12_sums_13 : at_ kX12_sums 13 = (0, oPush (vI 0) 14) := rfl
theorem aX12_sums_14 : at_ kX12_sums 14 = (0, oIstore 5 16) := rfl
theorem aX12_sums_16 : at_ kX12_sums 16 = (1, oIload 5 18) := rfl
theorem aX12_sums_18 : at_ kX12_sums 18 = (0, oRload 0 19) := rfl
theorem aX12_sums_19 : at_ kX12_sums 19 = (0, oGetf 14 3 0 22) := rfl
theorem aX12_sums_22 : at_ kX12_sums 22 = (0, oIcGe 124 25) := rfl
theorem aX12_sums_25 : at_ kX12_sums 25 = (0, oRload 0 26) := rfl
theorem aX12_sums_26 : at_ kX12_sums 26 = (0, oGetf 14 40 2 29) := rfl
theorem aX12_sums_29 : at_ kX12_sums 29 = (0, oIload 5 31) := rfl
theorem aX12_sums_31 : at_ kX12_sums 31 = (0, oIald 32) := rfl
theorem aX12_sums_32 : at_ kX12_sums 32 = (0, oIload 1 33) := rfl
theorem aX12_sums_33 : at_ kX12_sums 33 = (0, oIcNe 118 36) := rfl
theorem aX12_sums_36 : at_ kX12_sums 36 = (0, oRload 0 37) := rfl
theorem aX12_sums_37 : at_ kX12_sums 37 = (0, oGetf 14 41 2 40) := rfl
theorem aX12_sums_40 : at_ kX12_sums 40 = (0, oIload 5 42) := rfl
theorem aX12_sums_42 : at_ kX12_sums 42 = (0, oIald 43) := rfl
theorem aX12_sums_43 : at_ kX12_sums 43 = (0, oIload 2 44) := rfl
theorem aX12_sums_44 : at_ kX12_sums 44 = (0, oIcNe 118 47) := rfl
theorem aX12_sums_47 : at_ kX12_sums 47 = (0, oRload 0 48) := rfl
theorem aX12_sums_48 : at_ kX12_sums 48 = (0, oGetf 14 42 2 51) := rfl
theorem aX12_sums_51 : at_ kX12_sums 51 = (0, oIload 5 53) := rfl
theorem aX12_sums_53 : at_ kX12_sums 53 = (0, oIald 54) := rfl
theorem aX12_sums_54 : at_ kX12_sums 54 = (0, oIload 3 55) := rfl
theorem aX12_sums_55 : at_ kX12_sums 55 = (0, oIcLe 61 58) := rfl
theorem aX12_sums_58 : at_ kX12_sums 58 = (0, oGoto 118) := rfl
theorem aX12_sums_61 : at_ kX12_sums 61 = (0, oPush (vI 1) 62) := rfl
theorem aX12_sums_62 : at_ kX12_sums 62 = (0, oIstore 4 64) := rfl
theorem aX12_sums_64 : at_ kX12_sums 64 = (0, oPush (vI 0) 65) := rfl
theorem aX12_sums_65 : at_ kX12_sums 65 = (0, oIstore 6 67) := rfl
theorem aX12_sums_67 : at_ kX12_sums 67 = (1, oIload 6 69) := rfl
theorem aX12_sums_69 : at_ kX12_sums 69 = (0, oRload 0 70) := rfl
theorem aX12_sums_70 : at_ kX12_sums 70 = (0, oGetf 14 43 2 73) := rfl
theorem aX12_sums_73 : at_ kX12_sums 73 = (0, oIload 5 75) := rfl
theorem aX12_sums_75 : at_ kX12_sums 75 = (0, oIald 76) := rfl
theorem aX12_sums_76 : at_ kX12_sums 76 = (0, oIcGe 118 79) := rfl
theorem aX12_sums_79 : at_ kX12_sums 79 = (0, oRload 0 80) := rfl
theorem aX12_sums_80 : at_ kX12_sums 80 = (0, oDup 81) := rfl
theorem aX12_sums_81 : at_ kX12_sums 81 = (0, oGetf 14 76 0 84) := rfl
theorem aX12_sums_84 : at_ kX12_sums 84 = (0, oPush (vI 1) 85) := rfl
theorem aX12_sums_85 : at_ kX12_sums 85 = (0, oIadd 86) := rfl
theorem aX12_sums_86 : at_ kX12_sums 86 = (0, oPutf 14 76 0 89) := rfl
theorem aX12_sums_89 : at_ kX12_sums 89 = (0, oRload 0 90) := rfl
theorem aX12_sums_90 : at_ kX12_sums 90 = (0, oDup 91) := rfl
theorem aX12_sums_91 : at_ kX12_sums 91 = (0, oGetf 14 77 1 94) := rfl
theorem aX12_sums_94 : at_ kX12_sums 94 = (0, oRload 0 95) := rfl
theorem aX12_sums_95 : at_ kX12_sums 95 = (0, oGetf 14 44 2 98) := rfl
theorem aX12_sums_98 : at_ kX12_sums 98 = (0, oPush (vI 60) 100) := rfl
theorem aX12_sums_100 : at_ kX12_sums 100 = (0, oIload 5 102) := rfl
theorem aX12_sums_102 : at_ kX12_sums 102 = (0, oImul 103) := rfl
theorem aX12_sums_103 : at_ kX12_sums 103 = (0, oIload 6 105) := rfl
theorem aX12_sums_105 : at_ kX12_sums 105 = (0, oIadd 106) := rfl
theorem aX12_sums_106 : at_ kX12_sums 106 = (0, oIald 107) := rfl
theorem aX12_sums_107 : at_ kX12_sums 107 = (0, oI2l 108) := rfl
theorem aX12_sums_108 : at_ kX12_sums 108 = (0, oLadd 109) := rfl
theorem aX12_sums_109 : at_ kX12_sums 109 = (0, oPutf 14 77 1 112) := rfl
theorem aX12_sums_112 : at_ kX12_sums 112 = (0, oIinc 6 1 115) := rfl
theorem aX12_sums_115 : at_ kX12_sums 115 = (0, oGoto 67) := rfl
theorem aX12_sums_118 : at_ kX12_sums 118 = (0, oIinc 5 1 121) := rfl
theorem aX12_sums_121 : at_ kX12_sums 121 = (0, oGoto 16) := rfl
theorem aX12_sums_124 : at_ kX12_sums 124 = (0, oIload 4 126) := rfl
theorem aX12_sums_126 : at_ kX12_sums 126 = (0, oRetZ) := rfl
def kX12_noLess_0 : List En := [(0, oPush (vI 0) 1), (0, oIstore 5 3), (1, oFail), (0, oPush (vI 0) 4), (0, oIstore 6 6), (1, oFail), (1, oIload 6 8), (1, oFail), (0, oRload 0 9), (0, oGetf 14 3 0 12), (1, oFail), (1, oFail), (0, oIcGe 99 15), (1, oFail), (1, oFail), (0, oRload 0 16)]
set_option maxRecDepth 20000 in
theorem zX12_noLess_0 : SndL mX12_noLess 0 kX12_noLess_0 := SndL.c (s_iconst (by decide +kernel) (in32_d (by decide))) (SndL.c (s_istore (by decide +kernel) (by decide)) (SndL.c (s_fail) (SndL.c (s_iconst (by decide +kernel) (in32_d (by decide))) (SndL.c (s_istore (by decide +kernel) (by decide)) (SndL.c (s_fail) (SndL.c (s_iload (by decide +kernel)) (SndL.c (s_fail) (SndL.c (s_aload_n (k := 0) (by decide +kernel) rfl) (SndL.c (s_getf (k := 3) clok13 (by decide) rfl (by decide) rfl w_5_105 (Or.inl rfl) (by decide +kernel)) (SndL.c (s_fail) (SndL.c (s_fail) (SndL.c (s_ic_ge (off := 87) (by decide +kernel) (by decide)) (SndL.c (s_fail) (SndL.c (s_fail) (SndL.c (s_aload_n (k := 0) (by decide +kernel) rfl) (SndL.n))))))))))))))))
def kX12_noLess_1 : List En := [(0, oGetf 14 40 2 19), (1, oFail), (1, oFail), (0, oIload 6 21), (1, oFail), (0, oIald 22), (0, oIload 1 23), (0, oIcNe 93 26), (1, oFail), (1, oFail), (0, oRload 0 27), (0, oGetf 14 41 2 30), (1, oFail), (1, oFail), (0, oIload 6 32), (1, oFail)]
set_option maxRecDepth 20000 in
theorem zX12_noLess_1 : SndL mX12_noLess 16 kX12_noLess_1 := SndL.c (s_getf (k := 40) clok13 (by decide) rfl (by decide) rfl w_5_142 (Or.inl rfl) (by decide +kernel)) (SndL.c (s_fail) (SndL.c (s_fail) (SndL.c (s_iload (by decide +kernel)) (SndL.c (s_fail) (SndL.c (s_iald (by decide +kernel)) (SndL.c (s_iload_n (k := 1) (by decide +kernel) rfl) (SndL.c (s_ic_ne (off := 70) (by decide +kernel) (by decide)) (SndL.c (s_fail) (SndL.c (s_fail) (SndL.c (s_aload_n (k := 0) (by decide +kernel) rfl) (SndL.c (s_getf (k := 41) clok13 (by decide) rfl (by decide) rfl w_5_143 (Or.inl rfl) (by decide +kernel)) (SndL.c (s_fail) (SndL.c (s_fail) (SndL.c (s_iload (by decide +kernel)) (SndL.c (s_fail) (SndL.n))))))))))))))))
def kX12_noLess_2 : List En := [(0, oIald 33), (0, oIload 2 34), (0, oIcNe 93 37), (1, oFail), (1, oFail), (0, oRload 0 38), (0, oGetf 14 42 2 41), (1, oFail), (1, oFail), (0, oIload 6 43), (1, oFail), (0, oIald 44), (0, oIload 3 45), (0, oIcLe 51 48), (1, oFail), (1, oFail)]
set_option maxRecDepth 20000 in
theorem zX12_noLess_2 : SndL mX12_noLess 32 kX12_noLess_2 := SndL.c (s_iald (by decide +kernel)) (SndL.c (s_iload_n (k := 2) (by decide +kernel) rfl) (SndL.c (s_ic_ne (off := 59) (by decide +kernel) (by decide)) (SndL.c (s_fail) (SndL.c (s_fail) (SndL.c (s_aload_n (k := 0) (by decide +kernel) rfl) (SndL.c (s_getf (k := 42) clok13 (by decide) rfl (by decide) rfl w_5_144 (Or.inl rfl) (by decide +kernel)) (SndL.c (s_fail) (SndL.c (s_fail) (SndL.c (s_iload (by decide +kernel)) (SndL.c (s_fail) (SndL.c (s_iald (by decide +kernel)) (SndL.c (s_iload_n (k := 3) (by decide +kernel) rfl) (SndL.c (s_ic_le (off := 6) (by decide +kernel) (by decide)) (SndL.c (s_fail) (SndL.c (s_fail) (SndL.n))))))))))))))))
def kX12_noLess_3 : List En := [(0, oGoto 93), (1, oFail), (1, oFail), (0, oPush (vI 0) 52), (0, oIstore 7 54), (1, oFail), (1, oIload 7 56), (1, oFail), (0, oRload 0 57), (0, oGetf 14 43 2 60), (1, oFail), (1, oFail), (0, oIload 6 62), (1, oFail), (0, oIald 63), (0, oIcGe 93 66)]
set_option maxRecDepth 20000 in
theorem zX12_noLess_3 : SndL mX12_noLess 48 kX12_noLess_3 := SndL.c (s_goto (off := 45) (by decide +kernel) (by decide)) (SndL.c (s_fail) (SndL.c (s_fail) (SndL.c (s_iconst (by decide +kernel) (in32_d (by decide))) (SndL.c (s_istore (by decide +kernel) (by decide)) (SndL.c (s_fail) (SndL.c (s_iload (by decide +kernel)) (SndL.c (s_fail) (SndL.c (s_aload_n (k := 0) (by decide +kernel) rfl) (SndL.c (s_getf (k := 43) clok13 (by decide) rfl (by decide) rfl w_5_145 (Or.inl rfl) (by decide +kernel)) (SndL.c (s_fail) (SndL.c (s_fail) (SndL.c (s_iload (by decide +kernel)) (SndL.c (s_fail) (SndL.c (s_iald (by decide +kernel)) (SndL.c (s_ic_ge (off := 30) (by decide +kernel) (by decide)) (SndL.n))))))))))))))))
def kX12_noLess_4 : List En := [(1, oFail), (1, oFail), (0, oRload 0 67), (0, oGetf 14 44 2 70), (1, oFail), (1, oFail), (0, oPush (vI 60) 72), (1, oFail), (0, oIload 6 74), (1, oFail), (0, oImul 75), (0, oIload 7 77), (1, oFail), (0, oIadd 78), (0, oIald 79), (0, oIload 4 81)]
set_option maxRecDepth 20000 in
theorem zX12_noLess_4 : SndL mX12_noLess 64 kX12_noLess_4 := SndL.c (s_fail) (SndL.c (s_fail) (SndL.c (s_aload_n (k := 0) (by decide +kernel) rfl) (SndL.c (s_getf (k := 44) clok13 (by decide) rfl (by decide) rfl w_5_146 (Or.inl rfl) (by decide +kernel)) (SndL.c (s_fail) (SndL.c (s_fail) (SndL.c (s_bipush (by decide +kernel) (in32_d (by decide)) (by decide +kernel)) (SndL.c (s_fail) (SndL.c (s_iload (by decide +kernel)) (SndL.c (s_fail) (SndL.c (s_imul (by decide +kernel)) (SndL.c (s_iload (by decide +kernel)) (SndL.c (s_fail) (SndL.c (s_iadd (by decide +kernel)) (SndL.c (s_iald (by decide +kernel)) (SndL.c (s_iload (by decide +kernel)) (SndL.n))))))))))))))))
def kX12_noLess_5 : List En := [(1, oFail), (0, oIcLt 87 84), (1, oFail), (1, oFail), (0, oIinc 5 1 87), (1, oFail), (1, oFail), (0, oIinc 7 1 90), (1, oFail), (1, oFail), (0, oGoto 54), (1, oFail), (1, oFail), (0, oIinc 6 1 96), (1, oFail), (1, oFail)]
set_option maxRecDepth 20000 in
theorem zX12_noLess_5 : SndL mX12_noLess 80 kX12_noLess_5 := SndL.c (s_fail) (SndL.c (s_ic_lt (off := 6) (by decide +kernel) (by decide)) (SndL.c (s_fail) (SndL.c (s_fail) (SndL.c (s_iinc (by decide +kernel) (by decide)) (SndL.c (s_fail) (SndL.c (s_fail) (SndL.c (s_iinc (by decide +kernel) (by decide)) (SndL.c (s_fail) (SndL.c (s_fail) (SndL.c (s_goto (off := -36) (by decide +kernel) (by decide)) (SndL.c (s_fail) (SndL.c (s_fail) (SndL.c (s_iinc (by decide +kernel) (by decide)) (SndL.c (s_fail) (SndL.c (s_fail) (SndL.n))))))))))))))))
def kX12_noLess_6 : List En := [(0, oGoto 6), (1, oFail), (1, oFail), (0, oIload 5 101), (1, oFail), (0, oRetI)]
set_option maxRecDepth 20000 in
theorem zX12_noLess_6 : SndL mX12_noLess 96 kX12_noLess_6 := SndL.c (s_goto (off := -90) (by decide +kernel) (by decide)) (SndL.c (s_fail) (SndL.c (s_fail) (SndL.c (s_iload (by decide +kernel)) (SndL.c (s_fail) (SndL.c (s_ret_i rfl (by decide +kernel)) (SndL.n))))))
def kX12_noLess : Cd := [kX12_noLess_0, kX12_noLess_1, kX12_noLess_2, kX12_noLess_3, kX12_noLess_4, kX12_noLess_5, kX12_noLess_6]
theorem zX12_noLess : SndC mX12_noLess 0 kX12_noLess := SndC.c zX12_noLess_0 (by decide) (SndC.c zX12_noLess_1 (by decide) (SndC.c zX12_noLess_2 (by decide) (SndC.c zX12_noLess_3 (by decide) (SndC.c zX12_noLess_4 (by decide) (SndC.c zX12_noLess_5 (by decide) (SndC.c zX12_noLess_6 (by decide) (SndC.n)))))))
theorem aX12_noLess_0 : at_ kX12_noLess 0 = (0, oPush (vI 0) 1) := rfl
theorem aX12_noLess_1 : at_ kX12_noLess 1 = (0, oIstore 5 3) := rfl
theorem aX12_noLess_3 : at_ kX12_noLess 3 = (0, oPush (vI 0) 4) := rfl
theorem aX12_noLess_4 : at_ kX12_noLess 4 = (0, oIstore 6 6) := rfl
theorem aX12_noLess_6 : at_ kX12_noLess 6 = (1, oIload 6 8) := rfl
theorem aX12_noLess_8 : at_ kX12_noLess 8 = (0, oRload 0 9) := rfl
theorem aX12_noLess_9 : at_ kX12_noLess 9 = (0, oGetf 14 3 0 12) := rfl
theorem aX12_noLess_12 : at_ kX12_noLess 12 = (0, oIcGe 99 15) := rfl
theorem aX12_noLess_15 : at_ kX12_noLess 15 = (0, oRload 0 16) := rfl
theorem aX12_noLess_16 : at_ kX12_noLess 16 = (0, oGetf 14 40 2 19) := rfl
theorem aX12_noLess_19 : at_ kX12_noLess 19 = (0, oIload 6 21) := rfl
theorem aX12_noLess_21 : at_ kX12_noLess 21 = (0, oIald 22) := rfl
theorem aX12_noLess_22 : at_ kX12_noLess 22 = (0, oIload 1 23) := rfl
theorem aX12_noLess_23 : at_ kX12_noLess 23 = (0, oIcNe 93 26) := rfl
theorem aX12_noLess_26 : at_ kX12_noLess 26 = (0, oRload 0 27) := rfl
theorem aX12_noLess_27 : at_ kX12_noLess 27 = (0, oGetf 14 41 2 30) := rfl
theorem aX12_noLess_30 : at_ kX12_noLess 30 = (0, oIload 6 32) := rfl
theorem aX12_noLess_32 : at_ kX12_noLess 32 = (0, oIald 33) := rfl
theorem aX12_noLess_33 : at_ kX12_noLess 33 = (0, oIload 2 34) := rfl
theorem aX12_noLess_34 : at_ kX12_noLess 34 = (0, oIcNe 93 37) := rfl
theorem aX12_noLess_37 : at_ kX12_noLess 37 = (0, oRload 0 38) := rfl
theorem aX12_noLess_38 : at_ kX12_noLess 38 = (0, oGetf 14 42 2 41) := rfl
theorem aX12_noLess_41 : at_ kX12_noLess 41 = (0, oIload 6 43) := rfl
theorem aX12_noLess_43 : at_ kX12_noLess 43 = (0, oIald 44) := rfl
theorem aX12_noLess_44 : at_ kX12_noLess 44 = (0, oIload 3 45) := rfl
theorem aX12_noLess_45 : at_ kX12_noLess 45 = (0, oIcLe 51 48) := rfl
theorem aX12_noLess_48 : at_ kX12_noLess 48 = (0, oGoto 93) := rfl
theorem aX12_noLess_51 : at_ kX12_noLess 51 = (0, oPush (vI 0) 52) := rfl
theorem aX12_noLess_52 : at_ kX12_noLess 52 = (0, oIstore 7 54) := rfl
theorem aX12_noLess_54 : at_ kX12_noLess 54 = (1, oIload 7 56) := rfl
theorem aX12_noLess_56 : at_ kX12_noLess 56 = (0, oRload 0 57) := rfl
theorem aX12_noLess_57 : at_ kX12_noLess 57 = (0, oGetf 14 43 2 60) := rfl
theorem aX12_noLess_60 : at_ kX12_noLess 60 = (0, oIload 6 62) := rfl
theorem aX12_noLess_62 : at_ kX12_noLess 62 = (0, oIald 63) := rfl
theorem aX12_noLess_63 : at_ kX12_noLess 63 = (0, oIcGe 93 66) := rfl
theorem aX12_noLess_66 : at_ kX12_noLess 66 = (0, oRload 0 67) := rfl
theorem aX12_noLess_67 : at_ kX12_noLess 67 = (0, oGetf 14 44 2 70) := rfl
theorem aX12_noLess_70 : at_ kX12_noLess 70 = (0, oPush (vI 60) 72) := rfl
theorem aX12_noLess_72 : at_ kX12_noLess 72 = (0, oIload 6 74) := rfl
theorem aX12_noLess_74 : at_ kX12_noLess 74 = (0, oImul 75) := rfl
theorem aX12_noLess_75 : at_ kX12_noLess 75 = (0, oIload 7 77) := rfl
theorem aX12_noLess_77 : at_ kX12_noLess 77 = (0, oIadd 78) := rfl
theorem aX12_noLess_78 : at_ kX12_noLess 78 = (0, oIald 79) := rfl
theorem aX12_noLess_79 : at_ kX12_noLess 79 = (0, oIload 4 81) := rfl
theorem aX12_noLess_81 : at_ kX12_noLess 81 = (0, oIcLt 87 84) := rfl
theorem aX12_noLess_84 : at_ kX12_noLess 84 = (0, oIinc 5 1 87) := rfl
theorem aX12_noLess_87 : at_ kX12_noLess 87 = (0, oIinc 7 1 90) := rfl
theorem aX12_noLess_90 : at_ kX12_noLess 90 = (0, oGoto 54) := rfl
theorem aX12_noLess_93 : at_ kX12_noLess 93 = (0, oIinc 6 1 96) := rfl
theorem aX12_noLess_96 : at_ kX12_noLess 96 = (0, oGoto 6) := rfl
theorem aX12_noLess_99 : at_ kX12_noLess 99 = (0, oIload 5 101) := rfl
theorem aX12_noLess_101 : at_ kX12_noLess 101 = (0, oRetI) := rfl
def kX12_isBorneOut_0 : List En := [(0, oRload 0 1), (0, oGetf 14 20 2 4), (1, oFail), (1, oFail), (0, oIload 1 5), (0, oIald 6), (0, oIstore 4 8), (1, oFail), (0, oRload 0 9), (0, oIload 4 11), (1, oFail), (0, oRload 0 12), (0, oGetf 14 35 2 15), (1, oFail), (1, oFail), (0, oIload 2 16)]
set_option maxRecDepth 20000 in
theorem zX12_isBorneOut_0 : SndL mX12_isBorneOut 0 kX12_isBorneOut_0 := SndL.c (s_aload_n (k := 0) (by decide +kernel) rfl) (SndL.c (s_getf (k := 20) clok13 (by decide) rfl (by decide) rfl w_5_122 (Or.inl rfl) (by decide +kernel)) (SndL.c (s_fail) (SndL.c (s_fail) (SndL.c (s_iload_n (k := 1) (by decide +kernel) rfl) (SndL.c (s_iald (by decide +kernel)) (SndL.c (s_istore (by decide +kernel) (by decide)) (SndL.c (s_fail) (SndL.c (s_aload_n (k := 0) (by decide +kernel) rfl) (SndL.c (s_iload (by decide +kernel)) (SndL.c (s_fail) (SndL.c (s_aload_n (k := 0) (by decide +kernel) rfl) (SndL.c (s_getf (k := 35) clok13 (by decide) rfl (by decide) rfl w_5_137 (Or.inl rfl) (by decide +kernel)) (SndL.c (s_fail) (SndL.c (s_fail) (SndL.c (s_iload_n (k := 2) (by decide +kernel) rfl) (SndL.n))))))))))))))))
def kX12_isBorneOut_1 : List En := [(0, oIald 17), (0, oIload 3 18), (2, oInvV 14 mX12_sums 3 21), (1, oFail), (1, oFail), (0, oIstore 5 23), (1, oFail), (0, oRload 0 24), (0, oGetf 14 34 2 27), (1, oFail), (1, oFail), (0, oIload 2 28), (0, oIald 29), (0, oSwitch 0 5 [68, 71, 165, 236, 236, 118] 236), (1, oFail), (1, oFail)]
set_option maxRecDepth 20000 in
theorem zX12_isBorneOut_1 : SndL mX12_isBorneOut 16 kX12_isBorneOut_1 := SndL.c (s_iald (by decide +kernel)) (SndL.c (s_iload_n (k := 3) (by decide +kernel) rfl) (SndL.c (s_invV (r := (RX12, TX12, 90)) (ci := 13) okX12_sums rfl (by decide) rfl rfl w_7_11 w_7_13 v_41 (by decide +kernel)) (SndL.c (s_fail) (SndL.c (s_fail) (SndL.c (s_istore (by decide +kernel) (by decide)) (SndL.c (s_fail) (SndL.c (s_aload_n (k := 0) (by decide +kernel) rfl) (SndL.c (s_getf (k := 34) clok13 (by decide) rfl (by decide) rfl w_5_136 (Or.inl rfl) (by decide +kernel)) (SndL.c (s_fail) (SndL.c (s_fail) (SndL.c (s_iload_n (k := 2) (by decide +kernel) rfl) (SndL.c (s_iald (by decide +kernel)) (SndL.c (s_switch2 (dflt := 207) (lo := 0) (hi := 5) (len := 39) (offs := #[39, 42, 136, 207, 207, 89]) (by decide +kernel) (by decide) (by decide +kernel) (by decide +kernel)) (SndL.c (s_fail) (SndL.c (s_fail) (SndL.n))))))))))))))))
def kX12_isBorneOut_2 : List En := [(1, oFail), (1, oFail), (1, oFail), (1, oFail), (1, oFail), (1, oFail), (1, oFail), (1, oFail), (1, oFail), (1, oFail), (1, oFail), (1, oFail), (1, oFail), (1, oFail), (1, oFail), (1, oFail)]
set_option maxRecDepth 20000 in
theorem zX12_isBorneOut_2 : SndL mX12_isBorneOut 32 kX12_isBorneOut_2 := SndL.c (s_fail) (SndL.c (s_fail) (SndL.c (s_fail) (SndL.c (s_fail) (SndL.c (s_fail) (SndL.c (s_fail) (SndL.c (s_fail) (SndL.c (s_fail) (SndL.c (s_fail) (SndL.c (s_fail) (SndL.c (s_fail) (SndL.c (s_fail) (SndL.c (s_fail) (SndL.c (s_fail) (SndL.c (s_fail) (SndL.c (s_fail) (SndL.n))))))))))))))))
def kX12_isBorneOut_3 : List En := [(1, oFail), (1, oFail), (1, oFail), (1, oFail), (1, oFail), (1, oFail), (1, oFail), (1, oFail), (1, oFail), (1, oFail), (1, oFail), (1, oFail), (1, oFail), (1, oFail), (1, oFail), (1, oFail)]
set_option maxRecDepth 20000 in
theorem zX12_isBorneOut_3 : SndL mX12_isBorneOut 48 kX12_isBorneOut_3 := SndL.c (s_fail) (SndL.c (s_fail) (SndL.c (s_fail) (SndL.c (s_fail) (SndL.c (s_fail) (SndL.c (s_fail) (SndL.c (s_fail) (SndL.c (s_fail) (SndL.c (s_fail) (SndL.c (s_fail) (SndL.c (s_fail) (SndL.c (s_fail) (SndL.c (s_fail) (SndL.c (s_fail) (SndL.c (s_fail) (SndL.c (s_fail) (SndL.n))))))))))))))))
def kX12_isBorneOut_4 : List En := [(1, oFail), (1, oFail), (1, oFail), (1, oFail), (0, oIload 5 70), (1, oFail), (0, oRetZ), (0, oRload 0 72), (0, oGetf 14 76 0 75), (1, oFail), (1, oFail), (0, oIfLe 116 78), (1, oFail), (1, oFail), (0, oPush (vI 100) 80), (1, oFail)]
set_option maxRecDepth 20000 in
theorem zX12_isBorneOut_4 : SndL mX12_isBorneOut 64 kX12_isBorneOut_4 := SndL.c (s_fail) (SndL.c (s_fail) (SndL.c (s_fail) (SndL.c (s_fail) (SndL.c (s_iload (by decide +kernel)) (SndL.c (s_fail) (SndL.c (s_ret_z rfl (by decide +kernel)) (SndL.c (s_aload_n (k := 0) (by decide +kernel) rfl) (SndL.c (s_getf (k := 76) clok13 (by decide) rfl (by decide) rfl w_5_178 (Or.inl rfl) (by decide +kernel)) (SndL.c (s_fail) (SndL.c (s_fail) (SndL.c (s_if_le (off := 41) (by decide +kernel) (by decide)) (SndL.c (s_fail) (SndL.c (s_fail) (SndL.c (s_bipush (by decide +kernel) (in32_d (by decide)) (by decide +kernel)) (SndL.c (s_fail) (SndL.n))))))))))))))))
def kX12_isBorneOut_5 : List En := [(0, oRload 0 81), (0, oIload 4 83), (1, oFail), (0, oRload 0 84), (0, oGetf 14 35 2 87), (1, oFail), (1, oFail), (0, oIload 2 88), (0, oIald 89), (0, oIload 3 90), (0, oRload 0 91), (0, oGetf 14 36 2 94), (1, oFail), (1, oFail), (0, oIload 2 95), (0, oIald 96)]
set_option maxRecDepth 20000 in
theorem zX12_isBorneOut_5 : SndL mX12_isBorneOut 80 kX12_isBorneOut_5 := SndL.c (s_aload_n (k := 0) (by decide +kernel) rfl) (SndL.c (s_iload (by decide +kernel)) (SndL.c (s_fail) (SndL.c (s_aload_n (k := 0) (by decide +kernel) rfl) (SndL.c (s_getf (k := 35) clok13 (by decide) rfl (by decide) rfl w_5_137 (Or.inl rfl) (by decide +kernel)) (SndL.c (s_fail) (SndL.c (s_fail) (SndL.c (s_iload_n (k := 2) (by decide +kernel) rfl) (SndL.c (s_iald (by decide +kernel)) (SndL.c (s_iload_n (k := 3) (by decide +kernel) rfl) (SndL.c (s_aload_n (k := 0) (by decide +kernel) rfl) (SndL.c (s_getf (k := 36) clok13 (by decide) rfl (by decide) rfl w_5_138 (Or.inl rfl) (by decide +kernel)) (SndL.c (s_fail) (SndL.c (s_fail) (SndL.c (s_iload_n (k := 2) (by decide +kernel) rfl) (SndL.c (s_iald (by decide +kernel)) (SndL.n))))))))))))))))
def kX12_isBorneOut_6 : List En := [(2, oInvV 14 mX12_noLess 4 99), (1, oFail), (1, oFail), (0, oImul 100), (0, oRload 0 101), (0, oGetf 14 7 0 104), (1, oFail), (1, oFail), (0, oRload 0 105), (0, oGetf 14 76 0 108), (1, oFail), (1, oFail), (0, oImul 109), (0, oIcLt 116 112), (1, oFail), (1, oFail)]
set_option maxRecDepth 20000 in
theorem zX12_isBorneOut_6 : SndL mX12_isBorneOut 96 kX12_isBorneOut_6 := SndL.c (s_invV (r := (RX12, TX12, 90)) (ci := 13) okX12_noLess rfl (by decide) rfl rfl w_7_15 w_7_17 v_42 (by decide +kernel)) (SndL.c (s_fail) (SndL.c (s_fail) (SndL.c (s_imul (by decide +kernel)) (SndL.c (s_aload_n (k := 0) (by decide +kernel) rfl) (SndL.c (s_getf (k := 7) clok13 (by decide) rfl (by decide) rfl w_5_109 (Or.inl rfl) (by decide +kernel)) (SndL.c (s_fail) (SndL.c (s_fail) (SndL.c (s_aload_n (k := 0) (by decide +kernel) rfl) (SndL.c (s_getf (k := 76) clok13 (by decide) rfl (by decide) rfl w_5_178 (Or.inl rfl) (by decide +kernel)) (SndL.c (s_fail) (SndL.c (s_fail) (SndL.c (s_imul (by decide +kernel)) (SndL.c (s_ic_lt (off := 7) (by decide +kernel) (by decide)) (SndL.c (s_fail) (SndL.c (s_fail) (SndL.n))))))))))))))))
def kX12_isBorneOut_7 : List En := [(0, oPush (vI 1) 113), (0, oGoto 117), (1, oFail), (1, oFail), (0, oPush (vI 0) 117), (0, oRetZ), (0, oRload 0 119), (0, oGetf 14 76 0 122), (1, oFail), (1, oFail), (0, oIfLe 163 125), (1, oFail), (1, oFail), (0, oPush (vI 100) 127), (1, oFail), (0, oRload 0 128)]
set_option maxRecDepth 20000 in
theorem zX12_isBorneOut_7 : SndL mX12_isBorneOut 112 kX12_isBorneOut_7 := SndL.c (s_iconst (by decide +kernel) (in32_d (by decide))) (SndL.c (s_goto (off := 4) (by decide +kernel) (by decide)) (SndL.c (s_fail) (SndL.c (s_fail) (SndL.c (s_iconst (by decide +kernel) (in32_d (by decide))) (SndL.c (s_ret_z rfl (by decide +kernel)) (SndL.c (s_aload_n (k := 0) (by decide +kernel) rfl) (SndL.c (s_getf (k := 76) clok13 (by decide) rfl (by decide) rfl w_5_178 (Or.inl rfl) (by decide +kernel)) (SndL.c (s_fail) (SndL.c (s_fail) (SndL.c (s_if_le (off := 41) (by decide +kernel) (by decide)) (SndL.c (s_fail) (SndL.c (s_fail) (SndL.c (s_bipush (by decide +kernel) (in32_d (by decide)) (by decide +kernel)) (SndL.c (s_fail) (SndL.c (s_aload_n (k := 0) (by decide +kernel) rfl) (SndL.n))))))))))))))))
def kX12_isBorneOut_8 : List En := [(0, oIload 4 130), (1, oFail), (0, oRload 0 131), (0, oGetf 14 35 2 134), (1, oFail), (1, oFail), (0, oIload 2 135), (0, oIald 136), (0, oIload 3 137), (0, oRload 0 138), (0, oGetf 14 36 2 141), (1, oFail), (1, oFail), (0, oIload 2 142), (0, oIald 143), (2, oInvV 14 mX12_noLess 4 146)]
set_option maxRecDepth 20000 in
theorem zX12_isBorneOut_8 : SndL mX12_isBorneOut 128 kX12_isBorneOut_8 := SndL.c (s_iload (by decide +kernel)) (SndL.c (s_fail) (SndL.c (s_aload_n (k := 0) (by decide +kernel) rfl) (SndL.c (s_getf (k := 35) clok13 (by decide) rfl (by decide) rfl w_5_137 (Or.inl rfl) (by decide +kernel)) (SndL.c (s_fail) (SndL.c (s_fail) (SndL.c (s_iload_n (k := 2) (by decide +kernel) rfl) (SndL.c (s_iald (by decide +kernel)) (SndL.c (s_iload_n (k := 3) (by decide +kernel) rfl) (SndL.c (s_aload_n (k := 0) (by decide +kernel) rfl) (SndL.c (s_getf (k := 36) clok13 (by decide) rfl (by decide) rfl w_5_138 (Or.inl rfl) (by decide +kernel)) (SndL.c (s_fail) (SndL.c (s_fail) (SndL.c (s_iload_n (k := 2) (by decide +kernel) rfl) (SndL.c (s_iald (by decide +kernel)) (SndL.c (s_invV (r := (RX12, TX12, 90)) (ci := 13) okX12_noLess rfl (by decide) rfl rfl w_7_15 w_7_17 v_42 (by decide +kernel)) (SndL.n))))))))))))))))
def kX12_isBorneOut_9 : List En := [(1, oFail), (1, oFail), (0, oImul 147), (0, oRload 0 148), (0, oGetf 14 8 0 151), (1, oFail), (1, oFail), (0, oRload 0 152), (0, oGetf 14 76 0 155), (1, oFail), (1, oFail), (0, oImul 156), (0, oIcLt 163 159), (1, oFail), (1, oFail), (0, oPush (vI 1) 160)]
set_option maxRecDepth 20000 in
theorem zX12_isBorneOut_9 : SndL mX12_isBorneOut 144 kX12_isBorneOut_9 := SndL.c (s_fail) (SndL.c (s_fail) (SndL.c (s_imul (by decide +kernel)) (SndL.c (s_aload_n (k := 0) (by decide +kernel) rfl) (SndL.c (s_getf (k := 8) clok13 (by decide) rfl (by decide) rfl w_5_110 (Or.inl rfl) (by decide +kernel)) (SndL.c (s_fail) (SndL.c (s_fail) (SndL.c (s_aload_n (k := 0) (by decide +kernel) rfl) (SndL.c (s_getf (k := 76) clok13 (by decide) rfl (by decide) rfl w_5_178 (Or.inl rfl) (by decide +kernel)) (SndL.c (s_fail) (SndL.c (s_fail) (SndL.c (s_imul (by decide +kernel)) (SndL.c (s_ic_lt (off := 7) (by decide +kernel) (by decide)) (SndL.c (s_fail) (SndL.c (s_fail) (SndL.c (s_iconst (by decide +kernel) (in32_d (by decide))) (SndL.n))))))))))))))))
def kX12_isBorneOut_10 : List En := [(0, oGoto 164), (1, oFail), (1, oFail), (0, oPush (vI 0) 164), (0, oRetZ), (0, oRload 0 166), (0, oGetf 14 76 0 169), (1, oFail), (1, oFail), (0, oIstore 6 171), (1, oFail), (0, oRload 0 172), (0, oGetf 14 77 1 175), (1, oFail), (1, oFail), (0, oLstore 7 177)]
set_option maxRecDepth 20000 in
theorem zX12_isBorneOut_10 : SndL mX12_isBorneOut 160 kX12_isBorneOut_10 := SndL.c (s_goto (off := 4) (by decide +kernel) (by decide)) (SndL.c (s_fail) (SndL.c (s_fail) (SndL.c (s_iconst (by decide +kernel) (in32_d (by decide))) (SndL.c (s_ret_z rfl (by decide +kernel)) (SndL.c (s_aload_n (k := 0) (by decide +kernel) rfl) (SndL.c (s_getf (k := 76) clok13 (by decide) rfl (by decide) rfl w_5_178 (Or.inl rfl) (by decide +kernel)) (SndL.c (s_fail) (SndL.c (s_fail) (SndL.c (s_istore (by decide +kernel) (by decide)) (SndL.c (s_fail) (SndL.c (s_aload_n (k := 0) (by decide +kernel) rfl) (SndL.c (s_getf (k := 77) clok13 (by decide) rfl (by decide) rfl w_5_179 (Or.inl rfl) (by decide +kernel)) (SndL.c (s_fail) (SndL.c (s_fail) (SndL.c (s_lstore (by decide +kernel) (by decide)) (SndL.n))))))))))))))))
def kX12_isBorneOut_11 : List En := [(1, oFail), (0, oRload 0 178), (0, oRload 0 179), (0, oGetf 14 36 2 182), (1, oFail), (1, oFail), (0, oIload 2 183), (0, oIald 184), (0, oPush (vI 12) 186), (1, oFail), (0, oIrem 187), (0, oRload 0 188), (0, oGetf 14 35 2 191), (1, oFail), (1, oFail), (0, oIload 2 192)]
set_option maxRecDepth 20000 in
theorem zX12_isBorneOut_11 : SndL mX12_isBorneOut 176 kX12_isBorneOut_11 := SndL.c (s_fail) (SndL.c (s_aload_n (k := 0) (by decide +kernel) rfl) (SndL.c (s_aload_n (k := 0) (by decide +kernel) rfl) (SndL.c (s_getf (k := 36) clok13 (by decide) rfl (by decide) rfl w_5_138 (Or.inl rfl) (by decide +kernel)) (SndL.c (s_fail) (SndL.c (s_fail) (SndL.c (s_iload_n (k := 2) (by decide +kernel) rfl) (SndL.c (s_iald (by decide +kernel)) (SndL.c (s_bipush (by decide +kernel) (in32_d (by decide)) (by decide +kernel)) (SndL.c (s_fail) (SndL.c (s_irem (by decide +kernel)) (SndL.c (s_aload_n (k := 0) (by decide +kernel) rfl) (SndL.c (s_getf (k := 35) clok13 (by decide) rfl (by decide) rfl w_5_137 (Or.inl rfl) (by decide +kernel)) (SndL.c (s_fail) (SndL.c (s_fail) (SndL.c (s_iload_n (k := 2) (by decide +kernel) rfl) (SndL.n))))))))))))))))
def kX12_isBorneOut_12 : List En := [(0, oIald 193), (0, oIload 3 194), (2, oInvV 14 mX12_sums 3 197), (1, oFail), (1, oFail), (0, oPop 198), (0, oIload 6 200), (1, oFail), (0, oIfLe 234 203), (1, oFail), (1, oFail), (0, oRload 0 204), (0, oGetf 14 76 0 207), (1, oFail), (1, oFail), (0, oIfLe 234 210)]
set_option maxRecDepth 20000 in
theorem zX12_isBorneOut_12 : SndL mX12_isBorneOut 192 kX12_isBorneOut_12 := SndL.c (s_iald (by decide +kernel)) (SndL.c (s_iload_n (k := 3) (by decide +kernel) rfl) (SndL.c (s_invV (r := (RX12, TX12, 90)) (ci := 13) okX12_sums rfl (by decide) rfl rfl w_7_11 w_7_13 v_41 (by decide +kernel)) (SndL.c (s_fail) (SndL.c (s_fail) (SndL.c (s_pop (by decide +kernel)) (SndL.c (s_iload (by decide +kernel)) (SndL.c (s_fail) (SndL.c (s_if_le (off := 34) (by decide +kernel) (by decide)) (SndL.c (s_fail) (SndL.c (s_fail) (SndL.c (s_aload_n (k := 0) (by decide +kernel) rfl) (SndL.c (s_getf (k := 76) clok13 (by decide) rfl (by decide) rfl w_5_178 (Or.inl rfl) (by decide +kernel)) (SndL.c (s_fail) (SndL.c (s_fail) (SndL.c (s_if_le (off := 27) (by decide +kernel) (by decide)) (SndL.n))))))))))))))))
def kX12_isBorneOut_13 : List En := [(1, oFail), (1, oFail), (0, oLload 7 212), (1, oFail), (0, oRload 0 213), (0, oGetf 14 76 0 216), (1, oFail), (1, oFail), (0, oI2l 217), (0, oLmul 218), (0, oRload 0 219), (0, oGetf 14 77 1 222), (1, oFail), (1, oFail), (0, oIload 6 224), (1, oFail)]
set_option maxRecDepth 20000 in
theorem zX12_isBorneOut_13 : SndL mX12_isBorneOut 208 kX12_isBorneOut_13 := SndL.c (s_fail) (SndL.c (s_fail) (SndL.c (s_lload (by decide +kernel)) (SndL.c (s_fail) (SndL.c (s_aload_n (k := 0) (by decide +kernel) rfl) (SndL.c (s_getf (k := 76) clok13 (by decide) rfl (by decide) rfl w_5_178 (Or.inl rfl) (by decide +kernel)) (SndL.c (s_fail) (SndL.c (s_fail) (SndL.c (s_i2l (by decide +kernel)) (SndL.c (s_lmul (by decide +kernel)) (SndL.c (s_aload_n (k := 0) (by decide +kernel) rfl) (SndL.c (s_getf (k := 77) clok13 (by decide) rfl (by decide) rfl w_5_179 (Or.inl rfl) (by decide +kernel)) (SndL.c (s_fail) (SndL.c (s_fail) (SndL.c (s_iload (by decide +kernel)) (SndL.c (s_fail) (SndL.n))))))))))))))))
def kX12_isBorneOut_14 : List En := [(0, oI2l 225), (0, oLmul 226), (0, oLcmp 227), (0, oIfLe 234 230), (1, oFail), (1, oFail), (0, oPush (vI 1) 231), (0, oGoto 235), (1, oFail), (1, oFail), (0, oPush (vI 0) 235), (0, oRetZ), (0, oPush (vI 1) 237), (0, oRetZ)]
set_option maxRecDepth 20000 in
theorem zX12_isBorneOut_14 : SndL mX12_isBorneOut 224 kX12_isBorneOut_14 := SndL.c (s_i2l (by decide +kernel)) (SndL.c (s_lmul (by decide +kernel)) (SndL.c (s_lcmp (by decide +kernel)) (SndL.c (s_if_le (off := 7) (by decide +kernel) (by decide)) (SndL.c (s_fail) (SndL.c (s_fail) (SndL.c (s_iconst (by decide +kernel) (in32_d (by decide))) (SndL.c (s_goto (off := 4) (by decide +kernel) (by decide)) (SndL.c (s_fail) (SndL.c (s_fail) (SndL.c (s_iconst (by decide +kernel) (in32_d (by decide))) (SndL.c (s_ret_z rfl (by decide +kernel)) (SndL.c (s_iconst (by decide +kernel) (in32_d (by decide))) (SndL.c (s_ret_z rfl (by decide +kernel)) (SndL.n))))))))))))))
def kX12_isBorneOut : Cd := [kX12_isBorneOut_0, kX12_isBorneOut_1, kX12_isBorneOut_2, kX12_isBorneOut_3, kX12_isBorneOut_4, kX12_isBorneOut_5, kX12_isBorneOut_6, kX12_isBorneOut_7, kX12_isBorneOut_8, kX12_isBorneOut_9, kX12_isBorneOut_10, kX12_isBorneOut_11, kX12_isBorneOut_12, kX12_isBorneOut_13, kX12_isBorneOut_14]
theorem zX12_isBorneOut : SndC mX12_isBorneOut 0 kX12_isBorneOut := SndC.c zX12_isBorneOut_0 (by decide) (SndC.c zX12_isBorneOut_1 (by decide) (SndC.c zX12_isBorneOut_2 (by decide) (SndC.c zX12_isBorneOut_3 (by decide) (SndC.c zX12_isBorneOut_4 (by decide) (SndC.c zX12_isBorneOut_5 (by decide) (SndC.c zX12_isBorneOut_6 (by decide) (SndC.c zX12_isBorneOut_7 (by decide) (SndC.c zX12_isBorneOut_8 (by decide) (SndC.c zX12_isBorneOut_9 (by decide) (SndC.c zX12_isBorneOut_10 (by decide) (SndC.c zX12_isBorneOut_11 (by decide) (SndC.c zX12_isBorneOut_12 (by decide) (SndC.c zX12_isBorneOut_13 (by decide) (SndC.c zX12_isBorneOut_14 (by decide) (SndC.n)))))))))))))))
theorem aX12_isBorneOut_0 : at_ kX12_isBorneOut 0 = (0, oRload 0 1) := rfl
theorem aX12_isBorneOut_1 : at_ kX12_isBorneOut 1 = (0, oGetf 14 20 2 4) := rfl
theorem aX12_isBorneOut_4 : at_ kX12_isBorneOut 4 = (0, oIload 1 5) := rfl
theorem aX12_isBorneOut_5 : at_ kX12_isBorneOut 5 = (0, oIald 6) := rfl
theorem aX12_isBorneOut_6 : at_ kX12_isBorneOut 6 = (0, oIstore 4 8) := rfl
theorem aX12_isBorneOut_8 : at_ kX12_isBorneOut 8 = (0, oRload 0 9) := rfl
theorem aX12_isBorneOut_9 : at_ kX12_isBorneOut 9 = (0, oIload 4 11) := rfl
theorem aX12_isBorneOut_11 : at_ kX12_isBorneOut 11 = (0, oRload 0 12) := rfl
theorem aX12_isBorneOut_12 : at_ kX12_isBorneOut 12 = (0, oGetf 14 35 2 15) := rfl
theorem aX12_isBorneOut_15 : at_ kX12_isBorneOut 15 = (0, oIload 2 16) := rfl
theorem aX12_isBorneOut_16 : at_ kX12_isBorneOut 16 = (0, oIald 17) := rfl
theorem aX12_isBorneOut_17 : at_ kX12_isBorneOut 17 = (0, oIload 3 18) := rfl
theorem aX12_isBorneOut_18 : at_ kX12_isBorneOut 18 = (2, oInvV 14 mX12_sums 3 21) := rfl
theorem aX12_isBorneOut_21 : at_ kX12_isBorneOut 21 = (0, oIstore 5 23) := rfl
theorem aX12_isBorneOut_23 : at_ kX12_isBorneOut 23 = (0, oRload 0 24) := rfl
theorem aX12_isBorneOut_24 : at_ kX12_isBorneOut 24 = (0, oGetf 14 34 2 27) := rfl
theorem aX12_isBorneOut_27 : at_ kX12_isBorneOut 27 = (0, oIload 2 28) := rfl
theorem aX12_isBorneOut_28 : at_ kX12_isBorneOut 28 = (0, oIald 29) := rfl
theorem aX12_isBorneOut_29 : at_ kX12_isBorneOut 29 = (0, oSwitch 0 5 [68, 71, 165, 236, 236, 118] 236) := rfl
theorem aX12_isBorneOut_68 : at_ kX12_isBorneOut 68 = (0, oIload 5 70) := rfl
theorem aX12_isBorneOut_70 : at_ kX12_isBorneOut 70 = (0, oRetZ) := rfl
theorem aX12_isBorneOut_71 : at_ kX12_isBorneOut 71 = (0, oRload 0 72) := rfl
theorem aX12_isBorneOut_72 : at_ kX12_isBorneOut 72 = (0, oGetf 14 76 0 75) := rfl
theorem aX12_isBorneOut_75 : at_ kX12_isBorneOut 75 = (0, oIfLe 116 78) := rfl
theorem aX12_isBorneOut_78 : at_ kX12_isBorneOut 78 = (0, oPush (vI 100) 80) := rfl
theorem aX12_isBorneOut_80 : at_ kX12_isBorneOut 80 = (0, oRload 0 81) := rfl
theorem aX12_isBorneOut_81 : at_ kX12_isBorneOut 81 = (0, oIload 4 83) := rfl
theorem aX12_isBorneOut_83 : at_ kX12_isBorneOut 83 = (0, oRload 0 84) := rfl
theorem aX12_isBorneOut_84 : at_ kX12_isBorneOut 84 = (0, oGetf 14 35 2 87) := rfl
theorem aX12_isBorneOut_87 : at_ kX12_isBorneOut 87 = (0, oIload 2 88) := rfl
theorem aX12_isBorneOut_88 : at_ kX12_isBorneOut 88 = (0, oIald 89) := rfl
theorem aX12_isBorneOut_89 : at_ kX12_isBorneOut 89 = (0, oIload 3 90) := rfl
theorem aX12_isBorneOut_90 : at_ kX12_isBorneOut 90 = (0, oRload 0 91) := rfl
theorem aX12_isBorneOut_91 : at_ kX12_isBorneOut 91 = (0, oGetf 14 36 2 94) := rfl
theorem aX12_isBorneOut_94 : at_ kX12_isBorneOut 94 = (0, oIload 2 95) := rfl
theorem aX12_isBorneOut_95 : at_ kX12_isBorneOut 95 = (0, oIald 96) := rfl
theorem aX12_isBorneOut_96 : at_ kX12_isBorneOut 96 = (2, oInvV 14 mX12_noLess 4 99) := rfl
theorem aX12_isBorneOut_99 : at_ kX12_isBorneOut 99 = (0, oImul 100) := rfl
theorem aX12_isBorneOut_100 : at_ kX12_isBorneOut 100 = (0, oRload 0 101) := rfl
theorem aX12_isBorneOut_101 : at_ kX12_isBorneOut 101 = (0, oGetf 14 7 0 104) := rfl
theorem aX12_isBorneOut_104 : at_ kX12_isBorneOut 104 = (0, oRload 0 105) := rfl
theorem aX12_isBorneOut_105 : at_ kX12_isBorneOut 105 = (0, oGetf 14 76 0 108) := rfl
theorem aX12_isBorneOut_108 : at_ kX12_isBorneOut 108 = (0, oImul 109) := rfl
theorem aX12_isBorneOut_109 : at_ kX12_isBorneOut 109 = (0, oIcLt 116 112) := rfl
theorem aX12_isBorneOut_112 : at_ kX12_isBorneOut 112 = (0, oPush (vI 1) 113) := rfl
theorem aX12_isBorneOut_113 : at_ kX12_isBorneOut 113 = (0, oGoto 117) := rfl
theorem aX12_isBorneOut_116 : at_ kX12_isBorneOut 116 = (0, oPush (vI 0) 117) := rfl
theorem aX12_isBorneOut_117 : at_ kX12_isBorneOut 117 = (0, oRetZ) := rfl
theorem aX12_isBorneOut_118 : at_ kX12_isBorneOut 118 = (0, oRload 0 119) := rfl
theorem aX12_isBorneOut_119 : at_ kX12_isBorneOut 119 = (0, oGetf 14 76 0 122) := rfl
theorem aX12_isBorneOut_122 : at_ kX12_isBorneOut 122 = (0, oIfLe 163 125) := rfl
theorem aX12_isBorneOut_125 : at_ kX12_isBorneOut 125 = (0, oPush (vI 100) 127) := rfl
theorem aX12_isBorneOut_127 : at_ kX12_isBorneOut 127 = (0, oRload 0 128) := rfl
theorem aX12_isBorneOut_128 : at_ kX12_isBorneOut 128 = (0, oIload 4 130) := rfl
theorem aX12_isBorneOut_130 : at_ kX12_isBorneOut 130 = (0, oRload 0 131) := rfl
theorem aX12_isBorneOut_131 : at_ kX12_isBorneOut 131 = (0, oGetf 14 35 2 134) := rfl
theorem aX12_isBorneOut_134 : at_ kX12_isBorneOut 134 = (0, oIload 2 135) := rfl
theorem aX12_isBorneOut_135 : at_ kX12_isBorneOut 135 = (0, oIald 136) := rfl
theorem aX12_isBorneOut_136 : at_ kX12_isBorneOut 136 = (0, oIload 3 137) := rfl
theorem aX12_isBorneOut_137 : at_ kX12_isBorneOut 137 = (0, oRload 0 138) := rfl
theorem aX12_isBorneOut_138 : at_ kX12_isBorneOut 138 = (0, oGetf 14 36 2 141) := rfl
theorem aX12_isBorneOut_141 : at_ kX12_isBorneOut 141 = (0, oIload 2 142) := rfl
theorem aX12_isBorneOut_142 : at_ kX12_isBorneOut 142 = (0, oIald 143) := rfl
theorem aX12_isBorneOut_143 : at_ kX12_isBorneOut 143 = (2, oInvV 14 mX12_noLess 4 146) := rfl
theorem aX12_isBorneOut_146 : at_ kX12_isBorneOut 146 = (0, oImul 147) := rfl
theorem aX12_isBorneOut_147 : at_ kX12_isBorneOut 147 = (0, oRload 0 148) := rfl
theorem aX12_isBorneOut_148 : at_ kX12_isBorneOut 148 = (0, oGetf 14 8 0 151) := rfl
theorem aX12_isBorneOut_151 : at_ kX12_isBorneOut 151 = (0, oRload 0 152) := rfl
theorem aX12_isBorneOut_152 : at_ kX12_isBorneOut 152 = (0, oGetf 14 76 0 155) := rfl
theorem aX12_isBorneOut_155 : at_ kX12_isBorneOut 155 = (0, oImul 156) := rfl
theorem aX12_isBorneOut_156 : at_ kX12_isBorneOut 156 = (0, oIcLt 163 159) := rfl
theorem aX12_isBorneOut_159 : at_ kX12_isBorneOut 159 = (0, oPush (vI 1) 160) := rfl
theorem aX12_isBorneOut_160 : at_ kX12_isBorneOut 160 = (0, oGoto 164) := rfl
theorem aX12_isBorneOut_163 : at_ kX12_isBorneOut 163 = (0, oPush (vI 0) 164) := rfl
theorem aX12_isBorneOut_164 : at_ kX12_isBorneOut 164 = (0, oRetZ) := rfl
theorem aX12_isBorneOut_165 : at_ kX12_isBorneOut 165 = (0, oRload 0 166) := rfl
theorem aX12_isBorneOut_166 : at_ kX12_isBorneOut 166 = (0, oGetf 14 76 0 169) := rfl
theorem aX12_isBorneOut_169 : at_ kX12_isBorneOut 169 = (0, oIstore 6 171) := rfl
theorem aX12_isBorneOut_171 : at_ kX12_isBorneOut 171 = (0, oRload 0 172) := rfl
theorem aX12_isBorneOut_172 : at_ kX12_isBorneOut 172 = (0, oGetf 14 77 1 175) := rfl
theorem aX12_isBorneOut_175 : at_ kX12_isBorneOut 175 = (0, oLstore 7 177) := rfl
theorem aX12_isBorneOut_177 : at_ kX12_isBorneOut 177 = (0, oRload 0 178) := rfl
theorem aX12_isBorneOut_178 : at_ kX12_isBorneOut 178 = (0, oRload 0 179) := rfl
theorem aX12_isBorneOut_179 : at_ kX12_isBorneOut 179 = (0, oGetf 14 36 2 182) := rfl
theorem aX12_isBorneOut_182 : at_ kX12_isBorneOut 182 = (0, oIload 2 183) := rfl
theorem aX12_isBorneOut_183 : at_ kX12_isBorneOut 183 = (0, oIald 184) := rfl
theorem aX12_isBorneOut_184 : at_ kX12_isBorneOut 184 = (0, oPush (vI 12) 186) := rfl
theorem aX12_isBorneOut_186 : at_ kX12_isBorneOut 186 = (0, oIrem 187) := rfl
theorem aX12_isBorneOut_187 : at_ kX12_isBorneOut 187 = (0, oRload 0 188) := rfl
theorem aX12_isBorneOut_188 : at_ kX12_isBorneOut 188 = (0, oGetf 14 35 2 191) := rfl
theorem aX12_isBorneOut_191 : at_ kX12_isBorneOut 191 = (0, oIload 2 192) := rfl
theorem aX12_isBorneOut_192 : at_ kX12_isBorneOut 192 = (0, oIald 193) := rfl
theorem aX12_isBorneOut_193 : at_ kX12_isBorneOut 193 = (0, oIload 3 194) := rfl
theorem aX12_isBorneOut_194 : at_ kX12_isBorneOut 194 = (2, oInvV 14 mX12_sums 3 197) := rfl
theorem aX12_isBorneOut_197 : at_ kX12_isBorneOut 197 = (0, oPop 198) := rfl
theorem aX12_isBorneOut_198 : at_ kX12_isBorneOut 198 = (0, oIload 6 200) := rfl
theorem aX12_isBorneOut_200 : at_ kX12_isBorneOut 200 = (0, oIfLe 234 203) := rfl
theorem aX12_isBorneOut_203 : at_ kX12_isBorneOut 203 = (0, oRload 0 204) := rfl
theorem aX12_isBorneOut_204 : at_ kX12_isBorneOut 204 = (0, oGetf 14 76 0 207) := rfl
theorem aX12_isBorneOut_207 : at_ kX12_isBorneOut 207 = (0, oIfLe 234 210) := rfl
theorem aX12_isBorneOut_210 : at_ kX12_isBorneOut 210 = (0, oLload 7 212) := rfl
theorem aX12_isBorneOut_212 : at_ kX12_isBorneOut 212 = (0, oRload 0 213) := rfl
theorem aX12_isBorneOut_213 : at_ kX12_isBorneOut 213 = (0, oGetf 14 76 0 216) := rfl
theorem aX12_isBorneOut_216 : at_ kX12_isBorneOut 216 = (0, oI2l 217) := rfl
theorem aX12_isBorneOut_217 : at_ kX12_isBorneOut 217 = (0, oLmul 218) := rfl
theorem aX12_isBorneOut_218 : at_ kX12_isBorneOut 218 = (0, oRload 0 219) := rfl
theorem aX12_isBorneOut_219 : at_ kX12_isBorneOut 219 = (0, oGetf 14 77 1 222) := rfl
theorem aX12_isBorneOut_222 : at_ kX12_isBorneOut 222 = (0, oIload 6 224) := rfl
theorem aX12_isBorneOut_224 : at_ kX12_isBorneOut 224 = (0, oI2l 225) := rfl
theorem aX12_isBorneOut_225 : at_ kX12_isBorneOut 225 = (0, oLmul 226) := rfl
theorem aX12_isBorneOut_226 : at_ kX12_isBorneOut 226 = (0, oLcmp 227) := rfl
theorem aX12_isBorneOut_227 : at_ kX12_isBorneOut 227 = (0, oIfLe 234 230) := rfl
theorem aX12_isBorneOut_230 : at_ kX12_isBorneOut 230 = (0, oPush (vI 1) 231) := rfl
theorem aX12_isBorneOut_231 : at_ kX12_isBorneOut 231 = (0, oGoto 235) := rfl
theorem aX12_isBorneOut_234 : at_ kX12_isBorneOut 234 = (0, oPush (vI 0) 235) := rfl
theorem aX12_isBorneOut_235 : at_ kX12_isBorneOut 235 = (0, oRetZ) := rfl
theorem aX12_isBorneOut_236 : at_ kX12_isBorneOut 236 = (0, oPush (vI 1) 237) := rfl
theorem aX12_isBorneOut_237 : at_ kX12_isBorneOut 237 = (0, oRetZ) := rfl
def kX12_isAgain_0 : List En := [(0, oPush (vI 0) 1), (0, oIstore 5 3), (1, oFail), (1, oIload 5 5), (1, oFail), (0, oRload 0 6), (0, oGetf 14 6 0 9), (1, oFail), (1, oFail), (0, oIcGe 127 12), (1, oFail), (1, oFail), (0, oRload 0 13), (0, oGetf 14 65 2 16), (1, oFail), (1, oFail)]
set_option maxRecDepth 20000 in
theorem zX12_isAgain_0 : SndL mX12_isAgain 0 kX12_isAgain_0 := SndL.c (s_iconst (by decide +kernel) (in32_d (by decide))) (SndL.c (s_istore (by decide +kernel) (by decide)) (SndL.c (s_fail) (SndL.c (s_iload (by decide +kernel)) (SndL.c (s_fail) (SndL.c (s_aload_n (k := 0) (by decide +kernel) rfl) (SndL.c (s_getf (k := 6) clok13 (by decide) rfl (by decide) rfl w_5_108 (Or.inl rfl) (by decide +kernel)) (SndL.c (s_fail) (SndL.c (s_fail) (SndL.c (s_ic_ge (off := 118) (by decide +kernel) (by decide)) (SndL.c (s_fail) (SndL.c (s_fail) (SndL.c (s_aload_n (k := 0) (by decide +kernel) rfl) (SndL.c (s_getf (k := 65) clok13 (by decide) rfl (by decide) rfl w_5_167 (Or.inl rfl) (by decide +kernel)) (SndL.c (s_fail) (SndL.c (s_fail) (SndL.n))))))))))))))))
def kX12_isAgain_1 : List En := [(0, oIload 5 18), (1, oFail), (0, oIald 19), (0, oIfNe 121 22), (1, oFail), (1, oFail), (0, oRload 0 23), (0, oGetf 14 67 2 26), (1, oFail), (1, oFail), (0, oIload 5 28), (1, oFail), (0, oZald 29), (0, oIfEq 121 32), (1, oFail), (1, oFail)]
set_option maxRecDepth 20000 in
theorem zX12_isAgain_1 : SndL mX12_isAgain 16 kX12_isAgain_1 := SndL.c (s_iload (by decide +kernel)) (SndL.c (s_fail) (SndL.c (s_iald (by decide +kernel)) (SndL.c (s_if_ne (off := 102) (by decide +kernel) (by decide)) (SndL.c (s_fail) (SndL.c (s_fail) (SndL.c (s_aload_n (k := 0) (by decide +kernel) rfl) (SndL.c (s_getf (k := 67) clok13 (by decide) rfl (by decide) rfl w_5_169 (Or.inl rfl) (by decide +kernel)) (SndL.c (s_fail) (SndL.c (s_fail) (SndL.c (s_iload (by decide +kernel)) (SndL.c (s_fail) (SndL.c (s_zald (by decide +kernel)) (SndL.c (s_if_eq (off := 92) (by decide +kernel) (by decide)) (SndL.c (s_fail) (SndL.c (s_fail) (SndL.n))))))))))))))))
def kX12_isAgain_2 : List En := [(0, oRload 0 33), (0, oGetf 14 56 2 36), (1, oFail), (1, oFail), (0, oIload 5 38), (1, oFail), (0, oIald 39), (0, oRload 0 40), (0, oGetf 14 20 2 43), (1, oFail), (1, oFail), (0, oIload 1 44), (0, oIald 45), (0, oIcNe 121 48), (1, oFail), (1, oFail)]
set_option maxRecDepth 20000 in
theorem zX12_isAgain_2 : SndL mX12_isAgain 32 kX12_isAgain_2 := SndL.c (s_aload_n (k := 0) (by decide +kernel) rfl) (SndL.c (s_getf (k := 56) clok13 (by decide) rfl (by decide) rfl w_5_158 (Or.inl rfl) (by decide +kernel)) (SndL.c (s_fail) (SndL.c (s_fail) (SndL.c (s_iload (by decide +kernel)) (SndL.c (s_fail) (SndL.c (s_iald (by decide +kernel)) (SndL.c (s_aload_n (k := 0) (by decide +kernel) rfl) (SndL.c (s_getf (k := 20) clok13 (by decide) rfl (by decide) rfl w_5_122 (Or.inl rfl) (by decide +kernel)) (SndL.c (s_fail) (SndL.c (s_fail) (SndL.c (s_iload_n (k := 1) (by decide +kernel) rfl) (SndL.c (s_iald (by decide +kernel)) (SndL.c (s_ic_ne (off := 76) (by decide +kernel) (by decide)) (SndL.c (s_fail) (SndL.c (s_fail) (SndL.n))))))))))))))))
def kX12_isAgain_3 : List En := [(0, oRload 0 49), (0, oGetf 14 58 2 52), (1, oFail), (1, oFail), (0, oIload 5 54), (1, oFail), (0, oIald 55), (0, oRload 0 56), (0, oGetf 14 34 2 59), (1, oFail), (1, oFail), (0, oIload 2 60), (0, oIald 61), (0, oIcNe 121 64), (1, oFail), (1, oFail)]
set_option maxRecDepth 20000 in
theorem zX12_isAgain_3 : SndL mX12_isAgain 48 kX12_isAgain_3 := SndL.c (s_aload_n (k := 0) (by decide +kernel) rfl) (SndL.c (s_getf (k := 58) clok13 (by decide) rfl (by decide) rfl w_5_160 (Or.inl rfl) (by decide +kernel)) (SndL.c (s_fail) (SndL.c (s_fail) (SndL.c (s_iload (by decide +kernel)) (SndL.c (s_fail) (SndL.c (s_iald (by decide +kernel)) (SndL.c (s_aload_n (k := 0) (by decide +kernel) rfl) (SndL.c (s_getf (k := 34) clok13 (by decide) rfl (by decide) rfl w_5_136 (Or.inl rfl) (by decide +kernel)) (SndL.c (s_fail) (SndL.c (s_fail) (SndL.c (s_iload_n (k := 2) (by decide +kernel) rfl) (SndL.c (s_iald (by decide +kernel)) (SndL.c (s_ic_ne (off := 60) (by decide +kernel) (by decide)) (SndL.c (s_fail) (SndL.c (s_fail) (SndL.n))))))))))))))))
def kX12_isAgain_4 : List En := [(0, oRload 0 65), (0, oGetf 14 59 2 68), (1, oFail), (1, oFail), (0, oIload 5 70), (1, oFail), (0, oIald 71), (0, oRload 0 72), (0, oGetf 14 35 2 75), (1, oFail), (1, oFail), (0, oIload 2 76), (0, oIald 77), (0, oIcNe 121 80), (1, oFail), (1, oFail)]
set_option maxRecDepth 20000 in
theorem zX12_isAgain_4 : SndL mX12_isAgain 64 kX12_isAgain_4 := SndL.c (s_aload_n (k := 0) (by decide +kernel) rfl) (SndL.c (s_getf (k := 59) clok13 (by decide) rfl (by decide) rfl w_5_161 (Or.inl rfl) (by decide +kernel)) (SndL.c (s_fail) (SndL.c (s_fail) (SndL.c (s_iload (by decide +kernel)) (SndL.c (s_fail) (SndL.c (s_iald (by decide +kernel)) (SndL.c (s_aload_n (k := 0) (by decide +kernel) rfl) (SndL.c (s_getf (k := 35) clok13 (by decide) rfl (by decide) rfl w_5_137 (Or.inl rfl) (by decide +kernel)) (SndL.c (s_fail) (SndL.c (s_fail) (SndL.c (s_iload_n (k := 2) (by decide +kernel) rfl) (SndL.c (s_iald (by decide +kernel)) (SndL.c (s_ic_ne (off := 44) (by decide +kernel) (by decide)) (SndL.c (s_fail) (SndL.c (s_fail) (SndL.n))))))))))))))))
def kX12_isAgain_5 : List En := [(0, oRload 0 81), (0, oGetf 14 60 2 84), (1, oFail), (1, oFail), (0, oIload 5 86), (1, oFail), (0, oIald 87), (0, oRload 0 88), (0, oGetf 14 36 2 91), (1, oFail), (1, oFail), (0, oIload 2 92), (0, oIald 93), (0, oIcGt 121 96), (1, oFail), (1, oFail)]
set_option maxRecDepth 20000 in
theorem zX12_isAgain_5 : SndL mX12_isAgain 80 kX12_isAgain_5 := SndL.c (s_aload_n (k := 0) (by decide +kernel) rfl) (SndL.c (s_getf (k := 60) clok13 (by decide) rfl (by decide) rfl w_5_162 (Or.inl rfl) (by decide +kernel)) (SndL.c (s_fail) (SndL.c (s_fail) (SndL.c (s_iload (by decide +kernel)) (SndL.c (s_fail) (SndL.c (s_iald (by decide +kernel)) (SndL.c (s_aload_n (k := 0) (by decide +kernel) rfl) (SndL.c (s_getf (k := 36) clok13 (by decide) rfl (by decide) rfl w_5_138 (Or.inl rfl) (by decide +kernel)) (SndL.c (s_fail) (SndL.c (s_fail) (SndL.c (s_iload_n (k := 2) (by decide +kernel) rfl) (SndL.c (s_iald (by decide +kernel)) (SndL.c (s_ic_gt (off := 28) (by decide +kernel) (by decide)) (SndL.c (s_fail) (SndL.c (s_fail) (SndL.n))))))))))))))))
def kX12_isAgain_6 : List En := [(0, oRload 0 97), (0, oGetf 14 61 2 100), (1, oFail), (1, oFail), (0, oIload 5 102), (1, oFail), (0, oIald 103), (0, oIload 3 104), (0, oIcGt 121 107), (1, oFail), (1, oFail), (0, oRload 0 108), (0, oGetf 14 61 2 111), (1, oFail), (1, oFail), (0, oIload 5 113)]
set_option maxRecDepth 20000 in
theorem zX12_isAgain_6 : SndL mX12_isAgain 96 kX12_isAgain_6 := SndL.c (s_aload_n (k := 0) (by decide +kernel) rfl) (SndL.c (s_getf (k := 61) clok13 (by decide) rfl (by decide) rfl w_5_163 (Or.inl rfl) (by decide +kernel)) (SndL.c (s_fail) (SndL.c (s_fail) (SndL.c (s_iload (by decide +kernel)) (SndL.c (s_fail) (SndL.c (s_iald (by decide +kernel)) (SndL.c (s_iload_n (k := 3) (by decide +kernel) rfl) (SndL.c (s_ic_gt (off := 17) (by decide +kernel) (by decide)) (SndL.c (s_fail) (SndL.c (s_fail) (SndL.c (s_aload_n (k := 0) (by decide +kernel) rfl) (SndL.c (s_getf (k := 61) clok13 (by decide) rfl (by decide) rfl w_5_163 (Or.inl rfl) (by decide +kernel)) (SndL.c (s_fail) (SndL.c (s_fail) (SndL.c (s_iload (by decide +kernel)) (SndL.n))))))))))))))))
def kX12_isAgain_7 : List En := [(1, oFail), (0, oIald 114), (0, oIload 4 116), (1, oFail), (0, oIcGt 121 119), (1, oFail), (1, oFail), (0, oPush (vI 1) 120), (0, oRetZ), (0, oIinc 5 1 124), (1, oFail), (1, oFail), (0, oGoto 3), (1, oFail), (1, oFail), (0, oPush (vI 0) 128)]
set_option maxRecDepth 20000 in
theorem zX12_isAgain_7 : SndL mX12_isAgain 112 kX12_isAgain_7 := SndL.c (s_fail) (SndL.c (s_iald (by decide +kernel)) (SndL.c (s_iload (by decide +kernel)) (SndL.c (s_fail) (SndL.c (s_ic_gt (off := 5) (by decide +kernel) (by decide)) (SndL.c (s_fail) (SndL.c (s_fail) (SndL.c (s_iconst (by decide +kernel) (in32_d (by decide))) (SndL.c (s_ret_z rfl (by decide +kernel)) (SndL.c (s_iinc (by decide +kernel) (by decide)) (SndL.c (s_fail) (SndL.c (s_fail) (SndL.c (s_goto (off := -121) (by decide +kernel) (by decide)) (SndL.c (s_fail) (SndL.c (s_fail) (SndL.c (s_iconst (by decide +kernel) (in32_d (by decide))) (SndL.n))))))))))))))))
def kX12_isAgain_8 : List En := [(0, oRetZ)]
set_option maxRecDepth 20000 in
theorem zX12_isAgain_8 : SndL mX12_isAgain 128 kX12_isAgain_8 := SndL.c (s_ret_z rfl (by decide +kernel)) (SndL.n)
def kX12_isAgain : Cd := [kX12_isAgain_0, kX12_isAgain_1, kX12_isAgain_2, kX12_isAgain_3, kX12_isAgain_4, kX12_isAgain_5, kX12_isAgain_6, kX12_isAgain_7, kX12_isAgain_8]
theorem zX12_isAgain : SndC mX12_isAgain 0 kX12_isAgain := SndC.c zX12_isAgain_0 (by decide) (SndC.c zX12_isAgain_1 (by decide) (SndC.c zX12_isAgain_2 (by decide) (SndC.c zX12_isAgain_3 (by decide) (SndC.c zX12_isAgain_4 (by decide) (SndC.c zX12_isAgain_5 (by decide) (SndC.c zX12_isAgain_6 (by decide) (SndC.c zX12_isAgain_7 (by decide) (SndC.c zX12_isAgain_8 (by decide) (SndC.n)))))))))
theorem aX12_isAgain_0 : at_ kX12_isAgain 0 = (0, oPush (vI 0) 1) := rfl
theorem aX12_isAgain_1 : at_ kX12_isAgain 1 = (0, oIstore 5 3) := rfl
theorem aX12_isAgain_3 : at_ kX12_isAgain 3 = (1, oIload 5 5) := rfl
theorem aX12_isAgain_5 : at_ kX12_isAgain 5 = (0, oRload 0 6) := rfl
theorem aX12_isAgain_6 : at_ kX12_isAgain 6 = (0, oGetf 14 6 0 9) := rfl
theorem aX12_isAgain_9 : at_ kX12_isAgain 9 = (0, oIcGe 127 12) := rfl
theorem aX12_isAgain_12 : at_ kX12_isAgain 12 = (0, oRload 0 13) := rfl
theorem aX12_isAgain_13 : at_ kX12_isAgain 13 = (0, oGetf 14 65 2 16) := rfl
theorem aX12_isAgain_16 : at_ kX12_isAgain 16 = (0, oIload 5 18) := rfl
theorem aX12_isAgain_18 : at_ kX12_isAgain 18 = (0, oIald 19) := rfl
theorem aX12_isAgain_19 : at_ kX12_isAgain 19 = (0, oIfNe 121 22) := rfl
theorem aX12_isAgain_22 : at_ kX12_isAgain 22 = (0, oRload 0 23) := rfl
theorem aX12_isAgain_23 : at_ kX12_isAgain 23 = (0, oGetf 14 67 2 26) := rfl
theorem aX12_isAgain_26 : at_ kX12_isAgain 26 = (0, oIload 5 28) := rfl
theorem aX12_isAgain_28 : at_ kX12_isAgain 28 = (0, oZald 29) := rfl
theorem aX12_isAgain_29 : at_ kX12_isAgain 29 = (0, oIfEq 121 32) := rfl
theorem aX12_isAgain_32 : at_ kX12_isAgain 32 = (0, oRload 0 33) := rfl
theorem aX12_isAgain_33 : at_ kX12_isAgain 33 = (0, oGetf 14 56 2 36) := rfl
theorem aX12_isAgain_36 : at_ kX12_isAgain 36 = (0, oIload 5 38) := rfl
theorem aX12_isAgain_38 : at_ kX12_isAgain 38 = (0, oIald 39) := rfl
theorem aX12_isAgain_39 : at_ kX12_isAgain 39 = (0, oRload 0 40) := rfl
theorem aX12_isAgain_40 : at_ kX12_isAgain 40 = (0, oGetf 14 20 2 43) := rfl
theorem aX12_isAgain_43 : at_ kX12_isAgain 43 = (0, oIload 1 44) := rfl
theorem aX12_isAgain_44 : at_ kX12_isAgain 44 = (0, oIald 45) := rfl
theorem aX12_isAgain_45 : at_ kX12_isAgain 45 = (0, oIcNe 121 48) := rfl
theorem aX12_isAgain_48 : at_ kX12_isAgain 48 = (0, oRload 0 49) := rfl
theorem aX12_isAgain_49 : at_ kX12_isAgain 49 = (0, oGetf 14 58 2 52) := rfl
theorem aX12_isAgain_52 : at_ kX12_isAgain 52 = (0, oIload 5 54) := rfl
theorem aX12_isAgain_54 : at_ kX12_isAgain 54 = (0, oIald 55) := rfl
theorem aX12_isAgain_55 : at_ kX12_isAgain 55 = (0, oRload 0 56) := rfl
theorem aX12_isAgain_56 : at_ kX12_isAgain 56 = (0, oGetf 14 34 2 59) := rfl
theorem aX12_isAgain_59 : at_ kX12_isAgain 59 = (0, oIload 2 60) := rfl
theorem aX12_isAgain_60 : at_ kX12_isAgain 60 = (0, oIald 61) := rfl
theorem aX12_isAgain_61 : at_ kX12_isAgain 61 = (0, oIcNe 121 64) := rfl
theorem aX12_isAgain_64 : at_ kX12_isAgain 64 = (0, oRload 0 65) := rfl
theorem aX12_isAgain_65 : at_ kX12_isAgain 65 = (0, oGetf 14 59 2 68) := rfl
theorem aX12_isAgain_68 : at_ kX12_isAgain 68 = (0, oIload 5 70) := rfl
theorem aX12_isAgain_70 : at_ kX12_isAgain 70 = (0, oIald 71) := rfl
theorem aX12_isAgain_71 : at_ kX12_isAgain 71 = (0, oRload 0 72) := rfl
theorem aX12_isAgain_72 : at_ kX12_isAgain 72 = (0, oGetf 14 35 2 75) := rfl
theorem aX12_isAgain_75 : at_ kX12_isAgain 75 = (0, oIload 2 76) := rfl
theorem aX12_isAgain_76 : at_ kX12_isAgain 76 = (0, oIald 77) := rfl
theorem aX12_isAgain_77 : at_ kX12_isAgain 77 = (0, oIcNe 121 80) := rfl
theorem aX12_isAgain_80 : at_ kX12_isAgain 80 = (0, oRload 0 81) := rfl
theorem aX12_isAgain_81 : at_ kX12_isAgain 81 = (0, oGetf 14 60 2 84) := rfl
theorem aX12_isAgain_84 : at_ kX12_isAgain 84 = (0, oIload 5 86) := rfl
theorem aX12_isAgain_86 : at_ kX12_isAgain 86 = (0, oIald 87) := rfl
theorem aX12_isAgain_87 : at_ kX12_isAgain 87 = (0, oRload 0 88) := rfl
theorem aX12_isAgain_88 : at_ kX12_isAgain 88 = (0, oGetf 14 36 2 91) := rfl
theorem aX12_isAgain_91 : at_ kX12_isAgain 91 = (0, oIload 2 92) := rfl
theorem aX12_isAgain_92 : at_ kX12_isAgain 92 = (0, oIald 93) := rfl
theorem aX12_isAgain_93 : at_ kX12_isAgain 93 = (0, oIcGt 121 96) := rfl
theorem aX12_isAgain_96 : at_ kX12_isAgain 96 = (0, oRload 0 97) := rfl
theorem aX12_isAgain_97 : at_ kX12_isAgain 97 = (0, oGetf 14 61 2 100) := rfl
theorem aX12_isAgain_100 : at_ kX12_isAgain 100 = (0, oIload 5 102) := rfl
theorem aX12_isAgain_102 : at_ kX12_isAgain 102 = (0, oIald 103) := rfl
theorem aX12_isAgain_103 : at_ kX12_isAgain 103 = (0, oIload 3 104) := rfl
theorem aX12_isAgain_104 : at_ kX12_isAgain 104 = (0, oIcGt 121 107) := rfl
theorem aX12_isAgain_107 : at_ kX12_isAgain 107 = (0, oRload 0 108) := rfl
theorem aX12_isAgain_108 : at_ kX12_isAgain 108 = (0, oGetf 14 61 2 111) := rfl
theorem aX12_isAgain_111 : at_ kX12_isAgain 111 = (0, oIload 5 113) := rfl
theorem aX12_isAgain_113 : at_ kX12_isAgain 113 = (0, oIald 114) := rfl
theorem aX12_isAgain_114 : at_ kX12_isAgain 114 = (0, oIload 4 116) := rfl
theorem aX12_isAgain_116 : at_ kX12_isAgain 116 = (0, oIcGt 121 119) := rfl
theorem aX12_isAgain_119 : at_ kX12_isAgain 119 = (0, oPush (vI 1) 120) := rfl
theorem aX12_isAgain_120 : at_ kX12_isAgain 120 = (0, oRetZ) := rfl
theorem aX12_isAgain_121 : at_ kX12_isAgain 121 = (0, oIinc 5 1 124) := rfl
theorem aX12_isAgain_124 : at_ kX12_isAgain 124 = (0, oGoto 3) := rfl
theorem aX12_isAgain_127 : at_ kX12_isAgain 127 = (0, oPush (vI 0) 128) := rfl
theorem aX12_isAgain_128 : at_ kX12_isAgain 128 = (0, oRetZ) := rfl
def kX12_claims_0 : List En := [(0, oRload 0 1), (0, oIload 1 2), (2, oInvV 14 mX12_isAdvert 1 5), (1, oFail), (1, oFail), (0, oIfEq 16 8), (1, oFail), (1, oFail), (0, oIload 2 9), (0, oIfLt 16 12), (1, oFail), (1, oFail), (0, oIload 3 13), (0, oIfGe 18 16), (1, oFail), (1, oFail)]
set_option maxRecDepth 20000 in
theorem zX12_claims_0 : SndL mX12_claims 0 kX12_claims_0 := SndL.c (s_aload_n (k := 0) (by decide +kernel) rfl) (SndL.c (s_iload_n (k := 1) (by decide +kernel) rfl) (SndL.c (s_invV (r := (RX12, TX12, 90)) (ci := 13) okX12_isAdvert rfl (by decide) rfl rfl w_6_188 w_6_190 v_32 (by decide +kernel)) (SndL.c (s_fail) (SndL.c (s_fail) (SndL.c (s_if_eq (off := 11) (by decide +kernel) (by decide)) (SndL.c (s_fail) (SndL.c (s_fail) (SndL.c (s_iload_n (k := 2) (by decide +kernel) rfl) (SndL.c (s_if_lt (off := 7) (by decide +kernel) (by decide)) (SndL.c (s_fail) (SndL.c (s_fail) (SndL.c (s_iload_n (k := 3) (by decide +kernel) rfl) (SndL.c (s_if_ge (off := 5) (by decide +kernel) (by decide)) (SndL.c (s_fail) (SndL.c (s_fail) (SndL.n))))))))))))))))
def kX12_claims_1 : List En := [(0, oPush (vI (-1)) 17), (0, oRetI), (0, oRload 0 19), (0, oIload 1 20), (0, oIload 2 21), (0, oIload 3 22), (2, oInvV 14 mX12_readsAll 3 25), (1, oFail), (1, oFail), (0, oRload 0 26), (0, oGetf 14 75 0 29), (1, oFail), (1, oFail), (0, oRetI)]
set_option maxRecDepth 20000 in
theorem zX12_claims_1 : SndL mX12_claims 16 kX12_claims_1 := SndL.c (s_iconst (by decide +kernel) (in32_d (by decide))) (SndL.c (s_ret_i rfl (by decide +kernel)) (SndL.c (s_aload_n (k := 0) (by decide +kernel) rfl) (SndL.c (s_iload_n (k := 1) (by decide +kernel) rfl) (SndL.c (s_iload_n (k := 2) (by decide +kernel) rfl) (SndL.c (s_iload_n (k := 3) (by decide +kernel) rfl) (SndL.c (s_invV (r := (RX12, TX12, 90)) (ci := 13) okX12_readsAll rfl (by decide) rfl rfl w_6_212 w_6_214 v_33 (by decide +kernel)) (SndL.c (s_fail) (SndL.c (s_fail) (SndL.c (s_aload_n (k := 0) (by decide +kernel) rfl) (SndL.c (s_getf (k := 75) clok13 (by decide) rfl (by decide) rfl w_5_177 (Or.inl rfl) (by decide +kernel)) (SndL.c (s_fail) (SndL.c (s_fail) (SndL.c (s_ret_i rfl (by decide +kernel)) (SndL.n))))))))))))))
def kX12_claims : Cd := [kX12_claims_0, kX12_claims_1]
theorem zX12_claims : SndC mX12_claims 0 kX12_claims := SndC.c zX12_claims_0 (by decide) (SndC.c zX12_claims_1 (by decide) (SndC.n))
theorem aX12_claims_0 : at_ kX12_claims 0 = (0, oRload 0 1) := rfl
theorem aX12_claims_1 : at_ kX12_claims 1 = (0, oIload 1 2) := rfl
theorem aX12_claims_2 : at_ kX12_claims 2 = (2, oInvV 14 mX12_isAdvert 1 5) := rfl
theorem aX12_claims_5 : at_ kX12_claims 5 = (0, oIfEq 16 8) := rfl
theorem aX12_claims_8 : at_ kX12_claims 8 = (0, oIload 2 9) := rfl
theorem aX12_claims_9 : at_ kX12_claims 9 = (0, oIfLt 16 12) := rfl
theorem aX12_claims_12 : at_ kX12_claims 12 = (0, oIload 3 13) := rfl
theorem aX12_claims_13 : at_ kX12_claims 13 = (0, oIfGe 18 16) := rfl
theorem aX12_claims_16 : at_ kX12_claims 16 = (0, oPush (vI (-1)) 17) := rfl
theorem aX12_claims_17 : at_ kX12_claims 17 = (0, oRetI) := rfl
theorem aX12_claims_18 : at_ kX12_claims 18 = (0, oRload 0 19) := rfl
theorem aX12_claims_19 : at_ kX12_claims 19 = (0, oIload 1 20) := rfl
theorem aX12_claims_20 : at_ kX12_claims 20 = (0, oIload 2 21) := rfl
theorem aX12_claims_21 : at_ kX12_claims 21 = (0, oIload 3 22) := rfl
theorem aX12_claims_22 : at_ kX12_claims 22 = (2, oInvV 14 mX12_readsAll 3 25) := rfl
theorem aX12_claims_25 : at_ kX12_claims 25 = (0, oRload 0 26) := rfl
theorem aX12_claims_26 : at_ kX12_claims 26 = (0, oGetf 14 75 0 29) := rfl
theorem aX12_claims_29 : at_ kX12_claims 29 = (0, oRetI) := rfl
def kX12_phraseOf_0 : List En := [(0, oRload 0 1), (0, oIload 1 2), (2, oInvV 14 mX12_isAdvert 1 5), (1, oFail), (1, oFail), (0, oIfEq 12 8), (1, oFail), (1, oFail), (0, oIload 2 9), (0, oIfGe 14 12), (1, oFail), (1, oFail), (0, oPush (vI (-1)) 13), (0, oRetI), (0, oRload 0 15), (0, oIload 1 16)]
set_option maxRecDepth 20000 in
theorem zX12_phraseOf_0 : SndL mX12_phraseOf 0 kX12_phraseOf_0 := SndL.c (s_aload_n (k := 0) (by decide +kernel) rfl) (SndL.c (s_iload_n (k := 1) (by decide +kernel) rfl) (SndL.c (s_invV (r := (RX12, TX12, 90)) (ci := 13) okX12_isAdvert rfl (by decide) rfl rfl w_6_188 w_6_190 v_32 (by decide +kernel)) (SndL.c (s_fail) (SndL.c (s_fail) (SndL.c (s_if_eq (off := 7) (by decide +kernel) (by decide)) (SndL.c (s_fail) (SndL.c (s_fail) (SndL.c (s_iload_n (k := 2) (by decide +kernel) rfl) (SndL.c (s_if_ge (off := 5) (by decide +kernel) (by decide)) (SndL.c (s_fail) (SndL.c (s_fail) (SndL.c (s_iconst (by decide +kernel) (in32_d (by decide))) (SndL.c (s_ret_i rfl (by decide +kernel)) (SndL.c (s_aload_n (k := 0) (by decide +kernel) rfl) (SndL.c (s_iload_n (k := 1) (by decide +kernel) rfl) (SndL.n))))))))))))))))
def kX12_phraseOf_1 : List En := [(0, oRload 0 17), (0, oGetf 14 0 0 20), (1, oFail), (1, oFail), (0, oRload 0 21), (0, oGetf 14 0 0 24), (1, oFail), (1, oFail), (2, oInvV 14 mX12_readsAll 3 27), (1, oFail), (1, oFail), (0, oIload 2 28), (0, oRload 0 29), (0, oGetf 14 75 0 32), (1, oFail), (1, oFail)]
set_option maxRecDepth 20000 in
theorem zX12_phraseOf_1 : SndL mX12_phraseOf 16 kX12_phraseOf_1 := SndL.c (s_aload_n (k := 0) (by decide +kernel) rfl) (SndL.c (s_getf (k := 0) clok13 (by decide) rfl (by decide) rfl w_5_102 (Or.inl rfl) (by decide +kernel)) (SndL.c (s_fail) (SndL.c (s_fail) (SndL.c (s_aload_n (k := 0) (by decide +kernel) rfl) (SndL.c (s_getf (k := 0) clok13 (by decide) rfl (by decide) rfl w_5_102 (Or.inl rfl) (by decide +kernel)) (SndL.c (s_fail) (SndL.c (s_fail) (SndL.c (s_invV (r := (RX12, TX12, 90)) (ci := 13) okX12_readsAll rfl (by decide) rfl rfl w_6_212 w_6_214 v_33 (by decide +kernel)) (SndL.c (s_fail) (SndL.c (s_fail) (SndL.c (s_iload_n (k := 2) (by decide +kernel) rfl) (SndL.c (s_aload_n (k := 0) (by decide +kernel) rfl) (SndL.c (s_getf (k := 75) clok13 (by decide) rfl (by decide) rfl w_5_177 (Or.inl rfl) (by decide +kernel)) (SndL.c (s_fail) (SndL.c (s_fail) (SndL.n))))))))))))))))
def kX12_phraseOf_2 : List En := [(0, oIcGe 44 35), (1, oFail), (1, oFail), (0, oRload 0 36), (0, oGetf 14 73 2 39), (1, oFail), (1, oFail), (0, oIload 2 40), (0, oIald 41), (0, oGoto 45), (1, oFail), (1, oFail), (0, oPush (vI (-1)) 45), (0, oRetI)]
set_option maxRecDepth 20000 in
theorem zX12_phraseOf_2 : SndL mX12_phraseOf 32 kX12_phraseOf_2 := SndL.c (s_ic_ge (off := 12) (by decide +kernel) (by decide)) (SndL.c (s_fail) (SndL.c (s_fail) (SndL.c (s_aload_n (k := 0) (by decide +kernel) rfl) (SndL.c (s_getf (k := 73) clok13 (by decide) rfl (by decide) rfl w_5_175 (Or.inl rfl) (by decide +kernel)) (SndL.c (s_fail) (SndL.c (s_fail) (SndL.c (s_iload_n (k := 2) (by decide +kernel) rfl) (SndL.c (s_iald (by decide +kernel)) (SndL.c (s_goto (off := 4) (by decide +kernel) (by decide)) (SndL.c (s_fail) (SndL.c (s_fail) (SndL.c (s_iconst (by decide +kernel) (in32_d (by decide))) (SndL.c (s_ret_i rfl (by decide +kernel)) (SndL.n))))))))))))))
def kX12_phraseOf : Cd := [kX12_phraseOf_0, kX12_phraseOf_1, kX12_phraseOf_2]
theorem zX12_phraseOf : SndC mX12_phraseOf 0 kX12_phraseOf := SndC.c zX12_phraseOf_0 (by decide) (SndC.c zX12_phraseOf_1 (by decide) (SndC.c zX12_phraseOf_2 (by decide) (SndC.n)))
theorem aX12_phraseOf_0 : at_ kX12_phraseOf 0 = (0, oRload 0 1) := rfl
theorem aX12_phraseOf_1 : at_ kX12_phraseOf 1 = (0, oIload 1 2) := rfl
theorem aX12_phraseOf_2 : at_ kX12_phraseOf 2 = (2, oInvV 14 mX12_isAdvert 1 5) := rfl
theorem aX12_phraseOf_5 : at_ kX12_phraseOf 5 = (0, oIfEq 12 8) := rfl
theorem aX12_phraseOf_8 : at_ kX12_phraseOf 8 = (0, oIload 2 9) := rfl
theorem aX12_phraseOf_9 : at_ kX12_phraseOf 9 = (0, oIfGe 14 12) := rfl
theorem aX12_phraseOf_12 : at_ kX12_phraseOf 12 = (0, oPush (vI (-1)) 13) := rfl
theorem aX12_phraseOf_13 : at_ kX12_phraseOf 13 = (0, oRetI) := rfl
theorem aX12_phraseOf_14 : at_ kX12_phraseOf 14 = (0, oRload 0 15) := rfl
theorem aX12_phraseOf_15 : at_ kX12_phraseOf 15 = (0, oIload 1 16) := rfl
theorem aX12_phraseOf_16 : at_ kX12_phraseOf 16 = (0, oRload 0 17) := rfl
theorem aX12_phraseOf_17 : at_ kX12_phraseOf 17 = (0, oGetf 14 0 0 20) := rfl
theorem aX12_phraseOf_20 : at_ kX12_phraseOf 20 = (0, oRload 0 21) := rfl
theorem aX12_phraseOf_21 : at_ kX12_phraseOf 21 = (0, oGetf 14 0 0 24) := rfl
theorem aX12_phraseOf_24 : at_ kX12_phraseOf 24 = (2, oInvV 14 mX12_readsAll 3 27) := rfl
theorem aX12_phraseOf_27 : at_ kX12_phraseOf 27 = (0, oIload 2 28) := rfl
theorem aX12_phraseOf_28 : at_ kX12_phraseOf 28 = (0, oRload 0 29) := rfl
theorem aX12_phraseOf_29 : at_ kX12_phraseOf 29 = (0, oGetf 14 75 0 32) := rfl
theorem aX12_phraseOf_32 : at_ kX12_phraseOf 32 = (0, oIcGe 44 35) := rfl
theorem aX12_phraseOf_35 : at_ kX12_phraseOf 35 = (0, oRload 0 36) := rfl
theorem aX12_phraseOf_36 : at_ kX12_phraseOf 36 = (0, oGetf 14 73 2 39) := rfl
theorem aX12_phraseOf_39 : at_ kX12_phraseOf 39 = (0, oIload 2 40) := rfl
theorem aX12_phraseOf_40 : at_ kX12_phraseOf 40 = (0, oIald 41) := rfl
theorem aX12_phraseOf_41 : at_ kX12_phraseOf 41 = (0, oGoto 45) := rfl
theorem aX12_phraseOf_44 : at_ kX12_phraseOf 44 = (0, oPush (vI (-1)) 45) := rfl
theorem aX12_phraseOf_45 : at_ kX12_phraseOf 45 = (0, oRetI) := rfl
def kX12_claim_0 : List En := [(0, oRload 0 1), (0, oIload 1 2), (0, oIload 2 3), (2, oInvV 14 mX12_phraseOf 2 6), (1, oFail), (1, oFail), (0, oIstore 4 8), (1, oFail), (0, oIload 4 10), (1, oFail), (0, oPush (vI (-1)) 11), (0, oIcNe 16 14), (1, oFail), (1, oFail), (0, oPush (vI (-1)) 15), (0, oRetI)]
set_option maxRecDepth 20000 in
theorem zX12_claim_0 : SndL mX12_claim 0 kX12_claim_0 := SndL.c (s_aload_n (k := 0) (by decide +kernel) rfl) (SndL.c (s_iload_n (k := 1) (by decide +kernel) rfl) (SndL.c (s_iload_n (k := 2) (by decide +kernel) rfl) (SndL.c (s_invV (r := (RX12, TX12, 90)) (ci := 13) okX12_phraseOf rfl (by decide) rfl rfl w_6_239 w_7_1 v_38 (by decide +kernel)) (SndL.c (s_fail) (SndL.c (s_fail) (SndL.c (s_istore (by decide +kernel) (by decide)) (SndL.c (s_fail) (SndL.c (s_iload (by decide +kernel)) (SndL.c (s_fail) (SndL.c (s_iconst (by decide +kernel) (in32_d (by decide))) (SndL.c (s_ic_ne (off := 5) (by decide +kernel) (by decide)) (SndL.c (s_fail) (SndL.c (s_fail) (SndL.c (s_iconst (by decide +kernel) (in32_d (by decide))) (SndL.c (s_ret_i rfl (by decide +kernel)) (SndL.n))))))))))))))))
def kX12_claim_1 : List En := [(0, oIload 3 17), (0, oSwitch 0 7 [64, 72, 80, 88, 95, 98, 122, 142] 166), (1, oFail), (1, oFail), (1, oFail), (1, oFail), (1, oFail), (1, oFail), (1, oFail), (1, oFail), (1, oFail), (1, oFail), (1, oFail), (1, oFail), (1, oFail), (1, oFail)]
set_option maxRecDepth 20000 in
theorem zX12_claim_1 : SndL mX12_claim 16 kX12_claim_1 := SndL.c (s_iload_n (k := 3) (by decide +kernel) rfl) (SndL.c (s_switch2 (dflt := 149) (lo := 0) (hi := 7) (len := 47) (offs := #[47, 55, 63, 71, 78, 81, 105, 125]) (by decide +kernel) (by decide) (by decide +kernel) (by decide +kernel)) (SndL.c (s_fail) (SndL.c (s_fail) (SndL.c (s_fail) (SndL.c (s_fail) (SndL.c (s_fail) (SndL.c (s_fail) (SndL.c (s_fail) (SndL.c (s_fail) (SndL.c (s_fail) (SndL.c (s_fail) (SndL.c (s_fail) (SndL.c (s_fail) (SndL.c (s_fail) (SndL.c (s_fail) (SndL.n))))))))))))))))
def kX12_claim_2 : List En := [(1, oFail), (1, oFail), (1, oFail), (1, oFail), (1, oFail), (1, oFail), (1, oFail), (1, oFail), (1, oFail), (1, oFail), (1, oFail), (1, oFail), (1, oFail), (1, oFail), (1, oFail), (1, oFail)]
set_option maxRecDepth 20000 in
theorem zX12_claim_2 : SndL mX12_claim 32 kX12_claim_2 := SndL.c (s_fail) (SndL.c (s_fail) (SndL.c (s_fail) (SndL.c (s_fail) (SndL.c (s_fail) (SndL.c (s_fail) (SndL.c (s_fail) (SndL.c (s_fail) (SndL.c (s_fail) (SndL.c (s_fail) (SndL.c (s_fail) (SndL.c (s_fail) (SndL.c (s_fail) (SndL.c (s_fail) (SndL.c (s_fail) (SndL.c (s_fail) (SndL.n))))))))))))))))
def kX12_claim_3 : List En := [(1, oFail), (1, oFail), (1, oFail), (1, oFail), (1, oFail), (1, oFail), (1, oFail), (1, oFail), (1, oFail), (1, oFail), (1, oFail), (1, oFail), (1, oFail), (1, oFail), (1, oFail), (1, oFail)]
set_option maxRecDepth 20000 in
theorem zX12_claim_3 : SndL mX12_claim 48 kX12_claim_3 := SndL.c (s_fail) (SndL.c (s_fail) (SndL.c (s_fail) (SndL.c (s_fail) (SndL.c (s_fail) (SndL.c (s_fail) (SndL.c (s_fail) (SndL.c (s_fail) (SndL.c (s_fail) (SndL.c (s_fail) (SndL.c (s_fail) (SndL.c (s_fail) (SndL.c (s_fail) (SndL.c (s_fail) (SndL.c (s_fail) (SndL.c (s_fail) (SndL.n))))))))))))))))
def kX12_claim_4 : List En := [(0, oRload 0 65), (0, oGetf 14 34 2 68), (1, oFail), (1, oFail), (0, oIload 4 70), (1, oFail), (0, oIald 71), (0, oRetI), (0, oRload 0 73), (0, oGetf 14 35 2 76), (1, oFail), (1, oFail), (0, oIload 4 78), (1, oFail), (0, oIald 79), (0, oRetI)]
set_option maxRecDepth 20000 in
theorem zX12_claim_4 : SndL mX12_claim 64 kX12_claim_4 := SndL.c (s_aload_n (k := 0) (by decide +kernel) rfl) (SndL.c (s_getf (k := 34) clok13 (by decide) rfl (by decide) rfl w_5_136 (Or.inl rfl) (by decide +kernel)) (SndL.c (s_fail) (SndL.c (s_fail) (SndL.c (s_iload (by decide +kernel)) (SndL.c (s_fail) (SndL.c (s_iald (by decide +kernel)) (SndL.c (s_ret_i rfl (by decide +kernel)) (SndL.c (s_aload_n (k := 0) (by decide +kernel) rfl) (SndL.c (s_getf (k := 35) clok13 (by decide) rfl (by decide) rfl w_5_137 (Or.inl rfl) (by decide +kernel)) (SndL.c (s_fail) (SndL.c (s_fail) (SndL.c (s_iload (by decide +kernel)) (SndL.c (s_fail) (SndL.c (s_iald (by decide +kernel)) (SndL.c (s_ret_i rfl (by decide +kernel)) (SndL.n))))))))))))))))
def kX12_claim_5 : List En := [(0, oRload 0 81), (0, oGetf 14 36 2 84), (1, oFail), (1, oFail), (0, oIload 4 86), (1, oFail), (0, oIald 87), (0, oRetI), (0, oRload 0 89), (0, oGetf 14 74 2 92), (1, oFail), (1, oFail), (0, oIload 2 93), (0, oIald 94), (0, oRetI), (0, oIload 4 97)]
set_option maxRecDepth 20000 in
theorem zX12_claim_5 : SndL mX12_claim 80 kX12_claim_5 := SndL.c (s_aload_n (k := 0) (by decide +kernel) rfl) (SndL.c (s_getf (k := 36) clok13 (by decide) rfl (by decide) rfl w_5_138 (Or.inl rfl) (by decide +kernel)) (SndL.c (s_fail) (SndL.c (s_fail) (SndL.c (s_iload (by decide +kernel)) (SndL.c (s_fail) (SndL.c (s_iald (by decide +kernel)) (SndL.c (s_ret_i rfl (by decide +kernel)) (SndL.c (s_aload_n (k := 0) (by decide +kernel) rfl) (SndL.c (s_getf (k := 74) clok13 (by decide) rfl (by decide) rfl w_5_176 (Or.inl rfl) (by decide +kernel)) (SndL.c (s_fail) (SndL.c (s_fail) (SndL.c (s_iload_n (k := 2) (by decide +kernel) rfl) (SndL.c (s_iald (by decide +kernel)) (SndL.c (s_ret_i rfl (by decide +kernel)) (SndL.c (s_iload (by decide +kernel)) (SndL.n))))))))))))))))
def kX12_claim_6 : List En := [(1, oFail), (0, oRetI), (0, oRload 0 99), (0, oIload 1 100), (0, oIload 4 102), (1, oFail), (0, oRload 0 103), (0, oGetf 14 0 0 106), (1, oFail), (1, oFail), (0, oRload 0 107), (0, oGetf 14 0 0 110), (1, oFail), (1, oFail), (2, oInvV 14 mX12_isTakenBack 4 113), (1, oFail)]
set_option maxRecDepth 20000 in
theorem zX12_claim_6 : SndL mX12_claim 96 kX12_claim_6 := SndL.c (s_fail) (SndL.c (s_ret_i rfl (by decide +kernel)) (SndL.c (s_aload_n (k := 0) (by decide +kernel) rfl) (SndL.c (s_iload_n (k := 1) (by decide +kernel) rfl) (SndL.c (s_iload (by decide +kernel)) (SndL.c (s_fail) (SndL.c (s_aload_n (k := 0) (by decide +kernel) rfl) (SndL.c (s_getf (k := 0) clok13 (by decide) rfl (by decide) rfl w_5_102 (Or.inl rfl) (by decide +kernel)) (SndL.c (s_fail) (SndL.c (s_fail) (SndL.c (s_aload_n (k := 0) (by decide +kernel) rfl) (SndL.c (s_getf (k := 0) clok13 (by decide) rfl (by decide) rfl w_5_102 (Or.inl rfl) (by decide +kernel)) (SndL.c (s_fail) (SndL.c (s_fail) (SndL.c (s_invV (r := (RX12, TX12, 90)) (ci := 13) okX12_isTakenBack rfl (by decide) rfl rfl w_7_3 w_7_5 v_39 (by decide +kernel)) (SndL.c (s_fail) (SndL.n))))))))))))))))
def kX12_claim_7 : List En := [(1, oFail), (0, oIfEq 120 116), (1, oFail), (1, oFail), (0, oPush (vI 1) 117), (0, oGoto 121), (1, oFail), (1, oFail), (0, oPush (vI 0) 121), (0, oRetI), (0, oRload 0 123), (0, oIload 1 124), (0, oIload 4 126), (1, oFail), (0, oRload 0 127), (0, oGetf 14 0 0 130)]
set_option maxRecDepth 20000 in
theorem zX12_claim_7 : SndL mX12_claim 112 kX12_claim_7 := SndL.c (s_fail) (SndL.c (s_if_eq (off := 7) (by decide +kernel) (by decide)) (SndL.c (s_fail) (SndL.c (s_fail) (SndL.c (s_iconst (by decide +kernel) (in32_d (by decide))) (SndL.c (s_goto (off := 4) (by decide +kernel) (by decide)) (SndL.c (s_fail) (SndL.c (s_fail) (SndL.c (s_iconst (by decide +kernel) (in32_d (by decide))) (SndL.c (s_ret_i rfl (by decide +kernel)) (SndL.c (s_aload_n (k := 0) (by decide +kernel) rfl) (SndL.c (s_iload_n (k := 1) (by decide +kernel) rfl) (SndL.c (s_iload (by decide +kernel)) (SndL.c (s_fail) (SndL.c (s_aload_n (k := 0) (by decide +kernel) rfl) (SndL.c (s_getf (k := 0) clok13 (by decide) rfl (by decide) rfl w_5_102 (Or.inl rfl) (by decide +kernel)) (SndL.n))))))))))))))))
def kX12_claim_8 : List En := [(1, oFail), (1, oFail), (2, oInvV 14 mX12_isBorneOut 3 133), (1, oFail), (1, oFail), (0, oIfEq 140 136), (1, oFail), (1, oFail), (0, oPush (vI 1) 137), (0, oGoto 141), (1, oFail), (1, oFail), (0, oPush (vI 0) 141), (0, oRetI), (0, oRload 0 143), (0, oIload 1 144)]
set_option maxRecDepth 20000 in
theorem zX12_claim_8 : SndL mX12_claim 128 kX12_claim_8 := SndL.c (s_fail) (SndL.c (s_fail) (SndL.c (s_invV (r := (RX12, TX12, 90)) (ci := 13) okX12_isBorneOut rfl (by decide) rfl rfl w_7_7 w_7_9 v_40 (by decide +kernel)) (SndL.c (s_fail) (SndL.c (s_fail) (SndL.c (s_if_eq (off := 7) (by decide +kernel) (by decide)) (SndL.c (s_fail) (SndL.c (s_fail) (SndL.c (s_iconst (by decide +kernel) (in32_d (by decide))) (SndL.c (s_goto (off := 4) (by decide +kernel) (by decide)) (SndL.c (s_fail) (SndL.c (s_fail) (SndL.c (s_iconst (by decide +kernel) (in32_d (by decide))) (SndL.c (s_ret_i rfl (by decide +kernel)) (SndL.c (s_aload_n (k := 0) (by decide +kernel) rfl) (SndL.c (s_iload_n (k := 1) (by decide +kernel) rfl) (SndL.n))))))))))))))))
def kX12_claim_9 : List En := [(0, oIload 4 146), (1, oFail), (0, oRload 0 147), (0, oGetf 14 0 0 150), (1, oFail), (1, oFail), (0, oRload 0 151), (0, oGetf 14 0 0 154), (1, oFail), (1, oFail), (2, oInvV 14 mX12_isAgain 4 157), (1, oFail), (1, oFail), (0, oIfEq 164 160), (1, oFail), (1, oFail)]
set_option maxRecDepth 20000 in
theorem zX12_claim_9 : SndL mX12_claim 144 kX12_claim_9 := SndL.c (s_iload (by decide +kernel)) (SndL.c (s_fail) (SndL.c (s_aload_n (k := 0) (by decide +kernel) rfl) (SndL.c (s_getf (k := 0) clok13 (by decide) rfl (by decide) rfl w_5_102 (Or.inl rfl) (by decide +kernel)) (SndL.c (s_fail) (SndL.c (s_fail) (SndL.c (s_aload_n (k := 0) (by decide +kernel) rfl) (SndL.c (s_getf (k := 0) clok13 (by decide) rfl (by decide) rfl w_5_102 (Or.inl rfl) (by decide +kernel)) (SndL.c (s_fail) (SndL.c (s_fail) (SndL.c (s_invV (r := (RX12, TX12, 90)) (ci := 13) okX12_isAgain rfl (by decide) rfl rfl w_7_19 w_7_21 v_43 (by decide +kernel)) (SndL.c (s_fail) (SndL.c (s_fail) (SndL.c (s_if_eq (off := 7) (by decide +kernel) (by decide)) (SndL.c (s_fail) (SndL.c (s_fail) (SndL.n))))))))))))))))
def kX12_claim_10 : List En := [(0, oPush (vI 1) 161), (0, oGoto 165), (1, oFail), (1, oFail), (0, oPush (vI 0) 165), (0, oRetI), (0, oPush (vI (-1)) 167), (0, oRetI)]
set_option maxRecDepth 20000 in
theorem zX12_claim_10 : SndL mX12_claim 160 kX12_claim_10 := SndL.c (s_iconst (by decide +kernel) (in32_d (by decide))) (SndL.c (s_goto (off := 4) (by decide +kernel) (by decide)) (SndL.c (s_fail) (SndL.c (s_fail) (SndL.c (s_iconst (by decide +kernel) (in32_d (by decide))) (SndL.c (s_ret_i rfl (by decide +kernel)) (SndL.c (s_iconst (by decide +kernel) (in32_d (by decide))) (SndL.c (s_ret_i rfl (by decide +kernel)) (SndL.n))))))))
def kX12_claim : Cd := [kX12_claim_0, kX12_claim_1, kX12_claim_2, kX12_claim_3, kX12_claim_4, kX12_claim_5, kX12_claim_6, kX12_claim_7, kX12_claim_8, kX12_claim_9, kX12_claim_10]
theorem zX12_claim : SndC mX12_claim 0 kX12_claim := SndC.c zX12_claim_0 (by decide) (SndC.c zX12_claim_1 (by decide) (SndC.c zX12_claim_2 (by decide) (SndC.c zX12_claim_3 (by decide) (SndC.c zX12_claim_4 (by decide) (SndC.c zX12_claim_5 (by decide) (SndC.c zX12_claim_6 (by decide) (SndC.c zX12_claim_7 (by decide) (SndC.c zX12_claim_8 (by decide) (SndC.c zX12_claim_9 (by decide) (SndC.c zX12_claim_10 (by decide) (SndC.n)))))))))))
theorem aX12_claim_0 : at_ kX12_claim 0 = (0, oRload 0 1) := rfl
theorem aX12_claim_1 : at_ kX12_claim 1 = (0, oIload 1 2) := rfl
theorem aX12_claim_2 : at_ kX12_claim 2 = (0, oIload 2 3) := rfl
theorem aX12_claim_3 : at_ kX12_claim 3 = (2, oInvV 14 mX12_phraseOf 2 6) := rfl
theorem aX12_claim_6 : at_ kX12_claim 6 = (0, oIstore 4 8) := rfl
theorem aX12_claim_8 : at_ kX12_claim 8 = (0, oIload 4 10) := rfl
theorem aX12_claim_10 : at_ kX12_claim 10 = (0, oPush (vI (-1)) 11) := rfl
theorem aX12_claim_11 : at_ kX12_claim 11 = (0, oIcNe 16 14) := rfl
theorem aX12_claim_14 : at_ kX12_claim 14 = (0, oPush (vI (-1)) 15) := rfl
theorem aX12_claim_15 : at_ kX12_claim 15 = (0, oRetI) := rfl
theorem aX12_claim_16 : at_ kX12_claim 16 = (0, oIload 3 17) := rfl
theorem aX12_claim_17 : at_ kX12_claim 17 = (0, oSwitch 0 7 [64, 72, 80, 88, 95, 98, 122, 142] 166) := rfl
theorem aX12_claim_64 : at_ kX12_claim 64 = (0, oRload 0 65) := rfl
theorem aX12_claim_65 : at_ kX12_claim 65 = (0, oGetf 14 34 2 68) := rfl
theorem aX12_claim_68 : at_ kX12_claim 68 = (0, oIload 4 70) := rfl
theorem aX12_claim_70 : at_ kX12_claim 70 = (0, oIald 71) := rfl
theorem aX12_claim_71 : at_ kX12_claim 71 = (0, oRetI) := rfl
theorem aX12_claim_72 : at_ kX12_claim 72 = (0, oRload 0 73) := rfl
theorem aX12_claim_73 : at_ kX12_claim 73 = (0, oGetf 14 35 2 76) := rfl
theorem aX12_claim_76 : at_ kX12_claim 76 = (0, oIload 4 78) := rfl
theorem aX12_claim_78 : at_ kX12_claim 78 = (0, oIald 79) := rfl
theorem aX12_claim_79 : at_ kX12_claim 79 = (0, oRetI) := rfl
theorem aX12_claim_80 : at_ kX12_claim 80 = (0, oRload 0 81) := rfl
theorem aX12_claim_81 : at_ kX12_claim 81 = (0, oGetf 14 36 2 84) := rfl
theorem aX12_claim_84 : at_ kX12_claim 84 = (0, oIload 4 86) := rfl
theorem aX12_claim_86 : at_ kX12_claim 86 = (0, oIald 87) := rfl
theorem aX12_claim_87 : at_ kX12_claim 87 = (0, oRetI) := rfl
theorem aX12_claim_88 : at_ kX12_claim 88 = (0, oRload 0 89) := rfl
theorem aX12_claim_89 : at_ kX12_claim 89 = (0, oGetf 14 74 2 92) := rfl
theorem aX12_claim_92 : at_ kX12_claim 92 = (0, oIload 2 93) := rfl
theorem aX12_claim_93 : at_ kX12_claim 93 = (0, oIald 94) := rfl
theorem aX12_claim_94 : at_ kX12_claim 94 = (0, oRetI) := rfl
theorem aX12_claim_95 : at_ kX12_claim 95 = (0, oIload 4 97) := rfl
theorem aX12_claim_97 : at_ kX12_claim 97 = (0, oRetI) := rfl
theorem aX12_claim_98 : at_ kX12_claim 98 = (0, oRload 0 99) := rfl
theorem aX12_claim_99 : at_ kX12_claim 99 = (0, oIload 1 100) := rfl
theorem aX12_claim_100 : at_ kX12_claim 100 = (0, oIload 4 102) := rfl
theorem aX12_claim_102 : at_ kX12_claim 102 = (0, oRload 0 103) := rfl
theorem aX12_claim_103 : at_ kX12_claim 103 = (0, oGetf 14 0 0 106) := rfl
theorem aX12_claim_106 : at_ kX12_claim 106 = (0, oRload 0 107) := rfl
theorem aX12_claim_107 : at_ kX12_claim 107 = (0, oGetf 14 0 0 110) := rfl
theorem aX12_claim_110 : at_ kX12_claim 110 = (2, oInvV 14 mX12_isTakenBack 4 113) := rfl
theorem aX12_claim_113 : at_ kX12_claim 113 = (0, oIfEq 120 116) := rfl
theorem aX12_claim_116 : at_ kX12_claim 116 = (0, oPush (vI 1) 117) := rfl
theorem aX12_claim_117 : at_ kX12_claim 117 = (0, oGoto 121) := rfl
theorem aX12_claim_120 : at_ kX12_claim 120 = (0, oPush (vI 0) 121) := rfl
theorem aX12_claim_121 : at_ kX12_claim 121 = (0, oRetI) := rfl
theorem aX12_claim_122 : at_ kX12_claim 122 = (0, oRload 0 123) := rfl
theorem aX12_claim_123 : at_ kX12_claim 123 = (0, oIload 1 124) := rfl
theorem aX12_claim_124 : at_ kX12_claim 124 = (0, oIload 4 126) := rfl
theorem aX12_claim_126 : at_ kX12_claim 126 = (0, oRload 0 127) := rfl
theorem aX12_claim_127 : at_ kX12_claim 127 = (0, oGetf 14 0 0 130) := rfl
theorem aX12_claim_130 : at_ kX12_claim 130 = (2, oInvV 14 mX12_isBorneOut 3 133) := rfl
theorem aX12_claim_133 : at_ kX12_claim 133 = (0, oIfEq 140 136) := rfl
theorem aX12_claim_136 : at_ kX12_claim 136 = (0, oPush (vI 1) 137) := rfl
theorem aX12_claim_137 : at_ kX12_claim 137 = (0, oGoto 141) := rfl
theorem aX12_claim_140 : at_ kX12_claim 140 = (0, oPush (vI 0) 141) := rfl
theorem aX12_claim_141 : at_ kX12_claim 141 = (0, oRetI) := rfl
theorem aX12_claim_142 : at_ kX12_claim 142 = (0, oRload 0 143) := rfl
theorem aX12_claim_143 : at_ kX12_claim 143 = (0, oIload 1 144) := rfl
theorem aX12_claim_144 : at_ kX12_claim 144 = (0, oIload 4 146) := rfl
theorem aX12_claim_146 : at_ kX12_claim 146 = (0, oRload 0 147) := rfl
theorem aX12_claim_147 : at_ kX12_claim 147 = (0, oGetf 14 0 0 150) := rfl
theorem aX12_claim_150 : at_ kX12_claim 150 = (0, oRload 0 151) := rfl
theorem aX12_claim_151 : at_ kX12_claim 151 = (0, oGetf 14 0 0 154) := rfl
theorem aX12_claim_154 : at_ kX12_claim 154 = (2, oInvV 14 mX12_isAgain 4 157) := rfl
theorem aX12_claim_157 : at_ kX12_claim 157 = (0, oIfEq 164 160) := rfl
theorem aX12_claim_160 : at_ kX12_claim 160 = (0, oPush (vI 1) 161) := rfl
theorem aX12_claim_161 : at_ kX12_claim 161 = (0, oGoto 165) := rfl
theorem aX12_claim_164 : at_ kX12_claim 164 = (0, oPush (vI 0) 165) := rfl
theorem aX12_claim_165 : at_ kX12_claim 165 = (0, oRetI) := rfl
theorem aX12_claim_166 : at_ kX12_claim 166 = (0, oPush (vI (-1)) 167) := rfl
theorem aX12_claim_167 : at_ kX12_claim 167 = (0, oRetI) := rfl
def kX12_keep_0 : List En := [(0, oIload 1 1), (2, oInvS mX12_isShelf 1 4), (1, oFail), (1, oFail), (0, oIfNe 13 7), (1, oFail), (1, oFail), (0, oRload 0 8), (0, oPush (vI (-1)) 9), (2, oInvV 14 mX12_no 1 12), (1, oFail), (1, oFail), (0, oRetI), (0, oIload 2 14), (0, oPush (vI (-1)) 15), (0, oIcNe 27 18)]
set_option maxRecDepth 20000 in
theorem zX12_keep_0 : SndL mX12_keep 0 kX12_keep_0 := SndL.c (s_iload_n (k := 1) (by decide +kernel) rfl) (SndL.c (s_invS okX12_isShelf w_6_146 w_6_147 (by decide +kernel)) (SndL.c (s_fail) (SndL.c (s_fail) (SndL.c (s_if_ne (off := 9) (by decide +kernel) (by decide)) (SndL.c (s_fail) (SndL.c (s_fail) (SndL.c (s_aload_n (k := 0) (by decide +kernel) rfl) (SndL.c (s_iconst (by decide +kernel) (in32_d (by decide))) (SndL.c (s_invV (r := (RX12, TX12, 90)) (ci := 13) okX12_no rfl (by decide) rfl rfl w_6_138 w_6_140 v_29 (by decide +kernel)) (SndL.c (s_fail) (SndL.c (s_fail) (SndL.c (s_ret_i rfl (by decide +kernel)) (SndL.c (s_iload_n (k := 2) (by decide +kernel) rfl) (SndL.c (s_iconst (by decide +kernel) (in32_d (by decide))) (SndL.c (s_ic_ne (off := 12) (by decide +kernel) (by decide)) (SndL.n))))))))))))))))
def kX12_keep_1 : List En := [(1, oFail), (1, oFail), (0, oRload 0 19), (0, oGetf 14 11 2 22), (1, oFail), (1, oFail), (0, oIload 1 23), (0, oPush (vI 0) 24), (0, oIast 25), (0, oPush (vI (-1)) 26), (0, oRetI), (0, oRload 0 28), (0, oIload 2 29), (0, oIload 3 30), (2, oInvV 14 mX12_phraseOf 2 33), (1, oFail)]
set_option maxRecDepth 20000 in
theorem zX12_keep_1 : SndL mX12_keep 16 kX12_keep_1 := SndL.c (s_fail) (SndL.c (s_fail) (SndL.c (s_aload_n (k := 0) (by decide +kernel) rfl) (SndL.c (s_getf (k := 11) clok13 (by decide) rfl (by decide) rfl w_5_113 (Or.inl rfl) (by decide +kernel)) (SndL.c (s_fail) (SndL.c (s_fail) (SndL.c (s_iload_n (k := 1) (by decide +kernel) rfl) (SndL.c (s_iconst (by decide +kernel) (in32_d (by decide))) (SndL.c (s_iast (by decide +kernel)) (SndL.c (s_iconst (by decide +kernel) (in32_d (by decide))) (SndL.c (s_ret_i rfl (by decide +kernel)) (SndL.c (s_aload_n (k := 0) (by decide +kernel) rfl) (SndL.c (s_iload_n (k := 2) (by decide +kernel) rfl) (SndL.c (s_iload_n (k := 3) (by decide +kernel) rfl) (SndL.c (s_invV (r := (RX12, TX12, 90)) (ci := 13) okX12_phraseOf rfl (by decide) rfl rfl w_6_239 w_7_1 v_38 (by decide +kernel)) (SndL.c (s_fail) (SndL.n))))))))))))))))
def kX12_keep_2 : List En := [(1, oFail), (0, oIstore 4 35), (1, oFail), (0, oIload 4 37), (1, oFail), (0, oPush (vI (-1)) 38), (0, oIcNe 47 41), (1, oFail), (1, oFail), (0, oRload 0 42), (0, oPush (vI (-1)) 43), (2, oInvV 14 mX12_no 1 46), (1, oFail), (1, oFail), (0, oRetI), (0, oRload 0 48)]
set_option maxRecDepth 20000 in
theorem zX12_keep_2 : SndL mX12_keep 32 kX12_keep_2 := SndL.c (s_fail) (SndL.c (s_istore (by decide +kernel) (by decide)) (SndL.c (s_fail) (SndL.c (s_iload (by decide +kernel)) (SndL.c (s_fail) (SndL.c (s_iconst (by decide +kernel) (in32_d (by decide))) (SndL.c (s_ic_ne (off := 9) (by decide +kernel) (by decide)) (SndL.c (s_fail) (SndL.c (s_fail) (SndL.c (s_aload_n (k := 0) (by decide +kernel) rfl) (SndL.c (s_iconst (by decide +kernel) (in32_d (by decide))) (SndL.c (s_invV (r := (RX12, TX12, 90)) (ci := 13) okX12_no rfl (by decide) rfl rfl w_6_138 w_6_140 v_29 (by decide +kernel)) (SndL.c (s_fail) (SndL.c (s_fail) (SndL.c (s_ret_i rfl (by decide +kernel)) (SndL.c (s_aload_n (k := 0) (by decide +kernel) rfl) (SndL.n))))))))))))))))
def kX12_keep_3 : List En := [(0, oGetf 14 11 2 51), (1, oFail), (1, oFail), (0, oIload 1 52), (0, oPush (vI 2) 53), (0, oIast 54), (0, oRload 0 55), (0, oGetf 14 14 2 58), (1, oFail), (1, oFail), (0, oIload 1 59), (0, oIload 4 61), (1, oFail), (0, oIast 62), (0, oRload 0 63), (0, oGetf 14 15 2 66)]
set_option maxRecDepth 20000 in
theorem zX12_keep_3 : SndL mX12_keep 48 kX12_keep_3 := SndL.c (s_getf (k := 11) clok13 (by decide) rfl (by decide) rfl w_5_113 (Or.inl rfl) (by decide +kernel)) (SndL.c (s_fail) (SndL.c (s_fail) (SndL.c (s_iload_n (k := 1) (by decide +kernel) rfl) (SndL.c (s_iconst (by decide +kernel) (in32_d (by decide))) (SndL.c (s_iast (by decide +kernel)) (SndL.c (s_aload_n (k := 0) (by decide +kernel) rfl) (SndL.c (s_getf (k := 14) clok13 (by decide) rfl (by decide) rfl w_5_116 (Or.inl rfl) (by decide +kernel)) (SndL.c (s_fail) (SndL.c (s_fail) (SndL.c (s_iload_n (k := 1) (by decide +kernel) rfl) (SndL.c (s_iload (by decide +kernel)) (SndL.c (s_fail) (SndL.c (s_iast (by decide +kernel)) (SndL.c (s_aload_n (k := 0) (by decide +kernel) rfl) (SndL.c (s_getf (k := 15) clok13 (by decide) rfl (by decide) rfl w_5_117 (Or.inl rfl) (by decide +kernel)) (SndL.n))))))))))))))))
def kX12_keep_4 : List En := [(1, oFail), (1, oFail), (0, oIload 1 67), (0, oRload 0 68), (0, oGetf 14 34 2 71), (1, oFail), (1, oFail), (0, oIload 4 73), (1, oFail), (0, oIald 74), (0, oIast 75), (0, oRload 0 76), (0, oGetf 14 16 2 79), (1, oFail), (1, oFail), (0, oIload 1 80)]
set_option maxRecDepth 20000 in
theorem zX12_keep_4 : SndL mX12_keep 64 kX12_keep_4 := SndL.c (s_fail) (SndL.c (s_fail) (SndL.c (s_iload_n (k := 1) (by decide +kernel) rfl) (SndL.c (s_aload_n (k := 0) (by decide +kernel) rfl) (SndL.c (s_getf (k := 34) clok13 (by decide) rfl (by decide) rfl w_5_136 (Or.inl rfl) (by decide +kernel)) (SndL.c (s_fail) (SndL.c (s_fail) (SndL.c (s_iload (by decide +kernel)) (SndL.c (s_fail) (SndL.c (s_iald (by decide +kernel)) (SndL.c (s_iast (by decide +kernel)) (SndL.c (s_aload_n (k := 0) (by decide +kernel) rfl) (SndL.c (s_getf (k := 16) clok13 (by decide) rfl (by decide) rfl w_5_118 (Or.inl rfl) (by decide +kernel)) (SndL.c (s_fail) (SndL.c (s_fail) (SndL.c (s_iload_n (k := 1) (by decide +kernel) rfl) (SndL.n))))))))))))))))
def kX12_keep_5 : List En := [(0, oRload 0 81), (0, oGetf 14 35 2 84), (1, oFail), (1, oFail), (0, oIload 4 86), (1, oFail), (0, oIald 87), (0, oIast 88), (0, oRload 0 89), (0, oGetf 14 17 2 92), (1, oFail), (1, oFail), (0, oIload 1 93), (0, oRload 0 94), (0, oGetf 14 36 2 97), (1, oFail)]
set_option maxRecDepth 20000 in
theorem zX12_keep_5 : SndL mX12_keep 80 kX12_keep_5 := SndL.c (s_aload_n (k := 0) (by decide +kernel) rfl) (SndL.c (s_getf (k := 35) clok13 (by decide) rfl (by decide) rfl w_5_137 (Or.inl rfl) (by decide +kernel)) (SndL.c (s_fail) (SndL.c (s_fail) (SndL.c (s_iload (by decide +kernel)) (SndL.c (s_fail) (SndL.c (s_iald (by decide +kernel)) (SndL.c (s_iast (by decide +kernel)) (SndL.c (s_aload_n (k := 0) (by decide +kernel) rfl) (SndL.c (s_getf (k := 17) clok13 (by decide) rfl (by decide) rfl w_5_119 (Or.inl rfl) (by decide +kernel)) (SndL.c (s_fail) (SndL.c (s_fail) (SndL.c (s_iload_n (k := 1) (by decide +kernel) rfl) (SndL.c (s_aload_n (k := 0) (by decide +kernel) rfl) (SndL.c (s_getf (k := 36) clok13 (by decide) rfl (by decide) rfl w_5_138 (Or.inl rfl) (by decide +kernel)) (SndL.c (s_fail) (SndL.n))))))))))))))))
def kX12_keep_6 : List En := [(1, oFail), (0, oIload 4 99), (1, oFail), (0, oIald 100), (0, oIast 101), (0, oRload 0 102), (0, oGetf 14 34 2 105), (1, oFail), (1, oFail), (0, oIload 4 107), (1, oFail), (0, oIald 108), (0, oRetI)]
set_option maxRecDepth 20000 in
theorem zX12_keep_6 : SndL mX12_keep 96 kX12_keep_6 := SndL.c (s_fail) (SndL.c (s_iload (by decide +kernel)) (SndL.c (s_fail) (SndL.c (s_iald (by decide +kernel)) (SndL.c (s_iast (by decide +kernel)) (SndL.c (s_aload_n (k := 0) (by decide +kernel) rfl) (SndL.c (s_getf (k := 34) clok13 (by decide) rfl (by decide) rfl w_5_136 (Or.inl rfl) (by decide +kernel)) (SndL.c (s_fail) (SndL.c (s_fail) (SndL.c (s_iload (by decide +kernel)) (SndL.c (s_fail) (SndL.c (s_iald (by decide +kernel)) (SndL.c (s_ret_i rfl (by decide +kernel)) (SndL.n)))))))))))))
def kX12_keep : Cd := [kX12_keep_0, kX12_keep_1, kX12_keep_2, kX12_keep_3, kX12_keep_4, kX12_keep_5, kX12_keep_6]
theorem zX12_keep : SndC mX12_keep 0 kX12_keep := SndC.c zX12_keep_0 (by decide) (SndC.c zX12_keep_1 (by decide) (SndC.c zX12_keep_2 (by decide) (SndC.c zX12_keep_3 (by decide) (SndC.c zX12_keep_4 (by decide) (SndC.c zX12_keep_5 (by decide) (SndC.c zX12_keep_6 (by decide) (SndC.n)))))))
theorem aX12_keep_0 : at_ kX12_keep 0 = (0, oIload 1 1) := rfl
theorem aX12_keep_1 : at_ kX12_keep 1 = (2, oInvS mX12_isShelf 1 4) := rfl
theorem aX12_keep_4 : at_ kX12_keep 4 = (0, oIfNe 13 7) := rfl
theorem aX12_keep_7 : at_ kX12_keep 7 = (0, oRload 0 8) := rfl
theorem aX12_keep_8 : at_ kX12_keep 8 = (0, oPush (vI (-1)) 9) := rfl
theorem aX12_keep_9 : at_ kX12_keep 9 = (2, oInvV 14 mX12_no 1 12) := rfl
theorem aX12_keep_12 : at_ kX12_keep 12 = (0, oRetI) := rfl
theorem aX12_keep_13 : at_ kX12_keep 13 = (0, oIload 2 14) := rfl
theorem aX12_keep_14 : at_ kX12_keep 14 = (0, oPush (vI (-1)) 15) := rfl
theorem aX12_keep_15 : at_ kX12_keep 15 = (0, oIcNe 27 18) := rfl
theorem aX12_keep_18 : at_ kX12_keep 18 = (0, oRload 0 19) := rfl
theorem aX12_keep_19 : at_ kX12_keep 19 = (0, oGetf 14 11 2 22) := rfl
theorem aX12_keep_22 : at_ kX12_keep 22 = (0, oIload 1 23) := rfl
theorem aX12_keep_23 : at_ kX12_keep 23 = (0, oPush (vI 0) 24) := rfl
theorem aX12_keep_24 : at_ kX12_keep 24 = (0, oIast 25) := rfl
theorem aX12_keep_25 : at_ kX12_keep 25 = (0, oPush (vI (-1)) 26) := rfl
theorem aX12_keep_26 : at_ kX12_keep 26 = (0, oRetI) := rfl
theorem aX12_keep_27 : at_ kX12_keep 27 = (0, oRload 0 28) := rfl
theorem aX12_keep_28 : at_ kX12_keep 28 = (0, oIload 2 29) := rfl
theorem aX12_keep_29 : at_ kX12_keep 29 = (0, oIload 3 30) := rfl
theorem aX12_keep_30 : at_ kX12_keep 30 = (2, oInvV 14 mX12_phraseOf 2 33) := rfl
theorem aX12_keep_33 : at_ kX12_keep 33 = (0, oIstore 4 35) := rfl
theorem aX12_keep_35 : at_ kX12_keep 35 = (0, oIload 4 37) := rfl
theorem aX12_keep_37 : at_ kX12_keep 37 = (0, oPush (vI (-1)) 38) := rfl
theorem aX12_keep_38 : at_ kX12_keep 38 = (0, oIcNe 47 41) := rfl
theorem aX12_keep_41 : at_ kX12_keep 41 = (0, oRload 0 42) := rfl
theorem aX12_keep_42 : at_ kX12_keep 42 = (0, oPush (vI (-1)) 43) := rfl
theorem aX12_keep_43 : at_ kX12_keep 43 = (2, oInvV 14 mX12_no 1 46) := rfl
theorem aX12_keep_46 : at_ kX12_keep 46 = (0, oRetI) := rfl
theorem aX12_keep_47 : at_ kX12_keep 47 = (0, oRload 0 48) := rfl
theorem aX12_keep_48 : at_ kX12_keep 48 = (0, oGetf 14 11 2 51) := rfl
theorem aX12_keep_51 : at_ kX12_keep 51 = (0, oIload 1 52) := rfl
theorem aX12_keep_52 : at_ kX12_keep 52 = (0, oPush (vI 2) 53) := rfl
theorem aX12_keep_53 : at_ kX12_keep 53 = (0, oIast 54) := rfl
theorem aX12_keep_54 : at_ kX12_keep 54 = (0, oRload 0 55) := rfl
theorem aX12_keep_55 : at_ kX12_keep 55 = (0, oGetf 14 14 2 58) := rfl
theorem aX12_keep_58 : at_ kX12_keep 58 = (0, oIload 1 59) := rfl
theorem aX12_keep_59 : at_ kX12_keep 59 = (0, oIload 4 61) := rfl
theorem aX12_keep_61 : at_ kX12_keep 61 = (0, oIast 62) := rfl
theorem aX12_keep_62 : at_ kX12_keep 62 = (0, oRload 0 63) := rfl
theorem aX12_keep_63 : at_ kX12_keep 63 = (0, oGetf 14 15 2 66) := rfl
theorem aX12_keep_66 : at_ kX12_keep 66 = (0, oIload 1 67) := rfl
theorem aX12_keep_67 : at_ kX12_keep 67 = (0, oRload 0 68) := rfl
theorem aX12_keep_68 : at_ kX12_keep 68 = (0, oGetf 14 34 2 71) := rfl
theorem aX12_keep_71 : at_ kX12_keep 71 = (0, oIload 4 73) := rfl
theorem aX12_keep_73 : at_ kX12_keep 73 = (0, oIald 74) := rfl
theorem aX12_keep_74 : at_ kX12_keep 74 = (0, oIast 75) := rfl
theorem aX12_keep_75 : at_ kX12_keep 75 = (0, oRload 0 76) := rfl
theorem aX12_keep_76 : at_ kX12_keep 76 = (0, oGetf 14 16 2 79) := rfl
theorem aX12_keep_79 : at_ kX12_keep 79 = (0, oIload 1 80) := rfl
theorem aX12_keep_80 : at_ kX12_keep 80 = (0, oRload 0 81) := rfl
theorem aX12_keep_81 : at_ kX12_keep 81 = (0, oGetf 14 35 2 84) := rfl
theorem aX12_keep_84 : at_ kX12_keep 84 = (0, oIload 4 86) := rfl
theorem aX12_keep_86 : at_ kX12_keep 86 = (0, oIald 87) := rfl
theorem aX12_keep_87 : at_ kX12_keep 87 = (0, oIast 88) := rfl
theorem aX12_keep_88 : at_ kX12_keep 88 = (0, oRload 0 89) := rfl
theorem aX12_keep_89 : at_ kX12_keep 89 = (0, oGetf 14 17 2 92) := rfl
theorem aX12_keep_92 : at_ kX12_keep 92 = (0, oIload 1 93) := rfl
theorem aX12_keep_93 : at_ kX12_keep 93 = (0, oRload 0 94) := rfl
theorem aX12_keep_94 : at_ kX12_keep 94 = (0, oGetf 14 36 2 97) := rfl
theorem aX12_keep_97 : at_ kX12_keep 97 = (0, oIload 4 99) := rfl
theorem aX12_keep_99 : at_ kX12_keep 99 = (0, oIald 100) := rfl
theorem aX12_keep_100 : at_ kX12_keep 100 = (0, oIast 101) := rfl
theorem aX12_keep_101 : at_ kX12_keep 101 = (0, oRload 0 102) := rfl
theorem aX12_keep_102 : at_ kX12_keep 102 = (0, oGetf 14 34 2 105) := rfl
theorem aX12_keep_105 : at_ kX12_keep 105 = (0, oIload 4 107) := rfl
theorem aX12_keep_107 : at_ kX12_keep 107 = (0, oIald 108) := rfl
theorem aX12_keep_108 : at_ kX12_keep 108 = (0, oRetI) := rfl
def kX12_proof_0 : List En := [(0, oIload 1 1), (2, oInvS mX12_isFirm 1 4), (1, oFail), (1, oFail), (0, oIfEq 15 7), (1, oFail), (1, oFail), (0, oRload 0 8), (0, oIload 3 9), (2, oInvV 14 mX12_wants 1 12), (1, oFail), (1, oFail), (0, oGoto 16), (1, oFail), (1, oFail), (0, oPush (vI (-1)) 16)]
set_option maxRecDepth 20000 in
theorem zX12_proof_0 : SndL mX12_proof 0 kX12_proof_0 := SndL.c (s_iload_n (k := 1) (by decide +kernel) rfl) (SndL.c (s_invS okX12_isFirm w_6_173 w_6_174 (by decide +kernel)) (SndL.c (s_fail) (SndL.c (s_fail) (SndL.c (s_if_eq (off := 11) (by decide +kernel) (by decide)) (SndL.c (s_fail) (SndL.c (s_fail) (SndL.c (s_aload_n (k := 0) (by decide +kernel) rfl) (SndL.c (s_iload_n (k := 3) (by decide +kernel) rfl) (SndL.c (s_invV (r := (RX12, TX12, 90)) (ci := 13) okX12_wants rfl (by decide) rfl rfl w_6_176 w_6_178 v_30 (by decide +kernel)) (SndL.c (s_fail) (SndL.c (s_fail) (SndL.c (s_goto (off := 4) (by decide +kernel) (by decide)) (SndL.c (s_fail) (SndL.c (s_fail) (SndL.c (s_iconst (by decide +kernel) (in32_d (by decide))) (SndL.n))))))))))))))))
def kX12_proof_1 : List En := [(0, oIstore 4 18), (1, oFail), (0, oIload 4 20), (1, oFail), (0, oIfEq 30 23), (1, oFail), (1, oFail), (0, oRload 0 24), (0, oIload 4 26), (1, oFail), (2, oInvV 14 mX12_no 1 29), (1, oFail), (1, oFail), (0, oRetI), (0, oIload 2 31), (0, oIfLt 40 34)]
set_option maxRecDepth 20000 in
theorem zX12_proof_1 : SndL mX12_proof 16 kX12_proof_1 := SndL.c (s_istore (by decide +kernel) (by decide)) (SndL.c (s_fail) (SndL.c (s_iload (by decide +kernel)) (SndL.c (s_fail) (SndL.c (s_if_eq (off := 10) (by decide +kernel) (by decide)) (SndL.c (s_fail) (SndL.c (s_fail) (SndL.c (s_aload_n (k := 0) (by decide +kernel) rfl) (SndL.c (s_iload (by decide +kernel)) (SndL.c (s_fail) (SndL.c (s_invV (r := (RX12, TX12, 90)) (ci := 13) okX12_no rfl (by decide) rfl rfl w_6_138 w_6_140 v_29 (by decide +kernel)) (SndL.c (s_fail) (SndL.c (s_fail) (SndL.c (s_ret_i rfl (by decide +kernel)) (SndL.c (s_iload_n (k := 2) (by decide +kernel) rfl) (SndL.c (s_if_lt (off := 9) (by decide +kernel) (by decide)) (SndL.n))))))))))))))))
def kX12_proof_2 : List En := [(1, oFail), (1, oFail), (0, oIload 2 35), (0, oPush (vI 15) 37), (1, oFail), (0, oIcLe 47 40), (1, oFail), (1, oFail), (0, oRload 0 41), (0, oPush (vI (-6)) 43), (1, oFail), (2, oInvV 14 mX12_no 1 46), (1, oFail), (1, oFail), (0, oRetI), (0, oRload 0 48)]
set_option maxRecDepth 20000 in
theorem zX12_proof_2 : SndL mX12_proof 32 kX12_proof_2 := SndL.c (s_fail) (SndL.c (s_fail) (SndL.c (s_iload_n (k := 2) (by decide +kernel) rfl) (SndL.c (s_bipush (by decide +kernel) (in32_d (by decide)) (by decide +kernel)) (SndL.c (s_fail) (SndL.c (s_ic_le (off := 10) (by decide +kernel) (by decide)) (SndL.c (s_fail) (SndL.c (s_fail) (SndL.c (s_aload_n (k := 0) (by decide +kernel) rfl) (SndL.c (s_bipush (by decide +kernel) (in32_d (by decide)) (by decide +kernel)) (SndL.c (s_fail) (SndL.c (s_invV (r := (RX12, TX12, 90)) (ci := 13) okX12_no rfl (by decide) rfl rfl w_6_138 w_6_140 v_29 (by decide +kernel)) (SndL.c (s_fail) (SndL.c (s_fail) (SndL.c (s_ret_i rfl (by decide +kernel)) (SndL.c (s_aload_n (k := 0) (by decide +kernel) rfl) (SndL.n))))))))))))))))
def kX12_proof_3 : List En := [(0, oGetf 14 3 0 51), (1, oFail), (1, oFail), (0, oPush (vI 40) 53), (1, oFail), (0, oIcNe 63 56), (1, oFail), (1, oFail), (0, oRload 0 57), (0, oPush (vI (-7)) 59), (1, oFail), (2, oInvV 14 mX12_no 1 62), (1, oFail), (1, oFail), (0, oRetI), (0, oRload 0 64)]
set_option maxRecDepth 20000 in
theorem zX12_proof_3 : SndL mX12_proof 48 kX12_proof_3 := SndL.c (s_getf (k := 3) clok13 (by decide) rfl (by decide) rfl w_5_105 (Or.inl rfl) (by decide +kernel)) (SndL.c (s_fail) (SndL.c (s_fail) (SndL.c (s_bipush (by decide +kernel) (in32_d (by decide)) (by decide +kernel)) (SndL.c (s_fail) (SndL.c (s_ic_ne (off := 10) (by decide +kernel) (by decide)) (SndL.c (s_fail) (SndL.c (s_fail) (SndL.c (s_aload_n (k := 0) (by decide +kernel) rfl) (SndL.c (s_bipush (by decide +kernel) (in32_d (by decide)) (by decide +kernel)) (SndL.c (s_fail) (SndL.c (s_invV (r := (RX12, TX12, 90)) (ci := 13) okX12_no rfl (by decide) rfl rfl w_6_138 w_6_140 v_29 (by decide +kernel)) (SndL.c (s_fail) (SndL.c (s_fail) (SndL.c (s_ret_i rfl (by decide +kernel)) (SndL.c (s_aload_n (k := 0) (by decide +kernel) rfl) (SndL.n))))))))))))))))
def kX12_proof_4 : List En := [(0, oGetf 14 40 2 67), (1, oFail), (1, oFail), (0, oRload 0 68), (0, oGetf 14 3 0 71), (1, oFail), (1, oFail), (0, oIload 1 72), (0, oIast 73), (0, oRload 0 74), (0, oGetf 14 41 2 77), (1, oFail), (1, oFail), (0, oRload 0 78), (0, oGetf 14 3 0 81), (1, oFail)]
set_option maxRecDepth 20000 in
theorem zX12_proof_4 : SndL mX12_proof 64 kX12_proof_4 := SndL.c (s_getf (k := 40) clok13 (by decide) rfl (by decide) rfl w_5_142 (Or.inl rfl) (by decide +kernel)) (SndL.c (s_fail) (SndL.c (s_fail) (SndL.c (s_aload_n (k := 0) (by decide +kernel) rfl) (SndL.c (s_getf (k := 3) clok13 (by decide) rfl (by decide) rfl w_5_105 (Or.inl rfl) (by decide +kernel)) (SndL.c (s_fail) (SndL.c (s_fail) (SndL.c (s_iload_n (k := 1) (by decide +kernel) rfl) (SndL.c (s_iast (by decide +kernel)) (SndL.c (s_aload_n (k := 0) (by decide +kernel) rfl) (SndL.c (s_getf (k := 41) clok13 (by decide) rfl (by decide) rfl w_5_143 (Or.inl rfl) (by decide +kernel)) (SndL.c (s_fail) (SndL.c (s_fail) (SndL.c (s_aload_n (k := 0) (by decide +kernel) rfl) (SndL.c (s_getf (k := 3) clok13 (by decide) rfl (by decide) rfl w_5_105 (Or.inl rfl) (by decide +kernel)) (SndL.c (s_fail) (SndL.n))))))))))))))))
def kX12_proof_5 : List En := [(1, oFail), (0, oIload 2 82), (0, oIast 83), (0, oRload 0 84), (0, oGetf 14 42 2 87), (1, oFail), (1, oFail), (0, oRload 0 88), (0, oGetf 14 3 0 91), (1, oFail), (1, oFail), (0, oRload 0 92), (0, oGetf 14 0 0 95), (1, oFail), (1, oFail), (0, oIast 96)]
set_option maxRecDepth 20000 in
theorem zX12_proof_5 : SndL mX12_proof 80 kX12_proof_5 := SndL.c (s_fail) (SndL.c (s_iload_n (k := 2) (by decide +kernel) rfl) (SndL.c (s_iast (by decide +kernel)) (SndL.c (s_aload_n (k := 0) (by decide +kernel) rfl) (SndL.c (s_getf (k := 42) clok13 (by decide) rfl (by decide) rfl w_5_144 (Or.inl rfl) (by decide +kernel)) (SndL.c (s_fail) (SndL.c (s_fail) (SndL.c (s_aload_n (k := 0) (by decide +kernel) rfl) (SndL.c (s_getf (k := 3) clok13 (by decide) rfl (by decide) rfl w_5_105 (Or.inl rfl) (by decide +kernel)) (SndL.c (s_fail) (SndL.c (s_fail) (SndL.c (s_aload_n (k := 0) (by decide +kernel) rfl) (SndL.c (s_getf (k := 0) clok13 (by decide) rfl (by decide) rfl w_5_102 (Or.inl rfl) (by decide +kernel)) (SndL.c (s_fail) (SndL.c (s_fail) (SndL.c (s_iast (by decide +kernel)) (SndL.n))))))))))))))))
def kX12_proof_6 : List En := [(0, oRload 0 97), (0, oGetf 14 43 2 100), (1, oFail), (1, oFail), (0, oRload 0 101), (0, oGetf 14 3 0 104), (1, oFail), (1, oFail), (0, oPush (vI 0) 105), (0, oIast 106), (0, oRload 0 107), (0, oGetf 14 12 2 110), (1, oFail), (1, oFail), (0, oIload 3 111), (0, oIald 112)]
set_option maxRecDepth 20000 in
theorem zX12_proof_6 : SndL mX12_proof 96 kX12_proof_6 := SndL.c (s_aload_n (k := 0) (by decide +kernel) rfl) (SndL.c (s_getf (k := 43) clok13 (by decide) rfl (by decide) rfl w_5_145 (Or.inl rfl) (by decide +kernel)) (SndL.c (s_fail) (SndL.c (s_fail) (SndL.c (s_aload_n (k := 0) (by decide +kernel) rfl) (SndL.c (s_getf (k := 3) clok13 (by decide) rfl (by decide) rfl w_5_105 (Or.inl rfl) (by decide +kernel)) (SndL.c (s_fail) (SndL.c (s_fail) (SndL.c (s_iconst (by decide +kernel) (in32_d (by decide))) (SndL.c (s_iast (by decide +kernel)) (SndL.c (s_aload_n (k := 0) (by decide +kernel) rfl) (SndL.c (s_getf (k := 12) clok13 (by decide) rfl (by decide) rfl w_5_114 (Or.inl rfl) (by decide +kernel)) (SndL.c (s_fail) (SndL.c (s_fail) (SndL.c (s_iload_n (k := 3) (by decide +kernel) rfl) (SndL.c (s_iald (by decide +kernel)) (SndL.n))))))))))))))))
def kX12_proof_7 : List En := [(0, oIfNe 121 115), (1, oFail), (1, oFail), (0, oPush (vL (-128)) 118), (1, oFail), (1, oFail), (0, oGoto 156), (1, oFail), (1, oFail), (0, oRload 0 122), (0, oGetf 14 12 2 125), (1, oFail), (1, oFail), (0, oIload 3 126), (0, oIald 127), (0, oPush (vI 1) 128)]
set_option maxRecDepth 20000 in
theorem zX12_proof_7 : SndL mX12_proof 112 kX12_proof_7 := SndL.c (s_if_ne (off := 9) (by decide +kernel) (by decide)) (SndL.c (s_fail) (SndL.c (s_fail) (SndL.c (s_ldc2 (by decide +kernel) (in64_d (by decide)) w_7_31) (SndL.c (s_fail) (SndL.c (s_fail) (SndL.c (s_goto (off := 38) (by decide +kernel) (by decide)) (SndL.c (s_fail) (SndL.c (s_fail) (SndL.c (s_aload_n (k := 0) (by decide +kernel) rfl) (SndL.c (s_getf (k := 12) clok13 (by decide) rfl (by decide) rfl w_5_114 (Or.inl rfl) (by decide +kernel)) (SndL.c (s_fail) (SndL.c (s_fail) (SndL.c (s_iload_n (k := 3) (by decide +kernel) rfl) (SndL.c (s_iald (by decide +kernel)) (SndL.c (s_iconst (by decide +kernel) (in32_d (by decide))) (SndL.n))))))))))))))))
def kX12_proof_8 : List En := [(0, oIcNe 137 131), (1, oFail), (1, oFail), (0, oPush (vL (-32768)) 134), (1, oFail), (1, oFail), (0, oGoto 156), (1, oFail), (1, oFail), (0, oRload 0 138), (0, oGetf 14 12 2 141), (1, oFail), (1, oFail), (0, oIload 3 142), (0, oIald 143), (0, oPush (vI 2) 144)]
set_option maxRecDepth 20000 in
theorem zX12_proof_8 : SndL mX12_proof 128 kX12_proof_8 := SndL.c (s_ic_ne (off := 9) (by decide +kernel) (by decide)) (SndL.c (s_fail) (SndL.c (s_fail) (SndL.c (s_ldc2 (by decide +kernel) (in64_d (by decide)) w_7_32) (SndL.c (s_fail) (SndL.c (s_fail) (SndL.c (s_goto (off := 22) (by decide +kernel) (by decide)) (SndL.c (s_fail) (SndL.c (s_fail) (SndL.c (s_aload_n (k := 0) (by decide +kernel) rfl) (SndL.c (s_getf (k := 12) clok13 (by decide) rfl (by decide) rfl w_5_114 (Or.inl rfl) (by decide +kernel)) (SndL.c (s_fail) (SndL.c (s_fail) (SndL.c (s_iload_n (k := 3) (by decide +kernel) rfl) (SndL.c (s_iald (by decide +kernel)) (SndL.c (s_iconst (by decide +kernel) (in32_d (by decide))) (SndL.n))))))))))))))))
def kX12_proof_9 : List En := [(0, oIcNe 153 147), (1, oFail), (1, oFail), (0, oPush (vL (-2147483648)) 150), (1, oFail), (1, oFail), (0, oGoto 156), (1, oFail), (1, oFail), (0, oPush (vL (-9223372036854775808)) 156), (1, oFail), (1, oFail), (0, oLstore 5 158), (1, oFail), (0, oPush (vI 0) 159), (0, oIstore 7 161)]
set_option maxRecDepth 20000 in
theorem zX12_proof_9 : SndL mX12_proof 144 kX12_proof_9 := SndL.c (s_ic_ne (off := 9) (by decide +kernel) (by decide)) (SndL.c (s_fail) (SndL.c (s_fail) (SndL.c (s_ldc2 (by decide +kernel) (in64_d (by decide)) w_7_33) (SndL.c (s_fail) (SndL.c (s_fail) (SndL.c (s_goto (off := 6) (by decide +kernel) (by decide)) (SndL.c (s_fail) (SndL.c (s_fail) (SndL.c (s_ldc2 (by decide +kernel) (in64_d (by decide)) w_7_34) (SndL.c (s_fail) (SndL.c (s_fail) (SndL.c (s_lstore (by decide +kernel) (by decide)) (SndL.c (s_fail) (SndL.c (s_iconst (by decide +kernel) (in32_d (by decide))) (SndL.c (s_istore (by decide +kernel) (by decide)) (SndL.n))))))))))))))))
def kX12_proof_10 : List En := [(1, oFail), (1, oIload 7 163), (1, oFail), (0, oRload 0 164), (0, oGetf 14 13 2 167), (1, oFail), (1, oFail), (0, oIload 3 168), (0, oIald 169), (0, oIcGe 230 172), (1, oFail), (1, oFail), (0, oRload 0 173), (0, oGetf 14 18 2 176), (1, oFail), (1, oFail)]
set_option maxRecDepth 20000 in
theorem zX12_proof_10 : SndL mX12_proof 160 kX12_proof_10 := SndL.c (s_fail) (SndL.c (s_iload (by decide +kernel)) (SndL.c (s_fail) (SndL.c (s_aload_n (k := 0) (by decide +kernel) rfl) (SndL.c (s_getf (k := 13) clok13 (by decide) rfl (by decide) rfl w_5_115 (Or.inl rfl) (by decide +kernel)) (SndL.c (s_fail) (SndL.c (s_fail) (SndL.c (s_iload_n (k := 3) (by decide +kernel) rfl) (SndL.c (s_iald (by decide +kernel)) (SndL.c (s_ic_ge (off := 61) (by decide +kernel) (by decide)) (SndL.c (s_fail) (SndL.c (s_fail) (SndL.c (s_aload_n (k := 0) (by decide +kernel) rfl) (SndL.c (s_getf (k := 18) clok13 (by decide) rfl (by decide) rfl w_5_120 (Or.inl rfl) (by decide +kernel)) (SndL.c (s_fail) (SndL.c (s_fail) (SndL.n))))))))))))))))
def kX12_proof_11 : List En := [(0, oPush (vI 60) 178), (1, oFail), (0, oIload 3 179), (0, oImul 180), (0, oIload 7 182), (1, oFail), (0, oIadd 183), (0, oLald 184), (0, oLload 5 186), (1, oFail), (0, oLcmp 187), (0, oIfEq 224 190), (1, oFail), (1, oFail), (0, oRload 0 191), (0, oGetf 14 44 2 194)]
set_option maxRecDepth 20000 in
theorem zX12_proof_11 : SndL mX12_proof 176 kX12_proof_11 := SndL.c (s_bipush (by decide +kernel) (in32_d (by decide)) (by decide +kernel)) (SndL.c (s_fail) (SndL.c (s_iload_n (k := 3) (by decide +kernel) rfl) (SndL.c (s_imul (by decide +kernel)) (SndL.c (s_iload (by decide +kernel)) (SndL.c (s_fail) (SndL.c (s_iadd (by decide +kernel)) (SndL.c (s_lald (by decide +kernel)) (SndL.c (s_lload (by decide +kernel)) (SndL.c (s_fail) (SndL.c (s_lcmp (by decide +kernel)) (SndL.c (s_if_eq (off := 37) (by decide +kernel) (by decide)) (SndL.c (s_fail) (SndL.c (s_fail) (SndL.c (s_aload_n (k := 0) (by decide +kernel) rfl) (SndL.c (s_getf (k := 44) clok13 (by decide) rfl (by decide) rfl w_5_146 (Or.inl rfl) (by decide +kernel)) (SndL.n))))))))))))))))
def kX12_proof_12 : List En := [(1, oFail), (1, oFail), (0, oPush (vI 60) 196), (1, oFail), (0, oRload 0 197), (0, oGetf 14 3 0 200), (1, oFail), (1, oFail), (0, oImul 201), (0, oRload 0 202), (0, oGetf 14 43 2 205), (1, oFail), (1, oFail), (0, oRload 0 206), (0, oGetf 14 3 0 209), (1, oFail)]
set_option maxRecDepth 20000 in
theorem zX12_proof_12 : SndL mX12_proof 192 kX12_proof_12 := SndL.c (s_fail) (SndL.c (s_fail) (SndL.c (s_bipush (by decide +kernel) (in32_d (by decide)) (by decide +kernel)) (SndL.c (s_fail) (SndL.c (s_aload_n (k := 0) (by decide +kernel) rfl) (SndL.c (s_getf (k := 3) clok13 (by decide) rfl (by decide) rfl w_5_105 (Or.inl rfl) (by decide +kernel)) (SndL.c (s_fail) (SndL.c (s_fail) (SndL.c (s_imul (by decide +kernel)) (SndL.c (s_aload_n (k := 0) (by decide +kernel) rfl) (SndL.c (s_getf (k := 43) clok13 (by decide) rfl (by decide) rfl w_5_145 (Or.inl rfl) (by decide +kernel)) (SndL.c (s_fail) (SndL.c (s_fail) (SndL.c (s_aload_n (k := 0) (by decide +kernel) rfl) (SndL.c (s_getf (k := 3) clok13 (by decide) rfl (by decide) rfl w_5_105 (Or.inl rfl) (by decide +kernel)) (SndL.c (s_fail) (SndL.n))))))))))))))))
def kX12_proof_13 : List En := [(1, oFail), (0, oDup2 210), (0, oIald 211), (0, oDupx2 212), (0, oPush (vI 1) 213), (0, oIadd 214), (0, oIast 215), (0, oIadd 216), (0, oRload 0 217), (0, oIload 3 218), (0, oIload 7 220), (1, oFail), (2, oInvV 14 mX12_intAt 2 223), (1, oFail), (1, oFail), (0, oIast 224)]
set_option maxRecDepth 20000 in
theorem zX12_proof_13 : SndL mX12_proof 208 kX12_proof_13 := SndL.c (s_fail) (SndL.c (s_dup2 (by decide +kernel)) (SndL.c (s_iald (by decide +kernel)) (SndL.c (s_dupx2 (by decide +kernel)) (SndL.c (s_iconst (by decide +kernel) (in32_d (by decide))) (SndL.c (s_iadd (by decide +kernel)) (SndL.c (s_iast (by decide +kernel)) (SndL.c (s_iadd (by decide +kernel)) (SndL.c (s_aload_n (k := 0) (by decide +kernel) rfl) (SndL.c (s_iload_n (k := 3) (by decide +kernel) rfl) (SndL.c (s_iload (by decide +kernel)) (SndL.c (s_fail) (SndL.c (s_invV (r := (RX12, TX12, 90)) (ci := 13) okX12_intAt rfl (by decide) rfl rfl w_6_180 w_6_182 v_31 (by decide +kernel)) (SndL.c (s_fail) (SndL.c (s_fail) (SndL.c (s_iast (by decide +kernel)) (SndL.n))))))))))))))))
def kX12_proof_14 : List En := [(0, oIinc 7 1 227), (1, oFail), (1, oFail), (0, oGoto 161), (1, oFail), (1, oFail), (0, oRload 0 231), (0, oDup 232), (0, oGetf 14 3 0 235), (1, oFail), (1, oFail), (0, oDupx1 236), (0, oPush (vI 1) 237), (0, oIadd 238), (0, oPutf 14 3 0 241), (1, oFail)]
set_option maxRecDepth 20000 in
theorem zX12_proof_14 : SndL mX12_proof 224 kX12_proof_14 := SndL.c (s_iinc (by decide +kernel) (by decide)) (SndL.c (s_fail) (SndL.c (s_fail) (SndL.c (s_goto (off := -66) (by decide +kernel) (by decide)) (SndL.c (s_fail) (SndL.c (s_fail) (SndL.c (s_aload_n (k := 0) (by decide +kernel) rfl) (SndL.c (s_dup (by decide +kernel)) (SndL.c (s_getf (k := 3) clok13 (by decide) rfl (by decide) rfl w_5_105 (Or.inl rfl) (by decide +kernel)) (SndL.c (s_fail) (SndL.c (s_fail) (SndL.c (s_dupx1 (by decide +kernel)) (SndL.c (s_iconst (by decide +kernel) (in32_d (by decide))) (SndL.c (s_iadd (by decide +kernel)) (SndL.c (s_putf (k := 3) clok13 (by decide) rfl (by decide) rfl w_5_105 (Or.inl rfl) (Or.inl rfl) (by decide +kernel)) (SndL.c (s_fail) (SndL.n))))))))))))))))
def kX12_proof_15 : List En := [(1, oFail), (0, oRetI)]
set_option maxRecDepth 20000 in
theorem zX12_proof_15 : SndL mX12_proof 240 kX12_proof_15 := SndL.c (s_fail) (SndL.c (s_ret_i rfl (by decide +kernel)) (SndL.n))
def kX12_proof : Cd := [kX12_proof_0, kX12_proof_1, kX12_proof_2, kX12_proof_3, kX12_proof_4, kX12_proof_5, kX12_proof_6, kX12_proof_7, kX12_proof_8, kX12_proof_9, kX12_proof_10, kX12_proof_11, kX12_proof_12, kX12_proof_13, kX12_proof_14, kX12_proof_15]
theorem zX12_proof : SndC mX12_proof 0 kX12_proof := SndC.c zX12_proof_0 (by decide) (SndC.c zX12_proof_1 (by decide) (SndC.c zX12_proof_2 (by decide) (SndC.c zX12_proof_3 (by decide) (SndC.c zX12_proof_4 (by decide) (SndC.c zX12_proof_5 (by decide) (SndC.c zX12_proof_6 (by decide) (SndC.c zX12_proof_7 (by decide) (SndC.c zX12_proof_8 (by decide) (SndC.c zX12_proof_9 (by decide) (SndC.c zX12_proof_10 (by decide) (SndC.c zX12_proof_11 (by decide) (SndC.c zX12_proof_12 (by decide) (SndC.c zX12_proof_13 (by decide) (SndC.c zX12_proof_14 (by decide) (SndC.c zX12_proof_15 (by decide) (SndC.n))))))))))))))))
theorem aX12_proof_0 : at_ kX12_proof 0 = (0, oIload 1 1) := rfl
theorem aX12_proof_1 : at_ kX12_proof 1 = (2, oInvS mX12_isFirm 1 4) := rfl
theorem aX12_proof_4 : at_ kX12_proof 4 = (0, oIfEq 15 7) := rfl
theorem aX12_proof_7 : at_ kX12_proof 7 = (0, oRload 0 8) := rfl
theorem aX12_proof_8 : at_ kX12_proof 8 = (0, oIload 3 9) := rfl
theorem aX12_proof_9 : at_ kX12_proof 9 = (2, oInvV 14 mX12_wants 1 12) := rfl
theorem aX12_proof_12 : at_ kX12_proof 12 = (0, oGoto 16) := rfl
theorem aX12_proof_15 : at_ kX12_proof 15 = (0, oPush (vI (-1)) 16) := rfl
theorem aX12_proof_16 : at_ kX12_proof 16 = (0, oIstore 4 18) := rfl
theorem aX12_proof_18 : at_ kX12_proof 18 = (0, oIload 4 20) := rfl
theorem aX12_proof_20 : at_ kX12_proof 20 = (0, oIfEq 30 23) := rfl
theorem aX12_proof_23 : at_ kX12_proof 23 = (0, oRload 0 24) := rfl
theorem aX12_proof_24 : at_ kX12_proof 24 = (0, oIload 4 26) := rfl
theorem aX12_proof_26 : at_ kX12_proof 26 = (2, oInvV 14 mX12_no 1 29) := rfl
theorem aX12_proof_29 : at_ kX12_proof 29 = (0, oRetI) := rfl
theorem aX12_proof_30 : at_ kX12_proof 30 = (0, oIload 2 31) := rfl
theorem aX12_proof_31 : at_ kX12_proof 31 = (0, oIfLt 40 34) := rfl
theorem aX12_proof_34 : at_ kX12_proof 34 = (0, oIload 2 35) := rfl
theorem aX12_proof_35 : at_ kX12_proof 35 = (0, oPush (vI 15) 37) := rfl
theorem aX12_proof_37 : at_ kX12_proof 37 = (0, oIcLe 47 40) := rfl
theorem aX12_proof_40 : at_ kX12_proof 40 = (0, oRload 0 41) := rfl
theorem aX12_proof_41 : at_ kX12_proof 41 = (0, oPush (vI (-6)) 43) := rfl
theorem aX12_proof_43 : at_ kX12_proof 43 = (2, oInvV 14 mX12_no 1 46) := rfl
theorem aX12_proof_46 : at_ kX12_proof 46 = (0, oRetI) := rfl
theorem aX12_proof_47 : at_ kX12_proof 47 = (0, oRload 0 48) := rfl
theorem aX12_proof_48 : at_ kX12_proof 48 = (0, oGetf 14 3 0 51) := rfl
theorem aX12_proof_51 : at_ kX12_proof 51 = (0, oPush (vI 40) 53) := rfl
theorem aX12_proof_53 : at_ kX12_proof 53 = (0, oIcNe 63 56) := rfl
theorem aX12_proof_56 : at_ kX12_proof 56 = (0, oRload 0 57) := rfl
theorem aX12_proof_57 : at_ kX12_proof 57 = (0, oPush (vI (-7)) 59) := rfl
theorem aX12_proof_59 : at_ kX12_proof 59 = (2, oInvV 14 mX12_no 1 62) := rfl
theorem aX12_proof_62 : at_ kX12_proof 62 = (0, oRetI) := rfl
theorem aX12_proof_63 : at_ kX12_proof 63 = (0, oRload 0 64) := rfl
theorem aX12_proof_64 : at_ kX12_proof 64 = (0, oGetf 14 40 2 67) := rfl
theorem aX12_proof_67 : at_ kX12_proof 67 = (0, oRload 0 68) := rfl
theorem aX12_proof_68 : at_ kX12_proof 68 = (0, oGetf 14 3 0 71) := rfl
theorem aX12_proof_71 : at_ kX12_proof 71 = (0, oIload 1 72) := rfl
theorem aX12_proof_72 : at_ kX12_proof 72 = (0, oIast 73) := rfl
theorem aX12_proof_73 : at_ kX12_proof 73 = (0, oRload 0 74) := rfl
theorem aX12_proof_74 : at_ kX12_proof 74 = (0, oGetf 14 41 2 77) := rfl
theorem aX12_proof_77 : at_ kX12_proof 77 = (0, oRload 0 78) := rfl
theorem aX12_proof_78 : at_ kX12_proof 78 = (0, oGetf 14 3 0 81) := rfl
theorem aX12_proof_81 : at_ kX12_proof 81 = (0, oIload 2 82) := rfl
theorem aX12_proof_82 : at_ kX12_proof 82 = (0, oIast 83) := rfl
theorem aX12_proof_83 : at_ kX12_proof 83 = (0, oRload 0 84) := rfl
theorem aX12_proof_84 : at_ kX12_proof 84 = (0, oGetf 14 42 2 87) := rfl
theorem aX12_proof_87 : at_ kX12_proof 87 = (0, oRload 0 88) := rfl
theorem aX12_proof_88 : at_ kX12_proof 88 = (0, oGetf 14 3 0 91) := rfl
theorem aX12_proof_91 : at_ kX12_proof 91 = (0, oRload 0 92) := rfl
theorem aX12_proof_92 : at_ kX12_proof 92 = (0, oGetf 14 0 0 95) := rfl
theorem aX12_proof_95 : at_ kX12_proof 95 = (0, oIast 96) := rfl
theorem aX12_proof_96 : at_ kX12_proof 96 = (0, oRload 0 97) := rfl
theorem aX12_proof_97 : at_ kX12_proof 97 = (0, oGetf 14 43 2 100) := rfl
theorem aX12_proof_100 : at_ kX12_proof 100 = (0, oRload 0 101) := rfl
theorem aX12_proof_101 : at_ kX12_proof 101 = (0, oGetf 14 3 0 104) := rfl
theorem aX12_proof_104 : at_ kX12_proof 104 = (0, oPush (vI 0) 105) := rfl
theorem aX12_proof_105 : at_ kX12_proof 105 = (0, oIast 106) := rfl
theorem aX12_proof_106 : at_ kX12_proof 106 = (0, oRload 0 107) := rfl
theorem aX12_proof_107 : at_ kX12_proof 107 = (0, oGetf 14 12 2 110) := rfl
theorem aX12_proof_110 : at_ kX12_proof 110 = (0, oIload 3 111) := rfl
theorem aX12_proof_111 : at_ kX12_proof 111 = (0, oIald 112) := rfl
theorem aX12_proof_112 : at_ kX12_proof 112 = (0, oIfNe 121 115) := rfl
theorem aX12_proof_115 : at_ kX12_proof 115 = (0, oPush (vL (-128)) 118) := rfl
theorem aX12_proof_118 : at_ kX12_proof 118 = (0, oGoto 156) := rfl
theorem aX12_proof_121 : at_ kX12_proof 121 = (0, oRload 0 122) := rfl
theorem aX12_proof_122 : at_ kX12_proof 122 = (0, oGetf 14 12 2 125) := rfl
theorem aX12_proof_125 : at_ kX12_proof 125 = (0, oIload 3 126) := rfl
theorem aX12_proof_126 : at_ kX12_proof 126 = (0, oIald 127) := rfl
theorem aX12_proof_127 : at_ kX12_proof 127 = (0, oPush (vI 1) 128) := rfl
theorem aX12_proof_128 : at_ kX12_proof 128 = (0, oIcNe 137 131) := rfl
theorem aX12_proof_131 : at_ kX12_proof 131 = (0, oPush (vL (-32768)) 134) := rfl
theorem aX12_proof_134 : at_ kX12_proof 134 = (0, oGoto 156) := rfl
theorem aX12_proof_137 : at_ kX12_proof 137 = (0, oRload 0 138) := rfl
theorem aX12_proof_138 : at_ kX12_proof 138 = (0, oGetf 14 12 2 141) := rfl
theorem aX12_proof_141 : at_ kX12_proof 141 = (0, oIload 3 142) := rfl
theorem aX12_proof_142 : at_ kX12_proof 142 = (0, oIald 143) := rfl
theorem aX12_proof_143 : at_ kX12_proof 143 = (0, oPush (vI 2) 144) := rfl
theorem aX12_proof_144 : at_ kX12_proof 144 = (0, oIcNe 153 147) := rfl
theorem aX12_proof_147 : at_ kX12_proof 147 = (0, oPush (vL (-2147483648)) 150) := rfl
theorem aX12_proof_150 : at_ kX12_proof 150 = (0, oGoto 156) := rfl
theorem aX12_proof_153 : at_ kX12_proof 153 = (0, oPush (vL (-9223372036854775808)) 156) := rfl
theorem aX12_proof_156 : at_ kX12_proof 156 = (0, oLstore 5 158) := rfl
theorem aX12_proof_158 : at_ kX12_proof 158 = (0, oPush (vI 0) 159) := rfl
theorem aX12_proof_159 : at_ kX12_proof 159 = (0, oIstore 7 161) := rfl
theorem aX12_proof_161 : at_ kX12_proof 161 = (1, oIload 7 163) := rfl
theorem aX12_proof_163 : at_ kX12_proof 163 = (0, oRload 0 164) := rfl
theorem aX12_proof_164 : at_ kX12_proof 164 = (0, oGetf 14 13 2 167) := rfl
theorem aX12_proof_167 : at_ kX12_proof 167 = (0, oIload 3 168) := rfl
theorem aX12_proof_168 : at_ kX12_proof 168 = (0, oIald 169) := rfl
theorem aX12_proof_169 : at_ kX12_proof 169 = (0, oIcGe 230 172) := rfl
theorem aX12_proof_172 : at_ kX12_proof 172 = (0, oRload 0 173) := rfl
theorem aX12_proof_173 : at_ kX12_proof 173 = (0, oGetf 14 18 2 176) := rfl
theorem aX12_proof_176 : at_ kX12_proof 176 = (0, oPush (vI 60) 178) := rfl
theorem aX12_proof_178 : at_ kX12_proof 178 = (0, oIload 3 179) := rfl
theorem aX12_proof_179 : at_ kX12_proof 179 = (0, oImul 180) := rfl
theorem aX12_proof_180 : at_ kX12_proof 180 = (0, oIload 7 182) := rfl
theorem aX12_proof_182 : at_ kX12_proof 182 = (0, oIadd 183) := rfl
theorem aX12_proof_183 : at_ kX12_proof 183 = (0, oLald 184) := rfl
theorem aX12_proof_184 : at_ kX12_proof 184 = (0, oLload 5 186) := rfl
theorem aX12_proof_186 : at_ kX12_proof 186 = (0, oLcmp 187) := rfl
theorem aX12_proof_187 : at_ kX12_proof 187 = (0, oIfEq 224 190) := rfl
theorem aX12_proof_190 : at_ kX12_proof 190 = (0, oRload 0 191) := rfl
theorem aX12_proof_191 : at_ kX12_proof 191 = (0, oGetf 14 44 2 194) := rfl
theorem aX12_proof_194 : at_ kX12_proof 194 = (0, oPush (vI 60) 196) := rfl
theorem aX12_proof_196 : at_ kX12_proof 196 = (0, oRload 0 197) := rfl
theorem aX12_proof_197 : at_ kX12_proof 197 = (0, oGetf 14 3 0 200) := rfl
theorem aX12_proof_200 : at_ kX12_proof 200 = (0, oImul 201) := rfl
theorem aX12_proof_201 : at_ kX12_proof 201 = (0, oRload 0 202) := rfl
theorem aX12_proof_202 : at_ kX12_proof 202 = (0, oGetf 14 43 2 205) := rfl
theorem aX12_proof_205 : at_ kX12_proof 205 = (0, oRload 0 206) := rfl
theorem aX12_proof_206 : at_ kX12_proof 206 = (0, oGetf 14 3 0 209) := rfl
theorem aX12_proof_209 : at_ kX12_proof 209 = (0, oDup2 210) := rfl
theorem aX12_proof_210 : at_ kX12_proof 210 = (0, oIald 211) := rfl
theorem aX12_proof_211 : at_ kX12_proof 211 = (0, oDupx2 212) := rfl
theorem aX12_proof_212 : at_ kX12_proof 212 = (0, oPush (vI 1) 213) := rfl
theorem aX12_proof_213 : at_ kX12_proof 213 = (0, oIadd 214) := rfl
theorem aX12_proof_214 : at_ kX12_proof 214 = (0, oIast 215) := rfl
theorem aX12_proof_215 : at_ kX12_proof 215 = (0, oIadd 216) := rfl
theorem aX12_proof_216 : at_ kX12_proof 216 = (0, oRload 0 217) := rfl
theorem aX12_proof_217 : at_ kX12_proof 217 = (0, oIload 3 218) := rfl
theorem aX12_proof_218 : at_ kX12_proof 218 = (0, oIload 7 220) := rfl
theorem aX12_proof_220 : at_ kX12_proof 220 = (2, oInvV 14 mX12_intAt 2 223) := rfl
theorem aX12_proof_223 : at_ kX12_proof 223 = (0, oIast 224) := rfl
theorem aX12_proof_224 : at_ kX12_proof 224 = (0, oIinc 7 1 227) := rfl
theorem aX12_proof_227 : at_ kX12_proof 227 = (0, oGoto 161) := rfl
theorem aX12_proof_230 : at_ kX12_proof 230 = (0, oRload 0 231) := rfl
theorem aX12_proof_231 : at_ kX12_proof 231 = (0, oDup 232) := rfl
theorem aX12_proof_232 : at_ kX12_proof 232 = (0, oGetf 14 3 0 235) := rfl
theorem aX12_proof_235 : at_ kX12_proof 235 = (0, oDupx1 236) := rfl
theorem aX12_proof_236 : at_ kX12_proof 236 = (0, oPush (vI 1) 237) := rfl
theorem aX12_proof_237 : at_ kX12_proof 237 = (0, oIadd 238) := rfl
theorem aX12_proof_238 : at_ kX12_proof 238 = (0, oPutf 14 3 0 241) := rfl
theorem aX12_proof_241 : at_ kX12_proof 241 = (0, oRetI) := rfl
def kX12_results_0 : List En := [(0, oIload 1 1), (2, oInvS mX12_isFirm 1 4), (1, oFail), (1, oFail), (0, oIfEq 28 7), (1, oFail), (1, oFail), (0, oIload 2 8), (0, oIfLt 28 11), (1, oFail), (1, oFail), (0, oIload 2 12), (0, oPush (vI 15) 14), (1, oFail), (0, oIcGt 28 17), (1, oFail)]
set_option maxRecDepth 20000 in
theorem zX12_results_0 : SndL mX12_results 0 kX12_results_0 := SndL.c (s_iload_n (k := 1) (by decide +kernel) rfl) (SndL.c (s_invS okX12_isFirm w_6_173 w_6_174 (by decide +kernel)) (SndL.c (s_fail) (SndL.c (s_fail) (SndL.c (s_if_eq (off := 24) (by decide +kernel) (by decide)) (SndL.c (s_fail) (SndL.c (s_fail) (SndL.c (s_iload_n (k := 2) (by decide +kernel) rfl) (SndL.c (s_if_lt (off := 20) (by decide +kernel) (by decide)) (SndL.c (s_fail) (SndL.c (s_fail) (SndL.c (s_iload_n (k := 2) (by decide +kernel) rfl) (SndL.c (s_bipush (by decide +kernel) (in32_d (by decide)) (by decide +kernel)) (SndL.c (s_fail) (SndL.c (s_ic_gt (off := 14) (by decide +kernel) (by decide)) (SndL.c (s_fail) (SndL.n))))))))))))))))
def kX12_results_1 : List En := [(1, oFail), (0, oIload 4 19), (1, oFail), (0, oIfLt 28 22), (1, oFail), (1, oFail), (0, oIload 4 24), (1, oFail), (0, oPush (vI 1) 25), (0, oIcLe 32 28), (1, oFail), (1, oFail), (0, oPush (vL (-10000000)) 31), (1, oFail), (1, oFail), (0, oRetL)]
set_option maxRecDepth 20000 in
theorem zX12_results_1 : SndL mX12_results 16 kX12_results_1 := SndL.c (s_fail) (SndL.c (s_iload (by decide +kernel)) (SndL.c (s_fail) (SndL.c (s_if_lt (off := 9) (by decide +kernel) (by decide)) (SndL.c (s_fail) (SndL.c (s_fail) (SndL.c (s_iload (by decide +kernel)) (SndL.c (s_fail) (SndL.c (s_iconst (by decide +kernel) (in32_d (by decide))) (SndL.c (s_ic_le (off := 7) (by decide +kernel) (by decide)) (SndL.c (s_fail) (SndL.c (s_fail) (SndL.c (s_ldc2 (by decide +kernel) (in64_d (by decide)) w_7_39) (SndL.c (s_fail) (SndL.c (s_fail) (SndL.c (s_ret_l rfl (by decide +kernel)) (SndL.n))))))))))))))))
def kX12_results_2 : List En := [(0, oRload 0 33), (0, oIload 1 34), (0, oIload 2 35), (0, oIload 3 36), (2, oInvV 14 mX12_sums 3 39), (1, oFail), (1, oFail), (0, oPop 40), (0, oIload 4 42), (1, oFail), (0, oIfNe 53 45), (1, oFail), (1, oFail), (0, oRload 0 46), (0, oGetf 14 76 0 49), (1, oFail)]
set_option maxRecDepth 20000 in
theorem zX12_results_2 : SndL mX12_results 32 kX12_results_2 := SndL.c (s_aload_n (k := 0) (by decide +kernel) rfl) (SndL.c (s_iload_n (k := 1) (by decide +kernel) rfl) (SndL.c (s_iload_n (k := 2) (by decide +kernel) rfl) (SndL.c (s_iload_n (k := 3) (by decide +kernel) rfl) (SndL.c (s_invV (r := (RX12, TX12, 90)) (ci := 13) okX12_sums rfl (by decide) rfl rfl w_7_11 w_7_13 v_41 (by decide +kernel)) (SndL.c (s_fail) (SndL.c (s_fail) (SndL.c (s_pop (by decide +kernel)) (SndL.c (s_iload (by decide +kernel)) (SndL.c (s_fail) (SndL.c (s_if_ne (off := 11) (by decide +kernel) (by decide)) (SndL.c (s_fail) (SndL.c (s_fail) (SndL.c (s_aload_n (k := 0) (by decide +kernel) rfl) (SndL.c (s_getf (k := 76) clok13 (by decide) rfl (by decide) rfl w_5_178 (Or.inl rfl) (by decide +kernel)) (SndL.c (s_fail) (SndL.n))))))))))))))))
def kX12_results_3 : List En := [(1, oFail), (0, oI2l 50), (0, oGoto 57), (1, oFail), (1, oFail), (0, oRload 0 54), (0, oGetf 14 77 1 57), (1, oFail), (1, oFail), (0, oRetL)]
set_option maxRecDepth 20000 in
theorem zX12_results_3 : SndL mX12_results 48 kX12_results_3 := SndL.c (s_fail) (SndL.c (s_i2l (by decide +kernel)) (SndL.c (s_goto (off := 7) (by decide +kernel) (by decide)) (SndL.c (s_fail) (SndL.c (s_fail) (SndL.c (s_aload_n (k := 0) (by decide +kernel) rfl) (SndL.c (s_getf (k := 77) clok13 (by decide) rfl (by decide) rfl w_5_179 (Or.inl rfl) (by decide +kernel)) (SndL.c (s_fail) (SndL.c (s_fail) (SndL.c (s_ret_l rfl (by decide +kernel)) (SndL.n))))))))))
def kX12_results : Cd := [kX12_results_0, kX12_results_1, kX12_results_2, kX12_results_3]
theorem zX12_results : SndC mX12_results 0 kX12_results := SndC.c zX12_results_0 (by decide) (SndC.c zX12_results_1 (by decide) (SndC.c zX12_results_2 (by decide) (SndC.c zX12_results_3 (by decide) (SndC.n))))
theorem aX12_results_0 : at_ kX12_results 0 = (0, oIload 1 1) := rfl
theorem aX12_results_1 : at_ kX12_results 1 = (2, oInvS mX12_isFirm 1 4) := rfl
theorem aX12_results_4 : at_ kX12_results 4 = (0, oIfEq 28 7) := rfl
theorem aX12_results_7 : at_ kX12_results 7 = (0, oIload 2 8) := rfl
theorem aX12_results_8 : at_ kX12_results 8 = (0, oIfLt 28 11) := rfl
theorem aX12_results_11 : at_ kX12_results 11 = (0, oIload 2 12) := rfl
theorem aX12_results_12 : at_ kX12_results 12 = (0, oPush (vI 15) 14) := rfl
theorem aX12_results_14 : at_ kX12_results 14 = (0, oIcGt 28 17) := rfl
theorem aX12_results_17 : at_ kX12_results 17 = (0, oIload 4 19) := rfl
theorem aX12_results_19 : at_ kX12_results 19 = (0, oIfLt 28 22) := rfl
theorem aX12_results_22 : at_ kX12_results 22 = (0, oIload 4 24) := rfl
theorem aX12_results_24 : at_ kX12_results 24 = (0, oPush (vI 1) 25) := rfl
theorem aX12_results_25 : at_ kX12_results 25 = (0, oIcLe 32 28) := rfl
theorem aX12_results_28 : at_ kX12_results 28 = (0, oPush (vL (-10000000)) 31) := rfl
theorem aX12_results_31 : at_ kX12_results 31 = (0, oRetL) := rfl
theorem aX12_results_32 : at_ kX12_results 32 = (0, oRload 0 33) := rfl
theorem aX12_results_33 : at_ kX12_results 33 = (0, oIload 1 34) := rfl
theorem aX12_results_34 : at_ kX12_results 34 = (0, oIload 2 35) := rfl
theorem aX12_results_35 : at_ kX12_results 35 = (0, oIload 3 36) := rfl
theorem aX12_results_36 : at_ kX12_results 36 = (2, oInvV 14 mX12_sums 3 39) := rfl
theorem aX12_results_39 : at_ kX12_results 39 = (0, oPop 40) := rfl
theorem aX12_results_40 : at_ kX12_results 40 = (0, oIload 4 42) := rfl
theorem aX12_results_42 : at_ kX12_results 42 = (0, oIfNe 53 45) := rfl
theorem aX12_results_45 : at_ kX12_results 45 = (0, oRload 0 46) := rfl
theorem aX12_results_46 : at_ kX12_results 46 = (0, oGetf 14 76 0 49) := rfl
theorem aX12_results_49 : at_ kX12_results 49 = (0, oI2l 50) := rfl
theorem aX12_results_50 : at_ kX12_results 50 = (0, oGoto 57) := rfl
theorem aX12_results_53 : at_ kX12_results 53 = (0, oRload 0 54) := rfl
theorem aX12_results_54 : at_ kX12_results 54 = (0, oGetf 14 77 1 57) := rfl
theorem aX12_results_57 : at_ kX12_results 57 = (0, oRetL) := rfl
def kX12_measure_0 : List En := [(0, oIload 1 1), (0, oIfLt 20 4), (1, oFail), (1, oFail), (0, oIload 1 5), (0, oPush (vI 1) 6), (0, oIcGt 20 9), (1, oFail), (1, oFail), (0, oIload 2 10), (0, oPush (vI 1) 11), (0, oIcLt 20 14), (1, oFail), (1, oFail), (0, oIload 2 15), (0, oPush (vI 100) 17)]
set_option maxRecDepth 20000 in
theorem zX12_measure_0 : SndL mX12_measure 0 kX12_measure_0 := SndL.c (s_iload_n (k := 1) (by decide +kernel) rfl) (SndL.c (s_if_lt (off := 19) (by decide +kernel) (by decide)) (SndL.c (s_fail) (SndL.c (s_fail) (SndL.c (s_iload_n (k := 1) (by decide +kernel) rfl) (SndL.c (s_iconst (by decide +kernel) (in32_d (by decide))) (SndL.c (s_ic_gt (off := 14) (by decide +kernel) (by decide)) (SndL.c (s_fail) (SndL.c (s_fail) (SndL.c (s_iload_n (k := 2) (by decide +kernel) rfl) (SndL.c (s_iconst (by decide +kernel) (in32_d (by decide))) (SndL.c (s_ic_lt (off := 9) (by decide +kernel) (by decide)) (SndL.c (s_fail) (SndL.c (s_fail) (SndL.c (s_iload_n (k := 2) (by decide +kernel) rfl) (SndL.c (s_bipush (by decide +kernel) (in32_d (by decide)) (by decide +kernel)) (SndL.n))))))))))))))))
def kX12_measure_1 : List En := [(1, oFail), (0, oIcLe 27 20), (1, oFail), (1, oFail), (0, oRload 0 21), (0, oPush (vI (-6)) 23), (1, oFail), (2, oInvV 14 mX12_no 1 26), (1, oFail), (1, oFail), (0, oRetI), (0, oIload 1 28), (0, oIfNe 38 31), (1, oFail), (1, oFail), (0, oRload 0 32)]
set_option maxRecDepth 20000 in
theorem zX12_measure_1 : SndL mX12_measure 16 kX12_measure_1 := SndL.c (s_fail) (SndL.c (s_ic_le (off := 10) (by decide +kernel) (by decide)) (SndL.c (s_fail) (SndL.c (s_fail) (SndL.c (s_aload_n (k := 0) (by decide +kernel) rfl) (SndL.c (s_bipush (by decide +kernel) (in32_d (by decide)) (by decide +kernel)) (SndL.c (s_fail) (SndL.c (s_invV (r := (RX12, TX12, 90)) (ci := 13) okX12_no rfl (by decide) rfl rfl w_6_138 w_6_140 v_29 (by decide +kernel)) (SndL.c (s_fail) (SndL.c (s_fail) (SndL.c (s_ret_i rfl (by decide +kernel)) (SndL.c (s_iload_n (k := 1) (by decide +kernel) rfl) (SndL.c (s_if_ne (off := 10) (by decide +kernel) (by decide)) (SndL.c (s_fail) (SndL.c (s_fail) (SndL.c (s_aload_n (k := 0) (by decide +kernel) rfl) (SndL.n))))))))))))))))
def kX12_measure_2 : List En := [(0, oGetf 14 7 0 35), (1, oFail), (1, oFail), (0, oGoto 42), (1, oFail), (1, oFail), (0, oRload 0 39), (0, oGetf 14 8 0 42), (1, oFail), (1, oFail), (0, oIstore 3 43), (0, oIload 1 44), (0, oIfNe 55 47), (1, oFail), (1, oFail), (0, oRload 0 48)]
set_option maxRecDepth 20000 in
theorem zX12_measure_2 : SndL mX12_measure 32 kX12_measure_2 := SndL.c (s_getf (k := 7) clok13 (by decide) rfl (by decide) rfl w_5_109 (Or.inl rfl) (by decide +kernel)) (SndL.c (s_fail) (SndL.c (s_fail) (SndL.c (s_goto (off := 7) (by decide +kernel) (by decide)) (SndL.c (s_fail) (SndL.c (s_fail) (SndL.c (s_aload_n (k := 0) (by decide +kernel) rfl) (SndL.c (s_getf (k := 8) clok13 (by decide) rfl (by decide) rfl w_5_110 (Or.inl rfl) (by decide +kernel)) (SndL.c (s_fail) (SndL.c (s_fail) (SndL.c (s_istore_n (k := 3) (by decide +kernel) rfl (by decide)) (SndL.c (s_iload_n (k := 1) (by decide +kernel) rfl) (SndL.c (s_if_ne (off := 11) (by decide +kernel) (by decide)) (SndL.c (s_fail) (SndL.c (s_fail) (SndL.c (s_aload_n (k := 0) (by decide +kernel) rfl) (SndL.n))))))))))))))))
def kX12_measure_3 : List En := [(0, oIload 2 49), (0, oPutf 14 7 0 52), (1, oFail), (1, oFail), (0, oGoto 60), (1, oFail), (1, oFail), (0, oRload 0 56), (0, oIload 2 57), (0, oPutf 14 8 0 60), (1, oFail), (1, oFail), (0, oIload 3 61), (0, oRetI)]
set_option maxRecDepth 20000 in
theorem zX12_measure_3 : SndL mX12_measure 48 kX12_measure_3 := SndL.c (s_iload_n (k := 2) (by decide +kernel) rfl) (SndL.c (s_putf (k := 7) clok13 (by decide) rfl (by decide) rfl w_5_109 (Or.inl rfl) (Or.inl rfl) (by decide +kernel)) (SndL.c (s_fail) (SndL.c (s_fail) (SndL.c (s_goto (off := 8) (by decide +kernel) (by decide)) (SndL.c (s_fail) (SndL.c (s_fail) (SndL.c (s_aload_n (k := 0) (by decide +kernel) rfl) (SndL.c (s_iload_n (k := 2) (by decide +kernel) rfl) (SndL.c (s_putf (k := 8) clok13 (by decide) rfl (by decide) rfl w_5_110 (Or.inl rfl) (Or.inl rfl) (by decide +kernel)) (SndL.c (s_fail) (SndL.c (s_fail) (SndL.c (s_iload_n (k := 3) (by decide +kernel) rfl) (SndL.c (s_ret_i rfl (by decide +kernel)) (SndL.n))))))))))))))
def kX12_measure : Cd := [kX12_measure_0, kX12_measure_1, kX12_measure_2, kX12_measure_3]
theorem zX12_measure : SndC mX12_measure 0 kX12_measure := SndC.c zX12_measure_0 (by decide) (SndC.c zX12_measure_1 (by decide) (SndC.c zX12_measure_2 (by decide) (SndC.c zX12_measure_3 (by decide) (SndC.n))))
theorem aX12_measure_0 : at_ kX12_measure 0 = (0, oIload 1 1) := rfl
theorem aX12_measure_1 : at_ kX12_measure 1 = (0, oIfLt 20 4) := rfl
theorem aX12_measure_4 : at_ kX12_measure 4 = (0, oIload 1 5) := rfl
theorem aX12_measure_5 : at_ kX12_measure 5 = (0, oPush (vI 1) 6) := rfl
theorem aX12_measure_6 : at_ kX12_measure 6 = (0, oIcGt 20 9) := rfl
theorem aX12_measure_9 : at_ kX12_measure 9 = (0, oIload 2 10) := rfl
theorem aX12_measure_10 : at_ kX12_measure 10 = (0, oPush (vI 1) 11) := rfl
theorem aX12_measure_11 : at_ kX12_measure 11 = (0, oIcLt 20 14) := rfl
theorem aX12_measure_14 : at_ kX12_measure 14 = (0, oIload 2 15) := rfl
theorem aX12_measure_15 : at_ kX12_measure 15 = (0, oPush (vI 100) 17) := rfl
theorem aX12_measure_17 : at_ kX12_measure 17 = (0, oIcLe 27 20) := rfl
theorem aX12_measure_20 : at_ kX12_measure 20 = (0, oRload 0 21) := rfl
theorem aX12_measure_21 : at_ kX12_measure 21 = (0, oPush (vI (-6)) 23) := rfl
theorem aX12_measure_23 : at_ kX12_measure 23 = (2, oInvV 14 mX12_no 1 26) := rfl
theorem aX12_measure_26 : at_ kX12_measure 26 = (0, oRetI) := rfl
theorem aX12_measure_27 : at_ kX12_measure 27 = (0, oIload 1 28) := rfl
theorem aX12_measure_28 : at_ kX12_measure 28 = (0, oIfNe 38 31) := rfl
theorem aX12_measure_31 : at_ kX12_measure 31 = (0, oRload 0 32) := rfl
theorem aX12_measure_32 : at_ kX12_measure 32 = (0, oGetf 14 7 0 35) := rfl
theorem aX12_measure_35 : at_ kX12_measure 35 = (0, oGoto 42) := rfl
theorem aX12_measure_38 : at_ kX12_measure 38 = (0, oRload 0 39) := rfl
theorem aX12_measure_39 : at_ kX12_measure 39 = (0, oGetf 14 8 0 42) := rfl
theorem aX12_measure_42 : at_ kX12_measure 42 = (0, oIstore 3 43) := rfl
theorem aX12_measure_43 : at_ kX12_measure 43 = (0, oIload 1 44) := rfl
theorem aX12_measure_44 : at_ kX12_measure 44 = (0, oIfNe 55 47) := rfl
theorem aX12_measure_47 : at_ kX12_measure 47 = (0, oRload 0 48) := rfl
theorem aX12_measure_48 : at_ kX12_measure 48 = (0, oIload 2 49) := rfl
theorem aX12_measure_49 : at_ kX12_measure 49 = (0, oPutf 14 7 0 52) := rfl
theorem aX12_measure_52 : at_ kX12_measure 52 = (0, oGoto 60) := rfl
theorem aX12_measure_55 : at_ kX12_measure 55 = (0, oRload 0 56) := rfl
theorem aX12_measure_56 : at_ kX12_measure 56 = (0, oIload 2 57) := rfl
theorem aX12_measure_57 : at_ kX12_measure 57 = (0, oPutf 14 8 0 60) := rfl
theorem aX12_measure_60 : at_ kX12_measure 60 = (0, oIload 3 61) := rfl
theorem aX12_measure_61 : at_ kX12_measure 61 = (0, oRetI) := rfl
def kX12_letter_0 : List En := [(0, oRload 0 1), (0, oGetf 14 80 0 4), (1, oFail), (1, oFail), (0, oRload 0 5), (0, oGetf 14 81 0 8), (1, oFail), (1, oFail), (0, oIcGe 29 11), (1, oFail), (1, oFail), (0, oRload 0 12), (0, oGetf 14 18 2 15), (1, oFail), (1, oFail), (0, oRload 0 16)]
set_option maxRecDepth 20000 in
theorem zX12_letter_0 : SndL mX12_letter 0 kX12_letter_0 := SndL.c (s_aload_n (k := 0) (by decide +kernel) rfl) (SndL.c (s_getf (k := 80) clok13 (by decide) rfl (by decide) rfl w_5_182 (Or.inl rfl) (by decide +kernel)) (SndL.c (s_fail) (SndL.c (s_fail) (SndL.c (s_aload_n (k := 0) (by decide +kernel) rfl) (SndL.c (s_getf (k := 81) clok13 (by decide) rfl (by decide) rfl w_5_183 (Or.inl rfl) (by decide +kernel)) (SndL.c (s_fail) (SndL.c (s_fail) (SndL.c (s_ic_ge (off := 21) (by decide +kernel) (by decide)) (SndL.c (s_fail) (SndL.c (s_fail) (SndL.c (s_aload_n (k := 0) (by decide +kernel) rfl) (SndL.c (s_getf (k := 18) clok13 (by decide) rfl (by decide) rfl w_5_120 (Or.inl rfl) (by decide +kernel)) (SndL.c (s_fail) (SndL.c (s_fail) (SndL.c (s_aload_n (k := 0) (by decide +kernel) rfl) (SndL.n))))))))))))))))
def kX12_letter_1 : List En := [(0, oGetf 14 82 0 19), (1, oFail), (1, oFail), (0, oRload 0 20), (0, oGetf 14 80 0 23), (1, oFail), (1, oFail), (0, oIadd 24), (0, oLald 25), (0, oL2i 26), (0, oGoto 30), (1, oFail), (1, oFail), (0, oPush (vI (-1)) 30), (0, oRetI)]
set_option maxRecDepth 20000 in
theorem zX12_letter_1 : SndL mX12_letter 16 kX12_letter_1 := SndL.c (s_getf (k := 82) clok13 (by decide) rfl (by decide) rfl w_5_184 (Or.inl rfl) (by decide +kernel)) (SndL.c (s_fail) (SndL.c (s_fail) (SndL.c (s_aload_n (k := 0) (by decide +kernel) rfl) (SndL.c (s_getf (k := 80) clok13 (by decide) rfl (by decide) rfl w_5_182 (Or.inl rfl) (by decide +kernel)) (SndL.c (s_fail) (SndL.c (s_fail) (SndL.c (s_iadd (by decide +kernel)) (SndL.c (s_lald (by decide +kernel)) (SndL.c (s_l2i (by decide +kernel)) (SndL.c (s_goto (off := 4) (by decide +kernel) (by decide)) (SndL.c (s_fail) (SndL.c (s_fail) (SndL.c (s_iconst (by decide +kernel) (in32_d (by decide))) (SndL.c (s_ret_i rfl (by decide +kernel)) (SndL.n)))))))))))))))
def kX12_letter : Cd := [kX12_letter_0, kX12_letter_1]
theorem zX12_letter : SndC mX12_letter 0 kX12_letter := SndC.c zX12_letter_0 (by decide) (SndC.c zX12_letter_1 (by decide) (SndC.n))
theorem aX12_letter_0 : at_ kX12_letter 0 = (0, oRload 0 1) := rfl
theorem aX12_letter_1 : at_ kX12_letter 1 = (0, oGetf 14 80 0 4) := rfl
theorem aX12_letter_4 : at_ kX12_letter 4 = (0, oRload 0 5) := rfl
theorem aX12_letter_5 : at_ kX12_letter 5 = (0, oGetf 14 81 0 8) := rfl
theorem aX12_letter_8 : at_ kX12_letter 8 = (0, oIcGe 29 11) := rfl
theorem aX12_letter_11 : at_ kX12_letter 11 = (0, oRload 0 12) := rfl
theorem aX12_letter_12 : at_ kX12_letter 12 = (0, oGetf 14 18 2 15) := rfl
theorem aX12_letter_15 : at_ kX12_letter 15 = (0, oRload 0 16) := rfl
theorem aX12_letter_16 : at_ kX12_letter 16 = (0, oGetf 14 82 0 19) := rfl
theorem aX12_letter_19 : at_ kX12_letter 19 = (0, oRload 0 20) := rfl
theorem aX12_letter_20 : at_ kX12_letter 20 = (0, oGetf 14 80 0 23) := rfl
theorem aX12_letter_23 : at_ kX12_letter 23 = (0, oIadd 24) := rfl
theorem aX12_letter_24 : at_ kX12_letter 24 = (0, oLald 25) := rfl
theorem aX12_letter_25 : at_ kX12_letter 25 = (0, oL2i 26) := rfl
theorem aX12_letter_26 : at_ kX12_letter 26 = (0, oGoto 30) := rfl
theorem aX12_letter_29 : at_ kX12_letter 29 = (0, oPush (vI (-1)) 30) := rfl
theorem aX12_letter_30 : at_ kX12_letter 30 = (0, oRetI) := rfl
def kX12_is_0 : List En := [(0, oRload 0 1), (0, oGetf 14 80 0 4), (1, oFail), (1, oFail), (0, oRload 0 5), (0, oGetf 14 81 0 8), (1, oFail), (1, oFail), (0, oIcGe 23 11), (1, oFail), (1, oFail), (0, oRload 0 12), (2, oInvV 14 mX12_letter 0 15), (1, oFail), (1, oFail), (0, oIload 1 16)]
set_option maxRecDepth 20000 in
theorem zX12_is_0 : SndL mX12_is 0 kX12_is_0 := SndL.c (s_aload_n (k := 0) (by decide +kernel) rfl) (SndL.c (s_getf (k := 80) clok13 (by decide) rfl (by decide) rfl w_5_182 (Or.inl rfl) (by decide +kernel)) (SndL.c (s_fail) (SndL.c (s_fail) (SndL.c (s_aload_n (k := 0) (by decide +kernel) rfl) (SndL.c (s_getf (k := 81) clok13 (by decide) rfl (by decide) rfl w_5_183 (Or.inl rfl) (by decide +kernel)) (SndL.c (s_fail) (SndL.c (s_fail) (SndL.c (s_ic_ge (off := 15) (by decide +kernel) (by decide)) (SndL.c (s_fail) (SndL.c (s_fail) (SndL.c (s_aload_n (k := 0) (by decide +kernel) rfl) (SndL.c (s_invV (r := (RX12, TX12, 90)) (ci := 13) okX12_letter rfl (by decide) rfl rfl w_7_56 w_7_58 v_46 (by decide +kernel)) (SndL.c (s_fail) (SndL.c (s_fail) (SndL.c (s_iload_n (k := 1) (by decide +kernel) rfl) (SndL.n))))))))))))))))
def kX12_is_1 : List En := [(0, oIcNe 23 19), (1, oFail), (1, oFail), (0, oPush (vI 1) 20), (0, oGoto 24), (1, oFail), (1, oFail), (0, oPush (vI 0) 24), (0, oRetZ)]
set_option maxRecDepth 20000 in
theorem zX12_is_1 : SndL mX12_is 16 kX12_is_1 := SndL.c (s_ic_ne (off := 7) (by decide +kernel) (by decide)) (SndL.c (s_fail) (SndL.c (s_fail) (SndL.c (s_iconst (by decide +kernel) (in32_d (by decide))) (SndL.c (s_goto (off := 4) (by decide +kernel) (by decide)) (SndL.c (s_fail) (SndL.c (s_fail) (SndL.c (s_iconst (by decide +kernel) (in32_d (by decide))) (SndL.c (s_ret_z rfl (by decide +kernel)) (SndL.n)))))))))
def kX12_is : Cd := [kX12_is_0, kX12_is_1]
theorem zX12_is : SndC mX12_is 0 kX12_is := SndC.c zX12_is_0 (by decide) (SndC.c zX12_is_1 (by decide) (SndC.n))
theorem aX12_is_0 : at_ kX12_is 0 = (0, oRload 0 1) := rfl
theorem aX12_is_1 : at_ kX12_is 1 = (0, oGetf 14 80 0 4) := rfl
theorem aX12_is_4 : at_ kX12_is 4 = (0, oRload 0 5) := rfl
theorem aX12_is_5 : at_ kX12_is 5 = (0, oGetf 14 81 0 8) := rfl
theorem aX12_is_8 : at_ kX12_is 8 = (0, oIcGe 23 11) := rfl
theorem aX12_is_11 : at_ kX12_is 11 = (0, oRload 0 12) := rfl
theorem aX12_is_12 : at_ kX12_is 12 = (2, oInvV 14 mX12_letter 0 15) := rfl
theorem aX12_is_15 : at_ kX12_is 15 = (0, oIload 1 16) := rfl
theorem aX12_is_16 : at_ kX12_is 16 = (0, oIcNe 23 19) := rfl
theorem aX12_is_19 : at_ kX12_is 19 = (0, oPush (vI 1) 20) := rfl
theorem aX12_is_20 : at_ kX12_is 20 = (0, oGoto 24) := rfl
theorem aX12_is_23 : at_ kX12_is 23 = (0, oPush (vI 0) 24) := rfl
theorem aX12_is_24 : at_ kX12_is 24 = (0, oRetZ) := rfl
def kX12_isField_0 : List En := [(0, oRload 0 1), (0, oPush (vI 107) 3), (1, oFail), (2, oInvV 14 mX12_is 1 6), (1, oFail), (1, oFail), (0, oIfNe 90 9), (1, oFail), (1, oFail), (0, oRload 0 10), (0, oPush (vI 110) 12), (1, oFail), (2, oInvV 14 mX12_is 1 15), (1, oFail), (1, oFail), (0, oIfNe 90 18)]
set_option maxRecDepth 20000 in
theorem zX12_isField_0 : SndL mX12_isField 0 kX12_isField_0 := SndL.c (s_aload_n (k := 0) (by decide +kernel) rfl) (SndL.c (s_bipush (by decide +kernel) (in32_d (by decide)) (by decide +kernel)) (SndL.c (s_fail) (SndL.c (s_invV (r := (RX12, TX12, 90)) (ci := 13) okX12_is rfl (by decide) rfl rfl w_7_52 w_7_54 v_45 (by decide +kernel)) (SndL.c (s_fail) (SndL.c (s_fail) (SndL.c (s_if_ne (off := 84) (by decide +kernel) (by decide)) (SndL.c (s_fail) (SndL.c (s_fail) (SndL.c (s_aload_n (k := 0) (by decide +kernel) rfl) (SndL.c (s_bipush (by decide +kernel) (in32_d (by decide)) (by decide +kernel)) (SndL.c (s_fail) (SndL.c (s_invV (r := (RX12, TX12, 90)) (ci := 13) okX12_is rfl (by decide) rfl rfl w_7_52 w_7_54 v_45 (by decide +kernel)) (SndL.c (s_fail) (SndL.c (s_fail) (SndL.c (s_if_ne (off := 75) (by decide +kernel) (by decide)) (SndL.n))))))))))))))))
def kX12_isField_1 : List En := [(1, oFail), (1, oFail), (0, oRload 0 19), (0, oPush (vI 115) 21), (1, oFail), (2, oInvV 14 mX12_is 1 24), (1, oFail), (1, oFail), (0, oIfNe 90 27), (1, oFail), (1, oFail), (0, oRload 0 28), (0, oPush (vI 109) 30), (1, oFail), (2, oInvV 14 mX12_is 1 33), (1, oFail)]
set_option maxRecDepth 20000 in
theorem zX12_isField_1 : SndL mX12_isField 16 kX12_isField_1 := SndL.c (s_fail) (SndL.c (s_fail) (SndL.c (s_aload_n (k := 0) (by decide +kernel) rfl) (SndL.c (s_bipush (by decide +kernel) (in32_d (by decide)) (by decide +kernel)) (SndL.c (s_fail) (SndL.c (s_invV (r := (RX12, TX12, 90)) (ci := 13) okX12_is rfl (by decide) rfl rfl w_7_52 w_7_54 v_45 (by decide +kernel)) (SndL.c (s_fail) (SndL.c (s_fail) (SndL.c (s_if_ne (off := 66) (by decide +kernel) (by decide)) (SndL.c (s_fail) (SndL.c (s_fail) (SndL.c (s_aload_n (k := 0) (by decide +kernel) rfl) (SndL.c (s_bipush (by decide +kernel) (in32_d (by decide)) (by decide +kernel)) (SndL.c (s_fail) (SndL.c (s_invV (r := (RX12, TX12, 90)) (ci := 13) okX12_is rfl (by decide) rfl rfl w_7_52 w_7_54 v_45 (by decide +kernel)) (SndL.c (s_fail) (SndL.n))))))))))))))))
def kX12_isField_2 : List En := [(1, oFail), (0, oIfNe 90 36), (1, oFail), (1, oFail), (0, oRload 0 37), (0, oPush (vI 112) 39), (1, oFail), (2, oInvV 14 mX12_is 1 42), (1, oFail), (1, oFail), (0, oIfNe 90 45), (1, oFail), (1, oFail), (0, oRload 0 46), (0, oPush (vI 99) 48), (1, oFail)]
set_option maxRecDepth 20000 in
theorem zX12_isField_2 : SndL mX12_isField 32 kX12_isField_2 := SndL.c (s_fail) (SndL.c (s_if_ne (off := 57) (by decide +kernel) (by decide)) (SndL.c (s_fail) (SndL.c (s_fail) (SndL.c (s_aload_n (k := 0) (by decide +kernel) rfl) (SndL.c (s_bipush (by decide +kernel) (in32_d (by decide)) (by decide +kernel)) (SndL.c (s_fail) (SndL.c (s_invV (r := (RX12, TX12, 90)) (ci := 13) okX12_is rfl (by decide) rfl rfl w_7_52 w_7_54 v_45 (by decide +kernel)) (SndL.c (s_fail) (SndL.c (s_fail) (SndL.c (s_if_ne (off := 48) (by decide +kernel) (by decide)) (SndL.c (s_fail) (SndL.c (s_fail) (SndL.c (s_aload_n (k := 0) (by decide +kernel) rfl) (SndL.c (s_bipush (by decide +kernel) (in32_d (by decide)) (by decide +kernel)) (SndL.c (s_fail) (SndL.n))))))))))))))))
def kX12_isField_3 : List En := [(2, oInvV 14 mX12_is 1 51), (1, oFail), (1, oFail), (0, oIfNe 90 54), (1, oFail), (1, oFail), (0, oRload 0 55), (0, oPush (vI 108) 57), (1, oFail), (2, oInvV 14 mX12_is 1 60), (1, oFail), (1, oFail), (0, oIfNe 90 63), (1, oFail), (1, oFail), (0, oRload 0 64)]
set_option maxRecDepth 20000 in
theorem zX12_isField_3 : SndL mX12_isField 48 kX12_isField_3 := SndL.c (s_invV (r := (RX12, TX12, 90)) (ci := 13) okX12_is rfl (by decide) rfl rfl w_7_52 w_7_54 v_45 (by decide +kernel)) (SndL.c (s_fail) (SndL.c (s_fail) (SndL.c (s_if_ne (off := 39) (by decide +kernel) (by decide)) (SndL.c (s_fail) (SndL.c (s_fail) (SndL.c (s_aload_n (k := 0) (by decide +kernel) rfl) (SndL.c (s_bipush (by decide +kernel) (in32_d (by decide)) (by decide +kernel)) (SndL.c (s_fail) (SndL.c (s_invV (r := (RX12, TX12, 90)) (ci := 13) okX12_is rfl (by decide) rfl rfl w_7_52 w_7_54 v_45 (by decide +kernel)) (SndL.c (s_fail) (SndL.c (s_fail) (SndL.c (s_if_ne (off := 30) (by decide +kernel) (by decide)) (SndL.c (s_fail) (SndL.c (s_fail) (SndL.c (s_aload_n (k := 0) (by decide +kernel) rfl) (SndL.n))))))))))))))))
def kX12_isField_4 : List En := [(0, oPush (vI 97) 66), (1, oFail), (2, oInvV 14 mX12_is 1 69), (1, oFail), (1, oFail), (0, oIfNe 90 72), (1, oFail), (1, oFail), (0, oRload 0 73), (0, oPush (vI 122) 75), (1, oFail), (2, oInvV 14 mX12_is 1 78), (1, oFail), (1, oFail), (0, oIfNe 90 81), (1, oFail)]
set_option maxRecDepth 20000 in
theorem zX12_isField_4 : SndL mX12_isField 64 kX12_isField_4 := SndL.c (s_bipush (by decide +kernel) (in32_d (by decide)) (by decide +kernel)) (SndL.c (s_fail) (SndL.c (s_invV (r := (RX12, TX12, 90)) (ci := 13) okX12_is rfl (by decide) rfl rfl w_7_52 w_7_54 v_45 (by decide +kernel)) (SndL.c (s_fail) (SndL.c (s_fail) (SndL.c (s_if_ne (off := 21) (by decide +kernel) (by decide)) (SndL.c (s_fail) (SndL.c (s_fail) (SndL.c (s_aload_n (k := 0) (by decide +kernel) rfl) (SndL.c (s_bipush (by decide +kernel) (in32_d (by decide)) (by decide +kernel)) (SndL.c (s_fail) (SndL.c (s_invV (r := (RX12, TX12, 90)) (ci := 13) okX12_is rfl (by decide) rfl rfl w_7_52 w_7_54 v_45 (by decide +kernel)) (SndL.c (s_fail) (SndL.c (s_fail) (SndL.c (s_if_ne (off := 12) (by decide +kernel) (by decide)) (SndL.c (s_fail) (SndL.n))))))))))))))))
def kX12_isField_5 : List En := [(1, oFail), (0, oRload 0 82), (0, oPush (vI 121) 84), (1, oFail), (2, oInvV 14 mX12_is 1 87), (1, oFail), (1, oFail), (0, oIfEq 94 90), (1, oFail), (1, oFail), (0, oPush (vI 1) 91), (0, oGoto 95), (1, oFail), (1, oFail), (0, oPush (vI 0) 95), (0, oRetZ)]
set_option maxRecDepth 20000 in
theorem zX12_isField_5 : SndL mX12_isField 80 kX12_isField_5 := SndL.c (s_fail) (SndL.c (s_aload_n (k := 0) (by decide +kernel) rfl) (SndL.c (s_bipush (by decide +kernel) (in32_d (by decide)) (by decide +kernel)) (SndL.c (s_fail) (SndL.c (s_invV (r := (RX12, TX12, 90)) (ci := 13) okX12_is rfl (by decide) rfl rfl w_7_52 w_7_54 v_45 (by decide +kernel)) (SndL.c (s_fail) (SndL.c (s_fail) (SndL.c (s_if_eq (off := 7) (by decide +kernel) (by decide)) (SndL.c (s_fail) (SndL.c (s_fail) (SndL.c (s_iconst (by decide +kernel) (in32_d (by decide))) (SndL.c (s_goto (off := 4) (by decide +kernel) (by decide)) (SndL.c (s_fail) (SndL.c (s_fail) (SndL.c (s_iconst (by decide +kernel) (in32_d (by decide))) (SndL.c (s_ret_z rfl (by decide +kernel)) (SndL.n))))))))))))))))
def kX12_isField : Cd := [kX12_isField_0, kX12_isField_1, kX12_isField_2, kX12_isField_3, kX12_isField_4, kX12_isField_5]
theorem zX12_isField : SndC mX12_isField 0 kX12_isField := SndC.c zX12_isField_0 (by decide) (SndC.c zX12_isField_1 (by decide) (SndC.c zX12_isField_2 (by decide) (SndC.c zX12_isField_3 (by decide) (SndC.c zX12_isField_4 (by decide) (SndC.c zX12_isField_5 (by decide) (SndC.n))))))
theorem aX12_isField_0 : at_ kX12_isField 0 = (0, oRload 0 1) := rfl
theorem aX12_isField_1 : at_ kX12_isField 1 = (0, oPush (vI 107) 3) := rfl
theorem aX12_isField_3 : at_ kX12_isField 3 = (2, oInvV 14 mX12_is 1 6) := rfl
theorem aX12_isField_6 : at_ kX12_isField 6 = (0, oIfNe 90 9) := rfl
theorem aX12_isField_9 : at_ kX12_isField 9 = (0, oRload 0 10) := rfl
theorem aX12_isField_10 : at_ kX12_isField 10 = (0, oPush (vI 110) 12) := rfl
theorem aX12_isField_12 : at_ kX12_isField 12 = (2, oInvV 14 mX12_is 1 15) := rfl
theorem aX12_isField_15 : at_ kX12_isField 15 = (0, oIfNe 90 18) := rfl
theorem aX12_isField_18 : at_ kX12_isField 18 = (0, oRload 0 19) := rfl
theorem aX12_isField_19 : at_ kX12_isField 19 = (0, oPush (vI 115) 21) := rfl
theorem aX12_isField_21 : at_ kX12_isField 21 = (2, oInvV 14 mX12_is 1 24) := rfl
theorem aX12_isField_24 : at_ kX12_isField 24 = (0, oIfNe 90 27) := rfl
theorem aX12_isField_27 : at_ kX12_isField 27 = (0, oRload 0 28) := rfl
theorem aX12_isField_28 : at_ kX12_isField 28 = (0, oPush (vI 109) 30) := rfl
theorem aX12_isField_30 : at_ kX12_isField 30 = (2, oInvV 14 mX12_is 1 33) := rfl
theorem aX12_isField_33 : at_ kX12_isField 33 = (0, oIfNe 90 36) := rfl
theorem aX12_isField_36 : at_ kX12_isField 36 = (0, oRload 0 37) := rfl
theorem aX12_isField_37 : at_ kX12_isField 37 = (0, oPush (vI 112) 39) := rfl
theorem aX12_isField_39 : at_ kX12_isField 39 = (2, oInvV 14 mX12_is 1 42) := rfl
theorem aX12_isField_42 : at_ kX12_isField 42 = (0, oIfNe 90 45) := rfl
theorem aX12_isField_45 : at_ kX12_isField 45 = (0, oRload 0 46) := rfl
theorem aX12_isField_46 : at_ kX12_isField 46 = (0, oPush (vI 99) 48) := rfl
theorem aX12_isField_48 : at_ kX12_isField 48 = (2, oInvV 14 mX12_is 1 51) := rfl
theorem aX12_isField_51 : at_ kX12_isField 51 = (0, oIfNe 90 54) := rfl
theorem aX12_isField_54 : at_ kX12_isField 54 = (0, oRload 0 55) := rfl
theorem aX12_isField_55 : at_ kX12_isField 55 = (0, oPush (vI 108) 57) := rfl
theorem aX12_isField_57 : at_ kX12_isField 57 = (2, oInvV 14 mX12_is 1 60) := rfl
theorem aX12_isField_60 : at_ kX12_isField 60 = (0, oIfNe 90 63) := rfl
theorem aX12_isField_63 : at_ kX12_isField 63 = (0, oRload 0 64) := rfl
theorem aX12_isField_64 : at_ kX12_isField 64 = (0, oPush (vI 97) 66) := rfl
theorem aX12_isField_66 : at_ kX12_isField 66 = (2, oInvV 14 mX12_is 1 69) := rfl
theorem aX12_isField_69 : at_ kX12_isField 69 = (0, oIfNe 90 72) := rfl
theorem aX12_isField_72 : at_ kX12_isField 72 = (0, oRload 0 73) := rfl
theorem aX12_isField_73 : at_ kX12_isField 73 = (0, oPush (vI 122) 75) := rfl
theorem aX12_isField_75 : at_ kX12_isField 75 = (2, oInvV 14 mX12_is 1 78) := rfl
theorem aX12_isField_78 : at_ kX12_isField 78 = (0, oIfNe 90 81) := rfl
theorem aX12_isField_81 : at_ kX12_isField 81 = (0, oRload 0 82) := rfl
theorem aX12_isField_82 : at_ kX12_isField 82 = (0, oPush (vI 121) 84) := rfl
theorem aX12_isField_84 : at_ kX12_isField 84 = (2, oInvV 14 mX12_is 1 87) := rfl
theorem aX12_isField_87 : at_ kX12_isField 87 = (0, oIfEq 94 90) := rfl
theorem aX12_isField_90 : at_ kX12_isField 90 = (0, oPush (vI 1) 91) := rfl
theorem aX12_isField_91 : at_ kX12_isField 91 = (0, oGoto 95) := rfl
theorem aX12_isField_94 : at_ kX12_isField 94 = (0, oPush (vI 0) 95) := rfl
theorem aX12_isField_95 : at_ kX12_isField 95 = (0, oRetZ) := rfl
def kX12_isSide_0 : List En := [(0, oRload 0 1), (0, oPush (vI (-1)) 2), (0, oPutf 14 87 0 5), (1, oFail), (1, oFail), (0, oRload 0 6), (0, oPush (vI 0) 7), (0, oPutf 14 88 0 10), (1, oFail), (1, oFail), (0, oRload 0 11), (2, oInvV 14 mX12_isField 0 14), (1, oFail), (1, oFail), (0, oIfEq 37 17), (1, oFail)]
set_option maxRecDepth 20000 in
theorem zX12_isSide_0 : SndL mX12_isSide 0 kX12_isSide_0 := SndL.c (s_aload_n (k := 0) (by decide +kernel) rfl) (SndL.c (s_iconst (by decide +kernel) (in32_d (by decide))) (SndL.c (s_putf (k := 87) clok13 (by decide) rfl (by decide) rfl w_5_189 (Or.inl rfl) (Or.inl rfl) (by decide +kernel)) (SndL.c (s_fail) (SndL.c (s_fail) (SndL.c (s_aload_n (k := 0) (by decide +kernel) rfl) (SndL.c (s_iconst (by decide +kernel) (in32_d (by decide))) (SndL.c (s_putf (k := 88) clok13 (by decide) rfl (by decide) rfl w_5_190 (Or.inl rfl) (Or.inl rfl) (by decide +kernel)) (SndL.c (s_fail) (SndL.c (s_fail) (SndL.c (s_aload_n (k := 0) (by decide +kernel) rfl) (SndL.c (s_invV (r := (RX12, TX12, 90)) (ci := 13) okX12_isField rfl (by decide) rfl rfl w_7_68 w_7_70 v_49 (by decide +kernel)) (SndL.c (s_fail) (SndL.c (s_fail) (SndL.c (s_if_eq (off := 23) (by decide +kernel) (by decide)) (SndL.c (s_fail) (SndL.n))))))))))))))))
def kX12_isSide_1 : List En := [(1, oFail), (0, oRload 0 18), (0, oRload 0 19), (2, oInvV 14 mX12_letter 0 22), (1, oFail), (1, oFail), (0, oPutf 14 87 0 25), (1, oFail), (1, oFail), (0, oRload 0 26), (0, oDup 27), (0, oGetf 14 80 0 30), (1, oFail), (1, oFail), (0, oPush (vI 1) 31), (0, oIadd 32)]
set_option maxRecDepth 20000 in
theorem zX12_isSide_1 : SndL mX12_isSide 16 kX12_isSide_1 := SndL.c (s_fail) (SndL.c (s_aload_n (k := 0) (by decide +kernel) rfl) (SndL.c (s_aload_n (k := 0) (by decide +kernel) rfl) (SndL.c (s_invV (r := (RX12, TX12, 90)) (ci := 13) okX12_letter rfl (by decide) rfl rfl w_7_56 w_7_58 v_46 (by decide +kernel)) (SndL.c (s_fail) (SndL.c (s_fail) (SndL.c (s_putf (k := 87) clok13 (by decide) rfl (by decide) rfl w_5_189 (Or.inl rfl) (Or.inl rfl) (by decide +kernel)) (SndL.c (s_fail) (SndL.c (s_fail) (SndL.c (s_aload_n (k := 0) (by decide +kernel) rfl) (SndL.c (s_dup (by decide +kernel)) (SndL.c (s_getf (k := 80) clok13 (by decide) rfl (by decide) rfl w_5_182 (Or.inl rfl) (by decide +kernel)) (SndL.c (s_fail) (SndL.c (s_fail) (SndL.c (s_iconst (by decide +kernel) (in32_d (by decide))) (SndL.c (s_iadd (by decide +kernel)) (SndL.n))))))))))))))))
def kX12_isSide_2 : List En := [(0, oPutf 14 80 0 35), (1, oFail), (1, oFail), (0, oPush (vI 1) 36), (0, oRetZ), (0, oPush (vI 0) 38), (0, oIstore 1 39), (1, oRload 0 40), (0, oGetf 14 80 0 43), (1, oFail), (1, oFail), (0, oRload 0 44), (0, oGetf 14 81 0 47), (1, oFail), (1, oFail), (0, oIcGe 119 50)]
set_option maxRecDepth 20000 in
theorem zX12_isSide_2 : SndL mX12_isSide 32 kX12_isSide_2 := SndL.c (s_putf (k := 80) clok13 (by decide) rfl (by decide) rfl w_5_182 (Or.inl rfl) (Or.inl rfl) (by decide +kernel)) (SndL.c (s_fail) (SndL.c (s_fail) (SndL.c (s_iconst (by decide +kernel) (in32_d (by decide))) (SndL.c (s_ret_z rfl (by decide +kernel)) (SndL.c (s_iconst (by decide +kernel) (in32_d (by decide))) (SndL.c (s_istore_n (k := 1) (by decide +kernel) rfl (by decide)) (SndL.c (s_aload_n (k := 0) (by decide +kernel) rfl) (SndL.c (s_getf (k := 80) clok13 (by decide) rfl (by decide) rfl w_5_182 (Or.inl rfl) (by decide +kernel)) (SndL.c (s_fail) (SndL.c (s_fail) (SndL.c (s_aload_n (k := 0) (by decide +kernel) rfl) (SndL.c (s_getf (k := 81) clok13 (by decide) rfl (by decide) rfl w_5_183 (Or.inl rfl) (by decide +kernel)) (SndL.c (s_fail) (SndL.c (s_fail) (SndL.c (s_ic_ge (off := 72) (by decide +kernel) (by decide)) (SndL.n))))))))))))))))
def kX12_isSide_3 : List En := [(1, oFail), (1, oFail), (0, oRload 0 51), (2, oInvV 14 mX12_letter 0 54), (1, oFail), (1, oFail), (0, oPush (vI 48) 56), (1, oFail), (0, oIcLt 119 59), (1, oFail), (1, oFail), (0, oRload 0 60), (2, oInvV 14 mX12_letter 0 63), (1, oFail), (1, oFail), (0, oPush (vI 57) 65)]
set_option maxRecDepth 20000 in
theorem zX12_isSide_3 : SndL mX12_isSide 48 kX12_isSide_3 := SndL.c (s_fail) (SndL.c (s_fail) (SndL.c (s_aload_n (k := 0) (by decide +kernel) rfl) (SndL.c (s_invV (r := (RX12, TX12, 90)) (ci := 13) okX12_letter rfl (by decide) rfl rfl w_7_56 w_7_58 v_46 (by decide +kernel)) (SndL.c (s_fail) (SndL.c (s_fail) (SndL.c (s_bipush (by decide +kernel) (in32_d (by decide)) (by decide +kernel)) (SndL.c (s_fail) (SndL.c (s_ic_lt (off := 63) (by decide +kernel) (by decide)) (SndL.c (s_fail) (SndL.c (s_fail) (SndL.c (s_aload_n (k := 0) (by decide +kernel) rfl) (SndL.c (s_invV (r := (RX12, TX12, 90)) (ci := 13) okX12_letter rfl (by decide) rfl rfl w_7_56 w_7_58 v_46 (by decide +kernel)) (SndL.c (s_fail) (SndL.c (s_fail) (SndL.c (s_bipush (by decide +kernel) (in32_d (by decide)) (by decide +kernel)) (SndL.n))))))))))))))))
def kX12_isSide_4 : List En := [(1, oFail), (0, oIcGt 119 68), (1, oFail), (1, oFail), (0, oIload 1 69), (0, oPush (vI 4) 70), (0, oIcGe 119 73), (1, oFail), (1, oFail), (0, oIload 1 74), (0, oIfLe 84 77), (1, oFail), (1, oFail), (0, oRload 0 78), (0, oGetf 14 88 0 81), (1, oFail)]
set_option maxRecDepth 20000 in
theorem zX12_isSide_4 : SndL mX12_isSide 64 kX12_isSide_4 := SndL.c (s_fail) (SndL.c (s_ic_gt (off := 54) (by decide +kernel) (by decide)) (SndL.c (s_fail) (SndL.c (s_fail) (SndL.c (s_iload_n (k := 1) (by decide +kernel) rfl) (SndL.c (s_iconst (by decide +kernel) (in32_d (by decide))) (SndL.c (s_ic_ge (off := 49) (by decide +kernel) (by decide)) (SndL.c (s_fail) (SndL.c (s_fail) (SndL.c (s_iload_n (k := 1) (by decide +kernel) rfl) (SndL.c (s_if_le (off := 10) (by decide +kernel) (by decide)) (SndL.c (s_fail) (SndL.c (s_fail) (SndL.c (s_aload_n (k := 0) (by decide +kernel) rfl) (SndL.c (s_getf (k := 88) clok13 (by decide) rfl (by decide) rfl w_5_190 (Or.inl rfl) (by decide +kernel)) (SndL.c (s_fail) (SndL.n))))))))))))))))
def kX12_isSide_5 : List En := [(1, oFail), (0, oIfEq 119 84), (1, oFail), (1, oFail), (0, oRload 0 85), (0, oPush (vI 10) 87), (1, oFail), (0, oRload 0 88), (0, oGetf 14 88 0 91), (1, oFail), (1, oFail), (0, oImul 92), (0, oRload 0 93), (2, oInvV 14 mX12_letter 0 96), (1, oFail), (1, oFail)]
set_option maxRecDepth 20000 in
theorem zX12_isSide_5 : SndL mX12_isSide 80 kX12_isSide_5 := SndL.c (s_fail) (SndL.c (s_if_eq (off := 38) (by decide +kernel) (by decide)) (SndL.c (s_fail) (SndL.c (s_fail) (SndL.c (s_aload_n (k := 0) (by decide +kernel) rfl) (SndL.c (s_bipush (by decide +kernel) (in32_d (by decide)) (by decide +kernel)) (SndL.c (s_fail) (SndL.c (s_aload_n (k := 0) (by decide +kernel) rfl) (SndL.c (s_getf (k := 88) clok13 (by decide) rfl (by decide) rfl w_5_190 (Or.inl rfl) (by decide +kernel)) (SndL.c (s_fail) (SndL.c (s_fail) (SndL.c (s_imul (by decide +kernel)) (SndL.c (s_aload_n (k := 0) (by decide +kernel) rfl) (SndL.c (s_invV (r := (RX12, TX12, 90)) (ci := 13) okX12_letter rfl (by decide) rfl rfl w_7_56 w_7_58 v_46 (by decide +kernel)) (SndL.c (s_fail) (SndL.c (s_fail) (SndL.n))))))))))))))))
def kX12_isSide_6 : List En := [(0, oIadd 97), (0, oPush (vI 48) 99), (1, oFail), (0, oIsub 100), (0, oPutf 14 88 0 103), (1, oFail), (1, oFail), (0, oIinc 1 1 106), (1, oFail), (1, oFail), (0, oRload 0 107), (0, oDup 108), (0, oGetf 14 80 0 111), (1, oFail), (1, oFail), (0, oPush (vI 1) 112)]
set_option maxRecDepth 20000 in
theorem zX12_isSide_6 : SndL mX12_isSide 96 kX12_isSide_6 := SndL.c (s_iadd (by decide +kernel)) (SndL.c (s_bipush (by decide +kernel) (in32_d (by decide)) (by decide +kernel)) (SndL.c (s_fail) (SndL.c (s_isub (by decide +kernel)) (SndL.c (s_putf (k := 88) clok13 (by decide) rfl (by decide) rfl w_5_190 (Or.inl rfl) (Or.inl rfl) (by decide +kernel)) (SndL.c (s_fail) (SndL.c (s_fail) (SndL.c (s_iinc (by decide +kernel) (by decide)) (SndL.c (s_fail) (SndL.c (s_fail) (SndL.c (s_aload_n (k := 0) (by decide +kernel) rfl) (SndL.c (s_dup (by decide +kernel)) (SndL.c (s_getf (k := 80) clok13 (by decide) rfl (by decide) rfl w_5_182 (Or.inl rfl) (by decide +kernel)) (SndL.c (s_fail) (SndL.c (s_fail) (SndL.c (s_iconst (by decide +kernel) (in32_d (by decide))) (SndL.n))))))))))))))))
def kX12_isSide_7 : List En := [(0, oIadd 113), (0, oPutf 14 80 0 116), (1, oFail), (1, oFail), (0, oGoto 39), (1, oFail), (1, oFail), (0, oIload 1 120), (0, oIfLe 127 123), (1, oFail), (1, oFail), (0, oPush (vI 1) 124), (0, oGoto 128), (1, oFail), (1, oFail), (0, oPush (vI 0) 128)]
set_option maxRecDepth 20000 in
theorem zX12_isSide_7 : SndL mX12_isSide 112 kX12_isSide_7 := SndL.c (s_iadd (by decide +kernel)) (SndL.c (s_putf (k := 80) clok13 (by decide) rfl (by decide) rfl w_5_182 (Or.inl rfl) (Or.inl rfl) (by decide +kernel)) (SndL.c (s_fail) (SndL.c (s_fail) (SndL.c (s_goto (off := -77) (by decide +kernel) (by decide)) (SndL.c (s_fail) (SndL.c (s_fail) (SndL.c (s_iload_n (k := 1) (by decide +kernel) rfl) (SndL.c (s_if_le (off := 7) (by decide +kernel) (by decide)) (SndL.c (s_fail) (SndL.c (s_fail) (SndL.c (s_iconst (by decide +kernel) (in32_d (by decide))) (SndL.c (s_goto (off := 4) (by decide +kernel) (by decide)) (SndL.c (s_fail) (SndL.c (s_fail) (SndL.c (s_iconst (by decide +kernel) (in32_d (by decide))) (SndL.n))))))))))))))))
def kX12_isSide_8 : List En := [(0, oRetZ)]
set_option maxRecDepth 20000 in
theorem zX12_isSide_8 : SndL mX12_isSide 128 kX12_isSide_8 := SndL.c (s_ret_z rfl (by decide +kernel)) (SndL.n)
def kX12_isSide : Cd := [kX12_isSide_0, kX12_isSide_1, kX12_isSide_2, kX12_isSide_3, kX12_isSide_4, kX12_isSide_5, kX12_isSide_6, kX12_isSide_7, kX12_isSide_8]
theorem zX12_isSide : SndC mX12_isSide 0 kX12_isSide := SndC.c zX12_isSide_0 (by decide) (SndC.c zX12_isSide_1 (by decide) (SndC.c zX12_isSide_2 (by decide) (SndC.c zX12_isSide_3 (by decide) (SndC.c zX12_isSide_4 (by decide) (SndC.c zX12_isSide_5 (by decide) (SndC.c zX12_isSide_6 (by decide) (SndC.c zX12_isSide_7 (by decide) (SndC.c zX12_isSide_8 (by decide) (SndC.n)))))))))
theorem aX12_isSide_0 : at_ kX12_isSide 0 = (0, oRload 0 1) := rfl
theorem aX12_isSide_1 : at_ kX12_isSide 1 = (0, oPush (vI (-1)) 2) := rfl
theorem aX12_isSide_2 : at_ kX12_isSide 2 = (0, oPutf 14 87 0 5) := rfl
theorem aX12_isSide_5 : at_ kX12_isSide 5 = (0, oRload 0 6) := rfl
theorem aX12_isSide_6 : at_ kX12_isSide 6 = (0, oPush (vI 0) 7) := rfl
theorem aX12_isSide_7 : at_ kX12_isSide 7 = (0, oPutf 14 88 0 10) := rfl
theorem aX12_isSide_10 : at_ kX12_isSide 10 = (0, oRload 0 11) := rfl
theorem aX12_isSide_11 : at_ kX12_isSide 11 = (2, oInvV 14 mX12_isField 0 14) := rfl
theorem aX12_isSide_14 : at_ kX12_isSide 14 = (0, oIfEq 37 17) := rfl
theorem aX12_isSide_17 : at_ kX12_isSide 17 = (0, oRload 0 18) := rfl
theorem aX12_isSide_18 : at_ kX12_isSide 18 = (0, oRload 0 19) := rfl
theorem aX12_isSide_19 : at_ kX12_isSide 19 = (2, oInvV 14 mX12_letter 0 22) := rfl
theorem aX12_isSide_22 : at_ kX12_isSide 22 = (0, oPutf 14 87 0 25) := rfl
theorem aX12_isSide_25 : at_ kX12_isSide 25 = (0, oRload 0 26) := rfl
theorem aX12_isSide_26 : at_ kX12_isSide 26 = (0, oDup 27) := rfl
theorem aX12_isSide_27 : at_ kX12_isSide 27 = (0, oGetf 14 80 0 30) := rfl
theorem aX12_isSide_30 : at_ kX12_isSide 30 = (0, oPush (vI 1) 31) := rfl
theorem aX12_isSide_31 : at_ kX12_isSide 31 = (0, oIadd 32) := rfl
theorem aX12_isSide_32 : at_ kX12_isSide 32 = (0, oPutf 14 80 0 35) := rfl
theorem aX12_isSide_35 : at_ kX12_isSide 35 = (0, oPush (vI 1) 36) := rfl
theorem aX12_isSide_36 : at_ kX12_isSide 36 = (0, oRetZ) := rfl
theorem aX12_isSide_37 : at_ kX12_isSide 37 = (0, oPush (vI 0) 38) := rfl
theorem aX12_isSide_38 : at_ kX12_isSide 38 = (0, oIstore 1 39) := rfl
theorem aX12_isSide_39 : at_ kX12_isSide 39 = (1, oRload 0 40) := rfl
theorem aX12_isSide_40 : at_ kX12_isSide 40 = (0, oGetf 14 80 0 43) := rfl
theorem aX12_isSide_43 : at_ kX12_isSide 43 = (0, oRload 0 44) := rfl
theorem aX12_isSide_44 : at_ kX12_isSide 44 = (0, oGetf 14 81 0 47) := rfl
theorem aX12_isSide_47 : at_ kX12_isSide 47 = (0, oIcGe 119 50) := rfl
theorem aX12_isSide_50 : at_ kX12_isSide 50 = (0, oRload 0 51) := rfl
theorem aX12_isSide_51 : at_ kX12_isSide 51 = (2, oInvV 14 mX12_letter 0 54) := rfl
theorem aX12_isSide_54 : at_ kX12_isSide 54 = (0, oPush (vI 48) 56) := rfl
theorem aX12_isSide_56 : at_ kX12_isSide 56 = (0, oIcLt 119 59) := rfl
theorem aX12_isSide_59 : at_ kX12_isSide 59 = (0, oRload 0 60) := rfl
theorem aX12_isSide_60 : at_ kX12_isSide 60 = (2, oInvV 14 mX12_letter 0 63) := rfl
theorem aX12_isSide_63 : at_ kX12_isSide 63 = (0, oPush (vI 57) 65) := rfl
theorem aX12_isSide_65 : at_ kX12_isSide 65 = (0, oIcGt 119 68) := rfl
theorem aX12_isSide_68 : at_ kX12_isSide 68 = (0, oIload 1 69) := rfl
theorem aX12_isSide_69 : at_ kX12_isSide 69 = (0, oPush (vI 4) 70) := rfl
theorem aX12_isSide_70 : at_ kX12_isSide 70 = (0, oIcGe 119 73) := rfl
theorem aX12_isSide_73 : at_ kX12_isSide 73 = (0, oIload 1 74) := rfl
theorem aX12_isSide_74 : at_ kX12_isSide 74 = (0, oIfLe 84 77) := rfl
theorem aX12_isSide_77 : at_ kX12_isSide 77 = (0, oRload 0 78) := rfl
theorem aX12_isSide_78 : at_ kX12_isSide 78 = (0, oGetf 14 88 0 81) := rfl
theorem aX12_isSide_81 : at_ kX12_isSide 81 = (0, oIfEq 119 84) := rfl
theorem aX12_isSide_84 : at_ kX12_isSide 84 = (0, oRload 0 85) := rfl
theorem aX12_isSide_85 : at_ kX12_isSide 85 = (0, oPush (vI 10) 87) := rfl
theorem aX12_isSide_87 : at_ kX12_isSide 87 = (0, oRload 0 88) := rfl
theorem aX12_isSide_88 : at_ kX12_isSide 88 = (0, oGetf 14 88 0 91) := rfl
theorem aX12_isSide_91 : at_ kX12_isSide 91 = (0, oImul 92) := rfl
theorem aX12_isSide_92 : at_ kX12_isSide 92 = (0, oRload 0 93) := rfl
theorem aX12_isSide_93 : at_ kX12_isSide 93 = (2, oInvV 14 mX12_letter 0 96) := rfl
theorem aX12_isSide_96 : at_ kX12_isSide 96 = (0, oIadd 97) := rfl
theorem aX12_isSide_97 : at_ kX12_isSide 97 = (0, oPush (vI 48) 99) := rfl
theorem aX12_isSide_99 : at_ kX12_isSide 99 = (0, oIsub 100) := rfl
theorem aX12_isSide_100 : at_ kX12_isSide 100 = (0, oPutf 14 88 0 103) := rfl
theorem aX12_isSide_103 : at_ kX12_isSide 103 = (0, oIinc 1 1 106) := rfl
theorem aX12_isSide_106 : at_ kX12_isSide 106 = (0, oRload 0 107) := rfl
theorem aX12_isSide_107 : at_ kX12_isSide 107 = (0, oDup 108) := rfl
theorem aX12_isSide_108 : at_ kX12_isSide 108 = (0, oGetf 14 80 0 111) := rfl
theorem aX12_isSide_111 : at_ kX12_isSide 111 = (0, oPush (vI 1) 112) := rfl
theorem aX12_isSide_112 : at_ kX12_isSide 112 = (0, oIadd 113) := rfl
theorem aX12_isSide_113 : at_ kX12_isSide 113 = (0, oPutf 14 80 0 116) := rfl
theorem aX12_isSide_116 : at_ kX12_isSide 116 = (0, oGoto 39) := rfl
theorem aX12_isSide_119 : at_ kX12_isSide 119 = (0, oIload 1 120) := rfl
theorem aX12_isSide_120 : at_ kX12_isSide 120 = (0, oIfLe 127 123) := rfl
theorem aX12_isSide_123 : at_ kX12_isSide 123 = (0, oPush (vI 1) 124) := rfl
theorem aX12_isSide_124 : at_ kX12_isSide 124 = (0, oGoto 128) := rfl
theorem aX12_isSide_127 : at_ kX12_isSide 127 = (0, oPush (vI 0) 128) := rfl
theorem aX12_isSide_128 : at_ kX12_isSide 128 = (0, oRetZ) := rfl
def kX12_isTest_0 : List En := [(0, oPush (vI 40) 2), (1, oFail), (0, oIload 1 3), (0, oImul 4), (0, oRload 0 5), (0, oGetf 14 84 0 8), (1, oFail), (1, oFail), (0, oIadd 9), (0, oIstore 2 10), (0, oRload 0 11), (2, oInvV 14 mX12_isSide 0 14), (1, oFail), (1, oFail), (0, oIfNe 19 17), (1, oFail)]
set_option maxRecDepth 20000 in
theorem zX12_isTest_0 : SndL mX12_isTest 0 kX12_isTest_0 := SndL.c (s_bipush (by decide +kernel) (in32_d (by decide)) (by decide +kernel)) (SndL.c (s_fail) (SndL.c (s_iload_n (k := 1) (by decide +kernel) rfl) (SndL.c (s_imul (by decide +kernel)) (SndL.c (s_aload_n (k := 0) (by decide +kernel) rfl) (SndL.c (s_getf (k := 84) clok13 (by decide) rfl (by decide) rfl w_5_186 (Or.inl rfl) (by decide +kernel)) (SndL.c (s_fail) (SndL.c (s_fail) (SndL.c (s_iadd (by decide +kernel)) (SndL.c (s_istore_n (k := 2) (by decide +kernel) rfl (by decide)) (SndL.c (s_aload_n (k := 0) (by decide +kernel) rfl) (SndL.c (s_invV (r := (RX12, TX12, 90)) (ci := 13) okX12_isSide rfl (by decide) rfl rfl w_7_64 w_7_66 v_48 (by decide +kernel)) (SndL.c (s_fail) (SndL.c (s_fail) (SndL.c (s_if_ne (off := 5) (by decide +kernel) (by decide)) (SndL.c (s_fail) (SndL.n))))))))))))))))
def kX12_isTest_1 : List En := [(1, oFail), (0, oPush (vI 0) 18), (0, oRetZ), (0, oRload 0 20), (0, oGetf 14 50 2 23), (1, oFail), (1, oFail), (0, oIload 2 24), (0, oRload 0 25), (0, oGetf 14 87 0 28), (1, oFail), (1, oFail), (0, oIast 29), (0, oRload 0 30), (0, oGetf 14 51 2 33), (1, oFail)]
set_option maxRecDepth 20000 in
theorem zX12_isTest_1 : SndL mX12_isTest 16 kX12_isTest_1 := SndL.c (s_fail) (SndL.c (s_iconst (by decide +kernel) (in32_d (by decide))) (SndL.c (s_ret_z rfl (by decide +kernel)) (SndL.c (s_aload_n (k := 0) (by decide +kernel) rfl) (SndL.c (s_getf (k := 50) clok13 (by decide) rfl (by decide) rfl w_5_152 (Or.inl rfl) (by decide +kernel)) (SndL.c (s_fail) (SndL.c (s_fail) (SndL.c (s_iload_n (k := 2) (by decide +kernel) rfl) (SndL.c (s_aload_n (k := 0) (by decide +kernel) rfl) (SndL.c (s_getf (k := 87) clok13 (by decide) rfl (by decide) rfl w_5_189 (Or.inl rfl) (by decide +kernel)) (SndL.c (s_fail) (SndL.c (s_fail) (SndL.c (s_iast (by decide +kernel)) (SndL.c (s_aload_n (k := 0) (by decide +kernel) rfl) (SndL.c (s_getf (k := 51) clok13 (by decide) rfl (by decide) rfl w_5_153 (Or.inl rfl) (by decide +kernel)) (SndL.c (s_fail) (SndL.n))))))))))))))))
def kX12_isTest_2 : List En := [(1, oFail), (0, oIload 2 34), (0, oRload 0 35), (0, oGetf 14 88 0 38), (1, oFail), (1, oFail), (0, oIast 39), (0, oRload 0 40), (0, oPush (vI 60) 42), (1, oFail), (2, oInvV 14 mX12_is 1 45), (1, oFail), (1, oFail), (0, oIfNe 68 48), (1, oFail), (1, oFail)]
set_option maxRecDepth 20000 in
theorem zX12_isTest_2 : SndL mX12_isTest 32 kX12_isTest_2 := SndL.c (s_fail) (SndL.c (s_iload_n (k := 2) (by decide +kernel) rfl) (SndL.c (s_aload_n (k := 0) (by decide +kernel) rfl) (SndL.c (s_getf (k := 88) clok13 (by decide) rfl (by decide) rfl w_5_190 (Or.inl rfl) (by decide +kernel)) (SndL.c (s_fail) (SndL.c (s_fail) (SndL.c (s_iast (by decide +kernel)) (SndL.c (s_aload_n (k := 0) (by decide +kernel) rfl) (SndL.c (s_bipush (by decide +kernel) (in32_d (by decide)) (by decide +kernel)) (SndL.c (s_fail) (SndL.c (s_invV (r := (RX12, TX12, 90)) (ci := 13) okX12_is rfl (by decide) rfl rfl w_7_52 w_7_54 v_45 (by decide +kernel)) (SndL.c (s_fail) (SndL.c (s_fail) (SndL.c (s_if_ne (off := 23) (by decide +kernel) (by decide)) (SndL.c (s_fail) (SndL.c (s_fail) (SndL.n))))))))))))))))
def kX12_isTest_3 : List En := [(0, oRload 0 49), (0, oPush (vI 62) 51), (1, oFail), (2, oInvV 14 mX12_is 1 54), (1, oFail), (1, oFail), (0, oIfNe 68 57), (1, oFail), (1, oFail), (0, oRload 0 58), (0, oPush (vI 61) 60), (1, oFail), (2, oInvV 14 mX12_is 1 63), (1, oFail), (1, oFail), (0, oIfNe 68 66)]
set_option maxRecDepth 20000 in
theorem zX12_isTest_3 : SndL mX12_isTest 48 kX12_isTest_3 := SndL.c (s_aload_n (k := 0) (by decide +kernel) rfl) (SndL.c (s_bipush (by decide +kernel) (in32_d (by decide)) (by decide +kernel)) (SndL.c (s_fail) (SndL.c (s_invV (r := (RX12, TX12, 90)) (ci := 13) okX12_is rfl (by decide) rfl rfl w_7_52 w_7_54 v_45 (by decide +kernel)) (SndL.c (s_fail) (SndL.c (s_fail) (SndL.c (s_if_ne (off := 14) (by decide +kernel) (by decide)) (SndL.c (s_fail) (SndL.c (s_fail) (SndL.c (s_aload_n (k := 0) (by decide +kernel) rfl) (SndL.c (s_bipush (by decide +kernel) (in32_d (by decide)) (by decide +kernel)) (SndL.c (s_fail) (SndL.c (s_invV (r := (RX12, TX12, 90)) (ci := 13) okX12_is rfl (by decide) rfl rfl w_7_52 w_7_54 v_45 (by decide +kernel)) (SndL.c (s_fail) (SndL.c (s_fail) (SndL.c (s_if_ne (off := 5) (by decide +kernel) (by decide)) (SndL.n))))))))))))))))
def kX12_isTest_4 : List En := [(1, oFail), (1, oFail), (0, oPush (vI 0) 67), (0, oRetZ), (0, oRload 0 69), (0, oGetf 14 52 2 72), (1, oFail), (1, oFail), (0, oIload 2 73), (0, oRload 0 74), (2, oInvV 14 mX12_letter 0 77), (1, oFail), (1, oFail), (0, oIast 78), (0, oRload 0 79), (0, oDup 80)]
set_option maxRecDepth 20000 in
theorem zX12_isTest_4 : SndL mX12_isTest 64 kX12_isTest_4 := SndL.c (s_fail) (SndL.c (s_fail) (SndL.c (s_iconst (by decide +kernel) (in32_d (by decide))) (SndL.c (s_ret_z rfl (by decide +kernel)) (SndL.c (s_aload_n (k := 0) (by decide +kernel) rfl) (SndL.c (s_getf (k := 52) clok13 (by decide) rfl (by decide) rfl w_5_154 (Or.inl rfl) (by decide +kernel)) (SndL.c (s_fail) (SndL.c (s_fail) (SndL.c (s_iload_n (k := 2) (by decide +kernel) rfl) (SndL.c (s_aload_n (k := 0) (by decide +kernel) rfl) (SndL.c (s_invV (r := (RX12, TX12, 90)) (ci := 13) okX12_letter rfl (by decide) rfl rfl w_7_56 w_7_58 v_46 (by decide +kernel)) (SndL.c (s_fail) (SndL.c (s_fail) (SndL.c (s_iast (by decide +kernel)) (SndL.c (s_aload_n (k := 0) (by decide +kernel) rfl) (SndL.c (s_dup (by decide +kernel)) (SndL.n))))))))))))))))
def kX12_isTest_5 : List En := [(0, oGetf 14 80 0 83), (1, oFail), (1, oFail), (0, oPush (vI 1) 84), (0, oIadd 85), (0, oPutf 14 80 0 88), (1, oFail), (1, oFail), (0, oRload 0 89), (2, oInvV 14 mX12_isSide 0 92), (1, oFail), (1, oFail), (0, oIfNe 97 95), (1, oFail), (1, oFail), (0, oPush (vI 0) 96)]
set_option maxRecDepth 20000 in
theorem zX12_isTest_5 : SndL mX12_isTest 80 kX12_isTest_5 := SndL.c (s_getf (k := 80) clok13 (by decide) rfl (by decide) rfl w_5_182 (Or.inl rfl) (by decide +kernel)) (SndL.c (s_fail) (SndL.c (s_fail) (SndL.c (s_iconst (by decide +kernel) (in32_d (by decide))) (SndL.c (s_iadd (by decide +kernel)) (SndL.c (s_putf (k := 80) clok13 (by decide) rfl (by decide) rfl w_5_182 (Or.inl rfl) (Or.inl rfl) (by decide +kernel)) (SndL.c (s_fail) (SndL.c (s_fail) (SndL.c (s_aload_n (k := 0) (by decide +kernel) rfl) (SndL.c (s_invV (r := (RX12, TX12, 90)) (ci := 13) okX12_isSide rfl (by decide) rfl rfl w_7_64 w_7_66 v_48 (by decide +kernel)) (SndL.c (s_fail) (SndL.c (s_fail) (SndL.c (s_if_ne (off := 5) (by decide +kernel) (by decide)) (SndL.c (s_fail) (SndL.c (s_fail) (SndL.c (s_iconst (by decide +kernel) (in32_d (by decide))) (SndL.n))))))))))))))))
def kX12_isTest_6 : List En := [(0, oRetZ), (0, oRload 0 98), (0, oGetf 14 53 2 101), (1, oFail), (1, oFail), (0, oIload 2 102), (0, oRload 0 103), (0, oGetf 14 87 0 106), (1, oFail), (1, oFail), (0, oIast 107), (0, oRload 0 108), (0, oGetf 14 54 2 111), (1, oFail), (1, oFail), (0, oIload 2 112)]
set_option maxRecDepth 20000 in
theorem zX12_isTest_6 : SndL mX12_isTest 96 kX12_isTest_6 := SndL.c (s_ret_z rfl (by decide +kernel)) (SndL.c (s_aload_n (k := 0) (by decide +kernel) rfl) (SndL.c (s_getf (k := 53) clok13 (by decide) rfl (by decide) rfl w_5_155 (Or.inl rfl) (by decide +kernel)) (SndL.c (s_fail) (SndL.c (s_fail) (SndL.c (s_iload_n (k := 2) (by decide +kernel) rfl) (SndL.c (s_aload_n (k := 0) (by decide +kernel) rfl) (SndL.c (s_getf (k := 87) clok13 (by decide) rfl (by decide) rfl w_5_189 (Or.inl rfl) (by decide +kernel)) (SndL.c (s_fail) (SndL.c (s_fail) (SndL.c (s_iast (by decide +kernel)) (SndL.c (s_aload_n (k := 0) (by decide +kernel) rfl) (SndL.c (s_getf (k := 54) clok13 (by decide) rfl (by decide) rfl w_5_156 (Or.inl rfl) (by decide +kernel)) (SndL.c (s_fail) (SndL.c (s_fail) (SndL.c (s_iload_n (k := 2) (by decide +kernel) rfl) (SndL.n))))))))))))))))
def kX12_isTest_7 : List En := [(0, oRload 0 113), (0, oGetf 14 88 0 116), (1, oFail), (1, oFail), (0, oIast 117), (0, oRload 0 118), (0, oDup 119), (0, oGetf 14 84 0 122), (1, oFail), (1, oFail), (0, oPush (vI 1) 123), (0, oIadd 124), (0, oPutf 14 84 0 127), (1, oFail), (1, oFail), (0, oPush (vI 1) 128)]
set_option maxRecDepth 20000 in
theorem zX12_isTest_7 : SndL mX12_isTest 112 kX12_isTest_7 := SndL.c (s_aload_n (k := 0) (by decide +kernel) rfl) (SndL.c (s_getf (k := 88) clok13 (by decide) rfl (by decide) rfl w_5_190 (Or.inl rfl) (by decide +kernel)) (SndL.c (s_fail) (SndL.c (s_fail) (SndL.c (s_iast (by decide +kernel)) (SndL.c (s_aload_n (k := 0) (by decide +kernel) rfl) (SndL.c (s_dup (by decide +kernel)) (SndL.c (s_getf (k := 84) clok13 (by decide) rfl (by decide) rfl w_5_186 (Or.inl rfl) (by decide +kernel)) (SndL.c (s_fail) (SndL.c (s_fail) (SndL.c (s_iconst (by decide +kernel) (in32_d (by decide))) (SndL.c (s_iadd (by decide +kernel)) (SndL.c (s_putf (k := 84) clok13 (by decide) rfl (by decide) rfl w_5_186 (Or.inl rfl) (Or.inl rfl) (by decide +kernel)) (SndL.c (s_fail) (SndL.c (s_fail) (SndL.c (s_iconst (by decide +kernel) (in32_d (by decide))) (SndL.n))))))))))))))))
def kX12_isTest_8 : List En := [(0, oRetZ)]
set_option maxRecDepth 20000 in
theorem zX12_isTest_8 : SndL mX12_isTest 128 kX12_isTest_8 := SndL.c (s_ret_z rfl (by decide +kernel)) (SndL.n)
def kX12_isTest : Cd := [kX12_isTest_0, kX12_isTest_1, kX12_isTest_2, kX12_isTest_3, kX12_isTest_4, kX12_isTest_5, kX12_isTest_6, kX12_isTest_7, kX12_isTest_8]
theorem zX12_isTest : SndC mX12_isTest 0 kX12_isTest := SndC.c zX12_isTest_0 (by decide) (SndC.c zX12_isTest_1 (by decide) (SndC.c zX12_isTest_2 (by decide) (SndC.c zX12_isTest_3 (by decide) (SndC.c zX12_isTest_4 (by decide) (SndC.c zX12_isTest_5 (by decide) (SndC.c zX12_isTest_6 (by decide) (SndC.c zX12_isTest_7 (by decide) (SndC.c zX12_isTest_8 (by decide) (SndC.n)))))))))
theorem aX12_isTest_0 : at_ kX12_isTest 0 = (0, oPush (vI 40) 2) := rfl
theorem aX12_isTest_2 : at_ kX12_isTest 2 = (0, oIload 1 3) := rfl
theorem aX12_isTest_3 : at_ kX12_isTest 3 = (0, oImul 4) := rfl
theorem aX12_isTest_4 : at_ kX12_isTest 4 = (0, oRload 0 5) := rfl
theorem aX12_isTest_5 : at_ kX12_isTest 5 = (0, oGetf 14 84 0 8) := rfl
theorem aX12_isTest_8 : at_ kX12_isTest 8 = (0, oIadd 9) := rfl
theorem aX12_isTest_9 : at_ kX12_isTest 9 = (0, oIstore 2 10) := rfl
theorem aX12_isTest_10 : at_ kX12_isTest 10 = (0, oRload 0 11) := rfl
theorem aX12_isTest_11 : at_ kX12_isTest 11 = (2, oInvV 14 mX12_isSide 0 14) := rfl
theorem aX12_isTest_14 : at_ kX12_isTest 14 = (0, oIfNe 19 17) := rfl
theorem aX12_isTest_17 : at_ kX12_isTest 17 = (0, oPush (vI 0) 18) := rfl
theorem aX12_isTest_18 : at_ kX12_isTest 18 = (0, oRetZ) := rfl
theorem aX12_isTest_19 : at_ kX12_isTest 19 = (0, oRload 0 20) := rfl
theorem aX12_isTest_20 : at_ kX12_isTest 20 = (0, oGetf 14 50 2 23) := rfl
theorem aX12_isTest_23 : at_ kX12_isTest 23 = (0, oIload 2 24) := rfl
theorem aX12_isTest_24 : at_ kX12_isTest 24 = (0, oRload 0 25) := rfl
theorem aX12_isTest_25 : at_ kX12_isTest 25 = (0, oGetf 14 87 0 28) := rfl
theorem aX12_isTest_28 : at_ kX12_isTest 28 = (0, oIast 29) := rfl
theorem aX12_isTest_29 : at_ kX12_isTest 29 = (0, oRload 0 30) := rfl
theorem aX12_isTest_30 : at_ kX12_isTest 30 = (0, oGetf 14 51 2 33) := rfl
theorem aX12_isTest_33 : at_ kX12_isTest 33 = (0, oIload 2 34) := rfl
theorem aX12_isTest_34 : at_ kX12_isTest 34 = (0, oRload 0 35) := rfl
theorem aX12_isTest_35 : at_ kX12_isTest 35 = (0, oGetf 14 88 0 38) := rfl
theorem aX12_isTest_38 : at_ kX12_isTest 38 = (0, oIast 39) := rfl
theorem aX12_isTest_39 : at_ kX12_isTest 39 = (0, oRload 0 40) := rfl
theorem aX12_isTest_40 : at_ kX12_isTest 40 = (0, oPush (vI 60) 42) := rfl
theorem aX12_isTest_42 : at_ kX12_isTest 42 = (2, oInvV 14 mX12_is 1 45) := rfl
theorem aX12_isTest_45 : at_ kX12_isTest 45 = (0, oIfNe 68 48) := rfl
theorem aX12_isTest_48 : at_ kX12_isTest 48 = (0, oRload 0 49) := rfl
theorem aX12_isTest_49 : at_ kX12_isTest 49 = (0, oPush (vI 62) 51) := rfl
theorem aX12_isTest_51 : at_ kX12_isTest 51 = (2, oInvV 14 mX12_is 1 54) := rfl
theorem aX12_isTest_54 : at_ kX12_isTest 54 = (0, oIfNe 68 57) := rfl
theorem aX12_isTest_57 : at_ kX12_isTest 57 = (0, oRload 0 58) := rfl
theorem aX12_isTest_58 : at_ kX12_isTest 58 = (0, oPush (vI 61) 60) := rfl
theorem aX12_isTest_60 : at_ kX12_isTest 60 = (2, oInvV 14 mX12_is 1 63) := rfl
theorem aX12_isTest_63 : at_ kX12_isTest 63 = (0, oIfNe 68 66) := rfl
theorem aX12_isTest_66 : at_ kX12_isTest 66 = (0, oPush (vI 0) 67) := rfl
theorem aX12_isTest_67 : at_ kX12_isTest 67 = (0, oRetZ) := rfl
theorem aX12_isTest_68 : at_ kX12_isTest 68 = (0, oRload 0 69) := rfl
theorem aX12_isTest_69 : at_ kX12_isTest 69 = (0, oGetf 14 52 2 72) := rfl
theorem aX12_isTest_72 : at_ kX12_isTest 72 = (0, oIload 2 73) := rfl
theorem aX12_isTest_73 : at_ kX12_isTest 73 = (0, oRload 0 74) := rfl
theorem aX12_isTest_74 : at_ kX12_isTest 74 = (2, oInvV 14 mX12_letter 0 77) := rfl
theorem aX12_isTest_77 : at_ kX12_isTest 77 = (0, oIast 78) := rfl
theorem aX12_isTest_78 : at_ kX12_isTest 78 = (0, oRload 0 79) := rfl
theorem aX12_isTest_79 : at_ kX12_isTest 79 = (0, oDup 80) := rfl
theorem aX12_isTest_80 : at_ kX12_isTest 80 = (0, oGetf 14 80 0 83) := rfl
theorem aX12_isTest_83 : at_ kX12_isTest 83 = (0, oPush (vI 1) 84) := rfl
theorem aX12_isTest_84 : at_ kX12_isTest 84 = (0, oIadd 85) := rfl
theorem aX12_isTest_85 : at_ kX12_isTest 85 = (0, oPutf 14 80 0 88) := rfl
theorem aX12_isTest_88 : at_ kX12_isTest 88 = (0, oRload 0 89) := rfl
theorem aX12_isTest_89 : at_ kX12_isTest 89 = (2, oInvV 14 mX12_isSide 0 92) := rfl
theorem aX12_isTest_92 : at_ kX12_isTest 92 = (0, oIfNe 97 95) := rfl
theorem aX12_isTest_95 : at_ kX12_isTest 95 = (0, oPush (vI 0) 96) := rfl
theorem aX12_isTest_96 : at_ kX12_isTest 96 = (0, oRetZ) := rfl
theorem aX12_isTest_97 : at_ kX12_isTest 97 = (0, oRload 0 98) := rfl
theorem aX12_isTest_98 : at_ kX12_isTest 98 = (0, oGetf 14 53 2 101) := rfl
theorem aX12_isTest_101 : at_ kX12_isTest 101 = (0, oIload 2 102) := rfl
theorem aX12_isTest_102 : at_ kX12_isTest 102 = (0, oRload 0 103) := rfl
theorem aX12_isTest_103 : at_ kX12_isTest 103 = (0, oGetf 14 87 0 106) := rfl
theorem aX12_isTest_106 : at_ kX12_isTest 106 = (0, oIast 107) := rfl
theorem aX12_isTest_107 : at_ kX12_isTest 107 = (0, oRload 0 108) := rfl
theorem aX12_isTest_108 : at_ kX12_isTest 108 = (0, oGetf 14 54 2 111) := rfl
theorem aX12_isTest_111 : at_ kX12_isTest 111 = (0, oIload 2 112) := rfl
theorem aX12_isTest_112 : at_ kX12_isTest 112 = (0, oRload 0 113) := rfl
theorem aX12_isTest_113 : at_ kX12_isTest 113 = (0, oGetf 14 88 0 116) := rfl
theorem aX12_isTest_116 : at_ kX12_isTest 116 = (0, oIast 117) := rfl
theorem aX12_isTest_117 : at_ kX12_isTest 117 = (0, oRload 0 118) := rfl
theorem aX12_isTest_118 : at_ kX12_isTest 118 = (0, oDup 119) := rfl
theorem aX12_isTest_119 : at_ kX12_isTest 119 = (0, oGetf 14 84 0 122) := rfl
theorem aX12_isTest_122 : at_ kX12_isTest 122 = (0, oPush (vI 1) 123) := rfl
theorem aX12_isTest_123 : at_ kX12_isTest 123 = (0, oIadd 124) := rfl
theorem aX12_isTest_124 : at_ kX12_isTest 124 = (0, oPutf 14 84 0 127) := rfl
theorem aX12_isTest_127 : at_ kX12_isTest 127 = (0, oPush (vI 1) 128) := rfl
theorem aX12_isTest_128 : at_ kX12_isTest 128 = (0, oRetZ) := rfl
def kX12_emits_0 : List En := [(0, oRload 0 1), (0, oGetf 14 49 2 4), (1, oFail), (1, oFail), (0, oPush (vI 100) 6), (1, oFail), (0, oIload 1 7), (0, oImul 8), (0, oRload 0 9), (0, oDup 10), (0, oGetf 14 83 0 13), (1, oFail), (1, oFail), (0, oDupx1 14), (0, oPush (vI 1) 15), (0, oIadd 16)]
set_option maxRecDepth 20000 in
theorem zX12_emits_0 : SndL mX12_emits 0 kX12_emits_0 := SndL.c (s_aload_n (k := 0) (by decide +kernel) rfl) (SndL.c (s_getf (k := 49) clok13 (by decide) rfl (by decide) rfl w_5_151 (Or.inl rfl) (by decide +kernel)) (SndL.c (s_fail) (SndL.c (s_fail) (SndL.c (s_bipush (by decide +kernel) (in32_d (by decide)) (by decide +kernel)) (SndL.c (s_fail) (SndL.c (s_iload_n (k := 1) (by decide +kernel) rfl) (SndL.c (s_imul (by decide +kernel)) (SndL.c (s_aload_n (k := 0) (by decide +kernel) rfl) (SndL.c (s_dup (by decide +kernel)) (SndL.c (s_getf (k := 83) clok13 (by decide) rfl (by decide) rfl w_5_185 (Or.inl rfl) (by decide +kernel)) (SndL.c (s_fail) (SndL.c (s_fail) (SndL.c (s_dupx1 (by decide +kernel)) (SndL.c (s_iconst (by decide +kernel) (in32_d (by decide))) (SndL.c (s_iadd (by decide +kernel)) (SndL.n))))))))))))))))
def kX12_emits_1 : List En := [(0, oPutf 14 83 0 19), (1, oFail), (1, oFail), (0, oIadd 20), (0, oIload 2 21), (0, oIast 22), (0, oRetV)]
set_option maxRecDepth 20000 in
theorem zX12_emits_1 : SndL mX12_emits 16 kX12_emits_1 := SndL.c (s_putf (k := 83) clok13 (by decide) rfl (by decide) rfl w_5_185 (Or.inl rfl) (Or.inl rfl) (by decide +kernel)) (SndL.c (s_fail) (SndL.c (s_fail) (SndL.c (s_iadd (by decide +kernel)) (SndL.c (s_iload_n (k := 2) (by decide +kernel) rfl) (SndL.c (s_iast (by decide +kernel)) (SndL.c (s_ret_v rfl (by decide +kernel)) (SndL.n)))))))
def kX12_emits : Cd := [kX12_emits_0, kX12_emits_1]
theorem zX12_emits : SndC mX12_emits 0 kX12_emits := SndC.c zX12_emits_0 (by decide) (SndC.c zX12_emits_1 (by decide) (SndC.n))
theorem aX12_emits_0 : at_ kX12_emits 0 = (0, oRload 0 1) := rfl
theorem aX12_emits_1 : at_ kX12_emits 1 = (0, oGetf 14 49 2 4) := rfl
theorem aX12_emits_4 : at_ kX12_emits 4 = (0, oPush (vI 100) 6) := rfl
theorem aX12_emits_6 : at_ kX12_emits 6 = (0, oIload 1 7) := rfl
theorem aX12_emits_7 : at_ kX12_emits 7 = (0, oImul 8) := rfl
theorem aX12_emits_8 : at_ kX12_emits 8 = (0, oRload 0 9) := rfl
theorem aX12_emits_9 : at_ kX12_emits 9 = (0, oDup 10) := rfl
theorem aX12_emits_10 : at_ kX12_emits 10 = (0, oGetf 14 83 0 13) := rfl
theorem aX12_emits_13 : at_ kX12_emits 13 = (0, oDupx1 14) := rfl
theorem aX12_emits_14 : at_ kX12_emits 14 = (0, oPush (vI 1) 15) := rfl
theorem aX12_emits_15 : at_ kX12_emits 15 = (0, oIadd 16) := rfl
theorem aX12_emits_16 : at_ kX12_emits 16 = (0, oPutf 14 83 0 19) := rfl
theorem aX12_emits_19 : at_ kX12_emits 19 = (0, oIadd 20) := rfl
theorem aX12_emits_20 : at_ kX12_emits 20 = (0, oIload 2 21) := rfl
theorem aX12_emits_21 : at_ kX12_emits 21 = (0, oIast 22) := rfl
theorem aX12_emits_22 : at_ kX12_emits 22 = (0, oRetV) := rfl
def kX12_closes_0 : List En := [(1, oRload 0 1), (0, oGetf 14 85 0 4), (1, oFail), (1, oFail), (0, oIfLe 52 7), (1, oFail), (1, oFail), (0, oRload 0 8), (0, oGetf 14 78 2 11), (1, oFail), (1, oFail), (0, oRload 0 12), (0, oGetf 14 85 0 15), (1, oFail), (1, oFail), (0, oPush (vI 1) 16)]
set_option maxRecDepth 20000 in
theorem zX12_closes_0 : SndL mX12_closes 0 kX12_closes_0 := SndL.c (s_aload_n (k := 0) (by decide +kernel) rfl) (SndL.c (s_getf (k := 85) clok13 (by decide) rfl (by decide) rfl w_5_187 (Or.inl rfl) (by decide +kernel)) (SndL.c (s_fail) (SndL.c (s_fail) (SndL.c (s_if_le (off := 48) (by decide +kernel) (by decide)) (SndL.c (s_fail) (SndL.c (s_fail) (SndL.c (s_aload_n (k := 0) (by decide +kernel) rfl) (SndL.c (s_getf (k := 78) clok13 (by decide) rfl (by decide) rfl w_5_180 (Or.inl rfl) (by decide +kernel)) (SndL.c (s_fail) (SndL.c (s_fail) (SndL.c (s_aload_n (k := 0) (by decide +kernel) rfl) (SndL.c (s_getf (k := 85) clok13 (by decide) rfl (by decide) rfl w_5_187 (Or.inl rfl) (by decide +kernel)) (SndL.c (s_fail) (SndL.c (s_fail) (SndL.c (s_iconst (by decide +kernel) (in32_d (by decide))) (SndL.n))))))))))))))))
def kX12_closes_1 : List En := [(0, oIsub 17), (0, oIald 18), (0, oPush (vI 33) 20), (1, oFail), (0, oIcNe 52 23), (1, oFail), (1, oFail), (0, oRload 0 24), (0, oDup 25), (0, oGetf 14 85 0 28), (1, oFail), (1, oFail), (0, oPush (vI 1) 29), (0, oIsub 30), (0, oPutf 14 85 0 33), (1, oFail)]
set_option maxRecDepth 20000 in
theorem zX12_closes_1 : SndL mX12_closes 16 kX12_closes_1 := SndL.c (s_isub (by decide +kernel)) (SndL.c (s_iald (by decide +kernel)) (SndL.c (s_bipush (by decide +kernel) (in32_d (by decide)) (by decide +kernel)) (SndL.c (s_fail) (SndL.c (s_ic_ne (off := 32) (by decide +kernel) (by decide)) (SndL.c (s_fail) (SndL.c (s_fail) (SndL.c (s_aload_n (k := 0) (by decide +kernel) rfl) (SndL.c (s_dup (by decide +kernel)) (SndL.c (s_getf (k := 85) clok13 (by decide) rfl (by decide) rfl w_5_187 (Or.inl rfl) (by decide +kernel)) (SndL.c (s_fail) (SndL.c (s_fail) (SndL.c (s_iconst (by decide +kernel) (in32_d (by decide))) (SndL.c (s_isub (by decide +kernel)) (SndL.c (s_putf (k := 85) clok13 (by decide) rfl (by decide) rfl w_5_187 (Or.inl rfl) (Or.inl rfl) (by decide +kernel)) (SndL.c (s_fail) (SndL.n))))))))))))))))
def kX12_closes_2 : List En := [(1, oFail), (0, oRload 0 34), (0, oDup 35), (0, oGetf 14 86 0 38), (1, oFail), (1, oFail), (0, oPush (vI 1) 39), (0, oIsub 40), (0, oPutf 14 86 0 43), (1, oFail), (1, oFail), (0, oRload 0 44), (0, oIload 1 45), (0, oPush (vI (-1)) 46), (2, oInvV 14 mX12_emits 2 49), (1, oFail)]
set_option maxRecDepth 20000 in
theorem zX12_closes_2 : SndL mX12_closes 32 kX12_closes_2 := SndL.c (s_fail) (SndL.c (s_aload_n (k := 0) (by decide +kernel) rfl) (SndL.c (s_dup (by decide +kernel)) (SndL.c (s_getf (k := 86) clok13 (by decide) rfl (by decide) rfl w_5_188 (Or.inl rfl) (by decide +kernel)) (SndL.c (s_fail) (SndL.c (s_fail) (SndL.c (s_iconst (by decide +kernel) (in32_d (by decide))) (SndL.c (s_isub (by decide +kernel)) (SndL.c (s_putf (k := 86) clok13 (by decide) rfl (by decide) rfl w_5_188 (Or.inl rfl) (Or.inl rfl) (by decide +kernel)) (SndL.c (s_fail) (SndL.c (s_fail) (SndL.c (s_aload_n (k := 0) (by decide +kernel) rfl) (SndL.c (s_iload_n (k := 1) (by decide +kernel) rfl) (SndL.c (s_iconst (by decide +kernel) (in32_d (by decide))) (SndL.c (s_invV (r := (RX12, TX12, 90)) (ci := 13) okX12_emits rfl (by decide) rfl rfl w_7_72 w_7_74 v_50 (by decide +kernel)) (SndL.c (s_fail) (SndL.n))))))))))))))))
def kX12_closes_3 : List En := [(1, oFail), (0, oGoto 0), (1, oFail), (1, oFail), (0, oRetV)]
set_option maxRecDepth 20000 in
theorem zX12_closes_3 : SndL mX12_closes 48 kX12_closes_3 := SndL.c (s_fail) (SndL.c (s_goto (off := -49) (by decide +kernel) (by decide)) (SndL.c (s_fail) (SndL.c (s_fail) (SndL.c (s_ret_v rfl (by decide +kernel)) (SndL.n)))))
def kX12_closes : Cd := [kX12_closes_0, kX12_closes_1, kX12_closes_2, kX12_closes_3]
theorem zX12_closes : SndC mX12_closes 0 kX12_closes := SndC.c zX12_closes_0 (by decide) (SndC.c zX12_closes_1 (by decide) (SndC.c zX12_closes_2 (by decide) (SndC.c zX12_closes_3 (by decide) (SndC.n))))
theorem aX12_closes_0 : at_ kX12_closes 0 = (1, oRload 0 1) := rfl
theorem aX12_closes_1 : at_ kX12_closes 1 = (0, oGetf 14 85 0 4) := rfl
theorem aX12_closes_4 : at_ kX12_closes 4 = (0, oIfLe 52 7) := rfl
theorem aX12_closes_7 : at_ kX12_closes 7 = (0, oRload 0 8) := rfl
theorem aX12_closes_8 : at_ kX12_closes 8 = (0, oGetf 14 78 2 11) := rfl
theorem aX12_closes_11 : at_ kX12_closes 11 = (0, oRload 0 12) := rfl
theorem aX12_closes_12 : at_ kX12_closes 12 = (0, oGetf 14 85 0 15) := rfl
theorem aX12_closes_15 : at_ kX12_closes 15 = (0, oPush (vI 1) 16) := rfl
theorem aX12_closes_16 : at_ kX12_closes 16 = (0, oIsub 17) := rfl
theorem aX12_closes_17 : at_ kX12_closes 17 = (0, oIald 18) := rfl
theorem aX12_closes_18 : at_ kX12_closes 18 = (0, oPush (vI 33) 20) := rfl
theorem aX12_closes_20 : at_ kX12_closes 20 = (0, oIcNe 52 23) := rfl
theorem aX12_closes_23 : at_ kX12_closes 23 = (0, oRload 0 24) := rfl
theorem aX12_closes_24 : at_ kX12_closes 24 = (0, oDup 25) := rfl
theorem aX12_closes_25 : at_ kX12_closes 25 = (0, oGetf 14 85 0 28) := rfl
theorem aX12_closes_28 : at_ kX12_closes 28 = (0, oPush (vI 1) 29) := rfl
theorem aX12_closes_29 : at_ kX12_closes 29 = (0, oIsub 30) := rfl
theorem aX12_closes_30 : at_ kX12_closes 30 = (0, oPutf 14 85 0 33) := rfl
theorem aX12_closes_33 : at_ kX12_closes 33 = (0, oRload 0 34) := rfl
theorem aX12_closes_34 : at_ kX12_closes 34 = (0, oDup 35) := rfl
theorem aX12_closes_35 : at_ kX12_closes 35 = (0, oGetf 14 86 0 38) := rfl
theorem aX12_closes_38 : at_ kX12_closes 38 = (0, oPush (vI 1) 39) := rfl
theorem aX12_closes_39 : at_ kX12_closes 39 = (0, oIsub 40) := rfl
theorem aX12_closes_40 : at_ kX12_closes 40 = (0, oPutf 14 86 0 43) := rfl
theorem aX12_closes_43 : at_ kX12_closes 43 = (0, oRload 0 44) := rfl
theorem aX12_closes_44 : at_ kX12_closes 44 = (0, oIload 1 45) := rfl
theorem aX12_closes_45 : at_ kX12_closes 45 = (0, oPush (vI (-1)) 46) := rfl
theorem aX12_closes_46 : at_ kX12_closes 46 = (2, oInvV 14 mX12_emits 2 49) := rfl
theorem aX12_closes_49 : at_ kX12_closes 49 = (0, oGoto 0) := rfl
theorem aX12_closes_52 : at_ kX12_closes 52 = (0, oRetV) := rfl
def kX12_pops_0 : List En := [(1, oRload 0 1), (0, oGetf 14 85 0 4), (1, oFail), (1, oFail), (0, oIfLe 82 7), (1, oFail), (1, oFail), (0, oRload 0 8), (0, oGetf 14 78 2 11), (1, oFail), (1, oFail), (0, oRload 0 12), (0, oGetf 14 85 0 15), (1, oFail), (1, oFail), (0, oPush (vI 1) 16)]
set_option maxRecDepth 20000 in
theorem zX12_pops_0 : SndL mX12_pops 0 kX12_pops_0 := SndL.c (s_aload_n (k := 0) (by decide +kernel) rfl) (SndL.c (s_getf (k := 85) clok13 (by decide) rfl (by decide) rfl w_5_187 (Or.inl rfl) (by decide +kernel)) (SndL.c (s_fail) (SndL.c (s_fail) (SndL.c (s_if_le (off := 78) (by decide +kernel) (by decide)) (SndL.c (s_fail) (SndL.c (s_fail) (SndL.c (s_aload_n (k := 0) (by decide +kernel) rfl) (SndL.c (s_getf (k := 78) clok13 (by decide) rfl (by decide) rfl w_5_180 (Or.inl rfl) (by decide +kernel)) (SndL.c (s_fail) (SndL.c (s_fail) (SndL.c (s_aload_n (k := 0) (by decide +kernel) rfl) (SndL.c (s_getf (k := 85) clok13 (by decide) rfl (by decide) rfl w_5_187 (Or.inl rfl) (by decide +kernel)) (SndL.c (s_fail) (SndL.c (s_fail) (SndL.c (s_iconst (by decide +kernel) (in32_d (by decide))) (SndL.n))))))))))))))))
def kX12_pops_1 : List En := [(0, oIsub 17), (0, oIald 18), (0, oPush (vI 38) 20), (1, oFail), (0, oIcEq 43 23), (1, oFail), (1, oFail), (0, oRload 0 24), (0, oGetf 14 78 2 27), (1, oFail), (1, oFail), (0, oRload 0 28), (0, oGetf 14 85 0 31), (1, oFail), (1, oFail), (0, oPush (vI 1) 32)]
set_option maxRecDepth 20000 in
theorem zX12_pops_1 : SndL mX12_pops 16 kX12_pops_1 := SndL.c (s_isub (by decide +kernel)) (SndL.c (s_iald (by decide +kernel)) (SndL.c (s_bipush (by decide +kernel) (in32_d (by decide)) (by decide +kernel)) (SndL.c (s_fail) (SndL.c (s_ic_eq (off := 23) (by decide +kernel) (by decide)) (SndL.c (s_fail) (SndL.c (s_fail) (SndL.c (s_aload_n (k := 0) (by decide +kernel) rfl) (SndL.c (s_getf (k := 78) clok13 (by decide) rfl (by decide) rfl w_5_180 (Or.inl rfl) (by decide +kernel)) (SndL.c (s_fail) (SndL.c (s_fail) (SndL.c (s_aload_n (k := 0) (by decide +kernel) rfl) (SndL.c (s_getf (k := 85) clok13 (by decide) rfl (by decide) rfl w_5_187 (Or.inl rfl) (by decide +kernel)) (SndL.c (s_fail) (SndL.c (s_fail) (SndL.c (s_iconst (by decide +kernel) (in32_d (by decide))) (SndL.n))))))))))))))))
def kX12_pops_2 : List En := [(0, oIsub 33), (0, oIald 34), (0, oPush (vI 124) 36), (1, oFail), (0, oIcNe 82 39), (1, oFail), (1, oFail), (0, oIload 2 40), (0, oIfNe 82 43), (1, oFail), (1, oFail), (0, oRload 0 44), (0, oDup 45), (0, oGetf 14 85 0 48), (1, oFail), (1, oFail)]
set_option maxRecDepth 20000 in
theorem zX12_pops_2 : SndL mX12_pops 32 kX12_pops_2 := SndL.c (s_isub (by decide +kernel)) (SndL.c (s_iald (by decide +kernel)) (SndL.c (s_bipush (by decide +kernel) (in32_d (by decide)) (by decide +kernel)) (SndL.c (s_fail) (SndL.c (s_ic_ne (off := 46) (by decide +kernel) (by decide)) (SndL.c (s_fail) (SndL.c (s_fail) (SndL.c (s_iload_n (k := 2) (by decide +kernel) rfl) (SndL.c (s_if_ne (off := 42) (by decide +kernel) (by decide)) (SndL.c (s_fail) (SndL.c (s_fail) (SndL.c (s_aload_n (k := 0) (by decide +kernel) rfl) (SndL.c (s_dup (by decide +kernel)) (SndL.c (s_getf (k := 85) clok13 (by decide) rfl (by decide) rfl w_5_187 (Or.inl rfl) (by decide +kernel)) (SndL.c (s_fail) (SndL.c (s_fail) (SndL.n))))))))))))))))
def kX12_pops_3 : List En := [(0, oPush (vI 1) 49), (0, oIsub 50), (0, oPutf 14 85 0 53), (1, oFail), (1, oFail), (0, oRload 0 54), (0, oIload 1 55), (0, oRload 0 56), (0, oGetf 14 78 2 59), (1, oFail), (1, oFail), (0, oRload 0 60), (0, oGetf 14 85 0 63), (1, oFail), (1, oFail), (0, oIald 64)]
set_option maxRecDepth 20000 in
theorem zX12_pops_3 : SndL mX12_pops 48 kX12_pops_3 := SndL.c (s_iconst (by decide +kernel) (in32_d (by decide))) (SndL.c (s_isub (by decide +kernel)) (SndL.c (s_putf (k := 85) clok13 (by decide) rfl (by decide) rfl w_5_187 (Or.inl rfl) (Or.inl rfl) (by decide +kernel)) (SndL.c (s_fail) (SndL.c (s_fail) (SndL.c (s_aload_n (k := 0) (by decide +kernel) rfl) (SndL.c (s_iload_n (k := 1) (by decide +kernel) rfl) (SndL.c (s_aload_n (k := 0) (by decide +kernel) rfl) (SndL.c (s_getf (k := 78) clok13 (by decide) rfl (by decide) rfl w_5_180 (Or.inl rfl) (by decide +kernel)) (SndL.c (s_fail) (SndL.c (s_fail) (SndL.c (s_aload_n (k := 0) (by decide +kernel) rfl) (SndL.c (s_getf (k := 85) clok13 (by decide) rfl (by decide) rfl w_5_187 (Or.inl rfl) (by decide +kernel)) (SndL.c (s_fail) (SndL.c (s_fail) (SndL.c (s_iald (by decide +kernel)) (SndL.n))))))))))))))))
def kX12_pops_4 : List En := [(0, oPush (vI 38) 66), (1, oFail), (0, oIcNe 74 69), (1, oFail), (1, oFail), (0, oPush (vI (-2)) 71), (1, oFail), (0, oGoto 76), (1, oFail), (1, oFail), (0, oPush (vI (-3)) 76), (1, oFail), (2, oInvV 14 mX12_emits 2 79), (1, oFail), (1, oFail), (0, oGoto 0)]
set_option maxRecDepth 20000 in
theorem zX12_pops_4 : SndL mX12_pops 64 kX12_pops_4 := SndL.c (s_bipush (by decide +kernel) (in32_d (by decide)) (by decide +kernel)) (SndL.c (s_fail) (SndL.c (s_ic_ne (off := 8) (by decide +kernel) (by decide)) (SndL.c (s_fail) (SndL.c (s_fail) (SndL.c (s_bipush (by decide +kernel) (in32_d (by decide)) (by decide +kernel)) (SndL.c (s_fail) (SndL.c (s_goto (off := 5) (by decide +kernel) (by decide)) (SndL.c (s_fail) (SndL.c (s_fail) (SndL.c (s_bipush (by decide +kernel) (in32_d (by decide)) (by decide +kernel)) (SndL.c (s_fail) (SndL.c (s_invV (r := (RX12, TX12, 90)) (ci := 13) okX12_emits rfl (by decide) rfl rfl w_7_72 w_7_74 v_50 (by decide +kernel)) (SndL.c (s_fail) (SndL.c (s_fail) (SndL.c (s_goto (off := -79) (by decide +kernel) (by decide)) (SndL.n))))))))))))))))
def kX12_pops_5 : List En := [(1, oFail), (1, oFail), (0, oRetV)]
set_option maxRecDepth 20000 in
theorem zX12_pops_5 : SndL mX12_pops 80 kX12_pops_5 := SndL.c (s_fail) (SndL.c (s_fail) (SndL.c (s_ret_v rfl (by decide +kernel)) (SndL.n)))
def kX12_pops : Cd := [kX12_pops_0, kX12_pops_1, kX12_pops_2, kX12_pops_3, kX12_pops_4, kX12_pops_5]
theorem zX12_pops : SndC mX12_pops 0 kX12_pops := SndC.c zX12_pops_0 (by decide) (SndC.c zX12_pops_1 (by decide) (SndC.c zX12_pops_2 (by decide) (SndC.c zX12_pops_3 (by decide) (SndC.c zX12_pops_4 (by decide) (SndC.c zX12_pops_5 (by decide) (SndC.n))))))
theorem aX12_pops_0 : at_ kX12_pops 0 = (1, oRload 0 1) := rfl
theorem aX12_pops_1 : at_ kX12_pops 1 = (0, oGetf 14 85 0 4) := rfl
theorem aX12_pops_4 : at_ kX12_pops 4 = (0, oIfLe 82 7) := rfl
theorem aX12_pops_7 : at_ kX12_pops 7 = (0, oRload 0 8) := rfl
theorem aX12_pops_8 : at_ kX12_pops 8 = (0, oGetf 14 78 2 11) := rfl
theorem aX12_pops_11 : at_ kX12_pops 11 = (0, oRload 0 12) := rfl
theorem aX12_pops_12 : at_ kX12_pops 12 = (0, oGetf 14 85 0 15) := rfl
theorem aX12_pops_15 : at_ kX12_pops 15 = (0, oPush (vI 1) 16) := rfl
theorem aX12_pops_16 : at_ kX12_pops 16 = (0, oIsub 17) := rfl
theorem aX12_pops_17 : at_ kX12_pops 17 = (0, oIald 18) := rfl
theorem aX12_pops_18 : at_ kX12_pops 18 = (0, oPush (vI 38) 20) := rfl
theorem aX12_pops_20 : at_ kX12_pops 20 = (0, oIcEq 43 23) := rfl
theorem aX12_pops_23 : at_ kX12_pops 23 = (0, oRload 0 24) := rfl
theorem aX12_pops_24 : at_ kX12_pops 24 = (0, oGetf 14 78 2 27) := rfl
theorem aX12_pops_27 : at_ kX12_pops 27 = (0, oRload 0 28) := rfl
theorem aX12_pops_28 : at_ kX12_pops 28 = (0, oGetf 14 85 0 31) := rfl
theorem aX12_pops_31 : at_ kX12_pops 31 = (0, oPush (vI 1) 32) := rfl
theorem aX12_pops_32 : at_ kX12_pops 32 = (0, oIsub 33) := rfl
theorem aX12_pops_33 : at_ kX12_pops 33 = (0, oIald 34) := rfl
theorem aX12_pops_34 : at_ kX12_pops 34 = (0, oPush (vI 124) 36) := rfl
theorem aX12_pops_36 : at_ kX12_pops 36 = (0, oIcNe 82 39) := rfl
theorem aX12_pops_39 : at_ kX12_pops 39 = (0, oIload 2 40) := rfl
theorem aX12_pops_40 : at_ kX12_pops 40 = (0, oIfNe 82 43) := rfl
theorem aX12_pops_43 : at_ kX12_pops 43 = (0, oRload 0 44) := rfl
theorem aX12_pops_44 : at_ kX12_pops 44 = (0, oDup 45) := rfl
theorem aX12_pops_45 : at_ kX12_pops 45 = (0, oGetf 14 85 0 48) := rfl
theorem aX12_pops_48 : at_ kX12_pops 48 = (0, oPush (vI 1) 49) := rfl
theorem aX12_pops_49 : at_ kX12_pops 49 = (0, oIsub 50) := rfl
theorem aX12_pops_50 : at_ kX12_pops 50 = (0, oPutf 14 85 0 53) := rfl
theorem aX12_pops_53 : at_ kX12_pops 53 = (0, oRload 0 54) := rfl
theorem aX12_pops_54 : at_ kX12_pops 54 = (0, oIload 1 55) := rfl
theorem aX12_pops_55 : at_ kX12_pops 55 = (0, oRload 0 56) := rfl
theorem aX12_pops_56 : at_ kX12_pops 56 = (0, oGetf 14 78 2 59) := rfl
theorem aX12_pops_59 : at_ kX12_pops 59 = (0, oRload 0 60) := rfl
theorem aX12_pops_60 : at_ kX12_pops 60 = (0, oGetf 14 85 0 63) := rfl
theorem aX12_pops_63 : at_ kX12_pops 63 = (0, oIald 64) := rfl
theorem aX12_pops_64 : at_ kX12_pops 64 = (0, oPush (vI 38) 66) := rfl
theorem aX12_pops_66 : at_ kX12_pops 66 = (0, oIcNe 74 69) := rfl
theorem aX12_pops_69 : at_ kX12_pops 69 = (0, oPush (vI (-2)) 71) := rfl
theorem aX12_pops_71 : at_ kX12_pops 71 = (0, oGoto 76) := rfl
theorem aX12_pops_74 : at_ kX12_pops 74 = (0, oPush (vI (-3)) 76) := rfl
theorem aX12_pops_76 : at_ kX12_pops 76 = (2, oInvV 14 mX12_emits 2 79) := rfl
theorem aX12_pops_79 : at_ kX12_pops 79 = (0, oGoto 0) := rfl
theorem aX12_pops_82 : at_ kX12_pops 82 = (0, oRetV) := rfl
def kX12_compiles_0 : List En := [(0, oRload 0 1), (0, oPush (vI 60) 3), (1, oFail), (0, oIload 1 4), (0, oImul 5), (0, oPutf 14 82 0 8), (1, oFail), (1, oFail), (0, oRload 0 9), (0, oRload 0 10), (0, oGetf 14 13 2 13), (1, oFail), (1, oFail), (0, oIload 1 14), (0, oIald 15), (0, oPutf 14 81 0 18)]
set_option maxRecDepth 20000 in
theorem zX12_compiles_0 : SndL mX12_compiles 0 kX12_compiles_0 := SndL.c (s_aload_n (k := 0) (by decide +kernel) rfl) (SndL.c (s_bipush (by decide +kernel) (in32_d (by decide)) (by decide +kernel)) (SndL.c (s_fail) (SndL.c (s_iload_n (k := 1) (by decide +kernel) rfl) (SndL.c (s_imul (by decide +kernel)) (SndL.c (s_putf (k := 82) clok13 (by decide) rfl (by decide) rfl w_5_184 (Or.inl rfl) (Or.inl rfl) (by decide +kernel)) (SndL.c (s_fail) (SndL.c (s_fail) (SndL.c (s_aload_n (k := 0) (by decide +kernel) rfl) (SndL.c (s_aload_n (k := 0) (by decide +kernel) rfl) (SndL.c (s_getf (k := 13) clok13 (by decide) rfl (by decide) rfl w_5_115 (Or.inl rfl) (by decide +kernel)) (SndL.c (s_fail) (SndL.c (s_fail) (SndL.c (s_iload_n (k := 1) (by decide +kernel) rfl) (SndL.c (s_iald (by decide +kernel)) (SndL.c (s_putf (k := 81) clok13 (by decide) rfl (by decide) rfl w_5_183 (Or.inl rfl) (Or.inl rfl) (by decide +kernel)) (SndL.n))))))))))))))))
def kX12_compiles_1 : List En := [(1, oFail), (1, oFail), (0, oRload 0 19), (0, oPush (vI 0) 20), (0, oPutf 14 80 0 23), (1, oFail), (1, oFail), (0, oRload 0 24), (0, oPush (vI 0) 25), (0, oPutf 14 83 0 28), (1, oFail), (1, oFail), (0, oRload 0 29), (0, oPush (vI 0) 30), (0, oPutf 14 84 0 33), (1, oFail)]
set_option maxRecDepth 20000 in
theorem zX12_compiles_1 : SndL mX12_compiles 16 kX12_compiles_1 := SndL.c (s_fail) (SndL.c (s_fail) (SndL.c (s_aload_n (k := 0) (by decide +kernel) rfl) (SndL.c (s_iconst (by decide +kernel) (in32_d (by decide))) (SndL.c (s_putf (k := 80) clok13 (by decide) rfl (by decide) rfl w_5_182 (Or.inl rfl) (Or.inl rfl) (by decide +kernel)) (SndL.c (s_fail) (SndL.c (s_fail) (SndL.c (s_aload_n (k := 0) (by decide +kernel) rfl) (SndL.c (s_iconst (by decide +kernel) (in32_d (by decide))) (SndL.c (s_putf (k := 83) clok13 (by decide) rfl (by decide) rfl w_5_185 (Or.inl rfl) (Or.inl rfl) (by decide +kernel)) (SndL.c (s_fail) (SndL.c (s_fail) (SndL.c (s_aload_n (k := 0) (by decide +kernel) rfl) (SndL.c (s_iconst (by decide +kernel) (in32_d (by decide))) (SndL.c (s_putf (k := 84) clok13 (by decide) rfl (by decide) rfl w_5_186 (Or.inl rfl) (Or.inl rfl) (by decide +kernel)) (SndL.c (s_fail) (SndL.n))))))))))))))))
def kX12_compiles_2 : List En := [(1, oFail), (0, oRload 0 34), (0, oPush (vI 0) 35), (0, oPutf 14 85 0 38), (1, oFail), (1, oFail), (0, oRload 0 39), (0, oPush (vI 0) 40), (0, oPutf 14 86 0 43), (1, oFail), (1, oFail), (0, oRload 0 44), (0, oPush (vI 98) 46), (1, oFail), (2, oInvV 14 mX12_is 1 49), (1, oFail)]
set_option maxRecDepth 20000 in
theorem zX12_compiles_2 : SndL mX12_compiles 32 kX12_compiles_2 := SndL.c (s_fail) (SndL.c (s_aload_n (k := 0) (by decide +kernel) rfl) (SndL.c (s_iconst (by decide +kernel) (in32_d (by decide))) (SndL.c (s_putf (k := 85) clok13 (by decide) rfl (by decide) rfl w_5_187 (Or.inl rfl) (Or.inl rfl) (by decide +kernel)) (SndL.c (s_fail) (SndL.c (s_fail) (SndL.c (s_aload_n (k := 0) (by decide +kernel) rfl) (SndL.c (s_iconst (by decide +kernel) (in32_d (by decide))) (SndL.c (s_putf (k := 86) clok13 (by decide) rfl (by decide) rfl w_5_188 (Or.inl rfl) (Or.inl rfl) (by decide +kernel)) (SndL.c (s_fail) (SndL.c (s_fail) (SndL.c (s_aload_n (k := 0) (by decide +kernel) rfl) (SndL.c (s_bipush (by decide +kernel) (in32_d (by decide)) (by decide +kernel)) (SndL.c (s_fail) (SndL.c (s_invV (r := (RX12, TX12, 90)) (ci := 13) okX12_is rfl (by decide) rfl rfl w_7_52 w_7_54 v_45 (by decide +kernel)) (SndL.c (s_fail) (SndL.n))))))))))))))))
def kX12_compiles_3 : List En := [(1, oFail), (0, oIfNe 57 52), (1, oFail), (1, oFail), (0, oRload 0 53), (0, oGetf 14 80 0 56), (1, oFail), (1, oFail), (0, oRetI), (0, oRload 0 58), (0, oDup 59), (0, oGetf 14 80 0 62), (1, oFail), (1, oFail), (0, oPush (vI 1) 63), (0, oIadd 64)]
set_option maxRecDepth 20000 in
theorem zX12_compiles_3 : SndL mX12_compiles 48 kX12_compiles_3 := SndL.c (s_fail) (SndL.c (s_if_ne (off := 8) (by decide +kernel) (by decide)) (SndL.c (s_fail) (SndL.c (s_fail) (SndL.c (s_aload_n (k := 0) (by decide +kernel) rfl) (SndL.c (s_getf (k := 80) clok13 (by decide) rfl (by decide) rfl w_5_182 (Or.inl rfl) (by decide +kernel)) (SndL.c (s_fail) (SndL.c (s_fail) (SndL.c (s_ret_i rfl (by decide +kernel)) (SndL.c (s_aload_n (k := 0) (by decide +kernel) rfl) (SndL.c (s_dup (by decide +kernel)) (SndL.c (s_getf (k := 80) clok13 (by decide) rfl (by decide) rfl w_5_182 (Or.inl rfl) (by decide +kernel)) (SndL.c (s_fail) (SndL.c (s_fail) (SndL.c (s_iconst (by decide +kernel) (in32_d (by decide))) (SndL.c (s_iadd (by decide +kernel)) (SndL.n))))))))))))))))
def kX12_compiles_4 : List En := [(0, oPutf 14 80 0 67), (1, oFail), (1, oFail), (0, oRload 0 68), (0, oPush (vI 58) 70), (1, oFail), (2, oInvV 14 mX12_is 1 73), (1, oFail), (1, oFail), (0, oIfNe 81 76), (1, oFail), (1, oFail), (0, oRload 0 77), (0, oGetf 14 80 0 80), (1, oFail), (1, oFail)]
set_option maxRecDepth 20000 in
theorem zX12_compiles_4 : SndL mX12_compiles 64 kX12_compiles_4 := SndL.c (s_putf (k := 80) clok13 (by decide) rfl (by decide) rfl w_5_182 (Or.inl rfl) (Or.inl rfl) (by decide +kernel)) (SndL.c (s_fail) (SndL.c (s_fail) (SndL.c (s_aload_n (k := 0) (by decide +kernel) rfl) (SndL.c (s_bipush (by decide +kernel) (in32_d (by decide)) (by decide +kernel)) (SndL.c (s_fail) (SndL.c (s_invV (r := (RX12, TX12, 90)) (ci := 13) okX12_is rfl (by decide) rfl rfl w_7_52 w_7_54 v_45 (by decide +kernel)) (SndL.c (s_fail) (SndL.c (s_fail) (SndL.c (s_if_ne (off := 8) (by decide +kernel) (by decide)) (SndL.c (s_fail) (SndL.c (s_fail) (SndL.c (s_aload_n (k := 0) (by decide +kernel) rfl) (SndL.c (s_getf (k := 80) clok13 (by decide) rfl (by decide) rfl w_5_182 (Or.inl rfl) (by decide +kernel)) (SndL.c (s_fail) (SndL.c (s_fail) (SndL.n))))))))))))))))
def kX12_compiles_5 : List En := [(0, oRetI), (0, oRload 0 82), (0, oDup 83), (0, oGetf 14 80 0 86), (1, oFail), (1, oFail), (0, oPush (vI 1) 87), (0, oIadd 88), (0, oPutf 14 80 0 91), (1, oFail), (1, oFail), (0, oPush (vI 0) 92), (0, oIstore 3 93), (0, oPush (vI 1) 94), (0, oIstore 4 96), (1, oFail)]
set_option maxRecDepth 20000 in
theorem zX12_compiles_5 : SndL mX12_compiles 80 kX12_compiles_5 := SndL.c (s_ret_i rfl (by decide +kernel)) (SndL.c (s_aload_n (k := 0) (by decide +kernel) rfl) (SndL.c (s_dup (by decide +kernel)) (SndL.c (s_getf (k := 80) clok13 (by decide) rfl (by decide) rfl w_5_182 (Or.inl rfl) (by decide +kernel)) (SndL.c (s_fail) (SndL.c (s_fail) (SndL.c (s_iconst (by decide +kernel) (in32_d (by decide))) (SndL.c (s_iadd (by decide +kernel)) (SndL.c (s_putf (k := 80) clok13 (by decide) rfl (by decide) rfl w_5_182 (Or.inl rfl) (Or.inl rfl) (by decide +kernel)) (SndL.c (s_fail) (SndL.c (s_fail) (SndL.c (s_iconst (by decide +kernel) (in32_d (by decide))) (SndL.c (s_istore_n (k := 3) (by decide +kernel) rfl (by decide)) (SndL.c (s_iconst (by decide +kernel) (in32_d (by decide))) (SndL.c (s_istore (by decide +kernel) (by decide)) (SndL.c (s_fail) (SndL.n))))))))))))))))
def kX12_compiles_6 : List En := [(1, oRload 0 97), (0, oGetf 14 80 0 100), (1, oFail), (1, oFail), (0, oRload 0 101), (0, oGetf 14 81 0 104), (1, oFail), (1, oFail), (0, oIcGe 368 107), (1, oFail), (1, oFail), (0, oRload 0 108), (2, oInvV 14 mX12_letter 0 111), (1, oFail), (1, oFail), (0, oIstore 5 113)]
set_option maxRecDepth 20000 in
theorem zX12_compiles_6 : SndL mX12_compiles 96 kX12_compiles_6 := SndL.c (s_aload_n (k := 0) (by decide +kernel) rfl) (SndL.c (s_getf (k := 80) clok13 (by decide) rfl (by decide) rfl w_5_182 (Or.inl rfl) (by decide +kernel)) (SndL.c (s_fail) (SndL.c (s_fail) (SndL.c (s_aload_n (k := 0) (by decide +kernel) rfl) (SndL.c (s_getf (k := 81) clok13 (by decide) rfl (by decide) rfl w_5_183 (Or.inl rfl) (by decide +kernel)) (SndL.c (s_fail) (SndL.c (s_fail) (SndL.c (s_ic_ge (off := 264) (by decide +kernel) (by decide)) (SndL.c (s_fail) (SndL.c (s_fail) (SndL.c (s_aload_n (k := 0) (by decide +kernel) rfl) (SndL.c (s_invV (r := (RX12, TX12, 90)) (ci := 13) okX12_letter rfl (by decide) rfl rfl w_7_56 w_7_58 v_46 (by decide +kernel)) (SndL.c (s_fail) (SndL.c (s_fail) (SndL.c (s_istore (by decide +kernel) (by decide)) (SndL.n))))))))))))))))
def kX12_compiles_7 : List En := [(1, oFail), (0, oIload 4 115), (1, oFail), (0, oIfEq 197 118), (1, oFail), (1, oFail), (0, oIload 5 120), (1, oFail), (0, oPush (vI 33) 122), (1, oFail), (0, oIcEq 132 125), (1, oFail), (1, oFail), (0, oIload 5 127), (1, oFail), (0, oPush (vI 40) 129)]
set_option maxRecDepth 20000 in
theorem zX12_compiles_7 : SndL mX12_compiles 112 kX12_compiles_7 := SndL.c (s_fail) (SndL.c (s_iload (by decide +kernel)) (SndL.c (s_fail) (SndL.c (s_if_eq (off := 82) (by decide +kernel) (by decide)) (SndL.c (s_fail) (SndL.c (s_fail) (SndL.c (s_iload (by decide +kernel)) (SndL.c (s_fail) (SndL.c (s_bipush (by decide +kernel) (in32_d (by decide)) (by decide +kernel)) (SndL.c (s_fail) (SndL.c (s_ic_eq (off := 10) (by decide +kernel) (by decide)) (SndL.c (s_fail) (SndL.c (s_fail) (SndL.c (s_iload (by decide +kernel)) (SndL.c (s_fail) (SndL.c (s_bipush (by decide +kernel) (in32_d (by decide)) (by decide +kernel)) (SndL.n))))))))))))))))
def kX12_compiles_8 : List En := [(1, oFail), (0, oIcNe 197 132), (1, oFail), (1, oFail), (0, oRload 0 133), (0, oGetf 14 86 0 136), (1, oFail), (1, oFail), (0, oPush (vI 20) 138), (1, oFail), (0, oIcNe 146 141), (1, oFail), (1, oFail), (0, oRload 0 142), (0, oGetf 14 80 0 145), (1, oFail)]
set_option maxRecDepth 20000 in
theorem zX12_compiles_8 : SndL mX12_compiles 128 kX12_compiles_8 := SndL.c (s_fail) (SndL.c (s_ic_ne (off := 68) (by decide +kernel) (by decide)) (SndL.c (s_fail) (SndL.c (s_fail) (SndL.c (s_aload_n (k := 0) (by decide +kernel) rfl) (SndL.c (s_getf (k := 86) clok13 (by decide) rfl (by decide) rfl w_5_188 (Or.inl rfl) (by decide +kernel)) (SndL.c (s_fail) (SndL.c (s_fail) (SndL.c (s_bipush (by decide +kernel) (in32_d (by decide)) (by decide +kernel)) (SndL.c (s_fail) (SndL.c (s_ic_ne (off := 8) (by decide +kernel) (by decide)) (SndL.c (s_fail) (SndL.c (s_fail) (SndL.c (s_aload_n (k := 0) (by decide +kernel) rfl) (SndL.c (s_getf (k := 80) clok13 (by decide) rfl (by decide) rfl w_5_182 (Or.inl rfl) (by decide +kernel)) (SndL.c (s_fail) (SndL.n))))))))))))))))
def kX12_compiles_9 : List En := [(1, oFail), (0, oRetI), (0, oRload 0 147), (0, oDup 148), (0, oGetf 14 86 0 151), (1, oFail), (1, oFail), (0, oPush (vI 1) 152), (0, oIadd 153), (0, oPutf 14 86 0 156), (1, oFail), (1, oFail), (0, oRload 0 157), (0, oGetf 14 78 2 160), (1, oFail), (1, oFail)]
set_option maxRecDepth 20000 in
theorem zX12_compiles_9 : SndL mX12_compiles 144 kX12_compiles_9 := SndL.c (s_fail) (SndL.c (s_ret_i rfl (by decide +kernel)) (SndL.c (s_aload_n (k := 0) (by decide +kernel) rfl) (SndL.c (s_dup (by decide +kernel)) (SndL.c (s_getf (k := 86) clok13 (by decide) rfl (by decide) rfl w_5_188 (Or.inl rfl) (by decide +kernel)) (SndL.c (s_fail) (SndL.c (s_fail) (SndL.c (s_iconst (by decide +kernel) (in32_d (by decide))) (SndL.c (s_iadd (by decide +kernel)) (SndL.c (s_putf (k := 86) clok13 (by decide) rfl (by decide) rfl w_5_188 (Or.inl rfl) (Or.inl rfl) (by decide +kernel)) (SndL.c (s_fail) (SndL.c (s_fail) (SndL.c (s_aload_n (k := 0) (by decide +kernel) rfl) (SndL.c (s_getf (k := 78) clok13 (by decide) rfl (by decide) rfl w_5_180 (Or.inl rfl) (by decide +kernel)) (SndL.c (s_fail) (SndL.c (s_fail) (SndL.n))))))))))))))))
def kX12_compiles_10 : List En := [(0, oRload 0 161), (0, oDup 162), (0, oGetf 14 85 0 165), (1, oFail), (1, oFail), (0, oDupx1 166), (0, oPush (vI 1) 167), (0, oIadd 168), (0, oPutf 14 85 0 171), (1, oFail), (1, oFail), (0, oIload 5 173), (1, oFail), (0, oIast 174), (0, oIload 5 176), (1, oFail)]
set_option maxRecDepth 20000 in
theorem zX12_compiles_10 : SndL mX12_compiles 160 kX12_compiles_10 := SndL.c (s_aload_n (k := 0) (by decide +kernel) rfl) (SndL.c (s_dup (by decide +kernel)) (SndL.c (s_getf (k := 85) clok13 (by decide) rfl (by decide) rfl w_5_187 (Or.inl rfl) (by decide +kernel)) (SndL.c (s_fail) (SndL.c (s_fail) (SndL.c (s_dupx1 (by decide +kernel)) (SndL.c (s_iconst (by decide +kernel) (in32_d (by decide))) (SndL.c (s_iadd (by decide +kernel)) (SndL.c (s_putf (k := 85) clok13 (by decide) rfl (by decide) rfl w_5_187 (Or.inl rfl) (Or.inl rfl) (by decide +kernel)) (SndL.c (s_fail) (SndL.c (s_fail) (SndL.c (s_iload (by decide +kernel)) (SndL.c (s_fail) (SndL.c (s_iast (by decide +kernel)) (SndL.c (s_iload (by decide +kernel)) (SndL.c (s_fail) (SndL.n))))))))))))))))
def kX12_compiles_11 : List En := [(0, oPush (vI 40) 178), (1, oFail), (0, oIcNe 184 181), (1, oFail), (1, oFail), (0, oIinc 3 1 184), (1, oFail), (1, oFail), (0, oRload 0 185), (0, oDup 186), (0, oGetf 14 80 0 189), (1, oFail), (1, oFail), (0, oPush (vI 1) 190), (0, oIadd 191), (0, oPutf 14 80 0 194)]
set_option maxRecDepth 20000 in
theorem zX12_compiles_11 : SndL mX12_compiles 176 kX12_compiles_11 := SndL.c (s_bipush (by decide +kernel) (in32_d (by decide)) (by decide +kernel)) (SndL.c (s_fail) (SndL.c (s_ic_ne (off := 6) (by decide +kernel) (by decide)) (SndL.c (s_fail) (SndL.c (s_fail) (SndL.c (s_iinc (by decide +kernel) (by decide)) (SndL.c (s_fail) (SndL.c (s_fail) (SndL.c (s_aload_n (k := 0) (by decide +kernel) rfl) (SndL.c (s_dup (by decide +kernel)) (SndL.c (s_getf (k := 80) clok13 (by decide) rfl (by decide) rfl w_5_182 (Or.inl rfl) (by decide +kernel)) (SndL.c (s_fail) (SndL.c (s_fail) (SndL.c (s_iconst (by decide +kernel) (in32_d (by decide))) (SndL.c (s_iadd (by decide +kernel)) (SndL.c (s_putf (k := 80) clok13 (by decide) rfl (by decide) rfl w_5_182 (Or.inl rfl) (Or.inl rfl) (by decide +kernel)) (SndL.n))))))))))))))))
def kX12_compiles_12 : List En := [(1, oFail), (1, oFail), (0, oGoto 365), (1, oFail), (1, oFail), (0, oIload 4 199), (1, oFail), (0, oIfEq 237 202), (1, oFail), (1, oFail), (0, oRload 0 203), (0, oIload 2 204), (2, oInvV 14 mX12_isTest 1 207), (1, oFail), (1, oFail), (0, oIfNe 215 210)]
set_option maxRecDepth 20000 in
theorem zX12_compiles_12 : SndL mX12_compiles 192 kX12_compiles_12 := SndL.c (s_fail) (SndL.c (s_fail) (SndL.c (s_goto (off := 171) (by decide +kernel) (by decide)) (SndL.c (s_fail) (SndL.c (s_fail) (SndL.c (s_iload (by decide +kernel)) (SndL.c (s_fail) (SndL.c (s_if_eq (off := 38) (by decide +kernel) (by decide)) (SndL.c (s_fail) (SndL.c (s_fail) (SndL.c (s_aload_n (k := 0) (by decide +kernel) rfl) (SndL.c (s_iload_n (k := 2) (by decide +kernel) rfl) (SndL.c (s_invV (r := (RX12, TX12, 90)) (ci := 13) okX12_isTest rfl (by decide) rfl rfl w_7_60 w_7_62 v_47 (by decide +kernel)) (SndL.c (s_fail) (SndL.c (s_fail) (SndL.c (s_if_ne (off := 8) (by decide +kernel) (by decide)) (SndL.n))))))))))))))))
def kX12_compiles_13 : List En := [(1, oFail), (1, oFail), (0, oRload 0 211), (0, oGetf 14 80 0 214), (1, oFail), (1, oFail), (0, oRetI), (0, oRload 0 216), (0, oIload 2 217), (0, oRload 0 218), (0, oGetf 14 84 0 221), (1, oFail), (1, oFail), (0, oPush (vI 1) 222), (0, oIsub 223), (2, oInvV 14 mX12_emits 2 226)]
set_option maxRecDepth 20000 in
theorem zX12_compiles_13 : SndL mX12_compiles 208 kX12_compiles_13 := SndL.c (s_fail) (SndL.c (s_fail) (SndL.c (s_aload_n (k := 0) (by decide +kernel) rfl) (SndL.c (s_getf (k := 80) clok13 (by decide) rfl (by decide) rfl w_5_182 (Or.inl rfl) (by decide +kernel)) (SndL.c (s_fail) (SndL.c (s_fail) (SndL.c (s_ret_i rfl (by decide +kernel)) (SndL.c (s_aload_n (k := 0) (by decide +kernel) rfl) (SndL.c (s_iload_n (k := 2) (by decide +kernel) rfl) (SndL.c (s_aload_n (k := 0) (by decide +kernel) rfl) (SndL.c (s_getf (k := 84) clok13 (by decide) rfl (by decide) rfl w_5_186 (Or.inl rfl) (by decide +kernel)) (SndL.c (s_fail) (SndL.c (s_fail) (SndL.c (s_iconst (by decide +kernel) (in32_d (by decide))) (SndL.c (s_isub (by decide +kernel)) (SndL.c (s_invV (r := (RX12, TX12, 90)) (ci := 13) okX12_emits rfl (by decide) rfl rfl w_7_72 w_7_74 v_50 (by decide +kernel)) (SndL.n))))))))))))))))
def kX12_compiles_14 : List En := [(1, oFail), (1, oFail), (0, oRload 0 227), (0, oIload 2 228), (2, oInvV 14 mX12_closes 1 231), (1, oFail), (1, oFail), (0, oPush (vI 0) 232), (0, oIstore 4 234), (1, oFail), (0, oGoto 365), (1, oFail), (1, oFail), (0, oIload 5 239), (1, oFail), (0, oPush (vI 38) 241)]
set_option maxRecDepth 20000 in
theorem zX12_compiles_14 : SndL mX12_compiles 224 kX12_compiles_14 := SndL.c (s_fail) (SndL.c (s_fail) (SndL.c (s_aload_n (k := 0) (by decide +kernel) rfl) (SndL.c (s_iload_n (k := 2) (by decide +kernel) rfl) (SndL.c (s_invV (r := (RX12, TX12, 90)) (ci := 13) okX12_closes rfl (by decide) rfl rfl w_7_76 w_7_78 v_51 (by decide +kernel)) (SndL.c (s_fail) (SndL.c (s_fail) (SndL.c (s_iconst (by decide +kernel) (in32_d (by decide))) (SndL.c (s_istore (by decide +kernel) (by decide)) (SndL.c (s_fail) (SndL.c (s_goto (off := 131) (by decide +kernel) (by decide)) (SndL.c (s_fail) (SndL.c (s_fail) (SndL.c (s_iload (by decide +kernel)) (SndL.c (s_fail) (SndL.c (s_bipush (by decide +kernel) (in32_d (by decide)) (by decide +kernel)) (SndL.n))))))))))))))))
def kX12_compiles_15 : List En := [(1, oFail), (0, oIcEq 251 244), (1, oFail), (1, oFail), (0, oIload 5 246), (1, oFail), (0, oPush (vI 124) 248), (1, oFail), (0, oIcNe 302 251), (1, oFail), (1, oFail), (0, oRload 0 252), (0, oIload 2 253), (0, oIload 5 255), (1, oFail), (0, oPush (vI 38) 257)]
set_option maxRecDepth 20000 in
theorem zX12_compiles_15 : SndL mX12_compiles 240 kX12_compiles_15 := SndL.c (s_fail) (SndL.c (s_ic_eq (off := 10) (by decide +kernel) (by decide)) (SndL.c (s_fail) (SndL.c (s_fail) (SndL.c (s_iload (by decide +kernel)) (SndL.c (s_fail) (SndL.c (s_bipush (by decide +kernel) (in32_d (by decide)) (by decide +kernel)) (SndL.c (s_fail) (SndL.c (s_ic_ne (off := 54) (by decide +kernel) (by decide)) (SndL.c (s_fail) (SndL.c (s_fail) (SndL.c (s_aload_n (k := 0) (by decide +kernel) rfl) (SndL.c (s_iload_n (k := 2) (by decide +kernel) rfl) (SndL.c (s_iload (by decide +kernel)) (SndL.c (s_fail) (SndL.c (s_bipush (by decide +kernel) (in32_d (by decide)) (by decide +kernel)) (SndL.n))))))))))))))))
def kX12_compiles_16 : List En := [(1, oFail), (0, oIcNe 264 260), (1, oFail), (1, oFail), (0, oPush (vI 1) 261), (0, oGoto 265), (1, oFail), (1, oFail), (0, oPush (vI 0) 265), (2, oInvV 14 mX12_pops 2 268), (1, oFail), (1, oFail), (0, oRload 0 269), (0, oGetf 14 78 2 272), (1, oFail), (1, oFail)]
set_option maxRecDepth 20000 in
theorem zX12_compiles_16 : SndL mX12_compiles 256 kX12_compiles_16 := SndL.c (s_fail) (SndL.c (s_ic_ne (off := 7) (by decide +kernel) (by decide)) (SndL.c (s_fail) (SndL.c (s_fail) (SndL.c (s_iconst (by decide +kernel) (in32_d (by decide))) (SndL.c (s_goto (off := 4) (by decide +kernel) (by decide)) (SndL.c (s_fail) (SndL.c (s_fail) (SndL.c (s_iconst (by decide +kernel) (in32_d (by decide))) (SndL.c (s_invV (r := (RX12, TX12, 90)) (ci := 13) okX12_pops rfl (by decide) rfl rfl w_7_80 w_7_82 v_52 (by decide +kernel)) (SndL.c (s_fail) (SndL.c (s_fail) (SndL.c (s_aload_n (k := 0) (by decide +kernel) rfl) (SndL.c (s_getf (k := 78) clok13 (by decide) rfl (by decide) rfl w_5_180 (Or.inl rfl) (by decide +kernel)) (SndL.c (s_fail) (SndL.c (s_fail) (SndL.n))))))))))))))))
def kX12_compiles_17 : List En := [(0, oRload 0 273), (0, oDup 274), (0, oGetf 14 85 0 277), (1, oFail), (1, oFail), (0, oDupx1 278), (0, oPush (vI 1) 279), (0, oIadd 280), (0, oPutf 14 85 0 283), (1, oFail), (1, oFail), (0, oIload 5 285), (1, oFail), (0, oIast 286), (0, oPush (vI 1) 287), (0, oIstore 4 289)]
set_option maxRecDepth 20000 in
theorem zX12_compiles_17 : SndL mX12_compiles 272 kX12_compiles_17 := SndL.c (s_aload_n (k := 0) (by decide +kernel) rfl) (SndL.c (s_dup (by decide +kernel)) (SndL.c (s_getf (k := 85) clok13 (by decide) rfl (by decide) rfl w_5_187 (Or.inl rfl) (by decide +kernel)) (SndL.c (s_fail) (SndL.c (s_fail) (SndL.c (s_dupx1 (by decide +kernel)) (SndL.c (s_iconst (by decide +kernel) (in32_d (by decide))) (SndL.c (s_iadd (by decide +kernel)) (SndL.c (s_putf (k := 85) clok13 (by decide) rfl (by decide) rfl w_5_187 (Or.inl rfl) (Or.inl rfl) (by decide +kernel)) (SndL.c (s_fail) (SndL.c (s_fail) (SndL.c (s_iload (by decide +kernel)) (SndL.c (s_fail) (SndL.c (s_iast (by decide +kernel)) (SndL.c (s_iconst (by decide +kernel) (in32_d (by decide))) (SndL.c (s_istore (by decide +kernel) (by decide)) (SndL.n))))))))))))))))
def kX12_compiles_18 : List En := [(1, oFail), (0, oRload 0 290), (0, oDup 291), (0, oGetf 14 80 0 294), (1, oFail), (1, oFail), (0, oPush (vI 1) 295), (0, oIadd 296), (0, oPutf 14 80 0 299), (1, oFail), (1, oFail), (0, oGoto 365), (1, oFail), (1, oFail), (0, oIload 5 304), (1, oFail)]
set_option maxRecDepth 20000 in
theorem zX12_compiles_18 : SndL mX12_compiles 288 kX12_compiles_18 := SndL.c (s_fail) (SndL.c (s_aload_n (k := 0) (by decide +kernel) rfl) (SndL.c (s_dup (by decide +kernel)) (SndL.c (s_getf (k := 80) clok13 (by decide) rfl (by decide) rfl w_5_182 (Or.inl rfl) (by decide +kernel)) (SndL.c (s_fail) (SndL.c (s_fail) (SndL.c (s_iconst (by decide +kernel) (in32_d (by decide))) (SndL.c (s_iadd (by decide +kernel)) (SndL.c (s_putf (k := 80) clok13 (by decide) rfl (by decide) rfl w_5_182 (Or.inl rfl) (Or.inl rfl) (by decide +kernel)) (SndL.c (s_fail) (SndL.c (s_fail) (SndL.c (s_goto (off := 66) (by decide +kernel) (by decide)) (SndL.c (s_fail) (SndL.c (s_fail) (SndL.c (s_iload (by decide +kernel)) (SndL.c (s_fail) (SndL.n))))))))))))))))
def kX12_compiles_19 : List En := [(0, oPush (vI 41) 306), (1, oFail), (0, oIcNe 360 309), (1, oFail), (1, oFail), (0, oIload 3 310), (0, oIfLe 360 313), (1, oFail), (1, oFail), (0, oRload 0 314), (0, oIload 2 315), (0, oPush (vI 0) 316), (2, oInvV 14 mX12_pops 2 319), (1, oFail), (1, oFail), (0, oRload 0 320)]
set_option maxRecDepth 20000 in
theorem zX12_compiles_19 : SndL mX12_compiles 304 kX12_compiles_19 := SndL.c (s_bipush (by decide +kernel) (in32_d (by decide)) (by decide +kernel)) (SndL.c (s_fail) (SndL.c (s_ic_ne (off := 54) (by decide +kernel) (by decide)) (SndL.c (s_fail) (SndL.c (s_fail) (SndL.c (s_iload_n (k := 3) (by decide +kernel) rfl) (SndL.c (s_if_le (off := 50) (by decide +kernel) (by decide)) (SndL.c (s_fail) (SndL.c (s_fail) (SndL.c (s_aload_n (k := 0) (by decide +kernel) rfl) (SndL.c (s_iload_n (k := 2) (by decide +kernel) rfl) (SndL.c (s_iconst (by decide +kernel) (in32_d (by decide))) (SndL.c (s_invV (r := (RX12, TX12, 90)) (ci := 13) okX12_pops rfl (by decide) rfl rfl w_7_80 w_7_82 v_52 (by decide +kernel)) (SndL.c (s_fail) (SndL.c (s_fail) (SndL.c (s_aload_n (k := 0) (by decide +kernel) rfl) (SndL.n))))))))))))))))
def kX12_compiles_20 : List En := [(0, oDup 321), (0, oGetf 14 85 0 324), (1, oFail), (1, oFail), (0, oPush (vI 1) 325), (0, oIsub 326), (0, oPutf 14 85 0 329), (1, oFail), (1, oFail), (0, oRload 0 330), (0, oDup 331), (0, oGetf 14 86 0 334), (1, oFail), (1, oFail), (0, oPush (vI 1) 335), (0, oIsub 336)]
set_option maxRecDepth 20000 in
theorem zX12_compiles_20 : SndL mX12_compiles 320 kX12_compiles_20 := SndL.c (s_dup (by decide +kernel)) (SndL.c (s_getf (k := 85) clok13 (by decide) rfl (by decide) rfl w_5_187 (Or.inl rfl) (by decide +kernel)) (SndL.c (s_fail) (SndL.c (s_fail) (SndL.c (s_iconst (by decide +kernel) (in32_d (by decide))) (SndL.c (s_isub (by decide +kernel)) (SndL.c (s_putf (k := 85) clok13 (by decide) rfl (by decide) rfl w_5_187 (Or.inl rfl) (Or.inl rfl) (by decide +kernel)) (SndL.c (s_fail) (SndL.c (s_fail) (SndL.c (s_aload_n (k := 0) (by decide +kernel) rfl) (SndL.c (s_dup (by decide +kernel)) (SndL.c (s_getf (k := 86) clok13 (by decide) rfl (by decide) rfl w_5_188 (Or.inl rfl) (by decide +kernel)) (SndL.c (s_fail) (SndL.c (s_fail) (SndL.c (s_iconst (by decide +kernel) (in32_d (by decide))) (SndL.c (s_isub (by decide +kernel)) (SndL.n))))))))))))))))
def kX12_compiles_21 : List En := [(0, oPutf 14 86 0 339), (1, oFail), (1, oFail), (0, oIinc 3 (-1) 342), (1, oFail), (1, oFail), (0, oRload 0 343), (0, oIload 2 344), (2, oInvV 14 mX12_closes 1 347), (1, oFail), (1, oFail), (0, oRload 0 348), (0, oDup 349), (0, oGetf 14 80 0 352), (1, oFail), (1, oFail)]
set_option maxRecDepth 20000 in
theorem zX12_compiles_21 : SndL mX12_compiles 336 kX12_compiles_21 := SndL.c (s_putf (k := 86) clok13 (by decide) rfl (by decide) rfl w_5_188 (Or.inl rfl) (Or.inl rfl) (by decide +kernel)) (SndL.c (s_fail) (SndL.c (s_fail) (SndL.c (s_iinc (by decide +kernel) (by decide)) (SndL.c (s_fail) (SndL.c (s_fail) (SndL.c (s_aload_n (k := 0) (by decide +kernel) rfl) (SndL.c (s_iload_n (k := 2) (by decide +kernel) rfl) (SndL.c (s_invV (r := (RX12, TX12, 90)) (ci := 13) okX12_closes rfl (by decide) rfl rfl w_7_76 w_7_78 v_51 (by decide +kernel)) (SndL.c (s_fail) (SndL.c (s_fail) (SndL.c (s_aload_n (k := 0) (by decide +kernel) rfl) (SndL.c (s_dup (by decide +kernel)) (SndL.c (s_getf (k := 80) clok13 (by decide) rfl (by decide) rfl w_5_182 (Or.inl rfl) (by decide +kernel)) (SndL.c (s_fail) (SndL.c (s_fail) (SndL.n))))))))))))))))
def kX12_compiles_22 : List En := [(0, oPush (vI 1) 353), (0, oIadd 354), (0, oPutf 14 80 0 357), (1, oFail), (1, oFail), (0, oGoto 365), (1, oFail), (1, oFail), (0, oRload 0 361), (0, oGetf 14 80 0 364), (1, oFail), (1, oFail), (0, oRetI), (0, oGoto 96), (1, oFail), (1, oFail)]
set_option maxRecDepth 20000 in
theorem zX12_compiles_22 : SndL mX12_compiles 352 kX12_compiles_22 := SndL.c (s_iconst (by decide +kernel) (in32_d (by decide))) (SndL.c (s_iadd (by decide +kernel)) (SndL.c (s_putf (k := 80) clok13 (by decide) rfl (by decide) rfl w_5_182 (Or.inl rfl) (Or.inl rfl) (by decide +kernel)) (SndL.c (s_fail) (SndL.c (s_fail) (SndL.c (s_goto (off := 8) (by decide +kernel) (by decide)) (SndL.c (s_fail) (SndL.c (s_fail) (SndL.c (s_aload_n (k := 0) (by decide +kernel) rfl) (SndL.c (s_getf (k := 80) clok13 (by decide) rfl (by decide) rfl w_5_182 (Or.inl rfl) (by decide +kernel)) (SndL.c (s_fail) (SndL.c (s_fail) (SndL.c (s_ret_i rfl (by decide +kernel)) (SndL.c (s_goto (off := -269) (by decide +kernel) (by decide)) (SndL.c (s_fail) (SndL.c (s_fail) (SndL.n))))))))))))))))
def kX12_compiles_23 : List En := [(0, oIload 4 370), (1, oFail), (0, oIfNe 377 373), (1, oFail), (1, oFail), (0, oIload 3 374), (0, oIfLe 382 377), (1, oFail), (1, oFail), (0, oRload 0 378), (0, oGetf 14 81 0 381), (1, oFail), (1, oFail), (0, oRetI), (0, oRload 0 383), (0, oIload 2 384)]
set_option maxRecDepth 20000 in
theorem zX12_compiles_23 : SndL mX12_compiles 368 kX12_compiles_23 := SndL.c (s_iload (by decide +kernel)) (SndL.c (s_fail) (SndL.c (s_if_ne (off := 7) (by decide +kernel) (by decide)) (SndL.c (s_fail) (SndL.c (s_fail) (SndL.c (s_iload_n (k := 3) (by decide +kernel) rfl) (SndL.c (s_if_le (off := 8) (by decide +kernel) (by decide)) (SndL.c (s_fail) (SndL.c (s_fail) (SndL.c (s_aload_n (k := 0) (by decide +kernel) rfl) (SndL.c (s_getf (k := 81) clok13 (by decide) rfl (by decide) rfl w_5_183 (Or.inl rfl) (by decide +kernel)) (SndL.c (s_fail) (SndL.c (s_fail) (SndL.c (s_ret_i rfl (by decide +kernel)) (SndL.c (s_aload_n (k := 0) (by decide +kernel) rfl) (SndL.c (s_iload_n (k := 2) (by decide +kernel) rfl) (SndL.n))))))))))))))))
def kX12_compiles_24 : List En := [(0, oPush (vI 0) 385), (2, oInvV 14 mX12_pops 2 388), (1, oFail), (1, oFail), (0, oRload 0 389), (0, oGetf 14 48 2 392), (1, oFail), (1, oFail), (0, oIload 2 393), (0, oRload 0 394), (0, oGetf 14 83 0 397), (1, oFail), (1, oFail), (0, oIast 398), (0, oPush (vI (-1)) 399), (0, oRetI)]
set_option maxRecDepth 20000 in
theorem zX12_compiles_24 : SndL mX12_compiles 384 kX12_compiles_24 := SndL.c (s_iconst (by decide +kernel) (in32_d (by decide))) (SndL.c (s_invV (r := (RX12, TX12, 90)) (ci := 13) okX12_pops rfl (by decide) rfl rfl w_7_80 w_7_82 v_52 (by decide +kernel)) (SndL.c (s_fail) (SndL.c (s_fail) (SndL.c (s_aload_n (k := 0) (by decide +kernel) rfl) (SndL.c (s_getf (k := 48) clok13 (by decide) rfl (by decide) rfl w_5_150 (Or.inl rfl) (by decide +kernel)) (SndL.c (s_fail) (SndL.c (s_fail) (SndL.c (s_iload_n (k := 2) (by decide +kernel) rfl) (SndL.c (s_aload_n (k := 0) (by decide +kernel) rfl) (SndL.c (s_getf (k := 83) clok13 (by decide) rfl (by decide) rfl w_5_185 (Or.inl rfl) (by decide +kernel)) (SndL.c (s_fail) (SndL.c (s_fail) (SndL.c (s_iast (by decide +kernel)) (SndL.c (s_iconst (by decide +kernel) (in32_d (by decide))) (SndL.c (s_ret_i rfl (by decide +kernel)) (SndL.n))))))))))))))))
def kX12_compiles : Cd := [kX12_compiles_0, kX12_compiles_1, kX12_compiles_2, kX12_compiles_3, kX12_compiles_4, kX12_compiles_5, kX12_compiles_6, kX12_compiles_7, kX12_compiles_8, kX12_compiles_9, kX12_compiles_10, kX12_compiles_11, kX12_compiles_12, kX12_compiles_13, kX12_compiles_14, kX12_compiles_15, kX12_compiles_16, kX12_compiles_17, kX12_compiles_18, kX12_compiles_19, kX12_compiles_20, kX12_compiles_21, kX12_compiles_22, kX12_compiles_23, kX12_compiles_24]
theorem zX12_compiles : SndC mX12_compiles 0 kX12_compiles := SndC.c zX12_compiles_0 (by decide) (SndC.c zX12_compiles_1 (by decide) (SndC.c zX12_compiles_2 (by decide) (SndC.c zX12_compiles_3 (by decide) (SndC.c zX12_compiles_4 (by decide) (SndC.c zX12_compiles_5 (by decide) (SndC.c zX12_compiles_6 (by decide) (SndC.c zX12_compiles_7 (by decide) (SndC.c zX12_compiles_8 (by decide) (SndC.c zX12_compiles_9 (by decide) (SndC.c zX12_compiles_10 (by decide) (SndC.c zX12_compiles_11 (by decide) (SndC.c zX12_compiles_12 (by decide) (SndC.c zX12_compiles_13 (by decide) (SndC.c zX12_compiles_14 (by decide) (SndC.c zX12_compiles_15 (by decide) (SndC.c zX12_compiles_16 (by decide) (SndC.c zX12_compiles_17 (by decide) (SndC.c zX12_compiles_18 (by decide) (SndC.c zX12_compiles_19 (by decide) (SndC.c zX12_compiles_20 (by decide) (SndC.c zX12_compiles_21 (by decide) (SndC.c zX12_compiles_22 (by decide) (SndC.c zX12_compiles_23 (by decide) (SndC.c zX12_compiles_24 (by decide) (SndC.n)))))))))))))))))))))))))
theorem aX12_compiles_0 : at_ kX12_compiles 0 = (0, oRload 0 1) := rfl
theorem aX12_compiles_1 : at_ kX12_compiles 1 = (0, oPush (vI 60) 3) := rfl
theorem aX12_compiles_3 : at_ kX12_compiles 3 = (0, oIload 1 4) := rfl
theorem aX12_compiles_4 : at_ kX12_compiles 4 = (0, oImul 5) := rfl
theorem aX12_compiles_5 : at_ kX12_compiles 5 = (0, oPutf 14 82 0 8) := rfl
theorem aX12_compiles_8 : at_ kX12_compiles 8 = (0, oRload 0 9) := rfl
theorem aX12_compiles_9 : at_ kX12_compiles 9 = (0, oRload 0 10) := rfl
theorem aX12_compiles_10 : at_ kX12_compiles 10 = (0, oGetf 14 13 2 13) := rfl
theorem aX12_compiles_13 : at_ kX12_compiles 13 = (0, oIload 1 14) := rfl
theorem aX12_compiles_14 : at_ kX12_compiles 14 = (0, oIald 15) := rfl
theorem aX12_compiles_15 : at_ kX12_compiles 15 = (0, oPutf 14 81 0 18) := rfl
theorem aX12_compiles_18 : at_ kX12_compiles 18 = (0, oRload 0 19) := rfl
theorem aX12_compiles_19 : at_ kX12_compiles 19 = (0, oPush (vI 0) 20) := rfl
theorem aX12_compiles_20 : at_ kX12_compiles 20 = (0, oPutf 14 80 0 23) := rfl
theorem aX12_compiles_23 : at_ kX12_compiles 23 = (0, oRload 0 24) := rfl
theorem aX12_compiles_24 : at_ kX12_compiles 24 = (0, oPush (vI 0) 25) := rfl
theorem aX12_compiles_25 : at_ kX12_compiles 25 = (0, oPutf 14 83 0 28) := rfl
theorem aX12_compiles_28 : at_ kX12_compiles 28 = (0, oRload 0 29) := rfl
theorem aX12_compiles_29 : at_ kX12_compiles 29 = (0, oPush (vI 0) 30) := rfl
theorem aX12_compiles_30 : at_ kX12_compiles 30 = (0, oPutf 14 84 0 33) := rfl
theorem aX12_compiles_33 : at_ kX12_compiles 33 = (0, oRload 0 34) := rfl
theorem aX12_compiles_34 : at_ kX12_compiles 34 = (0, oPush (vI 0) 35) := rfl
theorem aX12_compiles_35 : at_ kX12_compiles 35 = (0, oPutf 14 85 0 38) := rfl
theorem aX12_compiles_38 : at_ kX12_compiles 38 = (0, oRload 0 39) := rfl
theorem aX12_compiles_39 : at_ kX12_compiles 39 = (0, oPush (vI 0) 40) := rfl
theorem aX12_compiles_40 : at_ kX12_compiles 40 = (0, oPutf 14 86 0 43) := rfl
theorem aX12_compiles_43 : at_ kX12_compiles 43 = (0, oRload 0 44) := rfl
theorem aX12_compiles_44 : at_ kX12_compiles 44 = (0, oPush (vI 98) 46) := rfl
theorem aX12_compiles_46 : at_ kX12_compiles 46 = (2, oInvV 14 mX12_is 1 49) := rfl
theorem aX12_compiles_49 : at_ kX12_compiles 49 = (0, oIfNe 57 52) := rfl
theorem aX12_compiles_52 : at_ kX12_compiles 52 = (0, oRload 0 53) := rfl
theorem aX12_compiles_53 : at_ kX12_compiles 53 = (0, oGetf 14 80 0 56) := rfl
theorem aX12_compiles_56 : at_ kX12_compiles 56 = (0, oRetI) := rfl
theorem aX12_compiles_57 : at_ kX12_compiles 57 = (0, oRload 0 58) := rfl
theorem aX12_compiles_58 : at_ kX12_compiles 58 = (0, oDup 59) := rfl
theorem aX12_compiles_59 : at_ kX12_compiles 59 = (0, oGetf 14 80 0 62) := rfl
theorem aX12_compiles_62 : at_ kX12_compiles 62 = (0, oPush (vI 1) 63) := rfl
theorem aX12_compiles_63 : at_ kX12_compiles 63 = (0, oIadd 64) := rfl
theorem aX12_compiles_64 : at_ kX12_compiles 64 = (0, oPutf 14 80 0 67) := rfl
theorem aX12_compiles_67 : at_ kX12_compiles 67 = (0, oRload 0 68) := rfl
theorem aX12_compiles_68 : at_ kX12_compiles 68 = (0, oPush (vI 58) 70) := rfl
theorem aX12_compiles_70 : at_ kX12_compiles 70 = (2, oInvV 14 mX12_is 1 73) := rfl
theorem aX12_compiles_73 : at_ kX12_compiles 73 = (0, oIfNe 81 76) := rfl
theorem aX12_compiles_76 : at_ kX12_compiles 76 = (0, oRload 0 77) := rfl
theorem aX12_compiles_77 : at_ kX12_compiles 77 = (0, oGetf 14 80 0 80) := rfl
theorem aX12_compiles_80 : at_ kX12_compiles 80 = (0, oRetI) := rfl
theorem aX12_compiles_81 : at_ kX12_compiles 81 = (0, oRload 0 82) := rfl
theorem aX12_compiles_82 : at_ kX12_compiles 82 = (0, oDup 83) := rfl
theorem aX12_compiles_83 : at_ kX12_compiles 83 = (0, oGetf 14 80 0 86) := rfl
theorem aX12_compiles_86 : at_ kX12_compiles 86 = (0, oPush (vI 1) 87) := rfl
theorem aX12_compiles_87 : at_ kX12_compiles 87 = (0, oIadd 88) := rfl
theorem aX12_compiles_88 : at_ kX12_compiles 88 = (0, oPutf 14 80 0 91) := rfl
theorem aX12_compiles_91 : at_ kX12_compiles 91 = (0, oPush (vI 0) 92) := rfl
theorem aX12_compiles_92 : at_ kX12_compiles 92 = (0, oIstore 3 93) := rfl
theorem aX12_compiles_93 : at_ kX12_compiles 93 = (0, oPush (vI 1) 94) := rfl
theorem aX12_compiles_94 : at_ kX12_compiles 94 = (0, oIstore 4 96) := rfl
theorem aX12_compiles_96 : at_ kX12_compiles 96 = (1, oRload 0 97) := rfl
theorem aX12_compiles_97 : at_ kX12_compiles 97 = (0, oGetf 14 80 0 100) := rfl
theorem aX12_compiles_100 : at_ kX12_compiles 100 = (0, oRload 0 101) := rfl
theorem aX12_compiles_101 : at_ kX12_compiles 101 = (0, oGetf 14 81 0 104) := rfl
theorem aX12_compiles_104 : at_ kX12_compiles 104 = (0, oIcGe 368 107) := rfl
theorem aX12_compiles_107 : at_ kX12_compiles 107 = (0, oRload 0 108) := rfl
theorem aX12_compiles_108 : at_ kX12_compiles 108 = (2, oInvV 14 mX12_letter 0 111) := rfl
theorem aX12_compiles_111 : at_ kX12_compiles 111 = (0, oIstore 5 113) := rfl
theorem aX12_compiles_113 : at_ kX12_compiles 113 = (0, oIload 4 115) := rfl
theorem aX12_compiles_115 : at_ kX12_compiles 115 = (0, oIfEq 197 118) := rfl
theorem aX12_compiles_118 : at_ kX12_compiles 118 = (0, oIload 5 120) := rfl
theorem aX12_compiles_120 : at_ kX12_compiles 120 = (0, oPush (vI 33) 122) := rfl
theorem aX12_compiles_122 : at_ kX12_compiles 122 = (0, oIcEq 132 125) := rfl
theorem aX12_compiles_125 : at_ kX12_compiles 125 = (0, oIload 5 127) := rfl
theorem aX12_compiles_127 : at_ kX12_compiles 127 = (0, oPush (vI 40) 129) := rfl
theorem aX12_compiles_129 : at_ kX12_compiles 129 = (0, oIcNe 197 132) := rfl
theorem aX12_compiles_132 : at_ kX12_compiles 132 = (0, oRload 0 133) := rfl
theorem aX12_compiles_133 : at_ kX12_compiles 133 = (0, oGetf 14 86 0 136) := rfl
theorem aX12_compiles_136 : at_ kX12_compiles 136 = (0, oPush (vI 20) 138) := rfl
theorem aX12_compiles_138 : at_ kX12_compiles 138 = (0, oIcNe 146 141) := rfl
theorem aX12_compiles_141 : at_ kX12_compiles 141 = (0, oRload 0 142) := rfl
theorem aX12_compiles_142 : at_ kX12_compiles 142 = (0, oGetf 14 80 0 145) := rfl
theorem aX12_compiles_145 : at_ kX12_compiles 145 = (0, oRetI) := rfl
theorem aX12_compiles_146 : at_ kX12_compiles 146 = (0, oRload 0 147) := rfl
theorem aX12_compiles_147 : at_ kX12_compiles 147 = (0, oDup 148) := rfl
theorem aX12_compiles_148 : at_ kX12_compiles 148 = (0, oGetf 14 86 0 151) := rfl
theorem aX12_compiles_151 : at_ kX12_compiles 151 = (0, oPush (vI 1) 152) := rfl
theorem aX12_compiles_152 : at_ kX12_compiles 152 = (0, oIadd 153) := rfl
theorem aX12_compiles_153 : at_ kX12_compiles 153 = (0, oPutf 14 86 0 156) := rfl
theorem aX12_compiles_156 : at_ kX12_compiles 156 = (0, oRload 0 157) := rfl
theorem aX12_compiles_157 : at_ kX12_compiles 157 = (0, oGetf 14 78 2 160) := rfl
theorem aX12_compiles_160 : at_ kX12_compiles 160 = (0, oRload 0 161) := rfl
theorem aX12_compiles_161 : at_ kX12_compiles 161 = (0, oDup 162) := rfl
theorem aX12_compiles_162 : at_ kX12_compiles 162 = (0, oGetf 14 85 0 165) := rfl
theorem aX12_compiles_165 : at_ kX12_compiles 165 = (0, oDupx1 166) := rfl
theorem aX12_compiles_166 : at_ kX12_compiles 166 = (0, oPush (vI 1) 167) := rfl
theorem aX12_compiles_167 : at_ kX12_compiles 167 = (0, oIadd 168) := rfl
theorem aX12_compiles_168 : at_ kX12_compiles 168 = (0, oPutf 14 85 0 171) := rfl
theorem aX12_compiles_171 : at_ kX12_compiles 171 = (0, oIload 5 173) := rfl
theorem aX12_compiles_173 : at_ kX12_compiles 173 = (0, oIast 174) := rfl
theorem aX12_compiles_174 : at_ kX12_compiles 174 = (0, oIload 5 176) := rfl
theorem aX12_compiles_176 : at_ kX12_compiles 176 = (0, oPush (vI 40) 178) := rfl
theorem aX12_compiles_178 : at_ kX12_compiles 178 = (0, oIcNe 184 181) := rfl
theorem aX12_compiles_181 : at_ kX12_compiles 181 = (0, oIinc 3 1 184) := rfl
theorem aX12_compiles_184 : at_ kX12_compiles 184 = (0, oRload 0 185) := rfl
theorem aX12_compiles_185 : at_ kX12_compiles 185 = (0, oDup 186) := rfl
theorem aX12_compiles_186 : at_ kX12_compiles 186 = (0, oGetf 14 80 0 189) := rfl
theorem aX12_compiles_189 : at_ kX12_compiles 189 = (0, oPush (vI 1) 190) := rfl
theorem aX12_compiles_190 : at_ kX12_compiles 190 = (0, oIadd 191) := rfl
theorem aX12_compiles_191 : at_ kX12_compiles 191 = (0, oPutf 14 80 0 194) := rfl
theorem aX12_compiles_194 : at_ kX12_compiles 194 = (0, oGoto 365) := rfl
theorem aX12_compiles_197 : at_ kX12_compiles 197 = (0, oIload 4 199) := rfl
theorem aX12_compiles_199 : at_ kX12_compiles 199 = (0, oIfEq 237 202) := rfl
theorem aX12_compiles_202 : at_ kX12_compiles 202 = (0, oRload 0 203) := rfl
theorem aX12_compiles_203 : at_ kX12_compiles 203 = (0, oIload 2 204) := rfl
theorem aX12_compiles_204 : at_ kX12_compiles 204 = (2, oInvV 14 mX12_isTest 1 207) := rfl
theorem aX12_compiles_207 : at_ kX12_compiles 207 = (0, oIfNe 215 210) := rfl
theorem aX12_compiles_210 : at_ kX12_compiles 210 = (0, oRload 0 211) := rfl
theorem aX12_compiles_211 : at_ kX12_compiles 211 = (0, oGetf 14 80 0 214) := rfl
theorem aX12_compiles_214 : at_ kX12_compiles 214 = (0, oRetI) := rfl
theorem aX12_compiles_215 : at_ kX12_compiles 215 = (0, oRload 0 216) := rfl
theorem aX12_compiles_216 : at_ kX12_compiles 216 = (0, oIload 2 217) := rfl
theorem aX12_compiles_217 : at_ kX12_compiles 217 = (0, oRload 0 218) := rfl
theorem aX12_compiles_218 : at_ kX12_compiles 218 = (0, oGetf 14 84 0 221) := rfl
theorem aX12_compiles_221 : at_ kX12_compiles 221 = (0, oPush (vI 1) 222) := rfl
theorem aX12_compiles_222 : at_ kX12_compiles 222 = (0, oIsub 223) := rfl
theorem aX12_compiles_223 : at_ kX12_compiles 223 = (2, oInvV 14 mX12_emits 2 226) := rfl
theorem aX12_compiles_226 : at_ kX12_compiles 226 = (0, oRload 0 227) := rfl
theorem aX12_compiles_227 : at_ kX12_compiles 227 = (0, oIload 2 228) := rfl
theorem aX12_compiles_228 : at_ kX12_compiles 228 = (2, oInvV 14 mX12_closes 1 231) := rfl
theorem aX12_compiles_231 : at_ kX12_compiles 231 = (0, oPush (vI 0) 232) := rfl
theorem aX12_compiles_232 : at_ kX12_compiles 232 = (0, oIstore 4 234) := rfl
theorem aX12_compiles_234 : at_ kX12_compiles 234 = (0, oGoto 365) := rfl
theorem aX12_compiles_237 : at_ kX12_compiles 237 = (0, oIload 5 239) := rfl
theorem aX12_compiles_239 : at_ kX12_compiles 239 = (0, oPush (vI 38) 241) := rfl
theorem aX12_compiles_241 : at_ kX12_compiles 241 = (0, oIcEq 251 244) := rfl
theorem aX12_compiles_244 : at_ kX12_compiles 244 = (0, oIload 5 246) := rfl
theorem aX12_compiles_246 : at_ kX12_compiles 246 = (0, oPush (vI 124) 248) := rfl
theorem aX12_compiles_248 : at_ kX12_compiles 248 = (0, oIcNe 302 251) := rfl
theorem aX12_compiles_251 : at_ kX12_compiles 251 = (0, oRload 0 252) := rfl
theorem aX12_compiles_252 : at_ kX12_compiles 252 = (0, oIload 2 253) := rfl
theorem aX12_compiles_253 : at_ kX12_compiles 253 = (0, oIload 5 255) := rfl
theorem aX12_compiles_255 : at_ kX12_compiles 255 = (0, oPush (vI 38) 257) := rfl
theorem aX12_compiles_257 : at_ kX12_compiles 257 = (0, oIcNe 264 260) := rfl
theorem aX12_compiles_260 : at_ kX12_compiles 260 = (0, oPush (vI 1) 261) := rfl
theorem aX12_compiles_261 : at_ kX12_compiles 261 = (0, oGoto 265) := rfl
theorem aX12_compiles_264 : at_ kX12_compiles 264 = (0, oPush (vI 0) 265) := rfl
theorem aX12_compiles_265 : at_ kX12_compiles 265 = (2, oInvV 14 mX12_pops 2 268) := rfl
theorem aX12_compiles_268 : at_ kX12_compiles 268 = (0, oRload 0 269) := rfl
theorem aX12_compiles_269 : at_ kX12_compiles 269 = (0, oGetf 14 78 2 272) := rfl
theorem aX12_compiles_272 : at_ kX12_compiles 272 = (0, oRload 0 273) := rfl
theorem aX12_compiles_273 : at_ kX12_compiles 273 = (0, oDup 274) := rfl
theorem aX12_compiles_274 : at_ kX12_compiles 274 = (0, oGetf 14 85 0 277) := rfl
theorem aX12_compiles_277 : at_ kX12_compiles 277 = (0, oDupx1 278) := rfl
theorem aX12_compiles_278 : at_ kX12_compiles 278 = (0, oPush (vI 1) 279) := rfl
theorem aX12_compiles_279 : at_ kX12_compiles 279 = (0, oIadd 280) := rfl
theorem aX12_compiles_280 : at_ kX12_compiles 280 = (0, oPutf 14 85 0 283) := rfl
theorem aX12_compiles_283 : at_ kX12_compiles 283 = (0, oIload 5 285) := rfl
theorem aX12_compiles_285 : at_ kX12_compiles 285 = (0, oIast 286) := rfl
theorem aX12_compiles_286 : at_ kX12_compiles 286 = (0, oPush (vI 1) 287) := rfl
theorem aX12_compiles_287 : at_ kX12_compiles 287 = (0, oIstore 4 289) := rfl
theorem aX12_compiles_289 : at_ kX12_compiles 289 = (0, oRload 0 290) := rfl
theorem aX12_compiles_290 : at_ kX12_compiles 290 = (0, oDup 291) := rfl
theorem aX12_compiles_291 : at_ kX12_compiles 291 = (0, oGetf 14 80 0 294) := rfl
theorem aX12_compiles_294 : at_ kX12_compiles 294 = (0, oPush (vI 1) 295) := rfl
theorem aX12_compiles_295 : at_ kX12_compiles 295 = (0, oIadd 296) := rfl
theorem aX12_compiles_296 : at_ kX12_compiles 296 = (0, oPutf 14 80 0 299) := rfl
theorem aX12_compiles_299 : at_ kX12_compiles 299 = (0, oGoto 365) := rfl
theorem aX12_compiles_302 : at_ kX12_compiles 302 = (0, oIload 5 304) := rfl
theorem aX12_compiles_304 : at_ kX12_compiles 304 = (0, oPush (vI 41) 306) := rfl
theorem aX12_compiles_306 : at_ kX12_compiles 306 = (0, oIcNe 360 309) := rfl
theorem aX12_compiles_309 : at_ kX12_compiles 309 = (0, oIload 3 310) := rfl
theorem aX12_compiles_310 : at_ kX12_compiles 310 = (0, oIfLe 360 313) := rfl
theorem aX12_compiles_313 : at_ kX12_compiles 313 = (0, oRload 0 314) := rfl
theorem aX12_compiles_314 : at_ kX12_compiles 314 = (0, oIload 2 315) := rfl
theorem aX12_compiles_315 : at_ kX12_compiles 315 = (0, oPush (vI 0) 316) := rfl
theorem aX12_compiles_316 : at_ kX12_compiles 316 = (2, oInvV 14 mX12_pops 2 319) := rfl
theorem aX12_compiles_319 : at_ kX12_compiles 319 = (0, oRload 0 320) := rfl
theorem aX12_compiles_320 : at_ kX12_compiles 320 = (0, oDup 321) := rfl
theorem aX12_compiles_321 : at_ kX12_compiles 321 = (0, oGetf 14 85 0 324) := rfl
theorem aX12_compiles_324 : at_ kX12_compiles 324 = (0, oPush (vI 1) 325) := rfl
theorem aX12_compiles_325 : at_ kX12_compiles 325 = (0, oIsub 326) := rfl
theorem aX12_compiles_326 : at_ kX12_compiles 326 = (0, oPutf 14 85 0 329) := rfl
theorem aX12_compiles_329 : at_ kX12_compiles 329 = (0, oRload 0 330) := rfl
theorem aX12_compiles_330 : at_ kX12_compiles 330 = (0, oDup 331) := rfl
theorem aX12_compiles_331 : at_ kX12_compiles 331 = (0, oGetf 14 86 0 334) := rfl
theorem aX12_compiles_334 : at_ kX12_compiles 334 = (0, oPush (vI 1) 335) := rfl
theorem aX12_compiles_335 : at_ kX12_compiles 335 = (0, oIsub 336) := rfl
theorem aX12_compiles_336 : at_ kX12_compiles 336 = (0, oPutf 14 86 0 339) := rfl
theorem aX12_compiles_339 : at_ kX12_compiles 339 = (0, oIinc 3 (-1) 342) := rfl
theorem aX12_compiles_342 : at_ kX12_compiles 342 = (0, oRload 0 343) := rfl
theorem aX12_compiles_343 : at_ kX12_compiles 343 = (0, oIload 2 344) := rfl
theorem aX12_compiles_344 : at_ kX12_compiles 344 = (2, oInvV 14 mX12_closes 1 347) := rfl
theorem aX12_compiles_347 : at_ kX12_compiles 347 = (0, oRload 0 348) := rfl
theorem aX12_compiles_348 : at_ kX12_compiles 348 = (0, oDup 349) := rfl
theorem aX12_compiles_349 : at_ kX12_compiles 349 = (0, oGetf 14 80 0 352) := rfl
theorem aX12_compiles_352 : at_ kX12_compiles 352 = (0, oPush (vI 1) 353) := rfl
theorem aX12_compiles_353 : at_ kX12_compiles 353 = (0, oIadd 354) := rfl
theorem aX12_compiles_354 : at_ kX12_compiles 354 = (0, oPutf 14 80 0 357) := rfl
theorem aX12_compiles_357 : at_ kX12_compiles 357 = (0, oGoto 365) := rfl
theorem aX12_compiles_360 : at_ kX12_compiles 360 = (0, oRload 0 361) := rfl
theorem aX12_compiles_361 : at_ kX12_compiles 361 = (0, oGetf 14 80 0 364) := rfl
theorem aX12_compiles_364 : at_ kX12_compiles 364 = (0, oRetI) := rfl
theorem aX12_compiles_365 : at_ kX12_compiles 365 = (0, oGoto 96) := rfl
theorem aX12_compiles_368 : at_ kX12_compiles 368 = (0, oIload 4 370) := rfl
theorem aX12_compiles_370 : at_ kX12_compiles 370 = (0, oIfNe 377 373) := rfl
theorem aX12_compiles_373 : at_ kX12_compiles 373 = (0, oIload 3 374) := rfl
theorem aX12_compiles_374 : at_ kX12_compiles 374 = (0, oIfLe 382 377) := rfl
theorem aX12_compiles_377 : at_ kX12_compiles 377 = (0, oRload 0 378) := rfl
theorem aX12_compiles_378 : at_ kX12_compiles 378 = (0, oGetf 14 81 0 381) := rfl
theorem aX12_compiles_381 : at_ kX12_compiles 381 = (0, oRetI) := rfl
theorem aX12_compiles_382 : at_ kX12_compiles 382 = (0, oRload 0 383) := rfl
theorem aX12_compiles_383 : at_ kX12_compiles 383 = (0, oIload 2 384) := rfl
theorem aX12_compiles_384 : at_ kX12_compiles 384 = (0, oPush (vI 0) 385) := rfl
theorem aX12_compiles_385 : at_ kX12_compiles 385 = (2, oInvV 14 mX12_pops 2 388) := rfl
theorem aX12_compiles_388 : at_ kX12_compiles 388 = (0, oRload 0 389) := rfl
theorem aX12_compiles_389 : at_ kX12_compiles 389 = (0, oGetf 14 48 2 392) := rfl
theorem aX12_compiles_392 : at_ kX12_compiles 392 = (0, oIload 2 393) := rfl
theorem aX12_compiles_393 : at_ kX12_compiles 393 = (0, oRload 0 394) := rfl
theorem aX12_compiles_394 : at_ kX12_compiles 394 = (0, oGetf 14 83 0 397) := rfl
theorem aX12_compiles_397 : at_ kX12_compiles 397 = (0, oIast 398) := rfl
theorem aX12_compiles_398 : at_ kX12_compiles 398 = (0, oPush (vI (-1)) 399) := rfl
theorem aX12_compiles_399 : at_ kX12_compiles 399 = (0, oRetI) := rfl
def kX12_rule_0 : List En := [(0, oRload 0 1), (0, oIload 1 2), (2, oInvV 14 mX12_wants 1 5), (1, oFail), (1, oFail), (0, oIstore 3 6), (0, oIload 3 7), (0, oIfEq 16 10), (1, oFail), (1, oFail), (0, oRload 0 11), (0, oIload 3 12), (2, oInvV 14 mX12_no 1 15), (1, oFail), (1, oFail), (0, oRetI)]
set_option maxRecDepth 20000 in
theorem zX12_rule_0 : SndL mX12_rule 0 kX12_rule_0 := SndL.c (s_aload_n (k := 0) (by decide +kernel) rfl) (SndL.c (s_iload_n (k := 1) (by decide +kernel) rfl) (SndL.c (s_invV (r := (RX12, TX12, 90)) (ci := 13) okX12_wants rfl (by decide) rfl rfl w_6_176 w_6_178 v_30 (by decide +kernel)) (SndL.c (s_fail) (SndL.c (s_fail) (SndL.c (s_istore_n (k := 3) (by decide +kernel) rfl (by decide)) (SndL.c (s_iload_n (k := 3) (by decide +kernel) rfl) (SndL.c (s_if_eq (off := 9) (by decide +kernel) (by decide)) (SndL.c (s_fail) (SndL.c (s_fail) (SndL.c (s_aload_n (k := 0) (by decide +kernel) rfl) (SndL.c (s_iload_n (k := 3) (by decide +kernel) rfl) (SndL.c (s_invV (r := (RX12, TX12, 90)) (ci := 13) okX12_no rfl (by decide) rfl rfl w_6_138 w_6_140 v_29 (by decide +kernel)) (SndL.c (s_fail) (SndL.c (s_fail) (SndL.c (s_ret_i rfl (by decide +kernel)) (SndL.n))))))))))))))))
def kX12_rule_1 : List En := [(0, oIload 2 17), (0, oIfLt 27 20), (1, oFail), (1, oFail), (0, oIload 2 21), (0, oPush (vI 9000) 24), (1, oFail), (1, oFail), (0, oIcLe 34 27), (1, oFail), (1, oFail), (0, oRload 0 28), (0, oPush (vI (-6)) 30), (1, oFail), (2, oInvV 14 mX12_no 1 33), (1, oFail)]
set_option maxRecDepth 20000 in
theorem zX12_rule_1 : SndL mX12_rule 16 kX12_rule_1 := SndL.c (s_iload_n (k := 2) (by decide +kernel) rfl) (SndL.c (s_if_lt (off := 10) (by decide +kernel) (by decide)) (SndL.c (s_fail) (SndL.c (s_fail) (SndL.c (s_iload_n (k := 2) (by decide +kernel) rfl) (SndL.c (s_sipush (by decide +kernel) (in32_d (by decide)) (by decide +kernel)) (SndL.c (s_fail) (SndL.c (s_fail) (SndL.c (s_ic_le (off := 10) (by decide +kernel) (by decide)) (SndL.c (s_fail) (SndL.c (s_fail) (SndL.c (s_aload_n (k := 0) (by decide +kernel) rfl) (SndL.c (s_bipush (by decide +kernel) (in32_d (by decide)) (by decide +kernel)) (SndL.c (s_fail) (SndL.c (s_invV (r := (RX12, TX12, 90)) (ci := 13) okX12_no rfl (by decide) rfl rfl w_6_138 w_6_140 v_29 (by decide +kernel)) (SndL.c (s_fail) (SndL.n))))))))))))))))
def kX12_rule_2 : List En := [(1, oFail), (0, oRetI), (0, oRload 0 35), (0, oRload 0 36), (0, oIload 1 37), (0, oRload 0 38), (0, oGetf 14 4 0 41), (1, oFail), (1, oFail), (2, oInvV 14 mX12_compiles 2 44), (1, oFail), (1, oFail), (0, oPutf 14 9 0 47), (1, oFail), (1, oFail), (0, oRload 0 48)]
set_option maxRecDepth 20000 in
theorem zX12_rule_2 : SndL mX12_rule 32 kX12_rule_2 := SndL.c (s_fail) (SndL.c (s_ret_i rfl (by decide +kernel)) (SndL.c (s_aload_n (k := 0) (by decide +kernel) rfl) (SndL.c (s_aload_n (k := 0) (by decide +kernel) rfl) (SndL.c (s_iload_n (k := 1) (by decide +kernel) rfl) (SndL.c (s_aload_n (k := 0) (by decide +kernel) rfl) (SndL.c (s_getf (k := 4) clok13 (by decide) rfl (by decide) rfl w_5_106 (Or.inl rfl) (by decide +kernel)) (SndL.c (s_fail) (SndL.c (s_fail) (SndL.c (s_invV (r := (RX12, TX12, 90)) (ci := 13) okX12_compiles rfl (by decide) rfl rfl w_7_48 w_7_50 v_44 (by decide +kernel)) (SndL.c (s_fail) (SndL.c (s_fail) (SndL.c (s_putf (k := 9) clok13 (by decide) rfl (by decide) rfl w_5_111 (Or.inl rfl) (Or.inl rfl) (by decide +kernel)) (SndL.c (s_fail) (SndL.c (s_fail) (SndL.c (s_aload_n (k := 0) (by decide +kernel) rfl) (SndL.n))))))))))))))))
def kX12_rule_3 : List En := [(0, oGetf 14 9 0 51), (1, oFail), (1, oFail), (0, oPush (vI (-1)) 52), (0, oIcEq 62 55), (1, oFail), (1, oFail), (0, oRload 0 56), (0, oPush (vI (-6)) 58), (1, oFail), (2, oInvV 14 mX12_no 1 61), (1, oFail), (1, oFail), (0, oRetI), (0, oRload 0 63), (0, oGetf 14 4 0 66)]
set_option maxRecDepth 20000 in
theorem zX12_rule_3 : SndL mX12_rule 48 kX12_rule_3 := SndL.c (s_getf (k := 9) clok13 (by decide) rfl (by decide) rfl w_5_111 (Or.inl rfl) (by decide +kernel)) (SndL.c (s_fail) (SndL.c (s_fail) (SndL.c (s_iconst (by decide +kernel) (in32_d (by decide))) (SndL.c (s_ic_eq (off := 10) (by decide +kernel) (by decide)) (SndL.c (s_fail) (SndL.c (s_fail) (SndL.c (s_aload_n (k := 0) (by decide +kernel) rfl) (SndL.c (s_bipush (by decide +kernel) (in32_d (by decide)) (by decide +kernel)) (SndL.c (s_fail) (SndL.c (s_invV (r := (RX12, TX12, 90)) (ci := 13) okX12_no rfl (by decide) rfl rfl w_6_138 w_6_140 v_29 (by decide +kernel)) (SndL.c (s_fail) (SndL.c (s_fail) (SndL.c (s_ret_i rfl (by decide +kernel)) (SndL.c (s_aload_n (k := 0) (by decide +kernel) rfl) (SndL.c (s_getf (k := 4) clok13 (by decide) rfl (by decide) rfl w_5_106 (Or.inl rfl) (by decide +kernel)) (SndL.n))))))))))))))))
def kX12_rule_4 : List En := [(1, oFail), (1, oFail), (0, oPush (vI 16) 68), (1, oFail), (0, oIcNe 78 71), (1, oFail), (1, oFail), (0, oRload 0 72), (0, oPush (vI (-7)) 74), (1, oFail), (2, oInvV 14 mX12_no 1 77), (1, oFail), (1, oFail), (0, oRetI), (0, oRload 0 79), (0, oGetf 14 45 2 82)]
set_option maxRecDepth 20000 in
theorem zX12_rule_4 : SndL mX12_rule 64 kX12_rule_4 := SndL.c (s_fail) (SndL.c (s_fail) (SndL.c (s_bipush (by decide +kernel) (in32_d (by decide)) (by decide +kernel)) (SndL.c (s_fail) (SndL.c (s_ic_ne (off := 10) (by decide +kernel) (by decide)) (SndL.c (s_fail) (SndL.c (s_fail) (SndL.c (s_aload_n (k := 0) (by decide +kernel) rfl) (SndL.c (s_bipush (by decide +kernel) (in32_d (by decide)) (by decide +kernel)) (SndL.c (s_fail) (SndL.c (s_invV (r := (RX12, TX12, 90)) (ci := 13) okX12_no rfl (by decide) rfl rfl w_6_138 w_6_140 v_29 (by decide +kernel)) (SndL.c (s_fail) (SndL.c (s_fail) (SndL.c (s_ret_i rfl (by decide +kernel)) (SndL.c (s_aload_n (k := 0) (by decide +kernel) rfl) (SndL.c (s_getf (k := 45) clok13 (by decide) rfl (by decide) rfl w_5_147 (Or.inl rfl) (by decide +kernel)) (SndL.n))))))))))))))))
def kX12_rule_5 : List En := [(1, oFail), (1, oFail), (0, oRload 0 83), (0, oGetf 14 4 0 86), (1, oFail), (1, oFail), (0, oIload 2 87), (0, oIast 88), (0, oRload 0 89), (0, oGetf 14 46 2 92), (1, oFail), (1, oFail), (0, oRload 0 93), (0, oGetf 14 4 0 96), (1, oFail), (1, oFail)]
set_option maxRecDepth 20000 in
theorem zX12_rule_5 : SndL mX12_rule 80 kX12_rule_5 := SndL.c (s_fail) (SndL.c (s_fail) (SndL.c (s_aload_n (k := 0) (by decide +kernel) rfl) (SndL.c (s_getf (k := 4) clok13 (by decide) rfl (by decide) rfl w_5_106 (Or.inl rfl) (by decide +kernel)) (SndL.c (s_fail) (SndL.c (s_fail) (SndL.c (s_iload_n (k := 2) (by decide +kernel) rfl) (SndL.c (s_iast (by decide +kernel)) (SndL.c (s_aload_n (k := 0) (by decide +kernel) rfl) (SndL.c (s_getf (k := 46) clok13 (by decide) rfl (by decide) rfl w_5_148 (Or.inl rfl) (by decide +kernel)) (SndL.c (s_fail) (SndL.c (s_fail) (SndL.c (s_aload_n (k := 0) (by decide +kernel) rfl) (SndL.c (s_getf (k := 4) clok13 (by decide) rfl (by decide) rfl w_5_106 (Or.inl rfl) (by decide +kernel)) (SndL.c (s_fail) (SndL.c (s_fail) (SndL.n))))))))))))))))
def kX12_rule_6 : List En := [(0, oRload 0 97), (0, oGetf 14 0 0 100), (1, oFail), (1, oFail), (0, oIast 101), (0, oRload 0 102), (0, oGetf 14 47 2 105), (1, oFail), (1, oFail), (0, oRload 0 106), (0, oGetf 14 4 0 109), (1, oFail), (1, oFail), (0, oPush (vI (-1)) 110), (0, oIast 111), (0, oRload 0 112)]
set_option maxRecDepth 20000 in
theorem zX12_rule_6 : SndL mX12_rule 96 kX12_rule_6 := SndL.c (s_aload_n (k := 0) (by decide +kernel) rfl) (SndL.c (s_getf (k := 0) clok13 (by decide) rfl (by decide) rfl w_5_102 (Or.inl rfl) (by decide +kernel)) (SndL.c (s_fail) (SndL.c (s_fail) (SndL.c (s_iast (by decide +kernel)) (SndL.c (s_aload_n (k := 0) (by decide +kernel) rfl) (SndL.c (s_getf (k := 47) clok13 (by decide) rfl (by decide) rfl w_5_149 (Or.inl rfl) (by decide +kernel)) (SndL.c (s_fail) (SndL.c (s_fail) (SndL.c (s_aload_n (k := 0) (by decide +kernel) rfl) (SndL.c (s_getf (k := 4) clok13 (by decide) rfl (by decide) rfl w_5_106 (Or.inl rfl) (by decide +kernel)) (SndL.c (s_fail) (SndL.c (s_fail) (SndL.c (s_iconst (by decide +kernel) (in32_d (by decide))) (SndL.c (s_iast (by decide +kernel)) (SndL.c (s_aload_n (k := 0) (by decide +kernel) rfl) (SndL.n))))))))))))))))
def kX12_rule_7 : List En := [(0, oDup 113), (0, oGetf 14 4 0 116), (1, oFail), (1, oFail), (0, oDupx1 117), (0, oPush (vI 1) 118), (0, oIadd 119), (0, oPutf 14 4 0 122), (1, oFail), (1, oFail), (0, oRetI)]
set_option maxRecDepth 20000 in
theorem zX12_rule_7 : SndL mX12_rule 112 kX12_rule_7 := SndL.c (s_dup (by decide +kernel)) (SndL.c (s_getf (k := 4) clok13 (by decide) rfl (by decide) rfl w_5_106 (Or.inl rfl) (by decide +kernel)) (SndL.c (s_fail) (SndL.c (s_fail) (SndL.c (s_dupx1 (by decide +kernel)) (SndL.c (s_iconst (by decide +kernel) (in32_d (by decide))) (SndL.c (s_iadd (by decide +kernel)) (SndL.c (s_putf (k := 4) clok13 (by decide) rfl (by decide) rfl w_5_106 (Or.inl rfl) (Or.inl rfl) (by decide +kernel)) (SndL.c (s_fail) (SndL.c (s_fail) (SndL.c (s_ret_i rfl (by decide +kernel)) (SndL.n)))))))))))
def kX12_rule : Cd := [kX12_rule_0, kX12_rule_1, kX12_rule_2, kX12_rule_3, kX12_rule_4, kX12_rule_5, kX12_rule_6, kX12_rule_7]
theorem zX12_rule : SndC mX12_rule 0 kX12_rule := SndC.c zX12_rule_0 (by decide) (SndC.c zX12_rule_1 (by decide) (SndC.c zX12_rule_2 (by decide) (SndC.c zX12_rule_3 (by decide) (SndC.c zX12_rule_4 (by decide) (SndC.c zX12_rule_5 (by decide) (SndC.c zX12_rule_6 (by decide) (SndC.c zX12_rule_7 (by decide) (SndC.n))))))))
theorem aX12_rule_0 : at_ kX12_rule 0 = (0, oRload 0 1) := rfl
theorem aX12_rule_1 : at_ kX12_rule 1 = (0, oIload 1 2) := rfl
theorem aX12_rule_2 : at_ kX12_rule 2 = (2, oInvV 14 mX12_wants 1 5) := rfl
theorem aX12_rule_5 : at_ kX12_rule 5 = (0, oIstore 3 6) := rfl
theorem aX12_rule_6 : at_ kX12_rule 6 = (0, oIload 3 7) := rfl
theorem aX12_rule_7 : at_ kX12_rule 7 = (0, oIfEq 16 10) := rfl
theorem aX12_rule_10 : at_ kX12_rule 10 = (0, oRload 0 11) := rfl
theorem aX12_rule_11 : at_ kX12_rule 11 = (0, oIload 3 12) := rfl
theorem aX12_rule_12 : at_ kX12_rule 12 = (2, oInvV 14 mX12_no 1 15) := rfl
theorem aX12_rule_15 : at_ kX12_rule 15 = (0, oRetI) := rfl
theorem aX12_rule_16 : at_ kX12_rule 16 = (0, oIload 2 17) := rfl
theorem aX12_rule_17 : at_ kX12_rule 17 = (0, oIfLt 27 20) := rfl
theorem aX12_rule_20 : at_ kX12_rule 20 = (0, oIload 2 21) := rfl
theorem aX12_rule_21 : at_ kX12_rule 21 = (0, oPush (vI 9000) 24) := rfl
theorem aX12_rule_24 : at_ kX12_rule 24 = (0, oIcLe 34 27) := rfl
theorem aX12_rule_27 : at_ kX12_rule 27 = (0, oRload 0 28) := rfl
theorem aX12_rule_28 : at_ kX12_rule 28 = (0, oPush (vI (-6)) 30) := rfl
theorem aX12_rule_30 : at_ kX12_rule 30 = (2, oInvV 14 mX12_no 1 33) := rfl
theorem aX12_rule_33 : at_ kX12_rule 33 = (0, oRetI) := rfl
theorem aX12_rule_34 : at_ kX12_rule 34 = (0, oRload 0 35) := rfl
theorem aX12_rule_35 : at_ kX12_rule 35 = (0, oRload 0 36) := rfl
theorem aX12_rule_36 : at_ kX12_rule 36 = (0, oIload 1 37) := rfl
theorem aX12_rule_37 : at_ kX12_rule 37 = (0, oRload 0 38) := rfl
theorem aX12_rule_38 : at_ kX12_rule 38 = (0, oGetf 14 4 0 41) := rfl
theorem aX12_rule_41 : at_ kX12_rule 41 = (2, oInvV 14 mX12_compiles 2 44) := rfl
theorem aX12_rule_44 : at_ kX12_rule 44 = (0, oPutf 14 9 0 47) := rfl
theorem aX12_rule_47 : at_ kX12_rule 47 = (0, oRload 0 48) := rfl
theorem aX12_rule_48 : at_ kX12_rule 48 = (0, oGetf 14 9 0 51) := rfl
theorem aX12_rule_51 : at_ kX12_rule 51 = (0, oPush (vI (-1)) 52) := rfl
theorem aX12_rule_52 : at_ kX12_rule 52 = (0, oIcEq 62 55) := rfl
theorem aX12_rule_55 : at_ kX12_rule 55 = (0, oRload 0 56) := rfl
theorem aX12_rule_56 : at_ kX12_rule 56 = (0, oPush (vI (-6)) 58) := rfl
theorem aX12_rule_58 : at_ kX12_rule 58 = (2, oInvV 14 mX12_no 1 61) := rfl
theorem aX12_rule_61 : at_ kX12_rule 61 = (0, oRetI) := rfl
theorem aX12_rule_62 : at_ kX12_rule 62 = (0, oRload 0 63) := rfl
theorem aX12_rule_63 : at_ kX12_rule 63 = (0, oGetf 14 4 0 66) := rfl
theorem aX12_rule_66 : at_ kX12_rule 66 = (0, oPush (vI 16) 68) := rfl
theorem aX12_rule_68 : at_ kX12_rule 68 = (0, oIcNe 78 71) := rfl
theorem aX12_rule_71 : at_ kX12_rule 71 = (0, oRload 0 72) := rfl
theorem aX12_rule_72 : at_ kX12_rule 72 = (0, oPush (vI (-7)) 74) := rfl
theorem aX12_rule_74 : at_ kX12_rule 74 = (2, oInvV 14 mX12_no 1 77) := rfl
theorem aX12_rule_77 : at_ kX12_rule 77 = (0, oRetI) := rfl
theorem aX12_rule_78 : at_ kX12_rule 78 = (0, oRload 0 79) := rfl
theorem aX12_rule_79 : at_ kX12_rule 79 = (0, oGetf 14 45 2 82) := rfl
theorem aX12_rule_82 : at_ kX12_rule 82 = (0, oRload 0 83) := rfl
theorem aX12_rule_83 : at_ kX12_rule 83 = (0, oGetf 14 4 0 86) := rfl
theorem aX12_rule_86 : at_ kX12_rule 86 = (0, oIload 2 87) := rfl
theorem aX12_rule_87 : at_ kX12_rule 87 = (0, oIast 88) := rfl
theorem aX12_rule_88 : at_ kX12_rule 88 = (0, oRload 0 89) := rfl
theorem aX12_rule_89 : at_ kX12_rule 89 = (0, oGetf 14 46 2 92) := rfl
theorem aX12_rule_92 : at_ kX12_rule 92 = (0, oRload 0 93) := rfl
theorem aX12_rule_93 : at_ kX12_rule 93 = (0, oGetf 14 4 0 96) := rfl
theorem aX12_rule_96 : at_ kX12_rule 96 = (0, oRload 0 97) := rfl
theorem aX12_rule_97 : at_ kX12_rule 97 = (0, oGetf 14 0 0 100) := rfl
theorem aX12_rule_100 : at_ kX12_rule 100 = (0, oIast 101) := rfl
theorem aX12_rule_101 : at_ kX12_rule 101 = (0, oRload 0 102) := rfl
theorem aX12_rule_102 : at_ kX12_rule 102 = (0, oGetf 14 47 2 105) := rfl
theorem aX12_rule_105 : at_ kX12_rule 105 = (0, oRload 0 106) := rfl
theorem aX12_rule_106 : at_ kX12_rule 106 = (0, oGetf 14 4 0 109) := rfl
theorem aX12_rule_109 : at_ kX12_rule 109 = (0, oPush (vI (-1)) 110) := rfl
theorem aX12_rule_110 : at_ kX12_rule 110 = (0, oIast 111) := rfl
theorem aX12_rule_111 : at_ kX12_rule 111 = (0, oRload 0 112) := rfl
theorem aX12_rule_112 : at_ kX12_rule 112 = (0, oDup 113) := rfl
theorem aX12_rule_113 : at_ kX12_rule 113 = (0, oGetf 14 4 0 116) := rfl
theorem aX12_rule_116 : at_ kX12_rule 116 = (0, oDupx1 117) := rfl
theorem aX12_rule_117 : at_ kX12_rule 117 = (0, oPush (vI 1) 118) := rfl
theorem aX12_rule_118 : at_ kX12_rule 118 = (0, oIadd 119) := rfl
theorem aX12_rule_119 : at_ kX12_rule 119 = (0, oPutf 14 4 0 122) := rfl
theorem aX12_rule_122 : at_ kX12_rule 122 = (0, oRetI) := rfl
def kX12_fault_0 : List En := [(0, oRload 0 1), (0, oGetf 14 9 0 4), (1, oFail), (1, oFail), (0, oRetI)]
set_option maxRecDepth 20000 in
theorem zX12_fault_0 : SndL mX12_fault 0 kX12_fault_0 := SndL.c (s_aload_n (k := 0) (by decide +kernel) rfl) (SndL.c (s_getf (k := 9) clok13 (by decide) rfl (by decide) rfl w_5_111 (Or.inl rfl) (by decide +kernel)) (SndL.c (s_fail) (SndL.c (s_fail) (SndL.c (s_ret_i rfl (by decide +kernel)) (SndL.n)))))
def kX12_fault : Cd := [kX12_fault_0]
theorem zX12_fault : SndC mX12_fault 0 kX12_fault := SndC.c zX12_fault_0 (by decide) (SndC.n)
theorem aX12_fault_0 : at_ kX12_fault 0 = (0, oRload 0 1) := rfl
theorem aX12_fault_1 : at_ kX12_fault 1 = (0, oGetf 14 9 0 4) := rfl
theorem aX12_fault_4 : at_ kX12_fault 4 = (0, oRetI) := rfl
def kX12_strike_0 : List En := [(0, oIload 1 1), (0, oIfLt 12 4), (1, oFail), (1, oFail), (0, oIload 1 5), (0, oRload 0 6), (0, oGetf 14 4 0 9), (1, oFail), (1, oFail), (0, oIcLt 18 12), (1, oFail), (1, oFail), (0, oRload 0 13), (0, oPush (vI (-1)) 14), (2, oInvV 14 mX12_no 1 17), (1, oFail)]
set_option maxRecDepth 20000 in
theorem zX12_strike_0 : SndL mX12_strike 0 kX12_strike_0 := SndL.c (s_iload_n (k := 1) (by decide +kernel) rfl) (SndL.c (s_if_lt (off := 11) (by decide +kernel) (by decide)) (SndL.c (s_fail) (SndL.c (s_fail) (SndL.c (s_iload_n (k := 1) (by decide +kernel) rfl) (SndL.c (s_aload_n (k := 0) (by decide +kernel) rfl) (SndL.c (s_getf (k := 4) clok13 (by decide) rfl (by decide) rfl w_5_106 (Or.inl rfl) (by decide +kernel)) (SndL.c (s_fail) (SndL.c (s_fail) (SndL.c (s_ic_lt (off := 9) (by decide +kernel) (by decide)) (SndL.c (s_fail) (SndL.c (s_fail) (SndL.c (s_aload_n (k := 0) (by decide +kernel) rfl) (SndL.c (s_iconst (by decide +kernel) (in32_d (by decide))) (SndL.c (s_invV (r := (RX12, TX12, 90)) (ci := 13) okX12_no rfl (by decide) rfl rfl w_6_138 w_6_140 v_29 (by decide +kernel)) (SndL.c (s_fail) (SndL.n))))))))))))))))
def kX12_strike_1 : List En := [(1, oFail), (0, oRetI), (0, oRload 0 19), (0, oGetf 14 47 2 22), (1, oFail), (1, oFail), (0, oIload 1 23), (0, oIald 24), (0, oPush (vI (-1)) 25), (0, oIcEq 35 28), (1, oFail), (1, oFail), (0, oRload 0 29), (0, oPush (vI (-6)) 31), (1, oFail), (2, oInvV 14 mX12_no 1 34)]
set_option maxRecDepth 20000 in
theorem zX12_strike_1 : SndL mX12_strike 16 kX12_strike_1 := SndL.c (s_fail) (SndL.c (s_ret_i rfl (by decide +kernel)) (SndL.c (s_aload_n (k := 0) (by decide +kernel) rfl) (SndL.c (s_getf (k := 47) clok13 (by decide) rfl (by decide) rfl w_5_149 (Or.inl rfl) (by decide +kernel)) (SndL.c (s_fail) (SndL.c (s_fail) (SndL.c (s_iload_n (k := 1) (by decide +kernel) rfl) (SndL.c (s_iald (by decide +kernel)) (SndL.c (s_iconst (by decide +kernel) (in32_d (by decide))) (SndL.c (s_ic_eq (off := 10) (by decide +kernel) (by decide)) (SndL.c (s_fail) (SndL.c (s_fail) (SndL.c (s_aload_n (k := 0) (by decide +kernel) rfl) (SndL.c (s_bipush (by decide +kernel) (in32_d (by decide)) (by decide +kernel)) (SndL.c (s_fail) (SndL.c (s_invV (r := (RX12, TX12, 90)) (ci := 13) okX12_no rfl (by decide) rfl rfl w_6_138 w_6_140 v_29 (by decide +kernel)) (SndL.n))))))))))))))))
def kX12_strike_2 : List En := [(1, oFail), (1, oFail), (0, oRetI), (0, oRload 0 36), (0, oGetf 14 47 2 39), (1, oFail), (1, oFail), (0, oIload 1 40), (0, oRload 0 41), (0, oGetf 14 0 0 44), (1, oFail), (1, oFail), (0, oIast 45), (0, oPush (vI 1) 46), (0, oRetI)]
set_option maxRecDepth 20000 in
theorem zX12_strike_2 : SndL mX12_strike 32 kX12_strike_2 := SndL.c (s_fail) (SndL.c (s_fail) (SndL.c (s_ret_i rfl (by decide +kernel)) (SndL.c (s_aload_n (k := 0) (by decide +kernel) rfl) (SndL.c (s_getf (k := 47) clok13 (by decide) rfl (by decide) rfl w_5_149 (Or.inl rfl) (by decide +kernel)) (SndL.c (s_fail) (SndL.c (s_fail) (SndL.c (s_iload_n (k := 1) (by decide +kernel) rfl) (SndL.c (s_aload_n (k := 0) (by decide +kernel) rfl) (SndL.c (s_getf (k := 0) clok13 (by decide) rfl (by decide) rfl w_5_102 (Or.inl rfl) (by decide +kernel)) (SndL.c (s_fail) (SndL.c (s_fail) (SndL.c (s_iast (by decide +kernel)) (SndL.c (s_iconst (by decide +kernel) (in32_d (by decide))) (SndL.c (s_ret_i rfl (by decide +kernel)) (SndL.n)))))))))))))))
def kX12_strike : Cd := [kX12_strike_0, kX12_strike_1, kX12_strike_2]
theorem zX12_strike : SndC mX12_strike 0 kX12_strike := SndC.c zX12_strike_0 (by decide) (SndC.c zX12_strike_1 (by decide) (SndC.c zX12_strike_2 (by decide) (SndC.n)))
theorem aX12_strike_0 : at_ kX12_strike 0 = (0, oIload 1 1) := rfl
theorem aX12_strike_1 : at_ kX12_strike 1 = (0, oIfLt 12 4) := rfl
theorem aX12_strike_4 : at_ kX12_strike 4 = (0, oIload 1 5) := rfl
theorem aX12_strike_5 : at_ kX12_strike 5 = (0, oRload 0 6) := rfl
theorem aX12_strike_6 : at_ kX12_strike 6 = (0, oGetf 14 4 0 9) := rfl
theorem aX12_strike_9 : at_ kX12_strike 9 = (0, oIcLt 18 12) := rfl
theorem aX12_strike_12 : at_ kX12_strike 12 = (0, oRload 0 13) := rfl
theorem aX12_strike_13 : at_ kX12_strike 13 = (0, oPush (vI (-1)) 14) := rfl
theorem aX12_strike_14 : at_ kX12_strike 14 = (2, oInvV 14 mX12_no 1 17) := rfl
theorem aX12_strike_17 : at_ kX12_strike 17 = (0, oRetI) := rfl
theorem aX12_strike_18 : at_ kX12_strike 18 = (0, oRload 0 19) := rfl
theorem aX12_strike_19 : at_ kX12_strike 19 = (0, oGetf 14 47 2 22) := rfl
theorem aX12_strike_22 : at_ kX12_strike 22 = (0, oIload 1 23) := rfl
theorem aX12_strike_23 : at_ kX12_strike 23 = (0, oIald 24) := rfl
theorem aX12_strike_24 : at_ kX12_strike 24 = (0, oPush (vI (-1)) 25) := rfl
theorem aX12_strike_25 : at_ kX12_strike 25 = (0, oIcEq 35 28) := rfl
theorem aX12_strike_28 : at_ kX12_strike 28 = (0, oRload 0 29) := rfl
theorem aX12_strike_29 : at_ kX12_strike 29 = (0, oPush (vI (-6)) 31) := rfl
theorem aX12_strike_31 : at_ kX12_strike 31 = (2, oInvV 14 mX12_no 1 34) := rfl
theorem aX12_strike_34 : at_ kX12_strike 34 = (0, oRetI) := rfl
theorem aX12_strike_35 : at_ kX12_strike 35 = (0, oRload 0 36) := rfl
theorem aX12_strike_36 : at_ kX12_strike 36 = (0, oGetf 14 47 2 39) := rfl
theorem aX12_strike_39 : at_ kX12_strike 39 = (0, oIload 1 40) := rfl
theorem aX12_strike_40 : at_ kX12_strike 40 = (0, oRload 0 41) := rfl
theorem aX12_strike_41 : at_ kX12_strike 41 = (0, oGetf 14 0 0 44) := rfl
theorem aX12_strike_44 : at_ kX12_strike 44 = (0, oIast 45) := rfl
theorem aX12_strike_45 : at_ kX12_strike 45 = (0, oPush (vI 1) 46) := rfl
theorem aX12_strike_46 : at_ kX12_strike 46 = (0, oRetI) := rfl
def kX12_valueOf_0 : List En := [(0, oIload 1 1), (0, oSwitch 97 122 [221, 247, 165, 247, 247, 247, 247, 247, 247, 247, 120, 202, 141, 127, 247, 148, 247, 247, 134, 247, 247, 247, 247, 247, 247, 240] 247), (1, oFail), (1, oFail), (1, oFail), (1, oFail), (1, oFail), (1, oFail), (1, oFail), (1, oFail), (1, oFail), (1, oFail), (1, oFail), (1, oFail), (1, oFail), (1, oFail)]
set_option maxRecDepth 20000 in
theorem zX12_valueOf_0 : SndL mX12_valueOf 0 kX12_valueOf_0 := SndL.c (s_iload_n (k := 1) (by decide +kernel) rfl) (SndL.c (s_switch2 (dflt := 246) (lo := 97) (hi := 122) (len := 119) (offs := #[220, 246, 164, 246, 246, 246, 246, 246, 246, 246, 119, 201, 140, 126, 246, 147, 246, 246, 133, 246, 246, 246, 246, 246, 246, 239]) (by decide +kernel) (by decide) (by decide +kernel) (by decide +kernel)) (SndL.c (s_fail) (SndL.c (s_fail) (SndL.c (s_fail) (SndL.c (s_fail) (SndL.c (s_fail) (SndL.c (s_fail) (SndL.c (s_fail) (SndL.c (s_fail) (SndL.c (s_fail) (SndL.c (s_fail) (SndL.c (s_fail) (SndL.c (s_fail) (SndL.c (s_fail) (SndL.c (s_fail) (SndL.n))))))))))))))))
def kX12_valueOf_1 : List En := [(1, oFail), (1, oFail), (1, oFail), (1, oFail), (1, oFail), (1, oFail), (1, oFail), (1, oFail), (1, oFail), (1, oFail), (1, oFail), (1, oFail), (1, oFail), (1, oFail), (1, oFail), (1, oFail)]
set_option maxRecDepth 20000 in
theorem zX12_valueOf_1 : SndL mX12_valueOf 16 kX12_valueOf_1 := SndL.c (s_fail) (SndL.c (s_fail) (SndL.c (s_fail) (SndL.c (s_fail) (SndL.c (s_fail) (SndL.c (s_fail) (SndL.c (s_fail) (SndL.c (s_fail) (SndL.c (s_fail) (SndL.c (s_fail) (SndL.c (s_fail) (SndL.c (s_fail) (SndL.c (s_fail) (SndL.c (s_fail) (SndL.c (s_fail) (SndL.c (s_fail) (SndL.n))))))))))))))))
def kX12_valueOf_2 : List En := [(1, oFail), (1, oFail), (1, oFail), (1, oFail), (1, oFail), (1, oFail), (1, oFail), (1, oFail), (1, oFail), (1, oFail), (1, oFail), (1, oFail), (1, oFail), (1, oFail), (1, oFail), (1, oFail)]
set_option maxRecDepth 20000 in
theorem zX12_valueOf_2 : SndL mX12_valueOf 32 kX12_valueOf_2 := SndL.c (s_fail) (SndL.c (s_fail) (SndL.c (s_fail) (SndL.c (s_fail) (SndL.c (s_fail) (SndL.c (s_fail) (SndL.c (s_fail) (SndL.c (s_fail) (SndL.c (s_fail) (SndL.c (s_fail) (SndL.c (s_fail) (SndL.c (s_fail) (SndL.c (s_fail) (SndL.c (s_fail) (SndL.c (s_fail) (SndL.c (s_fail) (SndL.n))))))))))))))))
def kX12_valueOf_3 : List En := [(1, oFail), (1, oFail), (1, oFail), (1, oFail), (1, oFail), (1, oFail), (1, oFail), (1, oFail), (1, oFail), (1, oFail), (1, oFail), (1, oFail), (1, oFail), (1, oFail), (1, oFail), (1, oFail)]
set_option maxRecDepth 20000 in
theorem zX12_valueOf_3 : SndL mX12_valueOf 48 kX12_valueOf_3 := SndL.c (s_fail) (SndL.c (s_fail) (SndL.c (s_fail) (SndL.c (s_fail) (SndL.c (s_fail) (SndL.c (s_fail) (SndL.c (s_fail) (SndL.c (s_fail) (SndL.c (s_fail) (SndL.c (s_fail) (SndL.c (s_fail) (SndL.c (s_fail) (SndL.c (s_fail) (SndL.c (s_fail) (SndL.c (s_fail) (SndL.c (s_fail) (SndL.n))))))))))))))))
def kX12_valueOf_4 : List En := [(1, oFail), (1, oFail), (1, oFail), (1, oFail), (1, oFail), (1, oFail), (1, oFail), (1, oFail), (1, oFail), (1, oFail), (1, oFail), (1, oFail), (1, oFail), (1, oFail), (1, oFail), (1, oFail)]
set_option maxRecDepth 20000 in
theorem zX12_valueOf_4 : SndL mX12_valueOf 64 kX12_valueOf_4 := SndL.c (s_fail) (SndL.c (s_fail) (SndL.c (s_fail) (SndL.c (s_fail) (SndL.c (s_fail) (SndL.c (s_fail) (SndL.c (s_fail) (SndL.c (s_fail) (SndL.c (s_fail) (SndL.c (s_fail) (SndL.c (s_fail) (SndL.c (s_fail) (SndL.c (s_fail) (SndL.c (s_fail) (SndL.c (s_fail) (SndL.c (s_fail) (SndL.n))))))))))))))))
def kX12_valueOf_5 : List En := [(1, oFail), (1, oFail), (1, oFail), (1, oFail), (1, oFail), (1, oFail), (1, oFail), (1, oFail), (1, oFail), (1, oFail), (1, oFail), (1, oFail), (1, oFail), (1, oFail), (1, oFail), (1, oFail)]
set_option maxRecDepth 20000 in
theorem zX12_valueOf_5 : SndL mX12_valueOf 80 kX12_valueOf_5 := SndL.c (s_fail) (SndL.c (s_fail) (SndL.c (s_fail) (SndL.c (s_fail) (SndL.c (s_fail) (SndL.c (s_fail) (SndL.c (s_fail) (SndL.c (s_fail) (SndL.c (s_fail) (SndL.c (s_fail) (SndL.c (s_fail) (SndL.c (s_fail) (SndL.c (s_fail) (SndL.c (s_fail) (SndL.c (s_fail) (SndL.c (s_fail) (SndL.n))))))))))))))))
def kX12_valueOf_6 : List En := [(1, oFail), (1, oFail), (1, oFail), (1, oFail), (1, oFail), (1, oFail), (1, oFail), (1, oFail), (1, oFail), (1, oFail), (1, oFail), (1, oFail), (1, oFail), (1, oFail), (1, oFail), (1, oFail)]
set_option maxRecDepth 20000 in
theorem zX12_valueOf_6 : SndL mX12_valueOf 96 kX12_valueOf_6 := SndL.c (s_fail) (SndL.c (s_fail) (SndL.c (s_fail) (SndL.c (s_fail) (SndL.c (s_fail) (SndL.c (s_fail) (SndL.c (s_fail) (SndL.c (s_fail) (SndL.c (s_fail) (SndL.c (s_fail) (SndL.c (s_fail) (SndL.c (s_fail) (SndL.c (s_fail) (SndL.c (s_fail) (SndL.c (s_fail) (SndL.c (s_fail) (SndL.n))))))))))))))))
def kX12_valueOf_7 : List En := [(1, oFail), (1, oFail), (1, oFail), (1, oFail), (1, oFail), (1, oFail), (1, oFail), (1, oFail), (0, oRload 0 121), (0, oGetf 14 34 2 124), (1, oFail), (1, oFail), (0, oIload 3 125), (0, oIald 126), (0, oRetI), (0, oRload 0 128)]
set_option maxRecDepth 20000 in
theorem zX12_valueOf_7 : SndL mX12_valueOf 112 kX12_valueOf_7 := SndL.c (s_fail) (SndL.c (s_fail) (SndL.c (s_fail) (SndL.c (s_fail) (SndL.c (s_fail) (SndL.c (s_fail) (SndL.c (s_fail) (SndL.c (s_fail) (SndL.c (s_aload_n (k := 0) (by decide +kernel) rfl) (SndL.c (s_getf (k := 34) clok13 (by decide) rfl (by decide) rfl w_5_136 (Or.inl rfl) (by decide +kernel)) (SndL.c (s_fail) (SndL.c (s_fail) (SndL.c (s_iload_n (k := 3) (by decide +kernel) rfl) (SndL.c (s_iald (by decide +kernel)) (SndL.c (s_ret_i rfl (by decide +kernel)) (SndL.c (s_aload_n (k := 0) (by decide +kernel) rfl) (SndL.n))))))))))))))))
def kX12_valueOf_8 : List En := [(0, oGetf 14 36 2 131), (1, oFail), (1, oFail), (0, oIload 3 132), (0, oIald 133), (0, oRetI), (0, oRload 0 135), (0, oGetf 14 35 2 138), (1, oFail), (1, oFail), (0, oIload 3 139), (0, oIald 140), (0, oRetI), (0, oRload 0 142), (0, oGetf 14 21 2 145), (1, oFail)]
set_option maxRecDepth 20000 in
theorem zX12_valueOf_8 : SndL mX12_valueOf 128 kX12_valueOf_8 := SndL.c (s_getf (k := 36) clok13 (by decide) rfl (by decide) rfl w_5_138 (Or.inl rfl) (by decide +kernel)) (SndL.c (s_fail) (SndL.c (s_fail) (SndL.c (s_iload_n (k := 3) (by decide +kernel) rfl) (SndL.c (s_iald (by decide +kernel)) (SndL.c (s_ret_i rfl (by decide +kernel)) (SndL.c (s_aload_n (k := 0) (by decide +kernel) rfl) (SndL.c (s_getf (k := 35) clok13 (by decide) rfl (by decide) rfl w_5_137 (Or.inl rfl) (by decide +kernel)) (SndL.c (s_fail) (SndL.c (s_fail) (SndL.c (s_iload_n (k := 3) (by decide +kernel) rfl) (SndL.c (s_iald (by decide +kernel)) (SndL.c (s_ret_i rfl (by decide +kernel)) (SndL.c (s_aload_n (k := 0) (by decide +kernel) rfl) (SndL.c (s_getf (k := 21) clok13 (by decide) rfl (by decide) rfl w_5_123 (Or.inl rfl) (by decide +kernel)) (SndL.c (s_fail) (SndL.n))))))))))))))))
def kX12_valueOf_9 : List En := [(1, oFail), (0, oIload 2 146), (0, oIald 147), (0, oRetI), (0, oRload 0 149), (0, oIload 2 150), (0, oIload 3 151), (0, oIload 5 153), (1, oFail), (2, oInvV 14 mX12_isBorneOut 3 156), (1, oFail), (1, oFail), (0, oIfEq 163 159), (1, oFail), (1, oFail), (0, oPush (vI 1) 160)]
set_option maxRecDepth 20000 in
theorem zX12_valueOf_9 : SndL mX12_valueOf 144 kX12_valueOf_9 := SndL.c (s_fail) (SndL.c (s_iload_n (k := 2) (by decide +kernel) rfl) (SndL.c (s_iald (by decide +kernel)) (SndL.c (s_ret_i rfl (by decide +kernel)) (SndL.c (s_aload_n (k := 0) (by decide +kernel) rfl) (SndL.c (s_iload_n (k := 2) (by decide +kernel) rfl) (SndL.c (s_iload_n (k := 3) (by decide +kernel) rfl) (SndL.c (s_iload (by decide +kernel)) (SndL.c (s_fail) (SndL.c (s_invV (r := (RX12, TX12, 90)) (ci := 13) okX12_isBorneOut rfl (by decide) rfl rfl w_7_7 w_7_9 v_40 (by decide +kernel)) (SndL.c (s_fail) (SndL.c (s_fail) (SndL.c (s_if_eq (off := 7) (by decide +kernel) (by decide)) (SndL.c (s_fail) (SndL.c (s_fail) (SndL.c (s_iconst (by decide +kernel) (in32_d (by decide))) (SndL.n))))))))))))))))
def kX12_valueOf_10 : List En := [(0, oGoto 164), (1, oFail), (1, oFail), (0, oPush (vI 0) 164), (0, oRetI), (0, oRload 0 166), (0, oGetf 14 25 2 169), (1, oFail), (1, oFail), (0, oIload 2 170), (0, oIald 171), (0, oRload 0 172), (0, oGetf 14 26 2 175), (1, oFail), (1, oFail), (0, oIload 2 176)]
set_option maxRecDepth 20000 in
theorem zX12_valueOf_10 : SndL mX12_valueOf 160 kX12_valueOf_10 := SndL.c (s_goto (off := 4) (by decide +kernel) (by decide)) (SndL.c (s_fail) (SndL.c (s_fail) (SndL.c (s_iconst (by decide +kernel) (in32_d (by decide))) (SndL.c (s_ret_i rfl (by decide +kernel)) (SndL.c (s_aload_n (k := 0) (by decide +kernel) rfl) (SndL.c (s_getf (k := 25) clok13 (by decide) rfl (by decide) rfl w_5_127 (Or.inl rfl) (by decide +kernel)) (SndL.c (s_fail) (SndL.c (s_fail) (SndL.c (s_iload_n (k := 2) (by decide +kernel) rfl) (SndL.c (s_iald (by decide +kernel)) (SndL.c (s_aload_n (k := 0) (by decide +kernel) rfl) (SndL.c (s_getf (k := 26) clok13 (by decide) rfl (by decide) rfl w_5_128 (Or.inl rfl) (by decide +kernel)) (SndL.c (s_fail) (SndL.c (s_fail) (SndL.c (s_iload_n (k := 2) (by decide +kernel) rfl) (SndL.n))))))))))))))))
def kX12_valueOf_11 : List En := [(0, oIald 177), (0, oIadd 178), (0, oIstore 6 180), (1, oFail), (0, oIload 6 182), (1, oFail), (0, oIfNe 189 185), (1, oFail), (1, oFail), (0, oPush (vI 0) 186), (0, oGoto 201), (1, oFail), (1, oFail), (0, oPush (vI 100) 191), (1, oFail), (0, oRload 0 192)]
set_option maxRecDepth 20000 in
theorem zX12_valueOf_11 : SndL mX12_valueOf 176 kX12_valueOf_11 := SndL.c (s_iald (by decide +kernel)) (SndL.c (s_iadd (by decide +kernel)) (SndL.c (s_istore (by decide +kernel) (by decide)) (SndL.c (s_fail) (SndL.c (s_iload (by decide +kernel)) (SndL.c (s_fail) (SndL.c (s_if_ne (off := 7) (by decide +kernel) (by decide)) (SndL.c (s_fail) (SndL.c (s_fail) (SndL.c (s_iconst (by decide +kernel) (in32_d (by decide))) (SndL.c (s_goto (off := 15) (by decide +kernel) (by decide)) (SndL.c (s_fail) (SndL.c (s_fail) (SndL.c (s_bipush (by decide +kernel) (in32_d (by decide)) (by decide +kernel)) (SndL.c (s_fail) (SndL.c (s_aload_n (k := 0) (by decide +kernel) rfl) (SndL.n))))))))))))))))
def kX12_valueOf_12 : List En := [(0, oGetf 14 25 2 195), (1, oFail), (1, oFail), (0, oIload 2 196), (0, oIald 197), (0, oImul 198), (0, oIload 6 200), (1, oFail), (0, oIdiv 201), (0, oRetI), (0, oRload 0 203), (0, oIload 2 204), (0, oIload 3 205), (0, oIload 4 207), (1, oFail), (0, oIload 5 209)]
set_option maxRecDepth 20000 in
theorem zX12_valueOf_12 : SndL mX12_valueOf 192 kX12_valueOf_12 := SndL.c (s_getf (k := 25) clok13 (by decide) rfl (by decide) rfl w_5_127 (Or.inl rfl) (by decide +kernel)) (SndL.c (s_fail) (SndL.c (s_fail) (SndL.c (s_iload_n (k := 2) (by decide +kernel) rfl) (SndL.c (s_iald (by decide +kernel)) (SndL.c (s_imul (by decide +kernel)) (SndL.c (s_iload (by decide +kernel)) (SndL.c (s_fail) (SndL.c (s_idiv (by decide +kernel)) (SndL.c (s_ret_i rfl (by decide +kernel)) (SndL.c (s_aload_n (k := 0) (by decide +kernel) rfl) (SndL.c (s_iload_n (k := 2) (by decide +kernel) rfl) (SndL.c (s_iload_n (k := 3) (by decide +kernel) rfl) (SndL.c (s_iload (by decide +kernel)) (SndL.c (s_fail) (SndL.c (s_iload (by decide +kernel)) (SndL.n))))))))))))))))
def kX12_valueOf_13 : List En := [(1, oFail), (2, oInvV 14 mX12_isTakenBack 4 212), (1, oFail), (1, oFail), (0, oIfEq 219 215), (1, oFail), (1, oFail), (0, oPush (vI 1) 216), (0, oGoto 220), (1, oFail), (1, oFail), (0, oPush (vI 0) 220), (0, oRetI), (0, oRload 0 222), (0, oIload 2 223), (0, oIload 3 224)]
set_option maxRecDepth 20000 in
theorem zX12_valueOf_13 : SndL mX12_valueOf 208 kX12_valueOf_13 := SndL.c (s_fail) (SndL.c (s_invV (r := (RX12, TX12, 90)) (ci := 13) okX12_isTakenBack rfl (by decide) rfl rfl w_7_3 w_7_5 v_39 (by decide +kernel)) (SndL.c (s_fail) (SndL.c (s_fail) (SndL.c (s_if_eq (off := 7) (by decide +kernel) (by decide)) (SndL.c (s_fail) (SndL.c (s_fail) (SndL.c (s_iconst (by decide +kernel) (in32_d (by decide))) (SndL.c (s_goto (off := 4) (by decide +kernel) (by decide)) (SndL.c (s_fail) (SndL.c (s_fail) (SndL.c (s_iconst (by decide +kernel) (in32_d (by decide))) (SndL.c (s_ret_i rfl (by decide +kernel)) (SndL.c (s_aload_n (k := 0) (by decide +kernel) rfl) (SndL.c (s_iload_n (k := 2) (by decide +kernel) rfl) (SndL.c (s_iload_n (k := 3) (by decide +kernel) rfl) (SndL.n))))))))))))))))
def kX12_valueOf_14 : List En := [(0, oIload 4 226), (1, oFail), (0, oIload 5 228), (1, oFail), (2, oInvV 14 mX12_isAgain 4 231), (1, oFail), (1, oFail), (0, oIfEq 238 234), (1, oFail), (1, oFail), (0, oPush (vI 1) 235), (0, oGoto 239), (1, oFail), (1, oFail), (0, oPush (vI 0) 239), (0, oRetI)]
set_option maxRecDepth 20000 in
theorem zX12_valueOf_14 : SndL mX12_valueOf 224 kX12_valueOf_14 := SndL.c (s_iload (by decide +kernel)) (SndL.c (s_fail) (SndL.c (s_iload (by decide +kernel)) (SndL.c (s_fail) (SndL.c (s_invV (r := (RX12, TX12, 90)) (ci := 13) okX12_isAgain rfl (by decide) rfl rfl w_7_19 w_7_21 v_43 (by decide +kernel)) (SndL.c (s_fail) (SndL.c (s_fail) (SndL.c (s_if_eq (off := 7) (by decide +kernel) (by decide)) (SndL.c (s_fail) (SndL.c (s_fail) (SndL.c (s_iconst (by decide +kernel) (in32_d (by decide))) (SndL.c (s_goto (off := 4) (by decide +kernel) (by decide)) (SndL.c (s_fail) (SndL.c (s_fail) (SndL.c (s_iconst (by decide +kernel) (in32_d (by decide))) (SndL.c (s_ret_i rfl (by decide +kernel)) (SndL.n))))))))))))))))
def kX12_valueOf_15 : List En := [(0, oRload 0 241), (0, oGetf 14 24 2 244), (1, oFail), (1, oFail), (0, oIload 2 245), (0, oIald 246), (0, oRetI), (0, oIload 4 249), (1, oFail), (0, oPush (vI 360) 252), (1, oFail), (1, oFail), (0, oIdiv 253), (0, oRetI)]
set_option maxRecDepth 20000 in
theorem zX12_valueOf_15 : SndL mX12_valueOf 240 kX12_valueOf_15 := SndL.c (s_aload_n (k := 0) (by decide +kernel) rfl) (SndL.c (s_getf (k := 24) clok13 (by decide) rfl (by decide) rfl w_5_126 (Or.inl rfl) (by decide +kernel)) (SndL.c (s_fail) (SndL.c (s_fail) (SndL.c (s_iload_n (k := 2) (by decide +kernel) rfl) (SndL.c (s_iald (by decide +kernel)) (SndL.c (s_ret_i rfl (by decide +kernel)) (SndL.c (s_iload (by decide +kernel)) (SndL.c (s_fail) (SndL.c (s_sipush (by decide +kernel) (in32_d (by decide)) (by decide +kernel)) (SndL.c (s_fail) (SndL.c (s_fail) (SndL.c (s_idiv (by decide +kernel)) (SndL.c (s_ret_i rfl (by decide +kernel)) (SndL.n))))))))))))))
def kX12_valueOf : Cd := [kX12_valueOf_0, kX12_valueOf_1, kX12_valueOf_2, kX12_valueOf_3, kX12_valueOf_4, kX12_valueOf_5, kX12_valueOf_6, kX12_valueOf_7, kX12_valueOf_8, kX12_valueOf_9, kX12_valueOf_10, kX12_valueOf_11, kX12_valueOf_12, kX12_valueOf_13, kX12_valueOf_14, kX12_valueOf_15]
theorem zX12_valueOf : SndC mX12_valueOf 0 kX12_valueOf := SndC.c zX12_valueOf_0 (by decide) (SndC.c zX12_valueOf_1 (by decide) (SndC.c zX12_valueOf_2 (by decide) (SndC.c zX12_valueOf_3 (by decide) (SndC.c zX12_valueOf_4 (by decide) (SndC.c zX12_valueOf_5 (by decide) (SndC.c zX12_valueOf_6 (by decide) (SndC.c zX12_valueOf_7 (by decide) (SndC.c zX12_valueOf_8 (by decide) (SndC.c zX12_valueOf_9 (by decide) (SndC.c zX12_valueOf_10 (by decide) (SndC.c zX12_valueOf_11 (by decide) (SndC.c zX12_valueOf_12 (by decide) (SndC.c zX12_valueOf_13 (by decide) (SndC.c zX12_valueOf_14 (by decide) (SndC.c zX12_valueOf_15 (by decide) (SndC.n))))))))))))))))
theorem aX12_valueOf_0 : at_ kX12_valueOf 0 = (0, oIload 1 1) := rfl
theorem aX12_valueOf_1 : at_ kX12_valueOf 1 = (0, oSwitch 97 122 [221, 247, 165, 247, 247, 247, 247, 247, 247, 247, 120, 202, 141, 127, 247, 148, 247, 247, 134, 247, 247, 247, 247, 247, 247, 240] 247) := rfl
theorem aX12_valueOf_120 : at_ kX12_valueOf 120 = (0, oRload 0 121) := rfl
theorem aX12_valueOf_121 : at_ kX12_valueOf 121 = (0, oGetf 14 34 2 124) := rfl
theorem aX12_valueOf_124 : at_ kX12_valueOf 124 = (0, oIload 3 125) := rfl
theorem aX12_valueOf_125 : at_ kX12_valueOf 125 = (0, oIald 126) := rfl
theorem aX12_valueOf_126 : at_ kX12_valueOf 126 = (0, oRetI) := rfl
theorem aX12_valueOf_127 : at_ kX12_valueOf 127 = (0, oRload 0 128) := rfl
theorem aX12_valueOf_128 : at_ kX12_valueOf 128 = (0, oGetf 14 36 2 131) := rfl
theorem aX12_valueOf_131 : at_ kX12_valueOf 131 = (0, oIload 3 132) := rfl
theorem aX12_valueOf_132 : at_ kX12_valueOf 132 = (0, oIald 133) := rfl
theorem aX12_valueOf_133 : at_ kX12_valueOf 133 = (0, oRetI) := rfl
theorem aX12_valueOf_134 : at_ kX12_valueOf 134 = (0, oRload 0 135) := rfl
theorem aX12_valueOf_135 : at_ kX12_valueOf 135 = (0, oGetf 14 35 2 138) := rfl
theorem aX12_valueOf_138 : at_ kX12_valueOf 138 = (0, oIload 3 139) := rfl
theorem aX12_valueOf_139 : at_ kX12_valueOf 139 = (0, oIald 140) := rfl
theorem aX12_valueOf_140 : at_ kX12_valueOf 140 = (0, oRetI) := rfl
theorem aX12_valueOf_141 : at_ kX12_valueOf 141 = (0, oRload 0 142) := rfl
theorem aX12_valueOf_142 : at_ kX12_valueOf 142 = (0, oGetf 14 21 2 145) := rfl
theorem aX12_valueOf_145 : at_ kX12_valueOf 145 = (0, oIload 2 146) := rfl
theorem aX12_valueOf_146 : at_ kX12_valueOf 146 = (0, oIald 147) := rfl
theorem aX12_valueOf_147 : at_ kX12_valueOf 147 = (0, oRetI) := rfl
theorem aX12_valueOf_148 : at_ kX12_valueOf 148 = (0, oRload 0 149) := rfl
theorem aX12_valueOf_149 : at_ kX12_valueOf 149 = (0, oIload 2 150) := rfl
theorem aX12_valueOf_150 : at_ kX12_valueOf 150 = (0, oIload 3 151) := rfl
theorem aX12_valueOf_151 : at_ kX12_valueOf 151 = (0, oIload 5 153) := rfl
theorem aX12_valueOf_153 : at_ kX12_valueOf 153 = (2, oInvV 14 mX12_isBorneOut 3 156) := rfl
theorem aX12_valueOf_156 : at_ kX12_valueOf 156 = (0, oIfEq 163 159) := rfl
theorem aX12_valueOf_159 : at_ kX12_valueOf 159 = (0, oPush (vI 1) 160) := rfl
theorem aX12_valueOf_160 : at_ kX12_valueOf 160 = (0, oGoto 164) := rfl
theorem aX12_valueOf_163 : at_ kX12_valueOf 163 = (0, oPush (vI 0) 164) := rfl
theorem aX12_valueOf_164 : at_ kX12_valueOf 164 = (0, oRetI) := rfl
theorem aX12_valueOf_165 : at_ kX12_valueOf 165 = (0, oRload 0 166) := rfl
theorem aX12_valueOf_166 : at_ kX12_valueOf 166 = (0, oGetf 14 25 2 169) := rfl
theorem aX12_valueOf_169 : at_ kX12_valueOf 169 = (0, oIload 2 170) := rfl
theorem aX12_valueOf_170 : at_ kX12_valueOf 170 = (0, oIald 171) := rfl
theorem aX12_valueOf_171 : at_ kX12_valueOf 171 = (0, oRload 0 172) := rfl
theorem aX12_valueOf_172 : at_ kX12_valueOf 172 = (0, oGetf 14 26 2 175) := rfl
theorem aX12_valueOf_175 : at_ kX12_valueOf 175 = (0, oIload 2 176) := rfl
theorem aX12_valueOf_176 : at_ kX12_valueOf 176 = (0, oIald 177) := rfl
theorem aX12_valueOf_177 : at_ kX12_valueOf 177 = (0, oIadd 178) := rfl
theorem aX12_valueOf_178 : at_ kX12_valueOf 178 = (0, oIstore 6 180) := rfl
theorem aX12_valueOf_180 : at_ kX12_valueOf 180 = (0, oIload 6 182) := rfl
theorem aX12_valueOf_182 : at_ kX12_valueOf 182 = (0, oIfNe 189 185) := rfl
theorem aX12_valueOf_185 : at_ kX12_valueOf 185 = (0, oPush (vI 0) 186) := rfl
theorem aX12_valueOf_186 : at_ kX12_valueOf 186 = (0, oGoto 201) := rfl
theorem aX12_valueOf_189 : at_ kX12_valueOf 189 = (0, oPush (vI 100) 191) := rfl
theorem aX12_valueOf_191 : at_ kX12_valueOf 191 = (0, oRload 0 192) := rfl
theorem aX12_valueOf_192 : at_ kX12_valueOf 192 = (0, oGetf 14 25 2 195) := rfl
theorem aX12_valueOf_195 : at_ kX12_valueOf 195 = (0, oIload 2 196) := rfl
theorem aX12_valueOf_196 : at_ kX12_valueOf 196 = (0, oIald 197) := rfl
theorem aX12_valueOf_197 : at_ kX12_valueOf 197 = (0, oImul 198) := rfl
theorem aX12_valueOf_198 : at_ kX12_valueOf 198 = (0, oIload 6 200) := rfl
theorem aX12_valueOf_200 : at_ kX12_valueOf 200 = (0, oIdiv 201) := rfl
theorem aX12_valueOf_201 : at_ kX12_valueOf 201 = (0, oRetI) := rfl
theorem aX12_valueOf_202 : at_ kX12_valueOf 202 = (0, oRload 0 203) := rfl
theorem aX12_valueOf_203 : at_ kX12_valueOf 203 = (0, oIload 2 204) := rfl
theorem aX12_valueOf_204 : at_ kX12_valueOf 204 = (0, oIload 3 205) := rfl
theorem aX12_valueOf_205 : at_ kX12_valueOf 205 = (0, oIload 4 207) := rfl
theorem aX12_valueOf_207 : at_ kX12_valueOf 207 = (0, oIload 5 209) := rfl
theorem aX12_valueOf_209 : at_ kX12_valueOf 209 = (2, oInvV 14 mX12_isTakenBack 4 212) := rfl
theorem aX12_valueOf_212 : at_ kX12_valueOf 212 = (0, oIfEq 219 215) := rfl
theorem aX12_valueOf_215 : at_ kX12_valueOf 215 = (0, oPush (vI 1) 216) := rfl
theorem aX12_valueOf_216 : at_ kX12_valueOf 216 = (0, oGoto 220) := rfl
theorem aX12_valueOf_219 : at_ kX12_valueOf 219 = (0, oPush (vI 0) 220) := rfl
theorem aX12_valueOf_220 : at_ kX12_valueOf 220 = (0, oRetI) := rfl
theorem aX12_valueOf_221 : at_ kX12_valueOf 221 = (0, oRload 0 222) := rfl
theorem aX12_valueOf_222 : at_ kX12_valueOf 222 = (0, oIload 2 223) := rfl
theorem aX12_valueOf_223 : at_ kX12_valueOf 223 = (0, oIload 3 224) := rfl
theorem aX12_valueOf_224 : at_ kX12_valueOf 224 = (0, oIload 4 226) := rfl
theorem aX12_valueOf_226 : at_ kX12_valueOf 226 = (0, oIload 5 228) := rfl
theorem aX12_valueOf_228 : at_ kX12_valueOf 228 = (2, oInvV 14 mX12_isAgain 4 231) := rfl
theorem aX12_valueOf_231 : at_ kX12_valueOf 231 = (0, oIfEq 238 234) := rfl
theorem aX12_valueOf_234 : at_ kX12_valueOf 234 = (0, oPush (vI 1) 235) := rfl
theorem aX12_valueOf_235 : at_ kX12_valueOf 235 = (0, oGoto 239) := rfl
theorem aX12_valueOf_238 : at_ kX12_valueOf 238 = (0, oPush (vI 0) 239) := rfl
theorem aX12_valueOf_239 : at_ kX12_valueOf 239 = (0, oRetI) := rfl
theorem aX12_valueOf_240 : at_ kX12_valueOf 240 = (0, oRload 0 241) := rfl
theorem aX12_valueOf_241 : at_ kX12_valueOf 241 = (0, oGetf 14 24 2 244) := rfl
theorem aX12_valueOf_244 : at_ kX12_valueOf 244 = (0, oIload 2 245) := rfl
theorem aX12_valueOf_245 : at_ kX12_valueOf 245 = (0, oIald 246) := rfl
theorem aX12_valueOf_246 : at_ kX12_valueOf 246 = (0, oRetI) := rfl
theorem aX12_valueOf_247 : at_ kX12_valueOf 247 = (0, oIload 4 249) := rfl
theorem aX12_valueOf_249 : at_ kX12_valueOf 249 = (0, oPush (vI 360) 252) := rfl
theorem aX12_valueOf_252 : at_ kX12_valueOf 252 = (0, oIdiv 253) := rfl
theorem aX12_valueOf_253 : at_ kX12_valueOf 253 = (0, oRetI) := rfl
def kX12_holds__0 : List En := [(0, oPush (vI 0) 1), (0, oIstore 6 3), (1, oFail), (0, oPush (vI 0) 4), (0, oIstore 7 6), (1, oFail), (1, oIload 7 8), (1, oFail), (0, oRload 0 9), (0, oGetf 14 48 2 12), (1, oFail), (1, oFail), (0, oIload 1 13), (0, oIald 14), (0, oIcGe 285 17), (1, oFail)]
set_option maxRecDepth 20000 in
theorem zX12_holds__0 : SndL mX12_holds_ 0 kX12_holds__0 := SndL.c (s_iconst (by decide +kernel) (in32_d (by decide))) (SndL.c (s_istore (by decide +kernel) (by decide)) (SndL.c (s_fail) (SndL.c (s_iconst (by decide +kernel) (in32_d (by decide))) (SndL.c (s_istore (by decide +kernel) (by decide)) (SndL.c (s_fail) (SndL.c (s_iload (by decide +kernel)) (SndL.c (s_fail) (SndL.c (s_aload_n (k := 0) (by decide +kernel) rfl) (SndL.c (s_getf (k := 48) clok13 (by decide) rfl (by decide) rfl w_5_150 (Or.inl rfl) (by decide +kernel)) (SndL.c (s_fail) (SndL.c (s_fail) (SndL.c (s_iload_n (k := 1) (by decide +kernel) rfl) (SndL.c (s_iald (by decide +kernel)) (SndL.c (s_ic_ge (off := 271) (by decide +kernel) (by decide)) (SndL.c (s_fail) (SndL.n))))))))))))))))
def kX12_holds__1 : List En := [(1, oFail), (0, oRload 0 18), (0, oGetf 14 49 2 21), (1, oFail), (1, oFail), (0, oPush (vI 100) 23), (1, oFail), (0, oIload 1 24), (0, oImul 25), (0, oIload 7 27), (1, oFail), (0, oIadd 28), (0, oIald 29), (0, oIstore 8 31), (1, oFail), (0, oIload 8 33)]
set_option maxRecDepth 20000 in
theorem zX12_holds__1 : SndL mX12_holds_ 16 kX12_holds__1 := SndL.c (s_fail) (SndL.c (s_aload_n (k := 0) (by decide +kernel) rfl) (SndL.c (s_getf (k := 49) clok13 (by decide) rfl (by decide) rfl w_5_151 (Or.inl rfl) (by decide +kernel)) (SndL.c (s_fail) (SndL.c (s_fail) (SndL.c (s_bipush (by decide +kernel) (in32_d (by decide)) (by decide +kernel)) (SndL.c (s_fail) (SndL.c (s_iload_n (k := 1) (by decide +kernel) rfl) (SndL.c (s_imul (by decide +kernel)) (SndL.c (s_iload (by decide +kernel)) (SndL.c (s_fail) (SndL.c (s_iadd (by decide +kernel)) (SndL.c (s_iald (by decide +kernel)) (SndL.c (s_istore (by decide +kernel) (by decide)) (SndL.c (s_fail) (SndL.c (s_iload (by decide +kernel)) (SndL.n))))))))))))))))
def kX12_holds__2 : List En := [(1, oFail), (0, oIfLt 194 36), (1, oFail), (1, oFail), (0, oPush (vI 40) 38), (1, oFail), (0, oIload 1 39), (0, oImul 40), (0, oIload 8 42), (1, oFail), (0, oIadd 43), (0, oIstore 9 45), (1, oFail), (0, oRload 0 46), (0, oGetf 14 50 2 49), (1, oFail)]
set_option maxRecDepth 20000 in
theorem zX12_holds__2 : SndL mX12_holds_ 32 kX12_holds__2 := SndL.c (s_fail) (SndL.c (s_if_lt (off := 161) (by decide +kernel) (by decide)) (SndL.c (s_fail) (SndL.c (s_fail) (SndL.c (s_bipush (by decide +kernel) (in32_d (by decide)) (by decide +kernel)) (SndL.c (s_fail) (SndL.c (s_iload_n (k := 1) (by decide +kernel) rfl) (SndL.c (s_imul (by decide +kernel)) (SndL.c (s_iload (by decide +kernel)) (SndL.c (s_fail) (SndL.c (s_iadd (by decide +kernel)) (SndL.c (s_istore (by decide +kernel) (by decide)) (SndL.c (s_fail) (SndL.c (s_aload_n (k := 0) (by decide +kernel) rfl) (SndL.c (s_getf (k := 50) clok13 (by decide) rfl (by decide) rfl w_5_152 (Or.inl rfl) (by decide +kernel)) (SndL.c (s_fail) (SndL.n))))))))))))))))
def kX12_holds__3 : List En := [(1, oFail), (0, oIload 9 51), (1, oFail), (0, oIald 52), (0, oPush (vI (-1)) 53), (0, oIcNe 66 56), (1, oFail), (1, oFail), (0, oRload 0 57), (0, oGetf 14 51 2 60), (1, oFail), (1, oFail), (0, oIload 9 62), (1, oFail), (0, oIald 63), (0, oGoto 83)]
set_option maxRecDepth 20000 in
theorem zX12_holds__3 : SndL mX12_holds_ 48 kX12_holds__3 := SndL.c (s_fail) (SndL.c (s_iload (by decide +kernel)) (SndL.c (s_fail) (SndL.c (s_iald (by decide +kernel)) (SndL.c (s_iconst (by decide +kernel) (in32_d (by decide))) (SndL.c (s_ic_ne (off := 13) (by decide +kernel) (by decide)) (SndL.c (s_fail) (SndL.c (s_fail) (SndL.c (s_aload_n (k := 0) (by decide +kernel) rfl) (SndL.c (s_getf (k := 51) clok13 (by decide) rfl (by decide) rfl w_5_153 (Or.inl rfl) (by decide +kernel)) (SndL.c (s_fail) (SndL.c (s_fail) (SndL.c (s_iload (by decide +kernel)) (SndL.c (s_fail) (SndL.c (s_iald (by decide +kernel)) (SndL.c (s_goto (off := 20) (by decide +kernel) (by decide)) (SndL.n))))))))))))))))
def kX12_holds__4 : List En := [(1, oFail), (1, oFail), (0, oRload 0 67), (0, oRload 0 68), (0, oGetf 14 50 2 71), (1, oFail), (1, oFail), (0, oIload 9 73), (1, oFail), (0, oIald 74), (0, oIload 2 75), (0, oIload 3 76), (0, oIload 4 78), (1, oFail), (0, oIload 5 80), (1, oFail)]
set_option maxRecDepth 20000 in
theorem zX12_holds__4 : SndL mX12_holds_ 64 kX12_holds__4 := SndL.c (s_fail) (SndL.c (s_fail) (SndL.c (s_aload_n (k := 0) (by decide +kernel) rfl) (SndL.c (s_aload_n (k := 0) (by decide +kernel) rfl) (SndL.c (s_getf (k := 50) clok13 (by decide) rfl (by decide) rfl w_5_152 (Or.inl rfl) (by decide +kernel)) (SndL.c (s_fail) (SndL.c (s_fail) (SndL.c (s_iload (by decide +kernel)) (SndL.c (s_fail) (SndL.c (s_iald (by decide +kernel)) (SndL.c (s_iload_n (k := 2) (by decide +kernel) rfl) (SndL.c (s_iload_n (k := 3) (by decide +kernel) rfl) (SndL.c (s_iload (by decide +kernel)) (SndL.c (s_fail) (SndL.c (s_iload (by decide +kernel)) (SndL.c (s_fail) (SndL.n))))))))))))))))
def kX12_holds__5 : List En := [(2, oInvV 14 mX12_valueOf 5 83), (1, oFail), (1, oFail), (0, oIstore 10 85), (1, oFail), (0, oRload 0 86), (0, oGetf 14 53 2 89), (1, oFail), (1, oFail), (0, oIload 9 91), (1, oFail), (0, oIald 92), (0, oPush (vI (-1)) 93), (0, oIcNe 106 96), (1, oFail), (1, oFail)]
set_option maxRecDepth 20000 in
theorem zX12_holds__5 : SndL mX12_holds_ 80 kX12_holds__5 := SndL.c (s_invV (r := (RX12, TX12, 90)) (ci := 13) okX12_valueOf rfl (by decide) rfl rfl w_7_104 w_7_106 v_55 (by decide +kernel)) (SndL.c (s_fail) (SndL.c (s_fail) (SndL.c (s_istore (by decide +kernel) (by decide)) (SndL.c (s_fail) (SndL.c (s_aload_n (k := 0) (by decide +kernel) rfl) (SndL.c (s_getf (k := 53) clok13 (by decide) rfl (by decide) rfl w_5_155 (Or.inl rfl) (by decide +kernel)) (SndL.c (s_fail) (SndL.c (s_fail) (SndL.c (s_iload (by decide +kernel)) (SndL.c (s_fail) (SndL.c (s_iald (by decide +kernel)) (SndL.c (s_iconst (by decide +kernel) (in32_d (by decide))) (SndL.c (s_ic_ne (off := 13) (by decide +kernel) (by decide)) (SndL.c (s_fail) (SndL.c (s_fail) (SndL.n))))))))))))))))
def kX12_holds__6 : List En := [(0, oRload 0 97), (0, oGetf 14 54 2 100), (1, oFail), (1, oFail), (0, oIload 9 102), (1, oFail), (0, oIald 103), (0, oGoto 123), (1, oFail), (1, oFail), (0, oRload 0 107), (0, oRload 0 108), (0, oGetf 14 53 2 111), (1, oFail), (1, oFail), (0, oIload 9 113)]
set_option maxRecDepth 20000 in
theorem zX12_holds__6 : SndL mX12_holds_ 96 kX12_holds__6 := SndL.c (s_aload_n (k := 0) (by decide +kernel) rfl) (SndL.c (s_getf (k := 54) clok13 (by decide) rfl (by decide) rfl w_5_156 (Or.inl rfl) (by decide +kernel)) (SndL.c (s_fail) (SndL.c (s_fail) (SndL.c (s_iload (by decide +kernel)) (SndL.c (s_fail) (SndL.c (s_iald (by decide +kernel)) (SndL.c (s_goto (off := 20) (by decide +kernel) (by decide)) (SndL.c (s_fail) (SndL.c (s_fail) (SndL.c (s_aload_n (k := 0) (by decide +kernel) rfl) (SndL.c (s_aload_n (k := 0) (by decide +kernel) rfl) (SndL.c (s_getf (k := 53) clok13 (by decide) rfl (by decide) rfl w_5_155 (Or.inl rfl) (by decide +kernel)) (SndL.c (s_fail) (SndL.c (s_fail) (SndL.c (s_iload (by decide +kernel)) (SndL.n))))))))))))))))
def kX12_holds__7 : List En := [(1, oFail), (0, oIald 114), (0, oIload 2 115), (0, oIload 3 116), (0, oIload 4 118), (1, oFail), (0, oIload 5 120), (1, oFail), (2, oInvV 14 mX12_valueOf 5 123), (1, oFail), (1, oFail), (0, oIstore 11 125), (1, oFail), (0, oRload 0 126), (0, oGetf 14 79 2 129), (1, oFail)]
set_option maxRecDepth 20000 in
theorem zX12_holds__7 : SndL mX12_holds_ 112 kX12_holds__7 := SndL.c (s_fail) (SndL.c (s_iald (by decide +kernel)) (SndL.c (s_iload_n (k := 2) (by decide +kernel) rfl) (SndL.c (s_iload_n (k := 3) (by decide +kernel) rfl) (SndL.c (s_iload (by decide +kernel)) (SndL.c (s_fail) (SndL.c (s_iload (by decide +kernel)) (SndL.c (s_fail) (SndL.c (s_invV (r := (RX12, TX12, 90)) (ci := 13) okX12_valueOf rfl (by decide) rfl rfl w_7_104 w_7_106 v_55 (by decide +kernel)) (SndL.c (s_fail) (SndL.c (s_fail) (SndL.c (s_istore (by decide +kernel) (by decide)) (SndL.c (s_fail) (SndL.c (s_aload_n (k := 0) (by decide +kernel) rfl) (SndL.c (s_getf (k := 79) clok13 (by decide) rfl (by decide) rfl w_5_181 (Or.inl rfl) (by decide +kernel)) (SndL.c (s_fail) (SndL.n))))))))))))))))
def kX12_holds__8 : List En := [(1, oFail), (0, oIload 6 131), (1, oFail), (0, oIinc 6 1 134), (1, oFail), (1, oFail), (0, oRload 0 135), (0, oGetf 14 52 2 138), (1, oFail), (1, oFail), (0, oIload 9 140), (1, oFail), (0, oIald 141), (0, oPush (vI 60) 143), (1, oFail), (0, oIcNe 156 146)]
set_option maxRecDepth 20000 in
theorem zX12_holds__8 : SndL mX12_holds_ 128 kX12_holds__8 := SndL.c (s_fail) (SndL.c (s_iload (by decide +kernel)) (SndL.c (s_fail) (SndL.c (s_iinc (by decide +kernel) (by decide)) (SndL.c (s_fail) (SndL.c (s_fail) (SndL.c (s_aload_n (k := 0) (by decide +kernel) rfl) (SndL.c (s_getf (k := 52) clok13 (by decide) rfl (by decide) rfl w_5_154 (Or.inl rfl) (by decide +kernel)) (SndL.c (s_fail) (SndL.c (s_fail) (SndL.c (s_iload (by decide +kernel)) (SndL.c (s_fail) (SndL.c (s_iald (by decide +kernel)) (SndL.c (s_bipush (by decide +kernel) (in32_d (by decide)) (by decide +kernel)) (SndL.c (s_fail) (SndL.c (s_ic_ne (off := 13) (by decide +kernel) (by decide)) (SndL.n))))))))))))))))
def kX12_holds__9 : List En := [(1, oFail), (1, oFail), (0, oIload 10 148), (1, oFail), (0, oIload 11 150), (1, oFail), (0, oIcGe 189 153), (1, oFail), (1, oFail), (0, oGoto 185), (1, oFail), (1, oFail), (0, oRload 0 157), (0, oGetf 14 52 2 160), (1, oFail), (1, oFail)]
set_option maxRecDepth 20000 in
theorem zX12_holds__9 : SndL mX12_holds_ 144 kX12_holds__9 := SndL.c (s_fail) (SndL.c (s_fail) (SndL.c (s_iload (by decide +kernel)) (SndL.c (s_fail) (SndL.c (s_iload (by decide +kernel)) (SndL.c (s_fail) (SndL.c (s_ic_ge (off := 39) (by decide +kernel) (by decide)) (SndL.c (s_fail) (SndL.c (s_fail) (SndL.c (s_goto (off := 32) (by decide +kernel) (by decide)) (SndL.c (s_fail) (SndL.c (s_fail) (SndL.c (s_aload_n (k := 0) (by decide +kernel) rfl) (SndL.c (s_getf (k := 52) clok13 (by decide) rfl (by decide) rfl w_5_154 (Or.inl rfl) (by decide +kernel)) (SndL.c (s_fail) (SndL.c (s_fail) (SndL.n))))))))))))))))
def kX12_holds__10 : List En := [(0, oIload 9 162), (1, oFail), (0, oIald 163), (0, oPush (vI 62) 165), (1, oFail), (0, oIcNe 178 168), (1, oFail), (1, oFail), (0, oIload 10 170), (1, oFail), (0, oIload 11 172), (1, oFail), (0, oIcLe 189 175), (1, oFail), (1, oFail), (0, oGoto 185)]
set_option maxRecDepth 20000 in
theorem zX12_holds__10 : SndL mX12_holds_ 160 kX12_holds__10 := SndL.c (s_iload (by decide +kernel)) (SndL.c (s_fail) (SndL.c (s_iald (by decide +kernel)) (SndL.c (s_bipush (by decide +kernel) (in32_d (by decide)) (by decide +kernel)) (SndL.c (s_fail) (SndL.c (s_ic_ne (off := 13) (by decide +kernel) (by decide)) (SndL.c (s_fail) (SndL.c (s_fail) (SndL.c (s_iload (by decide +kernel)) (SndL.c (s_fail) (SndL.c (s_iload (by decide +kernel)) (SndL.c (s_fail) (SndL.c (s_ic_le (off := 17) (by decide +kernel) (by decide)) (SndL.c (s_fail) (SndL.c (s_fail) (SndL.c (s_goto (off := 10) (by decide +kernel) (by decide)) (SndL.n))))))))))))))))
def kX12_holds__11 : List En := [(1, oFail), (1, oFail), (0, oIload 10 180), (1, oFail), (0, oIload 11 182), (1, oFail), (0, oIcNe 189 185), (1, oFail), (1, oFail), (0, oPush (vI 1) 186), (0, oGoto 190), (1, oFail), (1, oFail), (0, oPush (vI 0) 190), (0, oIast 191), (0, oGoto 279)]
set_option maxRecDepth 20000 in
theorem zX12_holds__11 : SndL mX12_holds_ 176 kX12_holds__11 := SndL.c (s_fail) (SndL.c (s_fail) (SndL.c (s_iload (by decide +kernel)) (SndL.c (s_fail) (SndL.c (s_iload (by decide +kernel)) (SndL.c (s_fail) (SndL.c (s_ic_ne (off := 7) (by decide +kernel) (by decide)) (SndL.c (s_fail) (SndL.c (s_fail) (SndL.c (s_iconst (by decide +kernel) (in32_d (by decide))) (SndL.c (s_goto (off := 4) (by decide +kernel) (by decide)) (SndL.c (s_fail) (SndL.c (s_fail) (SndL.c (s_iconst (by decide +kernel) (in32_d (by decide))) (SndL.c (s_iast (by decide +kernel)) (SndL.c (s_goto (off := 88) (by decide +kernel) (by decide)) (SndL.n))))))))))))))))
def kX12_holds__12 : List En := [(1, oFail), (1, oFail), (0, oIload 8 196), (1, oFail), (0, oPush (vI (-1)) 197), (0, oIcNe 223 200), (1, oFail), (1, oFail), (0, oRload 0 201), (0, oGetf 14 79 2 204), (1, oFail), (1, oFail), (0, oIload 6 206), (1, oFail), (0, oPush (vI 1) 207), (0, oIsub 208)]
set_option maxRecDepth 20000 in
theorem zX12_holds__12 : SndL mX12_holds_ 192 kX12_holds__12 := SndL.c (s_fail) (SndL.c (s_fail) (SndL.c (s_iload (by decide +kernel)) (SndL.c (s_fail) (SndL.c (s_iconst (by decide +kernel) (in32_d (by decide))) (SndL.c (s_ic_ne (off := 26) (by decide +kernel) (by decide)) (SndL.c (s_fail) (SndL.c (s_fail) (SndL.c (s_aload_n (k := 0) (by decide +kernel) rfl) (SndL.c (s_getf (k := 79) clok13 (by decide) rfl (by decide) rfl w_5_181 (Or.inl rfl) (by decide +kernel)) (SndL.c (s_fail) (SndL.c (s_fail) (SndL.c (s_iload (by decide +kernel)) (SndL.c (s_fail) (SndL.c (s_iconst (by decide +kernel) (in32_d (by decide))) (SndL.c (s_isub (by decide +kernel)) (SndL.n))))))))))))))))
def kX12_holds__13 : List En := [(0, oPush (vI 1) 209), (0, oRload 0 210), (0, oGetf 14 79 2 213), (1, oFail), (1, oFail), (0, oIload 6 215), (1, oFail), (0, oPush (vI 1) 216), (0, oIsub 217), (0, oIald 218), (0, oIsub 219), (0, oIast 220), (0, oGoto 279), (1, oFail), (1, oFail), (0, oIinc 6 (-1) 226)]
set_option maxRecDepth 20000 in
theorem zX12_holds__13 : SndL mX12_holds_ 208 kX12_holds__13 := SndL.c (s_iconst (by decide +kernel) (in32_d (by decide))) (SndL.c (s_aload_n (k := 0) (by decide +kernel) rfl) (SndL.c (s_getf (k := 79) clok13 (by decide) rfl (by decide) rfl w_5_181 (Or.inl rfl) (by decide +kernel)) (SndL.c (s_fail) (SndL.c (s_fail) (SndL.c (s_iload (by decide +kernel)) (SndL.c (s_fail) (SndL.c (s_iconst (by decide +kernel) (in32_d (by decide))) (SndL.c (s_isub (by decide +kernel)) (SndL.c (s_iald (by decide +kernel)) (SndL.c (s_isub (by decide +kernel)) (SndL.c (s_iast (by decide +kernel)) (SndL.c (s_goto (off := 59) (by decide +kernel) (by decide)) (SndL.c (s_fail) (SndL.c (s_fail) (SndL.c (s_iinc (by decide +kernel) (by decide)) (SndL.n))))))))))))))))
def kX12_holds__14 : List En := [(1, oFail), (1, oFail), (0, oRload 0 227), (0, oGetf 14 79 2 230), (1, oFail), (1, oFail), (0, oIload 6 232), (1, oFail), (0, oPush (vI 1) 233), (0, oIsub 234), (0, oIload 8 236), (1, oFail), (0, oPush (vI (-2)) 238), (1, oFail), (0, oIcNe 261 241), (1, oFail)]
set_option maxRecDepth 20000 in
theorem zX12_holds__14 : SndL mX12_holds_ 224 kX12_holds__14 := SndL.c (s_fail) (SndL.c (s_fail) (SndL.c (s_aload_n (k := 0) (by decide +kernel) rfl) (SndL.c (s_getf (k := 79) clok13 (by decide) rfl (by decide) rfl w_5_181 (Or.inl rfl) (by decide +kernel)) (SndL.c (s_fail) (SndL.c (s_fail) (SndL.c (s_iload (by decide +kernel)) (SndL.c (s_fail) (SndL.c (s_iconst (by decide +kernel) (in32_d (by decide))) (SndL.c (s_isub (by decide +kernel)) (SndL.c (s_iload (by decide +kernel)) (SndL.c (s_fail) (SndL.c (s_bipush (by decide +kernel) (in32_d (by decide)) (by decide +kernel)) (SndL.c (s_fail) (SndL.c (s_ic_ne (off := 23) (by decide +kernel) (by decide)) (SndL.c (s_fail) (SndL.n))))))))))))))))
def kX12_holds__15 : List En := [(1, oFail), (0, oRload 0 242), (0, oGetf 14 79 2 245), (1, oFail), (1, oFail), (0, oIload 6 247), (1, oFail), (0, oPush (vI 1) 248), (0, oIsub 249), (0, oIald 250), (0, oRload 0 251), (0, oGetf 14 79 2 254), (1, oFail), (1, oFail), (0, oIload 6 256), (1, oFail)]
set_option maxRecDepth 20000 in
theorem zX12_holds__15 : SndL mX12_holds_ 240 kX12_holds__15 := SndL.c (s_fail) (SndL.c (s_aload_n (k := 0) (by decide +kernel) rfl) (SndL.c (s_getf (k := 79) clok13 (by decide) rfl (by decide) rfl w_5_181 (Or.inl rfl) (by decide +kernel)) (SndL.c (s_fail) (SndL.c (s_fail) (SndL.c (s_iload (by decide +kernel)) (SndL.c (s_fail) (SndL.c (s_iconst (by decide +kernel) (in32_d (by decide))) (SndL.c (s_isub (by decide +kernel)) (SndL.c (s_iald (by decide +kernel)) (SndL.c (s_aload_n (k := 0) (by decide +kernel) rfl) (SndL.c (s_getf (k := 79) clok13 (by decide) rfl (by decide) rfl w_5_181 (Or.inl rfl) (by decide +kernel)) (SndL.c (s_fail) (SndL.c (s_fail) (SndL.c (s_iload (by decide +kernel)) (SndL.c (s_fail) (SndL.n))))))))))))))))
def kX12_holds__16 : List En := [(0, oIald 257), (0, oIand 258), (0, oGoto 278), (1, oFail), (1, oFail), (0, oRload 0 262), (0, oGetf 14 79 2 265), (1, oFail), (1, oFail), (0, oIload 6 267), (1, oFail), (0, oPush (vI 1) 268), (0, oIsub 269), (0, oIald 270), (0, oRload 0 271), (0, oGetf 14 79 2 274)]
set_option maxRecDepth 20000 in
theorem zX12_holds__16 : SndL mX12_holds_ 256 kX12_holds__16 := SndL.c (s_iald (by decide +kernel)) (SndL.c (s_iand (by decide +kernel)) (SndL.c (s_goto (off := 20) (by decide +kernel) (by decide)) (SndL.c (s_fail) (SndL.c (s_fail) (SndL.c (s_aload_n (k := 0) (by decide +kernel) rfl) (SndL.c (s_getf (k := 79) clok13 (by decide) rfl (by decide) rfl w_5_181 (Or.inl rfl) (by decide +kernel)) (SndL.c (s_fail) (SndL.c (s_fail) (SndL.c (s_iload (by decide +kernel)) (SndL.c (s_fail) (SndL.c (s_iconst (by decide +kernel) (in32_d (by decide))) (SndL.c (s_isub (by decide +kernel)) (SndL.c (s_iald (by decide +kernel)) (SndL.c (s_aload_n (k := 0) (by decide +kernel) rfl) (SndL.c (s_getf (k := 79) clok13 (by decide) rfl (by decide) rfl w_5_181 (Or.inl rfl) (by decide +kernel)) (SndL.n))))))))))))))))
def kX12_holds__17 : List En := [(1, oFail), (1, oFail), (0, oIload 6 276), (1, oFail), (0, oIald 277), (0, oIor 278), (0, oIast 279), (0, oIinc 7 1 282), (1, oFail), (1, oFail), (0, oGoto 6), (1, oFail), (1, oFail), (0, oRload 0 286), (0, oGetf 14 79 2 289), (1, oFail)]
set_option maxRecDepth 20000 in
theorem zX12_holds__17 : SndL mX12_holds_ 272 kX12_holds__17 := SndL.c (s_fail) (SndL.c (s_fail) (SndL.c (s_iload (by decide +kernel)) (SndL.c (s_fail) (SndL.c (s_iald (by decide +kernel)) (SndL.c (s_ior (by decide +kernel)) (SndL.c (s_iast (by decide +kernel)) (SndL.c (s_iinc (by decide +kernel) (by decide)) (SndL.c (s_fail) (SndL.c (s_fail) (SndL.c (s_goto (off := -276) (by decide +kernel) (by decide)) (SndL.c (s_fail) (SndL.c (s_fail) (SndL.c (s_aload_n (k := 0) (by decide +kernel) rfl) (SndL.c (s_getf (k := 79) clok13 (by decide) rfl (by decide) rfl w_5_181 (Or.inl rfl) (by decide +kernel)) (SndL.c (s_fail) (SndL.n))))))))))))))))
def kX12_holds__18 : List En := [(1, oFail), (0, oPush (vI 0) 290), (0, oIald 291), (0, oPush (vI 1) 292), (0, oIcNe 299 295), (1, oFail), (1, oFail), (0, oPush (vI 1) 296), (0, oGoto 300), (1, oFail), (1, oFail), (0, oPush (vI 0) 300), (0, oRetZ)]
set_option maxRecDepth 20000 in
theorem zX12_holds__18 : SndL mX12_holds_ 288 kX12_holds__18 := SndL.c (s_fail) (SndL.c (s_iconst (by decide +kernel) (in32_d (by decide))) (SndL.c (s_iald (by decide +kernel)) (SndL.c (s_iconst (by decide +kernel) (in32_d (by decide))) (SndL.c (s_ic_ne (off := 7) (by decide +kernel) (by decide)) (SndL.c (s_fail) (SndL.c (s_fail) (SndL.c (s_iconst (by decide +kernel) (in32_d (by decide))) (SndL.c (s_goto (off := 4) (by decide +kernel) (by decide)) (SndL.c (s_fail) (SndL.c (s_fail) (SndL.c (s_iconst (by decide +kernel) (in32_d (by decide))) (SndL.c (s_ret_z rfl (by decide +kernel)) (SndL.n)))))))))))))
def kX12_holds_ : Cd := [kX12_holds__0, kX12_holds__1, kX12_holds__2, kX12_holds__3, kX12_holds__4, kX12_holds__5, kX12_holds__6, kX12_holds__7, kX12_holds__8, kX12_holds__9, kX12_holds__10, kX12_holds__11, kX12_holds__12, kX12_holds__13, kX12_holds__14, kX12_holds__15, kX12_holds__16, kX12_holds__17, kX12_holds__18]
theorem zX12_holds_ : SndC mX12_holds_ 0 kX12_holds_ := SndC.c zX12_holds__0 (by decide) (SndC.c zX12_holds__1 (by decide) (SndC.c zX12_holds__2 (by decide) (SndC.c zX12_holds__3 (by decide) (SndC.c zX12_holds__4 (by decide) (SndC.c zX12_holds__5 (by decide) (SndC.c zX12_holds__6 (by decide) (SndC.c zX12_holds__7 (by decide) (SndC.c zX12_holds__8 (by decide) (SndC.c zX12_holds__9 (by decide) (SndC.c zX12_holds__10 (by decide) (SndC.c zX12_holds__11 (by decide) (SndC.c zX12_holds__12 (by decide) (SndC.c zX12_holds__13 (by decide) (SndC.c zX12_holds__14 (by decide) (SndC.c zX12_holds__15 (by decide) (SndC.c zX12_holds__16 (by decide) (SndC.c zX12_holds__17 (by decide) (SndC.c zX12_holds__18 (by decide) (SndC.n)))))))))))))))))))
theorem aX12_holds__0 : at_ kX12_holds_ 0 = (0, oPush (vI 0) 1) := rfl
theorem aX12_holds__1 : at_ kX12_holds_ 1 = (0, oIstore 6 3) := rfl
theorem aX12_holds__3 : at_ kX12_holds_ 3 = (0, oPush (vI 0) 4) := rfl
theorem aX12_holds__4 : at_ kX12_holds_ 4 = (0, oIstore 7 6) := rfl
theorem aX12_holds__6 : at_ kX12_holds_ 6 = (1, oIload 7 8) := rfl
theorem aX12_holds__8 : at_ kX12_holds_ 8 = (0, oRload 0 9) := rfl
theorem aX12_holds__9 : at_ kX12_holds_ 9 = (0, oGetf 14 48 2 12) := rfl
theorem aX12_holds__12 : at_ kX12_holds_ 12 = (0, oIload 1 13) := rfl
theorem aX12_holds__13 : at_ kX12_holds_ 13 = (0, oIald 14) := rfl
theorem aX12_holds__14 : at_ kX12_holds_ 14 = (0, oIcGe 285 17) := rfl
theorem aX12_holds__17 : at_ kX12_holds_ 17 = (0, oRload 0 18) := rfl
theorem aX12_holds__18 : at_ kX12_holds_ 18 = (0, oGetf 14 49 2 21) := rfl
theorem aX12_holds__21 : at_ kX12_holds_ 21 = (0, oPush (vI 100) 23) := rfl
theorem aX12_holds__23 : at_ kX12_holds_ 23 = (0, oIload 1 24) := rfl
theorem aX12_holds__24 : at_ kX12_holds_ 24 = (0, oImul 25) := rfl
theorem aX12_holds__25 : at_ kX12_holds_ 25 = (0, oIload 7 27) := rfl
theorem aX12_holds__27 : at_ kX12_holds_ 27 = (0, oIadd 28) := rfl
theorem aX12_holds__28 : at_ kX12_holds_ 28 = (0, oIald 29) := rfl
theorem aX12_holds__29 : at_ kX12_holds_ 29 = (0, oIstore 8 31) := rfl
theorem aX12_holds__31 : at_ kX12_holds_ 31 = (0, oIload 8 33) := rfl
theorem aX12_holds__33 : at_ kX12_holds_ 33 = (0, oIfLt 194 36) := rfl
theorem aX12_holds__36 : at_ kX12_holds_ 36 = (0, oPush (vI 40) 38) := rfl
theorem aX12_holds__38 : at_ kX12_holds_ 38 = (0, oIload 1 39) := rfl
theorem aX12_holds__39 : at_ kX12_holds_ 39 = (0, oImul 40) := rfl
theorem aX12_holds__40 : at_ kX12_holds_ 40 = (0, oIload 8 42) := rfl
theorem aX12_holds__42 : at_ kX12_holds_ 42 = (0, oIadd 43) := rfl
theorem aX12_holds__43 : at_ kX12_holds_ 43 = (0, oIstore 9 45) := rfl
theorem aX12_holds__45 : at_ kX12_holds_ 45 = (0, oRload 0 46) := rfl
theorem aX12_holds__46 : at_ kX12_holds_ 46 = (0, oGetf 14 50 2 49) := rfl
theorem aX12_holds__49 : at_ kX12_holds_ 49 = (0, oIload 9 51) := rfl
theorem aX12_holds__51 : at_ kX12_holds_ 51 = (0, oIald 52) := rfl
theorem aX12_holds__52 : at_ kX12_holds_ 52 = (0, oPush (vI (-1)) 53) := rfl
theorem aX12_holds__53 : at_ kX12_holds_ 53 = (0, oIcNe 66 56) := rfl
theorem aX12_holds__56 : at_ kX12_holds_ 56 = (0, oRload 0 57) := rfl
theorem aX12_holds__57 : at_ kX12_holds_ 57 = (0, oGetf 14 51 2 60) := rfl
theorem aX12_holds__60 : at_ kX12_holds_ 60 = (0, oIload 9 62) := rfl
theorem aX12_holds__62 : at_ kX12_holds_ 62 = (0, oIald 63) := rfl
theorem aX12_holds__63 : at_ kX12_holds_ 63 = (0, oGoto 83) := rfl
theorem aX12_holds__66 : at_ kX12_holds_ 66 = (0, oRload 0 67) := rfl
theorem aX12_holds__67 : at_ kX12_holds_ 67 = (0, oRload 0 68) := rfl
theorem aX12_holds__68 : at_ kX12_holds_ 68 = (0, oGetf 14 50 2 71) := rfl
theorem aX12_holds__71 : at_ kX12_holds_ 71 = (0, oIload 9 73) := rfl
theorem aX12_holds__73 : at_ kX12_holds_ 73 = (0, oIald 74) := rfl
theorem aX12_holds__74 : at_ kX12_holds_ 74 = (0, oIload 2 75) := rfl
theorem aX12_holds__75 : at_ kX12_holds_ 75 = (0, oIload 3 76) := rfl
theorem aX12_holds__76 : at_ kX12_holds_ 76 = (0, oIload 4 78) := rfl
theorem aX12_holds__78 : at_ kX12_holds_ 78 = (0, oIload 5 80) := rfl
theorem aX12_holds__80 : at_ kX12_holds_ 80 = (2, oInvV 14 mX12_valueOf 5 83) := rfl
theorem aX12_holds__83 : at_ kX12_holds_ 83 = (0, oIstore 10 85) := rfl
theorem aX12_holds__85 : at_ kX12_holds_ 85 = (0, oRload 0 86) := rfl
theorem aX12_holds__86 : at_ kX12_holds_ 86 = (0, oGetf 14 53 2 89) := rfl
theorem aX12_holds__89 : at_ kX12_holds_ 89 = (0, oIload 9 91) := rfl
theorem aX12_holds__91 : at_ kX12_holds_ 91 = (0, oIald 92) := rfl
theorem aX12_holds__92 : at_ kX12_holds_ 92 = (0, oPush (vI (-1)) 93) := rfl
theorem aX12_holds__93 : at_ kX12_holds_ 93 = (0, oIcNe 106 96) := rfl
theorem aX12_holds__96 : at_ kX12_holds_ 96 = (0, oRload 0 97) := rfl
theorem aX12_holds__97 : at_ kX12_holds_ 97 = (0, oGetf 14 54 2 100) := rfl
theorem aX12_holds__100 : at_ kX12_holds_ 100 = (0, oIload 9 102) := rfl
theorem aX12_holds__102 : at_ kX12_holds_ 102 = (0, oIald 103) := rfl
theorem aX12_holds__103 : at_ kX12_holds_ 103 = (0, oGoto 123) := rfl
theorem aX12_holds__106 : at_ kX12_holds_ 106 = (0, oRload 0 107) := rfl
theorem aX12_holds__107 : at_ kX12_holds_ 107 = (0, oRload 0 108) := rfl
theorem aX12_holds__108 : at_ kX12_holds_ 108 = (0, oGetf 14 53 2 111) := rfl
theorem aX12_holds__111 : at_ kX12_holds_ 111 = (0, oIload 9 113) := rfl
theorem aX12_holds__113 : at_ kX12_holds_ 113 = (0, oIald 114) := rfl
theorem aX12_holds__114 : at_ kX12_holds_ 114 = (0, oIload 2 115) := rfl
theorem aX12_holds__115 : at_ kX12_holds_ 115 = (0, oIload 3 116) := rfl
theorem aX12_holds__116 : at_ kX12_holds_ 116 = (0, oIload 4 118) := rfl
theorem aX12_holds__118 : at_ kX12_holds_ 118 = (0, oIload 5 120) := rfl
theorem aX12_holds__120 : at_ kX12_holds_ 120 = (2, oInvV 14 mX12_valueOf 5 123) := rfl
theorem aX12_holds__123 : at_ kX12_holds_ 123 = (0, oIstore 11 125) := rfl
theorem aX12_holds__125 : at_ kX12_holds_ 125 = (0, oRload 0 126) := rfl
theorem aX12_holds__126 : at_ kX12_holds_ 126 = (0, oGetf 14 79 2 129) := rfl
theorem aX12_holds__129 : at_ kX12_holds_ 129 = (0, oIload 6 131) := rfl
theorem aX12_holds__131 : at_ kX12_holds_ 131 = (0, oIinc 6 1 134) := rfl
theorem aX12_holds__134 : at_ kX12_holds_ 134 = (0, oRload 0 135) := rfl
theorem aX12_holds__135 : at_ kX12_holds_ 135 = (0, oGetf 14 52 2 138) := rfl
theorem aX12_holds__138 : at_ kX12_holds_ 138 = (0, oIload 9 140) := rfl
theorem aX12_holds__140 : at_ kX12_holds_ 140 = (0, oIald 141) := rfl
theorem aX12_holds__141 : at_ kX12_holds_ 141 = (0, oPush (vI 60) 143) := rfl
theorem aX12_holds__143 : at_ kX12_holds_ 143 = (0, oIcNe 156 146) := rfl
theorem aX12_holds__146 : at_ kX12_holds_ 146 = (0, oIload 10 148) := rfl
theorem aX12_holds__148 : at_ kX12_holds_ 148 = (0, oIload 11 150) := rfl
theorem aX12_holds__150 : at_ kX12_holds_ 150 = (0, oIcGe 189 153) := rfl
theorem aX12_holds__153 : at_ kX12_holds_ 153 = (0, oGoto 185) := rfl
theorem aX12_holds__156 : at_ kX12_holds_ 156 = (0, oRload 0 157) := rfl
theorem aX12_holds__157 : at_ kX12_holds_ 157 = (0, oGetf 14 52 2 160) := rfl
theorem aX12_holds__160 : at_ kX12_holds_ 160 = (0, oIload 9 162) := rfl
theorem aX12_holds__162 : at_ kX12_holds_ 162 = (0, oIald 163) := rfl
theorem aX12_holds__163 : at_ kX12_holds_ 163 = (0, oPush (vI 62) 165) := rfl
theorem aX12_holds__165 : at_ kX12_holds_ 165 = (0, oIcNe 178 168) := rfl
theorem aX12_holds__168 : at_ kX12_holds_ 168 = (0, oIload 10 170) := rfl
theorem aX12_holds__170 : at_ kX12_holds_ 170 = (0, oIload 11 172) := rfl
theorem aX12_holds__172 : at_ kX12_holds_ 172 = (0, oIcLe 189 175) := rfl
theorem aX12_holds__175 : at_ kX12_holds_ 175 = (0, oGoto 185) := rfl
theorem aX12_holds__178 : at_ kX12_holds_ 178 = (0, oIload 10 180) := rfl
theorem aX12_holds__180 : at_ kX12_holds_ 180 = (0, oIload 11 182) := rfl
theorem aX12_holds__182 : at_ kX12_holds_ 182 = (0, oIcNe 189 185) := rfl
theorem aX12_holds__185 : at_ kX12_holds_ 185 = (0, oPush (vI 1) 186) := rfl
theorem aX12_holds__186 : at_ kX12_holds_ 186 = (0, oGoto 190) := rfl
theorem aX12_holds__189 : at_ kX12_holds_ 189 = (0, oPush (vI 0) 190) := rfl
theorem aX12_holds__190 : at_ kX12_holds_ 190 = (0, oIast 191) := rfl
theorem aX12_holds__191 : at_ kX12_holds_ 191 = (0, oGoto 279) := rfl
theorem aX12_holds__194 : at_ kX12_holds_ 194 = (0, oIload 8 196) := rfl
theorem aX12_holds__196 : at_ kX12_holds_ 196 = (0, oPush (vI (-1)) 197) := rfl
theorem aX12_holds__197 : at_ kX12_holds_ 197 = (0, oIcNe 223 200) := rfl
theorem aX12_holds__200 : at_ kX12_holds_ 200 = (0, oRload 0 201) := rfl
theorem aX12_holds__201 : at_ kX12_holds_ 201 = (0, oGetf 14 79 2 204) := rfl
theorem aX12_holds__204 : at_ kX12_holds_ 204 = (0, oIload 6 206) := rfl
theorem aX12_holds__206 : at_ kX12_holds_ 206 = (0, oPush (vI 1) 207) := rfl
theorem aX12_holds__207 : at_ kX12_holds_ 207 = (0, oIsub 208) := rfl
theorem aX12_holds__208 : at_ kX12_holds_ 208 = (0, oPush (vI 1) 209) := rfl
theorem aX12_holds__209 : at_ kX12_holds_ 209 = (0, oRload 0 210) := rfl
theorem aX12_holds__210 : at_ kX12_holds_ 210 = (0, oGetf 14 79 2 213) := rfl
theorem aX12_holds__213 : at_ kX12_holds_ 213 = (0, oIload 6 215) := rfl
theorem aX12_holds__215 : at_ kX12_holds_ 215 = (0, oPush (vI 1) 216) := rfl
theorem aX12_holds__216 : at_ kX12_holds_ 216 = (0, oIsub 217) := rfl
theorem aX12_holds__217 : at_ kX12_holds_ 217 = (0, oIald 218) := rfl
theorem aX12_holds__218 : at_ kX12_holds_ 218 = (0, oIsub 219) := rfl
theorem aX12_holds__219 : at_ kX12_holds_ 219 = (0, oIast 220) := rfl
theorem aX12_holds__220 : at_ kX12_holds_ 220 = (0, oGoto 279) := rfl
theorem aX12_holds__223 : at_ kX12_holds_ 223 = (0, oIinc 6 (-1) 226) := rfl
theorem aX12_holds__226 : at_ kX12_holds_ 226 = (0, oRload 0 227) := rfl
theorem aX12_holds__227 : at_ kX12_holds_ 227 = (0, oGetf 14 79 2 230) := rfl
theorem aX12_holds__230 : at_ kX12_holds_ 230 = (0, oIload 6 232) := rfl
theorem aX12_holds__232 : at_ kX12_holds_ 232 = (0, oPush (vI 1) 233) := rfl
theorem aX12_holds__233 : at_ kX12_holds_ 233 = (0, oIsub 234) := rfl
theorem aX12_holds__234 : at_ kX12_holds_ 234 = (0, oIload 8 236) := rfl
theorem aX12_holds__236 : at_ kX12_holds_ 236 = (0, oPush (vI (-2)) 238) := rfl
theorem aX12_holds__238 : at_ kX12_holds_ 238 = (0, oIcNe 261 241) := rfl
theorem aX12_holds__241 : at_ kX12_holds_ 241 = (0, oRload 0 242) := rfl
theorem aX12_holds__242 : at_ kX12_holds_ 242 = (0, oGetf 14 79 2 245) := rfl
theorem aX12_holds__245 : at_ kX12_holds_ 245 = (0, oIload 6 247) := rfl
theorem aX12_holds__247 : at_ kX12_holds_ 247 = (0, oPush (vI 1) 248) := rfl
theorem aX12_holds__248 : at_ kX12_holds_ 248 = (0, oIsub 249) := rfl
theorem aX12_holds__249 : at_ kX12_holds_ 249 = (0, oIald 250) := rfl
theorem aX12_holds__250 : at_ kX12_holds_ 250 = (0, oRload 0 251) := rfl
theorem aX12_holds__251 : at_ kX12_holds_ 251 = (0, oGetf 14 79 2 254) := rfl
theorem aX12_holds__254 : at_ kX12_holds_ 254 = (0, oIload 6 256) := rfl
theorem aX12_holds__256 : at_ kX12_holds_ 256 = (0, oIald 257) := rfl
theorem aX12_holds__257 : at_ kX12_holds_ 257 = (0, oIand 258) := rfl
theorem aX12_holds__258 : at_ kX12_holds_ 258 = (0, oGoto 278) := rfl
theorem aX12_holds__261 : at_ kX12_holds_ 261 = (0, oRload 0 262) := rfl
theorem aX12_holds__262 : at_ kX12_holds_ 262 = (0, oGetf 14 79 2 265) := rfl
theorem aX12_holds__265 : at_ kX12_holds_ 265 = (0, oIload 6 267) := rfl
theorem aX12_holds__267 : at_ kX12_holds_ 267 = (0, oPush (vI 1) 268) := rfl
theorem aX12_holds__268 : at_ kX12_holds_ 268 = (0, oIsub 269) := rfl
theorem aX12_holds__269 : at_ kX12_holds_ 269 = (0, oIald 270) := rfl
theorem aX12_holds__270 : at_ kX12_holds_ 270 = (0, oRload 0 271) := rfl
theorem aX12_holds__271 : at_ kX12_holds_ 271 = (0, oGetf 14 79 2 274) := rfl
theorem aX12_holds__274 : at_ kX12_holds_ 274 = (0, oIload 6 276) := rfl
theorem aX12_holds__276 : at_ kX12_holds_ 276 = (0, oIald 277) := rfl
theorem aX12_holds__277 : at_ kX12_holds_ 277 = (0, oIor 278) := rfl
theorem aX12_holds__278 : at_ kX12_holds_ 278 = (0, oIast 279) := rfl
theorem aX12_holds__279 : at_ kX12_holds_ 279 = (0, oIinc 7 1 282) := rfl
theorem aX12_holds__282 : at_ kX12_holds_ 282 = (0, oGoto 6) := rfl
theorem aX12_holds__285 : at_ kX12_holds_ 285 = (0, oRload 0 286) := rfl
theorem aX12_holds__286 : at_ kX12_holds_ 286 = (0, oGetf 14 79 2 289) := rfl
theorem aX12_holds__289 : at_ kX12_holds_ 289 = (0, oPush (vI 0) 290) := rfl
theorem aX12_holds__290 : at_ kX12_holds_ 290 = (0, oIald 291) := rfl
theorem aX12_holds__291 : at_ kX12_holds_ 291 = (0, oPush (vI 1) 292) := rfl
theorem aX12_holds__292 : at_ kX12_holds_ 292 = (0, oIcNe 299 295) := rfl
theorem aX12_holds__295 : at_ kX12_holds_ 295 = (0, oPush (vI 1) 296) := rfl
theorem aX12_holds__296 : at_ kX12_holds_ 296 = (0, oGoto 300) := rfl
theorem aX12_holds__299 : at_ kX12_holds_ 299 = (0, oPush (vI 0) 300) := rfl
theorem aX12_holds__300 : at_ kX12_holds_ 300 = (0, oRetZ) := rfl
def kX12_barred_0 : List En := [(0, oPush (vI 0) 1), (0, oIstore 5 3), (1, oFail), (1, oIload 5 5), (1, oFail), (0, oRload 0 6), (0, oGetf 14 4 0 9), (1, oFail), (1, oFail), (0, oIcGe 65 12), (1, oFail), (1, oFail), (0, oRload 0 13), (0, oGetf 14 45 2 16), (1, oFail), (1, oFail)]
set_option maxRecDepth 20000 in
theorem zX12_barred_0 : SndL mX12_barred 0 kX12_barred_0 := SndL.c (s_iconst (by decide +kernel) (in32_d (by decide))) (SndL.c (s_istore (by decide +kernel) (by decide)) (SndL.c (s_fail) (SndL.c (s_iload (by decide +kernel)) (SndL.c (s_fail) (SndL.c (s_aload_n (k := 0) (by decide +kernel) rfl) (SndL.c (s_getf (k := 4) clok13 (by decide) rfl (by decide) rfl w_5_106 (Or.inl rfl) (by decide +kernel)) (SndL.c (s_fail) (SndL.c (s_fail) (SndL.c (s_ic_ge (off := 56) (by decide +kernel) (by decide)) (SndL.c (s_fail) (SndL.c (s_fail) (SndL.c (s_aload_n (k := 0) (by decide +kernel) rfl) (SndL.c (s_getf (k := 45) clok13 (by decide) rfl (by decide) rfl w_5_147 (Or.inl rfl) (by decide +kernel)) (SndL.c (s_fail) (SndL.c (s_fail) (SndL.n))))))))))))))))
def kX12_barred_1 : List En := [(0, oIload 5 18), (1, oFail), (0, oIald 19), (0, oRload 0 20), (0, oGetf 14 46 2 23), (1, oFail), (1, oFail), (0, oIload 5 25), (1, oFail), (0, oIald 26), (0, oRload 0 27), (0, oGetf 14 47 2 30), (1, oFail), (1, oFail), (0, oIload 5 32), (1, oFail)]
set_option maxRecDepth 20000 in
theorem zX12_barred_1 : SndL mX12_barred 16 kX12_barred_1 := SndL.c (s_iload (by decide +kernel)) (SndL.c (s_fail) (SndL.c (s_iald (by decide +kernel)) (SndL.c (s_aload_n (k := 0) (by decide +kernel) rfl) (SndL.c (s_getf (k := 46) clok13 (by decide) rfl (by decide) rfl w_5_148 (Or.inl rfl) (by decide +kernel)) (SndL.c (s_fail) (SndL.c (s_fail) (SndL.c (s_iload (by decide +kernel)) (SndL.c (s_fail) (SndL.c (s_iald (by decide +kernel)) (SndL.c (s_aload_n (k := 0) (by decide +kernel) rfl) (SndL.c (s_getf (k := 47) clok13 (by decide) rfl (by decide) rfl w_5_149 (Or.inl rfl) (by decide +kernel)) (SndL.c (s_fail) (SndL.c (s_fail) (SndL.c (s_iload (by decide +kernel)) (SndL.c (s_fail) (SndL.n))))))))))))))))
def kX12_barred_2 : List En := [(0, oIald 33), (0, oIload 3 34), (0, oIload 4 36), (1, oFail), (2, oInvS mX12_isIn 5 39), (1, oFail), (1, oFail), (0, oIfEq 59 42), (1, oFail), (1, oFail), (0, oRload 0 43), (0, oIload 5 45), (1, oFail), (0, oIload 1 46), (0, oIload 2 47), (0, oIload 3 48)]
set_option maxRecDepth 20000 in
theorem zX12_barred_2 : SndL mX12_barred 32 kX12_barred_2 := SndL.c (s_iald (by decide +kernel)) (SndL.c (s_iload_n (k := 3) (by decide +kernel) rfl) (SndL.c (s_iload (by decide +kernel)) (SndL.c (s_fail) (SndL.c (s_invS okX12_isIn w_6_228 w_6_229 (by decide +kernel)) (SndL.c (s_fail) (SndL.c (s_fail) (SndL.c (s_if_eq (off := 20) (by decide +kernel) (by decide)) (SndL.c (s_fail) (SndL.c (s_fail) (SndL.c (s_aload_n (k := 0) (by decide +kernel) rfl) (SndL.c (s_iload (by decide +kernel)) (SndL.c (s_fail) (SndL.c (s_iload_n (k := 1) (by decide +kernel) rfl) (SndL.c (s_iload_n (k := 2) (by decide +kernel) rfl) (SndL.c (s_iload_n (k := 3) (by decide +kernel) rfl) (SndL.n))))))))))))))))
def kX12_barred_3 : List En := [(0, oIload 4 50), (1, oFail), (2, oInvV 14 mX12_holds_ 5 53), (1, oFail), (1, oFail), (0, oIfEq 59 56), (1, oFail), (1, oFail), (0, oIload 5 58), (1, oFail), (0, oRetI), (0, oIinc 5 1 62), (1, oFail), (1, oFail), (0, oGoto 3), (1, oFail)]
set_option maxRecDepth 20000 in
theorem zX12_barred_3 : SndL mX12_barred 48 kX12_barred_3 := SndL.c (s_iload (by decide +kernel)) (SndL.c (s_fail) (SndL.c (s_invV (r := (RX12, TX12, 90)) (ci := 13) okX12_holds_ rfl (by decide) rfl rfl w_7_100 w_7_102 v_54 (by decide +kernel)) (SndL.c (s_fail) (SndL.c (s_fail) (SndL.c (s_if_eq (off := 6) (by decide +kernel) (by decide)) (SndL.c (s_fail) (SndL.c (s_fail) (SndL.c (s_iload (by decide +kernel)) (SndL.c (s_fail) (SndL.c (s_ret_i rfl (by decide +kernel)) (SndL.c (s_iinc (by decide +kernel) (by decide)) (SndL.c (s_fail) (SndL.c (s_fail) (SndL.c (s_goto (off := -59) (by decide +kernel) (by decide)) (SndL.c (s_fail) (SndL.n))))))))))))))))
def kX12_barred_4 : List En := [(1, oFail), (0, oPush (vI (-1)) 66), (0, oRetI)]
set_option maxRecDepth 20000 in
theorem zX12_barred_4 : SndL mX12_barred 64 kX12_barred_4 := SndL.c (s_fail) (SndL.c (s_iconst (by decide +kernel) (in32_d (by decide))) (SndL.c (s_ret_i rfl (by decide +kernel)) (SndL.n)))
def kX12_barred : Cd := [kX12_barred_0, kX12_barred_1, kX12_barred_2, kX12_barred_3, kX12_barred_4]
theorem zX12_barred : SndC mX12_barred 0 kX12_barred := SndC.c zX12_barred_0 (by decide) (SndC.c zX12_barred_1 (by decide) (SndC.c zX12_barred_2 (by decide) (SndC.c zX12_barred_3 (by decide) (SndC.c zX12_barred_4 (by decide) (SndC.n)))))
theorem aX12_barred_0 : at_ kX12_barred 0 = (0, oPush (vI 0) 1) := rfl
theorem aX12_barred_1 : at_ kX12_barred 1 = (0, oIstore 5 3) := rfl
theorem aX12_barred_3 : at_ kX12_barred 3 = (1, oIload 5 5) := rfl
theorem aX12_barred_5 : at_ kX12_barred 5 = (0, oRload 0 6) := rfl
theorem aX12_barred_6 : at_ kX12_barred 6 = (0, oGetf 14 4 0 9) := rfl
theorem aX12_barred_9 : at_ kX12_barred 9 = (0, oIcGe 65 12) := rfl
theorem aX12_barred_12 : at_ kX12_barred 12 = (0, oRload 0 13) := rfl
theorem aX12_barred_13 : at_ kX12_barred 13 = (0, oGetf 14 45 2 16) := rfl
theorem aX12_barred_16 : at_ kX12_barred 16 = (0, oIload 5 18) := rfl
theorem aX12_barred_18 : at_ kX12_barred 18 = (0, oIald 19) := rfl
theorem aX12_barred_19 : at_ kX12_barred 19 = (0, oRload 0 20) := rfl
theorem aX12_barred_20 : at_ kX12_barred 20 = (0, oGetf 14 46 2 23) := rfl
theorem aX12_barred_23 : at_ kX12_barred 23 = (0, oIload 5 25) := rfl
theorem aX12_barred_25 : at_ kX12_barred 25 = (0, oIald 26) := rfl
theorem aX12_barred_26 : at_ kX12_barred 26 = (0, oRload 0 27) := rfl
theorem aX12_barred_27 : at_ kX12_barred 27 = (0, oGetf 14 47 2 30) := rfl
theorem aX12_barred_30 : at_ kX12_barred 30 = (0, oIload 5 32) := rfl
theorem aX12_barred_32 : at_ kX12_barred 32 = (0, oIald 33) := rfl
theorem aX12_barred_33 : at_ kX12_barred 33 = (0, oIload 3 34) := rfl
theorem aX12_barred_34 : at_ kX12_barred 34 = (0, oIload 4 36) := rfl
theorem aX12_barred_36 : at_ kX12_barred 36 = (2, oInvS mX12_isIn 5 39) := rfl
theorem aX12_barred_39 : at_ kX12_barred 39 = (0, oIfEq 59 42) := rfl
theorem aX12_barred_42 : at_ kX12_barred 42 = (0, oRload 0 43) := rfl
theorem aX12_barred_43 : at_ kX12_barred 43 = (0, oIload 5 45) := rfl
theorem aX12_barred_45 : at_ kX12_barred 45 = (0, oIload 1 46) := rfl
theorem aX12_barred_46 : at_ kX12_barred 46 = (0, oIload 2 47) := rfl
theorem aX12_barred_47 : at_ kX12_barred 47 = (0, oIload 3 48) := rfl
theorem aX12_barred_48 : at_ kX12_barred 48 = (0, oIload 4 50) := rfl
theorem aX12_barred_50 : at_ kX12_barred 50 = (2, oInvV 14 mX12_holds_ 5 53) := rfl
theorem aX12_barred_53 : at_ kX12_barred 53 = (0, oIfEq 59 56) := rfl
theorem aX12_barred_56 : at_ kX12_barred 56 = (0, oIload 5 58) := rfl
theorem aX12_barred_58 : at_ kX12_barred 58 = (0, oRetI) := rfl
theorem aX12_barred_59 : at_ kX12_barred 59 = (0, oIinc 5 1 62) := rfl
theorem aX12_barred_62 : at_ kX12_barred 62 = (0, oGoto 3) := rfl
theorem aX12_barred_65 : at_ kX12_barred 65 = (0, oPush (vI (-1)) 66) := rfl
theorem aX12_barred_66 : at_ kX12_barred 66 = (0, oRetI) := rfl
def kX12_bars_0 : List En := [(0, oRload 0 1), (0, oIload 1 2), (2, oInvV 14 mX12_isAdvert 1 5), (1, oFail), (1, oFail), (0, oIfEq 21 8), (1, oFail), (1, oFail), (0, oIload 2 9), (0, oIfLt 21 12), (1, oFail), (1, oFail), (0, oIload 3 13), (0, oIfLt 21 16), (1, oFail), (1, oFail)]
set_option maxRecDepth 20000 in
theorem zX12_bars_0 : SndL mX12_bars 0 kX12_bars_0 := SndL.c (s_aload_n (k := 0) (by decide +kernel) rfl) (SndL.c (s_iload_n (k := 1) (by decide +kernel) rfl) (SndL.c (s_invV (r := (RX12, TX12, 90)) (ci := 13) okX12_isAdvert rfl (by decide) rfl rfl w_6_188 w_6_190 v_32 (by decide +kernel)) (SndL.c (s_fail) (SndL.c (s_fail) (SndL.c (s_if_eq (off := 16) (by decide +kernel) (by decide)) (SndL.c (s_fail) (SndL.c (s_fail) (SndL.c (s_iload_n (k := 2) (by decide +kernel) rfl) (SndL.c (s_if_lt (off := 12) (by decide +kernel) (by decide)) (SndL.c (s_fail) (SndL.c (s_fail) (SndL.c (s_iload_n (k := 3) (by decide +kernel) rfl) (SndL.c (s_if_lt (off := 8) (by decide +kernel) (by decide)) (SndL.c (s_fail) (SndL.c (s_fail) (SndL.n))))))))))))))))
def kX12_bars_1 : List En := [(0, oIload 4 18), (1, oFail), (0, oIfGe 23 21), (1, oFail), (1, oFail), (0, oPush (vI (-1)) 22), (0, oRetI), (0, oRload 0 24), (0, oIload 1 25), (0, oIload 3 26), (0, oIload 4 28), (1, oFail), (2, oInvV 14 mX12_readsAll 3 31), (1, oFail), (1, oFail), (0, oIload 2 32)]
set_option maxRecDepth 20000 in
theorem zX12_bars_1 : SndL mX12_bars 16 kX12_bars_1 := SndL.c (s_iload (by decide +kernel)) (SndL.c (s_fail) (SndL.c (s_if_ge (off := 5) (by decide +kernel) (by decide)) (SndL.c (s_fail) (SndL.c (s_fail) (SndL.c (s_iconst (by decide +kernel) (in32_d (by decide))) (SndL.c (s_ret_i rfl (by decide +kernel)) (SndL.c (s_aload_n (k := 0) (by decide +kernel) rfl) (SndL.c (s_iload_n (k := 1) (by decide +kernel) rfl) (SndL.c (s_iload_n (k := 3) (by decide +kernel) rfl) (SndL.c (s_iload (by decide +kernel)) (SndL.c (s_fail) (SndL.c (s_invV (r := (RX12, TX12, 90)) (ci := 13) okX12_readsAll rfl (by decide) rfl rfl w_6_212 w_6_214 v_33 (by decide +kernel)) (SndL.c (s_fail) (SndL.c (s_fail) (SndL.c (s_iload_n (k := 2) (by decide +kernel) rfl) (SndL.n))))))))))))))))
def kX12_bars_2 : List En := [(0, oRload 0 33), (0, oGetf 14 75 0 36), (1, oFail), (1, oFail), (0, oIcGe 56 39), (1, oFail), (1, oFail), (0, oRload 0 40), (0, oIload 1 41), (0, oRload 0 42), (0, oGetf 14 73 2 45), (1, oFail), (1, oFail), (0, oIload 2 46), (0, oIald 47), (0, oIload 3 48)]
set_option maxRecDepth 20000 in
theorem zX12_bars_2 : SndL mX12_bars 32 kX12_bars_2 := SndL.c (s_aload_n (k := 0) (by decide +kernel) rfl) (SndL.c (s_getf (k := 75) clok13 (by decide) rfl (by decide) rfl w_5_177 (Or.inl rfl) (by decide +kernel)) (SndL.c (s_fail) (SndL.c (s_fail) (SndL.c (s_ic_ge (off := 20) (by decide +kernel) (by decide)) (SndL.c (s_fail) (SndL.c (s_fail) (SndL.c (s_aload_n (k := 0) (by decide +kernel) rfl) (SndL.c (s_iload_n (k := 1) (by decide +kernel) rfl) (SndL.c (s_aload_n (k := 0) (by decide +kernel) rfl) (SndL.c (s_getf (k := 73) clok13 (by decide) rfl (by decide) rfl w_5_175 (Or.inl rfl) (by decide +kernel)) (SndL.c (s_fail) (SndL.c (s_fail) (SndL.c (s_iload_n (k := 2) (by decide +kernel) rfl) (SndL.c (s_iald (by decide +kernel)) (SndL.c (s_iload_n (k := 3) (by decide +kernel) rfl) (SndL.n))))))))))))))))
def kX12_bars_3 : List En := [(0, oIload 4 50), (1, oFail), (2, oInvV 14 mX12_barred 4 53), (1, oFail), (1, oFail), (0, oGoto 57), (1, oFail), (1, oFail), (0, oPush (vI (-1)) 57), (0, oRetI)]
set_option maxRecDepth 20000 in
theorem zX12_bars_3 : SndL mX12_bars 48 kX12_bars_3 := SndL.c (s_iload (by decide +kernel)) (SndL.c (s_fail) (SndL.c (s_invV (r := (RX12, TX12, 90)) (ci := 13) okX12_barred rfl (by decide) rfl rfl w_7_96 w_7_98 v_53 (by decide +kernel)) (SndL.c (s_fail) (SndL.c (s_fail) (SndL.c (s_goto (off := 4) (by decide +kernel) (by decide)) (SndL.c (s_fail) (SndL.c (s_fail) (SndL.c (s_iconst (by decide +kernel) (in32_d (by decide))) (SndL.c (s_ret_i rfl (by decide +kernel)) (SndL.n))))))))))
def kX12_bars : Cd := [kX12_bars_0, kX12_bars_1, kX12_bars_2, kX12_bars_3]
theorem zX12_bars : SndC mX12_bars 0 kX12_bars := SndC.c zX12_bars_0 (by decide) (SndC.c zX12_bars_1 (by decide) (SndC.c zX12_bars_2 (by decide) (SndC.c zX12_bars_3 (by decide) (SndC.n))))
theorem aX12_bars_0 : at_ kX12_bars 0 = (0, oRload 0 1) := rfl
theorem aX12_bars_1 : at_ kX12_bars 1 = (0, oIload 1 2) := rfl
theorem aX12_bars_2 : at_ kX12_bars 2 = (2, oInvV 14 mX12_isAdvert 1 5) := rfl
theorem aX12_bars_5 : at_ kX12_bars 5 = (0, oIfEq 21 8) := rfl
theorem aX12_bars_8 : at_ kX12_bars 8 = (0, oIload 2 9) := rfl
theorem aX12_bars_9 : at_ kX12_bars 9 = (0, oIfLt 21 12) := rfl
theorem aX12_bars_12 : at_ kX12_bars 12 = (0, oIload 3 13) := rfl
theorem aX12_bars_13 : at_ kX12_bars 13 = (0, oIfLt 21 16) := rfl
theorem aX12_bars_16 : at_ kX12_bars 16 = (0, oIload 4 18) := rfl
theorem aX12_bars_18 : at_ kX12_bars 18 = (0, oIfGe 23 21) := rfl
theorem aX12_bars_21 : at_ kX12_bars 21 = (0, oPush (vI (-1)) 22) := rfl
theorem aX12_bars_22 : at_ kX12_bars 22 = (0, oRetI) := rfl
theorem aX12_bars_23 : at_ kX12_bars 23 = (0, oRload 0 24) := rfl
theorem aX12_bars_24 : at_ kX12_bars 24 = (0, oIload 1 25) := rfl
theorem aX12_bars_25 : at_ kX12_bars 25 = (0, oIload 3 26) := rfl
theorem aX12_bars_26 : at_ kX12_bars 26 = (0, oIload 4 28) := rfl
theorem aX12_bars_28 : at_ kX12_bars 28 = (2, oInvV 14 mX12_readsAll 3 31) := rfl
theorem aX12_bars_31 : at_ kX12_bars 31 = (0, oIload 2 32) := rfl
theorem aX12_bars_32 : at_ kX12_bars 32 = (0, oRload 0 33) := rfl
theorem aX12_bars_33 : at_ kX12_bars 33 = (0, oGetf 14 75 0 36) := rfl
theorem aX12_bars_36 : at_ kX12_bars 36 = (0, oIcGe 56 39) := rfl
theorem aX12_bars_39 : at_ kX12_bars 39 = (0, oRload 0 40) := rfl
theorem aX12_bars_40 : at_ kX12_bars 40 = (0, oIload 1 41) := rfl
theorem aX12_bars_41 : at_ kX12_bars 41 = (0, oRload 0 42) := rfl
theorem aX12_bars_42 : at_ kX12_bars 42 = (0, oGetf 14 73 2 45) := rfl
theorem aX12_bars_45 : at_ kX12_bars 45 = (0, oIload 2 46) := rfl
theorem aX12_bars_46 : at_ kX12_bars 46 = (0, oIald 47) := rfl
theorem aX12_bars_47 : at_ kX12_bars 47 = (0, oIload 3 48) := rfl
theorem aX12_bars_48 : at_ kX12_bars 48 = (0, oIload 4 50) := rfl
theorem aX12_bars_50 : at_ kX12_bars 50 = (2, oInvV 14 mX12_barred 4 53) := rfl
theorem aX12_bars_53 : at_ kX12_bars 53 = (0, oGoto 57) := rfl
theorem aX12_bars_56 : at_ kX12_bars 56 = (0, oPush (vI (-1)) 57) := rfl
theorem aX12_bars_57 : at_ kX12_bars 57 = (0, oRetI) := rfl
def kX12_seat_0 : List En := [(0, oIload 1 1), (0, oIfLt 11 4), (1, oFail), (1, oFail), (0, oIload 1 5), (0, oPush (vI 4095) 8), (1, oFail), (1, oFail), (0, oIcLe 17 11), (1, oFail), (1, oFail), (0, oRload 0 12), (0, oPush (vI (-1)) 13), (2, oInvV 14 mX12_no 1 16), (1, oFail), (1, oFail)]
set_option maxRecDepth 20000 in
theorem zX12_seat_0 : SndL mX12_seat 0 kX12_seat_0 := SndL.c (s_iload_n (k := 1) (by decide +kernel) rfl) (SndL.c (s_if_lt (off := 10) (by decide +kernel) (by decide)) (SndL.c (s_fail) (SndL.c (s_fail) (SndL.c (s_iload_n (k := 1) (by decide +kernel) rfl) (SndL.c (s_sipush (by decide +kernel) (in32_d (by decide)) (by decide +kernel)) (SndL.c (s_fail) (SndL.c (s_fail) (SndL.c (s_ic_le (off := 9) (by decide +kernel) (by decide)) (SndL.c (s_fail) (SndL.c (s_fail) (SndL.c (s_aload_n (k := 0) (by decide +kernel) rfl) (SndL.c (s_iconst (by decide +kernel) (in32_d (by decide))) (SndL.c (s_invV (r := (RX12, TX12, 90)) (ci := 13) okX12_no rfl (by decide) rfl rfl w_6_138 w_6_140 v_29 (by decide +kernel)) (SndL.c (s_fail) (SndL.c (s_fail) (SndL.n))))))))))))))))
def kX12_seat_1 : List En := [(0, oRetI), (0, oRload 0 18), (0, oGetf 14 5 0 21), (1, oFail), (1, oFail), (0, oPush (vI 9) 23), (1, oFail), (0, oIcNe 33 26), (1, oFail), (1, oFail), (0, oRload 0 27), (0, oPush (vI (-7)) 29), (1, oFail), (2, oInvV 14 mX12_no 1 32), (1, oFail), (1, oFail)]
set_option maxRecDepth 20000 in
theorem zX12_seat_1 : SndL mX12_seat 16 kX12_seat_1 := SndL.c (s_ret_i rfl (by decide +kernel)) (SndL.c (s_aload_n (k := 0) (by decide +kernel) rfl) (SndL.c (s_getf (k := 5) clok13 (by decide) rfl (by decide) rfl w_5_107 (Or.inl rfl) (by decide +kernel)) (SndL.c (s_fail) (SndL.c (s_fail) (SndL.c (s_bipush (by decide +kernel) (in32_d (by decide)) (by decide +kernel)) (SndL.c (s_fail) (SndL.c (s_ic_ne (off := 10) (by decide +kernel) (by decide)) (SndL.c (s_fail) (SndL.c (s_fail) (SndL.c (s_aload_n (k := 0) (by decide +kernel) rfl) (SndL.c (s_bipush (by decide +kernel) (in32_d (by decide)) (by decide +kernel)) (SndL.c (s_fail) (SndL.c (s_invV (r := (RX12, TX12, 90)) (ci := 13) okX12_no rfl (by decide) rfl rfl w_6_138 w_6_140 v_29 (by decide +kernel)) (SndL.c (s_fail) (SndL.c (s_fail) (SndL.n))))))))))))))))
def kX12_seat_2 : List En := [(0, oRetI), (0, oRload 0 34), (0, oGetf 14 55 2 37), (1, oFail), (1, oFail), (0, oRload 0 38), (0, oGetf 14 5 0 41), (1, oFail), (1, oFail), (0, oIload 1 42), (0, oIast 43), (0, oRload 0 44), (0, oDup 45), (0, oGetf 14 5 0 48), (1, oFail), (1, oFail)]
set_option maxRecDepth 20000 in
theorem zX12_seat_2 : SndL mX12_seat 32 kX12_seat_2 := SndL.c (s_ret_i rfl (by decide +kernel)) (SndL.c (s_aload_n (k := 0) (by decide +kernel) rfl) (SndL.c (s_getf (k := 55) clok13 (by decide) rfl (by decide) rfl w_5_157 (Or.inl rfl) (by decide +kernel)) (SndL.c (s_fail) (SndL.c (s_fail) (SndL.c (s_aload_n (k := 0) (by decide +kernel) rfl) (SndL.c (s_getf (k := 5) clok13 (by decide) rfl (by decide) rfl w_5_107 (Or.inl rfl) (by decide +kernel)) (SndL.c (s_fail) (SndL.c (s_fail) (SndL.c (s_iload_n (k := 1) (by decide +kernel) rfl) (SndL.c (s_iast (by decide +kernel)) (SndL.c (s_aload_n (k := 0) (by decide +kernel) rfl) (SndL.c (s_dup (by decide +kernel)) (SndL.c (s_getf (k := 5) clok13 (by decide) rfl (by decide) rfl w_5_107 (Or.inl rfl) (by decide +kernel)) (SndL.c (s_fail) (SndL.c (s_fail) (SndL.n))))))))))))))))
def kX12_seat_3 : List En := [(0, oDupx1 49), (0, oPush (vI 1) 50), (0, oIadd 51), (0, oPutf 14 5 0 54), (1, oFail), (1, oFail), (0, oRetI)]
set_option maxRecDepth 20000 in
theorem zX12_seat_3 : SndL mX12_seat 48 kX12_seat_3 := SndL.c (s_dupx1 (by decide +kernel)) (SndL.c (s_iconst (by decide +kernel) (in32_d (by decide))) (SndL.c (s_iadd (by decide +kernel)) (SndL.c (s_putf (k := 5) clok13 (by decide) rfl (by decide) rfl w_5_107 (Or.inl rfl) (Or.inl rfl) (by decide +kernel)) (SndL.c (s_fail) (SndL.c (s_fail) (SndL.c (s_ret_i rfl (by decide +kernel)) (SndL.n)))))))
def kX12_seat : Cd := [kX12_seat_0, kX12_seat_1, kX12_seat_2, kX12_seat_3]
theorem zX12_seat : SndC mX12_seat 0 kX12_seat := SndC.c zX12_seat_0 (by decide) (SndC.c zX12_seat_1 (by decide) (SndC.c zX12_seat_2 (by decide) (SndC.c zX12_seat_3 (by decide) (SndC.n))))
theorem aX12_seat_0 : at_ kX12_seat 0 = (0, oIload 1 1) := rfl
theorem aX12_seat_1 : at_ kX12_seat 1 = (0, oIfLt 11 4) := rfl
theorem aX12_seat_4 : at_ kX12_seat 4 = (0, oIload 1 5) := rfl
theorem aX12_seat_5 : at_ kX12_seat 5 = (0, oPush (vI 4095) 8) := rfl
theorem aX12_seat_8 : at_ kX12_seat 8 = (0, oIcLe 17 11) := rfl
theorem aX12_seat_11 : at_ kX12_seat 11 = (0, oRload 0 12) := rfl
theorem aX12_seat_12 : at_ kX12_seat 12 = (0, oPush (vI (-1)) 13) := rfl
theorem aX12_seat_13 : at_ kX12_seat 13 = (2, oInvV 14 mX12_no 1 16) := rfl
theorem aX12_seat_16 : at_ kX12_seat 16 = (0, oRetI) := rfl
theorem aX12_seat_17 : at_ kX12_seat 17 = (0, oRload 0 18) := rfl
theorem aX12_seat_18 : at_ kX12_seat 18 = (0, oGetf 14 5 0 21) := rfl
theorem aX12_seat_21 : at_ kX12_seat 21 = (0, oPush (vI 9) 23) := rfl
theorem aX12_seat_23 : at_ kX12_seat 23 = (0, oIcNe 33 26) := rfl
theorem aX12_seat_26 : at_ kX12_seat 26 = (0, oRload 0 27) := rfl
theorem aX12_seat_27 : at_ kX12_seat 27 = (0, oPush (vI (-7)) 29) := rfl
theorem aX12_seat_29 : at_ kX12_seat 29 = (2, oInvV 14 mX12_no 1 32) := rfl
theorem aX12_seat_32 : at_ kX12_seat 32 = (0, oRetI) := rfl
theorem aX12_seat_33 : at_ kX12_seat 33 = (0, oRload 0 34) := rfl
theorem aX12_seat_34 : at_ kX12_seat 34 = (0, oGetf 14 55 2 37) := rfl
theorem aX12_seat_37 : at_ kX12_seat 37 = (0, oRload 0 38) := rfl
theorem aX12_seat_38 : at_ kX12_seat 38 = (0, oGetf 14 5 0 41) := rfl
theorem aX12_seat_41 : at_ kX12_seat 41 = (0, oIload 1 42) := rfl
theorem aX12_seat_42 : at_ kX12_seat 42 = (0, oIast 43) := rfl
theorem aX12_seat_43 : at_ kX12_seat 43 = (0, oRload 0 44) := rfl
theorem aX12_seat_44 : at_ kX12_seat 44 = (0, oDup 45) := rfl
theorem aX12_seat_45 : at_ kX12_seat 45 = (0, oGetf 14 5 0 48) := rfl
theorem aX12_seat_48 : at_ kX12_seat 48 = (0, oDupx1 49) := rfl
theorem aX12_seat_49 : at_ kX12_seat 49 = (0, oPush (vI 1) 50) := rfl
theorem aX12_seat_50 : at_ kX12_seat 50 = (0, oIadd 51) := rfl
theorem aX12_seat_51 : at_ kX12_seat 51 = (0, oPutf 14 5 0 54) := rfl
theorem aX12_seat_54 : at_ kX12_seat 54 = (0, oRetI) := rfl
def kX12_counted_0 : List En := [(0, oPush (vI 0) 1), (0, oIstore 3 2), (0, oPush (vI 0) 3), (0, oIstore 4 5), (1, oFail), (1, oIload 4 7), (1, oFail), (0, oRload 0 8), (0, oGetf 14 5 0 11), (1, oFail), (1, oFail), (0, oIcGe 47 14), (1, oFail), (1, oFail), (0, oIload 1 15), (0, oIload 4 17)]
set_option maxRecDepth 20000 in
theorem zX12_counted_0 : SndL mX12_counted 0 kX12_counted_0 := SndL.c (s_iconst (by decide +kernel) (in32_d (by decide))) (SndL.c (s_istore_n (k := 3) (by decide +kernel) rfl (by decide)) (SndL.c (s_iconst (by decide +kernel) (in32_d (by decide))) (SndL.c (s_istore (by decide +kernel) (by decide)) (SndL.c (s_fail) (SndL.c (s_iload (by decide +kernel)) (SndL.c (s_fail) (SndL.c (s_aload_n (k := 0) (by decide +kernel) rfl) (SndL.c (s_getf (k := 5) clok13 (by decide) rfl (by decide) rfl w_5_107 (Or.inl rfl) (by decide +kernel)) (SndL.c (s_fail) (SndL.c (s_fail) (SndL.c (s_ic_ge (off := 36) (by decide +kernel) (by decide)) (SndL.c (s_fail) (SndL.c (s_fail) (SndL.c (s_iload_n (k := 1) (by decide +kernel) rfl) (SndL.c (s_iload (by decide +kernel)) (SndL.n))))))))))))))))
def kX12_counted_1 : List En := [(1, oFail), (0, oIshr 18), (0, oPush (vI 1) 19), (0, oIand 20), (0, oPush (vI 1) 21), (0, oIcNe 41 24), (1, oFail), (1, oFail), (0, oRload 0 25), (0, oGetf 14 55 2 28), (1, oFail), (1, oFail), (0, oIload 4 30), (1, oFail), (0, oIald 31), (0, oIload 2 32)]
set_option maxRecDepth 20000 in
theorem zX12_counted_1 : SndL mX12_counted 16 kX12_counted_1 := SndL.c (s_fail) (SndL.c (s_ishr (by decide +kernel)) (SndL.c (s_iconst (by decide +kernel) (in32_d (by decide))) (SndL.c (s_iand (by decide +kernel)) (SndL.c (s_iconst (by decide +kernel) (in32_d (by decide))) (SndL.c (s_ic_ne (off := 20) (by decide +kernel) (by decide)) (SndL.c (s_fail) (SndL.c (s_fail) (SndL.c (s_aload_n (k := 0) (by decide +kernel) rfl) (SndL.c (s_getf (k := 55) clok13 (by decide) rfl (by decide) rfl w_5_157 (Or.inl rfl) (by decide +kernel)) (SndL.c (s_fail) (SndL.c (s_fail) (SndL.c (s_iload (by decide +kernel)) (SndL.c (s_fail) (SndL.c (s_iald (by decide +kernel)) (SndL.c (s_iload_n (k := 2) (by decide +kernel) rfl) (SndL.n))))))))))))))))
def kX12_counted_2 : List En := [(0, oIshr 33), (0, oPush (vI 1) 34), (0, oIand 35), (0, oIfNe 41 38), (1, oFail), (1, oFail), (0, oIinc 3 1 41), (1, oFail), (1, oFail), (0, oIinc 4 1 44), (1, oFail), (1, oFail), (0, oGoto 5), (1, oFail), (1, oFail), (0, oIload 3 48)]
set_option maxRecDepth 20000 in
theorem zX12_counted_2 : SndL mX12_counted 32 kX12_counted_2 := SndL.c (s_ishr (by decide +kernel)) (SndL.c (s_iconst (by decide +kernel) (in32_d (by decide))) (SndL.c (s_iand (by decide +kernel)) (SndL.c (s_if_ne (off := 6) (by decide +kernel) (by decide)) (SndL.c (s_fail) (SndL.c (s_fail) (SndL.c (s_iinc (by decide +kernel) (by decide)) (SndL.c (s_fail) (SndL.c (s_fail) (SndL.c (s_iinc (by decide +kernel) (by decide)) (SndL.c (s_fail) (SndL.c (s_fail) (SndL.c (s_goto (off := -39) (by decide +kernel) (by decide)) (SndL.c (s_fail) (SndL.c (s_fail) (SndL.c (s_iload_n (k := 3) (by decide +kernel) rfl) (SndL.n))))))))))))))))
def kX12_counted_3 : List En := [(0, oRetI)]
set_option maxRecDepth 20000 in
theorem zX12_counted_3 : SndL mX12_counted 48 kX12_counted_3 := SndL.c (s_ret_i rfl (by decide +kernel)) (SndL.n)
def kX12_counted : Cd := [kX12_counted_0, kX12_counted_1, kX12_counted_2, kX12_counted_3]
theorem zX12_counted : SndC mX12_counted 0 kX12_counted := SndC.c zX12_counted_0 (by decide) (SndC.c zX12_counted_1 (by decide) (SndC.c zX12_counted_2 (by decide) (SndC.c zX12_counted_3 (by decide) (SndC.n))))
theorem aX12_counted_0 : at_ kX12_counted 0 = (0, oPush (vI 0) 1) := rfl
theorem aX12_counted_1 : at_ kX12_counted 1 = (0, oIstore 3 2) := rfl
theorem aX12_counted_2 : at_ kX12_counted 2 = (0, oPush (vI 0) 3) := rfl
theorem aX12_counted_3 : at_ kX12_counted 3 = (0, oIstore 4 5) := rfl
theorem aX12_counted_5 : at_ kX12_counted 5 = (1, oIload 4 7) := rfl
theorem aX12_counted_7 : at_ kX12_counted 7 = (0, oRload 0 8) := rfl
theorem aX12_counted_8 : at_ kX12_counted 8 = (0, oGetf 14 5 0 11) := rfl
theorem aX12_counted_11 : at_ kX12_counted 11 = (0, oIcGe 47 14) := rfl
theorem aX12_counted_14 : at_ kX12_counted 14 = (0, oIload 1 15) := rfl
theorem aX12_counted_15 : at_ kX12_counted 15 = (0, oIload 4 17) := rfl
theorem aX12_counted_17 : at_ kX12_counted 17 = (0, oIshr 18) := rfl
theorem aX12_counted_18 : at_ kX12_counted 18 = (0, oPush (vI 1) 19) := rfl
theorem aX12_counted_19 : at_ kX12_counted 19 = (0, oIand 20) := rfl
theorem aX12_counted_20 : at_ kX12_counted 20 = (0, oPush (vI 1) 21) := rfl
theorem aX12_counted_21 : at_ kX12_counted 21 = (0, oIcNe 41 24) := rfl
theorem aX12_counted_24 : at_ kX12_counted 24 = (0, oRload 0 25) := rfl
theorem aX12_counted_25 : at_ kX12_counted 25 = (0, oGetf 14 55 2 28) := rfl
theorem aX12_counted_28 : at_ kX12_counted 28 = (0, oIload 4 30) := rfl
theorem aX12_counted_30 : at_ kX12_counted 30 = (0, oIald 31) := rfl
theorem aX12_counted_31 : at_ kX12_counted 31 = (0, oIload 2 32) := rfl
theorem aX12_counted_32 : at_ kX12_counted 32 = (0, oIshr 33) := rfl
theorem aX12_counted_33 : at_ kX12_counted 33 = (0, oPush (vI 1) 34) := rfl
theorem aX12_counted_34 : at_ kX12_counted 34 = (0, oIand 35) := rfl
theorem aX12_counted_35 : at_ kX12_counted 35 = (0, oIfNe 41 38) := rfl
theorem aX12_counted_38 : at_ kX12_counted 38 = (0, oIinc 3 1 41) := rfl
theorem aX12_counted_41 : at_ kX12_counted 41 = (0, oIinc 4 1 44) := rfl
theorem aX12_counted_44 : at_ kX12_counted 44 = (0, oGoto 5) := rfl
theorem aX12_counted_47 : at_ kX12_counted 47 = (0, oIload 3 48) := rfl
theorem aX12_counted_48 : at_ kX12_counted 48 = (0, oRetI) := rfl
def kX12_isLike_0 : List En := [(0, oRload 0 1), (0, oGetf 14 60 2 4), (1, oFail), (1, oFail), (0, oIload 1 5), (0, oIald 6), (0, oRload 0 7), (0, oGetf 14 36 2 10), (1, oFail), (1, oFail), (0, oIload 2 11), (0, oIald 12), (0, oIsub 13), (0, oIstore 3 14), (0, oRload 0 15), (0, oGetf 14 65 2 18)]
set_option maxRecDepth 20000 in
theorem zX12_isLike_0 : SndL mX12_isLike 0 kX12_isLike_0 := SndL.c (s_aload_n (k := 0) (by decide +kernel) rfl) (SndL.c (s_getf (k := 60) clok13 (by decide) rfl (by decide) rfl w_5_162 (Or.inl rfl) (by decide +kernel)) (SndL.c (s_fail) (SndL.c (s_fail) (SndL.c (s_iload_n (k := 1) (by decide +kernel) rfl) (SndL.c (s_iald (by decide +kernel)) (SndL.c (s_aload_n (k := 0) (by decide +kernel) rfl) (SndL.c (s_getf (k := 36) clok13 (by decide) rfl (by decide) rfl w_5_138 (Or.inl rfl) (by decide +kernel)) (SndL.c (s_fail) (SndL.c (s_fail) (SndL.c (s_iload_n (k := 2) (by decide +kernel) rfl) (SndL.c (s_iald (by decide +kernel)) (SndL.c (s_isub (by decide +kernel)) (SndL.c (s_istore_n (k := 3) (by decide +kernel) rfl (by decide)) (SndL.c (s_aload_n (k := 0) (by decide +kernel) rfl) (SndL.c (s_getf (k := 65) clok13 (by decide) rfl (by decide) rfl w_5_167 (Or.inl rfl) (by decide +kernel)) (SndL.n))))))))))))))))
def kX12_isLike_1 : List En := [(1, oFail), (1, oFail), (0, oIload 1 19), (0, oIald 20), (0, oIfNe 69 23), (1, oFail), (1, oFail), (0, oRload 0 24), (0, oGetf 14 58 2 27), (1, oFail), (1, oFail), (0, oIload 1 28), (0, oIald 29), (0, oRload 0 30), (0, oGetf 14 34 2 33), (1, oFail)]
set_option maxRecDepth 20000 in
theorem zX12_isLike_1 : SndL mX12_isLike 16 kX12_isLike_1 := SndL.c (s_fail) (SndL.c (s_fail) (SndL.c (s_iload_n (k := 1) (by decide +kernel) rfl) (SndL.c (s_iald (by decide +kernel)) (SndL.c (s_if_ne (off := 49) (by decide +kernel) (by decide)) (SndL.c (s_fail) (SndL.c (s_fail) (SndL.c (s_aload_n (k := 0) (by decide +kernel) rfl) (SndL.c (s_getf (k := 58) clok13 (by decide) rfl (by decide) rfl w_5_160 (Or.inl rfl) (by decide +kernel)) (SndL.c (s_fail) (SndL.c (s_fail) (SndL.c (s_iload_n (k := 1) (by decide +kernel) rfl) (SndL.c (s_iald (by decide +kernel)) (SndL.c (s_aload_n (k := 0) (by decide +kernel) rfl) (SndL.c (s_getf (k := 34) clok13 (by decide) rfl (by decide) rfl w_5_136 (Or.inl rfl) (by decide +kernel)) (SndL.c (s_fail) (SndL.n))))))))))))))))
def kX12_isLike_2 : List En := [(1, oFail), (0, oIload 2 34), (0, oIald 35), (0, oIcNe 69 38), (1, oFail), (1, oFail), (0, oRload 0 39), (0, oGetf 14 59 2 42), (1, oFail), (1, oFail), (0, oIload 1 43), (0, oIald 44), (0, oRload 0 45), (0, oGetf 14 35 2 48), (1, oFail), (1, oFail)]
set_option maxRecDepth 20000 in
theorem zX12_isLike_2 : SndL mX12_isLike 32 kX12_isLike_2 := SndL.c (s_fail) (SndL.c (s_iload_n (k := 2) (by decide +kernel) rfl) (SndL.c (s_iald (by decide +kernel)) (SndL.c (s_ic_ne (off := 34) (by decide +kernel) (by decide)) (SndL.c (s_fail) (SndL.c (s_fail) (SndL.c (s_aload_n (k := 0) (by decide +kernel) rfl) (SndL.c (s_getf (k := 59) clok13 (by decide) rfl (by decide) rfl w_5_161 (Or.inl rfl) (by decide +kernel)) (SndL.c (s_fail) (SndL.c (s_fail) (SndL.c (s_iload_n (k := 1) (by decide +kernel) rfl) (SndL.c (s_iald (by decide +kernel)) (SndL.c (s_aload_n (k := 0) (by decide +kernel) rfl) (SndL.c (s_getf (k := 35) clok13 (by decide) rfl (by decide) rfl w_5_137 (Or.inl rfl) (by decide +kernel)) (SndL.c (s_fail) (SndL.c (s_fail) (SndL.n))))))))))))))))
def kX12_isLike_3 : List En := [(0, oIload 2 49), (0, oIald 50), (0, oIcNe 69 53), (1, oFail), (1, oFail), (0, oIload 3 54), (0, oPush (vI 10) 56), (1, oFail), (0, oIcGt 69 59), (1, oFail), (1, oFail), (0, oIload 3 60), (0, oPush (vI (-10)) 62), (1, oFail), (0, oIcLt 69 65), (1, oFail)]
set_option maxRecDepth 20000 in
theorem zX12_isLike_3 : SndL mX12_isLike 48 kX12_isLike_3 := SndL.c (s_iload_n (k := 2) (by decide +kernel) rfl) (SndL.c (s_iald (by decide +kernel)) (SndL.c (s_ic_ne (off := 19) (by decide +kernel) (by decide)) (SndL.c (s_fail) (SndL.c (s_fail) (SndL.c (s_iload_n (k := 3) (by decide +kernel) rfl) (SndL.c (s_bipush (by decide +kernel) (in32_d (by decide)) (by decide +kernel)) (SndL.c (s_fail) (SndL.c (s_ic_gt (off := 13) (by decide +kernel) (by decide)) (SndL.c (s_fail) (SndL.c (s_fail) (SndL.c (s_iload_n (k := 3) (by decide +kernel) rfl) (SndL.c (s_bipush (by decide +kernel) (in32_d (by decide)) (by decide +kernel)) (SndL.c (s_fail) (SndL.c (s_ic_lt (off := 7) (by decide +kernel) (by decide)) (SndL.c (s_fail) (SndL.n))))))))))))))))
def kX12_isLike_4 : List En := [(1, oFail), (0, oPush (vI 1) 66), (0, oGoto 70), (1, oFail), (1, oFail), (0, oPush (vI 0) 70), (0, oRetZ)]
set_option maxRecDepth 20000 in
theorem zX12_isLike_4 : SndL mX12_isLike 64 kX12_isLike_4 := SndL.c (s_fail) (SndL.c (s_iconst (by decide +kernel) (in32_d (by decide))) (SndL.c (s_goto (off := 4) (by decide +kernel) (by decide)) (SndL.c (s_fail) (SndL.c (s_fail) (SndL.c (s_iconst (by decide +kernel) (in32_d (by decide))) (SndL.c (s_ret_z rfl (by decide +kernel)) (SndL.n)))))))
def kX12_isLike : Cd := [kX12_isLike_0, kX12_isLike_1, kX12_isLike_2, kX12_isLike_3, kX12_isLike_4]
theorem zX12_isLike : SndC mX12_isLike 0 kX12_isLike := SndC.c zX12_isLike_0 (by decide) (SndC.c zX12_isLike_1 (by decide) (SndC.c zX12_isLike_2 (by decide) (SndC.c zX12_isLike_3 (by decide) (SndC.c zX12_isLike_4 (by decide) (SndC.n)))))
theorem aX12_isLike_0 : at_ kX12_isLike 0 = (0, oRload 0 1) := rfl
theorem aX12_isLike_1 : at_ kX12_isLike 1 = (0, oGetf 14 60 2 4) := rfl
theorem aX12_isLike_4 : at_ kX12_isLike 4 = (0, oIload 1 5) := rfl
theorem aX12_isLike_5 : at_ kX12_isLike 5 = (0, oIald 6) := rfl
theorem aX12_isLike_6 : at_ kX12_isLike 6 = (0, oRload 0 7) := rfl
theorem aX12_isLike_7 : at_ kX12_isLike 7 = (0, oGetf 14 36 2 10) := rfl
theorem aX12_isLike_10 : at_ kX12_isLike 10 = (0, oIload 2 11) := rfl
theorem aX12_isLike_11 : at_ kX12_isLike 11 = (0, oIald 12) := rfl
theorem aX12_isLike_12 : at_ kX12_isLike 12 = (0, oIsub 13) := rfl
theorem aX12_isLike_13 : at_ kX12_isLike 13 = (0, oIstore 3 14) := rfl
theorem aX12_isLike_14 : at_ kX12_isLike 14 = (0, oRload 0 15) := rfl
theorem aX12_isLike_15 : at_ kX12_isLike 15 = (0, oGetf 14 65 2 18) := rfl
theorem aX12_isLike_18 : at_ kX12_isLike 18 = (0, oIload 1 19) := rfl
theorem aX12_isLike_19 : at_ kX12_isLike 19 = (0, oIald 20) := rfl
theorem aX12_isLike_20 : at_ kX12_isLike 20 = (0, oIfNe 69 23) := rfl
theorem aX12_isLike_23 : at_ kX12_isLike 23 = (0, oRload 0 24) := rfl
theorem aX12_isLike_24 : at_ kX12_isLike 24 = (0, oGetf 14 58 2 27) := rfl
theorem aX12_isLike_27 : at_ kX12_isLike 27 = (0, oIload 1 28) := rfl
theorem aX12_isLike_28 : at_ kX12_isLike 28 = (0, oIald 29) := rfl
theorem aX12_isLike_29 : at_ kX12_isLike 29 = (0, oRload 0 30) := rfl
theorem aX12_isLike_30 : at_ kX12_isLike 30 = (0, oGetf 14 34 2 33) := rfl
theorem aX12_isLike_33 : at_ kX12_isLike 33 = (0, oIload 2 34) := rfl
theorem aX12_isLike_34 : at_ kX12_isLike 34 = (0, oIald 35) := rfl
theorem aX12_isLike_35 : at_ kX12_isLike 35 = (0, oIcNe 69 38) := rfl
theorem aX12_isLike_38 : at_ kX12_isLike 38 = (0, oRload 0 39) := rfl
theorem aX12_isLike_39 : at_ kX12_isLike 39 = (0, oGetf 14 59 2 42) := rfl
theorem aX12_isLike_42 : at_ kX12_isLike 42 = (0, oIload 1 43) := rfl
theorem aX12_isLike_43 : at_ kX12_isLike 43 = (0, oIald 44) := rfl
theorem aX12_isLike_44 : at_ kX12_isLike 44 = (0, oRload 0 45) := rfl
theorem aX12_isLike_45 : at_ kX12_isLike 45 = (0, oGetf 14 35 2 48) := rfl
theorem aX12_isLike_48 : at_ kX12_isLike 48 = (0, oIload 2 49) := rfl
theorem aX12_isLike_49 : at_ kX12_isLike 49 = (0, oIald 50) := rfl
theorem aX12_isLike_50 : at_ kX12_isLike 50 = (0, oIcNe 69 53) := rfl
theorem aX12_isLike_53 : at_ kX12_isLike 53 = (0, oIload 3 54) := rfl
theorem aX12_isLike_54 : at_ kX12_isLike 54 = (0, oPush (vI 10) 56) := rfl
theorem aX12_isLike_56 : at_ kX12_isLike 56 = (0, oIcGt 69 59) := rfl
theorem aX12_isLike_59 : at_ kX12_isLike 59 = (0, oIload 3 60) := rfl
theorem aX12_isLike_60 : at_ kX12_isLike 60 = (0, oPush (vI (-10)) 62) := rfl
theorem aX12_isLike_62 : at_ kX12_isLike 62 = (0, oIcLt 69 65) := rfl
theorem aX12_isLike_65 : at_ kX12_isLike 65 = (0, oPush (vI 1) 66) := rfl
theorem aX12_isLike_66 : at_ kX12_isLike 66 = (0, oGoto 70) := rfl
theorem aX12_isLike_69 : at_ kX12_isLike 69 = (0, oPush (vI 0) 70) := rfl
theorem aX12_isLike_70 : at_ kX12_isLike 70 = (0, oRetZ) := rfl
def kX12_bindingOn_0 : List En := [(0, oPush (vI 0) 1), (0, oIstore 3 2), (1, oIload 3 3), (0, oRload 0 4), (0, oGetf 14 6 0 7), (1, oFail), (1, oFail), (0, oIcGe 42 10), (1, oFail), (1, oFail), (0, oRload 0 11), (0, oIload 3 12), (0, oIload 2 13), (2, oInvV 14 mX12_isLike 2 16), (1, oFail), (1, oFail)]
set_option maxRecDepth 20000 in
theorem zX12_bindingOn_0 : SndL mX12_bindingOn 0 kX12_bindingOn_0 := SndL.c (s_iconst (by decide +kernel) (in32_d (by decide))) (SndL.c (s_istore_n (k := 3) (by decide +kernel) rfl (by decide)) (SndL.c (s_iload_n (k := 3) (by decide +kernel) rfl) (SndL.c (s_aload_n (k := 0) (by decide +kernel) rfl) (SndL.c (s_getf (k := 6) clok13 (by decide) rfl (by decide) rfl w_5_108 (Or.inl rfl) (by decide +kernel)) (SndL.c (s_fail) (SndL.c (s_fail) (SndL.c (s_ic_ge (off := 35) (by decide +kernel) (by decide)) (SndL.c (s_fail) (SndL.c (s_fail) (SndL.c (s_aload_n (k := 0) (by decide +kernel) rfl) (SndL.c (s_iload_n (k := 3) (by decide +kernel) rfl) (SndL.c (s_iload_n (k := 2) (by decide +kernel) rfl) (SndL.c (s_invV (r := (RX12, TX12, 90)) (ci := 13) okX12_isLike rfl (by decide) rfl rfl w_7_124 w_7_126 v_58 (by decide +kernel)) (SndL.c (s_fail) (SndL.c (s_fail) (SndL.n))))))))))))))))
def kX12_bindingOn_1 : List En := [(0, oIfEq 36 19), (1, oFail), (1, oFail), (0, oRload 0 20), (0, oGetf 14 57 2 23), (1, oFail), (1, oFail), (0, oIload 3 24), (0, oIald 25), (0, oRload 0 26), (0, oGetf 14 21 2 29), (1, oFail), (1, oFail), (0, oIload 1 30), (0, oIald 31), (0, oIcNe 36 34)]
set_option maxRecDepth 20000 in
theorem zX12_bindingOn_1 : SndL mX12_bindingOn 16 kX12_bindingOn_1 := SndL.c (s_if_eq (off := 20) (by decide +kernel) (by decide)) (SndL.c (s_fail) (SndL.c (s_fail) (SndL.c (s_aload_n (k := 0) (by decide +kernel) rfl) (SndL.c (s_getf (k := 57) clok13 (by decide) rfl (by decide) rfl w_5_159 (Or.inl rfl) (by decide +kernel)) (SndL.c (s_fail) (SndL.c (s_fail) (SndL.c (s_iload_n (k := 3) (by decide +kernel) rfl) (SndL.c (s_iald (by decide +kernel)) (SndL.c (s_aload_n (k := 0) (by decide +kernel) rfl) (SndL.c (s_getf (k := 21) clok13 (by decide) rfl (by decide) rfl w_5_123 (Or.inl rfl) (by decide +kernel)) (SndL.c (s_fail) (SndL.c (s_fail) (SndL.c (s_iload_n (k := 1) (by decide +kernel) rfl) (SndL.c (s_iald (by decide +kernel)) (SndL.c (s_ic_ne (off := 5) (by decide +kernel) (by decide)) (SndL.n))))))))))))))))
def kX12_bindingOn_2 : List En := [(1, oFail), (1, oFail), (0, oIload 3 35), (0, oRetI), (0, oIinc 3 1 39), (1, oFail), (1, oFail), (0, oGoto 2), (1, oFail), (1, oFail), (0, oPush (vI (-1)) 43), (0, oRetI)]
set_option maxRecDepth 20000 in
theorem zX12_bindingOn_2 : SndL mX12_bindingOn 32 kX12_bindingOn_2 := SndL.c (s_fail) (SndL.c (s_fail) (SndL.c (s_iload_n (k := 3) (by decide +kernel) rfl) (SndL.c (s_ret_i rfl (by decide +kernel)) (SndL.c (s_iinc (by decide +kernel) (by decide)) (SndL.c (s_fail) (SndL.c (s_fail) (SndL.c (s_goto (off := -37) (by decide +kernel) (by decide)) (SndL.c (s_fail) (SndL.c (s_fail) (SndL.c (s_iconst (by decide +kernel) (in32_d (by decide))) (SndL.c (s_ret_i rfl (by decide +kernel)) (SndL.n))))))))))))
def kX12_bindingOn : Cd := [kX12_bindingOn_0, kX12_bindingOn_1, kX12_bindingOn_2]
theorem zX12_bindingOn : SndC mX12_bindingOn 0 kX12_bindingOn := SndC.c zX12_bindingOn_0 (by decide) (SndC.c zX12_bindingOn_1 (by decide) (SndC.c zX12_bindingOn_2 (by decide) (SndC.n)))
theorem aX12_bindingOn_0 : at_ kX12_bindingOn 0 = (0, oPush (vI 0) 1) := rfl
theorem aX12_bindingOn_1 : at_ kX12_bindingOn 1 = (0, oIstore 3 2) := rfl
theorem aX12_bindingOn_2 : at_ kX12_bindingOn 2 = (1, oIload 3 3) := rfl
theorem aX12_bindingOn_3 : at_ kX12_bindingOn 3 = (0, oRload 0 4) := rfl
theorem aX12_bindingOn_4 : at_ kX12_bindingOn 4 = (0, oGetf 14 6 0 7) := rfl
theorem aX12_bindingOn_7 : at_ kX12_bindingOn 7 = (0, oIcGe 42 10) := rfl
theorem aX12_bindingOn_10 : at_ kX12_bindingOn 10 = (0, oRload 0 11) := rfl
theorem aX12_bindingOn_11 : at_ kX12_bindingOn 11 = (0, oIload 3 12) := rfl
theorem aX12_bindingOn_12 : at_ kX12_bindingOn 12 = (0, oIload 2 13) := rfl
theorem aX12_bindingOn_13 : at_ kX12_bindingOn 13 = (2, oInvV 14 mX12_isLike 2 16) := rfl
theorem aX12_bindingOn_16 : at_ kX12_bindingOn 16 = (0, oIfEq 36 19) := rfl
theorem aX12_bindingOn_19 : at_ kX12_bindingOn 19 = (0, oRload 0 20) := rfl
theorem aX12_bindingOn_20 : at_ kX12_bindingOn 20 = (0, oGetf 14 57 2 23) := rfl
theorem aX12_bindingOn_23 : at_ kX12_bindingOn 23 = (0, oIload 3 24) := rfl
theorem aX12_bindingOn_24 : at_ kX12_bindingOn 24 = (0, oIald 25) := rfl
theorem aX12_bindingOn_25 : at_ kX12_bindingOn 25 = (0, oRload 0 26) := rfl
theorem aX12_bindingOn_26 : at_ kX12_bindingOn 26 = (0, oGetf 14 21 2 29) := rfl
theorem aX12_bindingOn_29 : at_ kX12_bindingOn 29 = (0, oIload 1 30) := rfl
theorem aX12_bindingOn_30 : at_ kX12_bindingOn 30 = (0, oIald 31) := rfl
theorem aX12_bindingOn_31 : at_ kX12_bindingOn 31 = (0, oIcNe 36 34) := rfl
theorem aX12_bindingOn_34 : at_ kX12_bindingOn 34 = (0, oIload 3 35) := rfl
theorem aX12_bindingOn_35 : at_ kX12_bindingOn 35 = (0, oRetI) := rfl
theorem aX12_bindingOn_36 : at_ kX12_bindingOn 36 = (0, oIinc 3 1 39) := rfl
theorem aX12_bindingOn_39 : at_ kX12_bindingOn 39 = (0, oGoto 2) := rfl
theorem aX12_bindingOn_42 : at_ kX12_bindingOn 42 = (0, oPush (vI (-1)) 43) := rfl
theorem aX12_bindingOn_43 : at_ kX12_bindingOn 43 = (0, oRetI) := rfl
def kX12_decide_0 : List En := [(0, oRload 0 1), (0, oIload 1 2), (0, oIload 2 3), (2, oInvV 14 mX12_phraseOf 2 6), (1, oFail), (1, oFail), (0, oIstore 5 8), (1, oFail), (0, oIload 5 10), (1, oFail), (0, oPush (vI (-1)) 11), (0, oIcEq 44 14), (1, oFail), (1, oFail), (0, oIload 3 15), (0, oIfLt 44 18)]
set_option maxRecDepth 20000 in
theorem zX12_decide_0 : SndL mX12_decide 0 kX12_decide_0 := SndL.c (s_aload_n (k := 0) (by decide +kernel) rfl) (SndL.c (s_iload_n (k := 1) (by decide +kernel) rfl) (SndL.c (s_iload_n (k := 2) (by decide +kernel) rfl) (SndL.c (s_invV (r := (RX12, TX12, 90)) (ci := 13) okX12_phraseOf rfl (by decide) rfl rfl w_6_239 w_7_1 v_38 (by decide +kernel)) (SndL.c (s_fail) (SndL.c (s_fail) (SndL.c (s_istore (by decide +kernel) (by decide)) (SndL.c (s_fail) (SndL.c (s_iload (by decide +kernel)) (SndL.c (s_fail) (SndL.c (s_iconst (by decide +kernel) (in32_d (by decide))) (SndL.c (s_ic_eq (off := 33) (by decide +kernel) (by decide)) (SndL.c (s_fail) (SndL.c (s_fail) (SndL.c (s_iload_n (k := 3) (by decide +kernel) rfl) (SndL.c (s_if_lt (off := 29) (by decide +kernel) (by decide)) (SndL.n))))))))))))))))
def kX12_decide_1 : List En := [(1, oFail), (1, oFail), (0, oIload 3 19), (0, oPush (vI 1) 20), (0, oRload 0 21), (0, oGetf 14 5 0 24), (1, oFail), (1, oFail), (0, oIshl 25), (0, oIcGe 44 28), (1, oFail), (1, oFail), (0, oIload 4 30), (1, oFail), (0, oIfLt 44 33), (1, oFail)]
set_option maxRecDepth 20000 in
theorem zX12_decide_1 : SndL mX12_decide 16 kX12_decide_1 := SndL.c (s_fail) (SndL.c (s_fail) (SndL.c (s_iload_n (k := 3) (by decide +kernel) rfl) (SndL.c (s_iconst (by decide +kernel) (in32_d (by decide))) (SndL.c (s_aload_n (k := 0) (by decide +kernel) rfl) (SndL.c (s_getf (k := 5) clok13 (by decide) rfl (by decide) rfl w_5_107 (Or.inl rfl) (by decide +kernel)) (SndL.c (s_fail) (SndL.c (s_fail) (SndL.c (s_ishl (by decide +kernel)) (SndL.c (s_ic_ge (off := 19) (by decide +kernel) (by decide)) (SndL.c (s_fail) (SndL.c (s_fail) (SndL.c (s_iload (by decide +kernel)) (SndL.c (s_fail) (SndL.c (s_if_lt (off := 14) (by decide +kernel) (by decide)) (SndL.c (s_fail) (SndL.n))))))))))))))))
def kX12_decide_2 : List En := [(1, oFail), (0, oIload 4 35), (1, oFail), (0, oPush (vI 1) 36), (0, oRload 0 37), (0, oGetf 14 5 0 40), (1, oFail), (1, oFail), (0, oIshl 41), (0, oIcLt 50 44), (1, oFail), (1, oFail), (0, oRload 0 45), (0, oPush (vI (-1)) 46), (2, oInvV 14 mX12_no 1 49), (1, oFail)]
set_option maxRecDepth 20000 in
theorem zX12_decide_2 : SndL mX12_decide 32 kX12_decide_2 := SndL.c (s_fail) (SndL.c (s_iload (by decide +kernel)) (SndL.c (s_fail) (SndL.c (s_iconst (by decide +kernel) (in32_d (by decide))) (SndL.c (s_aload_n (k := 0) (by decide +kernel) rfl) (SndL.c (s_getf (k := 5) clok13 (by decide) rfl (by decide) rfl w_5_107 (Or.inl rfl) (by decide +kernel)) (SndL.c (s_fail) (SndL.c (s_fail) (SndL.c (s_ishl (by decide +kernel)) (SndL.c (s_ic_lt (off := 9) (by decide +kernel) (by decide)) (SndL.c (s_fail) (SndL.c (s_fail) (SndL.c (s_aload_n (k := 0) (by decide +kernel) rfl) (SndL.c (s_iconst (by decide +kernel) (in32_d (by decide))) (SndL.c (s_invV (r := (RX12, TX12, 90)) (ci := 13) okX12_no rfl (by decide) rfl rfl w_6_138 w_6_140 v_29 (by decide +kernel)) (SndL.c (s_fail) (SndL.n))))))))))))))))
def kX12_decide_3 : List En := [(1, oFail), (0, oRetI), (0, oRload 0 51), (0, oGetf 14 20 2 54), (1, oFail), (1, oFail), (0, oIload 1 55), (0, oIald 56), (0, oIstore 6 58), (1, oFail), (0, oRload 0 59), (0, oIload 3 60), (0, oIload 6 62), (1, oFail), (2, oInvV 14 mX12_counted 2 65), (1, oFail)]
set_option maxRecDepth 20000 in
theorem zX12_decide_3 : SndL mX12_decide 48 kX12_decide_3 := SndL.c (s_fail) (SndL.c (s_ret_i rfl (by decide +kernel)) (SndL.c (s_aload_n (k := 0) (by decide +kernel) rfl) (SndL.c (s_getf (k := 20) clok13 (by decide) rfl (by decide) rfl w_5_122 (Or.inl rfl) (by decide +kernel)) (SndL.c (s_fail) (SndL.c (s_fail) (SndL.c (s_iload_n (k := 1) (by decide +kernel) rfl) (SndL.c (s_iald (by decide +kernel)) (SndL.c (s_istore (by decide +kernel) (by decide)) (SndL.c (s_fail) (SndL.c (s_aload_n (k := 0) (by decide +kernel) rfl) (SndL.c (s_iload_n (k := 3) (by decide +kernel) rfl) (SndL.c (s_iload (by decide +kernel)) (SndL.c (s_fail) (SndL.c (s_invV (r := (RX12, TX12, 90)) (ci := 13) okX12_counted rfl (by decide) rfl rfl w_7_116 w_7_118 v_56 (by decide +kernel)) (SndL.c (s_fail) (SndL.n))))))))))))))))
def kX12_decide_4 : List En := [(1, oFail), (0, oIstore 7 67), (1, oFail), (0, oIload 7 69), (1, oFail), (0, oRload 0 70), (0, oIload 4 72), (1, oFail), (0, oIload 6 74), (1, oFail), (2, oInvV 14 mX12_counted 2 77), (1, oFail), (1, oFail), (0, oIadd 78), (0, oIstore 8 80), (1, oFail)]
set_option maxRecDepth 20000 in
theorem zX12_decide_4 : SndL mX12_decide 64 kX12_decide_4 := SndL.c (s_fail) (SndL.c (s_istore (by decide +kernel) (by decide)) (SndL.c (s_fail) (SndL.c (s_iload (by decide +kernel)) (SndL.c (s_fail) (SndL.c (s_aload_n (k := 0) (by decide +kernel) rfl) (SndL.c (s_iload (by decide +kernel)) (SndL.c (s_fail) (SndL.c (s_iload (by decide +kernel)) (SndL.c (s_fail) (SndL.c (s_invV (r := (RX12, TX12, 90)) (ci := 13) okX12_counted rfl (by decide) rfl rfl w_7_116 w_7_118 v_56 (by decide +kernel)) (SndL.c (s_fail) (SndL.c (s_fail) (SndL.c (s_iadd (by decide +kernel)) (SndL.c (s_istore (by decide +kernel) (by decide)) (SndL.c (s_fail) (SndL.n))))))))))))))))
def kX12_decide_5 : List En := [(0, oIload 3 81), (0, oIload 4 83), (1, oFail), (0, oIand 84), (0, oIfNe 93 87), (1, oFail), (1, oFail), (0, oIload 8 89), (1, oFail), (0, oPush (vI 3) 90), (0, oIcGe 100 93), (1, oFail), (1, oFail), (0, oRload 0 94), (0, oPush (vI (-6)) 96), (1, oFail)]
set_option maxRecDepth 20000 in
theorem zX12_decide_5 : SndL mX12_decide 80 kX12_decide_5 := SndL.c (s_iload_n (k := 3) (by decide +kernel) rfl) (SndL.c (s_iload (by decide +kernel)) (SndL.c (s_fail) (SndL.c (s_iand (by decide +kernel)) (SndL.c (s_if_ne (off := 9) (by decide +kernel) (by decide)) (SndL.c (s_fail) (SndL.c (s_fail) (SndL.c (s_iload (by decide +kernel)) (SndL.c (s_fail) (SndL.c (s_iconst (by decide +kernel) (in32_d (by decide))) (SndL.c (s_ic_ge (off := 10) (by decide +kernel) (by decide)) (SndL.c (s_fail) (SndL.c (s_fail) (SndL.c (s_aload_n (k := 0) (by decide +kernel) rfl) (SndL.c (s_bipush (by decide +kernel) (in32_d (by decide)) (by decide +kernel)) (SndL.c (s_fail) (SndL.n))))))))))))))))
def kX12_decide_6 : List En := [(2, oInvV 14 mX12_no 1 99), (1, oFail), (1, oFail), (0, oRetI), (0, oRload 0 101), (0, oGetf 14 6 0 104), (1, oFail), (1, oFail), (0, oPush (vI 40) 106), (1, oFail), (0, oIcNe 116 109), (1, oFail), (1, oFail), (0, oRload 0 110), (0, oPush (vI (-7)) 112), (1, oFail)]
set_option maxRecDepth 20000 in
theorem zX12_decide_6 : SndL mX12_decide 96 kX12_decide_6 := SndL.c (s_invV (r := (RX12, TX12, 90)) (ci := 13) okX12_no rfl (by decide) rfl rfl w_6_138 w_6_140 v_29 (by decide +kernel)) (SndL.c (s_fail) (SndL.c (s_fail) (SndL.c (s_ret_i rfl (by decide +kernel)) (SndL.c (s_aload_n (k := 0) (by decide +kernel) rfl) (SndL.c (s_getf (k := 6) clok13 (by decide) rfl (by decide) rfl w_5_108 (Or.inl rfl) (by decide +kernel)) (SndL.c (s_fail) (SndL.c (s_fail) (SndL.c (s_bipush (by decide +kernel) (in32_d (by decide)) (by decide +kernel)) (SndL.c (s_fail) (SndL.c (s_ic_ne (off := 10) (by decide +kernel) (by decide)) (SndL.c (s_fail) (SndL.c (s_fail) (SndL.c (s_aload_n (k := 0) (by decide +kernel) rfl) (SndL.c (s_bipush (by decide +kernel) (in32_d (by decide)) (by decide +kernel)) (SndL.c (s_fail) (SndL.n))))))))))))))))
def kX12_decide_7 : List En := [(2, oInvV 14 mX12_no 1 115), (1, oFail), (1, oFail), (0, oRetI), (0, oRload 0 117), (0, oGetf 14 6 0 120), (1, oFail), (1, oFail), (0, oIstore 9 122), (1, oFail), (0, oRload 0 123), (0, oGetf 14 64 2 126), (1, oFail), (1, oFail), (0, oIload 9 128), (1, oFail)]
set_option maxRecDepth 20000 in
theorem zX12_decide_7 : SndL mX12_decide 112 kX12_decide_7 := SndL.c (s_invV (r := (RX12, TX12, 90)) (ci := 13) okX12_no rfl (by decide) rfl rfl w_6_138 w_6_140 v_29 (by decide +kernel)) (SndL.c (s_fail) (SndL.c (s_fail) (SndL.c (s_ret_i rfl (by decide +kernel)) (SndL.c (s_aload_n (k := 0) (by decide +kernel) rfl) (SndL.c (s_getf (k := 6) clok13 (by decide) rfl (by decide) rfl w_5_108 (Or.inl rfl) (by decide +kernel)) (SndL.c (s_fail) (SndL.c (s_fail) (SndL.c (s_istore (by decide +kernel) (by decide)) (SndL.c (s_fail) (SndL.c (s_aload_n (k := 0) (by decide +kernel) rfl) (SndL.c (s_getf (k := 64) clok13 (by decide) rfl (by decide) rfl w_5_166 (Or.inl rfl) (by decide +kernel)) (SndL.c (s_fail) (SndL.c (s_fail) (SndL.c (s_iload (by decide +kernel)) (SndL.c (s_fail) (SndL.n))))))))))))))))
def kX12_decide_8 : List En := [(0, oRload 0 129), (0, oIload 1 130), (0, oIload 5 132), (1, oFail), (2, oInvV 14 mX12_bindingOn 2 135), (1, oFail), (1, oFail), (0, oIast 136), (0, oRload 0 137), (0, oGetf 14 68 2 140), (1, oFail), (1, oFail), (0, oIload 9 142), (1, oFail), (0, oRload 0 143), (0, oIload 1 144)]
set_option maxRecDepth 20000 in
theorem zX12_decide_8 : SndL mX12_decide 128 kX12_decide_8 := SndL.c (s_aload_n (k := 0) (by decide +kernel) rfl) (SndL.c (s_iload_n (k := 1) (by decide +kernel) rfl) (SndL.c (s_iload (by decide +kernel)) (SndL.c (s_fail) (SndL.c (s_invV (r := (RX12, TX12, 90)) (ci := 13) okX12_bindingOn rfl (by decide) rfl rfl w_7_120 w_7_122 v_57 (by decide +kernel)) (SndL.c (s_fail) (SndL.c (s_fail) (SndL.c (s_iast (by decide +kernel)) (SndL.c (s_aload_n (k := 0) (by decide +kernel) rfl) (SndL.c (s_getf (k := 68) clok13 (by decide) rfl (by decide) rfl w_5_170 (Or.inl rfl) (by decide +kernel)) (SndL.c (s_fail) (SndL.c (s_fail) (SndL.c (s_iload (by decide +kernel)) (SndL.c (s_fail) (SndL.c (s_aload_n (k := 0) (by decide +kernel) rfl) (SndL.c (s_iload_n (k := 1) (by decide +kernel) rfl) (SndL.n))))))))))))))))
def kX12_decide_9 : List En := [(0, oIload 5 146), (1, oFail), (0, oRload 0 147), (0, oGetf 14 0 0 150), (1, oFail), (1, oFail), (0, oRload 0 151), (0, oGetf 14 0 0 154), (1, oFail), (1, oFail), (2, oInvV 14 mX12_isAgain 4 157), (1, oFail), (1, oFail), (0, oZast 158), (0, oRload 0 159), (0, oGetf 14 56 2 162)]
set_option maxRecDepth 20000 in
theorem zX12_decide_9 : SndL mX12_decide 144 kX12_decide_9 := SndL.c (s_iload (by decide +kernel)) (SndL.c (s_fail) (SndL.c (s_aload_n (k := 0) (by decide +kernel) rfl) (SndL.c (s_getf (k := 0) clok13 (by decide) rfl (by decide) rfl w_5_102 (Or.inl rfl) (by decide +kernel)) (SndL.c (s_fail) (SndL.c (s_fail) (SndL.c (s_aload_n (k := 0) (by decide +kernel) rfl) (SndL.c (s_getf (k := 0) clok13 (by decide) rfl (by decide) rfl w_5_102 (Or.inl rfl) (by decide +kernel)) (SndL.c (s_fail) (SndL.c (s_fail) (SndL.c (s_invV (r := (RX12, TX12, 90)) (ci := 13) okX12_isAgain rfl (by decide) rfl rfl w_7_19 w_7_21 v_43 (by decide +kernel)) (SndL.c (s_fail) (SndL.c (s_fail) (SndL.c (s_zast (by decide +kernel)) (SndL.c (s_aload_n (k := 0) (by decide +kernel) rfl) (SndL.c (s_getf (k := 56) clok13 (by decide) rfl (by decide) rfl w_5_158 (Or.inl rfl) (by decide +kernel)) (SndL.n))))))))))))))))
def kX12_decide_10 : List En := [(1, oFail), (1, oFail), (0, oIload 9 164), (1, oFail), (0, oIload 6 166), (1, oFail), (0, oIast 167), (0, oRload 0 168), (0, oGetf 14 57 2 171), (1, oFail), (1, oFail), (0, oIload 9 173), (1, oFail), (0, oRload 0 174), (0, oGetf 14 21 2 177), (1, oFail)]
set_option maxRecDepth 20000 in
theorem zX12_decide_10 : SndL mX12_decide 160 kX12_decide_10 := SndL.c (s_fail) (SndL.c (s_fail) (SndL.c (s_iload (by decide +kernel)) (SndL.c (s_fail) (SndL.c (s_iload (by decide +kernel)) (SndL.c (s_fail) (SndL.c (s_iast (by decide +kernel)) (SndL.c (s_aload_n (k := 0) (by decide +kernel) rfl) (SndL.c (s_getf (k := 57) clok13 (by decide) rfl (by decide) rfl w_5_159 (Or.inl rfl) (by decide +kernel)) (SndL.c (s_fail) (SndL.c (s_fail) (SndL.c (s_iload (by decide +kernel)) (SndL.c (s_fail) (SndL.c (s_aload_n (k := 0) (by decide +kernel) rfl) (SndL.c (s_getf (k := 21) clok13 (by decide) rfl (by decide) rfl w_5_123 (Or.inl rfl) (by decide +kernel)) (SndL.c (s_fail) (SndL.n))))))))))))))))
def kX12_decide_11 : List En := [(1, oFail), (0, oIload 1 178), (0, oIald 179), (0, oIast 180), (0, oRload 0 181), (0, oGetf 14 58 2 184), (1, oFail), (1, oFail), (0, oIload 9 186), (1, oFail), (0, oRload 0 187), (0, oGetf 14 34 2 190), (1, oFail), (1, oFail), (0, oIload 5 192), (1, oFail)]
set_option maxRecDepth 20000 in
theorem zX12_decide_11 : SndL mX12_decide 176 kX12_decide_11 := SndL.c (s_fail) (SndL.c (s_iload_n (k := 1) (by decide +kernel) rfl) (SndL.c (s_iald (by decide +kernel)) (SndL.c (s_iast (by decide +kernel)) (SndL.c (s_aload_n (k := 0) (by decide +kernel) rfl) (SndL.c (s_getf (k := 58) clok13 (by decide) rfl (by decide) rfl w_5_160 (Or.inl rfl) (by decide +kernel)) (SndL.c (s_fail) (SndL.c (s_fail) (SndL.c (s_iload (by decide +kernel)) (SndL.c (s_fail) (SndL.c (s_aload_n (k := 0) (by decide +kernel) rfl) (SndL.c (s_getf (k := 34) clok13 (by decide) rfl (by decide) rfl w_5_136 (Or.inl rfl) (by decide +kernel)) (SndL.c (s_fail) (SndL.c (s_fail) (SndL.c (s_iload (by decide +kernel)) (SndL.c (s_fail) (SndL.n))))))))))))))))
def kX12_decide_12 : List En := [(0, oIald 193), (0, oIast 194), (0, oRload 0 195), (0, oGetf 14 59 2 198), (1, oFail), (1, oFail), (0, oIload 9 200), (1, oFail), (0, oRload 0 201), (0, oGetf 14 35 2 204), (1, oFail), (1, oFail), (0, oIload 5 206), (1, oFail), (0, oIald 207), (0, oIast 208)]
set_option maxRecDepth 20000 in
theorem zX12_decide_12 : SndL mX12_decide 192 kX12_decide_12 := SndL.c (s_iald (by decide +kernel)) (SndL.c (s_iast (by decide +kernel)) (SndL.c (s_aload_n (k := 0) (by decide +kernel) rfl) (SndL.c (s_getf (k := 59) clok13 (by decide) rfl (by decide) rfl w_5_161 (Or.inl rfl) (by decide +kernel)) (SndL.c (s_fail) (SndL.c (s_fail) (SndL.c (s_iload (by decide +kernel)) (SndL.c (s_fail) (SndL.c (s_aload_n (k := 0) (by decide +kernel) rfl) (SndL.c (s_getf (k := 35) clok13 (by decide) rfl (by decide) rfl w_5_137 (Or.inl rfl) (by decide +kernel)) (SndL.c (s_fail) (SndL.c (s_fail) (SndL.c (s_iload (by decide +kernel)) (SndL.c (s_fail) (SndL.c (s_iald (by decide +kernel)) (SndL.c (s_iast (by decide +kernel)) (SndL.n))))))))))))))))
def kX12_decide_13 : List En := [(0, oRload 0 209), (0, oGetf 14 60 2 212), (1, oFail), (1, oFail), (0, oIload 9 214), (1, oFail), (0, oRload 0 215), (0, oGetf 14 36 2 218), (1, oFail), (1, oFail), (0, oIload 5 220), (1, oFail), (0, oIald 221), (0, oIast 222), (0, oRload 0 223), (0, oGetf 14 61 2 226)]
set_option maxRecDepth 20000 in
theorem zX12_decide_13 : SndL mX12_decide 208 kX12_decide_13 := SndL.c (s_aload_n (k := 0) (by decide +kernel) rfl) (SndL.c (s_getf (k := 60) clok13 (by decide) rfl (by decide) rfl w_5_162 (Or.inl rfl) (by decide +kernel)) (SndL.c (s_fail) (SndL.c (s_fail) (SndL.c (s_iload (by decide +kernel)) (SndL.c (s_fail) (SndL.c (s_aload_n (k := 0) (by decide +kernel) rfl) (SndL.c (s_getf (k := 36) clok13 (by decide) rfl (by decide) rfl w_5_138 (Or.inl rfl) (by decide +kernel)) (SndL.c (s_fail) (SndL.c (s_fail) (SndL.c (s_iload (by decide +kernel)) (SndL.c (s_fail) (SndL.c (s_iald (by decide +kernel)) (SndL.c (s_iast (by decide +kernel)) (SndL.c (s_aload_n (k := 0) (by decide +kernel) rfl) (SndL.c (s_getf (k := 61) clok13 (by decide) rfl (by decide) rfl w_5_163 (Or.inl rfl) (by decide +kernel)) (SndL.n))))))))))))))))
def kX12_decide_14 : List En := [(1, oFail), (1, oFail), (0, oIload 9 228), (1, oFail), (0, oRload 0 229), (0, oGetf 14 0 0 232), (1, oFail), (1, oFail), (0, oIast 233), (0, oRload 0 234), (0, oGetf 14 62 2 237), (1, oFail), (1, oFail), (0, oIload 9 239), (1, oFail), (0, oIload 3 240)]
set_option maxRecDepth 20000 in
theorem zX12_decide_14 : SndL mX12_decide 224 kX12_decide_14 := SndL.c (s_fail) (SndL.c (s_fail) (SndL.c (s_iload (by decide +kernel)) (SndL.c (s_fail) (SndL.c (s_aload_n (k := 0) (by decide +kernel) rfl) (SndL.c (s_getf (k := 0) clok13 (by decide) rfl (by decide) rfl w_5_102 (Or.inl rfl) (by decide +kernel)) (SndL.c (s_fail) (SndL.c (s_fail) (SndL.c (s_iast (by decide +kernel)) (SndL.c (s_aload_n (k := 0) (by decide +kernel) rfl) (SndL.c (s_getf (k := 62) clok13 (by decide) rfl (by decide) rfl w_5_164 (Or.inl rfl) (by decide +kernel)) (SndL.c (s_fail) (SndL.c (s_fail) (SndL.c (s_iload (by decide +kernel)) (SndL.c (s_fail) (SndL.c (s_iload_n (k := 3) (by decide +kernel) rfl) (SndL.n))))))))))))))))
def kX12_decide_15 : List En := [(0, oIast 241), (0, oRload 0 242), (0, oGetf 14 63 2 245), (1, oFail), (1, oFail), (0, oIload 9 247), (1, oFail), (0, oIload 4 249), (1, oFail), (0, oIast 250), (0, oRload 0 251), (0, oGetf 14 67 2 254), (1, oFail), (1, oFail), (0, oIload 9 256), (1, oFail)]
set_option maxRecDepth 20000 in
theorem zX12_decide_15 : SndL mX12_decide 240 kX12_decide_15 := SndL.c (s_iast (by decide +kernel)) (SndL.c (s_aload_n (k := 0) (by decide +kernel) rfl) (SndL.c (s_getf (k := 63) clok13 (by decide) rfl (by decide) rfl w_5_165 (Or.inl rfl) (by decide +kernel)) (SndL.c (s_fail) (SndL.c (s_fail) (SndL.c (s_iload (by decide +kernel)) (SndL.c (s_fail) (SndL.c (s_iload (by decide +kernel)) (SndL.c (s_fail) (SndL.c (s_iast (by decide +kernel)) (SndL.c (s_aload_n (k := 0) (by decide +kernel) rfl) (SndL.c (s_getf (k := 67) clok13 (by decide) rfl (by decide) rfl w_5_169 (Or.inl rfl) (by decide +kernel)) (SndL.c (s_fail) (SndL.c (s_fail) (SndL.c (s_iload (by decide +kernel)) (SndL.c (s_fail) (SndL.n))))))))))))))))
def kX12_decide_16 : List En := [(0, oPush (vI 2) 257), (0, oIload 7 259), (1, oFail), (0, oImul 260), (0, oIload 8 262), (1, oFail), (0, oIcLe 269 265), (1, oFail), (1, oFail), (0, oPush (vI 1) 266), (0, oGoto 270), (1, oFail), (1, oFail), (0, oPush (vI 0) 270), (0, oZast 271), (0, oRload 0 272)]
set_option maxRecDepth 20000 in
theorem zX12_decide_16 : SndL mX12_decide 256 kX12_decide_16 := SndL.c (s_iconst (by decide +kernel) (in32_d (by decide))) (SndL.c (s_iload (by decide +kernel)) (SndL.c (s_fail) (SndL.c (s_imul (by decide +kernel)) (SndL.c (s_iload (by decide +kernel)) (SndL.c (s_fail) (SndL.c (s_ic_le (off := 7) (by decide +kernel) (by decide)) (SndL.c (s_fail) (SndL.c (s_fail) (SndL.c (s_iconst (by decide +kernel) (in32_d (by decide))) (SndL.c (s_goto (off := 4) (by decide +kernel) (by decide)) (SndL.c (s_fail) (SndL.c (s_fail) (SndL.c (s_iconst (by decide +kernel) (in32_d (by decide))) (SndL.c (s_zast (by decide +kernel)) (SndL.c (s_aload_n (k := 0) (by decide +kernel) rfl) (SndL.n))))))))))))))))
def kX12_decide_17 : List En := [(0, oGetf 14 65 2 275), (1, oFail), (1, oFail), (0, oIload 9 277), (1, oFail), (0, oPush (vI 0) 278), (0, oIast 279), (0, oRload 0 280), (0, oGetf 14 66 2 283), (1, oFail), (1, oFail), (0, oIload 9 285), (1, oFail), (0, oIload 8 287), (1, oFail), (0, oIast 288)]
set_option maxRecDepth 20000 in
theorem zX12_decide_17 : SndL mX12_decide 272 kX12_decide_17 := SndL.c (s_getf (k := 65) clok13 (by decide) rfl (by decide) rfl w_5_167 (Or.inl rfl) (by decide +kernel)) (SndL.c (s_fail) (SndL.c (s_fail) (SndL.c (s_iload (by decide +kernel)) (SndL.c (s_fail) (SndL.c (s_iconst (by decide +kernel) (in32_d (by decide))) (SndL.c (s_iast (by decide +kernel)) (SndL.c (s_aload_n (k := 0) (by decide +kernel) rfl) (SndL.c (s_getf (k := 66) clok13 (by decide) rfl (by decide) rfl w_5_168 (Or.inl rfl) (by decide +kernel)) (SndL.c (s_fail) (SndL.c (s_fail) (SndL.c (s_iload (by decide +kernel)) (SndL.c (s_fail) (SndL.c (s_iload (by decide +kernel)) (SndL.c (s_fail) (SndL.c (s_iast (by decide +kernel)) (SndL.n))))))))))))))))
def kX12_decide_18 : List En := [(0, oRload 0 289), (0, oDup 290), (0, oGetf 14 6 0 293), (1, oFail), (1, oFail), (0, oDupx1 294), (0, oPush (vI 1) 295), (0, oIadd 296), (0, oPutf 14 6 0 299), (1, oFail), (1, oFail), (0, oRetI)]
set_option maxRecDepth 20000 in
theorem zX12_decide_18 : SndL mX12_decide 288 kX12_decide_18 := SndL.c (s_aload_n (k := 0) (by decide +kernel) rfl) (SndL.c (s_dup (by decide +kernel)) (SndL.c (s_getf (k := 6) clok13 (by decide) rfl (by decide) rfl w_5_108 (Or.inl rfl) (by decide +kernel)) (SndL.c (s_fail) (SndL.c (s_fail) (SndL.c (s_dupx1 (by decide +kernel)) (SndL.c (s_iconst (by decide +kernel) (in32_d (by decide))) (SndL.c (s_iadd (by decide +kernel)) (SndL.c (s_putf (k := 6) clok13 (by decide) rfl (by decide) rfl w_5_108 (Or.inl rfl) (Or.inl rfl) (by decide +kernel)) (SndL.c (s_fail) (SndL.c (s_fail) (SndL.c (s_ret_i rfl (by decide +kernel)) (SndL.n))))))))))))
def kX12_decide : Cd := [kX12_decide_0, kX12_decide_1, kX12_decide_2, kX12_decide_3, kX12_decide_4, kX12_decide_5, kX12_decide_6, kX12_decide_7, kX12_decide_8, kX12_decide_9, kX12_decide_10, kX12_decide_11, kX12_decide_12, kX12_decide_13, kX12_decide_14, kX12_decide_15, kX12_decide_16, kX12_decide_17, kX12_decide_18]
theorem zX12_decide : SndC mX12_decide 0 kX12_decide := SndC.c zX12_decide_0 (by decide) (SndC.c zX12_decide_1 (by decide) (SndC.c zX12_decide_2 (by decide) (SndC.c zX12_decide_3 (by decide) (SndC.c zX12_decide_4 (by decide) (SndC.c zX12_decide_5 (by decide) (SndC.c zX12_decide_6 (by decide) (SndC.c zX12_decide_7 (by decide) (SndC.c zX12_decide_8 (by decide) (SndC.c zX12_decide_9 (by decide) (SndC.c zX12_decide_10 (by decide) (SndC.c zX12_decide_11 (by decide) (SndC.c zX12_decide_12 (by decide) (SndC.c zX12_decide_13 (by decide) (SndC.c zX12_decide_14 (by decide) (SndC.c zX12_decide_15 (by decide) (SndC.c zX12_decide_16 (by decide) (SndC.c zX12_decide_17 (by decide) (SndC.c zX12_decide_18 (by decide) (SndC.n)))))))))))))))))))
theorem aX12_decide_0 : at_ kX12_decide 0 = (0, oRload 0 1) := rfl
theorem aX12_decide_1 : at_ kX12_decide 1 = (0, oIload 1 2) := rfl
theorem aX12_decide_2 : at_ kX12_decide 2 = (0, oIload 2 3) := rfl
theorem aX12_decide_3 : at_ kX12_decide 3 = (2, oInvV 14 mX12_phraseOf 2 6) := rfl
theorem aX12_decide_6 : at_ kX12_decide 6 = (0, oIstore 5 8) := rfl
theorem aX12_decide_8 : at_ kX12_decide 8 = (0, oIload 5 10) := rfl
theorem aX12_decide_10 : at_ kX12_decide 10 = (0, oPush (vI (-1)) 11) := rfl
theorem aX12_decide_11 : at_ kX12_decide 11 = (0, oIcEq 44 14) := rfl
theorem aX12_decide_14 : at_ kX12_decide 14 = (0, oIload 3 15) := rfl
theorem aX12_decide_15 : at_ kX12_decide 15 = (0, oIfLt 44 18) := rfl
theorem aX12_decide_18 : at_ kX12_decide 18 = (0, oIload 3 19) := rfl
theorem aX12_decide_19 : at_ kX12_decide 19 = (0, oPush (vI 1) 20) := rfl
theorem aX12_decide_20 : at_ kX12_decide 20 = (0, oRload 0 21) := rfl
theorem aX12_decide_21 : at_ kX12_decide 21 = (0, oGetf 14 5 0 24) := rfl
theorem aX12_decide_24 : at_ kX12_decide 24 = (0, oIshl 25) := rfl
theorem aX12_decide_25 : at_ kX12_decide 25 = (0, oIcGe 44 28) := rfl
theorem aX12_decide_28 : at_ kX12_decide 28 = (0, oIload 4 30) := rfl
theorem aX12_decide_30 : at_ kX12_decide 30 = (0, oIfLt 44 33) := rfl
theorem aX12_decide_33 : at_ kX12_decide 33 = (0, oIload 4 35) := rfl
theorem aX12_decide_35 : at_ kX12_decide 35 = (0, oPush (vI 1) 36) := rfl
theorem aX12_decide_36 : at_ kX12_decide 36 = (0, oRload 0 37) := rfl
theorem aX12_decide_37 : at_ kX12_decide 37 = (0, oGetf 14 5 0 40) := rfl
theorem aX12_decide_40 : at_ kX12_decide 40 = (0, oIshl 41) := rfl
theorem aX12_decide_41 : at_ kX12_decide 41 = (0, oIcLt 50 44) := rfl
theorem aX12_decide_44 : at_ kX12_decide 44 = (0, oRload 0 45) := rfl
theorem aX12_decide_45 : at_ kX12_decide 45 = (0, oPush (vI (-1)) 46) := rfl
theorem aX12_decide_46 : at_ kX12_decide 46 = (2, oInvV 14 mX12_no 1 49) := rfl
theorem aX12_decide_49 : at_ kX12_decide 49 = (0, oRetI) := rfl
theorem aX12_decide_50 : at_ kX12_decide 50 = (0, oRload 0 51) := rfl
theorem aX12_decide_51 : at_ kX12_decide 51 = (0, oGetf 14 20 2 54) := rfl
theorem aX12_decide_54 : at_ kX12_decide 54 = (0, oIload 1 55) := rfl
theorem aX12_decide_55 : at_ kX12_decide 55 = (0, oIald 56) := rfl
theorem aX12_decide_56 : at_ kX12_decide 56 = (0, oIstore 6 58) := rfl
theorem aX12_decide_58 : at_ kX12_decide 58 = (0, oRload 0 59) := rfl
theorem aX12_decide_59 : at_ kX12_decide 59 = (0, oIload 3 60) := rfl
theorem aX12_decide_60 : at_ kX12_decide 60 = (0, oIload 6 62) := rfl
theorem aX12_decide_62 : at_ kX12_decide 62 = (2, oInvV 14 mX12_counted 2 65) := rfl
theorem aX12_decide_65 : at_ kX12_decide 65 = (0, oIstore 7 67) := rfl
theorem aX12_decide_67 : at_ kX12_decide 67 = (0, oIload 7 69) := rfl
theorem aX12_decide_69 : at_ kX12_decide 69 = (0, oRload 0 70) := rfl
theorem aX12_decide_70 : at_ kX12_decide 70 = (0, oIload 4 72) := rfl
theorem aX12_decide_72 : at_ kX12_decide 72 = (0, oIload 6 74) := rfl
theorem aX12_decide_74 : at_ kX12_decide 74 = (2, oInvV 14 mX12_counted 2 77) := rfl
theorem aX12_decide_77 : at_ kX12_decide 77 = (0, oIadd 78) := rfl
theorem aX12_decide_78 : at_ kX12_decide 78 = (0, oIstore 8 80) := rfl
theorem aX12_decide_80 : at_ kX12_decide 80 = (0, oIload 3 81) := rfl
theorem aX12_decide_81 : at_ kX12_decide 81 = (0, oIload 4 83) := rfl
theorem aX12_decide_83 : at_ kX12_decide 83 = (0, oIand 84) := rfl
theorem aX12_decide_84 : at_ kX12_decide 84 = (0, oIfNe 93 87) := rfl
theorem aX12_decide_87 : at_ kX12_decide 87 = (0, oIload 8 89) := rfl
theorem aX12_decide_89 : at_ kX12_decide 89 = (0, oPush (vI 3) 90) := rfl
theorem aX12_decide_90 : at_ kX12_decide 90 = (0, oIcGe 100 93) := rfl
theorem aX12_decide_93 : at_ kX12_decide 93 = (0, oRload 0 94) := rfl
theorem aX12_decide_94 : at_ kX12_decide 94 = (0, oPush (vI (-6)) 96) := rfl
theorem aX12_decide_96 : at_ kX12_decide 96 = (2, oInvV 14 mX12_no 1 99) := rfl
theorem aX12_decide_99 : at_ kX12_decide 99 = (0, oRetI) := rfl
theorem aX12_decide_100 : at_ kX12_decide 100 = (0, oRload 0 101) := rfl
theorem aX12_decide_101 : at_ kX12_decide 101 = (0, oGetf 14 6 0 104) := rfl
theorem aX12_decide_104 : at_ kX12_decide 104 = (0, oPush (vI 40) 106) := rfl
theorem aX12_decide_106 : at_ kX12_decide 106 = (0, oIcNe 116 109) := rfl
theorem aX12_decide_109 : at_ kX12_decide 109 = (0, oRload 0 110) := rfl
theorem aX12_decide_110 : at_ kX12_decide 110 = (0, oPush (vI (-7)) 112) := rfl
theorem aX12_decide_112 : at_ kX12_decide 112 = (2, oInvV 14 mX12_no 1 115) := rfl
theorem aX12_decide_115 : at_ kX12_decide 115 = (0, oRetI) := rfl
theorem aX12_decide_116 : at_ kX12_decide 116 = (0, oRload 0 117) := rfl
theorem aX12_decide_117 : at_ kX12_decide 117 = (0, oGetf 14 6 0 120) := rfl
theorem aX12_decide_120 : at_ kX12_decide 120 = (0, oIstore 9 122) := rfl
theorem aX12_decide_122 : at_ kX12_decide 122 = (0, oRload 0 123) := rfl
theorem aX12_decide_123 : at_ kX12_decide 123 = (0, oGetf 14 64 2 126) := rfl
theorem aX12_decide_126 : at_ kX12_decide 126 = (0, oIload 9 128) := rfl
theorem aX12_decide_128 : at_ kX12_decide 128 = (0, oRload 0 129) := rfl
theorem aX12_decide_129 : at_ kX12_decide 129 = (0, oIload 1 130) := rfl
theorem aX12_decide_130 : at_ kX12_decide 130 = (0, oIload 5 132) := rfl
theorem aX12_decide_132 : at_ kX12_decide 132 = (2, oInvV 14 mX12_bindingOn 2 135) := rfl
theorem aX12_decide_135 : at_ kX12_decide 135 = (0, oIast 136) := rfl
theorem aX12_decide_136 : at_ kX12_decide 136 = (0, oRload 0 137) := rfl
theorem aX12_decide_137 : at_ kX12_decide 137 = (0, oGetf 14 68 2 140) := rfl
theorem aX12_decide_140 : at_ kX12_decide 140 = (0, oIload 9 142) := rfl
theorem aX12_decide_142 : at_ kX12_decide 142 = (0, oRload 0 143) := rfl
theorem aX12_decide_143 : at_ kX12_decide 143 = (0, oIload 1 144) := rfl
theorem aX12_decide_144 : at_ kX12_decide 144 = (0, oIload 5 146) := rfl
theorem aX12_decide_146 : at_ kX12_decide 146 = (0, oRload 0 147) := rfl
theorem aX12_decide_147 : at_ kX12_decide 147 = (0, oGetf 14 0 0 150) := rfl
theorem aX12_decide_150 : at_ kX12_decide 150 = (0, oRload 0 151) := rfl
theorem aX12_decide_151 : at_ kX12_decide 151 = (0, oGetf 14 0 0 154) := rfl
theorem aX12_decide_154 : at_ kX12_decide 154 = (2, oInvV 14 mX12_isAgain 4 157) := rfl
theorem aX12_decide_157 : at_ kX12_decide 157 = (0, oZast 158) := rfl
theorem aX12_decide_158 : at_ kX12_decide 158 = (0, oRload 0 159) := rfl
theorem aX12_decide_159 : at_ kX12_decide 159 = (0, oGetf 14 56 2 162) := rfl
theorem aX12_decide_162 : at_ kX12_decide 162 = (0, oIload 9 164) := rfl
theorem aX12_decide_164 : at_ kX12_decide 164 = (0, oIload 6 166) := rfl
theorem aX12_decide_166 : at_ kX12_decide 166 = (0, oIast 167) := rfl
theorem aX12_decide_167 : at_ kX12_decide 167 = (0, oRload 0 168) := rfl
theorem aX12_decide_168 : at_ kX12_decide 168 = (0, oGetf 14 57 2 171) := rfl
theorem aX12_decide_171 : at_ kX12_decide 171 = (0, oIload 9 173) := rfl
theorem aX12_decide_173 : at_ kX12_decide 173 = (0, oRload 0 174) := rfl
theorem aX12_decide_174 : at_ kX12_decide 174 = (0, oGetf 14 21 2 177) := rfl
theorem aX12_decide_177 : at_ kX12_decide 177 = (0, oIload 1 178) := rfl
theorem aX12_decide_178 : at_ kX12_decide 178 = (0, oIald 179) := rfl
theorem aX12_decide_179 : at_ kX12_decide 179 = (0, oIast 180) := rfl
theorem aX12_decide_180 : at_ kX12_decide 180 = (0, oRload 0 181) := rfl
theorem aX12_decide_181 : at_ kX12_decide 181 = (0, oGetf 14 58 2 184) := rfl
theorem aX12_decide_184 : at_ kX12_decide 184 = (0, oIload 9 186) := rfl
theorem aX12_decide_186 : at_ kX12_decide 186 = (0, oRload 0 187) := rfl
theorem aX12_decide_187 : at_ kX12_decide 187 = (0, oGetf 14 34 2 190) := rfl
theorem aX12_decide_190 : at_ kX12_decide 190 = (0, oIload 5 192) := rfl
theorem aX12_decide_192 : at_ kX12_decide 192 = (0, oIald 193) := rfl
theorem aX12_decide_193 : at_ kX12_decide 193 = (0, oIast 194) := rfl
theorem aX12_decide_194 : at_ kX12_decide 194 = (0, oRload 0 195) := rfl
theorem aX12_decide_195 : at_ kX12_decide 195 = (0, oGetf 14 59 2 198) := rfl
theorem aX12_decide_198 : at_ kX12_decide 198 = (0, oIload 9 200) := rfl
theorem aX12_decide_200 : at_ kX12_decide 200 = (0, oRload 0 201) := rfl
theorem aX12_decide_201 : at_ kX12_decide 201 = (0, oGetf 14 35 2 204) := rfl
theorem aX12_decide_204 : at_ kX12_decide 204 = (0, oIload 5 206) := rfl
theorem aX12_decide_206 : at_ kX12_decide 206 = (0, oIald 207) := rfl
theorem aX12_decide_207 : at_ kX12_decide 207 = (0, oIast 208) := rfl
theorem aX12_decide_208 : at_ kX12_decide 208 = (0, oRload 0 209) := rfl
theorem aX12_decide_209 : at_ kX12_decide 209 = (0, oGetf 14 60 2 212) := rfl
theorem aX12_decide_212 : at_ kX12_decide 212 = (0, oIload 9 214) := rfl
theorem aX12_decide_214 : at_ kX12_decide 214 = (0, oRload 0 215) := rfl
theorem aX12_decide_215 : at_ kX12_decide 215 = (0, oGetf 14 36 2 218) := rfl
theorem aX12_decide_218 : at_ kX12_decide 218 = (0, oIload 5 220) := rfl
theorem aX12_decide_220 : at_ kX12_decide 220 = (0, oIald 221) := rfl
theorem aX12_decide_221 : at_ kX12_decide 221 = (0, oIast 222) := rfl
theorem aX12_decide_222 : at_ kX12_decide 222 = (0, oRload 0 223) := rfl
theorem aX12_decide_223 : at_ kX12_decide 223 = (0, oGetf 14 61 2 226) := rfl
theorem aX12_decide_226 : at_ kX12_decide 226 = (0, oIload 9 228) := rfl
theorem aX12_decide_228 : at_ kX12_decide 228 = (0, oRload 0 229) := rfl
theorem aX12_decide_229 : at_ kX12_decide 229 = (0, oGetf 14 0 0 232) := rfl
theorem aX12_decide_232 : at_ kX12_decide 232 = (0, oIast 233) := rfl
theorem aX12_decide_233 : at_ kX12_decide 233 = (0, oRload 0 234) := rfl
theorem aX12_decide_234 : at_ kX12_decide 234 = (0, oGetf 14 62 2 237) := rfl
theorem aX12_decide_237 : at_ kX12_decide 237 = (0, oIload 9 239) := rfl
theorem aX12_decide_239 : at_ kX12_decide 239 = (0, oIload 3 240) := rfl
theorem aX12_decide_240 : at_ kX12_decide 240 = (0, oIast 241) := rfl
theorem aX12_decide_241 : at_ kX12_decide 241 = (0, oRload 0 242) := rfl
theorem aX12_decide_242 : at_ kX12_decide 242 = (0, oGetf 14 63 2 245) := rfl
theorem aX12_decide_245 : at_ kX12_decide 245 = (0, oIload 9 247) := rfl
theorem aX12_decide_247 : at_ kX12_decide 247 = (0, oIload 4 249) := rfl
theorem aX12_decide_249 : at_ kX12_decide 249 = (0, oIast 250) := rfl
theorem aX12_decide_250 : at_ kX12_decide 250 = (0, oRload 0 251) := rfl
theorem aX12_decide_251 : at_ kX12_decide 251 = (0, oGetf 14 67 2 254) := rfl
theorem aX12_decide_254 : at_ kX12_decide 254 = (0, oIload 9 256) := rfl
theorem aX12_decide_256 : at_ kX12_decide 256 = (0, oPush (vI 2) 257) := rfl
theorem aX12_decide_257 : at_ kX12_decide 257 = (0, oIload 7 259) := rfl
theorem aX12_decide_259 : at_ kX12_decide 259 = (0, oImul 260) := rfl
theorem aX12_decide_260 : at_ kX12_decide 260 = (0, oIload 8 262) := rfl
theorem aX12_decide_262 : at_ kX12_decide 262 = (0, oIcLe 269 265) := rfl
theorem aX12_decide_265 : at_ kX12_decide 265 = (0, oPush (vI 1) 266) := rfl
theorem aX12_decide_266 : at_ kX12_decide 266 = (0, oGoto 270) := rfl
theorem aX12_decide_269 : at_ kX12_decide 269 = (0, oPush (vI 0) 270) := rfl
theorem aX12_decide_270 : at_ kX12_decide 270 = (0, oZast 271) := rfl
theorem aX12_decide_271 : at_ kX12_decide 271 = (0, oRload 0 272) := rfl
theorem aX12_decide_272 : at_ kX12_decide 272 = (0, oGetf 14 65 2 275) := rfl
theorem aX12_decide_275 : at_ kX12_decide 275 = (0, oIload 9 277) := rfl
theorem aX12_decide_277 : at_ kX12_decide 277 = (0, oPush (vI 0) 278) := rfl
theorem aX12_decide_278 : at_ kX12_decide 278 = (0, oIast 279) := rfl
theorem aX12_decide_279 : at_ kX12_decide 279 = (0, oRload 0 280) := rfl
theorem aX12_decide_280 : at_ kX12_decide 280 = (0, oGetf 14 66 2 283) := rfl
theorem aX12_decide_283 : at_ kX12_decide 283 = (0, oIload 9 285) := rfl
theorem aX12_decide_285 : at_ kX12_decide 285 = (0, oIload 8 287) := rfl
theorem aX12_decide_287 : at_ kX12_decide 287 = (0, oIast 288) := rfl
theorem aX12_decide_288 : at_ kX12_decide 288 = (0, oRload 0 289) := rfl
theorem aX12_decide_289 : at_ kX12_decide 289 = (0, oDup 290) := rfl
theorem aX12_decide_290 : at_ kX12_decide 290 = (0, oGetf 14 6 0 293) := rfl
theorem aX12_decide_293 : at_ kX12_decide 293 = (0, oDupx1 294) := rfl
theorem aX12_decide_294 : at_ kX12_decide 294 = (0, oPush (vI 1) 295) := rfl
theorem aX12_decide_295 : at_ kX12_decide 295 = (0, oIadd 296) := rfl
theorem aX12_decide_296 : at_ kX12_decide 296 = (0, oPutf 14 6 0 299) := rfl
theorem aX12_decide_299 : at_ kX12_decide 299 = (0, oRetI) := rfl
def kX12_isRuling_0 : List En := [(0, oIload 1 1), (0, oIfLt 16 4), (1, oFail), (1, oFail), (0, oIload 1 5), (0, oRload 0 6), (0, oGetf 14 6 0 9), (1, oFail), (1, oFail), (0, oIcGe 16 12), (1, oFail), (1, oFail), (0, oPush (vI 1) 13), (0, oGoto 17), (1, oFail), (1, oFail)]
set_option maxRecDepth 20000 in
theorem zX12_isRuling_0 : SndL mX12_isRuling 0 kX12_isRuling_0 := SndL.c (s_iload_n (k := 1) (by decide +kernel) rfl) (SndL.c (s_if_lt (off := 15) (by decide +kernel) (by decide)) (SndL.c (s_fail) (SndL.c (s_fail) (SndL.c (s_iload_n (k := 1) (by decide +kernel) rfl) (SndL.c (s_aload_n (k := 0) (by decide +kernel) rfl) (SndL.c (s_getf (k := 6) clok13 (by decide) rfl (by decide) rfl w_5_108 (Or.inl rfl) (by decide +kernel)) (SndL.c (s_fail) (SndL.c (s_fail) (SndL.c (s_ic_ge (off := 7) (by decide +kernel) (by decide)) (SndL.c (s_fail) (SndL.c (s_fail) (SndL.c (s_iconst (by decide +kernel) (in32_d (by decide))) (SndL.c (s_goto (off := 4) (by decide +kernel) (by decide)) (SndL.c (s_fail) (SndL.c (s_fail) (SndL.n))))))))))))))))
def kX12_isRuling_1 : List En := [(0, oPush (vI 0) 17), (0, oRetZ)]
set_option maxRecDepth 20000 in
theorem zX12_isRuling_1 : SndL mX12_isRuling 16 kX12_isRuling_1 := SndL.c (s_iconst (by decide +kernel) (in32_d (by decide))) (SndL.c (s_ret_z rfl (by decide +kernel)) (SndL.n))
def kX12_isRuling : Cd := [kX12_isRuling_0, kX12_isRuling_1]
theorem zX12_isRuling : SndC mX12_isRuling 0 kX12_isRuling := SndC.c zX12_isRuling_0 (by decide) (SndC.c zX12_isRuling_1 (by decide) (SndC.n))
theorem aX12_isRuling_0 : at_ kX12_isRuling 0 = (0, oIload 1 1) := rfl
theorem aX12_isRuling_1 : at_ kX12_isRuling 1 = (0, oIfLt 16 4) := rfl
theorem aX12_isRuling_4 : at_ kX12_isRuling 4 = (0, oIload 1 5) := rfl
theorem aX12_isRuling_5 : at_ kX12_isRuling 5 = (0, oRload 0 6) := rfl
theorem aX12_isRuling_6 : at_ kX12_isRuling 6 = (0, oGetf 14 6 0 9) := rfl
theorem aX12_isRuling_9 : at_ kX12_isRuling 9 = (0, oIcGe 16 12) := rfl
theorem aX12_isRuling_12 : at_ kX12_isRuling 12 = (0, oPush (vI 1) 13) := rfl
theorem aX12_isRuling_13 : at_ kX12_isRuling 13 = (0, oGoto 17) := rfl
theorem aX12_isRuling_16 : at_ kX12_isRuling 16 = (0, oPush (vI 0) 17) := rfl
theorem aX12_isRuling_17 : at_ kX12_isRuling 17 = (0, oRetZ) := rfl
def kX12_ruling_0 : List En := [(0, oRload 0 1), (0, oIload 1 2), (2, oInvV 14 mX12_isRuling 1 5), (1, oFail), (1, oFail), (0, oIfNe 10 8), (1, oFail), (1, oFail), (0, oPush (vI (-1)) 9), (0, oRetI), (0, oIload 2 11), (0, oSwitch 0 10 [68, 75, 82, 89, 96, 103, 110, 125, 140, 147, 154] 161), (1, oFail), (1, oFail), (1, oFail), (1, oFail)]
set_option maxRecDepth 20000 in
theorem zX12_ruling_0 : SndL mX12_ruling 0 kX12_ruling_0 := SndL.c (s_aload_n (k := 0) (by decide +kernel) rfl) (SndL.c (s_iload_n (k := 1) (by decide +kernel) rfl) (SndL.c (s_invV (r := (RX12, TX12, 90)) (ci := 13) okX12_isRuling rfl (by decide) rfl rfl w_7_132 w_7_134 v_59 (by decide +kernel)) (SndL.c (s_fail) (SndL.c (s_fail) (SndL.c (s_if_ne (off := 5) (by decide +kernel) (by decide)) (SndL.c (s_fail) (SndL.c (s_fail) (SndL.c (s_iconst (by decide +kernel) (in32_d (by decide))) (SndL.c (s_ret_i rfl (by decide +kernel)) (SndL.c (s_iload_n (k := 2) (by decide +kernel) rfl) (SndL.c (s_switch2 (dflt := 150) (lo := 0) (hi := 10) (len := 57) (offs := #[57, 64, 71, 78, 85, 92, 99, 114, 129, 136, 143]) (by decide +kernel) (by decide) (by decide +kernel) (by decide +kernel)) (SndL.c (s_fail) (SndL.c (s_fail) (SndL.c (s_fail) (SndL.c (s_fail) (SndL.n))))))))))))))))
def kX12_ruling_1 : List En := [(1, oFail), (1, oFail), (1, oFail), (1, oFail), (1, oFail), (1, oFail), (1, oFail), (1, oFail), (1, oFail), (1, oFail), (1, oFail), (1, oFail), (1, oFail), (1, oFail), (1, oFail), (1, oFail)]
set_option maxRecDepth 20000 in
theorem zX12_ruling_1 : SndL mX12_ruling 16 kX12_ruling_1 := SndL.c (s_fail) (SndL.c (s_fail) (SndL.c (s_fail) (SndL.c (s_fail) (SndL.c (s_fail) (SndL.c (s_fail) (SndL.c (s_fail) (SndL.c (s_fail) (SndL.c (s_fail) (SndL.c (s_fail) (SndL.c (s_fail) (SndL.c (s_fail) (SndL.c (s_fail) (SndL.c (s_fail) (SndL.c (s_fail) (SndL.c (s_fail) (SndL.n))))))))))))))))
def kX12_ruling_2 : List En := [(1, oFail), (1, oFail), (1, oFail), (1, oFail), (1, oFail), (1, oFail), (1, oFail), (1, oFail), (1, oFail), (1, oFail), (1, oFail), (1, oFail), (1, oFail), (1, oFail), (1, oFail), (1, oFail)]
set_option maxRecDepth 20000 in
theorem zX12_ruling_2 : SndL mX12_ruling 32 kX12_ruling_2 := SndL.c (s_fail) (SndL.c (s_fail) (SndL.c (s_fail) (SndL.c (s_fail) (SndL.c (s_fail) (SndL.c (s_fail) (SndL.c (s_fail) (SndL.c (s_fail) (SndL.c (s_fail) (SndL.c (s_fail) (SndL.c (s_fail) (SndL.c (s_fail) (SndL.c (s_fail) (SndL.c (s_fail) (SndL.c (s_fail) (SndL.c (s_fail) (SndL.n))))))))))))))))
def kX12_ruling_3 : List En := [(1, oFail), (1, oFail), (1, oFail), (1, oFail), (1, oFail), (1, oFail), (1, oFail), (1, oFail), (1, oFail), (1, oFail), (1, oFail), (1, oFail), (1, oFail), (1, oFail), (1, oFail), (1, oFail)]
set_option maxRecDepth 20000 in
theorem zX12_ruling_3 : SndL mX12_ruling 48 kX12_ruling_3 := SndL.c (s_fail) (SndL.c (s_fail) (SndL.c (s_fail) (SndL.c (s_fail) (SndL.c (s_fail) (SndL.c (s_fail) (SndL.c (s_fail) (SndL.c (s_fail) (SndL.c (s_fail) (SndL.c (s_fail) (SndL.c (s_fail) (SndL.c (s_fail) (SndL.c (s_fail) (SndL.c (s_fail) (SndL.c (s_fail) (SndL.c (s_fail) (SndL.n))))))))))))))))
def kX12_ruling_4 : List En := [(1, oFail), (1, oFail), (1, oFail), (1, oFail), (0, oRload 0 69), (0, oGetf 14 56 2 72), (1, oFail), (1, oFail), (0, oIload 1 73), (0, oIald 74), (0, oRetI), (0, oRload 0 76), (0, oGetf 14 57 2 79), (1, oFail), (1, oFail), (0, oIload 1 80)]
set_option maxRecDepth 20000 in
theorem zX12_ruling_4 : SndL mX12_ruling 64 kX12_ruling_4 := SndL.c (s_fail) (SndL.c (s_fail) (SndL.c (s_fail) (SndL.c (s_fail) (SndL.c (s_aload_n (k := 0) (by decide +kernel) rfl) (SndL.c (s_getf (k := 56) clok13 (by decide) rfl (by decide) rfl w_5_158 (Or.inl rfl) (by decide +kernel)) (SndL.c (s_fail) (SndL.c (s_fail) (SndL.c (s_iload_n (k := 1) (by decide +kernel) rfl) (SndL.c (s_iald (by decide +kernel)) (SndL.c (s_ret_i rfl (by decide +kernel)) (SndL.c (s_aload_n (k := 0) (by decide +kernel) rfl) (SndL.c (s_getf (k := 57) clok13 (by decide) rfl (by decide) rfl w_5_159 (Or.inl rfl) (by decide +kernel)) (SndL.c (s_fail) (SndL.c (s_fail) (SndL.c (s_iload_n (k := 1) (by decide +kernel) rfl) (SndL.n))))))))))))))))
def kX12_ruling_5 : List En := [(0, oIald 81), (0, oRetI), (0, oRload 0 83), (0, oGetf 14 58 2 86), (1, oFail), (1, oFail), (0, oIload 1 87), (0, oIald 88), (0, oRetI), (0, oRload 0 90), (0, oGetf 14 59 2 93), (1, oFail), (1, oFail), (0, oIload 1 94), (0, oIald 95), (0, oRetI)]
set_option maxRecDepth 20000 in
theorem zX12_ruling_5 : SndL mX12_ruling 80 kX12_ruling_5 := SndL.c (s_iald (by decide +kernel)) (SndL.c (s_ret_i rfl (by decide +kernel)) (SndL.c (s_aload_n (k := 0) (by decide +kernel) rfl) (SndL.c (s_getf (k := 58) clok13 (by decide) rfl (by decide) rfl w_5_160 (Or.inl rfl) (by decide +kernel)) (SndL.c (s_fail) (SndL.c (s_fail) (SndL.c (s_iload_n (k := 1) (by decide +kernel) rfl) (SndL.c (s_iald (by decide +kernel)) (SndL.c (s_ret_i rfl (by decide +kernel)) (SndL.c (s_aload_n (k := 0) (by decide +kernel) rfl) (SndL.c (s_getf (k := 59) clok13 (by decide) rfl (by decide) rfl w_5_161 (Or.inl rfl) (by decide +kernel)) (SndL.c (s_fail) (SndL.c (s_fail) (SndL.c (s_iload_n (k := 1) (by decide +kernel) rfl) (SndL.c (s_iald (by decide +kernel)) (SndL.c (s_ret_i rfl (by decide +kernel)) (SndL.n))))))))))))))))
def kX12_ruling_6 : List En := [(0, oRload 0 97), (0, oGetf 14 60 2 100), (1, oFail), (1, oFail), (0, oIload 1 101), (0, oIald 102), (0, oRetI), (0, oRload 0 104), (0, oGetf 14 61 2 107), (1, oFail), (1, oFail), (0, oIload 1 108), (0, oIald 109), (0, oRetI), (0, oRload 0 111), (0, oGetf 14 67 2 114)]
set_option maxRecDepth 20000 in
theorem zX12_ruling_6 : SndL mX12_ruling 96 kX12_ruling_6 := SndL.c (s_aload_n (k := 0) (by decide +kernel) rfl) (SndL.c (s_getf (k := 60) clok13 (by decide) rfl (by decide) rfl w_5_162 (Or.inl rfl) (by decide +kernel)) (SndL.c (s_fail) (SndL.c (s_fail) (SndL.c (s_iload_n (k := 1) (by decide +kernel) rfl) (SndL.c (s_iald (by decide +kernel)) (SndL.c (s_ret_i rfl (by decide +kernel)) (SndL.c (s_aload_n (k := 0) (by decide +kernel) rfl) (SndL.c (s_getf (k := 61) clok13 (by decide) rfl (by decide) rfl w_5_163 (Or.inl rfl) (by decide +kernel)) (SndL.c (s_fail) (SndL.c (s_fail) (SndL.c (s_iload_n (k := 1) (by decide +kernel) rfl) (SndL.c (s_iald (by decide +kernel)) (SndL.c (s_ret_i rfl (by decide +kernel)) (SndL.c (s_aload_n (k := 0) (by decide +kernel) rfl) (SndL.c (s_getf (k := 67) clok13 (by decide) rfl (by decide) rfl w_5_169 (Or.inl rfl) (by decide +kernel)) (SndL.n))))))))))))))))
def kX12_ruling_7 : List En := [(1, oFail), (1, oFail), (0, oIload 1 115), (0, oZald 116), (0, oIfEq 123 119), (1, oFail), (1, oFail), (0, oPush (vI 1) 120), (0, oGoto 124), (1, oFail), (1, oFail), (0, oPush (vI 0) 124), (0, oRetI), (0, oRload 0 126), (0, oGetf 14 68 2 129), (1, oFail)]
set_option maxRecDepth 20000 in
theorem zX12_ruling_7 : SndL mX12_ruling 112 kX12_ruling_7 := SndL.c (s_fail) (SndL.c (s_fail) (SndL.c (s_iload_n (k := 1) (by decide +kernel) rfl) (SndL.c (s_zald (by decide +kernel)) (SndL.c (s_if_eq (off := 7) (by decide +kernel) (by decide)) (SndL.c (s_fail) (SndL.c (s_fail) (SndL.c (s_iconst (by decide +kernel) (in32_d (by decide))) (SndL.c (s_goto (off := 4) (by decide +kernel) (by decide)) (SndL.c (s_fail) (SndL.c (s_fail) (SndL.c (s_iconst (by decide +kernel) (in32_d (by decide))) (SndL.c (s_ret_i rfl (by decide +kernel)) (SndL.c (s_aload_n (k := 0) (by decide +kernel) rfl) (SndL.c (s_getf (k := 68) clok13 (by decide) rfl (by decide) rfl w_5_170 (Or.inl rfl) (by decide +kernel)) (SndL.c (s_fail) (SndL.n))))))))))))))))
def kX12_ruling_8 : List En := [(1, oFail), (0, oIload 1 130), (0, oZald 131), (0, oIfEq 138 134), (1, oFail), (1, oFail), (0, oPush (vI 1) 135), (0, oGoto 139), (1, oFail), (1, oFail), (0, oPush (vI 0) 139), (0, oRetI), (0, oRload 0 141), (0, oGetf 14 64 2 144), (1, oFail), (1, oFail)]
set_option maxRecDepth 20000 in
theorem zX12_ruling_8 : SndL mX12_ruling 128 kX12_ruling_8 := SndL.c (s_fail) (SndL.c (s_iload_n (k := 1) (by decide +kernel) rfl) (SndL.c (s_zald (by decide +kernel)) (SndL.c (s_if_eq (off := 7) (by decide +kernel) (by decide)) (SndL.c (s_fail) (SndL.c (s_fail) (SndL.c (s_iconst (by decide +kernel) (in32_d (by decide))) (SndL.c (s_goto (off := 4) (by decide +kernel) (by decide)) (SndL.c (s_fail) (SndL.c (s_fail) (SndL.c (s_iconst (by decide +kernel) (in32_d (by decide))) (SndL.c (s_ret_i rfl (by decide +kernel)) (SndL.c (s_aload_n (k := 0) (by decide +kernel) rfl) (SndL.c (s_getf (k := 64) clok13 (by decide) rfl (by decide) rfl w_5_166 (Or.inl rfl) (by decide +kernel)) (SndL.c (s_fail) (SndL.c (s_fail) (SndL.n))))))))))))))))
def kX12_ruling_9 : List En := [(0, oIload 1 145), (0, oIald 146), (0, oRetI), (0, oRload 0 148), (0, oGetf 14 65 2 151), (1, oFail), (1, oFail), (0, oIload 1 152), (0, oIald 153), (0, oRetI), (0, oRload 0 155), (0, oGetf 14 66 2 158), (1, oFail), (1, oFail), (0, oIload 1 159), (0, oIald 160)]
set_option maxRecDepth 20000 in
theorem zX12_ruling_9 : SndL mX12_ruling 144 kX12_ruling_9 := SndL.c (s_iload_n (k := 1) (by decide +kernel) rfl) (SndL.c (s_iald (by decide +kernel)) (SndL.c (s_ret_i rfl (by decide +kernel)) (SndL.c (s_aload_n (k := 0) (by decide +kernel) rfl) (SndL.c (s_getf (k := 65) clok13 (by decide) rfl (by decide) rfl w_5_167 (Or.inl rfl) (by decide +kernel)) (SndL.c (s_fail) (SndL.c (s_fail) (SndL.c (s_iload_n (k := 1) (by decide +kernel) rfl) (SndL.c (s_iald (by decide +kernel)) (SndL.c (s_ret_i rfl (by decide +kernel)) (SndL.c (s_aload_n (k := 0) (by decide +kernel) rfl) (SndL.c (s_getf (k := 66) clok13 (by decide) rfl (by decide) rfl w_5_168 (Or.inl rfl) (by decide +kernel)) (SndL.c (s_fail) (SndL.c (s_fail) (SndL.c (s_iload_n (k := 1) (by decide +kernel) rfl) (SndL.c (s_iald (by decide +kernel)) (SndL.n))))))))))))))))
def kX12_ruling_10 : List En := [(0, oRetI), (0, oPush (vI (-1)) 162), (0, oRetI)]
set_option maxRecDepth 20000 in
theorem zX12_ruling_10 : SndL mX12_ruling 160 kX12_ruling_10 := SndL.c (s_ret_i rfl (by decide +kernel)) (SndL.c (s_iconst (by decide +kernel) (in32_d (by decide))) (SndL.c (s_ret_i rfl (by decide +kernel)) (SndL.n)))
def kX12_ruling : Cd := [kX12_ruling_0, kX12_ruling_1, kX12_ruling_2, kX12_ruling_3, kX12_ruling_4, kX12_ruling_5, kX12_ruling_6, kX12_ruling_7, kX12_ruling_8, kX12_ruling_9, kX12_ruling_10]
theorem zX12_ruling : SndC mX12_ruling 0 kX12_ruling := SndC.c zX12_ruling_0 (by decide) (SndC.c zX12_ruling_1 (by decide) (SndC.c zX12_ruling_2 (by decide) (SndC.c zX12_ruling_3 (by decide) (SndC.c zX12_ruling_4 (by decide) (SndC.c zX12_ruling_5 (by decide) (SndC.c zX12_ruling_6 (by decide) (SndC.c zX12_ruling_7 (by decide) (SndC.c zX12_ruling_8 (by decide) (SndC.c zX12_ruling_9 (by decide) (SndC.c zX12_ruling_10 (by decide) (SndC.n)))))))))))
theorem aX12_ruling_0 : at_ kX12_ruling 0 = (0, oRload 0 1) := rfl
theorem aX12_ruling_1 : at_ kX12_ruling 1 = (0, oIload 1 2) := rfl
theorem aX12_ruling_2 : at_ kX12_ruling 2 = (2, oInvV 14 mX12_isRuling 1 5) := rfl
theorem aX12_ruling_5 : at_ kX12_ruling 5 = (0, oIfNe 10 8) := rfl
theorem aX12_ruling_8 : at_ kX12_ruling 8 = (0, oPush (vI (-1)) 9) := rfl
theorem aX12_ruling_9 : at_ kX12_ruling 9 = (0, oRetI) := rfl
theorem aX12_ruling_10 : at_ kX12_ruling 10 = (0, oIload 2 11) := rfl
theorem aX12_ruling_11 : at_ kX12_ruling 11 = (0, oSwitch 0 10 [68, 75, 82, 89, 96, 103, 110, 125, 140, 147, 154] 161) := rfl
theorem aX12_ruling_68 : at_ kX12_ruling 68 = (0, oRload 0 69) := rfl
theorem aX12_ruling_69 : at_ kX12_ruling 69 = (0, oGetf 14 56 2 72) := rfl
theorem aX12_ruling_72 : at_ kX12_ruling 72 = (0, oIload 1 73) := rfl
theorem aX12_ruling_73 : at_ kX12_ruling 73 = (0, oIald 74) := rfl
theorem aX12_ruling_74 : at_ kX12_ruling 74 = (0, oRetI) := rfl
theorem aX12_ruling_75 : at_ kX12_ruling 75 = (0, oRload 0 76) := rfl
theorem aX12_ruling_76 : at_ kX12_ruling 76 = (0, oGetf 14 57 2 79) := rfl
theorem aX12_ruling_79 : at_ kX12_ruling 79 = (0, oIload 1 80) := rfl
theorem aX12_ruling_80 : at_ kX12_ruling 80 = (0, oIald 81) := rfl
theorem aX12_ruling_81 : at_ kX12_ruling 81 = (0, oRetI) := rfl
theorem aX12_ruling_82 : at_ kX12_ruling 82 = (0, oRload 0 83) := rfl
theorem aX12_ruling_83 : at_ kX12_ruling 83 = (0, oGetf 14 58 2 86) := rfl
theorem aX12_ruling_86 : at_ kX12_ruling 86 = (0, oIload 1 87) := rfl
theorem aX12_ruling_87 : at_ kX12_ruling 87 = (0, oIald 88) := rfl
theorem aX12_ruling_88 : at_ kX12_ruling 88 = (0, oRetI) := rfl
theorem aX12_ruling_89 : at_ kX12_ruling 89 = (0, oRload 0 90) := rfl
theorem aX12_ruling_90 : at_ kX12_ruling 90 = (0, oGetf 14 59 2 93) := rfl
theorem aX12_ruling_93 : at_ kX12_ruling 93 = (0, oIload 1 94) := rfl
theorem aX12_ruling_94 : at_ kX12_ruling 94 = (0, oIald 95) := rfl
theorem aX12_ruling_95 : at_ kX12_ruling 95 = (0, oRetI) := rfl
theorem aX12_ruling_96 : at_ kX12_ruling 96 = (0, oRload 0 97) := rfl
theorem aX12_ruling_97 : at_ kX12_ruling 97 = (0, oGetf 14 60 2 100) := rfl
theorem aX12_ruling_100 : at_ kX12_ruling 100 = (0, oIload 1 101) := rfl
theorem aX12_ruling_101 : at_ kX12_ruling 101 = (0, oIald 102) := rfl
theorem aX12_ruling_102 : at_ kX12_ruling 102 = (0, oRetI) := rfl
theorem aX12_ruling_103 : at_ kX12_ruling 103 = (0, oRload 0 104) := rfl
theorem aX12_ruling_104 : at_ kX12_ruling 104 = (0, oGetf 14 61 2 107) := rfl
theorem aX12_ruling_107 : at_ kX12_ruling 107 = (0, oIload 1 108) := rfl
theorem aX12_ruling_108 : at_ kX12_ruling 108 = (0, oIald 109) := rfl
theorem aX12_ruling_109 : at_ kX12_ruling 109 = (0, oRetI) := rfl
theorem aX12_ruling_110 : at_ kX12_ruling 110 = (0, oRload 0 111) := rfl
theorem aX12_ruling_111 : at_ kX12_ruling 111 = (0, oGetf 14 67 2 114) := rfl
theorem aX12_ruling_114 : at_ kX12_ruling 114 = (0, oIload 1 115) := rfl
theorem aX12_ruling_115 : at_ kX12_ruling 115 = (0, oZald 116) := rfl
theorem aX12_ruling_116 : at_ kX12_ruling 116 = (0, oIfEq 123 119) := rfl
theorem aX12_ruling_119 : at_ kX12_ruling 119 = (0, oPush (vI 1) 120) := rfl
theorem aX12_ruling_120 : at_ kX12_ruling 120 = (0, oGoto 124) := rfl
theorem aX12_ruling_123 : at_ kX12_ruling 123 = (0, oPush (vI 0) 124) := rfl
theorem aX12_ruling_124 : at_ kX12_ruling 124 = (0, oRetI) := rfl
theorem aX12_ruling_125 : at_ kX12_ruling 125 = (0, oRload 0 126) := rfl
theorem aX12_ruling_126 : at_ kX12_ruling 126 = (0, oGetf 14 68 2 129) := rfl
theorem aX12_ruling_129 : at_ kX12_ruling 129 = (0, oIload 1 130) := rfl
theorem aX12_ruling_130 : at_ kX12_ruling 130 = (0, oZald 131) := rfl
theorem aX12_ruling_131 : at_ kX12_ruling 131 = (0, oIfEq 138 134) := rfl
theorem aX12_ruling_134 : at_ kX12_ruling 134 = (0, oPush (vI 1) 135) := rfl
theorem aX12_ruling_135 : at_ kX12_ruling 135 = (0, oGoto 139) := rfl
theorem aX12_ruling_138 : at_ kX12_ruling 138 = (0, oPush (vI 0) 139) := rfl
theorem aX12_ruling_139 : at_ kX12_ruling 139 = (0, oRetI) := rfl
theorem aX12_ruling_140 : at_ kX12_ruling 140 = (0, oRload 0 141) := rfl
theorem aX12_ruling_141 : at_ kX12_ruling 141 = (0, oGetf 14 64 2 144) := rfl
theorem aX12_ruling_144 : at_ kX12_ruling 144 = (0, oIload 1 145) := rfl
theorem aX12_ruling_145 : at_ kX12_ruling 145 = (0, oIald 146) := rfl
theorem aX12_ruling_146 : at_ kX12_ruling 146 = (0, oRetI) := rfl
theorem aX12_ruling_147 : at_ kX12_ruling 147 = (0, oRload 0 148) := rfl
theorem aX12_ruling_148 : at_ kX12_ruling 148 = (0, oGetf 14 65 2 151) := rfl
theorem aX12_ruling_151 : at_ kX12_ruling 151 = (0, oIload 1 152) := rfl
theorem aX12_ruling_152 : at_ kX12_ruling 152 = (0, oIald 153) := rfl
theorem aX12_ruling_153 : at_ kX12_ruling 153 = (0, oRetI) := rfl
theorem aX12_ruling_154 : at_ kX12_ruling 154 = (0, oRload 0 155) := rfl
theorem aX12_ruling_155 : at_ kX12_ruling 155 = (0, oGetf 14 66 2 158) := rfl
theorem aX12_ruling_158 : at_ kX12_ruling 158 = (0, oIload 1 159) := rfl
theorem aX12_ruling_159 : at_ kX12_ruling 159 = (0, oIald 160) := rfl
theorem aX12_ruling_160 : at_ kX12_ruling 160 = (0, oRetI) := rfl
theorem aX12_ruling_161 : at_ kX12_ruling 161 = (0, oPush (vI (-1)) 162) := rfl
theorem aX12_ruling_162 : at_ kX12_ruling 162 = (0, oRetI) := rfl
def kX12_kin_0 : List En := [(0, oIload 1 1), (0, oIfLt 19 4), (1, oFail), (1, oFail), (0, oIload 1 5), (0, oRload 0 6), (0, oGetf 14 5 0 9), (1, oFail), (1, oFail), (0, oIcGe 19 12), (1, oFail), (1, oFail), (0, oIload 2 13), (2, oInvS mX12_isFirm 1 16), (1, oFail), (1, oFail)]
set_option maxRecDepth 20000 in
theorem zX12_kin_0 : SndL mX12_kin 0 kX12_kin_0 := SndL.c (s_iload_n (k := 1) (by decide +kernel) rfl) (SndL.c (s_if_lt (off := 18) (by decide +kernel) (by decide)) (SndL.c (s_fail) (SndL.c (s_fail) (SndL.c (s_iload_n (k := 1) (by decide +kernel) rfl) (SndL.c (s_aload_n (k := 0) (by decide +kernel) rfl) (SndL.c (s_getf (k := 5) clok13 (by decide) rfl (by decide) rfl w_5_107 (Or.inl rfl) (by decide +kernel)) (SndL.c (s_fail) (SndL.c (s_fail) (SndL.c (s_ic_ge (off := 10) (by decide +kernel) (by decide)) (SndL.c (s_fail) (SndL.c (s_fail) (SndL.c (s_iload_n (k := 2) (by decide +kernel) rfl) (SndL.c (s_invS okX12_isFirm w_6_173 w_6_174 (by decide +kernel)) (SndL.c (s_fail) (SndL.c (s_fail) (SndL.n))))))))))))))))
def kX12_kin_1 : List En := [(0, oIfNe 25 19), (1, oFail), (1, oFail), (0, oRload 0 20), (0, oPush (vI (-1)) 21), (2, oInvV 14 mX12_no 1 24), (1, oFail), (1, oFail), (0, oRetI), (0, oRload 0 26), (0, oGetf 14 55 2 29), (1, oFail), (1, oFail), (0, oIload 1 30), (0, oIald 31), (0, oIload 2 32)]
set_option maxRecDepth 20000 in
theorem zX12_kin_1 : SndL mX12_kin 16 kX12_kin_1 := SndL.c (s_if_ne (off := 9) (by decide +kernel) (by decide)) (SndL.c (s_fail) (SndL.c (s_fail) (SndL.c (s_aload_n (k := 0) (by decide +kernel) rfl) (SndL.c (s_iconst (by decide +kernel) (in32_d (by decide))) (SndL.c (s_invV (r := (RX12, TX12, 90)) (ci := 13) okX12_no rfl (by decide) rfl rfl w_6_138 w_6_140 v_29 (by decide +kernel)) (SndL.c (s_fail) (SndL.c (s_fail) (SndL.c (s_ret_i rfl (by decide +kernel)) (SndL.c (s_aload_n (k := 0) (by decide +kernel) rfl) (SndL.c (s_getf (k := 55) clok13 (by decide) rfl (by decide) rfl w_5_157 (Or.inl rfl) (by decide +kernel)) (SndL.c (s_fail) (SndL.c (s_fail) (SndL.c (s_iload_n (k := 1) (by decide +kernel) rfl) (SndL.c (s_iald (by decide +kernel)) (SndL.c (s_iload_n (k := 2) (by decide +kernel) rfl) (SndL.n))))))))))))))))
def kX12_kin_2 : List En := [(0, oIshr 33), (0, oPush (vI 1) 34), (0, oIand 35), (0, oPush (vI 1) 36), (0, oIcNe 46 39), (1, oFail), (1, oFail), (0, oRload 0 40), (0, oPush (vI (-6)) 42), (1, oFail), (2, oInvV 14 mX12_no 1 45), (1, oFail), (1, oFail), (0, oRetI), (0, oRload 0 47), (0, oGetf 14 55 2 50)]
set_option maxRecDepth 20000 in
theorem zX12_kin_2 : SndL mX12_kin 32 kX12_kin_2 := SndL.c (s_ishr (by decide +kernel)) (SndL.c (s_iconst (by decide +kernel) (in32_d (by decide))) (SndL.c (s_iand (by decide +kernel)) (SndL.c (s_iconst (by decide +kernel) (in32_d (by decide))) (SndL.c (s_ic_ne (off := 10) (by decide +kernel) (by decide)) (SndL.c (s_fail) (SndL.c (s_fail) (SndL.c (s_aload_n (k := 0) (by decide +kernel) rfl) (SndL.c (s_bipush (by decide +kernel) (in32_d (by decide)) (by decide +kernel)) (SndL.c (s_fail) (SndL.c (s_invV (r := (RX12, TX12, 90)) (ci := 13) okX12_no rfl (by decide) rfl rfl w_6_138 w_6_140 v_29 (by decide +kernel)) (SndL.c (s_fail) (SndL.c (s_fail) (SndL.c (s_ret_i rfl (by decide +kernel)) (SndL.c (s_aload_n (k := 0) (by decide +kernel) rfl) (SndL.c (s_getf (k := 55) clok13 (by decide) rfl (by decide) rfl w_5_157 (Or.inl rfl) (by decide +kernel)) (SndL.n))))))))))))))))
def kX12_kin_3 : List En := [(1, oFail), (1, oFail), (0, oIload 1 51), (0, oDup2 52), (0, oIald 53), (0, oPush (vI 1) 54), (0, oIload 2 55), (0, oIshl 56), (0, oIor 57), (0, oIast 58), (0, oPush (vI 0) 59), (0, oIstore 3 60), (0, oPush (vI 0) 61), (0, oIstore 4 63), (1, oFail), (1, oIload 4 65)]
set_option maxRecDepth 20000 in
theorem zX12_kin_3 : SndL mX12_kin 48 kX12_kin_3 := SndL.c (s_fail) (SndL.c (s_fail) (SndL.c (s_iload_n (k := 1) (by decide +kernel) rfl) (SndL.c (s_dup2 (by decide +kernel)) (SndL.c (s_iald (by decide +kernel)) (SndL.c (s_iconst (by decide +kernel) (in32_d (by decide))) (SndL.c (s_iload_n (k := 2) (by decide +kernel) rfl) (SndL.c (s_ishl (by decide +kernel)) (SndL.c (s_ior (by decide +kernel)) (SndL.c (s_iast (by decide +kernel)) (SndL.c (s_iconst (by decide +kernel) (in32_d (by decide))) (SndL.c (s_istore_n (k := 3) (by decide +kernel) rfl (by decide)) (SndL.c (s_iconst (by decide +kernel) (in32_d (by decide))) (SndL.c (s_istore (by decide +kernel) (by decide)) (SndL.c (s_fail) (SndL.c (s_iload (by decide +kernel)) (SndL.n))))))))))))))))
def kX12_kin_4 : List En := [(1, oFail), (0, oRload 0 66), (0, oGetf 14 6 0 69), (1, oFail), (1, oFail), (0, oIcGe 199 72), (1, oFail), (1, oFail), (0, oRload 0 73), (0, oGetf 14 65 2 76), (1, oFail), (1, oFail), (0, oIload 4 78), (1, oFail), (0, oIald 79), (0, oIfNe 193 82)]
set_option maxRecDepth 20000 in
theorem zX12_kin_4 : SndL mX12_kin 64 kX12_kin_4 := SndL.c (s_fail) (SndL.c (s_aload_n (k := 0) (by decide +kernel) rfl) (SndL.c (s_getf (k := 6) clok13 (by decide) rfl (by decide) rfl w_5_108 (Or.inl rfl) (by decide +kernel)) (SndL.c (s_fail) (SndL.c (s_fail) (SndL.c (s_ic_ge (off := 130) (by decide +kernel) (by decide)) (SndL.c (s_fail) (SndL.c (s_fail) (SndL.c (s_aload_n (k := 0) (by decide +kernel) rfl) (SndL.c (s_getf (k := 65) clok13 (by decide) rfl (by decide) rfl w_5_167 (Or.inl rfl) (by decide +kernel)) (SndL.c (s_fail) (SndL.c (s_fail) (SndL.c (s_iload (by decide +kernel)) (SndL.c (s_fail) (SndL.c (s_iald (by decide +kernel)) (SndL.c (s_if_ne (off := 114) (by decide +kernel) (by decide)) (SndL.n))))))))))))))))
def kX12_kin_5 : List En := [(1, oFail), (1, oFail), (0, oRload 0 83), (0, oGetf 14 56 2 86), (1, oFail), (1, oFail), (0, oIload 4 88), (1, oFail), (0, oIald 89), (0, oIload 2 90), (0, oIcNe 193 93), (1, oFail), (1, oFail), (0, oRload 0 94), (0, oGetf 14 62 2 97), (1, oFail)]
set_option maxRecDepth 20000 in
theorem zX12_kin_5 : SndL mX12_kin 80 kX12_kin_5 := SndL.c (s_fail) (SndL.c (s_fail) (SndL.c (s_aload_n (k := 0) (by decide +kernel) rfl) (SndL.c (s_getf (k := 56) clok13 (by decide) rfl (by decide) rfl w_5_158 (Or.inl rfl) (by decide +kernel)) (SndL.c (s_fail) (SndL.c (s_fail) (SndL.c (s_iload (by decide +kernel)) (SndL.c (s_fail) (SndL.c (s_iald (by decide +kernel)) (SndL.c (s_iload_n (k := 2) (by decide +kernel) rfl) (SndL.c (s_ic_ne (off := 103) (by decide +kernel) (by decide)) (SndL.c (s_fail) (SndL.c (s_fail) (SndL.c (s_aload_n (k := 0) (by decide +kernel) rfl) (SndL.c (s_getf (k := 62) clok13 (by decide) rfl (by decide) rfl w_5_164 (Or.inl rfl) (by decide +kernel)) (SndL.c (s_fail) (SndL.n))))))))))))))))
def kX12_kin_6 : List En := [(1, oFail), (0, oIload 4 99), (1, oFail), (0, oIald 100), (0, oRload 0 101), (0, oGetf 14 63 2 104), (1, oFail), (1, oFail), (0, oIload 4 106), (1, oFail), (0, oIald 107), (0, oIor 108), (0, oIload 1 109), (0, oIshr 110), (0, oPush (vI 1) 111), (0, oIand 112)]
set_option maxRecDepth 20000 in
theorem zX12_kin_6 : SndL mX12_kin 96 kX12_kin_6 := SndL.c (s_fail) (SndL.c (s_iload (by decide +kernel)) (SndL.c (s_fail) (SndL.c (s_iald (by decide +kernel)) (SndL.c (s_aload_n (k := 0) (by decide +kernel) rfl) (SndL.c (s_getf (k := 63) clok13 (by decide) rfl (by decide) rfl w_5_165 (Or.inl rfl) (by decide +kernel)) (SndL.c (s_fail) (SndL.c (s_fail) (SndL.c (s_iload (by decide +kernel)) (SndL.c (s_fail) (SndL.c (s_iald (by decide +kernel)) (SndL.c (s_ior (by decide +kernel)) (SndL.c (s_iload_n (k := 1) (by decide +kernel) rfl) (SndL.c (s_ishr (by decide +kernel)) (SndL.c (s_iconst (by decide +kernel) (in32_d (by decide))) (SndL.c (s_iand (by decide +kernel)) (SndL.n))))))))))))))))
def kX12_kin_7 : List En := [(0, oIfNe 118 115), (1, oFail), (1, oFail), (0, oGoto 193), (1, oFail), (1, oFail), (0, oRload 0 119), (0, oRload 0 120), (0, oGetf 14 62 2 123), (1, oFail), (1, oFail), (0, oIload 4 125), (1, oFail), (0, oIald 126), (0, oIload 2 127), (2, oInvV 14 mX12_counted 2 130)]
set_option maxRecDepth 20000 in
theorem zX12_kin_7 : SndL mX12_kin 112 kX12_kin_7 := SndL.c (s_if_ne (off := 6) (by decide +kernel) (by decide)) (SndL.c (s_fail) (SndL.c (s_fail) (SndL.c (s_goto (off := 78) (by decide +kernel) (by decide)) (SndL.c (s_fail) (SndL.c (s_fail) (SndL.c (s_aload_n (k := 0) (by decide +kernel) rfl) (SndL.c (s_aload_n (k := 0) (by decide +kernel) rfl) (SndL.c (s_getf (k := 62) clok13 (by decide) rfl (by decide) rfl w_5_164 (Or.inl rfl) (by decide +kernel)) (SndL.c (s_fail) (SndL.c (s_fail) (SndL.c (s_iload (by decide +kernel)) (SndL.c (s_fail) (SndL.c (s_iald (by decide +kernel)) (SndL.c (s_iload_n (k := 2) (by decide +kernel) rfl) (SndL.c (s_invV (r := (RX12, TX12, 90)) (ci := 13) okX12_counted rfl (by decide) rfl rfl w_7_116 w_7_118 v_56 (by decide +kernel)) (SndL.n))))))))))))))))
def kX12_kin_8 : List En := [(1, oFail), (1, oFail), (0, oIstore 5 132), (1, oFail), (0, oIload 5 134), (1, oFail), (0, oRload 0 135), (0, oRload 0 136), (0, oGetf 14 63 2 139), (1, oFail), (1, oFail), (0, oIload 4 141), (1, oFail), (0, oIald 142), (0, oIload 2 143), (2, oInvV 14 mX12_counted 2 146)]
set_option maxRecDepth 20000 in
theorem zX12_kin_8 : SndL mX12_kin 128 kX12_kin_8 := SndL.c (s_fail) (SndL.c (s_fail) (SndL.c (s_istore (by decide +kernel) (by decide)) (SndL.c (s_fail) (SndL.c (s_iload (by decide +kernel)) (SndL.c (s_fail) (SndL.c (s_aload_n (k := 0) (by decide +kernel) rfl) (SndL.c (s_aload_n (k := 0) (by decide +kernel) rfl) (SndL.c (s_getf (k := 63) clok13 (by decide) rfl (by decide) rfl w_5_165 (Or.inl rfl) (by decide +kernel)) (SndL.c (s_fail) (SndL.c (s_fail) (SndL.c (s_iload (by decide +kernel)) (SndL.c (s_fail) (SndL.c (s_iald (by decide +kernel)) (SndL.c (s_iload_n (k := 2) (by decide +kernel) rfl) (SndL.c (s_invV (r := (RX12, TX12, 90)) (ci := 13) okX12_counted rfl (by decide) rfl rfl w_7_116 w_7_118 v_56 (by decide +kernel)) (SndL.n))))))))))))))))
def kX12_kin_9 : List En := [(1, oFail), (1, oFail), (0, oIadd 147), (0, oIstore 6 149), (1, oFail), (0, oIload 6 151), (1, oFail), (0, oPush (vI 3) 152), (0, oIcLt 182 155), (1, oFail), (1, oFail), (0, oPush (vI 2) 156), (0, oIload 5 158), (1, oFail), (0, oImul 159), (0, oIload 6 161)]
set_option maxRecDepth 20000 in
theorem zX12_kin_9 : SndL mX12_kin 144 kX12_kin_9 := SndL.c (s_fail) (SndL.c (s_fail) (SndL.c (s_iadd (by decide +kernel)) (SndL.c (s_istore (by decide +kernel) (by decide)) (SndL.c (s_fail) (SndL.c (s_iload (by decide +kernel)) (SndL.c (s_fail) (SndL.c (s_iconst (by decide +kernel) (in32_d (by decide))) (SndL.c (s_ic_lt (off := 30) (by decide +kernel) (by decide)) (SndL.c (s_fail) (SndL.c (s_fail) (SndL.c (s_iconst (by decide +kernel) (in32_d (by decide))) (SndL.c (s_iload (by decide +kernel)) (SndL.c (s_fail) (SndL.c (s_imul (by decide +kernel)) (SndL.c (s_iload (by decide +kernel)) (SndL.n))))))))))))))))
def kX12_kin_10 : List En := [(1, oFail), (0, oIcLe 168 164), (1, oFail), (1, oFail), (0, oPush (vI 1) 165), (0, oGoto 169), (1, oFail), (1, oFail), (0, oPush (vI 0) 169), (0, oRload 0 170), (0, oGetf 14 67 2 173), (1, oFail), (1, oFail), (0, oIload 4 175), (1, oFail), (0, oZald 176)]
set_option maxRecDepth 20000 in
theorem zX12_kin_10 : SndL mX12_kin 160 kX12_kin_10 := SndL.c (s_fail) (SndL.c (s_ic_le (off := 7) (by decide +kernel) (by decide)) (SndL.c (s_fail) (SndL.c (s_fail) (SndL.c (s_iconst (by decide +kernel) (in32_d (by decide))) (SndL.c (s_goto (off := 4) (by decide +kernel) (by decide)) (SndL.c (s_fail) (SndL.c (s_fail) (SndL.c (s_iconst (by decide +kernel) (in32_d (by decide))) (SndL.c (s_aload_n (k := 0) (by decide +kernel) rfl) (SndL.c (s_getf (k := 67) clok13 (by decide) rfl (by decide) rfl w_5_169 (Or.inl rfl) (by decide +kernel)) (SndL.c (s_fail) (SndL.c (s_fail) (SndL.c (s_iload (by decide +kernel)) (SndL.c (s_fail) (SndL.c (s_zald (by decide +kernel)) (SndL.n))))))))))))))))
def kX12_kin_11 : List En := [(0, oIcNe 182 179), (1, oFail), (1, oFail), (0, oGoto 193), (1, oFail), (1, oFail), (0, oRload 0 183), (0, oGetf 14 65 2 186), (1, oFail), (1, oFail), (0, oIload 4 188), (1, oFail), (0, oPush (vI 1) 189), (0, oIast 190), (0, oIinc 3 1 193), (1, oFail)]
set_option maxRecDepth 20000 in
theorem zX12_kin_11 : SndL mX12_kin 176 kX12_kin_11 := SndL.c (s_ic_ne (off := 6) (by decide +kernel) (by decide)) (SndL.c (s_fail) (SndL.c (s_fail) (SndL.c (s_goto (off := 14) (by decide +kernel) (by decide)) (SndL.c (s_fail) (SndL.c (s_fail) (SndL.c (s_aload_n (k := 0) (by decide +kernel) rfl) (SndL.c (s_getf (k := 65) clok13 (by decide) rfl (by decide) rfl w_5_167 (Or.inl rfl) (by decide +kernel)) (SndL.c (s_fail) (SndL.c (s_fail) (SndL.c (s_iload (by decide +kernel)) (SndL.c (s_fail) (SndL.c (s_iconst (by decide +kernel) (in32_d (by decide))) (SndL.c (s_iast (by decide +kernel)) (SndL.c (s_iinc (by decide +kernel) (by decide)) (SndL.c (s_fail) (SndL.n))))))))))))))))
def kX12_kin_12 : List En := [(1, oFail), (0, oIinc 4 1 196), (1, oFail), (1, oFail), (0, oGoto 63), (1, oFail), (1, oFail), (0, oIload 3 200), (0, oRetI)]
set_option maxRecDepth 20000 in
theorem zX12_kin_12 : SndL mX12_kin 192 kX12_kin_12 := SndL.c (s_fail) (SndL.c (s_iinc (by decide +kernel) (by decide)) (SndL.c (s_fail) (SndL.c (s_fail) (SndL.c (s_goto (off := -133) (by decide +kernel) (by decide)) (SndL.c (s_fail) (SndL.c (s_fail) (SndL.c (s_iload_n (k := 3) (by decide +kernel) rfl) (SndL.c (s_ret_i rfl (by decide +kernel)) (SndL.n)))))))))
def kX12_kin : Cd := [kX12_kin_0, kX12_kin_1, kX12_kin_2, kX12_kin_3, kX12_kin_4, kX12_kin_5, kX12_kin_6, kX12_kin_7, kX12_kin_8, kX12_kin_9, kX12_kin_10, kX12_kin_11, kX12_kin_12]
theorem zX12_kin : SndC mX12_kin 0 kX12_kin := SndC.c zX12_kin_0 (by decide) (SndC.c zX12_kin_1 (by decide) (SndC.c zX12_kin_2 (by decide) (SndC.c zX12_kin_3 (by decide) (SndC.c zX12_kin_4 (by decide) (SndC.c zX12_kin_5 (by decide) (SndC.c zX12_kin_6 (by decide) (SndC.c zX12_kin_7 (by decide) (SndC.c zX12_kin_8 (by decide) (SndC.c zX12_kin_9 (by decide) (SndC.c zX12_kin_10 (by decide) (SndC.c zX12_kin_11 (by decide) (SndC.c zX12_kin_12 (by decide) (SndC.n)))))))))))))
theorem aX12_kin_0 : at_ kX12_kin 0 = (0, oIload 1 1) := rfl
theorem aX12_kin_1 : at_ kX12_kin 1 = (0, oIfLt 19 4) := rfl
theorem aX12_kin_4 : at_ kX12_kin 4 = (0, oIload 1 5) := rfl
theorem aX12_kin_5 : at_ kX12_kin 5 = (0, oRload 0 6) := rfl
theorem aX12_kin_6 : at_ kX12_kin 6 = (0, oGetf 14 5 0 9) := rfl
theorem aX12_kin_9 : at_ kX12_kin 9 = (0, oIcGe 19 12) := rfl
theorem aX12_kin_12 : at_ kX12_kin 12 = (0, oIload 2 13) := rfl
theorem aX12_kin_13 : at_ kX12_kin 13 = (2, oInvS mX12_isFirm 1 16) := rfl
theorem aX12_kin_16 : at_ kX12_kin 16 = (0, oIfNe 25 19) := rfl
theorem aX12_kin_19 : at_ kX12_kin 19 = (0, oRload 0 20) := rfl
theorem aX12_kin_20 : at_ kX12_kin 20 = (0, oPush (vI (-1)) 21) := rfl
theorem aX12_kin_21 : at_ kX12_kin 21 = (2, oInvV 14 mX12_no 1 24) := rfl
theorem aX12_kin_24 : at_ kX12_kin 24 = (0, oRetI) := rfl
theorem aX12_kin_25 : at_ kX12_kin 25 = (0, oRload 0 26) := rfl
theorem aX12_kin_26 : at_ kX12_kin 26 = (0, oGetf 14 55 2 29) := rfl
theorem aX12_kin_29 : at_ kX12_kin 29 = (0, oIload 1 30) := rfl
theorem aX12_kin_30 : at_ kX12_kin 30 = (0, oIald 31) := rfl
theorem aX12_kin_31 : at_ kX12_kin 31 = (0, oIload 2 32) := rfl
theorem aX12_kin_32 : at_ kX12_kin 32 = (0, oIshr 33) := rfl
theorem aX12_kin_33 : at_ kX12_kin 33 = (0, oPush (vI 1) 34) := rfl
theorem aX12_kin_34 : at_ kX12_kin 34 = (0, oIand 35) := rfl
theorem aX12_kin_35 : at_ kX12_kin 35 = (0, oPush (vI 1) 36) := rfl
theorem aX12_kin_36 : at_ kX12_kin 36 = (0, oIcNe 46 39) := rfl
theorem aX12_kin_39 : at_ kX12_kin 39 = (0, oRload 0 40) := rfl
theorem aX12_kin_40 : at_ kX12_kin 40 = (0, oPush (vI (-6)) 42) := rfl
theorem aX12_kin_42 : at_ kX12_kin 42 = (2, oInvV 14 mX12_no 1 45) := rfl
theorem aX12_kin_45 : at_ kX12_kin 45 = (0, oRetI) := rfl
theorem aX12_kin_46 : at_ kX12_kin 46 = (0, oRload 0 47) := rfl
theorem aX12_kin_47 : at_ kX12_kin 47 = (0, oGetf 14 55 2 50) := rfl
theorem aX12_kin_50 : at_ kX12_kin 50 = (0, oIload 1 51) := rfl
theorem aX12_kin_51 : at_ kX12_kin 51 = (0, oDup2 52) := rfl
theorem aX12_kin_52 : at_ kX12_kin 52 = (0, oIald 53) := rfl
theorem aX12_kin_53 : at_ kX12_kin 53 = (0, oPush (vI 1) 54) := rfl
theorem aX12_kin_54 : at_ kX12_kin 54 = (0, oIload 2 55) := rfl
theorem aX12_kin_55 : at_ kX12_kin 55 = (0, oIshl 56) := rfl
theorem aX12_kin_56 : at_ kX12_kin 56 = (0, oIor 57) := rfl
theorem aX12_kin_57 : at_ kX12_kin 57 = (0, oIast 58) := rfl
theorem aX12_kin_58 : at_ kX12_kin 58 = (0, oPush (vI 0) 59) := rfl
theorem aX12_kin_59 : at_ kX12_kin 59 = (0, oIstore 3 60) := rfl
theorem aX12_kin_60 : at_ kX12_kin 60 = (0, oPush (vI 0) 61) := rfl
theorem aX12_kin_61 : at_ kX12_kin 61 = (0, oIstore 4 63) := rfl
theorem aX12_kin_63 : at_ kX12_kin 63 = (1, oIload 4 65) := rfl
theorem aX12_kin_65 : at_ kX12_kin 65 = (0, oRload 0 66) := rfl
theorem aX12_kin_66 : at_ kX12_kin 66 = (0, oGetf 14 6 0 69) := rfl
theorem aX12_kin_69 : at_ kX12_kin 69 = (0, oIcGe 199 72) := rfl
theorem aX12_kin_72 : at_ kX12_kin 72 = (0, oRload 0 73) := rfl
theorem aX12_kin_73 : at_ kX12_kin 73 = (0, oGetf 14 65 2 76) := rfl
theorem aX12_kin_76 : at_ kX12_kin 76 = (0, oIload 4 78) := rfl
theorem aX12_kin_78 : at_ kX12_kin 78 = (0, oIald 79) := rfl
theorem aX12_kin_79 : at_ kX12_kin 79 = (0, oIfNe 193 82) := rfl
theorem aX12_kin_82 : at_ kX12_kin 82 = (0, oRload 0 83) := rfl
theorem aX12_kin_83 : at_ kX12_kin 83 = (0, oGetf 14 56 2 86) := rfl
theorem aX12_kin_86 : at_ kX12_kin 86 = (0, oIload 4 88) := rfl
theorem aX12_kin_88 : at_ kX12_kin 88 = (0, oIald 89) := rfl
theorem aX12_kin_89 : at_ kX12_kin 89 = (0, oIload 2 90) := rfl
theorem aX12_kin_90 : at_ kX12_kin 90 = (0, oIcNe 193 93) := rfl
theorem aX12_kin_93 : at_ kX12_kin 93 = (0, oRload 0 94) := rfl
theorem aX12_kin_94 : at_ kX12_kin 94 = (0, oGetf 14 62 2 97) := rfl
theorem aX12_kin_97 : at_ kX12_kin 97 = (0, oIload 4 99) := rfl
theorem aX12_kin_99 : at_ kX12_kin 99 = (0, oIald 100) := rfl
theorem aX12_kin_100 : at_ kX12_kin 100 = (0, oRload 0 101) := rfl
theorem aX12_kin_101 : at_ kX12_kin 101 = (0, oGetf 14 63 2 104) := rfl
theorem aX12_kin_104 : at_ kX12_kin 104 = (0, oIload 4 106) := rfl
theorem aX12_kin_106 : at_ kX12_kin 106 = (0, oIald 107) := rfl
theorem aX12_kin_107 : at_ kX12_kin 107 = (0, oIor 108) := rfl
theorem aX12_kin_108 : at_ kX12_kin 108 = (0, oIload 1 109) := rfl
theorem aX12_kin_109 : at_ kX12_kin 109 = (0, oIshr 110) := rfl
theorem aX12_kin_110 : at_ kX12_kin 110 = (0, oPush (vI 1) 111) := rfl
theorem aX12_kin_111 : at_ kX12_kin 111 = (0, oIand 112) := rfl
theorem aX12_kin_112 : at_ kX12_kin 112 = (0, oIfNe 118 115) := rfl
theorem aX12_kin_115 : at_ kX12_kin 115 = (0, oGoto 193) := rfl
theorem aX12_kin_118 : at_ kX12_kin 118 = (0, oRload 0 119) := rfl
theorem aX12_kin_119 : at_ kX12_kin 119 = (0, oRload 0 120) := rfl
theorem aX12_kin_120 : at_ kX12_kin 120 = (0, oGetf 14 62 2 123) := rfl
theorem aX12_kin_123 : at_ kX12_kin 123 = (0, oIload 4 125) := rfl
theorem aX12_kin_125 : at_ kX12_kin 125 = (0, oIald 126) := rfl
theorem aX12_kin_126 : at_ kX12_kin 126 = (0, oIload 2 127) := rfl
theorem aX12_kin_127 : at_ kX12_kin 127 = (2, oInvV 14 mX12_counted 2 130) := rfl
theorem aX12_kin_130 : at_ kX12_kin 130 = (0, oIstore 5 132) := rfl
theorem aX12_kin_132 : at_ kX12_kin 132 = (0, oIload 5 134) := rfl
theorem aX12_kin_134 : at_ kX12_kin 134 = (0, oRload 0 135) := rfl
theorem aX12_kin_135 : at_ kX12_kin 135 = (0, oRload 0 136) := rfl
theorem aX12_kin_136 : at_ kX12_kin 136 = (0, oGetf 14 63 2 139) := rfl
theorem aX12_kin_139 : at_ kX12_kin 139 = (0, oIload 4 141) := rfl
theorem aX12_kin_141 : at_ kX12_kin 141 = (0, oIald 142) := rfl
theorem aX12_kin_142 : at_ kX12_kin 142 = (0, oIload 2 143) := rfl
theorem aX12_kin_143 : at_ kX12_kin 143 = (2, oInvV 14 mX12_counted 2 146) := rfl
theorem aX12_kin_146 : at_ kX12_kin 146 = (0, oIadd 147) := rfl
theorem aX12_kin_147 : at_ kX12_kin 147 = (0, oIstore 6 149) := rfl
theorem aX12_kin_149 : at_ kX12_kin 149 = (0, oIload 6 151) := rfl
theorem aX12_kin_151 : at_ kX12_kin 151 = (0, oPush (vI 3) 152) := rfl
theorem aX12_kin_152 : at_ kX12_kin 152 = (0, oIcLt 182 155) := rfl
theorem aX12_kin_155 : at_ kX12_kin 155 = (0, oPush (vI 2) 156) := rfl
theorem aX12_kin_156 : at_ kX12_kin 156 = (0, oIload 5 158) := rfl
theorem aX12_kin_158 : at_ kX12_kin 158 = (0, oImul 159) := rfl
theorem aX12_kin_159 : at_ kX12_kin 159 = (0, oIload 6 161) := rfl
theorem aX12_kin_161 : at_ kX12_kin 161 = (0, oIcLe 168 164) := rfl
theorem aX12_kin_164 : at_ kX12_kin 164 = (0, oPush (vI 1) 165) := rfl
theorem aX12_kin_165 : at_ kX12_kin 165 = (0, oGoto 169) := rfl
theorem aX12_kin_168 : at_ kX12_kin 168 = (0, oPush (vI 0) 169) := rfl
theorem aX12_kin_169 : at_ kX12_kin 169 = (0, oRload 0 170) := rfl
theorem aX12_kin_170 : at_ kX12_kin 170 = (0, oGetf 14 67 2 173) := rfl
theorem aX12_kin_173 : at_ kX12_kin 173 = (0, oIload 4 175) := rfl
theorem aX12_kin_175 : at_ kX12_kin 175 = (0, oZald 176) := rfl
theorem aX12_kin_176 : at_ kX12_kin 176 = (0, oIcNe 182 179) := rfl
theorem aX12_kin_179 : at_ kX12_kin 179 = (0, oGoto 193) := rfl
theorem aX12_kin_182 : at_ kX12_kin 182 = (0, oRload 0 183) := rfl
theorem aX12_kin_183 : at_ kX12_kin 183 = (0, oGetf 14 65 2 186) := rfl
theorem aX12_kin_186 : at_ kX12_kin 186 = (0, oIload 4 188) := rfl
theorem aX12_kin_188 : at_ kX12_kin 188 = (0, oPush (vI 1) 189) := rfl
theorem aX12_kin_189 : at_ kX12_kin 189 = (0, oIast 190) := rfl
theorem aX12_kin_190 : at_ kX12_kin 190 = (0, oIinc 3 1 193) := rfl
theorem aX12_kin_193 : at_ kX12_kin 193 = (0, oIinc 4 1 196) := rfl
theorem aX12_kin_196 : at_ kX12_kin 196 = (0, oGoto 63) := rfl
theorem aX12_kin_199 : at_ kX12_kin 199 = (0, oIload 3 200) := rfl
theorem aX12_kin_200 : at_ kX12_kin 200 = (0, oRetI) := rfl
def kX12_like_0 : List En := [(0, oRload 0 1), (0, oIload 1 2), (0, oIload 2 3), (2, oInvV 14 mX12_phraseOf 2 6), (1, oFail), (1, oFail), (0, oIstore 4 8), (1, oFail), (0, oIload 4 10), (1, oFail), (0, oPush (vI (-1)) 11), (0, oIcNe 16 14), (1, oFail), (1, oFail), (0, oPush (vI (-1)) 15), (0, oRetI)]
set_option maxRecDepth 20000 in
theorem zX12_like_0 : SndL mX12_like 0 kX12_like_0 := SndL.c (s_aload_n (k := 0) (by decide +kernel) rfl) (SndL.c (s_iload_n (k := 1) (by decide +kernel) rfl) (SndL.c (s_iload_n (k := 2) (by decide +kernel) rfl) (SndL.c (s_invV (r := (RX12, TX12, 90)) (ci := 13) okX12_phraseOf rfl (by decide) rfl rfl w_6_239 w_7_1 v_38 (by decide +kernel)) (SndL.c (s_fail) (SndL.c (s_fail) (SndL.c (s_istore (by decide +kernel) (by decide)) (SndL.c (s_fail) (SndL.c (s_iload (by decide +kernel)) (SndL.c (s_fail) (SndL.c (s_iconst (by decide +kernel) (in32_d (by decide))) (SndL.c (s_ic_ne (off := 5) (by decide +kernel) (by decide)) (SndL.c (s_fail) (SndL.c (s_fail) (SndL.c (s_iconst (by decide +kernel) (in32_d (by decide))) (SndL.c (s_ret_i rfl (by decide +kernel)) (SndL.n))))))))))))))))
def kX12_like_1 : List En := [(0, oIload 3 17), (0, oIstore 5 19), (1, oFail), (0, oPush (vI 0) 20), (0, oIstore 6 22), (1, oFail), (1, oIload 6 24), (1, oFail), (0, oRload 0 25), (0, oGetf 14 6 0 28), (1, oFail), (1, oFail), (0, oIcGe 59 31), (1, oFail), (1, oFail), (0, oRload 0 32)]
set_option maxRecDepth 20000 in
theorem zX12_like_1 : SndL mX12_like 16 kX12_like_1 := SndL.c (s_iload_n (k := 3) (by decide +kernel) rfl) (SndL.c (s_istore (by decide +kernel) (by decide)) (SndL.c (s_fail) (SndL.c (s_iconst (by decide +kernel) (in32_d (by decide))) (SndL.c (s_istore (by decide +kernel) (by decide)) (SndL.c (s_fail) (SndL.c (s_iload (by decide +kernel)) (SndL.c (s_fail) (SndL.c (s_aload_n (k := 0) (by decide +kernel) rfl) (SndL.c (s_getf (k := 6) clok13 (by decide) rfl (by decide) rfl w_5_108 (Or.inl rfl) (by decide +kernel)) (SndL.c (s_fail) (SndL.c (s_fail) (SndL.c (s_ic_ge (off := 31) (by decide +kernel) (by decide)) (SndL.c (s_fail) (SndL.c (s_fail) (SndL.c (s_aload_n (k := 0) (by decide +kernel) rfl) (SndL.n))))))))))))))))
def kX12_like_2 : List En := [(0, oIload 6 34), (1, oFail), (0, oIload 4 36), (1, oFail), (2, oInvV 14 mX12_isLike 2 39), (1, oFail), (1, oFail), (0, oIfEq 53 42), (1, oFail), (1, oFail), (0, oIload 5 44), (1, oFail), (0, oIinc 5 (-1) 47), (1, oFail), (1, oFail), (0, oIfNe 53 50)]
set_option maxRecDepth 20000 in
theorem zX12_like_2 : SndL mX12_like 32 kX12_like_2 := SndL.c (s_iload (by decide +kernel)) (SndL.c (s_fail) (SndL.c (s_iload (by decide +kernel)) (SndL.c (s_fail) (SndL.c (s_invV (r := (RX12, TX12, 90)) (ci := 13) okX12_isLike rfl (by decide) rfl rfl w_7_124 w_7_126 v_58 (by decide +kernel)) (SndL.c (s_fail) (SndL.c (s_fail) (SndL.c (s_if_eq (off := 14) (by decide +kernel) (by decide)) (SndL.c (s_fail) (SndL.c (s_fail) (SndL.c (s_iload (by decide +kernel)) (SndL.c (s_fail) (SndL.c (s_iinc (by decide +kernel) (by decide)) (SndL.c (s_fail) (SndL.c (s_fail) (SndL.c (s_if_ne (off := 6) (by decide +kernel) (by decide)) (SndL.n))))))))))))))))
def kX12_like_3 : List En := [(1, oFail), (1, oFail), (0, oIload 6 52), (1, oFail), (0, oRetI), (0, oIinc 6 1 56), (1, oFail), (1, oFail), (0, oGoto 22), (1, oFail), (1, oFail), (0, oPush (vI (-1)) 60), (0, oRetI)]
set_option maxRecDepth 20000 in
theorem zX12_like_3 : SndL mX12_like 48 kX12_like_3 := SndL.c (s_fail) (SndL.c (s_fail) (SndL.c (s_iload (by decide +kernel)) (SndL.c (s_fail) (SndL.c (s_ret_i rfl (by decide +kernel)) (SndL.c (s_iinc (by decide +kernel) (by decide)) (SndL.c (s_fail) (SndL.c (s_fail) (SndL.c (s_goto (off := -34) (by decide +kernel) (by decide)) (SndL.c (s_fail) (SndL.c (s_fail) (SndL.c (s_iconst (by decide +kernel) (in32_d (by decide))) (SndL.c (s_ret_i rfl (by decide +kernel)) (SndL.n)))))))))))))
def kX12_like : Cd := [kX12_like_0, kX12_like_1, kX12_like_2, kX12_like_3]
theorem zX12_like : SndC mX12_like 0 kX12_like := SndC.c zX12_like_0 (by decide) (SndC.c zX12_like_1 (by decide) (SndC.c zX12_like_2 (by decide) (SndC.c zX12_like_3 (by decide) (SndC.n))))
theorem aX12_like_0 : at_ kX12_like 0 = (0, oRload 0 1) := rfl
theorem aX12_like_1 : at_ kX12_like 1 = (0, oIload 1 2) := rfl
theorem aX12_like_2 : at_ kX12_like 2 = (0, oIload 2 3) := rfl
theorem aX12_like_3 : at_ kX12_like 3 = (2, oInvV 14 mX12_phraseOf 2 6) := rfl
theorem aX12_like_6 : at_ kX12_like 6 = (0, oIstore 4 8) := rfl
theorem aX12_like_8 : at_ kX12_like 8 = (0, oIload 4 10) := rfl
theorem aX12_like_10 : at_ kX12_like 10 = (0, oPush (vI (-1)) 11) := rfl
theorem aX12_like_11 : at_ kX12_like 11 = (0, oIcNe 16 14) := rfl
theorem aX12_like_14 : at_ kX12_like 14 = (0, oPush (vI (-1)) 15) := rfl
theorem aX12_like_15 : at_ kX12_like 15 = (0, oRetI) := rfl
theorem aX12_like_16 : at_ kX12_like 16 = (0, oIload 3 17) := rfl
theorem aX12_like_17 : at_ kX12_like 17 = (0, oIstore 5 19) := rfl
theorem aX12_like_19 : at_ kX12_like 19 = (0, oPush (vI 0) 20) := rfl
theorem aX12_like_20 : at_ kX12_like 20 = (0, oIstore 6 22) := rfl
theorem aX12_like_22 : at_ kX12_like 22 = (1, oIload 6 24) := rfl
theorem aX12_like_24 : at_ kX12_like 24 = (0, oRload 0 25) := rfl
theorem aX12_like_25 : at_ kX12_like 25 = (0, oGetf 14 6 0 28) := rfl
theorem aX12_like_28 : at_ kX12_like 28 = (0, oIcGe 59 31) := rfl
theorem aX12_like_31 : at_ kX12_like 31 = (0, oRload 0 32) := rfl
theorem aX12_like_32 : at_ kX12_like 32 = (0, oIload 6 34) := rfl
theorem aX12_like_34 : at_ kX12_like 34 = (0, oIload 4 36) := rfl
theorem aX12_like_36 : at_ kX12_like 36 = (2, oInvV 14 mX12_isLike 2 39) := rfl
theorem aX12_like_39 : at_ kX12_like 39 = (0, oIfEq 53 42) := rfl
theorem aX12_like_42 : at_ kX12_like 42 = (0, oIload 5 44) := rfl
theorem aX12_like_44 : at_ kX12_like 44 = (0, oIinc 5 (-1) 47) := rfl
theorem aX12_like_47 : at_ kX12_like 47 = (0, oIfNe 53 50) := rfl
theorem aX12_like_50 : at_ kX12_like 50 = (0, oIload 6 52) := rfl
theorem aX12_like_52 : at_ kX12_like 52 = (0, oRetI) := rfl
theorem aX12_like_53 : at_ kX12_like 53 = (0, oIinc 6 1 56) := rfl
theorem aX12_like_56 : at_ kX12_like 56 = (0, oGoto 22) := rfl
theorem aX12_like_59 : at_ kX12_like 59 = (0, oPush (vI (-1)) 60) := rfl
theorem aX12_like_60 : at_ kX12_like 60 = (0, oRetI) := rfl
def kX12_apart_0 : List En := [(0, oRload 0 1), (0, oIload 2 2), (0, oIload 3 3), (2, oInvV 14 mX12_phraseOf 2 6), (1, oFail), (1, oFail), (0, oIstore 4 8), (1, oFail), (0, oIload 4 10), (1, oFail), (0, oPush (vI (-1)) 11), (0, oIcEq 22 14), (1, oFail), (1, oFail), (0, oRload 0 15), (0, oIload 1 16)]
set_option maxRecDepth 20000 in
theorem zX12_apart_0 : SndL mX12_apart 0 kX12_apart_0 := SndL.c (s_aload_n (k := 0) (by decide +kernel) rfl) (SndL.c (s_iload_n (k := 2) (by decide +kernel) rfl) (SndL.c (s_iload_n (k := 3) (by decide +kernel) rfl) (SndL.c (s_invV (r := (RX12, TX12, 90)) (ci := 13) okX12_phraseOf rfl (by decide) rfl rfl w_6_239 w_7_1 v_38 (by decide +kernel)) (SndL.c (s_fail) (SndL.c (s_fail) (SndL.c (s_istore (by decide +kernel) (by decide)) (SndL.c (s_fail) (SndL.c (s_iload (by decide +kernel)) (SndL.c (s_fail) (SndL.c (s_iconst (by decide +kernel) (in32_d (by decide))) (SndL.c (s_ic_eq (off := 11) (by decide +kernel) (by decide)) (SndL.c (s_fail) (SndL.c (s_fail) (SndL.c (s_aload_n (k := 0) (by decide +kernel) rfl) (SndL.c (s_iload_n (k := 1) (by decide +kernel) rfl) (SndL.n))))))))))))))))
def kX12_apart_1 : List En := [(2, oInvV 14 mX12_isRuling 1 19), (1, oFail), (1, oFail), (0, oIfNe 24 22), (1, oFail), (1, oFail), (0, oPush (vI (-1)) 23), (0, oRetI), (0, oRload 0 25), (0, oGetf 14 60 2 28), (1, oFail), (1, oFail), (0, oIload 1 29), (0, oIald 30), (0, oRload 0 31), (0, oGetf 14 36 2 34)]
set_option maxRecDepth 20000 in
theorem zX12_apart_1 : SndL mX12_apart 16 kX12_apart_1 := SndL.c (s_invV (r := (RX12, TX12, 90)) (ci := 13) okX12_isRuling rfl (by decide) rfl rfl w_7_132 w_7_134 v_59 (by decide +kernel)) (SndL.c (s_fail) (SndL.c (s_fail) (SndL.c (s_if_ne (off := 5) (by decide +kernel) (by decide)) (SndL.c (s_fail) (SndL.c (s_fail) (SndL.c (s_iconst (by decide +kernel) (in32_d (by decide))) (SndL.c (s_ret_i rfl (by decide +kernel)) (SndL.c (s_aload_n (k := 0) (by decide +kernel) rfl) (SndL.c (s_getf (k := 60) clok13 (by decide) rfl (by decide) rfl w_5_162 (Or.inl rfl) (by decide +kernel)) (SndL.c (s_fail) (SndL.c (s_fail) (SndL.c (s_iload_n (k := 1) (by decide +kernel) rfl) (SndL.c (s_iald (by decide +kernel)) (SndL.c (s_aload_n (k := 0) (by decide +kernel) rfl) (SndL.c (s_getf (k := 36) clok13 (by decide) rfl (by decide) rfl w_5_138 (Or.inl rfl) (by decide +kernel)) (SndL.n))))))))))))))))
def kX12_apart_2 : List En := [(1, oFail), (1, oFail), (0, oIload 4 36), (1, oFail), (0, oIald 37), (0, oIsub 38), (0, oIstore 5 40), (1, oFail), (0, oRload 0 41), (0, oGetf 14 58 2 44), (1, oFail), (1, oFail), (0, oIload 1 45), (0, oIald 46), (0, oRload 0 47), (0, oGetf 14 34 2 50)]
set_option maxRecDepth 20000 in
theorem zX12_apart_2 : SndL mX12_apart 32 kX12_apart_2 := SndL.c (s_fail) (SndL.c (s_fail) (SndL.c (s_iload (by decide +kernel)) (SndL.c (s_fail) (SndL.c (s_iald (by decide +kernel)) (SndL.c (s_isub (by decide +kernel)) (SndL.c (s_istore (by decide +kernel) (by decide)) (SndL.c (s_fail) (SndL.c (s_aload_n (k := 0) (by decide +kernel) rfl) (SndL.c (s_getf (k := 58) clok13 (by decide) rfl (by decide) rfl w_5_160 (Or.inl rfl) (by decide +kernel)) (SndL.c (s_fail) (SndL.c (s_fail) (SndL.c (s_iload_n (k := 1) (by decide +kernel) rfl) (SndL.c (s_iald (by decide +kernel)) (SndL.c (s_aload_n (k := 0) (by decide +kernel) rfl) (SndL.c (s_getf (k := 34) clok13 (by decide) rfl (by decide) rfl w_5_136 (Or.inl rfl) (by decide +kernel)) (SndL.n))))))))))))))))
def kX12_apart_3 : List En := [(1, oFail), (1, oFail), (0, oIload 4 52), (1, oFail), (0, oIald 53), (0, oIcNe 60 56), (1, oFail), (1, oFail), (0, oPush (vI 0) 57), (0, oGoto 61), (1, oFail), (1, oFail), (0, oPush (vI 1) 61), (0, oRload 0 62), (0, oGetf 14 59 2 65), (1, oFail)]
set_option maxRecDepth 20000 in
theorem zX12_apart_3 : SndL mX12_apart 48 kX12_apart_3 := SndL.c (s_fail) (SndL.c (s_fail) (SndL.c (s_iload (by decide +kernel)) (SndL.c (s_fail) (SndL.c (s_iald (by decide +kernel)) (SndL.c (s_ic_ne (off := 7) (by decide +kernel) (by decide)) (SndL.c (s_fail) (SndL.c (s_fail) (SndL.c (s_iconst (by decide +kernel) (in32_d (by decide))) (SndL.c (s_goto (off := 4) (by decide +kernel) (by decide)) (SndL.c (s_fail) (SndL.c (s_fail) (SndL.c (s_iconst (by decide +kernel) (in32_d (by decide))) (SndL.c (s_aload_n (k := 0) (by decide +kernel) rfl) (SndL.c (s_getf (k := 59) clok13 (by decide) rfl (by decide) rfl w_5_161 (Or.inl rfl) (by decide +kernel)) (SndL.c (s_fail) (SndL.n))))))))))))))))
def kX12_apart_4 : List En := [(1, oFail), (0, oIload 1 66), (0, oIald 67), (0, oRload 0 68), (0, oGetf 14 35 2 71), (1, oFail), (1, oFail), (0, oIload 4 73), (1, oFail), (0, oIald 74), (0, oIcNe 81 77), (1, oFail), (1, oFail), (0, oPush (vI 0) 78), (0, oGoto 82), (1, oFail)]
set_option maxRecDepth 20000 in
theorem zX12_apart_4 : SndL mX12_apart 64 kX12_apart_4 := SndL.c (s_fail) (SndL.c (s_iload_n (k := 1) (by decide +kernel) rfl) (SndL.c (s_iald (by decide +kernel)) (SndL.c (s_aload_n (k := 0) (by decide +kernel) rfl) (SndL.c (s_getf (k := 35) clok13 (by decide) rfl (by decide) rfl w_5_137 (Or.inl rfl) (by decide +kernel)) (SndL.c (s_fail) (SndL.c (s_fail) (SndL.c (s_iload (by decide +kernel)) (SndL.c (s_fail) (SndL.c (s_iald (by decide +kernel)) (SndL.c (s_ic_ne (off := 7) (by decide +kernel) (by decide)) (SndL.c (s_fail) (SndL.c (s_fail) (SndL.c (s_iconst (by decide +kernel) (in32_d (by decide))) (SndL.c (s_goto (off := 4) (by decide +kernel) (by decide)) (SndL.c (s_fail) (SndL.n))))))))))))))))
def kX12_apart_5 : List En := [(1, oFail), (0, oPush (vI 2) 82), (0, oIadd 83), (0, oIload 5 85), (1, oFail), (0, oPush (vI 10) 87), (1, oFail), (0, oIcGt 101 90), (1, oFail), (1, oFail), (0, oIload 5 92), (1, oFail), (0, oPush (vI (-10)) 94), (1, oFail), (0, oIcLt 101 97), (1, oFail)]
set_option maxRecDepth 20000 in
theorem zX12_apart_5 : SndL mX12_apart 80 kX12_apart_5 := SndL.c (s_fail) (SndL.c (s_iconst (by decide +kernel) (in32_d (by decide))) (SndL.c (s_iadd (by decide +kernel)) (SndL.c (s_iload (by decide +kernel)) (SndL.c (s_fail) (SndL.c (s_bipush (by decide +kernel) (in32_d (by decide)) (by decide +kernel)) (SndL.c (s_fail) (SndL.c (s_ic_gt (off := 14) (by decide +kernel) (by decide)) (SndL.c (s_fail) (SndL.c (s_fail) (SndL.c (s_iload (by decide +kernel)) (SndL.c (s_fail) (SndL.c (s_bipush (by decide +kernel) (in32_d (by decide)) (by decide +kernel)) (SndL.c (s_fail) (SndL.c (s_ic_lt (off := 7) (by decide +kernel) (by decide)) (SndL.c (s_fail) (SndL.n))))))))))))))))
def kX12_apart_6 : List En := [(1, oFail), (0, oPush (vI 0) 98), (0, oGoto 102), (1, oFail), (1, oFail), (0, oPush (vI 4) 102), (0, oIadd 103), (0, oRload 0 104), (0, oGetf 14 57 2 107), (1, oFail), (1, oFail), (0, oIload 1 108), (0, oIald 109), (0, oRload 0 110), (0, oGetf 14 21 2 113), (1, oFail)]
set_option maxRecDepth 20000 in
theorem zX12_apart_6 : SndL mX12_apart 96 kX12_apart_6 := SndL.c (s_fail) (SndL.c (s_iconst (by decide +kernel) (in32_d (by decide))) (SndL.c (s_goto (off := 4) (by decide +kernel) (by decide)) (SndL.c (s_fail) (SndL.c (s_fail) (SndL.c (s_iconst (by decide +kernel) (in32_d (by decide))) (SndL.c (s_iadd (by decide +kernel)) (SndL.c (s_aload_n (k := 0) (by decide +kernel) rfl) (SndL.c (s_getf (k := 57) clok13 (by decide) rfl (by decide) rfl w_5_159 (Or.inl rfl) (by decide +kernel)) (SndL.c (s_fail) (SndL.c (s_fail) (SndL.c (s_iload_n (k := 1) (by decide +kernel) rfl) (SndL.c (s_iald (by decide +kernel)) (SndL.c (s_aload_n (k := 0) (by decide +kernel) rfl) (SndL.c (s_getf (k := 21) clok13 (by decide) rfl (by decide) rfl w_5_123 (Or.inl rfl) (by decide +kernel)) (SndL.c (s_fail) (SndL.n))))))))))))))))
def kX12_apart_7 : List En := [(1, oFail), (0, oIload 2 114), (0, oIald 115), (0, oIcNe 122 118), (1, oFail), (1, oFail), (0, oPush (vI 0) 119), (0, oGoto 124), (1, oFail), (1, oFail), (0, oPush (vI 8) 124), (1, oFail), (0, oIadd 125), (0, oRload 0 126), (0, oGetf 14 56 2 129), (1, oFail)]
set_option maxRecDepth 20000 in
theorem zX12_apart_7 : SndL mX12_apart 112 kX12_apart_7 := SndL.c (s_fail) (SndL.c (s_iload_n (k := 2) (by decide +kernel) rfl) (SndL.c (s_iald (by decide +kernel)) (SndL.c (s_ic_ne (off := 7) (by decide +kernel) (by decide)) (SndL.c (s_fail) (SndL.c (s_fail) (SndL.c (s_iconst (by decide +kernel) (in32_d (by decide))) (SndL.c (s_goto (off := 5) (by decide +kernel) (by decide)) (SndL.c (s_fail) (SndL.c (s_fail) (SndL.c (s_bipush (by decide +kernel) (in32_d (by decide)) (by decide +kernel)) (SndL.c (s_fail) (SndL.c (s_iadd (by decide +kernel)) (SndL.c (s_aload_n (k := 0) (by decide +kernel) rfl) (SndL.c (s_getf (k := 56) clok13 (by decide) rfl (by decide) rfl w_5_158 (Or.inl rfl) (by decide +kernel)) (SndL.c (s_fail) (SndL.n))))))))))))))))
def kX12_apart_8 : List En := [(1, oFail), (0, oIload 1 130), (0, oIald 131), (0, oRload 0 132), (0, oGetf 14 20 2 135), (1, oFail), (1, oFail), (0, oIload 2 136), (0, oIald 137), (0, oIcNe 144 140), (1, oFail), (1, oFail), (0, oPush (vI 0) 141), (0, oGoto 146), (1, oFail), (1, oFail)]
set_option maxRecDepth 20000 in
theorem zX12_apart_8 : SndL mX12_apart 128 kX12_apart_8 := SndL.c (s_fail) (SndL.c (s_iload_n (k := 1) (by decide +kernel) rfl) (SndL.c (s_iald (by decide +kernel)) (SndL.c (s_aload_n (k := 0) (by decide +kernel) rfl) (SndL.c (s_getf (k := 20) clok13 (by decide) rfl (by decide) rfl w_5_122 (Or.inl rfl) (by decide +kernel)) (SndL.c (s_fail) (SndL.c (s_fail) (SndL.c (s_iload_n (k := 2) (by decide +kernel) rfl) (SndL.c (s_iald (by decide +kernel)) (SndL.c (s_ic_ne (off := 7) (by decide +kernel) (by decide)) (SndL.c (s_fail) (SndL.c (s_fail) (SndL.c (s_iconst (by decide +kernel) (in32_d (by decide))) (SndL.c (s_goto (off := 5) (by decide +kernel) (by decide)) (SndL.c (s_fail) (SndL.c (s_fail) (SndL.n))))))))))))))))
def kX12_apart_9 : List En := [(0, oPush (vI 16) 146), (1, oFail), (0, oIadd 147), (0, oRetI)]
set_option maxRecDepth 20000 in
theorem zX12_apart_9 : SndL mX12_apart 144 kX12_apart_9 := SndL.c (s_bipush (by decide +kernel) (in32_d (by decide)) (by decide +kernel)) (SndL.c (s_fail) (SndL.c (s_iadd (by decide +kernel)) (SndL.c (s_ret_i rfl (by decide +kernel)) (SndL.n))))
def kX12_apart : Cd := [kX12_apart_0, kX12_apart_1, kX12_apart_2, kX12_apart_3, kX12_apart_4, kX12_apart_5, kX12_apart_6, kX12_apart_7, kX12_apart_8, kX12_apart_9]
theorem zX12_apart : SndC mX12_apart 0 kX12_apart := SndC.c zX12_apart_0 (by decide) (SndC.c zX12_apart_1 (by decide) (SndC.c zX12_apart_2 (by decide) (SndC.c zX12_apart_3 (by decide) (SndC.c zX12_apart_4 (by decide) (SndC.c zX12_apart_5 (by decide) (SndC.c zX12_apart_6 (by decide) (SndC.c zX12_apart_7 (by decide) (SndC.c zX12_apart_8 (by decide) (SndC.c zX12_apart_9 (by decide) (SndC.n))))))))))
theorem aX12_apart_0 : at_ kX12_apart 0 = (0, oRload 0 1) := rfl
theorem aX12_apart_1 : at_ kX12_apart 1 = (0, oIload 2 2) := rfl
theorem aX12_apart_2 : at_ kX12_apart 2 = (0, oIload 3 3) := rfl
theorem aX12_apart_3 : at_ kX12_apart 3 = (2, oInvV 14 mX12_phraseOf 2 6) := rfl
theorem aX12_apart_6 : at_ kX12_apart 6 = (0, oIstore 4 8) := rfl
theorem aX12_apart_8 : at_ kX12_apart 8 = (0, oIload 4 10) := rfl
theorem aX12_apart_10 : at_ kX12_apart 10 = (0, oPush (vI (-1)) 11) := rfl
theorem aX12_apart_11 : at_ kX12_apart 11 = (0, oIcEq 22 14) := rfl
theorem aX12_apart_14 : at_ kX12_apart 14 = (0, oRload 0 15) := rfl
theorem aX12_apart_15 : at_ kX12_apart 15 = (0, oIload 1 16) := rfl
theorem aX12_apart_16 : at_ kX12_apart 16 = (2, oInvV 14 mX12_isRuling 1 19) := rfl
theorem aX12_apart_19 : at_ kX12_apart 19 = (0, oIfNe 24 22) := rfl
theorem aX12_apart_22 : at_ kX12_apart 22 = (0, oPush (vI (-1)) 23) := rfl
theorem aX12_apart_23 : at_ kX12_apart 23 = (0, oRetI) := rfl
theorem aX12_apart_24 : at_ kX12_apart 24 = (0, oRload 0 25) := rfl
theorem aX12_apart_25 : at_ kX12_apart 25 = (0, oGetf 14 60 2 28) := rfl
theorem aX12_apart_28 : at_ kX12_apart 28 = (0, oIload 1 29) := rfl
theorem aX12_apart_29 : at_ kX12_apart 29 = (0, oIald 30) := rfl
theorem aX12_apart_30 : at_ kX12_apart 30 = (0, oRload 0 31) := rfl
theorem aX12_apart_31 : at_ kX12_apart 31 = (0, oGetf 14 36 2 34) := rfl
theorem aX12_apart_34 : at_ kX12_apart 34 = (0, oIload 4 36) := rfl
theorem aX12_apart_36 : at_ kX12_apart 36 = (0, oIald 37) := rfl
theorem aX12_apart_37 : at_ kX12_apart 37 = (0, oIsub 38) := rfl
theorem aX12_apart_38 : at_ kX12_apart 38 = (0, oIstore 5 40) := rfl
theorem aX12_apart_40 : at_ kX12_apart 40 = (0, oRload 0 41) := rfl
theorem aX12_apart_41 : at_ kX12_apart 41 = (0, oGetf 14 58 2 44) := rfl
theorem aX12_apart_44 : at_ kX12_apart 44 = (0, oIload 1 45) := rfl
theorem aX12_apart_45 : at_ kX12_apart 45 = (0, oIald 46) := rfl
theorem aX12_apart_46 : at_ kX12_apart 46 = (0, oRload 0 47) := rfl
theorem aX12_apart_47 : at_ kX12_apart 47 = (0, oGetf 14 34 2 50) := rfl
theorem aX12_apart_50 : at_ kX12_apart 50 = (0, oIload 4 52) := rfl
theorem aX12_apart_52 : at_ kX12_apart 52 = (0, oIald 53) := rfl
theorem aX12_apart_53 : at_ kX12_apart 53 = (0, oIcNe 60 56) := rfl
theorem aX12_apart_56 : at_ kX12_apart 56 = (0, oPush (vI 0) 57) := rfl
theorem aX12_apart_57 : at_ kX12_apart 57 = (0, oGoto 61) := rfl
theorem aX12_apart_60 : at_ kX12_apart 60 = (0, oPush (vI 1) 61) := rfl
theorem aX12_apart_61 : at_ kX12_apart 61 = (0, oRload 0 62) := rfl
theorem aX12_apart_62 : at_ kX12_apart 62 = (0, oGetf 14 59 2 65) := rfl
theorem aX12_apart_65 : at_ kX12_apart 65 = (0, oIload 1 66) := rfl
theorem aX12_apart_66 : at_ kX12_apart 66 = (0, oIald 67) := rfl
theorem aX12_apart_67 : at_ kX12_apart 67 = (0, oRload 0 68) := rfl
theorem aX12_apart_68 : at_ kX12_apart 68 = (0, oGetf 14 35 2 71) := rfl
theorem aX12_apart_71 : at_ kX12_apart 71 = (0, oIload 4 73) := rfl
theorem aX12_apart_73 : at_ kX12_apart 73 = (0, oIald 74) := rfl
theorem aX12_apart_74 : at_ kX12_apart 74 = (0, oIcNe 81 77) := rfl
theorem aX12_apart_77 : at_ kX12_apart 77 = (0, oPush (vI 0) 78) := rfl
theorem aX12_apart_78 : at_ kX12_apart 78 = (0, oGoto 82) := rfl
theorem aX12_apart_81 : at_ kX12_apart 81 = (0, oPush (vI 2) 82) := rfl
theorem aX12_apart_82 : at_ kX12_apart 82 = (0, oIadd 83) := rfl
theorem aX12_apart_83 : at_ kX12_apart 83 = (0, oIload 5 85) := rfl
theorem aX12_apart_85 : at_ kX12_apart 85 = (0, oPush (vI 10) 87) := rfl
theorem aX12_apart_87 : at_ kX12_apart 87 = (0, oIcGt 101 90) := rfl
theorem aX12_apart_90 : at_ kX12_apart 90 = (0, oIload 5 92) := rfl
theorem aX12_apart_92 : at_ kX12_apart 92 = (0, oPush (vI (-10)) 94) := rfl
theorem aX12_apart_94 : at_ kX12_apart 94 = (0, oIcLt 101 97) := rfl
theorem aX12_apart_97 : at_ kX12_apart 97 = (0, oPush (vI 0) 98) := rfl
theorem aX12_apart_98 : at_ kX12_apart 98 = (0, oGoto 102) := rfl
theorem aX12_apart_101 : at_ kX12_apart 101 = (0, oPush (vI 4) 102) := rfl
theorem aX12_apart_102 : at_ kX12_apart 102 = (0, oIadd 103) := rfl
theorem aX12_apart_103 : at_ kX12_apart 103 = (0, oRload 0 104) := rfl
theorem aX12_apart_104 : at_ kX12_apart 104 = (0, oGetf 14 57 2 107) := rfl
theorem aX12_apart_107 : at_ kX12_apart 107 = (0, oIload 1 108) := rfl
theorem aX12_apart_108 : at_ kX12_apart 108 = (0, oIald 109) := rfl
theorem aX12_apart_109 : at_ kX12_apart 109 = (0, oRload 0 110) := rfl
theorem aX12_apart_110 : at_ kX12_apart 110 = (0, oGetf 14 21 2 113) := rfl
theorem aX12_apart_113 : at_ kX12_apart 113 = (0, oIload 2 114) := rfl
theorem aX12_apart_114 : at_ kX12_apart 114 = (0, oIald 115) := rfl
theorem aX12_apart_115 : at_ kX12_apart 115 = (0, oIcNe 122 118) := rfl
theorem aX12_apart_118 : at_ kX12_apart 118 = (0, oPush (vI 0) 119) := rfl
theorem aX12_apart_119 : at_ kX12_apart 119 = (0, oGoto 124) := rfl
theorem aX12_apart_122 : at_ kX12_apart 122 = (0, oPush (vI 8) 124) := rfl
theorem aX12_apart_124 : at_ kX12_apart 124 = (0, oIadd 125) := rfl
theorem aX12_apart_125 : at_ kX12_apart 125 = (0, oRload 0 126) := rfl
theorem aX12_apart_126 : at_ kX12_apart 126 = (0, oGetf 14 56 2 129) := rfl
theorem aX12_apart_129 : at_ kX12_apart 129 = (0, oIload 1 130) := rfl
theorem aX12_apart_130 : at_ kX12_apart 130 = (0, oIald 131) := rfl
theorem aX12_apart_131 : at_ kX12_apart 131 = (0, oRload 0 132) := rfl
theorem aX12_apart_132 : at_ kX12_apart 132 = (0, oGetf 14 20 2 135) := rfl
theorem aX12_apart_135 : at_ kX12_apart 135 = (0, oIload 2 136) := rfl
theorem aX12_apart_136 : at_ kX12_apart 136 = (0, oIald 137) := rfl
theorem aX12_apart_137 : at_ kX12_apart 137 = (0, oIcNe 144 140) := rfl
theorem aX12_apart_140 : at_ kX12_apart 140 = (0, oPush (vI 0) 141) := rfl
theorem aX12_apart_141 : at_ kX12_apart 141 = (0, oGoto 146) := rfl
theorem aX12_apart_144 : at_ kX12_apart 144 = (0, oPush (vI 16) 146) := rfl
theorem aX12_apart_146 : at_ kX12_apart 146 = (0, oIadd 147) := rfl
theorem aX12_apart_147 : at_ kX12_apart 147 = (0, oRetI) := rfl
def kX12_binding_0 : List En := [(0, oRload 0 1), (0, oIload 1 2), (0, oIload 2 3), (2, oInvV 14 mX12_phraseOf 2 6), (1, oFail), (1, oFail), (0, oIstore 3 7), (0, oIload 3 8), (0, oPush (vI (-1)) 9), (0, oIcNe 16 12), (1, oFail), (1, oFail), (0, oPush (vI (-1)) 13), (0, oGoto 22), (1, oFail), (1, oFail)]
set_option maxRecDepth 20000 in
theorem zX12_binding_0 : SndL mX12_binding 0 kX12_binding_0 := SndL.c (s_aload_n (k := 0) (by decide +kernel) rfl) (SndL.c (s_iload_n (k := 1) (by decide +kernel) rfl) (SndL.c (s_iload_n (k := 2) (by decide +kernel) rfl) (SndL.c (s_invV (r := (RX12, TX12, 90)) (ci := 13) okX12_phraseOf rfl (by decide) rfl rfl w_6_239 w_7_1 v_38 (by decide +kernel)) (SndL.c (s_fail) (SndL.c (s_fail) (SndL.c (s_istore_n (k := 3) (by decide +kernel) rfl (by decide)) (SndL.c (s_iload_n (k := 3) (by decide +kernel) rfl) (SndL.c (s_iconst (by decide +kernel) (in32_d (by decide))) (SndL.c (s_ic_ne (off := 7) (by decide +kernel) (by decide)) (SndL.c (s_fail) (SndL.c (s_fail) (SndL.c (s_iconst (by decide +kernel) (in32_d (by decide))) (SndL.c (s_goto (off := 9) (by decide +kernel) (by decide)) (SndL.c (s_fail) (SndL.c (s_fail) (SndL.n))))))))))))))))
def kX12_binding_1 : List En := [(0, oRload 0 17), (0, oIload 1 18), (0, oIload 3 19), (2, oInvV 14 mX12_bindingOn 2 22), (1, oFail), (1, oFail), (0, oRetI)]
set_option maxRecDepth 20000 in
theorem zX12_binding_1 : SndL mX12_binding 16 kX12_binding_1 := SndL.c (s_aload_n (k := 0) (by decide +kernel) rfl) (SndL.c (s_iload_n (k := 1) (by decide +kernel) rfl) (SndL.c (s_iload_n (k := 3) (by decide +kernel) rfl) (SndL.c (s_invV (r := (RX12, TX12, 90)) (ci := 13) okX12_bindingOn rfl (by decide) rfl rfl w_7_120 w_7_122 v_57 (by decide +kernel)) (SndL.c (s_fail) (SndL.c (s_fail) (SndL.c (s_ret_i rfl (by decide +kernel)) (SndL.n)))))))
def kX12_binding : Cd := [kX12_binding_0, kX12_binding_1]
theorem zX12_binding : SndC mX12_binding 0 kX12_binding := SndC.c zX12_binding_0 (by decide) (SndC.c zX12_binding_1 (by decide) (SndC.n))
theorem aX12_binding_0 : at_ kX12_binding 0 = (0, oRload 0 1) := rfl
theorem aX12_binding_1 : at_ kX12_binding 1 = (0, oIload 1 2) := rfl
theorem aX12_binding_2 : at_ kX12_binding 2 = (0, oIload 2 3) := rfl
theorem aX12_binding_3 : at_ kX12_binding 3 = (2, oInvV 14 mX12_phraseOf 2 6) := rfl
theorem aX12_binding_6 : at_ kX12_binding 6 = (0, oIstore 3 7) := rfl
theorem aX12_binding_7 : at_ kX12_binding 7 = (0, oIload 3 8) := rfl
theorem aX12_binding_8 : at_ kX12_binding 8 = (0, oPush (vI (-1)) 9) := rfl
theorem aX12_binding_9 : at_ kX12_binding 9 = (0, oIcNe 16 12) := rfl
theorem aX12_binding_12 : at_ kX12_binding 12 = (0, oPush (vI (-1)) 13) := rfl
theorem aX12_binding_13 : at_ kX12_binding 13 = (0, oGoto 22) := rfl
theorem aX12_binding_16 : at_ kX12_binding 16 = (0, oRload 0 17) := rfl
theorem aX12_binding_17 : at_ kX12_binding 17 = (0, oIload 1 18) := rfl
theorem aX12_binding_18 : at_ kX12_binding 18 = (0, oIload 3 19) := rfl
theorem aX12_binding_19 : at_ kX12_binding 19 = (2, oInvV 14 mX12_bindingOn 2 22) := rfl
theorem aX12_binding_22 : at_ kX12_binding 22 = (0, oRetI) := rfl
def kX12_clash_0 : List En := [(0, oRload 0 1), (0, oIload 1 2), (0, oIload 2 3), (2, oInvV 14 mX12_phraseOf 2 6), (1, oFail), (1, oFail), (0, oIstore 3 7), (0, oIload 3 8), (0, oPush (vI (-1)) 9), (0, oIcNe 14 12), (1, oFail), (1, oFail), (0, oPush (vI (-1)) 13), (0, oRetI), (0, oPush (vI 0) 15), (0, oIstore 4 17)]
set_option maxRecDepth 20000 in
theorem zX12_clash_0 : SndL mX12_clash 0 kX12_clash_0 := SndL.c (s_aload_n (k := 0) (by decide +kernel) rfl) (SndL.c (s_iload_n (k := 1) (by decide +kernel) rfl) (SndL.c (s_iload_n (k := 2) (by decide +kernel) rfl) (SndL.c (s_invV (r := (RX12, TX12, 90)) (ci := 13) okX12_phraseOf rfl (by decide) rfl rfl w_6_239 w_7_1 v_38 (by decide +kernel)) (SndL.c (s_fail) (SndL.c (s_fail) (SndL.c (s_istore_n (k := 3) (by decide +kernel) rfl (by decide)) (SndL.c (s_iload_n (k := 3) (by decide +kernel) rfl) (SndL.c (s_iconst (by decide +kernel) (in32_d (by decide))) (SndL.c (s_ic_ne (off := 5) (by decide +kernel) (by decide)) (SndL.c (s_fail) (SndL.c (s_fail) (SndL.c (s_iconst (by decide +kernel) (in32_d (by decide))) (SndL.c (s_ret_i rfl (by decide +kernel)) (SndL.c (s_iconst (by decide +kernel) (in32_d (by decide))) (SndL.c (s_istore (by decide +kernel) (by decide)) (SndL.n))))))))))))))))
def kX12_clash_1 : List En := [(1, oFail), (0, oPush (vI 0) 18), (0, oIstore 5 20), (1, oFail), (0, oPush (vI 0) 21), (0, oIstore 6 23), (1, oFail), (1, oIload 6 25), (1, oFail), (0, oRload 0 26), (0, oGetf 14 6 0 29), (1, oFail), (1, oFail), (0, oIcGe 86 32), (1, oFail), (1, oFail)]
set_option maxRecDepth 20000 in
theorem zX12_clash_1 : SndL mX12_clash 16 kX12_clash_1 := SndL.c (s_fail) (SndL.c (s_iconst (by decide +kernel) (in32_d (by decide))) (SndL.c (s_istore (by decide +kernel) (by decide)) (SndL.c (s_fail) (SndL.c (s_iconst (by decide +kernel) (in32_d (by decide))) (SndL.c (s_istore (by decide +kernel) (by decide)) (SndL.c (s_fail) (SndL.c (s_iload (by decide +kernel)) (SndL.c (s_fail) (SndL.c (s_aload_n (k := 0) (by decide +kernel) rfl) (SndL.c (s_getf (k := 6) clok13 (by decide) rfl (by decide) rfl w_5_108 (Or.inl rfl) (by decide +kernel)) (SndL.c (s_fail) (SndL.c (s_fail) (SndL.c (s_ic_ge (off := 57) (by decide +kernel) (by decide)) (SndL.c (s_fail) (SndL.c (s_fail) (SndL.n))))))))))))))))
def kX12_clash_2 : List En := [(0, oRload 0 33), (0, oIload 6 35), (1, oFail), (0, oIload 3 36), (2, oInvV 14 mX12_isLike 2 39), (1, oFail), (1, oFail), (0, oIfEq 80 42), (1, oFail), (1, oFail), (0, oRload 0 43), (0, oGetf 14 57 2 46), (1, oFail), (1, oFail), (0, oIload 6 48), (1, oFail)]
set_option maxRecDepth 20000 in
theorem zX12_clash_2 : SndL mX12_clash 32 kX12_clash_2 := SndL.c (s_aload_n (k := 0) (by decide +kernel) rfl) (SndL.c (s_iload (by decide +kernel)) (SndL.c (s_fail) (SndL.c (s_iload_n (k := 3) (by decide +kernel) rfl) (SndL.c (s_invV (r := (RX12, TX12, 90)) (ci := 13) okX12_isLike rfl (by decide) rfl rfl w_7_124 w_7_126 v_58 (by decide +kernel)) (SndL.c (s_fail) (SndL.c (s_fail) (SndL.c (s_if_eq (off := 41) (by decide +kernel) (by decide)) (SndL.c (s_fail) (SndL.c (s_fail) (SndL.c (s_aload_n (k := 0) (by decide +kernel) rfl) (SndL.c (s_getf (k := 57) clok13 (by decide) rfl (by decide) rfl w_5_159 (Or.inl rfl) (by decide +kernel)) (SndL.c (s_fail) (SndL.c (s_fail) (SndL.c (s_iload (by decide +kernel)) (SndL.c (s_fail) (SndL.n))))))))))))))))
def kX12_clash_3 : List En := [(0, oIald 49), (0, oRload 0 50), (0, oGetf 14 21 2 53), (1, oFail), (1, oFail), (0, oIload 1 54), (0, oIald 55), (0, oIcEq 61 58), (1, oFail), (1, oFail), (0, oGoto 80), (1, oFail), (1, oFail), (0, oRload 0 62), (0, oGetf 14 67 2 65), (1, oFail)]
set_option maxRecDepth 20000 in
theorem zX12_clash_3 : SndL mX12_clash 48 kX12_clash_3 := SndL.c (s_iald (by decide +kernel)) (SndL.c (s_aload_n (k := 0) (by decide +kernel) rfl) (SndL.c (s_getf (k := 21) clok13 (by decide) rfl (by decide) rfl w_5_123 (Or.inl rfl) (by decide +kernel)) (SndL.c (s_fail) (SndL.c (s_fail) (SndL.c (s_iload_n (k := 1) (by decide +kernel) rfl) (SndL.c (s_iald (by decide +kernel)) (SndL.c (s_ic_eq (off := 6) (by decide +kernel) (by decide)) (SndL.c (s_fail) (SndL.c (s_fail) (SndL.c (s_goto (off := 22) (by decide +kernel) (by decide)) (SndL.c (s_fail) (SndL.c (s_fail) (SndL.c (s_aload_n (k := 0) (by decide +kernel) rfl) (SndL.c (s_getf (k := 67) clok13 (by decide) rfl (by decide) rfl w_5_169 (Or.inl rfl) (by decide +kernel)) (SndL.c (s_fail) (SndL.n))))))))))))))))
def kX12_clash_4 : List En := [(1, oFail), (0, oIload 6 67), (1, oFail), (0, oZald 68), (0, oIfEq 77 71), (1, oFail), (1, oFail), (0, oIinc 4 1 74), (1, oFail), (1, oFail), (0, oGoto 80), (1, oFail), (1, oFail), (0, oIinc 5 1 80), (1, oFail), (1, oFail)]
set_option maxRecDepth 20000 in
theorem zX12_clash_4 : SndL mX12_clash 64 kX12_clash_4 := SndL.c (s_fail) (SndL.c (s_iload (by decide +kernel)) (SndL.c (s_fail) (SndL.c (s_zald (by decide +kernel)) (SndL.c (s_if_eq (off := 9) (by decide +kernel) (by decide)) (SndL.c (s_fail) (SndL.c (s_fail) (SndL.c (s_iinc (by decide +kernel) (by decide)) (SndL.c (s_fail) (SndL.c (s_fail) (SndL.c (s_goto (off := 6) (by decide +kernel) (by decide)) (SndL.c (s_fail) (SndL.c (s_fail) (SndL.c (s_iinc (by decide +kernel) (by decide)) (SndL.c (s_fail) (SndL.c (s_fail) (SndL.n))))))))))))))))
def kX12_clash_5 : List En := [(0, oIinc 6 1 83), (1, oFail), (1, oFail), (0, oGoto 23), (1, oFail), (1, oFail), (0, oIload 4 88), (1, oFail), (0, oIload 5 90), (1, oFail), (0, oImul 91), (0, oRetI)]
set_option maxRecDepth 20000 in
theorem zX12_clash_5 : SndL mX12_clash 80 kX12_clash_5 := SndL.c (s_iinc (by decide +kernel) (by decide)) (SndL.c (s_fail) (SndL.c (s_fail) (SndL.c (s_goto (off := -60) (by decide +kernel) (by decide)) (SndL.c (s_fail) (SndL.c (s_fail) (SndL.c (s_iload (by decide +kernel)) (SndL.c (s_fail) (SndL.c (s_iload (by decide +kernel)) (SndL.c (s_fail) (SndL.c (s_imul (by decide +kernel)) (SndL.c (s_ret_i rfl (by decide +kernel)) (SndL.n))))))))))))
def kX12_clash : Cd := [kX12_clash_0, kX12_clash_1, kX12_clash_2, kX12_clash_3, kX12_clash_4, kX12_clash_5]
theorem zX12_clash : SndC mX12_clash 0 kX12_clash := SndC.c zX12_clash_0 (by decide) (SndC.c zX12_clash_1 (by decide) (SndC.c zX12_clash_2 (by decide) (SndC.c zX12_clash_3 (by decide) (SndC.c zX12_clash_4 (by decide) (SndC.c zX12_clash_5 (by decide) (SndC.n))))))
theorem aX12_clash_0 : at_ kX12_clash 0 = (0, oRload 0 1) := rfl
theorem aX12_clash_1 : at_ kX12_clash 1 = (0, oIload 1 2) := rfl
theorem aX12_clash_2 : at_ kX12_clash 2 = (0, oIload 2 3) := rfl
theorem aX12_clash_3 : at_ kX12_clash 3 = (2, oInvV 14 mX12_phraseOf 2 6) := rfl
theorem aX12_clash_6 : at_ kX12_clash 6 = (0, oIstore 3 7) := rfl
theorem aX12_clash_7 : at_ kX12_clash 7 = (0, oIload 3 8) := rfl
theorem aX12_clash_8 : at_ kX12_clash 8 = (0, oPush (vI (-1)) 9) := rfl
theorem aX12_clash_9 : at_ kX12_clash 9 = (0, oIcNe 14 12) := rfl
theorem aX12_clash_12 : at_ kX12_clash 12 = (0, oPush (vI (-1)) 13) := rfl
theorem aX12_clash_13 : at_ kX12_clash 13 = (0, oRetI) := rfl
theorem aX12_clash_14 : at_ kX12_clash 14 = (0, oPush (vI 0) 15) := rfl
theorem aX12_clash_15 : at_ kX12_clash 15 = (0, oIstore 4 17) := rfl
theorem aX12_clash_17 : at_ kX12_clash 17 = (0, oPush (vI 0) 18) := rfl
theorem aX12_clash_18 : at_ kX12_clash 18 = (0, oIstore 5 20) := rfl
theorem aX12_clash_20 : at_ kX12_clash 20 = (0, oPush (vI 0) 21) := rfl
theorem aX12_clash_21 : at_ kX12_clash 21 = (0, oIstore 6 23) := rfl
theorem aX12_clash_23 : at_ kX12_clash 23 = (1, oIload 6 25) := rfl
theorem aX12_clash_25 : at_ kX12_clash 25 = (0, oRload 0 26) := rfl
theorem aX12_clash_26 : at_ kX12_clash 26 = (0, oGetf 14 6 0 29) := rfl
theorem aX12_clash_29 : at_ kX12_clash 29 = (0, oIcGe 86 32) := rfl
theorem aX12_clash_32 : at_ kX12_clash 32 = (0, oRload 0 33) := rfl
theorem aX12_clash_33 : at_ kX12_clash 33 = (0, oIload 6 35) := rfl
theorem aX12_clash_35 : at_ kX12_clash 35 = (0, oIload 3 36) := rfl
theorem aX12_clash_36 : at_ kX12_clash 36 = (2, oInvV 14 mX12_isLike 2 39) := rfl
theorem aX12_clash_39 : at_ kX12_clash 39 = (0, oIfEq 80 42) := rfl
theorem aX12_clash_42 : at_ kX12_clash 42 = (0, oRload 0 43) := rfl
theorem aX12_clash_43 : at_ kX12_clash 43 = (0, oGetf 14 57 2 46) := rfl
theorem aX12_clash_46 : at_ kX12_clash 46 = (0, oIload 6 48) := rfl
theorem aX12_clash_48 : at_ kX12_clash 48 = (0, oIald 49) := rfl
theorem aX12_clash_49 : at_ kX12_clash 49 = (0, oRload 0 50) := rfl
theorem aX12_clash_50 : at_ kX12_clash 50 = (0, oGetf 14 21 2 53) := rfl
theorem aX12_clash_53 : at_ kX12_clash 53 = (0, oIload 1 54) := rfl
theorem aX12_clash_54 : at_ kX12_clash 54 = (0, oIald 55) := rfl
theorem aX12_clash_55 : at_ kX12_clash 55 = (0, oIcEq 61 58) := rfl
theorem aX12_clash_58 : at_ kX12_clash 58 = (0, oGoto 80) := rfl
theorem aX12_clash_61 : at_ kX12_clash 61 = (0, oRload 0 62) := rfl
theorem aX12_clash_62 : at_ kX12_clash 62 = (0, oGetf 14 67 2 65) := rfl
theorem aX12_clash_65 : at_ kX12_clash 65 = (0, oIload 6 67) := rfl
theorem aX12_clash_67 : at_ kX12_clash 67 = (0, oZald 68) := rfl
theorem aX12_clash_68 : at_ kX12_clash 68 = (0, oIfEq 77 71) := rfl
theorem aX12_clash_71 : at_ kX12_clash 71 = (0, oIinc 4 1 74) := rfl
theorem aX12_clash_74 : at_ kX12_clash 74 = (0, oGoto 80) := rfl
theorem aX12_clash_77 : at_ kX12_clash 77 = (0, oIinc 5 1 80) := rfl
theorem aX12_clash_80 : at_ kX12_clash 80 = (0, oIinc 6 1 83) := rfl
theorem aX12_clash_83 : at_ kX12_clash 83 = (0, oGoto 23) := rfl
theorem aX12_clash_86 : at_ kX12_clash 86 = (0, oIload 4 88) := rfl
theorem aX12_clash_88 : at_ kX12_clash 88 = (0, oIload 5 90) := rfl
theorem aX12_clash_90 : at_ kX12_clash 90 = (0, oImul 91) := rfl
theorem aX12_clash_91 : at_ kX12_clash 91 = (0, oRetI) := rfl
def kX12_appeal_0 : List En := [(0, oRload 0 1), (0, oIload 1 2), (2, oInvV 14 mX12_isRuling 1 5), (1, oFail), (1, oFail), (0, oIfNe 14 8), (1, oFail), (1, oFail), (0, oRload 0 9), (0, oPush (vI (-1)) 10), (2, oInvV 14 mX12_no 1 13), (1, oFail), (1, oFail), (0, oRetI), (0, oRload 0 15), (0, oGetf 14 65 2 18)]
set_option maxRecDepth 20000 in
theorem zX12_appeal_0 : SndL mX12_appeal 0 kX12_appeal_0 := SndL.c (s_aload_n (k := 0) (by decide +kernel) rfl) (SndL.c (s_iload_n (k := 1) (by decide +kernel) rfl) (SndL.c (s_invV (r := (RX12, TX12, 90)) (ci := 13) okX12_isRuling rfl (by decide) rfl rfl w_7_132 w_7_134 v_59 (by decide +kernel)) (SndL.c (s_fail) (SndL.c (s_fail) (SndL.c (s_if_ne (off := 9) (by decide +kernel) (by decide)) (SndL.c (s_fail) (SndL.c (s_fail) (SndL.c (s_aload_n (k := 0) (by decide +kernel) rfl) (SndL.c (s_iconst (by decide +kernel) (in32_d (by decide))) (SndL.c (s_invV (r := (RX12, TX12, 90)) (ci := 13) okX12_no rfl (by decide) rfl rfl w_6_138 w_6_140 v_29 (by decide +kernel)) (SndL.c (s_fail) (SndL.c (s_fail) (SndL.c (s_ret_i rfl (by decide +kernel)) (SndL.c (s_aload_n (k := 0) (by decide +kernel) rfl) (SndL.c (s_getf (k := 65) clok13 (by decide) rfl (by decide) rfl w_5_167 (Or.inl rfl) (by decide +kernel)) (SndL.n))))))))))))))))
def kX12_appeal_1 : List En := [(1, oFail), (1, oFail), (0, oIload 1 19), (0, oIald 20), (0, oIfNe 48 23), (1, oFail), (1, oFail), (0, oRload 0 24), (0, oGetf 14 0 0 27), (1, oFail), (1, oFail), (0, oRload 0 28), (0, oGetf 14 61 2 31), (1, oFail), (1, oFail), (0, oIload 1 32)]
set_option maxRecDepth 20000 in
theorem zX12_appeal_1 : SndL mX12_appeal 16 kX12_appeal_1 := SndL.c (s_fail) (SndL.c (s_fail) (SndL.c (s_iload_n (k := 1) (by decide +kernel) rfl) (SndL.c (s_iald (by decide +kernel)) (SndL.c (s_if_ne (off := 28) (by decide +kernel) (by decide)) (SndL.c (s_fail) (SndL.c (s_fail) (SndL.c (s_aload_n (k := 0) (by decide +kernel) rfl) (SndL.c (s_getf (k := 0) clok13 (by decide) rfl (by decide) rfl w_5_102 (Or.inl rfl) (by decide +kernel)) (SndL.c (s_fail) (SndL.c (s_fail) (SndL.c (s_aload_n (k := 0) (by decide +kernel) rfl) (SndL.c (s_getf (k := 61) clok13 (by decide) rfl (by decide) rfl w_5_163 (Or.inl rfl) (by decide +kernel)) (SndL.c (s_fail) (SndL.c (s_fail) (SndL.c (s_iload_n (k := 1) (by decide +kernel) rfl) (SndL.n))))))))))))))))
def kX12_appeal_2 : List En := [(0, oIald 33), (0, oPush (vI 21) 35), (1, oFail), (0, oIadd 36), (0, oIcGt 48 39), (1, oFail), (1, oFail), (0, oRload 0 40), (0, oGetf 14 69 2 43), (1, oFail), (1, oFail), (0, oIload 1 44), (0, oZald 45), (0, oIfEq 55 48), (1, oFail), (1, oFail)]
set_option maxRecDepth 20000 in
theorem zX12_appeal_2 : SndL mX12_appeal 32 kX12_appeal_2 := SndL.c (s_iald (by decide +kernel)) (SndL.c (s_bipush (by decide +kernel) (in32_d (by decide)) (by decide +kernel)) (SndL.c (s_fail) (SndL.c (s_iadd (by decide +kernel)) (SndL.c (s_ic_gt (off := 12) (by decide +kernel) (by decide)) (SndL.c (s_fail) (SndL.c (s_fail) (SndL.c (s_aload_n (k := 0) (by decide +kernel) rfl) (SndL.c (s_getf (k := 69) clok13 (by decide) rfl (by decide) rfl w_5_171 (Or.inl rfl) (by decide +kernel)) (SndL.c (s_fail) (SndL.c (s_fail) (SndL.c (s_iload_n (k := 1) (by decide +kernel) rfl) (SndL.c (s_zald (by decide +kernel)) (SndL.c (s_if_eq (off := 10) (by decide +kernel) (by decide)) (SndL.c (s_fail) (SndL.c (s_fail) (SndL.n))))))))))))))))
def kX12_appeal_3 : List En := [(0, oRload 0 49), (0, oPush (vI (-6)) 51), (1, oFail), (2, oInvV 14 mX12_no 1 54), (1, oFail), (1, oFail), (0, oRetI), (0, oRload 0 56), (0, oGetf 14 69 2 59), (1, oFail), (1, oFail), (0, oIload 1 60), (0, oPush (vI 1) 61), (0, oZast 62), (0, oIload 2 63), (0, oIfNe 68 66)]
set_option maxRecDepth 20000 in
theorem zX12_appeal_3 : SndL mX12_appeal 48 kX12_appeal_3 := SndL.c (s_aload_n (k := 0) (by decide +kernel) rfl) (SndL.c (s_bipush (by decide +kernel) (in32_d (by decide)) (by decide +kernel)) (SndL.c (s_fail) (SndL.c (s_invV (r := (RX12, TX12, 90)) (ci := 13) okX12_no rfl (by decide) rfl rfl w_6_138 w_6_140 v_29 (by decide +kernel)) (SndL.c (s_fail) (SndL.c (s_fail) (SndL.c (s_ret_i rfl (by decide +kernel)) (SndL.c (s_aload_n (k := 0) (by decide +kernel) rfl) (SndL.c (s_getf (k := 69) clok13 (by decide) rfl (by decide) rfl w_5_171 (Or.inl rfl) (by decide +kernel)) (SndL.c (s_fail) (SndL.c (s_fail) (SndL.c (s_iload_n (k := 1) (by decide +kernel) rfl) (SndL.c (s_iconst (by decide +kernel) (in32_d (by decide))) (SndL.c (s_zast (by decide +kernel)) (SndL.c (s_iload_n (k := 2) (by decide +kernel) rfl) (SndL.c (s_if_ne (off := 5) (by decide +kernel) (by decide)) (SndL.n))))))))))))))))
def kX12_appeal_4 : List En := [(1, oFail), (1, oFail), (0, oPush (vI 0) 67), (0, oRetI), (0, oRload 0 69), (0, oGetf 14 65 2 72), (1, oFail), (1, oFail), (0, oIload 1 73), (0, oPush (vI 2) 74), (0, oIast 75), (0, oPush (vI 1) 76), (0, oIstore 3 77), (0, oPush (vI 40) 79), (1, oFail), (0, oNewa 103 81)]
set_option maxRecDepth 20000 in
theorem zX12_appeal_4 : SndL mX12_appeal 64 kX12_appeal_4 := SndL.c (s_fail) (SndL.c (s_fail) (SndL.c (s_iconst (by decide +kernel) (in32_d (by decide))) (SndL.c (s_ret_i rfl (by decide +kernel)) (SndL.c (s_aload_n (k := 0) (by decide +kernel) rfl) (SndL.c (s_getf (k := 65) clok13 (by decide) rfl (by decide) rfl w_5_167 (Or.inl rfl) (by decide +kernel)) (SndL.c (s_fail) (SndL.c (s_fail) (SndL.c (s_iload_n (k := 1) (by decide +kernel) rfl) (SndL.c (s_iconst (by decide +kernel) (in32_d (by decide))) (SndL.c (s_iast (by decide +kernel)) (SndL.c (s_iconst (by decide +kernel) (in32_d (by decide))) (SndL.c (s_istore_n (k := 3) (by decide +kernel) rfl (by decide)) (SndL.c (s_bipush (by decide +kernel) (in32_d (by decide)) (by decide +kernel)) (SndL.c (s_fail) (SndL.c (s_newa (kd := 103) (atype := .boolean) (akd_d (by decide)) rfl (by decide) w_6_133 (fun _ _ h => h) (by decide +kernel)) (SndL.n))))))))))))))))
def kX12_appeal_5 : List En := [(1, oFail), (0, oRstore 4 83), (1, oFail), (0, oRload 4 85), (1, oFail), (0, oIload 1 86), (0, oPush (vI 1) 87), (0, oZast 88), (0, oIload 1 89), (0, oPush (vI 1) 90), (0, oIadd 91), (0, oIstore 5 93), (1, oFail), (1, oIload 5 95), (1, oFail), (0, oRload 0 96)]
set_option maxRecDepth 20000 in
theorem zX12_appeal_5 : SndL mX12_appeal 80 kX12_appeal_5 := SndL.c (s_fail) (SndL.c (s_astore (by decide +kernel) (by decide)) (SndL.c (s_fail) (SndL.c (s_aload (by decide +kernel)) (SndL.c (s_fail) (SndL.c (s_iload_n (k := 1) (by decide +kernel) rfl) (SndL.c (s_iconst (by decide +kernel) (in32_d (by decide))) (SndL.c (s_zast (by decide +kernel)) (SndL.c (s_iload_n (k := 1) (by decide +kernel) rfl) (SndL.c (s_iconst (by decide +kernel) (in32_d (by decide))) (SndL.c (s_iadd (by decide +kernel)) (SndL.c (s_istore (by decide +kernel) (by decide)) (SndL.c (s_fail) (SndL.c (s_iload (by decide +kernel)) (SndL.c (s_fail) (SndL.c (s_aload_n (k := 0) (by decide +kernel) rfl) (SndL.n))))))))))))))))
def kX12_appeal_6 : List En := [(0, oGetf 14 6 0 99), (1, oFail), (1, oFail), (0, oIcGe 162 102), (1, oFail), (1, oFail), (0, oRload 0 103), (0, oGetf 14 65 2 106), (1, oFail), (1, oFail), (0, oIload 5 108), (1, oFail), (0, oIald 109), (0, oIfNe 156 112), (1, oFail), (1, oFail)]
set_option maxRecDepth 20000 in
theorem zX12_appeal_6 : SndL mX12_appeal 96 kX12_appeal_6 := SndL.c (s_getf (k := 6) clok13 (by decide) rfl (by decide) rfl w_5_108 (Or.inl rfl) (by decide +kernel)) (SndL.c (s_fail) (SndL.c (s_fail) (SndL.c (s_ic_ge (off := 63) (by decide +kernel) (by decide)) (SndL.c (s_fail) (SndL.c (s_fail) (SndL.c (s_aload_n (k := 0) (by decide +kernel) rfl) (SndL.c (s_getf (k := 65) clok13 (by decide) rfl (by decide) rfl w_5_167 (Or.inl rfl) (by decide +kernel)) (SndL.c (s_fail) (SndL.c (s_fail) (SndL.c (s_iload (by decide +kernel)) (SndL.c (s_fail) (SndL.c (s_iald (by decide +kernel)) (SndL.c (s_if_ne (off := 47) (by decide +kernel) (by decide)) (SndL.c (s_fail) (SndL.c (s_fail) (SndL.n))))))))))))))))
def kX12_appeal_7 : List En := [(0, oRload 0 113), (0, oGetf 14 64 2 116), (1, oFail), (1, oFail), (0, oIload 5 118), (1, oFail), (0, oIald 119), (0, oPush (vI (-1)) 120), (0, oIcEq 156 123), (1, oFail), (1, oFail), (0, oRload 4 125), (1, oFail), (0, oRload 0 126), (0, oGetf 14 64 2 129), (1, oFail)]
set_option maxRecDepth 20000 in
theorem zX12_appeal_7 : SndL mX12_appeal 112 kX12_appeal_7 := SndL.c (s_aload_n (k := 0) (by decide +kernel) rfl) (SndL.c (s_getf (k := 64) clok13 (by decide) rfl (by decide) rfl w_5_166 (Or.inl rfl) (by decide +kernel)) (SndL.c (s_fail) (SndL.c (s_fail) (SndL.c (s_iload (by decide +kernel)) (SndL.c (s_fail) (SndL.c (s_iald (by decide +kernel)) (SndL.c (s_iconst (by decide +kernel) (in32_d (by decide))) (SndL.c (s_ic_eq (off := 36) (by decide +kernel) (by decide)) (SndL.c (s_fail) (SndL.c (s_fail) (SndL.c (s_aload (by decide +kernel)) (SndL.c (s_fail) (SndL.c (s_aload_n (k := 0) (by decide +kernel) rfl) (SndL.c (s_getf (k := 64) clok13 (by decide) rfl (by decide) rfl w_5_166 (Or.inl rfl) (by decide +kernel)) (SndL.c (s_fail) (SndL.n))))))))))))))))
def kX12_appeal_8 : List En := [(1, oFail), (0, oIload 5 131), (1, oFail), (0, oIald 132), (0, oZald 133), (0, oIfNe 139 136), (1, oFail), (1, oFail), (0, oGoto 156), (1, oFail), (1, oFail), (0, oRload 0 140), (0, oGetf 14 65 2 143), (1, oFail), (1, oFail), (0, oIload 5 145)]
set_option maxRecDepth 20000 in
theorem zX12_appeal_8 : SndL mX12_appeal 128 kX12_appeal_8 := SndL.c (s_fail) (SndL.c (s_iload (by decide +kernel)) (SndL.c (s_fail) (SndL.c (s_iald (by decide +kernel)) (SndL.c (s_zald (by decide +kernel)) (SndL.c (s_if_ne (off := 6) (by decide +kernel) (by decide)) (SndL.c (s_fail) (SndL.c (s_fail) (SndL.c (s_goto (off := 20) (by decide +kernel) (by decide)) (SndL.c (s_fail) (SndL.c (s_fail) (SndL.c (s_aload_n (k := 0) (by decide +kernel) rfl) (SndL.c (s_getf (k := 65) clok13 (by decide) rfl (by decide) rfl w_5_167 (Or.inl rfl) (by decide +kernel)) (SndL.c (s_fail) (SndL.c (s_fail) (SndL.c (s_iload (by decide +kernel)) (SndL.n))))))))))))))))
def kX12_appeal_9 : List En := [(1, oFail), (0, oPush (vI 2) 146), (0, oIast 147), (0, oRload 4 149), (1, oFail), (0, oIload 5 151), (1, oFail), (0, oPush (vI 1) 152), (0, oZast 153), (0, oIinc 3 1 156), (1, oFail), (1, oFail), (0, oIinc 5 1 159), (1, oFail), (1, oFail), (0, oGoto 93)]
set_option maxRecDepth 20000 in
theorem zX12_appeal_9 : SndL mX12_appeal 144 kX12_appeal_9 := SndL.c (s_fail) (SndL.c (s_iconst (by decide +kernel) (in32_d (by decide))) (SndL.c (s_iast (by decide +kernel)) (SndL.c (s_aload (by decide +kernel)) (SndL.c (s_fail) (SndL.c (s_iload (by decide +kernel)) (SndL.c (s_fail) (SndL.c (s_iconst (by decide +kernel) (in32_d (by decide))) (SndL.c (s_zast (by decide +kernel)) (SndL.c (s_iinc (by decide +kernel) (by decide)) (SndL.c (s_fail) (SndL.c (s_fail) (SndL.c (s_iinc (by decide +kernel) (by decide)) (SndL.c (s_fail) (SndL.c (s_fail) (SndL.c (s_goto (off := -66) (by decide +kernel) (by decide)) (SndL.n))))))))))))))))
def kX12_appeal_10 : List En := [(1, oFail), (1, oFail), (0, oIload 3 163), (0, oRetI)]
set_option maxRecDepth 20000 in
theorem zX12_appeal_10 : SndL mX12_appeal 160 kX12_appeal_10 := SndL.c (s_fail) (SndL.c (s_fail) (SndL.c (s_iload_n (k := 3) (by decide +kernel) rfl) (SndL.c (s_ret_i rfl (by decide +kernel)) (SndL.n))))
def kX12_appeal : Cd := [kX12_appeal_0, kX12_appeal_1, kX12_appeal_2, kX12_appeal_3, kX12_appeal_4, kX12_appeal_5, kX12_appeal_6, kX12_appeal_7, kX12_appeal_8, kX12_appeal_9, kX12_appeal_10]
theorem zX12_appeal : SndC mX12_appeal 0 kX12_appeal := SndC.c zX12_appeal_0 (by decide) (SndC.c zX12_appeal_1 (by decide) (SndC.c zX12_appeal_2 (by decide) (SndC.c zX12_appeal_3 (by decide) (SndC.c zX12_appeal_4 (by decide) (SndC.c zX12_appeal_5 (by decide) (SndC.c zX12_appeal_6 (by decide) (SndC.c zX12_appeal_7 (by decide) (SndC.c zX12_appeal_8 (by decide) (SndC.c zX12_appeal_9 (by decide) (SndC.c zX12_appeal_10 (by decide) (SndC.n)))))))))))
theorem aX12_appeal_0 : at_ kX12_appeal 0 = (0, oRload 0 1) := rfl
theorem aX12_appeal_1 : at_ kX12_appeal 1 = (0, oIload 1 2) := rfl
theorem aX12_appeal_2 : at_ kX12_appeal 2 = (2, oInvV 14 mX12_isRuling 1 5) := rfl
theorem aX12_appeal_5 : at_ kX12_appeal 5 = (0, oIfNe 14 8) := rfl
theorem aX12_appeal_8 : at_ kX12_appeal 8 = (0, oRload 0 9) := rfl
theorem aX12_appeal_9 : at_ kX12_appeal 9 = (0, oPush (vI (-1)) 10) := rfl
theorem aX12_appeal_10 : at_ kX12_appeal 10 = (2, oInvV 14 mX12_no 1 13) := rfl
theorem aX12_appeal_13 : at_ kX12_appeal 13 = (0, oRetI) := rfl
theorem aX12_appeal_14 : at_ kX12_appeal 14 = (0, oRload 0 15) := rfl
theorem aX12_appeal_15 : at_ kX12_appeal 15 = (0, oGetf 14 65 2 18) := rfl
theorem aX12_appeal_18 : at_ kX12_appeal 18 = (0, oIload 1 19) := rfl
theorem aX12_appeal_19 : at_ kX12_appeal 19 = (0, oIald 20) := rfl
theorem aX12_appeal_20 : at_ kX12_appeal 20 = (0, oIfNe 48 23) := rfl
theorem aX12_appeal_23 : at_ kX12_appeal 23 = (0, oRload 0 24) := rfl
theorem aX12_appeal_24 : at_ kX12_appeal 24 = (0, oGetf 14 0 0 27) := rfl
theorem aX12_appeal_27 : at_ kX12_appeal 27 = (0, oRload 0 28) := rfl
theorem aX12_appeal_28 : at_ kX12_appeal 28 = (0, oGetf 14 61 2 31) := rfl
theorem aX12_appeal_31 : at_ kX12_appeal 31 = (0, oIload 1 32) := rfl
theorem aX12_appeal_32 : at_ kX12_appeal 32 = (0, oIald 33) := rfl
theorem aX12_appeal_33 : at_ kX12_appeal 33 = (0, oPush (vI 21) 35) := rfl
theorem aX12_appeal_35 : at_ kX12_appeal 35 = (0, oIadd 36) := rfl
theorem aX12_appeal_36 : at_ kX12_appeal 36 = (0, oIcGt 48 39) := rfl
theorem aX12_appeal_39 : at_ kX12_appeal 39 = (0, oRload 0 40) := rfl
theorem aX12_appeal_40 : at_ kX12_appeal 40 = (0, oGetf 14 69 2 43) := rfl
theorem aX12_appeal_43 : at_ kX12_appeal 43 = (0, oIload 1 44) := rfl
theorem aX12_appeal_44 : at_ kX12_appeal 44 = (0, oZald 45) := rfl
theorem aX12_appeal_45 : at_ kX12_appeal 45 = (0, oIfEq 55 48) := rfl
theorem aX12_appeal_48 : at_ kX12_appeal 48 = (0, oRload 0 49) := rfl
theorem aX12_appeal_49 : at_ kX12_appeal 49 = (0, oPush (vI (-6)) 51) := rfl
theorem aX12_appeal_51 : at_ kX12_appeal 51 = (2, oInvV 14 mX12_no 1 54) := rfl
theorem aX12_appeal_54 : at_ kX12_appeal 54 = (0, oRetI) := rfl
theorem aX12_appeal_55 : at_ kX12_appeal 55 = (0, oRload 0 56) := rfl
theorem aX12_appeal_56 : at_ kX12_appeal 56 = (0, oGetf 14 69 2 59) := rfl
theorem aX12_appeal_59 : at_ kX12_appeal 59 = (0, oIload 1 60) := rfl
theorem aX12_appeal_60 : at_ kX12_appeal 60 = (0, oPush (vI 1) 61) := rfl
theorem aX12_appeal_61 : at_ kX12_appeal 61 = (0, oZast 62) := rfl
theorem aX12_appeal_62 : at_ kX12_appeal 62 = (0, oIload 2 63) := rfl
theorem aX12_appeal_63 : at_ kX12_appeal 63 = (0, oIfNe 68 66) := rfl
theorem aX12_appeal_66 : at_ kX12_appeal 66 = (0, oPush (vI 0) 67) := rfl
theorem aX12_appeal_67 : at_ kX12_appeal 67 = (0, oRetI) := rfl
theorem aX12_appeal_68 : at_ kX12_appeal 68 = (0, oRload 0 69) := rfl
theorem aX12_appeal_69 : at_ kX12_appeal 69 = (0, oGetf 14 65 2 72) := rfl
theorem aX12_appeal_72 : at_ kX12_appeal 72 = (0, oIload 1 73) := rfl
theorem aX12_appeal_73 : at_ kX12_appeal 73 = (0, oPush (vI 2) 74) := rfl
theorem aX12_appeal_74 : at_ kX12_appeal 74 = (0, oIast 75) := rfl
theorem aX12_appeal_75 : at_ kX12_appeal 75 = (0, oPush (vI 1) 76) := rfl
theorem aX12_appeal_76 : at_ kX12_appeal 76 = (0, oIstore 3 77) := rfl
theorem aX12_appeal_77 : at_ kX12_appeal 77 = (0, oPush (vI 40) 79) := rfl
theorem aX12_appeal_79 : at_ kX12_appeal 79 = (0, oNewa 103 81) := rfl
theorem aX12_appeal_81 : at_ kX12_appeal 81 = (0, oRstore 4 83) := rfl
theorem aX12_appeal_83 : at_ kX12_appeal 83 = (0, oRload 4 85) := rfl
theorem aX12_appeal_85 : at_ kX12_appeal 85 = (0, oIload 1 86) := rfl
theorem aX12_appeal_86 : at_ kX12_appeal 86 = (0, oPush (vI 1) 87) := rfl
theorem aX12_appeal_87 : at_ kX12_appeal 87 = (0, oZast 88) := rfl
theorem aX12_appeal_88 : at_ kX12_appeal 88 = (0, oIload 1 89) := rfl
theorem aX12_appeal_89 : at_ kX12_appeal 89 = (0, oPush (vI 1) 90) := rfl
theorem aX12_appeal_90 : at_ kX12_appeal 90 = (0, oIadd 91) := rfl
theorem aX12_appeal_91 : at_ kX12_appeal 91 = (0, oIstore 5 93) := rfl
theorem aX12_appeal_93 : at_ kX12_appeal 93 = (1, oIload 5 95) := rfl
theorem aX12_appeal_95 : at_ kX12_appeal 95 = (0, oRload 0 96) := rfl
theorem aX12_appeal_96 : at_ kX12_appeal 96 = (0, oGetf 14 6 0 99) := rfl
theorem aX12_appeal_99 : at_ kX12_appeal 99 = (0, oIcGe 162 102) := rfl
theorem aX12_appeal_102 : at_ kX12_appeal 102 = (0, oRload 0 103) := rfl
theorem aX12_appeal_103 : at_ kX12_appeal 103 = (0, oGetf 14 65 2 106) := rfl
theorem aX12_appeal_106 : at_ kX12_appeal 106 = (0, oIload 5 108) := rfl
theorem aX12_appeal_108 : at_ kX12_appeal 108 = (0, oIald 109) := rfl
theorem aX12_appeal_109 : at_ kX12_appeal 109 = (0, oIfNe 156 112) := rfl
theorem aX12_appeal_112 : at_ kX12_appeal 112 = (0, oRload 0 113) := rfl
theorem aX12_appeal_113 : at_ kX12_appeal 113 = (0, oGetf 14 64 2 116) := rfl
theorem aX12_appeal_116 : at_ kX12_appeal 116 = (0, oIload 5 118) := rfl
theorem aX12_appeal_118 : at_ kX12_appeal 118 = (0, oIald 119) := rfl
theorem aX12_appeal_119 : at_ kX12_appeal 119 = (0, oPush (vI (-1)) 120) := rfl
theorem aX12_appeal_120 : at_ kX12_appeal 120 = (0, oIcEq 156 123) := rfl
theorem aX12_appeal_123 : at_ kX12_appeal 123 = (0, oRload 4 125) := rfl
theorem aX12_appeal_125 : at_ kX12_appeal 125 = (0, oRload 0 126) := rfl
theorem aX12_appeal_126 : at_ kX12_appeal 126 = (0, oGetf 14 64 2 129) := rfl
theorem aX12_appeal_129 : at_ kX12_appeal 129 = (0, oIload 5 131) := rfl
theorem aX12_appeal_131 : at_ kX12_appeal 131 = (0, oIald 132) := rfl
theorem aX12_appeal_132 : at_ kX12_appeal 132 = (0, oZald 133) := rfl
theorem aX12_appeal_133 : at_ kX12_appeal 133 = (0, oIfNe 139 136) := rfl
theorem aX12_appeal_136 : at_ kX12_appeal 136 = (0, oGoto 156) := rfl
theorem aX12_appeal_139 : at_ kX12_appeal 139 = (0, oRload 0 140) := rfl
theorem aX12_appeal_140 : at_ kX12_appeal 140 = (0, oGetf 14 65 2 143) := rfl
theorem aX12_appeal_143 : at_ kX12_appeal 143 = (0, oIload 5 145) := rfl
theorem aX12_appeal_145 : at_ kX12_appeal 145 = (0, oPush (vI 2) 146) := rfl
theorem aX12_appeal_146 : at_ kX12_appeal 146 = (0, oIast 147) := rfl
theorem aX12_appeal_147 : at_ kX12_appeal 147 = (0, oRload 4 149) := rfl
theorem aX12_appeal_149 : at_ kX12_appeal 149 = (0, oIload 5 151) := rfl
theorem aX12_appeal_151 : at_ kX12_appeal 151 = (0, oPush (vI 1) 152) := rfl
theorem aX12_appeal_152 : at_ kX12_appeal 152 = (0, oZast 153) := rfl
theorem aX12_appeal_153 : at_ kX12_appeal 153 = (0, oIinc 3 1 156) := rfl
theorem aX12_appeal_156 : at_ kX12_appeal 156 = (0, oIinc 5 1 159) := rfl
theorem aX12_appeal_159 : at_ kX12_appeal 159 = (0, oGoto 93) := rfl
theorem aX12_appeal_162 : at_ kX12_appeal 162 = (0, oIload 3 163) := rfl
theorem aX12_appeal_163 : at_ kX12_appeal 163 = (0, oRetI) := rfl
def kX12_step_0 : List En := [(0, oIload 1 1), (2, oInvS mX12_isFirm 1 4), (1, oFail), (1, oFail), (0, oIfNe 9 7), (1, oFail), (1, oFail), (0, oPush (vI (-1)) 8), (0, oRetI), (0, oPush (vI 0) 10), (0, oIstore 2 11), (0, oPush (vI 0) 12), (0, oIstore 3 13), (0, oPush (vI 0) 14), (0, oIstore 4 16), (1, oFail)]
set_option maxRecDepth 20000 in
theorem zX12_step_0 : SndL mX12_step 0 kX12_step_0 := SndL.c (s_iload_n (k := 1) (by decide +kernel) rfl) (SndL.c (s_invS okX12_isFirm w_6_173 w_6_174 (by decide +kernel)) (SndL.c (s_fail) (SndL.c (s_fail) (SndL.c (s_if_ne (off := 5) (by decide +kernel) (by decide)) (SndL.c (s_fail) (SndL.c (s_fail) (SndL.c (s_iconst (by decide +kernel) (in32_d (by decide))) (SndL.c (s_ret_i rfl (by decide +kernel)) (SndL.c (s_iconst (by decide +kernel) (in32_d (by decide))) (SndL.c (s_istore_n (k := 2) (by decide +kernel) rfl (by decide)) (SndL.c (s_iconst (by decide +kernel) (in32_d (by decide))) (SndL.c (s_istore_n (k := 3) (by decide +kernel) rfl (by decide)) (SndL.c (s_iconst (by decide +kernel) (in32_d (by decide))) (SndL.c (s_istore (by decide +kernel) (by decide)) (SndL.c (s_fail) (SndL.n))))))))))))))))
def kX12_step_1 : List En := [(1, oIload 4 18), (1, oFail), (0, oRload 0 19), (0, oGetf 14 6 0 22), (1, oFail), (1, oFail), (0, oIcGe 120 25), (1, oFail), (1, oFail), (0, oRload 0 26), (0, oGetf 14 65 2 29), (1, oFail), (1, oFail), (0, oIload 4 31), (1, oFail), (0, oIald 32)]
set_option maxRecDepth 20000 in
theorem zX12_step_1 : SndL mX12_step 16 kX12_step_1 := SndL.c (s_iload (by decide +kernel)) (SndL.c (s_fail) (SndL.c (s_aload_n (k := 0) (by decide +kernel) rfl) (SndL.c (s_getf (k := 6) clok13 (by decide) rfl (by decide) rfl w_5_108 (Or.inl rfl) (by decide +kernel)) (SndL.c (s_fail) (SndL.c (s_fail) (SndL.c (s_ic_ge (off := 98) (by decide +kernel) (by decide)) (SndL.c (s_fail) (SndL.c (s_fail) (SndL.c (s_aload_n (k := 0) (by decide +kernel) rfl) (SndL.c (s_getf (k := 65) clok13 (by decide) rfl (by decide) rfl w_5_167 (Or.inl rfl) (by decide +kernel)) (SndL.c (s_fail) (SndL.c (s_fail) (SndL.c (s_iload (by decide +kernel)) (SndL.c (s_fail) (SndL.c (s_iald (by decide +kernel)) (SndL.n))))))))))))))))
def kX12_step_2 : List En := [(0, oIfNe 114 35), (1, oFail), (1, oFail), (0, oRload 0 36), (0, oGetf 14 67 2 39), (1, oFail), (1, oFail), (0, oIload 4 41), (1, oFail), (0, oZald 42), (0, oIfEq 114 45), (1, oFail), (1, oFail), (0, oRload 0 46), (0, oGetf 14 56 2 49), (1, oFail)]
set_option maxRecDepth 20000 in
theorem zX12_step_2 : SndL mX12_step 32 kX12_step_2 := SndL.c (s_if_ne (off := 82) (by decide +kernel) (by decide)) (SndL.c (s_fail) (SndL.c (s_fail) (SndL.c (s_aload_n (k := 0) (by decide +kernel) rfl) (SndL.c (s_getf (k := 67) clok13 (by decide) rfl (by decide) rfl w_5_169 (Or.inl rfl) (by decide +kernel)) (SndL.c (s_fail) (SndL.c (s_fail) (SndL.c (s_iload (by decide +kernel)) (SndL.c (s_fail) (SndL.c (s_zald (by decide +kernel)) (SndL.c (s_if_eq (off := 72) (by decide +kernel) (by decide)) (SndL.c (s_fail) (SndL.c (s_fail) (SndL.c (s_aload_n (k := 0) (by decide +kernel) rfl) (SndL.c (s_getf (k := 56) clok13 (by decide) rfl (by decide) rfl w_5_158 (Or.inl rfl) (by decide +kernel)) (SndL.c (s_fail) (SndL.n))))))))))))))))
def kX12_step_3 : List En := [(1, oFail), (0, oIload 4 51), (1, oFail), (0, oIald 52), (0, oIload 1 53), (0, oIcEq 59 56), (1, oFail), (1, oFail), (0, oGoto 114), (1, oFail), (1, oFail), (0, oIload 2 60), (0, oRload 0 61), (0, oGetf 14 61 2 64), (1, oFail), (1, oFail)]
set_option maxRecDepth 20000 in
theorem zX12_step_3 : SndL mX12_step 48 kX12_step_3 := SndL.c (s_fail) (SndL.c (s_iload (by decide +kernel)) (SndL.c (s_fail) (SndL.c (s_iald (by decide +kernel)) (SndL.c (s_iload_n (k := 1) (by decide +kernel) rfl) (SndL.c (s_ic_eq (off := 6) (by decide +kernel) (by decide)) (SndL.c (s_fail) (SndL.c (s_fail) (SndL.c (s_goto (off := 58) (by decide +kernel) (by decide)) (SndL.c (s_fail) (SndL.c (s_fail) (SndL.c (s_iload_n (k := 2) (by decide +kernel) rfl) (SndL.c (s_aload_n (k := 0) (by decide +kernel) rfl) (SndL.c (s_getf (k := 61) clok13 (by decide) rfl (by decide) rfl w_5_163 (Or.inl rfl) (by decide +kernel)) (SndL.c (s_fail) (SndL.c (s_fail) (SndL.n))))))))))))))))
def kX12_step_4 : List En := [(0, oIload 4 66), (1, oFail), (0, oIald 67), (0, oIload 3 68), (0, oIsub 69), (0, oPush (vI 360) 72), (1, oFail), (1, oFail), (0, oIdiv 73), (0, oIsub 74), (0, oIstore 2 75), (0, oIload 2 76), (0, oIfGe 81 79), (1, oFail), (1, oFail), (0, oPush (vI 0) 80)]
set_option maxRecDepth 20000 in
theorem zX12_step_4 : SndL mX12_step 64 kX12_step_4 := SndL.c (s_iload (by decide +kernel)) (SndL.c (s_fail) (SndL.c (s_iald (by decide +kernel)) (SndL.c (s_iload_n (k := 3) (by decide +kernel) rfl) (SndL.c (s_isub (by decide +kernel)) (SndL.c (s_sipush (by decide +kernel) (in32_d (by decide)) (by decide +kernel)) (SndL.c (s_fail) (SndL.c (s_fail) (SndL.c (s_idiv (by decide +kernel)) (SndL.c (s_isub (by decide +kernel)) (SndL.c (s_istore_n (k := 2) (by decide +kernel) rfl (by decide)) (SndL.c (s_iload_n (k := 2) (by decide +kernel) rfl) (SndL.c (s_if_ge (off := 5) (by decide +kernel) (by decide)) (SndL.c (s_fail) (SndL.c (s_fail) (SndL.c (s_iconst (by decide +kernel) (in32_d (by decide))) (SndL.n))))))))))))))))
def kX12_step_5 : List En := [(0, oIstore 2 81), (0, oIload 2 82), (0, oRload 0 83), (0, oGetf 14 68 2 86), (1, oFail), (1, oFail), (0, oIload 4 88), (1, oFail), (0, oZald 89), (0, oIfEq 96 92), (1, oFail), (1, oFail), (0, oPush (vI 2) 93), (0, oGoto 97), (1, oFail), (1, oFail)]
set_option maxRecDepth 20000 in
theorem zX12_step_5 : SndL mX12_step 80 kX12_step_5 := SndL.c (s_istore_n (k := 2) (by decide +kernel) rfl (by decide)) (SndL.c (s_iload_n (k := 2) (by decide +kernel) rfl) (SndL.c (s_aload_n (k := 0) (by decide +kernel) rfl) (SndL.c (s_getf (k := 68) clok13 (by decide) rfl (by decide) rfl w_5_170 (Or.inl rfl) (by decide +kernel)) (SndL.c (s_fail) (SndL.c (s_fail) (SndL.c (s_iload (by decide +kernel)) (SndL.c (s_fail) (SndL.c (s_zald (by decide +kernel)) (SndL.c (s_if_eq (off := 7) (by decide +kernel) (by decide)) (SndL.c (s_fail) (SndL.c (s_fail) (SndL.c (s_iconst (by decide +kernel) (in32_d (by decide))) (SndL.c (s_goto (off := 4) (by decide +kernel) (by decide)) (SndL.c (s_fail) (SndL.c (s_fail) (SndL.n))))))))))))))))
def kX12_step_6 : List En := [(0, oPush (vI 1) 97), (0, oIadd 98), (0, oIstore 2 99), (0, oIload 2 100), (0, oPush (vI 5) 101), (0, oIcLe 106 104), (1, oFail), (1, oFail), (0, oPush (vI 5) 105), (0, oIstore 2 106), (0, oRload 0 107), (0, oGetf 14 61 2 110), (1, oFail), (1, oFail), (0, oIload 4 112), (1, oFail)]
set_option maxRecDepth 20000 in
theorem zX12_step_6 : SndL mX12_step 96 kX12_step_6 := SndL.c (s_iconst (by decide +kernel) (in32_d (by decide))) (SndL.c (s_iadd (by decide +kernel)) (SndL.c (s_istore_n (k := 2) (by decide +kernel) rfl (by decide)) (SndL.c (s_iload_n (k := 2) (by decide +kernel) rfl) (SndL.c (s_iconst (by decide +kernel) (in32_d (by decide))) (SndL.c (s_ic_le (off := 5) (by decide +kernel) (by decide)) (SndL.c (s_fail) (SndL.c (s_fail) (SndL.c (s_iconst (by decide +kernel) (in32_d (by decide))) (SndL.c (s_istore_n (k := 2) (by decide +kernel) rfl (by decide)) (SndL.c (s_aload_n (k := 0) (by decide +kernel) rfl) (SndL.c (s_getf (k := 61) clok13 (by decide) rfl (by decide) rfl w_5_163 (Or.inl rfl) (by decide +kernel)) (SndL.c (s_fail) (SndL.c (s_fail) (SndL.c (s_iload (by decide +kernel)) (SndL.c (s_fail) (SndL.n))))))))))))))))
def kX12_step_7 : List En := [(0, oIald 113), (0, oIstore 3 114), (0, oIinc 4 1 117), (1, oFail), (1, oFail), (0, oGoto 16), (1, oFail), (1, oFail), (0, oIload 2 121), (0, oRload 0 122), (0, oGetf 14 0 0 125), (1, oFail), (1, oFail), (0, oIload 3 126), (0, oIsub 127), (0, oPush (vI 360) 130)]
set_option maxRecDepth 20000 in
theorem zX12_step_7 : SndL mX12_step 112 kX12_step_7 := SndL.c (s_iald (by decide +kernel)) (SndL.c (s_istore_n (k := 3) (by decide +kernel) rfl (by decide)) (SndL.c (s_iinc (by decide +kernel) (by decide)) (SndL.c (s_fail) (SndL.c (s_fail) (SndL.c (s_goto (off := -101) (by decide +kernel) (by decide)) (SndL.c (s_fail) (SndL.c (s_fail) (SndL.c (s_iload_n (k := 2) (by decide +kernel) rfl) (SndL.c (s_aload_n (k := 0) (by decide +kernel) rfl) (SndL.c (s_getf (k := 0) clok13 (by decide) rfl (by decide) rfl w_5_102 (Or.inl rfl) (by decide +kernel)) (SndL.c (s_fail) (SndL.c (s_fail) (SndL.c (s_iload_n (k := 3) (by decide +kernel) rfl) (SndL.c (s_isub (by decide +kernel)) (SndL.c (s_sipush (by decide +kernel) (in32_d (by decide)) (by decide +kernel)) (SndL.n))))))))))))))))
def kX12_step_8 : List En := [(1, oFail), (1, oFail), (0, oIdiv 131), (0, oIsub 132), (0, oIstore 2 133), (0, oIload 2 134), (0, oIfGe 141 137), (1, oFail), (1, oFail), (0, oPush (vI 0) 138), (0, oGoto 142), (1, oFail), (1, oFail), (0, oIload 2 142), (0, oRetI)]
set_option maxRecDepth 20000 in
theorem zX12_step_8 : SndL mX12_step 128 kX12_step_8 := SndL.c (s_fail) (SndL.c (s_fail) (SndL.c (s_idiv (by decide +kernel)) (SndL.c (s_isub (by decide +kernel)) (SndL.c (s_istore_n (k := 2) (by decide +kernel) rfl (by decide)) (SndL.c (s_iload_n (k := 2) (by decide +kernel) rfl) (SndL.c (s_if_ge (off := 7) (by decide +kernel) (by decide)) (SndL.c (s_fail) (SndL.c (s_fail) (SndL.c (s_iconst (by decide +kernel) (in32_d (by decide))) (SndL.c (s_goto (off := 4) (by decide +kernel) (by decide)) (SndL.c (s_fail) (SndL.c (s_fail) (SndL.c (s_iload_n (k := 2) (by decide +kernel) rfl) (SndL.c (s_ret_i rfl (by decide +kernel)) (SndL.n)))))))))))))))
def kX12_step : Cd := [kX12_step_0, kX12_step_1, kX12_step_2, kX12_step_3, kX12_step_4, kX12_step_5, kX12_step_6, kX12_step_7, kX12_step_8]
theorem zX12_step : SndC mX12_step 0 kX12_step := SndC.c zX12_step_0 (by decide) (SndC.c zX12_step_1 (by decide) (SndC.c zX12_step_2 (by decide) (SndC.c zX12_step_3 (by decide) (SndC.c zX12_step_4 (by decide) (SndC.c zX12_step_5 (by decide) (SndC.c zX12_step_6 (by decide) (SndC.c zX12_step_7 (by decide) (SndC.c zX12_step_8 (by decide) (SndC.n)))))))))
theorem aX12_step_0 : at_ kX12_step 0 = (0, oIload 1 1) := rfl
theorem aX12_step_1 : at_ kX12_step 1 = (2, oInvS mX12_isFirm 1 4) := rfl
theorem aX12_step_4 : at_ kX12_step 4 = (0, oIfNe 9 7) := rfl
theorem aX12_step_7 : at_ kX12_step 7 = (0, oPush (vI (-1)) 8) := rfl
theorem aX12_step_8 : at_ kX12_step 8 = (0, oRetI) := rfl
theorem aX12_step_9 : at_ kX12_step 9 = (0, oPush (vI 0) 10) := rfl
theorem aX12_step_10 : at_ kX12_step 10 = (0, oIstore 2 11) := rfl
theorem aX12_step_11 : at_ kX12_step 11 = (0, oPush (vI 0) 12) := rfl
theorem aX12_step_12 : at_ kX12_step 12 = (0, oIstore 3 13) := rfl
theorem aX12_step_13 : at_ kX12_step 13 = (0, oPush (vI 0) 14) := rfl
theorem aX12_step_14 : at_ kX12_step 14 = (0, oIstore 4 16) := rfl
theorem aX12_step_16 : at_ kX12_step 16 = (1, oIload 4 18) := rfl
theorem aX12_step_18 : at_ kX12_step 18 = (0, oRload 0 19) := rfl
theorem aX12_step_19 : at_ kX12_step 19 = (0, oGetf 14 6 0 22) := rfl
theorem aX12_step_22 : at_ kX12_step 22 = (0, oIcGe 120 25) := rfl
theorem aX12_step_25 : at_ kX12_step 25 = (0, oRload 0 26) := rfl
theorem aX12_step_26 : at_ kX12_step 26 = (0, oGetf 14 65 2 29) := rfl
theorem aX12_step_29 : at_ kX12_step 29 = (0, oIload 4 31) := rfl
theorem aX12_step_31 : at_ kX12_step 31 = (0, oIald 32) := rfl
theorem aX12_step_32 : at_ kX12_step 32 = (0, oIfNe 114 35) := rfl
theorem aX12_step_35 : at_ kX12_step 35 = (0, oRload 0 36) := rfl
theorem aX12_step_36 : at_ kX12_step 36 = (0, oGetf 14 67 2 39) := rfl
theorem aX12_step_39 : at_ kX12_step 39 = (0, oIload 4 41) := rfl
theorem aX12_step_41 : at_ kX12_step 41 = (0, oZald 42) := rfl
theorem aX12_step_42 : at_ kX12_step 42 = (0, oIfEq 114 45) := rfl
theorem aX12_step_45 : at_ kX12_step 45 = (0, oRload 0 46) := rfl
theorem aX12_step_46 : at_ kX12_step 46 = (0, oGetf 14 56 2 49) := rfl
theorem aX12_step_49 : at_ kX12_step 49 = (0, oIload 4 51) := rfl
theorem aX12_step_51 : at_ kX12_step 51 = (0, oIald 52) := rfl
theorem aX12_step_52 : at_ kX12_step 52 = (0, oIload 1 53) := rfl
theorem aX12_step_53 : at_ kX12_step 53 = (0, oIcEq 59 56) := rfl
theorem aX12_step_56 : at_ kX12_step 56 = (0, oGoto 114) := rfl
theorem aX12_step_59 : at_ kX12_step 59 = (0, oIload 2 60) := rfl
theorem aX12_step_60 : at_ kX12_step 60 = (0, oRload 0 61) := rfl
theorem aX12_step_61 : at_ kX12_step 61 = (0, oGetf 14 61 2 64) := rfl
theorem aX12_step_64 : at_ kX12_step 64 = (0, oIload 4 66) := rfl
theorem aX12_step_66 : at_ kX12_step 66 = (0, oIald 67) := rfl
theorem aX12_step_67 : at_ kX12_step 67 = (0, oIload 3 68) := rfl
theorem aX12_step_68 : at_ kX12_step 68 = (0, oIsub 69) := rfl
theorem aX12_step_69 : at_ kX12_step 69 = (0, oPush (vI 360) 72) := rfl
theorem aX12_step_72 : at_ kX12_step 72 = (0, oIdiv 73) := rfl
theorem aX12_step_73 : at_ kX12_step 73 = (0, oIsub 74) := rfl
theorem aX12_step_74 : at_ kX12_step 74 = (0, oIstore 2 75) := rfl
theorem aX12_step_75 : at_ kX12_step 75 = (0, oIload 2 76) := rfl
theorem aX12_step_76 : at_ kX12_step 76 = (0, oIfGe 81 79) := rfl
theorem aX12_step_79 : at_ kX12_step 79 = (0, oPush (vI 0) 80) := rfl
theorem aX12_step_80 : at_ kX12_step 80 = (0, oIstore 2 81) := rfl
theorem aX12_step_81 : at_ kX12_step 81 = (0, oIload 2 82) := rfl
theorem aX12_step_82 : at_ kX12_step 82 = (0, oRload 0 83) := rfl
theorem aX12_step_83 : at_ kX12_step 83 = (0, oGetf 14 68 2 86) := rfl
theorem aX12_step_86 : at_ kX12_step 86 = (0, oIload 4 88) := rfl
theorem aX12_step_88 : at_ kX12_step 88 = (0, oZald 89) := rfl
theorem aX12_step_89 : at_ kX12_step 89 = (0, oIfEq 96 92) := rfl
theorem aX12_step_92 : at_ kX12_step 92 = (0, oPush (vI 2) 93) := rfl
theorem aX12_step_93 : at_ kX12_step 93 = (0, oGoto 97) := rfl
theorem aX12_step_96 : at_ kX12_step 96 = (0, oPush (vI 1) 97) := rfl
theorem aX12_step_97 : at_ kX12_step 97 = (0, oIadd 98) := rfl
theorem aX12_step_98 : at_ kX12_step 98 = (0, oIstore 2 99) := rfl
theorem aX12_step_99 : at_ kX12_step 99 = (0, oIload 2 100) := rfl
theorem aX12_step_100 : at_ kX12_step 100 = (0, oPush (vI 5) 101) := rfl
theorem aX12_step_101 : at_ kX12_step 101 = (0, oIcLe 106 104) := rfl
theorem aX12_step_104 : at_ kX12_step 104 = (0, oPush (vI 5) 105) := rfl
theorem aX12_step_105 : at_ kX12_step 105 = (0, oIstore 2 106) := rfl
theorem aX12_step_106 : at_ kX12_step 106 = (0, oRload 0 107) := rfl
theorem aX12_step_107 : at_ kX12_step 107 = (0, oGetf 14 61 2 110) := rfl
theorem aX12_step_110 : at_ kX12_step 110 = (0, oIload 4 112) := rfl
theorem aX12_step_112 : at_ kX12_step 112 = (0, oIald 113) := rfl
theorem aX12_step_113 : at_ kX12_step 113 = (0, oIstore 3 114) := rfl
theorem aX12_step_114 : at_ kX12_step 114 = (0, oIinc 4 1 117) := rfl
theorem aX12_step_117 : at_ kX12_step 117 = (0, oGoto 16) := rfl
theorem aX12_step_120 : at_ kX12_step 120 = (0, oIload 2 121) := rfl
theorem aX12_step_121 : at_ kX12_step 121 = (0, oRload 0 122) := rfl
theorem aX12_step_122 : at_ kX12_step 122 = (0, oGetf 14 0 0 125) := rfl
theorem aX12_step_125 : at_ kX12_step 125 = (0, oIload 3 126) := rfl
theorem aX12_step_126 : at_ kX12_step 126 = (0, oIsub 127) := rfl
theorem aX12_step_127 : at_ kX12_step 127 = (0, oPush (vI 360) 130) := rfl
theorem aX12_step_130 : at_ kX12_step 130 = (0, oIdiv 131) := rfl
theorem aX12_step_131 : at_ kX12_step 131 = (0, oIsub 132) := rfl
theorem aX12_step_132 : at_ kX12_step 132 = (0, oIstore 2 133) := rfl
theorem aX12_step_133 : at_ kX12_step 133 = (0, oIload 2 134) := rfl
theorem aX12_step_134 : at_ kX12_step 134 = (0, oIfGe 141 137) := rfl
theorem aX12_step_137 : at_ kX12_step 137 = (0, oPush (vI 0) 138) := rfl
theorem aX12_step_138 : at_ kX12_step 138 = (0, oGoto 142) := rfl
theorem aX12_step_141 : at_ kX12_step 141 = (0, oIload 2 142) := rfl
theorem aX12_step_142 : at_ kX12_step 142 = (0, oRetI) := rfl
def kX12_weighs_0 : List En := [(0, oPush (vI 0) 1), (0, oIstore 2 2), (1, oIload 2 3), (0, oRload 0 4), (0, oGetf 14 2 0 7), (1, oFail), (1, oFail), (0, oIcGe 55 10), (1, oFail), (1, oFail), (0, oRload 0 11), (0, oGetf 14 89 2 14), (1, oFail), (1, oFail), (0, oIload 2 15), (0, oRload 0 16)]
set_option maxRecDepth 20000 in
theorem zX12_weighs_0 : SndL mX12_weighs 0 kX12_weighs_0 := SndL.c (s_iconst (by decide +kernel) (in32_d (by decide))) (SndL.c (s_istore_n (k := 2) (by decide +kernel) rfl (by decide)) (SndL.c (s_iload_n (k := 2) (by decide +kernel) rfl) (SndL.c (s_aload_n (k := 0) (by decide +kernel) rfl) (SndL.c (s_getf (k := 2) clok13 (by decide) rfl (by decide) rfl w_5_104 (Or.inl rfl) (by decide +kernel)) (SndL.c (s_fail) (SndL.c (s_fail) (SndL.c (s_ic_ge (off := 48) (by decide +kernel) (by decide)) (SndL.c (s_fail) (SndL.c (s_fail) (SndL.c (s_aload_n (k := 0) (by decide +kernel) rfl) (SndL.c (s_getf (k := 89) clok13 (by decide) rfl (by decide) rfl w_5_191 (Or.inl rfl) (by decide +kernel)) (SndL.c (s_fail) (SndL.c (s_fail) (SndL.c (s_iload_n (k := 2) (by decide +kernel) rfl) (SndL.c (s_aload_n (k := 0) (by decide +kernel) rfl) (SndL.n))))))))))))))))
def kX12_weighs_1 : List En := [(0, oGetf 14 34 2 19), (1, oFail), (1, oFail), (0, oIload 2 20), (0, oIald 21), (0, oPush (vI 3) 22), (0, oIcEq 47 25), (1, oFail), (1, oFail), (0, oRload 0 26), (0, oIload 1 27), (0, oIload 2 28), (0, oRload 0 29), (0, oGetf 14 0 0 32), (1, oFail), (1, oFail)]
set_option maxRecDepth 20000 in
theorem zX12_weighs_1 : SndL mX12_weighs 16 kX12_weighs_1 := SndL.c (s_getf (k := 34) clok13 (by decide) rfl (by decide) rfl w_5_136 (Or.inl rfl) (by decide +kernel)) (SndL.c (s_fail) (SndL.c (s_fail) (SndL.c (s_iload_n (k := 2) (by decide +kernel) rfl) (SndL.c (s_iald (by decide +kernel)) (SndL.c (s_iconst (by decide +kernel) (in32_d (by decide))) (SndL.c (s_ic_eq (off := 25) (by decide +kernel) (by decide)) (SndL.c (s_fail) (SndL.c (s_fail) (SndL.c (s_aload_n (k := 0) (by decide +kernel) rfl) (SndL.c (s_iload_n (k := 1) (by decide +kernel) rfl) (SndL.c (s_iload_n (k := 2) (by decide +kernel) rfl) (SndL.c (s_aload_n (k := 0) (by decide +kernel) rfl) (SndL.c (s_getf (k := 0) clok13 (by decide) rfl (by decide) rfl w_5_102 (Or.inl rfl) (by decide +kernel)) (SndL.c (s_fail) (SndL.c (s_fail) (SndL.n))))))))))))))))
def kX12_weighs_2 : List En := [(0, oRload 0 33), (0, oGetf 14 0 0 36), (1, oFail), (1, oFail), (2, oInvV 14 mX12_barred 4 39), (1, oFail), (1, oFail), (0, oPush (vI (-1)) 40), (0, oIcEq 47 43), (1, oFail), (1, oFail), (0, oPush (vI 1) 44), (0, oGoto 48), (1, oFail), (1, oFail), (0, oPush (vI 0) 48)]
set_option maxRecDepth 20000 in
theorem zX12_weighs_2 : SndL mX12_weighs 32 kX12_weighs_2 := SndL.c (s_aload_n (k := 0) (by decide +kernel) rfl) (SndL.c (s_getf (k := 0) clok13 (by decide) rfl (by decide) rfl w_5_102 (Or.inl rfl) (by decide +kernel)) (SndL.c (s_fail) (SndL.c (s_fail) (SndL.c (s_invV (r := (RX12, TX12, 90)) (ci := 13) okX12_barred rfl (by decide) rfl rfl w_7_96 w_7_98 v_53 (by decide +kernel)) (SndL.c (s_fail) (SndL.c (s_fail) (SndL.c (s_iconst (by decide +kernel) (in32_d (by decide))) (SndL.c (s_ic_eq (off := 7) (by decide +kernel) (by decide)) (SndL.c (s_fail) (SndL.c (s_fail) (SndL.c (s_iconst (by decide +kernel) (in32_d (by decide))) (SndL.c (s_goto (off := 4) (by decide +kernel) (by decide)) (SndL.c (s_fail) (SndL.c (s_fail) (SndL.c (s_iconst (by decide +kernel) (in32_d (by decide))) (SndL.n))))))))))))))))
def kX12_weighs_3 : List En := [(0, oZast 49), (0, oIinc 2 1 52), (1, oFail), (1, oFail), (0, oGoto 2), (1, oFail), (1, oFail), (0, oRetV)]
set_option maxRecDepth 20000 in
theorem zX12_weighs_3 : SndL mX12_weighs 48 kX12_weighs_3 := SndL.c (s_zast (by decide +kernel)) (SndL.c (s_iinc (by decide +kernel) (by decide)) (SndL.c (s_fail) (SndL.c (s_fail) (SndL.c (s_goto (off := -50) (by decide +kernel) (by decide)) (SndL.c (s_fail) (SndL.c (s_fail) (SndL.c (s_ret_v rfl (by decide +kernel)) (SndL.n))))))))
def kX12_weighs : Cd := [kX12_weighs_0, kX12_weighs_1, kX12_weighs_2, kX12_weighs_3]
theorem zX12_weighs : SndC mX12_weighs 0 kX12_weighs := SndC.c zX12_weighs_0 (by decide) (SndC.c zX12_weighs_1 (by decide) (SndC.c zX12_weighs_2 (by decide) (SndC.c zX12_weighs_3 (by decide) (SndC.n))))
theorem aX12_weighs_0 : at_ kX12_weighs 0 = (0, oPush (vI 0) 1) := rfl
theorem aX12_weighs_1 : at_ kX12_weighs 1 = (0, oIstore 2 2) := rfl
theorem aX12_weighs_2 : at_ kX12_weighs 2 = (1, oIload 2 3) := rfl
theorem aX12_weighs_3 : at_ kX12_weighs 3 = (0, oRload 0 4) := rfl
theorem aX12_weighs_4 : at_ kX12_weighs 4 = (0, oGetf 14 2 0 7) := rfl
theorem aX12_weighs_7 : at_ kX12_weighs 7 = (0, oIcGe 55 10) := rfl
theorem aX12_weighs_10 : at_ kX12_weighs 10 = (0, oRload 0 11) := rfl
theorem aX12_weighs_11 : at_ kX12_weighs 11 = (0, oGetf 14 89 2 14) := rfl
theorem aX12_weighs_14 : at_ kX12_weighs 14 = (0, oIload 2 15) := rfl
theorem aX12_weighs_15 : at_ kX12_weighs 15 = (0, oRload 0 16) := rfl
theorem aX12_weighs_16 : at_ kX12_weighs 16 = (0, oGetf 14 34 2 19) := rfl
theorem aX12_weighs_19 : at_ kX12_weighs 19 = (0, oIload 2 20) := rfl
theorem aX12_weighs_20 : at_ kX12_weighs 20 = (0, oIald 21) := rfl
theorem aX12_weighs_21 : at_ kX12_weighs 21 = (0, oPush (vI 3) 22) := rfl
theorem aX12_weighs_22 : at_ kX12_weighs 22 = (0, oIcEq 47 25) := rfl
theorem aX12_weighs_25 : at_ kX12_weighs 25 = (0, oRload 0 26) := rfl
theorem aX12_weighs_26 : at_ kX12_weighs 26 = (0, oIload 1 27) := rfl
theorem aX12_weighs_27 : at_ kX12_weighs 27 = (0, oIload 2 28) := rfl
theorem aX12_weighs_28 : at_ kX12_weighs 28 = (0, oRload 0 29) := rfl
theorem aX12_weighs_29 : at_ kX12_weighs 29 = (0, oGetf 14 0 0 32) := rfl
theorem aX12_weighs_32 : at_ kX12_weighs 32 = (0, oRload 0 33) := rfl
theorem aX12_weighs_33 : at_ kX12_weighs 33 = (0, oGetf 14 0 0 36) := rfl
theorem aX12_weighs_36 : at_ kX12_weighs 36 = (2, oInvV 14 mX12_barred 4 39) := rfl
theorem aX12_weighs_39 : at_ kX12_weighs 39 = (0, oPush (vI (-1)) 40) := rfl
theorem aX12_weighs_40 : at_ kX12_weighs 40 = (0, oIcEq 47 43) := rfl
theorem aX12_weighs_43 : at_ kX12_weighs 43 = (0, oPush (vI 1) 44) := rfl
theorem aX12_weighs_44 : at_ kX12_weighs 44 = (0, oGoto 48) := rfl
theorem aX12_weighs_47 : at_ kX12_weighs 47 = (0, oPush (vI 0) 48) := rfl
theorem aX12_weighs_48 : at_ kX12_weighs 48 = (0, oZast 49) := rfl
theorem aX12_weighs_49 : at_ kX12_weighs 49 = (0, oIinc 2 1 52) := rfl
theorem aX12_weighs_52 : at_ kX12_weighs 52 = (0, oGoto 2) := rfl
theorem aX12_weighs_55 : at_ kX12_weighs 55 = (0, oRetV) := rfl
def kX12_isClear_0 : List En := [(0, oRload 0 1), (0, oIload 1 2), (0, oIload 2 3), (2, oInvV 14 mX12_strikes 2 6), (1, oFail), (1, oFail), (0, oRload 0 7), (0, oRload 0 8), (0, oGetf 14 0 0 11), (1, oFail), (1, oFail), (0, oRload 0 12), (0, oGetf 14 0 0 15), (1, oFail), (1, oFail), (2, oInvV 14 mX12_reads 2 18)]
set_option maxRecDepth 20000 in
theorem zX12_isClear_0 : SndL mX12_isClear 0 kX12_isClear_0 := SndL.c (s_aload_n (k := 0) (by decide +kernel) rfl) (SndL.c (s_iload_n (k := 1) (by decide +kernel) rfl) (SndL.c (s_iload_n (k := 2) (by decide +kernel) rfl) (SndL.c (s_invV (r := (RX12, TX12, 90)) (ci := 13) okX12_strikes rfl (by decide) rfl rfl w_6_216 w_6_218 v_34 (by decide +kernel)) (SndL.c (s_fail) (SndL.c (s_fail) (SndL.c (s_aload_n (k := 0) (by decide +kernel) rfl) (SndL.c (s_aload_n (k := 0) (by decide +kernel) rfl) (SndL.c (s_getf (k := 0) clok13 (by decide) rfl (by decide) rfl w_5_102 (Or.inl rfl) (by decide +kernel)) (SndL.c (s_fail) (SndL.c (s_fail) (SndL.c (s_aload_n (k := 0) (by decide +kernel) rfl) (SndL.c (s_getf (k := 0) clok13 (by decide) rfl (by decide) rfl w_5_102 (Or.inl rfl) (by decide +kernel)) (SndL.c (s_fail) (SndL.c (s_fail) (SndL.c (s_invV (r := (RX12, TX12, 90)) (ci := 13) okX12_reads rfl (by decide) rfl rfl w_6_220 w_6_222 v_35 (by decide +kernel)) (SndL.n))))))))))))))))
def kX12_isClear_1 : List En := [(1, oFail), (1, oFail), (0, oPush (vI 0) 19), (0, oIstore 3 20), (1, oIload 3 21), (0, oRload 0 22), (0, oGetf 14 75 0 25), (1, oFail), (1, oFail), (0, oIcGe 50 28), (1, oFail), (1, oFail), (0, oRload 0 29), (0, oGetf 14 89 2 32), (1, oFail), (1, oFail)]
set_option maxRecDepth 20000 in
theorem zX12_isClear_1 : SndL mX12_isClear 16 kX12_isClear_1 := SndL.c (s_fail) (SndL.c (s_fail) (SndL.c (s_iconst (by decide +kernel) (in32_d (by decide))) (SndL.c (s_istore_n (k := 3) (by decide +kernel) rfl (by decide)) (SndL.c (s_iload_n (k := 3) (by decide +kernel) rfl) (SndL.c (s_aload_n (k := 0) (by decide +kernel) rfl) (SndL.c (s_getf (k := 75) clok13 (by decide) rfl (by decide) rfl w_5_177 (Or.inl rfl) (by decide +kernel)) (SndL.c (s_fail) (SndL.c (s_fail) (SndL.c (s_ic_ge (off := 25) (by decide +kernel) (by decide)) (SndL.c (s_fail) (SndL.c (s_fail) (SndL.c (s_aload_n (k := 0) (by decide +kernel) rfl) (SndL.c (s_getf (k := 89) clok13 (by decide) rfl (by decide) rfl w_5_191 (Or.inl rfl) (by decide +kernel)) (SndL.c (s_fail) (SndL.c (s_fail) (SndL.n))))))))))))))))
def kX12_isClear_2 : List En := [(0, oRload 0 33), (0, oGetf 14 73 2 36), (1, oFail), (1, oFail), (0, oIload 3 37), (0, oIald 38), (0, oZald 39), (0, oIfEq 44 42), (1, oFail), (1, oFail), (0, oPush (vI 0) 43), (0, oRetZ), (0, oIinc 3 1 47), (1, oFail), (1, oFail), (0, oGoto 20)]
set_option maxRecDepth 20000 in
theorem zX12_isClear_2 : SndL mX12_isClear 32 kX12_isClear_2 := SndL.c (s_aload_n (k := 0) (by decide +kernel) rfl) (SndL.c (s_getf (k := 73) clok13 (by decide) rfl (by decide) rfl w_5_175 (Or.inl rfl) (by decide +kernel)) (SndL.c (s_fail) (SndL.c (s_fail) (SndL.c (s_iload_n (k := 3) (by decide +kernel) rfl) (SndL.c (s_iald (by decide +kernel)) (SndL.c (s_zald (by decide +kernel)) (SndL.c (s_if_eq (off := 5) (by decide +kernel) (by decide)) (SndL.c (s_fail) (SndL.c (s_fail) (SndL.c (s_iconst (by decide +kernel) (in32_d (by decide))) (SndL.c (s_ret_z rfl (by decide +kernel)) (SndL.c (s_iinc (by decide +kernel) (by decide)) (SndL.c (s_fail) (SndL.c (s_fail) (SndL.c (s_goto (off := -27) (by decide +kernel) (by decide)) (SndL.n))))))))))))))))
def kX12_isClear_3 : List En := [(1, oFail), (1, oFail), (0, oPush (vI 1) 51), (0, oRetZ)]
set_option maxRecDepth 20000 in
theorem zX12_isClear_3 : SndL mX12_isClear 48 kX12_isClear_3 := SndL.c (s_fail) (SndL.c (s_fail) (SndL.c (s_iconst (by decide +kernel) (in32_d (by decide))) (SndL.c (s_ret_z rfl (by decide +kernel)) (SndL.n))))
def kX12_isClear : Cd := [kX12_isClear_0, kX12_isClear_1, kX12_isClear_2, kX12_isClear_3]
theorem zX12_isClear : SndC mX12_isClear 0 kX12_isClear := SndC.c zX12_isClear_0 (by decide) (SndC.c zX12_isClear_1 (by decide) (SndC.c zX12_isClear_2 (by decide) (SndC.c zX12_isClear_3 (by decide) (SndC.n))))
theorem aX12_isClear_0 : at_ kX12_isClear 0 = (0, oRload 0 1) := rfl
theorem aX12_isClear_1 : at_ kX12_isClear 1 = (0, oIload 1 2) := rfl
theorem aX12_isClear_2 : at_ kX12_isClear 2 = (0, oIload 2 3) := rfl
theorem aX12_isClear_3 : at_ kX12_isClear 3 = (2, oInvV 14 mX12_strikes 2 6) := rfl
theorem aX12_isClear_6 : at_ kX12_isClear 6 = (0, oRload 0 7) := rfl
theorem aX12_isClear_7 : at_ kX12_isClear 7 = (0, oRload 0 8) := rfl
theorem aX12_isClear_8 : at_ kX12_isClear 8 = (0, oGetf 14 0 0 11) := rfl
theorem aX12_isClear_11 : at_ kX12_isClear 11 = (0, oRload 0 12) := rfl
theorem aX12_isClear_12 : at_ kX12_isClear 12 = (0, oGetf 14 0 0 15) := rfl
theorem aX12_isClear_15 : at_ kX12_isClear 15 = (2, oInvV 14 mX12_reads 2 18) := rfl
theorem aX12_isClear_18 : at_ kX12_isClear 18 = (0, oPush (vI 0) 19) := rfl
theorem aX12_isClear_19 : at_ kX12_isClear 19 = (0, oIstore 3 20) := rfl
theorem aX12_isClear_20 : at_ kX12_isClear 20 = (1, oIload 3 21) := rfl
theorem aX12_isClear_21 : at_ kX12_isClear 21 = (0, oRload 0 22) := rfl
theorem aX12_isClear_22 : at_ kX12_isClear 22 = (0, oGetf 14 75 0 25) := rfl
theorem aX12_isClear_25 : at_ kX12_isClear 25 = (0, oIcGe 50 28) := rfl
theorem aX12_isClear_28 : at_ kX12_isClear 28 = (0, oRload 0 29) := rfl
theorem aX12_isClear_29 : at_ kX12_isClear 29 = (0, oGetf 14 89 2 32) := rfl
theorem aX12_isClear_32 : at_ kX12_isClear 32 = (0, oRload 0 33) := rfl
theorem aX12_isClear_33 : at_ kX12_isClear 33 = (0, oGetf 14 73 2 36) := rfl
theorem aX12_isClear_36 : at_ kX12_isClear 36 = (0, oIload 3 37) := rfl
theorem aX12_isClear_37 : at_ kX12_isClear 37 = (0, oIald 38) := rfl
theorem aX12_isClear_38 : at_ kX12_isClear 38 = (0, oZald 39) := rfl
theorem aX12_isClear_39 : at_ kX12_isClear 39 = (0, oIfEq 44 42) := rfl
theorem aX12_isClear_42 : at_ kX12_isClear 42 = (0, oPush (vI 0) 43) := rfl
theorem aX12_isClear_43 : at_ kX12_isClear 43 = (0, oRetZ) := rfl
theorem aX12_isClear_44 : at_ kX12_isClear 44 = (0, oIinc 3 1 47) := rfl
theorem aX12_isClear_47 : at_ kX12_isClear 47 = (0, oGoto 20) := rfl
theorem aX12_isClear_50 : at_ kX12_isClear 50 = (0, oPush (vI 1) 51) := rfl
theorem aX12_isClear_51 : at_ kX12_isClear 51 = (0, oRetZ) := rfl
def kX12_bits_0 : List En := [(0, oPush (vI 0) 1), (0, oIstore 1 2), (0, oPush (vI 0) 3), (0, oIstore 2 4), (1, oIload 2 5), (0, oPush (vI 20) 7), (1, oFail), (0, oIcGe 24 10), (1, oFail), (1, oFail), (0, oIload 1 11), (0, oIload 0 12), (0, oIload 2 13), (0, oIshr 14), (0, oPush (vI 1) 15), (0, oIand 16)]
set_option maxRecDepth 20000 in
theorem zX12_bits_0 : SndL mX12_bits 0 kX12_bits_0 := SndL.c (s_iconst (by decide +kernel) (in32_d (by decide))) (SndL.c (s_istore_n (k := 1) (by decide +kernel) rfl (by decide)) (SndL.c (s_iconst (by decide +kernel) (in32_d (by decide))) (SndL.c (s_istore_n (k := 2) (by decide +kernel) rfl (by decide)) (SndL.c (s_iload_n (k := 2) (by decide +kernel) rfl) (SndL.c (s_bipush (by decide +kernel) (in32_d (by decide)) (by decide +kernel)) (SndL.c (s_fail) (SndL.c (s_ic_ge (off := 17) (by decide +kernel) (by decide)) (SndL.c (s_fail) (SndL.c (s_fail) (SndL.c (s_iload_n (k := 1) (by decide +kernel) rfl) (SndL.c (s_iload_n (k := 0) (by decide +kernel) rfl) (SndL.c (s_iload_n (k := 2) (by decide +kernel) rfl) (SndL.c (s_ishr (by decide +kernel)) (SndL.c (s_iconst (by decide +kernel) (in32_d (by decide))) (SndL.c (s_iand (by decide +kernel)) (SndL.n))))))))))))))))
def kX12_bits_1 : List En := [(0, oIadd 17), (0, oIstore 1 18), (0, oIinc 2 1 21), (1, oFail), (1, oFail), (0, oGoto 4), (1, oFail), (1, oFail), (0, oIload 1 25), (0, oRetI)]
set_option maxRecDepth 20000 in
theorem zX12_bits_1 : SndL mX12_bits 16 kX12_bits_1 := SndL.c (s_iadd (by decide +kernel)) (SndL.c (s_istore_n (k := 1) (by decide +kernel) rfl (by decide)) (SndL.c (s_iinc (by decide +kernel) (by decide)) (SndL.c (s_fail) (SndL.c (s_fail) (SndL.c (s_goto (off := -17) (by decide +kernel) (by decide)) (SndL.c (s_fail) (SndL.c (s_fail) (SndL.c (s_iload_n (k := 1) (by decide +kernel) rfl) (SndL.c (s_ret_i rfl (by decide +kernel)) (SndL.n))))))))))
def kX12_bits : Cd := [kX12_bits_0, kX12_bits_1]
theorem zX12_bits : SndC mX12_bits 0 kX12_bits := SndC.c zX12_bits_0 (by decide) (SndC.c zX12_bits_1 (by decide) (SndC.n))
theorem aX12_bits_0 : at_ kX12_bits 0 = (0, oPush (vI 0) 1) := rfl
theorem aX12_bits_1 : at_ kX12_bits 1 = (0, oIstore 1 2) := rfl
theorem aX12_bits_2 : at_ kX12_bits 2 = (0, oPush (vI 0) 3) := rfl
theorem aX12_bits_3 : at_ kX12_bits 3 = (0, oIstore 2 4) := rfl
theorem aX12_bits_4 : at_ kX12_bits 4 = (1, oIload 2 5) := rfl
theorem aX12_bits_5 : at_ kX12_bits 5 = (0, oPush (vI 20) 7) := rfl
theorem aX12_bits_7 : at_ kX12_bits 7 = (0, oIcGe 24 10) := rfl
theorem aX12_bits_10 : at_ kX12_bits 10 = (0, oIload 1 11) := rfl
theorem aX12_bits_11 : at_ kX12_bits 11 = (0, oIload 0 12) := rfl
theorem aX12_bits_12 : at_ kX12_bits 12 = (0, oIload 2 13) := rfl
theorem aX12_bits_13 : at_ kX12_bits 13 = (0, oIshr 14) := rfl
theorem aX12_bits_14 : at_ kX12_bits 14 = (0, oPush (vI 1) 15) := rfl
theorem aX12_bits_15 : at_ kX12_bits 15 = (0, oIand 16) := rfl
theorem aX12_bits_16 : at_ kX12_bits 16 = (0, oIadd 17) := rfl
theorem aX12_bits_17 : at_ kX12_bits 17 = (0, oIstore 1 18) := rfl
theorem aX12_bits_18 : at_ kX12_bits 18 = (0, oIinc 2 1 21) := rfl
theorem aX12_bits_21 : at_ kX12_bits 21 = (0, oGoto 4) := rfl
theorem aX12_bits_24 : at_ kX12_bits 24 = (0, oIload 1 25) := rfl
theorem aX12_bits_25 : at_ kX12_bits 25 = (0, oRetI) := rfl
def kX12_least_0 : List En := [(0, oRload 0 1), (0, oIload 1 2), (2, oInvV 14 mX12_isAdvert 1 5), (1, oFail), (1, oFail), (0, oIfNe 14 8), (1, oFail), (1, oFail), (0, oRload 0 9), (0, oPush (vI (-1)) 10), (2, oInvV 14 mX12_no 1 13), (1, oFail), (1, oFail), (0, oRetI), (0, oRload 0 15), (0, oGetf 14 22 2 18)]
set_option maxRecDepth 20000 in
theorem zX12_least_0 : SndL mX12_least 0 kX12_least_0 := SndL.c (s_aload_n (k := 0) (by decide +kernel) rfl) (SndL.c (s_iload_n (k := 1) (by decide +kernel) rfl) (SndL.c (s_invV (r := (RX12, TX12, 90)) (ci := 13) okX12_isAdvert rfl (by decide) rfl rfl w_6_188 w_6_190 v_32 (by decide +kernel)) (SndL.c (s_fail) (SndL.c (s_fail) (SndL.c (s_if_ne (off := 9) (by decide +kernel) (by decide)) (SndL.c (s_fail) (SndL.c (s_fail) (SndL.c (s_aload_n (k := 0) (by decide +kernel) rfl) (SndL.c (s_iconst (by decide +kernel) (in32_d (by decide))) (SndL.c (s_invV (r := (RX12, TX12, 90)) (ci := 13) okX12_no rfl (by decide) rfl rfl w_6_138 w_6_140 v_29 (by decide +kernel)) (SndL.c (s_fail) (SndL.c (s_fail) (SndL.c (s_ret_i rfl (by decide +kernel)) (SndL.c (s_aload_n (k := 0) (by decide +kernel) rfl) (SndL.c (s_getf (k := 22) clok13 (by decide) rfl (by decide) rfl w_5_124 (Or.inl rfl) (by decide +kernel)) (SndL.n))))))))))))))))
def kX12_least_1 : List En := [(1, oFail), (1, oFail), (0, oIload 1 19), (0, oIald 20), (0, oPush (vI 12) 22), (1, oFail), (0, oIcLe 32 25), (1, oFail), (1, oFail), (0, oRload 0 26), (0, oPush (vI (-7)) 28), (1, oFail), (2, oInvV 14 mX12_no 1 31), (1, oFail), (1, oFail), (0, oRetI)]
set_option maxRecDepth 20000 in
theorem zX12_least_1 : SndL mX12_least 16 kX12_least_1 := SndL.c (s_fail) (SndL.c (s_fail) (SndL.c (s_iload_n (k := 1) (by decide +kernel) rfl) (SndL.c (s_iald (by decide +kernel)) (SndL.c (s_bipush (by decide +kernel) (in32_d (by decide)) (by decide +kernel)) (SndL.c (s_fail) (SndL.c (s_ic_le (off := 10) (by decide +kernel) (by decide)) (SndL.c (s_fail) (SndL.c (s_fail) (SndL.c (s_aload_n (k := 0) (by decide +kernel) rfl) (SndL.c (s_bipush (by decide +kernel) (in32_d (by decide)) (by decide +kernel)) (SndL.c (s_fail) (SndL.c (s_invV (r := (RX12, TX12, 90)) (ci := 13) okX12_no rfl (by decide) rfl rfl w_6_138 w_6_140 v_29 (by decide +kernel)) (SndL.c (s_fail) (SndL.c (s_fail) (SndL.c (s_ret_i rfl (by decide +kernel)) (SndL.n))))))))))))))))
def kX12_least_2 : List En := [(0, oRload 0 33), (0, oIload 1 34), (2, oInvV 14 mX12_weighs 1 37), (1, oFail), (1, oFail), (0, oPush (vI (-1)) 38), (0, oIstore 2 39), (0, oPush (vI 0) 40), (0, oIstore 3 41), (1, oIload 3 42), (0, oPush (vI 1) 43), (0, oRload 0 44), (0, oGetf 14 22 2 47), (1, oFail), (1, oFail), (0, oIload 1 48)]
set_option maxRecDepth 20000 in
theorem zX12_least_2 : SndL mX12_least 32 kX12_least_2 := SndL.c (s_aload_n (k := 0) (by decide +kernel) rfl) (SndL.c (s_iload_n (k := 1) (by decide +kernel) rfl) (SndL.c (s_invV (r := (RX12, TX12, 90)) (ci := 13) okX12_weighs rfl (by decide) rfl rfl w_7_168 w_7_170 v_60 (by decide +kernel)) (SndL.c (s_fail) (SndL.c (s_fail) (SndL.c (s_iconst (by decide +kernel) (in32_d (by decide))) (SndL.c (s_istore_n (k := 2) (by decide +kernel) rfl (by decide)) (SndL.c (s_iconst (by decide +kernel) (in32_d (by decide))) (SndL.c (s_istore_n (k := 3) (by decide +kernel) rfl (by decide)) (SndL.c (s_iload_n (k := 3) (by decide +kernel) rfl) (SndL.c (s_iconst (by decide +kernel) (in32_d (by decide))) (SndL.c (s_aload_n (k := 0) (by decide +kernel) rfl) (SndL.c (s_getf (k := 22) clok13 (by decide) rfl (by decide) rfl w_5_124 (Or.inl rfl) (by decide +kernel)) (SndL.c (s_fail) (SndL.c (s_fail) (SndL.c (s_iload_n (k := 1) (by decide +kernel) rfl) (SndL.n))))))))))))))))
def kX12_least_3 : List En := [(0, oIald 49), (0, oIshl 50), (0, oIcGe 86 53), (1, oFail), (1, oFail), (0, oIload 2 54), (0, oPush (vI (-1)) 55), (0, oIcEq 69 58), (1, oFail), (1, oFail), (0, oIload 3 59), (2, oInvS mX12_bits 1 62), (1, oFail), (1, oFail), (0, oIload 2 63), (2, oInvS mX12_bits 1 66)]
set_option maxRecDepth 20000 in
theorem zX12_least_3 : SndL mX12_least 48 kX12_least_3 := SndL.c (s_iald (by decide +kernel)) (SndL.c (s_ishl (by decide +kernel)) (SndL.c (s_ic_ge (off := 36) (by decide +kernel) (by decide)) (SndL.c (s_fail) (SndL.c (s_fail) (SndL.c (s_iload_n (k := 2) (by decide +kernel) rfl) (SndL.c (s_iconst (by decide +kernel) (in32_d (by decide))) (SndL.c (s_ic_eq (off := 14) (by decide +kernel) (by decide)) (SndL.c (s_fail) (SndL.c (s_fail) (SndL.c (s_iload_n (k := 3) (by decide +kernel) rfl) (SndL.c (s_invS okX12_bits w_7_172 w_7_173 (by decide +kernel)) (SndL.c (s_fail) (SndL.c (s_fail) (SndL.c (s_iload_n (k := 2) (by decide +kernel) rfl) (SndL.c (s_invS okX12_bits w_7_172 w_7_173 (by decide +kernel)) (SndL.n))))))))))))))))
def kX12_least_4 : List En := [(1, oFail), (1, oFail), (0, oIcGe 80 69), (1, oFail), (1, oFail), (0, oRload 0 70), (0, oIload 1 71), (0, oIload 3 72), (2, oInvV 14 mX12_isClear 2 75), (1, oFail), (1, oFail), (0, oIfEq 80 78), (1, oFail), (1, oFail), (0, oIload 3 79), (0, oIstore 2 80)]
set_option maxRecDepth 20000 in
theorem zX12_least_4 : SndL mX12_least 64 kX12_least_4 := SndL.c (s_fail) (SndL.c (s_fail) (SndL.c (s_ic_ge (off := 14) (by decide +kernel) (by decide)) (SndL.c (s_fail) (SndL.c (s_fail) (SndL.c (s_aload_n (k := 0) (by decide +kernel) rfl) (SndL.c (s_iload_n (k := 1) (by decide +kernel) rfl) (SndL.c (s_iload_n (k := 3) (by decide +kernel) rfl) (SndL.c (s_invV (r := (RX12, TX12, 90)) (ci := 13) okX12_isClear rfl (by decide) rfl rfl w_7_175 w_7_177 v_61 (by decide +kernel)) (SndL.c (s_fail) (SndL.c (s_fail) (SndL.c (s_if_eq (off := 5) (by decide +kernel) (by decide)) (SndL.c (s_fail) (SndL.c (s_fail) (SndL.c (s_iload_n (k := 3) (by decide +kernel) rfl) (SndL.c (s_istore_n (k := 2) (by decide +kernel) rfl (by decide)) (SndL.n))))))))))))))))
def kX12_least_5 : List En := [(0, oIinc 3 1 83), (1, oFail), (1, oFail), (0, oGoto 41), (1, oFail), (1, oFail), (0, oRload 0 87), (0, oIload 2 88), (0, oPutf 14 10 0 91), (1, oFail), (1, oFail), (0, oIload 2 92), (2, oInvS mX12_bits 1 95), (1, oFail), (1, oFail), (0, oRetI)]
set_option maxRecDepth 20000 in
theorem zX12_least_5 : SndL mX12_least 80 kX12_least_5 := SndL.c (s_iinc (by decide +kernel) (by decide)) (SndL.c (s_fail) (SndL.c (s_fail) (SndL.c (s_goto (off := -42) (by decide +kernel) (by decide)) (SndL.c (s_fail) (SndL.c (s_fail) (SndL.c (s_aload_n (k := 0) (by decide +kernel) rfl) (SndL.c (s_iload_n (k := 2) (by decide +kernel) rfl) (SndL.c (s_putf (k := 10) clok13 (by decide) rfl (by decide) rfl w_5_112 (Or.inl rfl) (Or.inl rfl) (by decide +kernel)) (SndL.c (s_fail) (SndL.c (s_fail) (SndL.c (s_iload_n (k := 2) (by decide +kernel) rfl) (SndL.c (s_invS okX12_bits w_7_172 w_7_173 (by decide +kernel)) (SndL.c (s_fail) (SndL.c (s_fail) (SndL.c (s_ret_i rfl (by decide +kernel)) (SndL.n))))))))))))))))
def kX12_least : Cd := [kX12_least_0, kX12_least_1, kX12_least_2, kX12_least_3, kX12_least_4, kX12_least_5]
theorem zX12_least : SndC mX12_least 0 kX12_least := SndC.c zX12_least_0 (by decide) (SndC.c zX12_least_1 (by decide) (SndC.c zX12_least_2 (by decide) (SndC.c zX12_least_3 (by decide) (SndC.c zX12_least_4 (by decide) (SndC.c zX12_least_5 (by decide) (SndC.n))))))
theorem aX12_least_0 : at_ kX12_least 0 = (0, oRload 0 1) := rfl
theorem aX12_least_1 : at_ kX12_least 1 = (0, oIload 1 2) := rfl
theorem aX12_least_2 : at_ kX12_least 2 = (2, oInvV 14 mX12_isAdvert 1 5) := rfl
theorem aX12_least_5 : at_ kX12_least 5 = (0, oIfNe 14 8) := rfl
theorem aX12_least_8 : at_ kX12_least 8 = (0, oRload 0 9) := rfl
theorem aX12_least_9 : at_ kX12_least 9 = (0, oPush (vI (-1)) 10) := rfl
theorem aX12_least_10 : at_ kX12_least 10 = (2, oInvV 14 mX12_no 1 13) := rfl
theorem aX12_least_13 : at_ kX12_least 13 = (0, oRetI) := rfl
theorem aX12_least_14 : at_ kX12_least 14 = (0, oRload 0 15) := rfl
theorem aX12_least_15 : at_ kX12_least 15 = (0, oGetf 14 22 2 18) := rfl
theorem aX12_least_18 : at_ kX12_least 18 = (0, oIload 1 19) := rfl
theorem aX12_least_19 : at_ kX12_least 19 = (0, oIald 20) := rfl
theorem aX12_least_20 : at_ kX12_least 20 = (0, oPush (vI 12) 22) := rfl
theorem aX12_least_22 : at_ kX12_least 22 = (0, oIcLe 32 25) := rfl
theorem aX12_least_25 : at_ kX12_least 25 = (0, oRload 0 26) := rfl
theorem aX12_least_26 : at_ kX12_least 26 = (0, oPush (vI (-7)) 28) := rfl
theorem aX12_least_28 : at_ kX12_least 28 = (2, oInvV 14 mX12_no 1 31) := rfl
theorem aX12_least_31 : at_ kX12_least 31 = (0, oRetI) := rfl
theorem aX12_least_32 : at_ kX12_least 32 = (0, oRload 0 33) := rfl
theorem aX12_least_33 : at_ kX12_least 33 = (0, oIload 1 34) := rfl
theorem aX12_least_34 : at_ kX12_least 34 = (2, oInvV 14 mX12_weighs 1 37) := rfl
theorem aX12_least_37 : at_ kX12_least 37 = (0, oPush (vI (-1)) 38) := rfl
theorem aX12_least_38 : at_ kX12_least 38 = (0, oIstore 2 39) := rfl
theorem aX12_least_39 : at_ kX12_least 39 = (0, oPush (vI 0) 40) := rfl
theorem aX12_least_40 : at_ kX12_least 40 = (0, oIstore 3 41) := rfl
theorem aX12_least_41 : at_ kX12_least 41 = (1, oIload 3 42) := rfl
theorem aX12_least_42 : at_ kX12_least 42 = (0, oPush (vI 1) 43) := rfl
theorem aX12_least_43 : at_ kX12_least 43 = (0, oRload 0 44) := rfl
theorem aX12_least_44 : at_ kX12_least 44 = (0, oGetf 14 22 2 47) := rfl
theorem aX12_least_47 : at_ kX12_least 47 = (0, oIload 1 48) := rfl
theorem aX12_least_48 : at_ kX12_least 48 = (0, oIald 49) := rfl
theorem aX12_least_49 : at_ kX12_least 49 = (0, oIshl 50) := rfl
theorem aX12_least_50 : at_ kX12_least 50 = (0, oIcGe 86 53) := rfl
theorem aX12_least_53 : at_ kX12_least 53 = (0, oIload 2 54) := rfl
theorem aX12_least_54 : at_ kX12_least 54 = (0, oPush (vI (-1)) 55) := rfl
theorem aX12_least_55 : at_ kX12_least 55 = (0, oIcEq 69 58) := rfl
theorem aX12_least_58 : at_ kX12_least 58 = (0, oIload 3 59) := rfl
theorem aX12_least_59 : at_ kX12_least 59 = (2, oInvS mX12_bits 1 62) := rfl
theorem aX12_least_62 : at_ kX12_least 62 = (0, oIload 2 63) := rfl
theorem aX12_least_63 : at_ kX12_least 63 = (2, oInvS mX12_bits 1 66) := rfl
theorem aX12_least_66 : at_ kX12_least 66 = (0, oIcGe 80 69) := rfl
theorem aX12_least_69 : at_ kX12_least 69 = (0, oRload 0 70) := rfl
theorem aX12_least_70 : at_ kX12_least 70 = (0, oIload 1 71) := rfl
theorem aX12_least_71 : at_ kX12_least 71 = (0, oIload 3 72) := rfl
theorem aX12_least_72 : at_ kX12_least 72 = (2, oInvV 14 mX12_isClear 2 75) := rfl
theorem aX12_least_75 : at_ kX12_least 75 = (0, oIfEq 80 78) := rfl
theorem aX12_least_78 : at_ kX12_least 78 = (0, oIload 3 79) := rfl
theorem aX12_least_79 : at_ kX12_least 79 = (0, oIstore 2 80) := rfl
theorem aX12_least_80 : at_ kX12_least 80 = (0, oIinc 3 1 83) := rfl
theorem aX12_least_83 : at_ kX12_least 83 = (0, oGoto 41) := rfl
theorem aX12_least_86 : at_ kX12_least 86 = (0, oRload 0 87) := rfl
theorem aX12_least_87 : at_ kX12_least 87 = (0, oIload 2 88) := rfl
theorem aX12_least_88 : at_ kX12_least 88 = (0, oPutf 14 10 0 91) := rfl
theorem aX12_least_91 : at_ kX12_least 91 = (0, oIload 2 92) := rfl
theorem aX12_least_92 : at_ kX12_least 92 = (2, oInvS mX12_bits 1 95) := rfl
theorem aX12_least_95 : at_ kX12_least 95 = (0, oRetI) := rfl
def kX12_leastSet_0 : List En := [(0, oRload 0 1), (0, oGetf 14 10 0 4), (1, oFail), (1, oFail), (0, oRetI)]
set_option maxRecDepth 20000 in
theorem zX12_leastSet_0 : SndL mX12_leastSet 0 kX12_leastSet_0 := SndL.c (s_aload_n (k := 0) (by decide +kernel) rfl) (SndL.c (s_getf (k := 10) clok13 (by decide) rfl (by decide) rfl w_5_112 (Or.inl rfl) (by decide +kernel)) (SndL.c (s_fail) (SndL.c (s_fail) (SndL.c (s_ret_i rfl (by decide +kernel)) (SndL.n)))))
def kX12_leastSet : Cd := [kX12_leastSet_0]
theorem zX12_leastSet : SndC mX12_leastSet 0 kX12_leastSet := SndC.c zX12_leastSet_0 (by decide) (SndC.n)
theorem aX12_leastSet_0 : at_ kX12_leastSet 0 = (0, oRload 0 1) := rfl
theorem aX12_leastSet_1 : at_ kX12_leastSet 1 = (0, oGetf 14 10 0 4) := rfl
theorem aX12_leastSet_4 : at_ kX12_leastSet 4 = (0, oRetI) := rfl
def kX12_judge_0 : List En := [(0, oRload 0 1), (0, oIload 1 2), (2, oInvV 14 mX12_isAdvert 1 5), (1, oFail), (1, oFail), (0, oIfEq 16 8), (1, oFail), (1, oFail), (0, oRload 0 9), (0, oIload 2 10), (2, oInvV 14 mX12_wants 1 13), (1, oFail), (1, oFail), (0, oGoto 17), (1, oFail), (1, oFail)]
set_option maxRecDepth 20000 in
theorem zX12_judge_0 : SndL mX12_judge 0 kX12_judge_0 := SndL.c (s_aload_n (k := 0) (by decide +kernel) rfl) (SndL.c (s_iload_n (k := 1) (by decide +kernel) rfl) (SndL.c (s_invV (r := (RX12, TX12, 90)) (ci := 13) okX12_isAdvert rfl (by decide) rfl rfl w_6_188 w_6_190 v_32 (by decide +kernel)) (SndL.c (s_fail) (SndL.c (s_fail) (SndL.c (s_if_eq (off := 11) (by decide +kernel) (by decide)) (SndL.c (s_fail) (SndL.c (s_fail) (SndL.c (s_aload_n (k := 0) (by decide +kernel) rfl) (SndL.c (s_iload_n (k := 2) (by decide +kernel) rfl) (SndL.c (s_invV (r := (RX12, TX12, 90)) (ci := 13) okX12_wants rfl (by decide) rfl rfl w_6_176 w_6_178 v_30 (by decide +kernel)) (SndL.c (s_fail) (SndL.c (s_fail) (SndL.c (s_goto (off := 4) (by decide +kernel) (by decide)) (SndL.c (s_fail) (SndL.c (s_fail) (SndL.n))))))))))))))))
def kX12_judge_1 : List En := [(0, oPush (vI (-1)) 17), (0, oIstore 3 18), (0, oIload 3 19), (0, oIfEq 28 22), (1, oFail), (1, oFail), (0, oRload 0 23), (0, oIload 3 24), (2, oInvV 14 mX12_no 1 27), (1, oFail), (1, oFail), (0, oRetI), (0, oPush (vI 0) 29), (0, oIstore 4 31), (1, oFail), (0, oPush (vI 0) 32)]
set_option maxRecDepth 20000 in
theorem zX12_judge_1 : SndL mX12_judge 16 kX12_judge_1 := SndL.c (s_iconst (by decide +kernel) (in32_d (by decide))) (SndL.c (s_istore_n (k := 3) (by decide +kernel) rfl (by decide)) (SndL.c (s_iload_n (k := 3) (by decide +kernel) rfl) (SndL.c (s_if_eq (off := 9) (by decide +kernel) (by decide)) (SndL.c (s_fail) (SndL.c (s_fail) (SndL.c (s_aload_n (k := 0) (by decide +kernel) rfl) (SndL.c (s_iload_n (k := 3) (by decide +kernel) rfl) (SndL.c (s_invV (r := (RX12, TX12, 90)) (ci := 13) okX12_no rfl (by decide) rfl rfl w_6_138 w_6_140 v_29 (by decide +kernel)) (SndL.c (s_fail) (SndL.c (s_fail) (SndL.c (s_ret_i rfl (by decide +kernel)) (SndL.c (s_iconst (by decide +kernel) (in32_d (by decide))) (SndL.c (s_istore (by decide +kernel) (by decide)) (SndL.c (s_fail) (SndL.c (s_iconst (by decide +kernel) (in32_d (by decide))) (SndL.n))))))))))))))))
def kX12_judge_2 : List En := [(0, oIstore 5 34), (1, oFail), (1, oIload 5 36), (1, oFail), (0, oRload 0 37), (0, oGetf 14 13 2 40), (1, oFail), (1, oFail), (0, oIload 2 41), (0, oIald 42), (0, oIcGe 92 45), (1, oFail), (1, oFail), (0, oRload 0 46), (0, oIload 2 47), (0, oIload 5 49)]
set_option maxRecDepth 20000 in
theorem zX12_judge_2 : SndL mX12_judge 32 kX12_judge_2 := SndL.c (s_istore (by decide +kernel) (by decide)) (SndL.c (s_fail) (SndL.c (s_iload (by decide +kernel)) (SndL.c (s_fail) (SndL.c (s_aload_n (k := 0) (by decide +kernel) rfl) (SndL.c (s_getf (k := 13) clok13 (by decide) rfl (by decide) rfl w_5_115 (Or.inl rfl) (by decide +kernel)) (SndL.c (s_fail) (SndL.c (s_fail) (SndL.c (s_iload_n (k := 2) (by decide +kernel) rfl) (SndL.c (s_iald (by decide +kernel)) (SndL.c (s_ic_ge (off := 50) (by decide +kernel) (by decide)) (SndL.c (s_fail) (SndL.c (s_fail) (SndL.c (s_aload_n (k := 0) (by decide +kernel) rfl) (SndL.c (s_iload_n (k := 2) (by decide +kernel) rfl) (SndL.c (s_iload (by decide +kernel)) (SndL.n))))))))))))))))
def kX12_judge_3 : List En := [(1, oFail), (2, oInvV 14 mX12_intAt 2 52), (1, oFail), (1, oFail), (0, oIstore 6 54), (1, oFail), (0, oIload 6 56), (1, oFail), (0, oIfLt 70 59), (1, oFail), (1, oFail), (0, oIload 6 61), (1, oFail), (0, oRload 0 62), (0, oGetf 14 22 2 65), (1, oFail)]
set_option maxRecDepth 20000 in
theorem zX12_judge_3 : SndL mX12_judge 48 kX12_judge_3 := SndL.c (s_fail) (SndL.c (s_invV (r := (RX12, TX12, 90)) (ci := 13) okX12_intAt rfl (by decide) rfl rfl w_6_180 w_6_182 v_31 (by decide +kernel)) (SndL.c (s_fail) (SndL.c (s_fail) (SndL.c (s_istore (by decide +kernel) (by decide)) (SndL.c (s_fail) (SndL.c (s_iload (by decide +kernel)) (SndL.c (s_fail) (SndL.c (s_if_lt (off := 14) (by decide +kernel) (by decide)) (SndL.c (s_fail) (SndL.c (s_fail) (SndL.c (s_iload (by decide +kernel)) (SndL.c (s_fail) (SndL.c (s_aload_n (k := 0) (by decide +kernel) rfl) (SndL.c (s_getf (k := 22) clok13 (by decide) rfl (by decide) rfl w_5_124 (Or.inl rfl) (by decide +kernel)) (SndL.c (s_fail) (SndL.n))))))))))))))))
def kX12_judge_4 : List En := [(1, oFail), (0, oIload 1 66), (0, oIald 67), (0, oIcLt 77 70), (1, oFail), (1, oFail), (0, oRload 0 71), (0, oPush (vI (-6)) 73), (1, oFail), (2, oInvV 14 mX12_no 1 76), (1, oFail), (1, oFail), (0, oRetI), (0, oIload 4 79), (1, oFail), (0, oPush (vI 1) 80)]
set_option maxRecDepth 20000 in
theorem zX12_judge_4 : SndL mX12_judge 64 kX12_judge_4 := SndL.c (s_fail) (SndL.c (s_iload_n (k := 1) (by decide +kernel) rfl) (SndL.c (s_iald (by decide +kernel)) (SndL.c (s_ic_lt (off := 10) (by decide +kernel) (by decide)) (SndL.c (s_fail) (SndL.c (s_fail) (SndL.c (s_aload_n (k := 0) (by decide +kernel) rfl) (SndL.c (s_bipush (by decide +kernel) (in32_d (by decide)) (by decide +kernel)) (SndL.c (s_fail) (SndL.c (s_invV (r := (RX12, TX12, 90)) (ci := 13) okX12_no rfl (by decide) rfl rfl w_6_138 w_6_140 v_29 (by decide +kernel)) (SndL.c (s_fail) (SndL.c (s_fail) (SndL.c (s_ret_i rfl (by decide +kernel)) (SndL.c (s_iload (by decide +kernel)) (SndL.c (s_fail) (SndL.c (s_iconst (by decide +kernel) (in32_d (by decide))) (SndL.n))))))))))))))))
def kX12_judge_5 : List En := [(0, oIload 6 82), (1, oFail), (0, oIshl 83), (0, oIor 84), (0, oIstore 4 86), (1, oFail), (0, oIinc 5 1 89), (1, oFail), (1, oFail), (0, oGoto 34), (1, oFail), (1, oFail), (0, oRload 0 93), (0, oIload 1 94), (2, oInvV 14 mX12_weighs 1 97), (1, oFail)]
set_option maxRecDepth 20000 in
theorem zX12_judge_5 : SndL mX12_judge 80 kX12_judge_5 := SndL.c (s_iload (by decide +kernel)) (SndL.c (s_fail) (SndL.c (s_ishl (by decide +kernel)) (SndL.c (s_ior (by decide +kernel)) (SndL.c (s_istore (by decide +kernel) (by decide)) (SndL.c (s_fail) (SndL.c (s_iinc (by decide +kernel) (by decide)) (SndL.c (s_fail) (SndL.c (s_fail) (SndL.c (s_goto (off := -55) (by decide +kernel) (by decide)) (SndL.c (s_fail) (SndL.c (s_fail) (SndL.c (s_aload_n (k := 0) (by decide +kernel) rfl) (SndL.c (s_iload_n (k := 1) (by decide +kernel) rfl) (SndL.c (s_invV (r := (RX12, TX12, 90)) (ci := 13) okX12_weighs rfl (by decide) rfl rfl w_7_168 w_7_170 v_60 (by decide +kernel)) (SndL.c (s_fail) (SndL.n))))))))))))))))
def kX12_judge_6 : List En := [(1, oFail), (0, oRload 0 98), (0, oIload 1 99), (0, oIload 4 101), (1, oFail), (2, oInvV 14 mX12_isClear 2 104), (1, oFail), (1, oFail), (0, oIfEq 111 107), (1, oFail), (1, oFail), (0, oPush (vI 1) 108), (0, oGoto 112), (1, oFail), (1, oFail), (0, oPush (vI 0) 112)]
set_option maxRecDepth 20000 in
theorem zX12_judge_6 : SndL mX12_judge 96 kX12_judge_6 := SndL.c (s_fail) (SndL.c (s_aload_n (k := 0) (by decide +kernel) rfl) (SndL.c (s_iload_n (k := 1) (by decide +kernel) rfl) (SndL.c (s_iload (by decide +kernel)) (SndL.c (s_fail) (SndL.c (s_invV (r := (RX12, TX12, 90)) (ci := 13) okX12_isClear rfl (by decide) rfl rfl w_7_175 w_7_177 v_61 (by decide +kernel)) (SndL.c (s_fail) (SndL.c (s_fail) (SndL.c (s_if_eq (off := 7) (by decide +kernel) (by decide)) (SndL.c (s_fail) (SndL.c (s_fail) (SndL.c (s_iconst (by decide +kernel) (in32_d (by decide))) (SndL.c (s_goto (off := 4) (by decide +kernel) (by decide)) (SndL.c (s_fail) (SndL.c (s_fail) (SndL.c (s_iconst (by decide +kernel) (in32_d (by decide))) (SndL.n))))))))))))))))
def kX12_judge_7 : List En := [(0, oRetI)]
set_option maxRecDepth 20000 in
theorem zX12_judge_7 : SndL mX12_judge 112 kX12_judge_7 := SndL.c (s_ret_i rfl (by decide +kernel)) (SndL.n)
def kX12_judge : Cd := [kX12_judge_0, kX12_judge_1, kX12_judge_2, kX12_judge_3, kX12_judge_4, kX12_judge_5, kX12_judge_6, kX12_judge_7]
theorem zX12_judge : SndC mX12_judge 0 kX12_judge := SndC.c zX12_judge_0 (by decide) (SndC.c zX12_judge_1 (by decide) (SndC.c zX12_judge_2 (by decide) (SndC.c zX12_judge_3 (by decide) (SndC.c zX12_judge_4 (by decide) (SndC.c zX12_judge_5 (by decide) (SndC.c zX12_judge_6 (by decide) (SndC.c zX12_judge_7 (by decide) (SndC.n))))))))
theorem aX12_judge_0 : at_ kX12_judge 0 = (0, oRload 0 1) := rfl
theorem aX12_judge_1 : at_ kX12_judge 1 = (0, oIload 1 2) := rfl
theorem aX12_judge_2 : at_ kX12_judge 2 = (2, oInvV 14 mX12_isAdvert 1 5) := rfl
theorem aX12_judge_5 : at_ kX12_judge 5 = (0, oIfEq 16 8) := rfl
theorem aX12_judge_8 : at_ kX12_judge 8 = (0, oRload 0 9) := rfl
theorem aX12_judge_9 : at_ kX12_judge 9 = (0, oIload 2 10) := rfl
theorem aX12_judge_10 : at_ kX12_judge 10 = (2, oInvV 14 mX12_wants 1 13) := rfl
theorem aX12_judge_13 : at_ kX12_judge 13 = (0, oGoto 17) := rfl
theorem aX12_judge_16 : at_ kX12_judge 16 = (0, oPush (vI (-1)) 17) := rfl
theorem aX12_judge_17 : at_ kX12_judge 17 = (0, oIstore 3 18) := rfl
theorem aX12_judge_18 : at_ kX12_judge 18 = (0, oIload 3 19) := rfl
theorem aX12_judge_19 : at_ kX12_judge 19 = (0, oIfEq 28 22) := rfl
theorem aX12_judge_22 : at_ kX12_judge 22 = (0, oRload 0 23) := rfl
theorem aX12_judge_23 : at_ kX12_judge 23 = (0, oIload 3 24) := rfl
theorem aX12_judge_24 : at_ kX12_judge 24 = (2, oInvV 14 mX12_no 1 27) := rfl
theorem aX12_judge_27 : at_ kX12_judge 27 = (0, oRetI) := rfl
theorem aX12_judge_28 : at_ kX12_judge 28 = (0, oPush (vI 0) 29) := rfl
theorem aX12_judge_29 : at_ kX12_judge 29 = (0, oIstore 4 31) := rfl
theorem aX12_judge_31 : at_ kX12_judge 31 = (0, oPush (vI 0) 32) := rfl
theorem aX12_judge_32 : at_ kX12_judge 32 = (0, oIstore 5 34) := rfl
theorem aX12_judge_34 : at_ kX12_judge 34 = (1, oIload 5 36) := rfl
theorem aX12_judge_36 : at_ kX12_judge 36 = (0, oRload 0 37) := rfl
theorem aX12_judge_37 : at_ kX12_judge 37 = (0, oGetf 14 13 2 40) := rfl
theorem aX12_judge_40 : at_ kX12_judge 40 = (0, oIload 2 41) := rfl
theorem aX12_judge_41 : at_ kX12_judge 41 = (0, oIald 42) := rfl
theorem aX12_judge_42 : at_ kX12_judge 42 = (0, oIcGe 92 45) := rfl
theorem aX12_judge_45 : at_ kX12_judge 45 = (0, oRload 0 46) := rfl
theorem aX12_judge_46 : at_ kX12_judge 46 = (0, oIload 2 47) := rfl
theorem aX12_judge_47 : at_ kX12_judge 47 = (0, oIload 5 49) := rfl
theorem aX12_judge_49 : at_ kX12_judge 49 = (2, oInvV 14 mX12_intAt 2 52) := rfl
theorem aX12_judge_52 : at_ kX12_judge 52 = (0, oIstore 6 54) := rfl
theorem aX12_judge_54 : at_ kX12_judge 54 = (0, oIload 6 56) := rfl
theorem aX12_judge_56 : at_ kX12_judge 56 = (0, oIfLt 70 59) := rfl
theorem aX12_judge_59 : at_ kX12_judge 59 = (0, oIload 6 61) := rfl
theorem aX12_judge_61 : at_ kX12_judge 61 = (0, oRload 0 62) := rfl
theorem aX12_judge_62 : at_ kX12_judge 62 = (0, oGetf 14 22 2 65) := rfl
theorem aX12_judge_65 : at_ kX12_judge 65 = (0, oIload 1 66) := rfl
theorem aX12_judge_66 : at_ kX12_judge 66 = (0, oIald 67) := rfl
theorem aX12_judge_67 : at_ kX12_judge 67 = (0, oIcLt 77 70) := rfl
theorem aX12_judge_70 : at_ kX12_judge 70 = (0, oRload 0 71) := rfl
theorem aX12_judge_71 : at_ kX12_judge 71 = (0, oPush (vI (-6)) 73) := rfl
theorem aX12_judge_73 : at_ kX12_judge 73 = (2, oInvV 14 mX12_no 1 76) := rfl
theorem aX12_judge_76 : at_ kX12_judge 76 = (0, oRetI) := rfl
theorem aX12_judge_77 : at_ kX12_judge 77 = (0, oIload 4 79) := rfl
theorem aX12_judge_79 : at_ kX12_judge 79 = (0, oPush (vI 1) 80) := rfl
theorem aX12_judge_80 : at_ kX12_judge 80 = (0, oIload 6 82) := rfl
theorem aX12_judge_82 : at_ kX12_judge 82 = (0, oIshl 83) := rfl
theorem aX12_judge_83 : at_ kX12_judge 83 = (0, oIor 84) := rfl
theorem aX12_judge_84 : at_ kX12_judge 84 = (0, oIstore 4 86) := rfl
theorem aX12_judge_86 : at_ kX12_judge 86 = (0, oIinc 5 1 89) := rfl
theorem aX12_judge_89 : at_ kX12_judge 89 = (0, oGoto 34) := rfl
theorem aX12_judge_92 : at_ kX12_judge 92 = (0, oRload 0 93) := rfl
theorem aX12_judge_93 : at_ kX12_judge 93 = (0, oIload 1 94) := rfl
theorem aX12_judge_94 : at_ kX12_judge 94 = (2, oInvV 14 mX12_weighs 1 97) := rfl
theorem aX12_judge_97 : at_ kX12_judge 97 = (0, oRload 0 98) := rfl
theorem aX12_judge_98 : at_ kX12_judge 98 = (0, oIload 1 99) := rfl
theorem aX12_judge_99 : at_ kX12_judge 99 = (0, oIload 4 101) := rfl
theorem aX12_judge_101 : at_ kX12_judge 101 = (2, oInvV 14 mX12_isClear 2 104) := rfl
theorem aX12_judge_104 : at_ kX12_judge 104 = (0, oIfEq 111 107) := rfl
theorem aX12_judge_107 : at_ kX12_judge 107 = (0, oPush (vI 1) 108) := rfl
theorem aX12_judge_108 : at_ kX12_judge 108 = (0, oGoto 112) := rfl
theorem aX12_judge_111 : at_ kX12_judge 111 = (0, oPush (vI 0) 112) := rfl
theorem aX12_judge_112 : at_ kX12_judge 112 = (0, oRetI) := rfl
def kX12_beside_0 : List En := [(0, oIload 1 1), (0, oIfLt 14 4), (1, oFail), (1, oFail), (0, oIload 1 5), (0, oPush (vI 1) 6), (0, oRload 0 7), (0, oGetf 14 4 0 10), (1, oFail), (1, oFail), (0, oIshl 11), (0, oIcLt 16 14), (1, oFail), (1, oFail), (0, oPush (vI (-1)) 15), (0, oRetI)]
set_option maxRecDepth 20000 in
theorem zX12_beside_0 : SndL mX12_beside 0 kX12_beside_0 := SndL.c (s_iload_n (k := 1) (by decide +kernel) rfl) (SndL.c (s_if_lt (off := 13) (by decide +kernel) (by decide)) (SndL.c (s_fail) (SndL.c (s_fail) (SndL.c (s_iload_n (k := 1) (by decide +kernel) rfl) (SndL.c (s_iconst (by decide +kernel) (in32_d (by decide))) (SndL.c (s_aload_n (k := 0) (by decide +kernel) rfl) (SndL.c (s_getf (k := 4) clok13 (by decide) rfl (by decide) rfl w_5_106 (Or.inl rfl) (by decide +kernel)) (SndL.c (s_fail) (SndL.c (s_fail) (SndL.c (s_ishl (by decide +kernel)) (SndL.c (s_ic_lt (off := 5) (by decide +kernel) (by decide)) (SndL.c (s_fail) (SndL.c (s_fail) (SndL.c (s_iconst (by decide +kernel) (in32_d (by decide))) (SndL.c (s_ret_i rfl (by decide +kernel)) (SndL.n))))))))))))))))
def kX12_beside_1 : List En := [(0, oPush (vI 0) 17), (0, oIstore 2 18), (0, oPush (vI 0) 19), (0, oIstore 3 20), (1, oIload 3 21), (0, oRload 0 22), (0, oGetf 14 1 0 25), (1, oFail), (1, oFail), (0, oIcGe 141 28), (1, oFail), (1, oFail), (0, oRload 0 29), (0, oIload 3 30), (0, oRload 0 31), (0, oGetf 14 0 0 34)]
set_option maxRecDepth 20000 in
theorem zX12_beside_1 : SndL mX12_beside 16 kX12_beside_1 := SndL.c (s_iconst (by decide +kernel) (in32_d (by decide))) (SndL.c (s_istore_n (k := 2) (by decide +kernel) rfl (by decide)) (SndL.c (s_iconst (by decide +kernel) (in32_d (by decide))) (SndL.c (s_istore_n (k := 3) (by decide +kernel) rfl (by decide)) (SndL.c (s_iload_n (k := 3) (by decide +kernel) rfl) (SndL.c (s_aload_n (k := 0) (by decide +kernel) rfl) (SndL.c (s_getf (k := 1) clok13 (by decide) rfl (by decide) rfl w_5_103 (Or.inl rfl) (by decide +kernel)) (SndL.c (s_fail) (SndL.c (s_fail) (SndL.c (s_ic_ge (off := 116) (by decide +kernel) (by decide)) (SndL.c (s_fail) (SndL.c (s_fail) (SndL.c (s_aload_n (k := 0) (by decide +kernel) rfl) (SndL.c (s_iload_n (k := 3) (by decide +kernel) rfl) (SndL.c (s_aload_n (k := 0) (by decide +kernel) rfl) (SndL.c (s_getf (k := 0) clok13 (by decide) rfl (by decide) rfl w_5_102 (Or.inl rfl) (by decide +kernel)) (SndL.n))))))))))))))))
def kX12_beside_2 : List En := [(1, oFail), (1, oFail), (0, oRload 0 35), (0, oGetf 14 0 0 38), (1, oFail), (1, oFail), (2, oInvV 14 mX12_readsAll 3 41), (1, oFail), (1, oFail), (0, oPush (vI 0) 42), (0, oIstore 4 44), (1, oFail), (1, oIload 4 46), (1, oFail), (0, oRload 0 47), (0, oGetf 14 75 0 50)]
set_option maxRecDepth 20000 in
theorem zX12_beside_2 : SndL mX12_beside 32 kX12_beside_2 := SndL.c (s_fail) (SndL.c (s_fail) (SndL.c (s_aload_n (k := 0) (by decide +kernel) rfl) (SndL.c (s_getf (k := 0) clok13 (by decide) rfl (by decide) rfl w_5_102 (Or.inl rfl) (by decide +kernel)) (SndL.c (s_fail) (SndL.c (s_fail) (SndL.c (s_invV (r := (RX12, TX12, 90)) (ci := 13) okX12_readsAll rfl (by decide) rfl rfl w_6_212 w_6_214 v_33 (by decide +kernel)) (SndL.c (s_fail) (SndL.c (s_fail) (SndL.c (s_iconst (by decide +kernel) (in32_d (by decide))) (SndL.c (s_istore (by decide +kernel) (by decide)) (SndL.c (s_fail) (SndL.c (s_iload (by decide +kernel)) (SndL.c (s_fail) (SndL.c (s_aload_n (k := 0) (by decide +kernel) rfl) (SndL.c (s_getf (k := 75) clok13 (by decide) rfl (by decide) rfl w_5_177 (Or.inl rfl) (by decide +kernel)) (SndL.n))))))))))))))))
def kX12_beside_3 : List En := [(1, oFail), (1, oFail), (0, oIcGe 135 53), (1, oFail), (1, oFail), (0, oPush (vI 0) 54), (0, oIstore 5 56), (1, oFail), (0, oPush (vI 0) 57), (0, oIstore 6 59), (1, oFail), (1, oIload 6 61), (1, oFail), (0, oRload 0 62), (0, oGetf 14 4 0 65), (1, oFail)]
set_option maxRecDepth 20000 in
theorem zX12_beside_3 : SndL mX12_beside 48 kX12_beside_3 := SndL.c (s_fail) (SndL.c (s_fail) (SndL.c (s_ic_ge (off := 85) (by decide +kernel) (by decide)) (SndL.c (s_fail) (SndL.c (s_fail) (SndL.c (s_iconst (by decide +kernel) (in32_d (by decide))) (SndL.c (s_istore (by decide +kernel) (by decide)) (SndL.c (s_fail) (SndL.c (s_iconst (by decide +kernel) (in32_d (by decide))) (SndL.c (s_istore (by decide +kernel) (by decide)) (SndL.c (s_fail) (SndL.c (s_iload (by decide +kernel)) (SndL.c (s_fail) (SndL.c (s_aload_n (k := 0) (by decide +kernel) rfl) (SndL.c (s_getf (k := 4) clok13 (by decide) rfl (by decide) rfl w_5_106 (Or.inl rfl) (by decide +kernel)) (SndL.c (s_fail) (SndL.n))))))))))))))))
def kX12_beside_4 : List En := [(1, oFail), (0, oIcGe 121 68), (1, oFail), (1, oFail), (0, oIload 5 70), (1, oFail), (0, oIfNe 121 73), (1, oFail), (1, oFail), (0, oIload 1 74), (0, oIload 6 76), (1, oFail), (0, oIshr 77), (0, oPush (vI 1) 78), (0, oIand 79), (0, oPush (vI 1) 80)]
set_option maxRecDepth 20000 in
theorem zX12_beside_4 : SndL mX12_beside 64 kX12_beside_4 := SndL.c (s_fail) (SndL.c (s_ic_ge (off := 56) (by decide +kernel) (by decide)) (SndL.c (s_fail) (SndL.c (s_fail) (SndL.c (s_iload (by decide +kernel)) (SndL.c (s_fail) (SndL.c (s_if_ne (off := 51) (by decide +kernel) (by decide)) (SndL.c (s_fail) (SndL.c (s_fail) (SndL.c (s_iload_n (k := 1) (by decide +kernel) rfl) (SndL.c (s_iload (by decide +kernel)) (SndL.c (s_fail) (SndL.c (s_ishr (by decide +kernel)) (SndL.c (s_iconst (by decide +kernel) (in32_d (by decide))) (SndL.c (s_iand (by decide +kernel)) (SndL.c (s_iconst (by decide +kernel) (in32_d (by decide))) (SndL.n))))))))))))))))
def kX12_beside_5 : List En := [(0, oIcNe 112 83), (1, oFail), (1, oFail), (0, oRload 0 84), (0, oIload 6 86), (1, oFail), (0, oIload 3 87), (0, oRload 0 88), (0, oGetf 14 73 2 91), (1, oFail), (1, oFail), (0, oIload 4 93), (1, oFail), (0, oIald 94), (0, oRload 0 95), (0, oGetf 14 0 0 98)]
set_option maxRecDepth 20000 in
theorem zX12_beside_5 : SndL mX12_beside 80 kX12_beside_5 := SndL.c (s_ic_ne (off := 32) (by decide +kernel) (by decide)) (SndL.c (s_fail) (SndL.c (s_fail) (SndL.c (s_aload_n (k := 0) (by decide +kernel) rfl) (SndL.c (s_iload (by decide +kernel)) (SndL.c (s_fail) (SndL.c (s_iload_n (k := 3) (by decide +kernel) rfl) (SndL.c (s_aload_n (k := 0) (by decide +kernel) rfl) (SndL.c (s_getf (k := 73) clok13 (by decide) rfl (by decide) rfl w_5_175 (Or.inl rfl) (by decide +kernel)) (SndL.c (s_fail) (SndL.c (s_fail) (SndL.c (s_iload (by decide +kernel)) (SndL.c (s_fail) (SndL.c (s_iald (by decide +kernel)) (SndL.c (s_aload_n (k := 0) (by decide +kernel) rfl) (SndL.c (s_getf (k := 0) clok13 (by decide) rfl (by decide) rfl w_5_102 (Or.inl rfl) (by decide +kernel)) (SndL.n))))))))))))))))
def kX12_beside_6 : List En := [(1, oFail), (1, oFail), (0, oRload 0 99), (0, oGetf 14 0 0 102), (1, oFail), (1, oFail), (2, oInvV 14 mX12_holds_ 5 105), (1, oFail), (1, oFail), (0, oIfEq 112 108), (1, oFail), (1, oFail), (0, oPush (vI 1) 109), (0, oGoto 113), (1, oFail), (1, oFail)]
set_option maxRecDepth 20000 in
theorem zX12_beside_6 : SndL mX12_beside 96 kX12_beside_6 := SndL.c (s_fail) (SndL.c (s_fail) (SndL.c (s_aload_n (k := 0) (by decide +kernel) rfl) (SndL.c (s_getf (k := 0) clok13 (by decide) rfl (by decide) rfl w_5_102 (Or.inl rfl) (by decide +kernel)) (SndL.c (s_fail) (SndL.c (s_fail) (SndL.c (s_invV (r := (RX12, TX12, 90)) (ci := 13) okX12_holds_ rfl (by decide) rfl rfl w_7_100 w_7_102 v_54 (by decide +kernel)) (SndL.c (s_fail) (SndL.c (s_fail) (SndL.c (s_if_eq (off := 7) (by decide +kernel) (by decide)) (SndL.c (s_fail) (SndL.c (s_fail) (SndL.c (s_iconst (by decide +kernel) (in32_d (by decide))) (SndL.c (s_goto (off := 4) (by decide +kernel) (by decide)) (SndL.c (s_fail) (SndL.c (s_fail) (SndL.n))))))))))))))))
def kX12_beside_7 : List En := [(0, oPush (vI 0) 113), (0, oIstore 5 115), (1, oFail), (0, oIinc 6 1 118), (1, oFail), (1, oFail), (0, oGoto 59), (1, oFail), (1, oFail), (0, oIload 5 123), (1, oFail), (0, oIfEq 129 126), (1, oFail), (1, oFail), (0, oIinc 2 1 129), (1, oFail)]
set_option maxRecDepth 20000 in
theorem zX12_beside_7 : SndL mX12_beside 112 kX12_beside_7 := SndL.c (s_iconst (by decide +kernel) (in32_d (by decide))) (SndL.c (s_istore (by decide +kernel) (by decide)) (SndL.c (s_fail) (SndL.c (s_iinc (by decide +kernel) (by decide)) (SndL.c (s_fail) (SndL.c (s_fail) (SndL.c (s_goto (off := -59) (by decide +kernel) (by decide)) (SndL.c (s_fail) (SndL.c (s_fail) (SndL.c (s_iload (by decide +kernel)) (SndL.c (s_fail) (SndL.c (s_if_eq (off := 6) (by decide +kernel) (by decide)) (SndL.c (s_fail) (SndL.c (s_fail) (SndL.c (s_iinc (by decide +kernel) (by decide)) (SndL.c (s_fail) (SndL.n))))))))))))))))
def kX12_beside_8 : List En := [(1, oFail), (0, oIinc 4 1 132), (1, oFail), (1, oFail), (0, oGoto 44), (1, oFail), (1, oFail), (0, oIinc 3 1 138), (1, oFail), (1, oFail), (0, oGoto 20), (1, oFail), (1, oFail), (0, oIload 2 142), (0, oRetI)]
set_option maxRecDepth 20000 in
theorem zX12_beside_8 : SndL mX12_beside 128 kX12_beside_8 := SndL.c (s_fail) (SndL.c (s_iinc (by decide +kernel) (by decide)) (SndL.c (s_fail) (SndL.c (s_fail) (SndL.c (s_goto (off := -88) (by decide +kernel) (by decide)) (SndL.c (s_fail) (SndL.c (s_fail) (SndL.c (s_iinc (by decide +kernel) (by decide)) (SndL.c (s_fail) (SndL.c (s_fail) (SndL.c (s_goto (off := -118) (by decide +kernel) (by decide)) (SndL.c (s_fail) (SndL.c (s_fail) (SndL.c (s_iload_n (k := 2) (by decide +kernel) rfl) (SndL.c (s_ret_i rfl (by decide +kernel)) (SndL.n)))))))))))))))
def kX12_beside : Cd := [kX12_beside_0, kX12_beside_1, kX12_beside_2, kX12_beside_3, kX12_beside_4, kX12_beside_5, kX12_beside_6, kX12_beside_7, kX12_beside_8]
theorem zX12_beside : SndC mX12_beside 0 kX12_beside := SndC.c zX12_beside_0 (by decide) (SndC.c zX12_beside_1 (by decide) (SndC.c zX12_beside_2 (by decide) (SndC.c zX12_beside_3 (by decide) (SndC.c zX12_beside_4 (by decide) (SndC.c zX12_beside_5 (by decide) (SndC.c zX12_beside_6 (by decide) (SndC.c zX12_beside_7 (by decide) (SndC.c zX12_beside_8 (by decide) (SndC.n)))))))))
theorem aX12_beside_0 : at_ kX12_beside 0 = (0, oIload 1 1) := rfl
theorem aX12_beside_1 : at_ kX12_beside 1 = (0, oIfLt 14 4) := rfl
theorem aX12_beside_4 : at_ kX12_beside 4 = (0, oIload 1 5) := rfl
theorem aX12_beside_5 : at_ kX12_beside 5 = (0, oPush (vI 1) 6) := rfl
theorem aX12_beside_6 : at_ kX12_beside 6 = (0, oRload 0 7) := rfl
theorem aX12_beside_7 : at_ kX12_beside 7 = (0, oGetf 14 4 0 10) := rfl
theorem aX12_beside_10 : at_ kX12_beside 10 = (0, oIshl 11) := rfl
theorem aX12_beside_11 : at_ kX12_beside 11 = (0, oIcLt 16 14) := rfl
theorem aX12_beside_14 : at_ kX12_beside 14 = (0, oPush (vI (-1)) 15) := rfl
theorem aX12_beside_15 : at_ kX12_beside 15 = (0, oRetI) := rfl
theorem aX12_beside_16 : at_ kX12_beside 16 = (0, oPush (vI 0) 17) := rfl
theorem aX12_beside_17 : at_ kX12_beside 17 = (0, oIstore 2 18) := rfl
theorem aX12_beside_18 : at_ kX12_beside 18 = (0, oPush (vI 0) 19) := rfl
theorem aX12_beside_19 : at_ kX12_beside 19 = (0, oIstore 3 20) := rfl
theorem aX12_beside_20 : at_ kX12_beside 20 = (1, oIload 3 21) := rfl
theorem aX12_beside_21 : at_ kX12_beside 21 = (0, oRload 0 22) := rfl
theorem aX12_beside_22 : at_ kX12_beside 22 = (0, oGetf 14 1 0 25) := rfl
theorem aX12_beside_25 : at_ kX12_beside 25 = (0, oIcGe 141 28) := rfl
theorem aX12_beside_28 : at_ kX12_beside 28 = (0, oRload 0 29) := rfl
theorem aX12_beside_29 : at_ kX12_beside 29 = (0, oIload 3 30) := rfl
theorem aX12_beside_30 : at_ kX12_beside 30 = (0, oRload 0 31) := rfl
theorem aX12_beside_31 : at_ kX12_beside 31 = (0, oGetf 14 0 0 34) := rfl
theorem aX12_beside_34 : at_ kX12_beside 34 = (0, oRload 0 35) := rfl
theorem aX12_beside_35 : at_ kX12_beside 35 = (0, oGetf 14 0 0 38) := rfl
theorem aX12_beside_38 : at_ kX12_beside 38 = (2, oInvV 14 mX12_readsAll 3 41) := rfl
theorem aX12_beside_41 : at_ kX12_beside 41 = (0, oPush (vI 0) 42) := rfl
theorem aX12_beside_42 : at_ kX12_beside 42 = (0, oIstore 4 44) := rfl
theorem aX12_beside_44 : at_ kX12_beside 44 = (1, oIload 4 46) := rfl
theorem aX12_beside_46 : at_ kX12_beside 46 = (0, oRload 0 47) := rfl
theorem aX12_beside_47 : at_ kX12_beside 47 = (0, oGetf 14 75 0 50) := rfl
theorem aX12_beside_50 : at_ kX12_beside 50 = (0, oIcGe 135 53) := rfl
theorem aX12_beside_53 : at_ kX12_beside 53 = (0, oPush (vI 0) 54) := rfl
theorem aX12_beside_54 : at_ kX12_beside 54 = (0, oIstore 5 56) := rfl
theorem aX12_beside_56 : at_ kX12_beside 56 = (0, oPush (vI 0) 57) := rfl
theorem aX12_beside_57 : at_ kX12_beside 57 = (0, oIstore 6 59) := rfl
theorem aX12_beside_59 : at_ kX12_beside 59 = (1, oIload 6 61) := rfl
theorem aX12_beside_61 : at_ kX12_beside 61 = (0, oRload 0 62) := rfl
theorem aX12_beside_62 : at_ kX12_beside 62 = (0, oGetf 14 4 0 65) := rfl
theorem aX12_beside_65 : at_ kX12_beside 65 = (0, oIcGe 121 68) := rfl
theorem aX12_beside_68 : at_ kX12_beside 68 = (0, oIload 5 70) := rfl
theorem aX12_beside_70 : at_ kX12_beside 70 = (0, oIfNe 121 73) := rfl
theorem aX12_beside_73 : at_ kX12_beside 73 = (0, oIload 1 74) := rfl
theorem aX12_beside_74 : at_ kX12_beside 74 = (0, oIload 6 76) := rfl
theorem aX12_beside_76 : at_ kX12_beside 76 = (0, oIshr 77) := rfl
theorem aX12_beside_77 : at_ kX12_beside 77 = (0, oPush (vI 1) 78) := rfl
theorem aX12_beside_78 : at_ kX12_beside 78 = (0, oIand 79) := rfl
theorem aX12_beside_79 : at_ kX12_beside 79 = (0, oPush (vI 1) 80) := rfl
theorem aX12_beside_80 : at_ kX12_beside 80 = (0, oIcNe 112 83) := rfl
theorem aX12_beside_83 : at_ kX12_beside 83 = (0, oRload 0 84) := rfl
theorem aX12_beside_84 : at_ kX12_beside 84 = (0, oIload 6 86) := rfl
theorem aX12_beside_86 : at_ kX12_beside 86 = (0, oIload 3 87) := rfl
theorem aX12_beside_87 : at_ kX12_beside 87 = (0, oRload 0 88) := rfl
theorem aX12_beside_88 : at_ kX12_beside 88 = (0, oGetf 14 73 2 91) := rfl
theorem aX12_beside_91 : at_ kX12_beside 91 = (0, oIload 4 93) := rfl
theorem aX12_beside_93 : at_ kX12_beside 93 = (0, oIald 94) := rfl
theorem aX12_beside_94 : at_ kX12_beside 94 = (0, oRload 0 95) := rfl
theorem aX12_beside_95 : at_ kX12_beside 95 = (0, oGetf 14 0 0 98) := rfl
theorem aX12_beside_98 : at_ kX12_beside 98 = (0, oRload 0 99) := rfl
theorem aX12_beside_99 : at_ kX12_beside 99 = (0, oGetf 14 0 0 102) := rfl
theorem aX12_beside_102 : at_ kX12_beside 102 = (2, oInvV 14 mX12_holds_ 5 105) := rfl
theorem aX12_beside_105 : at_ kX12_beside 105 = (0, oIfEq 112 108) := rfl
theorem aX12_beside_108 : at_ kX12_beside 108 = (0, oPush (vI 1) 109) := rfl
theorem aX12_beside_109 : at_ kX12_beside 109 = (0, oGoto 113) := rfl
theorem aX12_beside_112 : at_ kX12_beside 112 = (0, oPush (vI 0) 113) := rfl
theorem aX12_beside_113 : at_ kX12_beside 113 = (0, oIstore 5 115) := rfl
theorem aX12_beside_115 : at_ kX12_beside 115 = (0, oIinc 6 1 118) := rfl
theorem aX12_beside_118 : at_ kX12_beside 118 = (0, oGoto 59) := rfl
theorem aX12_beside_121 : at_ kX12_beside 121 = (0, oIload 5 123) := rfl
theorem aX12_beside_123 : at_ kX12_beside 123 = (0, oIfEq 129 126) := rfl
theorem aX12_beside_126 : at_ kX12_beside 126 = (0, oIinc 2 1 129) := rfl
theorem aX12_beside_129 : at_ kX12_beside 129 = (0, oIinc 4 1 132) := rfl
theorem aX12_beside_132 : at_ kX12_beside 132 = (0, oGoto 44) := rfl
theorem aX12_beside_135 : at_ kX12_beside 135 = (0, oIinc 3 1 138) := rfl
theorem aX12_beside_138 : at_ kX12_beside 138 = (0, oGoto 20) := rfl
theorem aX12_beside_141 : at_ kX12_beside 141 = (0, oIload 2 142) := rfl
theorem aX12_beside_142 : at_ kX12_beside 142 = (0, oRetI) := rfl
def kX12_stop_0 : List En := [(0, oIload 1 1), (0, oIfLt 18 4), (1, oFail), (1, oFail), (0, oIload 1 5), (0, oPush (vI 7) 7), (1, oFail), (0, oIcGt 18 10), (1, oFail), (1, oFail), (0, oRload 0 11), (0, oIload 2 12), (2, oInvV 14 mX12_isAdvert 1 15), (1, oFail), (1, oFail), (0, oIfNe 24 18)]
set_option maxRecDepth 20000 in
theorem zX12_stop_0 : SndL mX12_stop 0 kX12_stop_0 := SndL.c (s_iload_n (k := 1) (by decide +kernel) rfl) (SndL.c (s_if_lt (off := 17) (by decide +kernel) (by decide)) (SndL.c (s_fail) (SndL.c (s_fail) (SndL.c (s_iload_n (k := 1) (by decide +kernel) rfl) (SndL.c (s_bipush (by decide +kernel) (in32_d (by decide)) (by decide +kernel)) (SndL.c (s_fail) (SndL.c (s_ic_gt (off := 11) (by decide +kernel) (by decide)) (SndL.c (s_fail) (SndL.c (s_fail) (SndL.c (s_aload_n (k := 0) (by decide +kernel) rfl) (SndL.c (s_iload_n (k := 2) (by decide +kernel) rfl) (SndL.c (s_invV (r := (RX12, TX12, 90)) (ci := 13) okX12_isAdvert rfl (by decide) rfl rfl w_6_188 w_6_190 v_32 (by decide +kernel)) (SndL.c (s_fail) (SndL.c (s_fail) (SndL.c (s_if_ne (off := 9) (by decide +kernel) (by decide)) (SndL.n))))))))))))))))
def kX12_stop_1 : List En := [(1, oFail), (1, oFail), (0, oRload 0 19), (0, oPush (vI (-1)) 20), (2, oInvV 14 mX12_no 1 23), (1, oFail), (1, oFail), (0, oRetI), (0, oPush (vI 24) 26), (1, oFail), (0, oIload 1 27), (0, oImul 28), (0, oIload 2 29), (0, oIadd 30), (0, oIstore 4 32), (1, oFail)]
set_option maxRecDepth 20000 in
theorem zX12_stop_1 : SndL mX12_stop 16 kX12_stop_1 := SndL.c (s_fail) (SndL.c (s_fail) (SndL.c (s_aload_n (k := 0) (by decide +kernel) rfl) (SndL.c (s_iconst (by decide +kernel) (in32_d (by decide))) (SndL.c (s_invV (r := (RX12, TX12, 90)) (ci := 13) okX12_no rfl (by decide) rfl rfl w_6_138 w_6_140 v_29 (by decide +kernel)) (SndL.c (s_fail) (SndL.c (s_fail) (SndL.c (s_ret_i rfl (by decide +kernel)) (SndL.c (s_bipush (by decide +kernel) (in32_d (by decide)) (by decide +kernel)) (SndL.c (s_fail) (SndL.c (s_iload_n (k := 1) (by decide +kernel) rfl) (SndL.c (s_imul (by decide +kernel)) (SndL.c (s_iload_n (k := 2) (by decide +kernel) rfl) (SndL.c (s_iadd (by decide +kernel)) (SndL.c (s_istore (by decide +kernel) (by decide)) (SndL.c (s_fail) (SndL.n))))))))))))))))
def kX12_stop_2 : List En := [(0, oIload 3 33), (0, oIfEq 61 36), (1, oFail), (1, oFail), (0, oRload 0 37), (0, oGetf 14 30 2 40), (1, oFail), (1, oFail), (0, oIload 4 42), (1, oFail), (0, oIald 43), (0, oPush (vI (-1)) 44), (0, oIcEq 72 47), (1, oFail), (1, oFail), (0, oRload 0 48)]
set_option maxRecDepth 20000 in
theorem zX12_stop_2 : SndL mX12_stop 32 kX12_stop_2 := SndL.c (s_iload_n (k := 3) (by decide +kernel) rfl) (SndL.c (s_if_eq (off := 28) (by decide +kernel) (by decide)) (SndL.c (s_fail) (SndL.c (s_fail) (SndL.c (s_aload_n (k := 0) (by decide +kernel) rfl) (SndL.c (s_getf (k := 30) clok13 (by decide) rfl (by decide) rfl w_5_132 (Or.inl rfl) (by decide +kernel)) (SndL.c (s_fail) (SndL.c (s_fail) (SndL.c (s_iload (by decide +kernel)) (SndL.c (s_fail) (SndL.c (s_iald (by decide +kernel)) (SndL.c (s_iconst (by decide +kernel) (in32_d (by decide))) (SndL.c (s_ic_eq (off := 28) (by decide +kernel) (by decide)) (SndL.c (s_fail) (SndL.c (s_fail) (SndL.c (s_aload_n (k := 0) (by decide +kernel) rfl) (SndL.n))))))))))))))))
def kX12_stop_3 : List En := [(0, oGetf 14 31 2 51), (1, oFail), (1, oFail), (0, oIload 4 53), (1, oFail), (0, oIald 54), (0, oPush (vI (-1)) 55), (0, oIcEq 79 58), (1, oFail), (1, oFail), (0, oGoto 72), (1, oFail), (1, oFail), (0, oRload 0 62), (0, oGetf 14 30 2 65), (1, oFail)]
set_option maxRecDepth 20000 in
theorem zX12_stop_3 : SndL mX12_stop 48 kX12_stop_3 := SndL.c (s_getf (k := 31) clok13 (by decide) rfl (by decide) rfl w_5_133 (Or.inl rfl) (by decide +kernel)) (SndL.c (s_fail) (SndL.c (s_fail) (SndL.c (s_iload (by decide +kernel)) (SndL.c (s_fail) (SndL.c (s_iald (by decide +kernel)) (SndL.c (s_iconst (by decide +kernel) (in32_d (by decide))) (SndL.c (s_ic_eq (off := 24) (by decide +kernel) (by decide)) (SndL.c (s_fail) (SndL.c (s_fail) (SndL.c (s_goto (off := 14) (by decide +kernel) (by decide)) (SndL.c (s_fail) (SndL.c (s_fail) (SndL.c (s_aload_n (k := 0) (by decide +kernel) rfl) (SndL.c (s_getf (k := 30) clok13 (by decide) rfl (by decide) rfl w_5_132 (Or.inl rfl) (by decide +kernel)) (SndL.c (s_fail) (SndL.n))))))))))))))))
def kX12_stop_4 : List En := [(1, oFail), (0, oIload 4 67), (1, oFail), (0, oIald 68), (0, oPush (vI (-1)) 69), (0, oIcEq 79 72), (1, oFail), (1, oFail), (0, oRload 0 73), (0, oPush (vI (-6)) 75), (1, oFail), (2, oInvV 14 mX12_no 1 78), (1, oFail), (1, oFail), (0, oRetI), (0, oIload 3 80)]
set_option maxRecDepth 20000 in
theorem zX12_stop_4 : SndL mX12_stop 64 kX12_stop_4 := SndL.c (s_fail) (SndL.c (s_iload (by decide +kernel)) (SndL.c (s_fail) (SndL.c (s_iald (by decide +kernel)) (SndL.c (s_iconst (by decide +kernel) (in32_d (by decide))) (SndL.c (s_ic_eq (off := 10) (by decide +kernel) (by decide)) (SndL.c (s_fail) (SndL.c (s_fail) (SndL.c (s_aload_n (k := 0) (by decide +kernel) rfl) (SndL.c (s_bipush (by decide +kernel) (in32_d (by decide)) (by decide +kernel)) (SndL.c (s_fail) (SndL.c (s_invV (r := (RX12, TX12, 90)) (ci := 13) okX12_no rfl (by decide) rfl rfl w_6_138 w_6_140 v_29 (by decide +kernel)) (SndL.c (s_fail) (SndL.c (s_fail) (SndL.c (s_ret_i rfl (by decide +kernel)) (SndL.c (s_iload_n (k := 3) (by decide +kernel) rfl) (SndL.n))))))))))))))))
def kX12_stop_5 : List En := [(0, oIfEq 97 83), (1, oFail), (1, oFail), (0, oRload 0 84), (0, oGetf 14 31 2 87), (1, oFail), (1, oFail), (0, oIload 4 89), (1, oFail), (0, oRload 0 90), (0, oGetf 14 0 0 93), (1, oFail), (1, oFail), (0, oIast 94), (0, oGoto 108), (1, oFail)]
set_option maxRecDepth 20000 in
theorem zX12_stop_5 : SndL mX12_stop 80 kX12_stop_5 := SndL.c (s_if_eq (off := 17) (by decide +kernel) (by decide)) (SndL.c (s_fail) (SndL.c (s_fail) (SndL.c (s_aload_n (k := 0) (by decide +kernel) rfl) (SndL.c (s_getf (k := 31) clok13 (by decide) rfl (by decide) rfl w_5_133 (Or.inl rfl) (by decide +kernel)) (SndL.c (s_fail) (SndL.c (s_fail) (SndL.c (s_iload (by decide +kernel)) (SndL.c (s_fail) (SndL.c (s_aload_n (k := 0) (by decide +kernel) rfl) (SndL.c (s_getf (k := 0) clok13 (by decide) rfl (by decide) rfl w_5_102 (Or.inl rfl) (by decide +kernel)) (SndL.c (s_fail) (SndL.c (s_fail) (SndL.c (s_iast (by decide +kernel)) (SndL.c (s_goto (off := 14) (by decide +kernel) (by decide)) (SndL.c (s_fail) (SndL.n))))))))))))))))
def kX12_stop_6 : List En := [(1, oFail), (0, oRload 0 98), (0, oGetf 14 30 2 101), (1, oFail), (1, oFail), (0, oIload 4 103), (1, oFail), (0, oRload 0 104), (0, oGetf 14 0 0 107), (1, oFail), (1, oFail), (0, oIast 108), (0, oIload 3 109), (0, oIfEq 116 112), (1, oFail), (1, oFail)]
set_option maxRecDepth 20000 in
theorem zX12_stop_6 : SndL mX12_stop 96 kX12_stop_6 := SndL.c (s_fail) (SndL.c (s_aload_n (k := 0) (by decide +kernel) rfl) (SndL.c (s_getf (k := 30) clok13 (by decide) rfl (by decide) rfl w_5_132 (Or.inl rfl) (by decide +kernel)) (SndL.c (s_fail) (SndL.c (s_fail) (SndL.c (s_iload (by decide +kernel)) (SndL.c (s_fail) (SndL.c (s_aload_n (k := 0) (by decide +kernel) rfl) (SndL.c (s_getf (k := 0) clok13 (by decide) rfl (by decide) rfl w_5_102 (Or.inl rfl) (by decide +kernel)) (SndL.c (s_fail) (SndL.c (s_fail) (SndL.c (s_iast (by decide +kernel)) (SndL.c (s_iload_n (k := 3) (by decide +kernel) rfl) (SndL.c (s_if_eq (off := 7) (by decide +kernel) (by decide)) (SndL.c (s_fail) (SndL.c (s_fail) (SndL.n))))))))))))))))
def kX12_stop_7 : List En := [(0, oPush (vI 2) 113), (0, oGoto 117), (1, oFail), (1, oFail), (0, oPush (vI 1) 117), (0, oRetI)]
set_option maxRecDepth 20000 in
theorem zX12_stop_7 : SndL mX12_stop 112 kX12_stop_7 := SndL.c (s_iconst (by decide +kernel) (in32_d (by decide))) (SndL.c (s_goto (off := 4) (by decide +kernel) (by decide)) (SndL.c (s_fail) (SndL.c (s_fail) (SndL.c (s_iconst (by decide +kernel) (in32_d (by decide))) (SndL.c (s_ret_i rfl (by decide +kernel)) (SndL.n))))))
def kX12_stop : Cd := [kX12_stop_0, kX12_stop_1, kX12_stop_2, kX12_stop_3, kX12_stop_4, kX12_stop_5, kX12_stop_6, kX12_stop_7]
theorem zX12_stop : SndC mX12_stop 0 kX12_stop := SndC.c zX12_stop_0 (by decide) (SndC.c zX12_stop_1 (by decide) (SndC.c zX12_stop_2 (by decide) (SndC.c zX12_stop_3 (by decide) (SndC.c zX12_stop_4 (by decide) (SndC.c zX12_stop_5 (by decide) (SndC.c zX12_stop_6 (by decide) (SndC.c zX12_stop_7 (by decide) (SndC.n))))))))
theorem aX12_stop_0 : at_ kX12_stop 0 = (0, oIload 1 1) := rfl
theorem aX12_stop_1 : at_ kX12_stop 1 = (0, oIfLt 18 4) := rfl
theorem aX12_stop_4 : at_ kX12_stop 4 = (0, oIload 1 5) := rfl
theorem aX12_stop_5 : at_ kX12_stop 5 = (0, oPush (vI 7) 7) := rfl
theorem aX12_stop_7 : at_ kX12_stop 7 = (0, oIcGt 18 10) := rfl
theorem aX12_stop_10 : at_ kX12_stop 10 = (0, oRload 0 11) := rfl
theorem aX12_stop_11 : at_ kX12_stop 11 = (0, oIload 2 12) := rfl
theorem aX12_stop_12 : at_ kX12_stop 12 = (2, oInvV 14 mX12_isAdvert 1 15) := rfl
theorem aX12_stop_15 : at_ kX12_stop 15 = (0, oIfNe 24 18) := rfl
theorem aX12_stop_18 : at_ kX12_stop 18 = (0, oRload 0 19) := rfl
theorem aX12_stop_19 : at_ kX12_stop 19 = (0, oPush (vI (-1)) 20) := rfl
theorem aX12_stop_20 : at_ kX12_stop 20 = (2, oInvV 14 mX12_no 1 23) := rfl
theorem aX12_stop_23 : at_ kX12_stop 23 = (0, oRetI) := rfl
theorem aX12_stop_24 : at_ kX12_stop 24 = (0, oPush (vI 24) 26) := rfl
theorem aX12_stop_26 : at_ kX12_stop 26 = (0, oIload 1 27) := rfl
theorem aX12_stop_27 : at_ kX12_stop 27 = (0, oImul 28) := rfl
theorem aX12_stop_28 : at_ kX12_stop 28 = (0, oIload 2 29) := rfl
theorem aX12_stop_29 : at_ kX12_stop 29 = (0, oIadd 30) := rfl
theorem aX12_stop_30 : at_ kX12_stop 30 = (0, oIstore 4 32) := rfl
theorem aX12_stop_32 : at_ kX12_stop 32 = (0, oIload 3 33) := rfl
theorem aX12_stop_33 : at_ kX12_stop 33 = (0, oIfEq 61 36) := rfl
theorem aX12_stop_36 : at_ kX12_stop 36 = (0, oRload 0 37) := rfl
theorem aX12_stop_37 : at_ kX12_stop 37 = (0, oGetf 14 30 2 40) := rfl
theorem aX12_stop_40 : at_ kX12_stop 40 = (0, oIload 4 42) := rfl
theorem aX12_stop_42 : at_ kX12_stop 42 = (0, oIald 43) := rfl
theorem aX12_stop_43 : at_ kX12_stop 43 = (0, oPush (vI (-1)) 44) := rfl
theorem aX12_stop_44 : at_ kX12_stop 44 = (0, oIcEq 72 47) := rfl
theorem aX12_stop_47 : at_ kX12_stop 47 = (0, oRload 0 48) := rfl
theorem aX12_stop_48 : at_ kX12_stop 48 = (0, oGetf 14 31 2 51) := rfl
theorem aX12_stop_51 : at_ kX12_stop 51 = (0, oIload 4 53) := rfl
theorem aX12_stop_53 : at_ kX12_stop 53 = (0, oIald 54) := rfl
theorem aX12_stop_54 : at_ kX12_stop 54 = (0, oPush (vI (-1)) 55) := rfl
theorem aX12_stop_55 : at_ kX12_stop 55 = (0, oIcEq 79 58) := rfl
theorem aX12_stop_58 : at_ kX12_stop 58 = (0, oGoto 72) := rfl
theorem aX12_stop_61 : at_ kX12_stop 61 = (0, oRload 0 62) := rfl
theorem aX12_stop_62 : at_ kX12_stop 62 = (0, oGetf 14 30 2 65) := rfl
theorem aX12_stop_65 : at_ kX12_stop 65 = (0, oIload 4 67) := rfl
theorem aX12_stop_67 : at_ kX12_stop 67 = (0, oIald 68) := rfl
theorem aX12_stop_68 : at_ kX12_stop 68 = (0, oPush (vI (-1)) 69) := rfl
theorem aX12_stop_69 : at_ kX12_stop 69 = (0, oIcEq 79 72) := rfl
theorem aX12_stop_72 : at_ kX12_stop 72 = (0, oRload 0 73) := rfl
theorem aX12_stop_73 : at_ kX12_stop 73 = (0, oPush (vI (-6)) 75) := rfl
theorem aX12_stop_75 : at_ kX12_stop 75 = (2, oInvV 14 mX12_no 1 78) := rfl
theorem aX12_stop_78 : at_ kX12_stop 78 = (0, oRetI) := rfl
theorem aX12_stop_79 : at_ kX12_stop 79 = (0, oIload 3 80) := rfl
theorem aX12_stop_80 : at_ kX12_stop 80 = (0, oIfEq 97 83) := rfl
theorem aX12_stop_83 : at_ kX12_stop 83 = (0, oRload 0 84) := rfl
theorem aX12_stop_84 : at_ kX12_stop 84 = (0, oGetf 14 31 2 87) := rfl
theorem aX12_stop_87 : at_ kX12_stop 87 = (0, oIload 4 89) := rfl
theorem aX12_stop_89 : at_ kX12_stop 89 = (0, oRload 0 90) := rfl
theorem aX12_stop_90 : at_ kX12_stop 90 = (0, oGetf 14 0 0 93) := rfl
theorem aX12_stop_93 : at_ kX12_stop 93 = (0, oIast 94) := rfl
theorem aX12_stop_94 : at_ kX12_stop 94 = (0, oGoto 108) := rfl
theorem aX12_stop_97 : at_ kX12_stop 97 = (0, oRload 0 98) := rfl
theorem aX12_stop_98 : at_ kX12_stop 98 = (0, oGetf 14 30 2 101) := rfl
theorem aX12_stop_101 : at_ kX12_stop 101 = (0, oIload 4 103) := rfl
theorem aX12_stop_103 : at_ kX12_stop 103 = (0, oRload 0 104) := rfl
theorem aX12_stop_104 : at_ kX12_stop 104 = (0, oGetf 14 0 0 107) := rfl
theorem aX12_stop_107 : at_ kX12_stop 107 = (0, oIast 108) := rfl
theorem aX12_stop_108 : at_ kX12_stop 108 = (0, oIload 3 109) := rfl
theorem aX12_stop_109 : at_ kX12_stop 109 = (0, oIfEq 116 112) := rfl
theorem aX12_stop_112 : at_ kX12_stop 112 = (0, oPush (vI 2) 113) := rfl
theorem aX12_stop_113 : at_ kX12_stop 113 = (0, oGoto 117) := rfl
theorem aX12_stop_116 : at_ kX12_stop 116 = (0, oPush (vI 1) 117) := rfl
theorem aX12_stop_117 : at_ kX12_stop 117 = (0, oRetI) := rfl
def kX12_stopped_0 : List En := [(0, oIload 1 1), (0, oIfLt 18 4), (1, oFail), (1, oFail), (0, oIload 1 5), (0, oPush (vI 7) 7), (1, oFail), (0, oIcGt 18 10), (1, oFail), (1, oFail), (0, oRload 0 11), (0, oIload 2 12), (2, oInvV 14 mX12_isAdvert 1 15), (1, oFail), (1, oFail), (0, oIfNe 22 18)]
set_option maxRecDepth 20000 in
theorem zX12_stopped_0 : SndL mX12_stopped 0 kX12_stopped_0 := SndL.c (s_iload_n (k := 1) (by decide +kernel) rfl) (SndL.c (s_if_lt (off := 17) (by decide +kernel) (by decide)) (SndL.c (s_fail) (SndL.c (s_fail) (SndL.c (s_iload_n (k := 1) (by decide +kernel) rfl) (SndL.c (s_bipush (by decide +kernel) (in32_d (by decide)) (by decide +kernel)) (SndL.c (s_fail) (SndL.c (s_ic_gt (off := 11) (by decide +kernel) (by decide)) (SndL.c (s_fail) (SndL.c (s_fail) (SndL.c (s_aload_n (k := 0) (by decide +kernel) rfl) (SndL.c (s_iload_n (k := 2) (by decide +kernel) rfl) (SndL.c (s_invV (r := (RX12, TX12, 90)) (ci := 13) okX12_isAdvert rfl (by decide) rfl rfl w_6_188 w_6_190 v_32 (by decide +kernel)) (SndL.c (s_fail) (SndL.c (s_fail) (SndL.c (s_if_ne (off := 7) (by decide +kernel) (by decide)) (SndL.n))))))))))))))))
def kX12_stopped_1 : List En := [(1, oFail), (1, oFail), (0, oPush (vI (-1)) 19), (0, oGoto 51), (1, oFail), (1, oFail), (0, oIload 3 23), (0, oIfEq 40 26), (1, oFail), (1, oFail), (0, oRload 0 27), (0, oGetf 14 31 2 30), (1, oFail), (1, oFail), (0, oPush (vI 24) 32), (1, oFail)]
set_option maxRecDepth 20000 in
theorem zX12_stopped_1 : SndL mX12_stopped 16 kX12_stopped_1 := SndL.c (s_fail) (SndL.c (s_fail) (SndL.c (s_iconst (by decide +kernel) (in32_d (by decide))) (SndL.c (s_goto (off := 32) (by decide +kernel) (by decide)) (SndL.c (s_fail) (SndL.c (s_fail) (SndL.c (s_iload_n (k := 3) (by decide +kernel) rfl) (SndL.c (s_if_eq (off := 17) (by decide +kernel) (by decide)) (SndL.c (s_fail) (SndL.c (s_fail) (SndL.c (s_aload_n (k := 0) (by decide +kernel) rfl) (SndL.c (s_getf (k := 31) clok13 (by decide) rfl (by decide) rfl w_5_133 (Or.inl rfl) (by decide +kernel)) (SndL.c (s_fail) (SndL.c (s_fail) (SndL.c (s_bipush (by decide +kernel) (in32_d (by decide)) (by decide +kernel)) (SndL.c (s_fail) (SndL.n))))))))))))))))
def kX12_stopped_2 : List En := [(0, oIload 1 33), (0, oImul 34), (0, oIload 2 35), (0, oIadd 36), (0, oIald 37), (0, oGoto 51), (1, oFail), (1, oFail), (0, oRload 0 41), (0, oGetf 14 30 2 44), (1, oFail), (1, oFail), (0, oPush (vI 24) 46), (1, oFail), (0, oIload 1 47), (0, oImul 48)]
set_option maxRecDepth 20000 in
theorem zX12_stopped_2 : SndL mX12_stopped 32 kX12_stopped_2 := SndL.c (s_iload_n (k := 1) (by decide +kernel) rfl) (SndL.c (s_imul (by decide +kernel)) (SndL.c (s_iload_n (k := 2) (by decide +kernel) rfl) (SndL.c (s_iadd (by decide +kernel)) (SndL.c (s_iald (by decide +kernel)) (SndL.c (s_goto (off := 14) (by decide +kernel) (by decide)) (SndL.c (s_fail) (SndL.c (s_fail) (SndL.c (s_aload_n (k := 0) (by decide +kernel) rfl) (SndL.c (s_getf (k := 30) clok13 (by decide) rfl (by decide) rfl w_5_132 (Or.inl rfl) (by decide +kernel)) (SndL.c (s_fail) (SndL.c (s_fail) (SndL.c (s_bipush (by decide +kernel) (in32_d (by decide)) (by decide +kernel)) (SndL.c (s_fail) (SndL.c (s_iload_n (k := 1) (by decide +kernel) rfl) (SndL.c (s_imul (by decide +kernel)) (SndL.n))))))))))))))))
def kX12_stopped_3 : List En := [(0, oIload 2 49), (0, oIadd 50), (0, oIald 51), (0, oRetI)]
set_option maxRecDepth 20000 in
theorem zX12_stopped_3 : SndL mX12_stopped 48 kX12_stopped_3 := SndL.c (s_iload_n (k := 2) (by decide +kernel) rfl) (SndL.c (s_iadd (by decide +kernel)) (SndL.c (s_iald (by decide +kernel)) (SndL.c (s_ret_i rfl (by decide +kernel)) (SndL.n))))
def kX12_stopped : Cd := [kX12_stopped_0, kX12_stopped_1, kX12_stopped_2, kX12_stopped_3]
theorem zX12_stopped : SndC mX12_stopped 0 kX12_stopped := SndC.c zX12_stopped_0 (by decide) (SndC.c zX12_stopped_1 (by decide) (SndC.c zX12_stopped_2 (by decide) (SndC.c zX12_stopped_3 (by decide) (SndC.n))))
theorem aX12_stopped_0 : at_ kX12_stopped 0 = (0, oIload 1 1) := rfl
theorem aX12_stopped_1 : at_ kX12_stopped 1 = (0, oIfLt 18 4) := rfl
theorem aX12_stopped_4 : at_ kX12_stopped 4 = (0, oIload 1 5) := rfl
theorem aX12_stopped_5 : at_ kX12_stopped 5 = (0, oPush (vI 7) 7) := rfl
theorem aX12_stopped_7 : at_ kX12_stopped 7 = (0, oIcGt 18 10) := rfl
theorem aX12_stopped_10 : at_ kX12_stopped 10 = (0, oRload 0 11) := rfl
theorem aX12_stopped_11 : at_ kX12_stopped 11 = (0, oIload 2 12) := rfl
theorem aX12_stopped_12 : at_ kX12_stopped 12 = (2, oInvV 14 mX12_isAdvert 1 15) := rfl
theorem aX12_stopped_15 : at_ kX12_stopped 15 = (0, oIfNe 22 18) := rfl
theorem aX12_stopped_18 : at_ kX12_stopped 18 = (0, oPush (vI (-1)) 19) := rfl
theorem aX12_stopped_19 : at_ kX12_stopped 19 = (0, oGoto 51) := rfl
theorem aX12_stopped_22 : at_ kX12_stopped 22 = (0, oIload 3 23) := rfl
theorem aX12_stopped_23 : at_ kX12_stopped 23 = (0, oIfEq 40 26) := rfl
theorem aX12_stopped_26 : at_ kX12_stopped 26 = (0, oRload 0 27) := rfl
theorem aX12_stopped_27 : at_ kX12_stopped 27 = (0, oGetf 14 31 2 30) := rfl
theorem aX12_stopped_30 : at_ kX12_stopped 30 = (0, oPush (vI 24) 32) := rfl
theorem aX12_stopped_32 : at_ kX12_stopped 32 = (0, oIload 1 33) := rfl
theorem aX12_stopped_33 : at_ kX12_stopped 33 = (0, oImul 34) := rfl
theorem aX12_stopped_34 : at_ kX12_stopped 34 = (0, oIload 2 35) := rfl
theorem aX12_stopped_35 : at_ kX12_stopped 35 = (0, oIadd 36) := rfl
theorem aX12_stopped_36 : at_ kX12_stopped 36 = (0, oIald 37) := rfl
theorem aX12_stopped_37 : at_ kX12_stopped 37 = (0, oGoto 51) := rfl
theorem aX12_stopped_40 : at_ kX12_stopped 40 = (0, oRload 0 41) := rfl
theorem aX12_stopped_41 : at_ kX12_stopped 41 = (0, oGetf 14 30 2 44) := rfl
theorem aX12_stopped_44 : at_ kX12_stopped 44 = (0, oPush (vI 24) 46) := rfl
theorem aX12_stopped_46 : at_ kX12_stopped 46 = (0, oIload 1 47) := rfl
theorem aX12_stopped_47 : at_ kX12_stopped 47 = (0, oImul 48) := rfl
theorem aX12_stopped_48 : at_ kX12_stopped 48 = (0, oIload 2 49) := rfl
theorem aX12_stopped_49 : at_ kX12_stopped 49 = (0, oIadd 50) := rfl
theorem aX12_stopped_50 : at_ kX12_stopped 50 = (0, oIald 51) := rfl
theorem aX12_stopped_51 : at_ kX12_stopped 51 = (0, oRetI) := rfl
def kX12_status_0 : List En := [(0, oIload 1 1), (0, oPush (vI 10) 3), (1, oFail), (0, oIcLe 22 6), (1, oFail), (1, oFail), (0, oIload 1 7), (0, oPush (vI 18) 9), (1, oFail), (0, oIcGe 22 12), (1, oFail), (1, oFail), (0, oRload 0 13), (0, oGetf 14 70 2 16), (1, oFail), (1, oFail)]
set_option maxRecDepth 20000 in
theorem zX12_status_0 : SndL mX12_status 0 kX12_status_0 := SndL.c (s_iload_n (k := 1) (by decide +kernel) rfl) (SndL.c (s_bipush (by decide +kernel) (in32_d (by decide)) (by decide +kernel)) (SndL.c (s_fail) (SndL.c (s_ic_le (off := 19) (by decide +kernel) (by decide)) (SndL.c (s_fail) (SndL.c (s_fail) (SndL.c (s_iload_n (k := 1) (by decide +kernel) rfl) (SndL.c (s_bipush (by decide +kernel) (in32_d (by decide)) (by decide +kernel)) (SndL.c (s_fail) (SndL.c (s_ic_ge (off := 13) (by decide +kernel) (by decide)) (SndL.c (s_fail) (SndL.c (s_fail) (SndL.c (s_aload_n (k := 0) (by decide +kernel) rfl) (SndL.c (s_getf (k := 70) clok13 (by decide) rfl (by decide) rfl w_5_172 (Or.inl rfl) (by decide +kernel)) (SndL.c (s_fail) (SndL.c (s_fail) (SndL.n))))))))))))))))
def kX12_status_1 : List En := [(0, oIload 1 17), (0, oPush (vI 10) 19), (1, oFail), (0, oIsub 20), (0, oIald 21), (0, oRetI), (0, oPush (vI 0) 23), (0, oIstore 2 24), (0, oIload 1 25), (0, oSwitch 0 10 [84, 89, 94, 99, 104, 109, 114, 144, 183, 214, 245] 250), (1, oFail), (1, oFail), (1, oFail), (1, oFail), (1, oFail), (1, oFail)]
set_option maxRecDepth 20000 in
theorem zX12_status_1 : SndL mX12_status 16 kX12_status_1 := SndL.c (s_iload_n (k := 1) (by decide +kernel) rfl) (SndL.c (s_bipush (by decide +kernel) (in32_d (by decide)) (by decide +kernel)) (SndL.c (s_fail) (SndL.c (s_isub (by decide +kernel)) (SndL.c (s_iald (by decide +kernel)) (SndL.c (s_ret_i rfl (by decide +kernel)) (SndL.c (s_iconst (by decide +kernel) (in32_d (by decide))) (SndL.c (s_istore_n (k := 2) (by decide +kernel) rfl (by decide)) (SndL.c (s_iload_n (k := 1) (by decide +kernel) rfl) (SndL.c (s_switch2 (dflt := 225) (lo := 0) (hi := 10) (len := 59) (offs := #[59, 64, 69, 74, 79, 84, 89, 119, 158, 189, 220]) (by decide +kernel) (by decide) (by decide +kernel) (by decide +kernel)) (SndL.c (s_fail) (SndL.c (s_fail) (SndL.c (s_fail) (SndL.c (s_fail) (SndL.c (s_fail) (SndL.c (s_fail) (SndL.n))))))))))))))))
def kX12_status_2 : List En := [(1, oFail), (1, oFail), (1, oFail), (1, oFail), (1, oFail), (1, oFail), (1, oFail), (1, oFail), (1, oFail), (1, oFail), (1, oFail), (1, oFail), (1, oFail), (1, oFail), (1, oFail), (1, oFail)]
set_option maxRecDepth 20000 in
theorem zX12_status_2 : SndL mX12_status 32 kX12_status_2 := SndL.c (s_fail) (SndL.c (s_fail) (SndL.c (s_fail) (SndL.c (s_fail) (SndL.c (s_fail) (SndL.c (s_fail) (SndL.c (s_fail) (SndL.c (s_fail) (SndL.c (s_fail) (SndL.c (s_fail) (SndL.c (s_fail) (SndL.c (s_fail) (SndL.c (s_fail) (SndL.c (s_fail) (SndL.c (s_fail) (SndL.c (s_fail) (SndL.n))))))))))))))))
def kX12_status_3 : List En := [(1, oFail), (1, oFail), (1, oFail), (1, oFail), (1, oFail), (1, oFail), (1, oFail), (1, oFail), (1, oFail), (1, oFail), (1, oFail), (1, oFail), (1, oFail), (1, oFail), (1, oFail), (1, oFail)]
set_option maxRecDepth 20000 in
theorem zX12_status_3 : SndL mX12_status 48 kX12_status_3 := SndL.c (s_fail) (SndL.c (s_fail) (SndL.c (s_fail) (SndL.c (s_fail) (SndL.c (s_fail) (SndL.c (s_fail) (SndL.c (s_fail) (SndL.c (s_fail) (SndL.c (s_fail) (SndL.c (s_fail) (SndL.c (s_fail) (SndL.c (s_fail) (SndL.c (s_fail) (SndL.c (s_fail) (SndL.c (s_fail) (SndL.c (s_fail) (SndL.n))))))))))))))))
def kX12_status_4 : List En := [(1, oFail), (1, oFail), (1, oFail), (1, oFail), (1, oFail), (1, oFail), (1, oFail), (1, oFail), (1, oFail), (1, oFail), (1, oFail), (1, oFail), (1, oFail), (1, oFail), (1, oFail), (1, oFail)]
set_option maxRecDepth 20000 in
theorem zX12_status_4 : SndL mX12_status 64 kX12_status_4 := SndL.c (s_fail) (SndL.c (s_fail) (SndL.c (s_fail) (SndL.c (s_fail) (SndL.c (s_fail) (SndL.c (s_fail) (SndL.c (s_fail) (SndL.c (s_fail) (SndL.c (s_fail) (SndL.c (s_fail) (SndL.c (s_fail) (SndL.c (s_fail) (SndL.c (s_fail) (SndL.c (s_fail) (SndL.c (s_fail) (SndL.c (s_fail) (SndL.n))))))))))))))))
def kX12_status_5 : List En := [(1, oFail), (1, oFail), (1, oFail), (1, oFail), (0, oRload 0 85), (0, oGetf 14 1 0 88), (1, oFail), (1, oFail), (0, oRetI), (0, oRload 0 90), (0, oGetf 14 2 0 93), (1, oFail), (1, oFail), (0, oRetI), (0, oRload 0 95), (0, oGetf 14 3 0 98)]
set_option maxRecDepth 20000 in
theorem zX12_status_5 : SndL mX12_status 80 kX12_status_5 := SndL.c (s_fail) (SndL.c (s_fail) (SndL.c (s_fail) (SndL.c (s_fail) (SndL.c (s_aload_n (k := 0) (by decide +kernel) rfl) (SndL.c (s_getf (k := 1) clok13 (by decide) rfl (by decide) rfl w_5_103 (Or.inl rfl) (by decide +kernel)) (SndL.c (s_fail) (SndL.c (s_fail) (SndL.c (s_ret_i rfl (by decide +kernel)) (SndL.c (s_aload_n (k := 0) (by decide +kernel) rfl) (SndL.c (s_getf (k := 2) clok13 (by decide) rfl (by decide) rfl w_5_104 (Or.inl rfl) (by decide +kernel)) (SndL.c (s_fail) (SndL.c (s_fail) (SndL.c (s_ret_i rfl (by decide +kernel)) (SndL.c (s_aload_n (k := 0) (by decide +kernel) rfl) (SndL.c (s_getf (k := 3) clok13 (by decide) rfl (by decide) rfl w_5_105 (Or.inl rfl) (by decide +kernel)) (SndL.n))))))))))))))))
def kX12_status_6 : List En := [(1, oFail), (1, oFail), (0, oRetI), (0, oRload 0 100), (0, oGetf 14 4 0 103), (1, oFail), (1, oFail), (0, oRetI), (0, oRload 0 105), (0, oGetf 14 5 0 108), (1, oFail), (1, oFail), (0, oRetI), (0, oRload 0 110), (0, oGetf 14 6 0 113), (1, oFail)]
set_option maxRecDepth 20000 in
theorem zX12_status_6 : SndL mX12_status 96 kX12_status_6 := SndL.c (s_fail) (SndL.c (s_fail) (SndL.c (s_ret_i rfl (by decide +kernel)) (SndL.c (s_aload_n (k := 0) (by decide +kernel) rfl) (SndL.c (s_getf (k := 4) clok13 (by decide) rfl (by decide) rfl w_5_106 (Or.inl rfl) (by decide +kernel)) (SndL.c (s_fail) (SndL.c (s_fail) (SndL.c (s_ret_i rfl (by decide +kernel)) (SndL.c (s_aload_n (k := 0) (by decide +kernel) rfl) (SndL.c (s_getf (k := 5) clok13 (by decide) rfl (by decide) rfl w_5_107 (Or.inl rfl) (by decide +kernel)) (SndL.c (s_fail) (SndL.c (s_fail) (SndL.c (s_ret_i rfl (by decide +kernel)) (SndL.c (s_aload_n (k := 0) (by decide +kernel) rfl) (SndL.c (s_getf (k := 6) clok13 (by decide) rfl (by decide) rfl w_5_108 (Or.inl rfl) (by decide +kernel)) (SndL.c (s_fail) (SndL.n))))))))))))))))
def kX12_status_7 : List En := [(1, oFail), (0, oRetI), (0, oPush (vI 0) 115), (0, oIstore 3 116), (1, oIload 3 117), (0, oRload 0 118), (0, oGetf 14 6 0 121), (1, oFail), (1, oFail), (0, oIcGe 142 124), (1, oFail), (1, oFail), (0, oRload 0 125), (0, oGetf 14 65 2 128), (1, oFail), (1, oFail)]
set_option maxRecDepth 20000 in
theorem zX12_status_7 : SndL mX12_status 112 kX12_status_7 := SndL.c (s_fail) (SndL.c (s_ret_i rfl (by decide +kernel)) (SndL.c (s_iconst (by decide +kernel) (in32_d (by decide))) (SndL.c (s_istore_n (k := 3) (by decide +kernel) rfl (by decide)) (SndL.c (s_iload_n (k := 3) (by decide +kernel) rfl) (SndL.c (s_aload_n (k := 0) (by decide +kernel) rfl) (SndL.c (s_getf (k := 6) clok13 (by decide) rfl (by decide) rfl w_5_108 (Or.inl rfl) (by decide +kernel)) (SndL.c (s_fail) (SndL.c (s_fail) (SndL.c (s_ic_ge (off := 21) (by decide +kernel) (by decide)) (SndL.c (s_fail) (SndL.c (s_fail) (SndL.c (s_aload_n (k := 0) (by decide +kernel) rfl) (SndL.c (s_getf (k := 65) clok13 (by decide) rfl (by decide) rfl w_5_167 (Or.inl rfl) (by decide +kernel)) (SndL.c (s_fail) (SndL.c (s_fail) (SndL.n))))))))))))))))
def kX12_status_8 : List En := [(0, oIload 3 129), (0, oIald 130), (0, oIfNe 136 133), (1, oFail), (1, oFail), (0, oIinc 2 1 136), (1, oFail), (1, oFail), (0, oIinc 3 1 139), (1, oFail), (1, oFail), (0, oGoto 116), (1, oFail), (1, oFail), (0, oIload 2 143), (0, oRetI)]
set_option maxRecDepth 20000 in
theorem zX12_status_8 : SndL mX12_status 128 kX12_status_8 := SndL.c (s_iload_n (k := 3) (by decide +kernel) rfl) (SndL.c (s_iald (by decide +kernel)) (SndL.c (s_if_ne (off := 6) (by decide +kernel) (by decide)) (SndL.c (s_fail) (SndL.c (s_fail) (SndL.c (s_iinc (by decide +kernel) (by decide)) (SndL.c (s_fail) (SndL.c (s_fail) (SndL.c (s_iinc (by decide +kernel) (by decide)) (SndL.c (s_fail) (SndL.c (s_fail) (SndL.c (s_goto (off := -23) (by decide +kernel) (by decide)) (SndL.c (s_fail) (SndL.c (s_fail) (SndL.c (s_iload_n (k := 2) (by decide +kernel) rfl) (SndL.c (s_ret_i rfl (by decide +kernel)) (SndL.n))))))))))))))))
def kX12_status_9 : List En := [(0, oPush (vI 0) 145), (0, oIstore 3 146), (1, oIload 3 147), (0, oRload 0 148), (0, oGetf 14 6 0 151), (1, oFail), (1, oFail), (0, oIcGe 181 154), (1, oFail), (1, oFail), (0, oRload 0 155), (0, oGetf 14 65 2 158), (1, oFail), (1, oFail), (0, oIload 3 159), (0, oIald 160)]
set_option maxRecDepth 20000 in
theorem zX12_status_9 : SndL mX12_status 144 kX12_status_9 := SndL.c (s_iconst (by decide +kernel) (in32_d (by decide))) (SndL.c (s_istore_n (k := 3) (by decide +kernel) rfl (by decide)) (SndL.c (s_iload_n (k := 3) (by decide +kernel) rfl) (SndL.c (s_aload_n (k := 0) (by decide +kernel) rfl) (SndL.c (s_getf (k := 6) clok13 (by decide) rfl (by decide) rfl w_5_108 (Or.inl rfl) (by decide +kernel)) (SndL.c (s_fail) (SndL.c (s_fail) (SndL.c (s_ic_ge (off := 30) (by decide +kernel) (by decide)) (SndL.c (s_fail) (SndL.c (s_fail) (SndL.c (s_aload_n (k := 0) (by decide +kernel) rfl) (SndL.c (s_getf (k := 65) clok13 (by decide) rfl (by decide) rfl w_5_167 (Or.inl rfl) (by decide +kernel)) (SndL.c (s_fail) (SndL.c (s_fail) (SndL.c (s_iload_n (k := 3) (by decide +kernel) rfl) (SndL.c (s_iald (by decide +kernel)) (SndL.n))))))))))))))))
def kX12_status_10 : List En := [(0, oIfNe 175 163), (1, oFail), (1, oFail), (0, oRload 0 164), (0, oGetf 14 67 2 167), (1, oFail), (1, oFail), (0, oIload 3 168), (0, oZald 169), (0, oIfEq 175 172), (1, oFail), (1, oFail), (0, oIinc 2 1 175), (1, oFail), (1, oFail), (0, oIinc 3 1 178)]
set_option maxRecDepth 20000 in
theorem zX12_status_10 : SndL mX12_status 160 kX12_status_10 := SndL.c (s_if_ne (off := 15) (by decide +kernel) (by decide)) (SndL.c (s_fail) (SndL.c (s_fail) (SndL.c (s_aload_n (k := 0) (by decide +kernel) rfl) (SndL.c (s_getf (k := 67) clok13 (by decide) rfl (by decide) rfl w_5_169 (Or.inl rfl) (by decide +kernel)) (SndL.c (s_fail) (SndL.c (s_fail) (SndL.c (s_iload_n (k := 3) (by decide +kernel) rfl) (SndL.c (s_zald (by decide +kernel)) (SndL.c (s_if_eq (off := 6) (by decide +kernel) (by decide)) (SndL.c (s_fail) (SndL.c (s_fail) (SndL.c (s_iinc (by decide +kernel) (by decide)) (SndL.c (s_fail) (SndL.c (s_fail) (SndL.c (s_iinc (by decide +kernel) (by decide)) (SndL.n))))))))))))))))
def kX12_status_11 : List En := [(1, oFail), (1, oFail), (0, oGoto 146), (1, oFail), (1, oFail), (0, oIload 2 182), (0, oRetI), (0, oPush (vI 0) 184), (0, oIstore 3 185), (1, oIload 3 186), (0, oRload 0 187), (0, oGetf 14 6 0 190), (1, oFail), (1, oFail), (0, oIcGe 212 193), (1, oFail)]
set_option maxRecDepth 20000 in
theorem zX12_status_11 : SndL mX12_status 176 kX12_status_11 := SndL.c (s_fail) (SndL.c (s_fail) (SndL.c (s_goto (off := -32) (by decide +kernel) (by decide)) (SndL.c (s_fail) (SndL.c (s_fail) (SndL.c (s_iload_n (k := 2) (by decide +kernel) rfl) (SndL.c (s_ret_i rfl (by decide +kernel)) (SndL.c (s_iconst (by decide +kernel) (in32_d (by decide))) (SndL.c (s_istore_n (k := 3) (by decide +kernel) rfl (by decide)) (SndL.c (s_iload_n (k := 3) (by decide +kernel) rfl) (SndL.c (s_aload_n (k := 0) (by decide +kernel) rfl) (SndL.c (s_getf (k := 6) clok13 (by decide) rfl (by decide) rfl w_5_108 (Or.inl rfl) (by decide +kernel)) (SndL.c (s_fail) (SndL.c (s_fail) (SndL.c (s_ic_ge (off := 22) (by decide +kernel) (by decide)) (SndL.c (s_fail) (SndL.n))))))))))))))))
def kX12_status_12 : List En := [(1, oFail), (0, oRload 0 194), (0, oGetf 14 65 2 197), (1, oFail), (1, oFail), (0, oIload 3 198), (0, oIald 199), (0, oPush (vI 1) 200), (0, oIcNe 206 203), (1, oFail), (1, oFail), (0, oIinc 2 1 206), (1, oFail), (1, oFail), (0, oIinc 3 1 209), (1, oFail)]
set_option maxRecDepth 20000 in
theorem zX12_status_12 : SndL mX12_status 192 kX12_status_12 := SndL.c (s_fail) (SndL.c (s_aload_n (k := 0) (by decide +kernel) rfl) (SndL.c (s_getf (k := 65) clok13 (by decide) rfl (by decide) rfl w_5_167 (Or.inl rfl) (by decide +kernel)) (SndL.c (s_fail) (SndL.c (s_fail) (SndL.c (s_iload_n (k := 3) (by decide +kernel) rfl) (SndL.c (s_iald (by decide +kernel)) (SndL.c (s_iconst (by decide +kernel) (in32_d (by decide))) (SndL.c (s_ic_ne (off := 6) (by decide +kernel) (by decide)) (SndL.c (s_fail) (SndL.c (s_fail) (SndL.c (s_iinc (by decide +kernel) (by decide)) (SndL.c (s_fail) (SndL.c (s_fail) (SndL.c (s_iinc (by decide +kernel) (by decide)) (SndL.c (s_fail) (SndL.n))))))))))))))))
def kX12_status_13 : List En := [(1, oFail), (0, oGoto 185), (1, oFail), (1, oFail), (0, oIload 2 213), (0, oRetI), (0, oPush (vI 0) 215), (0, oIstore 3 216), (1, oIload 3 217), (0, oRload 0 218), (0, oGetf 14 6 0 221), (1, oFail), (1, oFail), (0, oIcGe 243 224), (1, oFail), (1, oFail)]
set_option maxRecDepth 20000 in
theorem zX12_status_13 : SndL mX12_status 208 kX12_status_13 := SndL.c (s_fail) (SndL.c (s_goto (off := -24) (by decide +kernel) (by decide)) (SndL.c (s_fail) (SndL.c (s_fail) (SndL.c (s_iload_n (k := 2) (by decide +kernel) rfl) (SndL.c (s_ret_i rfl (by decide +kernel)) (SndL.c (s_iconst (by decide +kernel) (in32_d (by decide))) (SndL.c (s_istore_n (k := 3) (by decide +kernel) rfl (by decide)) (SndL.c (s_iload_n (k := 3) (by decide +kernel) rfl) (SndL.c (s_aload_n (k := 0) (by decide +kernel) rfl) (SndL.c (s_getf (k := 6) clok13 (by decide) rfl (by decide) rfl w_5_108 (Or.inl rfl) (by decide +kernel)) (SndL.c (s_fail) (SndL.c (s_fail) (SndL.c (s_ic_ge (off := 22) (by decide +kernel) (by decide)) (SndL.c (s_fail) (SndL.c (s_fail) (SndL.n))))))))))))))))
def kX12_status_14 : List En := [(0, oRload 0 225), (0, oGetf 14 65 2 228), (1, oFail), (1, oFail), (0, oIload 3 229), (0, oIald 230), (0, oPush (vI 2) 231), (0, oIcNe 237 234), (1, oFail), (1, oFail), (0, oIinc 2 1 237), (1, oFail), (1, oFail), (0, oIinc 3 1 240), (1, oFail), (1, oFail)]
set_option maxRecDepth 20000 in
theorem zX12_status_14 : SndL mX12_status 224 kX12_status_14 := SndL.c (s_aload_n (k := 0) (by decide +kernel) rfl) (SndL.c (s_getf (k := 65) clok13 (by decide) rfl (by decide) rfl w_5_167 (Or.inl rfl) (by decide +kernel)) (SndL.c (s_fail) (SndL.c (s_fail) (SndL.c (s_iload_n (k := 3) (by decide +kernel) rfl) (SndL.c (s_iald (by decide +kernel)) (SndL.c (s_iconst (by decide +kernel) (in32_d (by decide))) (SndL.c (s_ic_ne (off := 6) (by decide +kernel) (by decide)) (SndL.c (s_fail) (SndL.c (s_fail) (SndL.c (s_iinc (by decide +kernel) (by decide)) (SndL.c (s_fail) (SndL.c (s_fail) (SndL.c (s_iinc (by decide +kernel) (by decide)) (SndL.c (s_fail) (SndL.c (s_fail) (SndL.n))))))))))))))))
def kX12_status_15 : List En := [(0, oGoto 216), (1, oFail), (1, oFail), (0, oIload 2 244), (0, oRetI), (0, oRload 0 246), (0, oGetf 14 0 0 249), (1, oFail), (1, oFail), (0, oRetI), (0, oPush (vI (-1)) 251), (0, oRetI)]
set_option maxRecDepth 20000 in
theorem zX12_status_15 : SndL mX12_status 240 kX12_status_15 := SndL.c (s_goto (off := -24) (by decide +kernel) (by decide)) (SndL.c (s_fail) (SndL.c (s_fail) (SndL.c (s_iload_n (k := 2) (by decide +kernel) rfl) (SndL.c (s_ret_i rfl (by decide +kernel)) (SndL.c (s_aload_n (k := 0) (by decide +kernel) rfl) (SndL.c (s_getf (k := 0) clok13 (by decide) rfl (by decide) rfl w_5_102 (Or.inl rfl) (by decide +kernel)) (SndL.c (s_fail) (SndL.c (s_fail) (SndL.c (s_ret_i rfl (by decide +kernel)) (SndL.c (s_iconst (by decide +kernel) (in32_d (by decide))) (SndL.c (s_ret_i rfl (by decide +kernel)) (SndL.n))))))))))))
def kX12_status : Cd := [kX12_status_0, kX12_status_1, kX12_status_2, kX12_status_3, kX12_status_4, kX12_status_5, kX12_status_6, kX12_status_7, kX12_status_8, kX12_status_9, kX12_status_10, kX12_status_11, kX12_status_12, kX12_status_13, kX12_status_14, kX12_status_15]
theorem zX12_status : SndC mX12_status 0 kX12_status := SndC.c zX12_status_0 (by decide) (SndC.c zX12_status_1 (by decide) (SndC.c zX12_status_2 (by decide) (SndC.c zX12_status_3 (by decide) (SndC.c zX12_status_4 (by decide) (SndC.c zX12_status_5 (by decide) (SndC.c zX12_status_6 (by decide) (SndC.c zX12_status_7 (by decide) (SndC.c zX12_status_8 (by decide) (SndC.c zX12_status_9 (by decide) (SndC.c zX12_status_10 (by decide) (SndC.c zX12_status_11 (by decide) (SndC.c zX12_status_12 (by decide) (SndC.c zX12_status_13 (by decide) (SndC.c zX12_status_14 (by decide) (SndC.c zX12_status_15 (by decide) (SndC.n))))))))))))))))
theorem aX12_status_0 : at_ kX12_status 0 = (0, oIload 1 1) := rfl
theorem aX12_status_1 : at_ kX12_status 1 = (0, oPush (vI 10) 3) := rfl
theorem aX12_status_3 : at_ kX12_status 3 = (0, oIcLe 22 6) := rfl
theorem aX12_status_6 : at_ kX12_status 6 = (0, oIload 1 7) := rfl
theorem aX12_status_7 : at_ kX12_status 7 = (0, oPush (vI 18) 9) := rfl
theorem aX12_status_9 : at_ kX12_status 9 = (0, oIcGe 22 12) := rfl
theorem aX12_status_12 : at_ kX12_status 12 = (0, oRload 0 13) := rfl
theorem aX12_status_13 : at_ kX12_status 13 = (0, oGetf 14 70 2 16) := rfl
theorem aX12_status_16 : at_ kX12_status 16 = (0, oIload 1 17) := rfl
theorem aX12_status_17 : at_ kX12_status 17 = (0, oPush (vI 10) 19) := rfl
theorem aX12_status_19 : at_ kX12_status 19 = (0, oIsub 20) := rfl
theorem aX12_status_20 : at_ kX12_status 20 = (0, oIald 21) := rfl
theorem aX12_status_21 : at_ kX12_status 21 = (0, oRetI) := rfl
theorem aX12_status_22 : at_ kX12_status 22 = (0, oPush (vI 0) 23) := rfl
theorem aX12_status_23 : at_ kX12_status 23 = (0, oIstore 2 24) := rfl
theorem aX12_status_24 : at_ kX12_status 24 = (0, oIload 1 25) := rfl
theorem aX12_status_25 : at_ kX12_status 25 = (0, oSwitch 0 10 [84, 89, 94, 99, 104, 109, 114, 144, 183, 214, 245] 250) := rfl
theorem aX12_status_84 : at_ kX12_status 84 = (0, oRload 0 85) := rfl
theorem aX12_status_85 : at_ kX12_status 85 = (0, oGetf 14 1 0 88) := rfl
theorem aX12_status_88 : at_ kX12_status 88 = (0, oRetI) := rfl
theorem aX12_status_89 : at_ kX12_status 89 = (0, oRload 0 90) := rfl
theorem aX12_status_90 : at_ kX12_status 90 = (0, oGetf 14 2 0 93) := rfl
theorem aX12_status_93 : at_ kX12_status 93 = (0, oRetI) := rfl
theorem aX12_status_94 : at_ kX12_status 94 = (0, oRload 0 95) := rfl
theorem aX12_status_95 : at_ kX12_status 95 = (0, oGetf 14 3 0 98) := rfl
theorem aX12_status_98 : at_ kX12_status 98 = (0, oRetI) := rfl
theorem aX12_status_99 : at_ kX12_status 99 = (0, oRload 0 100) := rfl
theorem aX12_status_100 : at_ kX12_status 100 = (0, oGetf 14 4 0 103) := rfl
theorem aX12_status_103 : at_ kX12_status 103 = (0, oRetI) := rfl
theorem aX12_status_104 : at_ kX12_status 104 = (0, oRload 0 105) := rfl
theorem aX12_status_105 : at_ kX12_status 105 = (0, oGetf 14 5 0 108) := rfl
theorem aX12_status_108 : at_ kX12_status 108 = (0, oRetI) := rfl
theorem aX12_status_109 : at_ kX12_status 109 = (0, oRload 0 110) := rfl
theorem aX12_status_110 : at_ kX12_status 110 = (0, oGetf 14 6 0 113) := rfl
theorem aX12_status_113 : at_ kX12_status 113 = (0, oRetI) := rfl
theorem aX12_status_114 : at_ kX12_status 114 = (0, oPush (vI 0) 115) := rfl
theorem aX12_status_115 : at_ kX12_status 115 = (0, oIstore 3 116) := rfl
theorem aX12_status_116 : at_ kX12_status 116 = (1, oIload 3 117) := rfl
theorem aX12_status_117 : at_ kX12_status 117 = (0, oRload 0 118) := rfl
theorem aX12_status_118 : at_ kX12_status 118 = (0, oGetf 14 6 0 121) := rfl
theorem aX12_status_121 : at_ kX12_status 121 = (0, oIcGe 142 124) := rfl
theorem aX12_status_124 : at_ kX12_status 124 = (0, oRload 0 125) := rfl
theorem aX12_status_125 : at_ kX12_status 125 = (0, oGetf 14 65 2 128) := rfl
theorem aX12_status_128 : at_ kX12_status 128 = (0, oIload 3 129) := rfl
theorem aX12_status_129 : at_ kX12_status 129 = (0, oIald 130) := rfl
theorem aX12_status_130 : at_ kX12_status 130 = (0, oIfNe 136 133) := rfl
theorem aX12_status_133 : at_ kX12_status 133 = (0, oIinc 2 1 136) := rfl
theorem aX12_status_136 : at_ kX12_status 136 = (0, oIinc 3 1 139) := rfl
theorem aX12_status_139 : at_ kX12_status 139 = (0, oGoto 116) := rfl
theorem aX12_status_142 : at_ kX12_status 142 = (0, oIload 2 143) := rfl
theorem aX12_status_143 : at_ kX12_status 143 = (0, oRetI) := rfl
theorem aX12_status_144 : at_ kX12_status 144 = (0, oPush (vI 0) 145) := rfl
theorem aX12_status_145 : at_ kX12_status 145 = (0, oIstore 3 146) := rfl
theorem aX12_status_146 : at_ kX12_status 146 = (1, oIload 3 147) := rfl
theorem aX12_status_147 : at_ kX12_status 147 = (0, oRload 0 148) := rfl
theorem aX12_status_148 : at_ kX12_status 148 = (0, oGetf 14 6 0 151) := rfl
theorem aX12_status_151 : at_ kX12_status 151 = (0, oIcGe 181 154) := rfl
theorem aX12_status_154 : at_ kX12_status 154 = (0, oRload 0 155) := rfl
theorem aX12_status_155 : at_ kX12_status 155 = (0, oGetf 14 65 2 158) := rfl
theorem aX12_status_158 : at_ kX12_status 158 = (0, oIload 3 159) := rfl
theorem aX12_status_159 : at_ kX12_status 159 = (0, oIald 160) := rfl
theorem aX12_status_160 : at_ kX12_status 160 = (0, oIfNe 175 163) := rfl
theorem aX12_status_163 : at_ kX12_status 163 = (0, oRload 0 164) := rfl
theorem aX12_status_164 : at_ kX12_status 164 = (0, oGetf 14 67 2 167) := rfl
theorem aX12_status_167 : at_ kX12_status 167 = (0, oIload 3 168) := rfl
theorem aX12_status_168 : at_ kX12_status 168 = (0, oZald 169) := rfl
theorem aX12_status_169 : at_ kX12_status 169 = (0, oIfEq 175 172) := rfl
theorem aX12_status_172 : at_ kX12_status 172 = (0, oIinc 2 1 175) := rfl
theorem aX12_status_175 : at_ kX12_status 175 = (0, oIinc 3 1 178) := rfl
theorem aX12_status_178 : at_ kX12_status 178 = (0, oGoto 146) := rfl
theorem aX12_status_181 : at_ kX12_status 181 = (0, oIload 2 182) := rfl
theorem aX12_status_182 : at_ kX12_status 182 = (0, oRetI) := rfl
theorem aX12_status_183 : at_ kX12_status 183 = (0, oPush (vI 0) 184) := rfl
theorem aX12_status_184 : at_ kX12_status 184 = (0, oIstore 3 185) := rfl
theorem aX12_status_185 : at_ kX12_status 185 = (1, oIload 3 186) := rfl
theorem aX12_status_186 : at_ kX12_status 186 = (0, oRload 0 187) := rfl
theorem aX12_status_187 : at_ kX12_status 187 = (0, oGetf 14 6 0 190) := rfl
theorem aX12_status_190 : at_ kX12_status 190 = (0, oIcGe 212 193) := rfl
theorem aX12_status_193 : at_ kX12_status 193 = (0, oRload 0 194) := rfl
theorem aX12_status_194 : at_ kX12_status 194 = (0, oGetf 14 65 2 197) := rfl
theorem aX12_status_197 : at_ kX12_status 197 = (0, oIload 3 198) := rfl
theorem aX12_status_198 : at_ kX12_status 198 = (0, oIald 199) := rfl
theorem aX12_status_199 : at_ kX12_status 199 = (0, oPush (vI 1) 200) := rfl
theorem aX12_status_200 : at_ kX12_status 200 = (0, oIcNe 206 203) := rfl
theorem aX12_status_203 : at_ kX12_status 203 = (0, oIinc 2 1 206) := rfl
theorem aX12_status_206 : at_ kX12_status 206 = (0, oIinc 3 1 209) := rfl
theorem aX12_status_209 : at_ kX12_status 209 = (0, oGoto 185) := rfl
theorem aX12_status_212 : at_ kX12_status 212 = (0, oIload 2 213) := rfl
theorem aX12_status_213 : at_ kX12_status 213 = (0, oRetI) := rfl
theorem aX12_status_214 : at_ kX12_status 214 = (0, oPush (vI 0) 215) := rfl
theorem aX12_status_215 : at_ kX12_status 215 = (0, oIstore 3 216) := rfl
theorem aX12_status_216 : at_ kX12_status 216 = (1, oIload 3 217) := rfl
theorem aX12_status_217 : at_ kX12_status 217 = (0, oRload 0 218) := rfl
theorem aX12_status_218 : at_ kX12_status 218 = (0, oGetf 14 6 0 221) := rfl
theorem aX12_status_221 : at_ kX12_status 221 = (0, oIcGe 243 224) := rfl
theorem aX12_status_224 : at_ kX12_status 224 = (0, oRload 0 225) := rfl
theorem aX12_status_225 : at_ kX12_status 225 = (0, oGetf 14 65 2 228) := rfl
theorem aX12_status_228 : at_ kX12_status 228 = (0, oIload 3 229) := rfl
theorem aX12_status_229 : at_ kX12_status 229 = (0, oIald 230) := rfl
theorem aX12_status_230 : at_ kX12_status 230 = (0, oPush (vI 2) 231) := rfl
theorem aX12_status_231 : at_ kX12_status 231 = (0, oIcNe 237 234) := rfl
theorem aX12_status_234 : at_ kX12_status 234 = (0, oIinc 2 1 237) := rfl
theorem aX12_status_237 : at_ kX12_status 237 = (0, oIinc 3 1 240) := rfl
theorem aX12_status_240 : at_ kX12_status 240 = (0, oGoto 216) := rfl
theorem aX12_status_243 : at_ kX12_status 243 = (0, oIload 2 244) := rfl
theorem aX12_status_244 : at_ kX12_status 244 = (0, oRetI) := rfl
theorem aX12_status_245 : at_ kX12_status 245 = (0, oRload 0 246) := rfl
theorem aX12_status_246 : at_ kX12_status 246 = (0, oGetf 14 0 0 249) := rfl
theorem aX12_status_249 : at_ kX12_status 249 = (0, oRetI) := rfl
theorem aX12_status_250 : at_ kX12_status 250 = (0, oPush (vI (-1)) 251) := rfl
theorem aX12_status_251 : at_ kX12_status 251 = (0, oRetI) := rfl
