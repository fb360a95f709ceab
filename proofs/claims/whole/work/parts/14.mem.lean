/-! THE REFERENCE'S MEMORY: its object is cell 1000, the row of field k is cell 1000 + k; μ: what it keeps; S: the picture (its scratch places apart) -/
def MK (K : KT) : Prop := K 1000 = (14, 90) ∧ K 1011 = (100, 8) ∧ K 1012 = (100, 8) ∧ K 1013 = (100, 8) ∧ K 1014 = (100, 8) ∧ K 1015 = (100, 8) ∧ K 1016 = (100, 8) ∧ K 1017 = (100, 8) ∧ K 1018 = (101, 480) ∧ K 1019 = (101, 60) ∧ K 1020 = (100, 24) ∧ K 1021 = (100, 24) ∧ K 1022 = (100, 24) ∧ K 1023 = (100, 24) ∧ K 1024 = (100, 24) ∧ K 1025 = (100, 24) ∧ K 1026 = (100, 24) ∧ K 1027 = (100, 24) ∧ K 1028 = (100, 480) ∧ K 1029 = (100, 288) ∧ K 1030 = (100, 192) ∧ K 1031 = (100, 192) ∧ K 1032 = (100, 20) ∧ K 1033 = (100, 120) ∧ K 1034 = (100, 20) ∧ K 1035 = (100, 20) ∧ K 1036 = (100, 20) ∧ K 1037 = (100, 20) ∧ K 1038 = (100, 20) ∧ K 1039 = (100, 20) ∧ K 1040 = (100, 40) ∧ K 1041 = (100, 40) ∧ K 1042 = (100, 40) ∧ K 1043 = (100, 40) ∧ K 1044 = (100, 2400) ∧ K 1045 = (100, 17) ∧ K 1046 = (100, 17) ∧ K 1047 = (100, 17) ∧ K 1048 = (100, 17) ∧ K 1049 = (100, 1700) ∧ K 1050 = (100, 680) ∧ K 1051 = (100, 680) ∧ K 1052 = (100, 680) ∧ K 1053 = (100, 680) ∧ K 1054 = (100, 680) ∧ K 1055 = (100, 9) ∧ K 1056 = (100, 40) ∧ K 1057 = (100, 40) ∧ K 1058 = (100, 40) ∧ K 1059 = (100, 40) ∧ K 1060 = (100, 40) ∧ K 1061 = (100, 40) ∧ K 1062 = (100, 40) ∧ K 1063 = (100, 40) ∧ K 1064 = (100, 40) ∧ K 1065 = (100, 40) ∧ K 1066 = (100, 40) ∧ K 1067 = (103, 40) ∧ K 1068 = (103, 40) ∧ K 1069 = (103, 40) ∧ K 1070 = (100, 8) ∧ K 1071 = (100, 20) ∧ K 1073 = (100, 24) ∧ K 1074 = (100, 24) ∧ K 1078 = (100, 100) ∧ K 1079 = (100, 60) ∧ K 1089 = (103, 20)
theorem MK_o {K : KT} (h : MK K) : K 1000 = (14, 90) := h.1
theorem MK_held {K : KT} (h : MK K) : K 1011 = (100, 8) := h.2.1
theorem MK_sort {K : KT} (h : MK K) : K 1012 = (100, 8) := h.2.2.1
theorem MK_size {K : KT} (h : MK K) : K 1013 = (100, 8) := h.2.2.2.1
theorem MK_shelfPhrase {K : KT} (h : MK K) : K 1014 = (100, 8) := h.2.2.2.2.1
theorem MK_shelfKind {K : KT} (h : MK K) : K 1015 = (100, 8) := h.2.2.2.2.2.1
theorem MK_shelfSubject {K : KT} (h : MK K) : K 1016 = (100, 8) := h.2.2.2.2.2.2.1
theorem MK_shelfNumber {K : KT} (h : MK K) : K 1017 = (100, 8) := h.2.2.2.2.2.2.2.1
theorem MK_cells {K : KT} (h : MK K) : K 1018 = (101, 480) := h.2.2.2.2.2.2.2.2.1
theorem MK_carried {K : KT} (h : MK K) : K 1019 = (101, 60) := h.2.2.2.2.2.2.2.2.2.1
theorem MK_firm {K : KT} (h : MK K) : K 1020 = (100, 24) := h.2.2.2.2.2.2.2.2.2.2.1
theorem MK_medium {K : KT} (h : MK K) : K 1021 = (100, 24) := h.2.2.2.2.2.2.2.2.2.2.2.1
theorem MK_wordN {K : KT} (h : MK K) : K 1022 = (100, 24) := h.2.2.2.2.2.2.2.2.2.2.2.2.1
theorem MK_printN {K : KT} (h : MK K) : K 1023 = (100, 24) := h.2.2.2.2.2.2.2.2.2.2.2.2.2.1
theorem MK_printSize {K : KT} (h : MK K) : K 1024 = (100, 24) := h.2.2.2.2.2.2.2.2.2.2.2.2.2.2.1
theorem MK_children {K : KT} (h : MK K) : K 1025 = (100, 24) := h.2.2.2.2.2.2.2.2.2.2.2.2.2.2.2.1
theorem MK_others {K : KT} (h : MK K) : K 1026 = (100, 24) := h.2.2.2.2.2.2.2.2.2.2.2.2.2.2.2.2.1
theorem MK_toldOn {K : KT} (h : MK K) : K 1027 = (100, 24) := h.2.2.2.2.2.2.2.2.2.2.2.2.2.2.2.2.2.1
theorem MK_word {K : KT} (h : MK K) : K 1028 = (100, 480) := h.2.2.2.2.2.2.2.2.2.2.2.2.2.2.2.2.2.2.1
theorem MK_print {K : KT} (h : MK K) : K 1029 = (100, 288) := h.2.2.2.2.2.2.2.2.2.2.2.2.2.2.2.2.2.2.2.1
theorem MK_askedOn {K : KT} (h : MK K) : K 1030 = (100, 192) := h.2.2.2.2.2.2.2.2.2.2.2.2.2.2.2.2.2.2.2.2.1
theorem MK_didOn {K : KT} (h : MK K) : K 1031 = (100, 192) := h.2.2.2.2.2.2.2.2.2.2.2.2.2.2.2.2.2.2.2.2.2.1
theorem MK_pN {K : KT} (h : MK K) : K 1032 = (100, 20) := h.2.2.2.2.2.2.2.2.2.2.2.2.2.2.2.2.2.2.2.2.2.2.1
theorem MK_pWord {K : KT} (h : MK K) : K 1033 = (100, 120) := h.2.2.2.2.2.2.2.2.2.2.2.2.2.2.2.2.2.2.2.2.2.2.2.1
theorem MK_pKind {K : KT} (h : MK K) : K 1034 = (100, 20) := h.2.2.2.2.2.2.2.2.2.2.2.2.2.2.2.2.2.2.2.2.2.2.2.2.1
theorem MK_pSubject {K : KT} (h : MK K) : K 1035 = (100, 20) := h.2.2.2.2.2.2.2.2.2.2.2.2.2.2.2.2.2.2.2.2.2.2.2.2.2.1
theorem MK_pNumber {K : KT} (h : MK K) : K 1036 = (100, 20) := h.2.2.2.2.2.2.2.2.2.2.2.2.2.2.2.2.2.2.2.2.2.2.2.2.2.2.1
theorem MK_pFrom {K : KT} (h : MK K) : K 1037 = (100, 20) := h.2.2.2.2.2.2.2.2.2.2.2.2.2.2.2.2.2.2.2.2.2.2.2.2.2.2.2.1
theorem MK_pTold {K : KT} (h : MK K) : K 1038 = (100, 20) := h.2.2.2.2.2.2.2.2.2.2.2.2.2.2.2.2.2.2.2.2.2.2.2.2.2.2.2.2.1
theorem MK_pStruck {K : KT} (h : MK K) : K 1039 = (100, 20) := h.2.2.2.2.2.2.2.2.2.2.2.2.2.2.2.2.2.2.2.2.2.2.2.2.2.2.2.2.2.1
theorem MK_fFirm {K : KT} (h : MK K) : K 1040 = (100, 40) := h.2.2.2.2.2.2.2.2.2.2.2.2.2.2.2.2.2.2.2.2.2.2.2.2.2.2.2.2.2.2.1
theorem MK_fSubject {K : KT} (h : MK K) : K 1041 = (100, 40) := h.2.2.2.2.2.2.2.2.2.2.2.2.2.2.2.2.2.2.2.2.2.2.2.2.2.2.2.2.2.2.2.1
theorem MK_fDay {K : KT} (h : MK K) : K 1042 = (100, 40) := h.2.2.2.2.2.2.2.2.2.2.2.2.2.2.2.2.2.2.2.2.2.2.2.2.2.2.2.2.2.2.2.2.1
theorem MK_fN {K : KT} (h : MK K) : K 1043 = (100, 40) := h.2.2.2.2.2.2.2.2.2.2.2.2.2.2.2.2.2.2.2.2.2.2.2.2.2.2.2.2.2.2.2.2.2.1
theorem MK_result {K : KT} (h : MK K) : K 1044 = (100, 2400) := h.2.2.2.2.2.2.2.2.2.2.2.2.2.2.2.2.2.2.2.2.2.2.2.2.2.2.2.2.2.2.2.2.2.2.1
theorem MK_rFrom {K : KT} (h : MK K) : K 1045 = (100, 17) := h.2.2.2.2.2.2.2.2.2.2.2.2.2.2.2.2.2.2.2.2.2.2.2.2.2.2.2.2.2.2.2.2.2.2.2.1
theorem MK_rTold {K : KT} (h : MK K) : K 1046 = (100, 17) := h.2.2.2.2.2.2.2.2.2.2.2.2.2.2.2.2.2.2.2.2.2.2.2.2.2.2.2.2.2.2.2.2.2.2.2.2.1
theorem MK_rStruck {K : KT} (h : MK K) : K 1047 = (100, 17) := h.2.2.2.2.2.2.2.2.2.2.2.2.2.2.2.2.2.2.2.2.2.2.2.2.2.2.2.2.2.2.2.2.2.2.2.2.2.1
theorem MK_rCode {K : KT} (h : MK K) : K 1048 = (100, 17) := h.2.2.2.2.2.2.2.2.2.2.2.2.2.2.2.2.2.2.2.2.2.2.2.2.2.2.2.2.2.2.2.2.2.2.2.2.2.2.1
theorem MK_code {K : KT} (h : MK K) : K 1049 = (100, 1700) := h.2.2.2.2.2.2.2.2.2.2.2.2.2.2.2.2.2.2.2.2.2.2.2.2.2.2.2.2.2.2.2.2.2.2.2.2.2.2.2.1
theorem MK_leftField {K : KT} (h : MK K) : K 1050 = (100, 680) := h.2.2.2.2.2.2.2.2.2.2.2.2.2.2.2.2.2.2.2.2.2.2.2.2.2.2.2.2.2.2.2.2.2.2.2.2.2.2.2.2.1
theorem MK_leftBy {K : KT} (h : MK K) : K 1051 = (100, 680) := h.2.2.2.2.2.2.2.2.2.2.2.2.2.2.2.2.2.2.2.2.2.2.2.2.2.2.2.2.2.2.2.2.2.2.2.2.2.2.2.2.2.1
theorem MK_sign {K : KT} (h : MK K) : K 1052 = (100, 680) := h.2.2.2.2.2.2.2.2.2.2.2.2.2.2.2.2.2.2.2.2.2.2.2.2.2.2.2.2.2.2.2.2.2.2.2.2.2.2.2.2.2.2.1
theorem MK_rightField {K : KT} (h : MK K) : K 1053 = (100, 680) := h.2.2.2.2.2.2.2.2.2.2.2.2.2.2.2.2.2.2.2.2.2.2.2.2.2.2.2.2.2.2.2.2.2.2.2.2.2.2.2.2.2.2.2.1
theorem MK_rightBy {K : KT} (h : MK K) : K 1054 = (100, 680) := h.2.2.2.2.2.2.2.2.2.2.2.2.2.2.2.2.2.2.2.2.2.2.2.2.2.2.2.2.2.2.2.2.2.2.2.2.2.2.2.2.2.2.2.2.1
theorem MK_kin {K : KT} (h : MK K) : K 1055 = (100, 9) := h.2.2.2.2.2.2.2.2.2.2.2.2.2.2.2.2.2.2.2.2.2.2.2.2.2.2.2.2.2.2.2.2.2.2.2.2.2.2.2.2.2.2.2.2.2.1
theorem MK_uFirm {K : KT} (h : MK K) : K 1056 = (100, 40) := h.2.2.2.2.2.2.2.2.2.2.2.2.2.2.2.2.2.2.2.2.2.2.2.2.2.2.2.2.2.2.2.2.2.2.2.2.2.2.2.2.2.2.2.2.2.2.1
theorem MK_uMedium {K : KT} (h : MK K) : K 1057 = (100, 40) := h.2.2.2.2.2.2.2.2.2.2.2.2.2.2.2.2.2.2.2.2.2.2.2.2.2.2.2.2.2.2.2.2.2.2.2.2.2.2.2.2.2.2.2.2.2.2.2.1
theorem MK_uKind {K : KT} (h : MK K) : K 1058 = (100, 40) := h.2.2.2.2.2.2.2.2.2.2.2.2.2.2.2.2.2.2.2.2.2.2.2.2.2.2.2.2.2.2.2.2.2.2.2.2.2.2.2.2.2.2.2.2.2.2.2.2.1
theorem MK_uSubject {K : KT} (h : MK K) : K 1059 = (100, 40) := h.2.2.2.2.2.2.2.2.2.2.2.2.2.2.2.2.2.2.2.2.2.2.2.2.2.2.2.2.2.2.2.2.2.2.2.2.2.2.2.2.2.2.2.2.2.2.2.2.2.1
theorem MK_uNumber {K : KT} (h : MK K) : K 1060 = (100, 40) := h.2.2.2.2.2.2.2.2.2.2.2.2.2.2.2.2.2.2.2.2.2.2.2.2.2.2.2.2.2.2.2.2.2.2.2.2.2.2.2.2.2.2.2.2.2.2.2.2.2.2.1
theorem MK_uDay {K : KT} (h : MK K) : K 1061 = (100, 40) := h.2.2.2.2.2.2.2.2.2.2.2.2.2.2.2.2.2.2.2.2.2.2.2.2.2.2.2.2.2.2.2.2.2.2.2.2.2.2.2.2.2.2.2.2.2.2.2.2.2.2.2.1
theorem MK_uBar {K : KT} (h : MK K) : K 1062 = (100, 40) := h.2.2.2.2.2.2.2.2.2.2.2.2.2.2.2.2.2.2.2.2.2.2.2.2.2.2.2.2.2.2.2.2.2.2.2.2.2.2.2.2.2.2.2.2.2.2.2.2.2.2.2.2.1
theorem MK_uNot {K : KT} (h : MK K) : K 1063 = (100, 40) := h.2.2.2.2.2.2.2.2.2.2.2.2.2.2.2.2.2.2.2.2.2.2.2.2.2.2.2.2.2.2.2.2.2.2.2.2.2.2.2.2.2.2.2.2.2.2.2.2.2.2.2.2.2.1
theorem MK_uBinding {K : KT} (h : MK K) : K 1064 = (100, 40) := h.2.2.2.2.2.2.2.2.2.2.2.2.2.2.2.2.2.2.2.2.2.2.2.2.2.2.2.2.2.2.2.2.2.2.2.2.2.2.2.2.2.2.2.2.2.2.2.2.2.2.2.2.2.2.1
theorem MK_uState {K : KT} (h : MK K) : K 1065 = (100, 40) := h.2.2.2.2.2.2.2.2.2.2.2.2.2.2.2.2.2.2.2.2.2.2.2.2.2.2.2.2.2.2.2.2.2.2.2.2.2.2.2.2.2.2.2.2.2.2.2.2.2.2.2.2.2.2.2.1
theorem MK_uCounted {K : KT} (h : MK K) : K 1066 = (100, 40) := h.2.2.2.2.2.2.2.2.2.2.2.2.2.2.2.2.2.2.2.2.2.2.2.2.2.2.2.2.2.2.2.2.2.2.2.2.2.2.2.2.2.2.2.2.2.2.2.2.2.2.2.2.2.2.2.2.1
theorem MK_uBars {K : KT} (h : MK K) : K 1067 = (103, 40) := h.2.2.2.2.2.2.2.2.2.2.2.2.2.2.2.2.2.2.2.2.2.2.2.2.2.2.2.2.2.2.2.2.2.2.2.2.2.2.2.2.2.2.2.2.2.2.2.2.2.2.2.2.2.2.2.2.2.1
theorem MK_uAgain {K : KT} (h : MK K) : K 1068 = (103, 40) := h.2.2.2.2.2.2.2.2.2.2.2.2.2.2.2.2.2.2.2.2.2.2.2.2.2.2.2.2.2.2.2.2.2.2.2.2.2.2.2.2.2.2.2.2.2.2.2.2.2.2.2.2.2.2.2.2.2.2.1
theorem MK_uAppealed {K : KT} (h : MK K) : K 1069 = (103, 40) := h.2.2.2.2.2.2.2.2.2.2.2.2.2.2.2.2.2.2.2.2.2.2.2.2.2.2.2.2.2.2.2.2.2.2.2.2.2.2.2.2.2.2.2.2.2.2.2.2.2.2.2.2.2.2.2.2.2.2.2.1
theorem MK_refused {K : KT} (h : MK K) : K 1070 = (100, 8) := h.2.2.2.2.2.2.2.2.2.2.2.2.2.2.2.2.2.2.2.2.2.2.2.2.2.2.2.2.2.2.2.2.2.2.2.2.2.2.2.2.2.2.2.2.2.2.2.2.2.2.2.2.2.2.2.2.2.2.2.2.1
theorem MK_kept {K : KT} (h : MK K) : K 1071 = (100, 20) := h.2.2.2.2.2.2.2.2.2.2.2.2.2.2.2.2.2.2.2.2.2.2.2.2.2.2.2.2.2.2.2.2.2.2.2.2.2.2.2.2.2.2.2.2.2.2.2.2.2.2.2.2.2.2.2.2.2.2.2.2.2.1
theorem MK_claimPhrase {K : KT} (h : MK K) : K 1073 = (100, 24) := h.2.2.2.2.2.2.2.2.2.2.2.2.2.2.2.2.2.2.2.2.2.2.2.2.2.2.2.2.2.2.2.2.2.2.2.2.2.2.2.2.2.2.2.2.2.2.2.2.2.2.2.2.2.2.2.2.2.2.2.2.2.2.1
theorem MK_claimPlace {K : KT} (h : MK K) : K 1074 = (100, 24) := h.2.2.2.2.2.2.2.2.2.2.2.2.2.2.2.2.2.2.2.2.2.2.2.2.2.2.2.2.2.2.2.2.2.2.2.2.2.2.2.2.2.2.2.2.2.2.2.2.2.2.2.2.2.2.2.2.2.2.2.2.2.2.2.1
theorem MK_ops {K : KT} (h : MK K) : K 1078 = (100, 100) := h.2.2.2.2.2.2.2.2.2.2.2.2.2.2.2.2.2.2.2.2.2.2.2.2.2.2.2.2.2.2.2.2.2.2.2.2.2.2.2.2.2.2.2.2.2.2.2.2.2.2.2.2.2.2.2.2.2.2.2.2.2.2.2.2.1
theorem MK_worths {K : KT} (h : MK K) : K 1079 = (100, 60) := h.2.2.2.2.2.2.2.2.2.2.2.2.2.2.2.2.2.2.2.2.2.2.2.2.2.2.2.2.2.2.2.2.2.2.2.2.2.2.2.2.2.2.2.2.2.2.2.2.2.2.2.2.2.2.2.2.2.2.2.2.2.2.2.2.2.1
theorem MK_isBad {K : KT} (h : MK K) : K 1089 = (103, 20) := h.2.2.2.2.2.2.2.2.2.2.2.2.2.2.2.2.2.2.2.2.2.2.2.2.2.2.2.2.2.2.2.2.2.2.2.2.2.2.2.2.2.2.2.2.2.2.2.2.2.2.2.2.2.2.2.2.2.2.2.2.2.2.2.2.2.2
def arrF (k : Int) : Prop := (11 ≤ k ∧ k ≤ 71) ∨ k = 73 ∨ k = 74 ∨ k = 78 ∨ k = 79 ∨ k = 89
def scr (a i : Int) : Prop := (a = 1000 ∧ (i = 72 ∨ (75 ≤ i ∧ i ≤ 77) ∨ (80 ≤ i ∧ i ≤ 88))) ∨ a = 1019 ∨ a = 1071 ∨ a = 1073 ∨ a = 1074 ∨ a = 1078 ∨ a = 1079 ∨ a = 1089
def MS (μ S0 S : ST) : Prop := (∀ a, a < 1000 → S a = S0 a) ∧ (∀ a i, 1000 ≤ a → ¬ scr a i → S a i = μ a i) ∧ ∀ k, arrF k → S 1000 k = 1000 + k
theorem MS_now {μ S0 S : ST} (h : MS μ S0 S) : S 1000 0 = μ 1000 0 := h.2.1 1000 0 (by omega) (by unfold scr; omega)
theorem MS_adverts {μ S0 S : ST} (h : MS μ S0 S) : S 1000 1 = μ 1000 1 := h.2.1 1000 1 (by omega) (by unfold scr; omega)
theorem MS_phrases {μ S0 S : ST} (h : MS μ S0 S) : S 1000 2 = μ 1000 2 := h.2.1 1000 2 (by omega) (by unfold scr; omega)
theorem MS_proofs {μ S0 S : ST} (h : MS μ S0 S) : S 1000 3 = μ 1000 3 := h.2.1 1000 3 (by omega) (by unfold scr; omega)
theorem MS_rules {μ S0 S : ST} (h : MS μ S0 S) : S 1000 4 = μ 1000 4 := h.2.1 1000 4 (by omega) (by unfold scr; omega)
theorem MS_seats {μ S0 S : ST} (h : MS μ S0 S) : S 1000 5 = μ 1000 5 := h.2.1 1000 5 (by omega) (by unfold scr; omega)
theorem MS_rulings {μ S0 S : ST} (h : MS μ S0 S) : S 1000 6 = μ 1000 6 := h.2.1 1000 6 (by omega) (by unfold scr; omega)
theorem MS_share {μ S0 S : ST} (h : MS μ S0 S) : S 1000 7 = μ 1000 7 := h.2.1 1000 7 (by omega) (by unfold scr; omega)
theorem MS_tenth {μ S0 S : ST} (h : MS μ S0 S) : S 1000 8 = μ 1000 8 := h.2.1 1000 8 (by omega) (by unfold scr; omega)
theorem MS_fault {μ S0 S : ST} (h : MS μ S0 S) : S 1000 9 = μ 1000 9 := h.2.1 1000 9 (by omega) (by unfold scr; omega)
theorem MS_leastSet {μ S0 S : ST} (h : MS μ S0 S) : S 1000 10 = μ 1000 10 := h.2.1 1000 10 (by omega) (by unfold scr; omega)
theorem MR_held {μ S0 S : ST} (h : MS μ S0 S) : S 1000 11 = 1011 := by have := h.2.2 11 (by unfold arrF; omega); omega
theorem MS_held {μ S0 S : ST} (h : MS μ S0 S) (j : Int) : S 1011 j = μ 1011 j := h.2.1 1011 j (by omega) (by unfold scr; omega)
theorem MR_sort {μ S0 S : ST} (h : MS μ S0 S) : S 1000 12 = 1012 := by have := h.2.2 12 (by unfold arrF; omega); omega
theorem MS_sort {μ S0 S : ST} (h : MS μ S0 S) (j : Int) : S 1012 j = μ 1012 j := h.2.1 1012 j (by omega) (by unfold scr; omega)
theorem MR_size {μ S0 S : ST} (h : MS μ S0 S) : S 1000 13 = 1013 := by have := h.2.2 13 (by unfold arrF; omega); omega
theorem MS_size {μ S0 S : ST} (h : MS μ S0 S) (j : Int) : S 1013 j = μ 1013 j := h.2.1 1013 j (by omega) (by unfold scr; omega)
theorem MR_shelfPhrase {μ S0 S : ST} (h : MS μ S0 S) : S 1000 14 = 1014 := by have := h.2.2 14 (by unfold arrF; omega); omega
theorem MS_shelfPhrase {μ S0 S : ST} (h : MS μ S0 S) (j : Int) : S 1014 j = μ 1014 j := h.2.1 1014 j (by omega) (by unfold scr; omega)
theorem MR_shelfKind {μ S0 S : ST} (h : MS μ S0 S) : S 1000 15 = 1015 := by have := h.2.2 15 (by unfold arrF; omega); omega
theorem MS_shelfKind {μ S0 S : ST} (h : MS μ S0 S) (j : Int) : S 1015 j = μ 1015 j := h.2.1 1015 j (by omega) (by unfold scr; omega)
theorem MR_shelfSubject {μ S0 S : ST} (h : MS μ S0 S) : S 1000 16 = 1016 := by have := h.2.2 16 (by unfold arrF; omega); omega
theorem MS_shelfSubject {μ S0 S : ST} (h : MS μ S0 S) (j : Int) : S 1016 j = μ 1016 j := h.2.1 1016 j (by omega) (by unfold scr; omega)
theorem MR_shelfNumber {μ S0 S : ST} (h : MS μ S0 S) : S 1000 17 = 1017 := by have := h.2.2 17 (by unfold arrF; omega); omega
theorem MS_shelfNumber {μ S0 S : ST} (h : MS μ S0 S) (j : Int) : S 1017 j = μ 1017 j := h.2.1 1017 j (by omega) (by unfold scr; omega)
theorem MR_cells {μ S0 S : ST} (h : MS μ S0 S) : S 1000 18 = 1018 := by have := h.2.2 18 (by unfold arrF; omega); omega
theorem MS_cells {μ S0 S : ST} (h : MS μ S0 S) (j : Int) : S 1018 j = μ 1018 j := h.2.1 1018 j (by omega) (by unfold scr; omega)
theorem MR_carried {μ S0 S : ST} (h : MS μ S0 S) : S 1000 19 = 1019 := by have := h.2.2 19 (by unfold arrF; omega); omega
theorem MR_firm {μ S0 S : ST} (h : MS μ S0 S) : S 1000 20 = 1020 := by have := h.2.2 20 (by unfold arrF; omega); omega
theorem MS_firm {μ S0 S : ST} (h : MS μ S0 S) (j : Int) : S 1020 j = μ 1020 j := h.2.1 1020 j (by omega) (by unfold scr; omega)
theorem MR_medium {μ S0 S : ST} (h : MS μ S0 S) : S 1000 21 = 1021 := by have := h.2.2 21 (by unfold arrF; omega); omega
theorem MS_medium {μ S0 S : ST} (h : MS μ S0 S) (j : Int) : S 1021 j = μ 1021 j := h.2.1 1021 j (by omega) (by unfold scr; omega)
theorem MR_wordN {μ S0 S : ST} (h : MS μ S0 S) : S 1000 22 = 1022 := by have := h.2.2 22 (by unfold arrF; omega); omega
theorem MS_wordN {μ S0 S : ST} (h : MS μ S0 S) (j : Int) : S 1022 j = μ 1022 j := h.2.1 1022 j (by omega) (by unfold scr; omega)
theorem MR_printN {μ S0 S : ST} (h : MS μ S0 S) : S 1000 23 = 1023 := by have := h.2.2 23 (by unfold arrF; omega); omega
theorem MS_printN {μ S0 S : ST} (h : MS μ S0 S) (j : Int) : S 1023 j = μ 1023 j := h.2.1 1023 j (by omega) (by unfold scr; omega)
theorem MR_printSize {μ S0 S : ST} (h : MS μ S0 S) : S 1000 24 = 1024 := by have := h.2.2 24 (by unfold arrF; omega); omega
theorem MS_printSize {μ S0 S : ST} (h : MS μ S0 S) (j : Int) : S 1024 j = μ 1024 j := h.2.1 1024 j (by omega) (by unfold scr; omega)
theorem MR_children {μ S0 S : ST} (h : MS μ S0 S) : S 1000 25 = 1025 := by have := h.2.2 25 (by unfold arrF; omega); omega
theorem MS_children {μ S0 S : ST} (h : MS μ S0 S) (j : Int) : S 1025 j = μ 1025 j := h.2.1 1025 j (by omega) (by unfold scr; omega)
theorem MR_others {μ S0 S : ST} (h : MS μ S0 S) : S 1000 26 = 1026 := by have := h.2.2 26 (by unfold arrF; omega); omega
theorem MS_others {μ S0 S : ST} (h : MS μ S0 S) (j : Int) : S 1026 j = μ 1026 j := h.2.1 1026 j (by omega) (by unfold scr; omega)
theorem MR_toldOn {μ S0 S : ST} (h : MS μ S0 S) : S 1000 27 = 1027 := by have := h.2.2 27 (by unfold arrF; omega); omega
theorem MS_toldOn {μ S0 S : ST} (h : MS μ S0 S) (j : Int) : S 1027 j = μ 1027 j := h.2.1 1027 j (by omega) (by unfold scr; omega)
theorem MR_word {μ S0 S : ST} (h : MS μ S0 S) : S 1000 28 = 1028 := by have := h.2.2 28 (by unfold arrF; omega); omega
theorem MS_word {μ S0 S : ST} (h : MS μ S0 S) (j : Int) : S 1028 j = μ 1028 j := h.2.1 1028 j (by omega) (by unfold scr; omega)
theorem MR_print {μ S0 S : ST} (h : MS μ S0 S) : S 1000 29 = 1029 := by have := h.2.2 29 (by unfold arrF; omega); omega
theorem MS_print {μ S0 S : ST} (h : MS μ S0 S) (j : Int) : S 1029 j = μ 1029 j := h.2.1 1029 j (by omega) (by unfold scr; omega)
theorem MR_askedOn {μ S0 S : ST} (h : MS μ S0 S) : S 1000 30 = 1030 := by have := h.2.2 30 (by unfold arrF; omega); omega
theorem MS_askedOn {μ S0 S : ST} (h : MS μ S0 S) (j : Int) : S 1030 j = μ 1030 j := h.2.1 1030 j (by omega) (by unfold scr; omega)
theorem MR_didOn {μ S0 S : ST} (h : MS μ S0 S) : S 1000 31 = 1031 := by have := h.2.2 31 (by unfold arrF; omega); omega
theorem MS_didOn {μ S0 S : ST} (h : MS μ S0 S) (j : Int) : S 1031 j = μ 1031 j := h.2.1 1031 j (by omega) (by unfold scr; omega)
theorem MR_pN {μ S0 S : ST} (h : MS μ S0 S) : S 1000 32 = 1032 := by have := h.2.2 32 (by unfold arrF; omega); omega
theorem MS_pN {μ S0 S : ST} (h : MS μ S0 S) (j : Int) : S 1032 j = μ 1032 j := h.2.1 1032 j (by omega) (by unfold scr; omega)
theorem MR_pWord {μ S0 S : ST} (h : MS μ S0 S) : S 1000 33 = 1033 := by have := h.2.2 33 (by unfold arrF; omega); omega
theorem MS_pWord {μ S0 S : ST} (h : MS μ S0 S) (j : Int) : S 1033 j = μ 1033 j := h.2.1 1033 j (by omega) (by unfold scr; omega)
theorem MR_pKind {μ S0 S : ST} (h : MS μ S0 S) : S 1000 34 = 1034 := by have := h.2.2 34 (by unfold arrF; omega); omega
theorem MS_pKind {μ S0 S : ST} (h : MS μ S0 S) (j : Int) : S 1034 j = μ 1034 j := h.2.1 1034 j (by omega) (by unfold scr; omega)
theorem MR_pSubject {μ S0 S : ST} (h : MS μ S0 S) : S 1000 35 = 1035 := by have := h.2.2 35 (by unfold arrF; omega); omega
theorem MS_pSubject {μ S0 S : ST} (h : MS μ S0 S) (j : Int) : S 1035 j = μ 1035 j := h.2.1 1035 j (by omega) (by unfold scr; omega)
theorem MR_pNumber {μ S0 S : ST} (h : MS μ S0 S) : S 1000 36 = 1036 := by have := h.2.2 36 (by unfold arrF; omega); omega
theorem MS_pNumber {μ S0 S : ST} (h : MS μ S0 S) (j : Int) : S 1036 j = μ 1036 j := h.2.1 1036 j (by omega) (by unfold scr; omega)
theorem MR_pFrom {μ S0 S : ST} (h : MS μ S0 S) : S 1000 37 = 1037 := by have := h.2.2 37 (by unfold arrF; omega); omega
theorem MS_pFrom {μ S0 S : ST} (h : MS μ S0 S) (j : Int) : S 1037 j = μ 1037 j := h.2.1 1037 j (by omega) (by unfold scr; omega)
theorem MR_pTold {μ S0 S : ST} (h : MS μ S0 S) : S 1000 38 = 1038 := by have := h.2.2 38 (by unfold arrF; omega); omega
theorem MS_pTold {μ S0 S : ST} (h : MS μ S0 S) (j : Int) : S 1038 j = μ 1038 j := h.2.1 1038 j (by omega) (by unfold scr; omega)
theorem MR_pStruck {μ S0 S : ST} (h : MS μ S0 S) : S 1000 39 = 1039 := by have := h.2.2 39 (by unfold arrF; omega); omega
theorem MS_pStruck {μ S0 S : ST} (h : MS μ S0 S) (j : Int) : S 1039 j = μ 1039 j := h.2.1 1039 j (by omega) (by unfold scr; omega)
theorem MR_fFirm {μ S0 S : ST} (h : MS μ S0 S) : S 1000 40 = 1040 := by have := h.2.2 40 (by unfold arrF; omega); omega
theorem MS_fFirm {μ S0 S : ST} (h : MS μ S0 S) (j : Int) : S 1040 j = μ 1040 j := h.2.1 1040 j (by omega) (by unfold scr; omega)
theorem MR_fSubject {μ S0 S : ST} (h : MS μ S0 S) : S 1000 41 = 1041 := by have := h.2.2 41 (by unfold arrF; omega); omega
theorem MS_fSubject {μ S0 S : ST} (h : MS μ S0 S) (j : Int) : S 1041 j = μ 1041 j := h.2.1 1041 j (by omega) (by unfold scr; omega)
theorem MR_fDay {μ S0 S : ST} (h : MS μ S0 S) : S 1000 42 = 1042 := by have := h.2.2 42 (by unfold arrF; omega); omega
theorem MS_fDay {μ S0 S : ST} (h : MS μ S0 S) (j : Int) : S 1042 j = μ 1042 j := h.2.1 1042 j (by omega) (by unfold scr; omega)
theorem MR_fN {μ S0 S : ST} (h : MS μ S0 S) : S 1000 43 = 1043 := by have := h.2.2 43 (by unfold arrF; omega); omega
theorem MS_fN {μ S0 S : ST} (h : MS μ S0 S) (j : Int) : S 1043 j = μ 1043 j := h.2.1 1043 j (by omega) (by unfold scr; omega)
theorem MR_result {μ S0 S : ST} (h : MS μ S0 S) : S 1000 44 = 1044 := by have := h.2.2 44 (by unfold arrF; omega); omega
theorem MS_result {μ S0 S : ST} (h : MS μ S0 S) (j : Int) : S 1044 j = μ 1044 j := h.2.1 1044 j (by omega) (by unfold scr; omega)
theorem MR_rFrom {μ S0 S : ST} (h : MS μ S0 S) : S 1000 45 = 1045 := by have := h.2.2 45 (by unfold arrF; omega); omega
theorem MS_rFrom {μ S0 S : ST} (h : MS μ S0 S) (j : Int) : S 1045 j = μ 1045 j := h.2.1 1045 j (by omega) (by unfold scr; omega)
theorem MR_rTold {μ S0 S : ST} (h : MS μ S0 S) : S 1000 46 = 1046 := by have := h.2.2 46 (by unfold arrF; omega); omega
theorem MS_rTold {μ S0 S : ST} (h : MS μ S0 S) (j : Int) : S 1046 j = μ 1046 j := h.2.1 1046 j (by omega) (by unfold scr; omega)
theorem MR_rStruck {μ S0 S : ST} (h : MS μ S0 S) : S 1000 47 = 1047 := by have := h.2.2 47 (by unfold arrF; omega); omega
theorem MS_rStruck {μ S0 S : ST} (h : MS μ S0 S) (j : Int) : S 1047 j = μ 1047 j := h.2.1 1047 j (by omega) (by unfold scr; omega)
theorem MR_rCode {μ S0 S : ST} (h : MS μ S0 S) : S 1000 48 = 1048 := by have := h.2.2 48 (by unfold arrF; omega); omega
theorem MS_rCode {μ S0 S : ST} (h : MS μ S0 S) (j : Int) : S 1048 j = μ 1048 j := h.2.1 1048 j (by omega) (by unfold scr; omega)
theorem MR_code {μ S0 S : ST} (h : MS μ S0 S) : S 1000 49 = 1049 := by have := h.2.2 49 (by unfold arrF; omega); omega
theorem MS_code {μ S0 S : ST} (h : MS μ S0 S) (j : Int) : S 1049 j = μ 1049 j := h.2.1 1049 j (by omega) (by unfold scr; omega)
theorem MR_leftField {μ S0 S : ST} (h : MS μ S0 S) : S 1000 50 = 1050 := by have := h.2.2 50 (by unfold arrF; omega); omega
theorem MS_leftField {μ S0 S : ST} (h : MS μ S0 S) (j : Int) : S 1050 j = μ 1050 j := h.2.1 1050 j (by omega) (by unfold scr; omega)
theorem MR_leftBy {μ S0 S : ST} (h : MS μ S0 S) : S 1000 51 = 1051 := by have := h.2.2 51 (by unfold arrF; omega); omega
theorem MS_leftBy {μ S0 S : ST} (h : MS μ S0 S) (j : Int) : S 1051 j = μ 1051 j := h.2.1 1051 j (by omega) (by unfold scr; omega)
theorem MR_sign {μ S0 S : ST} (h : MS μ S0 S) : S 1000 52 = 1052 := by have := h.2.2 52 (by unfold arrF; omega); omega
theorem MS_sign {μ S0 S : ST} (h : MS μ S0 S) (j : Int) : S 1052 j = μ 1052 j := h.2.1 1052 j (by omega) (by unfold scr; omega)
theorem MR_rightField {μ S0 S : ST} (h : MS μ S0 S) : S 1000 53 = 1053 := by have := h.2.2 53 (by unfold arrF; omega); omega
theorem MS_rightField {μ S0 S : ST} (h : MS μ S0 S) (j : Int) : S 1053 j = μ 1053 j := h.2.1 1053 j (by omega) (by unfold scr; omega)
theorem MR_rightBy {μ S0 S : ST} (h : MS μ S0 S) : S 1000 54 = 1054 := by have := h.2.2 54 (by unfold arrF; omega); omega
theorem MS_rightBy {μ S0 S : ST} (h : MS μ S0 S) (j : Int) : S 1054 j = μ 1054 j := h.2.1 1054 j (by omega) (by unfold scr; omega)
theorem MR_kin {μ S0 S : ST} (h : MS μ S0 S) : S 1000 55 = 1055 := by have := h.2.2 55 (by unfold arrF; omega); omega
theorem MS_kin {μ S0 S : ST} (h : MS μ S0 S) (j : Int) : S 1055 j = μ 1055 j := h.2.1 1055 j (by omega) (by unfold scr; omega)
theorem MR_uFirm {μ S0 S : ST} (h : MS μ S0 S) : S 1000 56 = 1056 := by have := h.2.2 56 (by unfold arrF; omega); omega
theorem MS_uFirm {μ S0 S : ST} (h : MS μ S0 S) (j : Int) : S 1056 j = μ 1056 j := h.2.1 1056 j (by omega) (by unfold scr; omega)
theorem MR_uMedium {μ S0 S : ST} (h : MS μ S0 S) : S 1000 57 = 1057 := by have := h.2.2 57 (by unfold arrF; omega); omega
theorem MS_uMedium {μ S0 S : ST} (h : MS μ S0 S) (j : Int) : S 1057 j = μ 1057 j := h.2.1 1057 j (by omega) (by unfold scr; omega)
theorem MR_uKind {μ S0 S : ST} (h : MS μ S0 S) : S 1000 58 = 1058 := by have := h.2.2 58 (by unfold arrF; omega); omega
theorem MS_uKind {μ S0 S : ST} (h : MS μ S0 S) (j : Int) : S 1058 j = μ 1058 j := h.2.1 1058 j (by omega) (by unfold scr; omega)
theorem MR_uSubject {μ S0 S : ST} (h : MS μ S0 S) : S 1000 59 = 1059 := by have := h.2.2 59 (by unfold arrF; omega); omega
theorem MS_uSubject {μ S0 S : ST} (h : MS μ S0 S) (j : Int) : S 1059 j = μ 1059 j := h.2.1 1059 j (by omega) (by unfold scr; omega)
theorem MR_uNumber {μ S0 S : ST} (h : MS μ S0 S) : S 1000 60 = 1060 := by have := h.2.2 60 (by unfold arrF; omega); omega
theorem MS_uNumber {μ S0 S : ST} (h : MS μ S0 S) (j : Int) : S 1060 j = μ 1060 j := h.2.1 1060 j (by omega) (by unfold scr; omega)
theorem MR_uDay {μ S0 S : ST} (h : MS μ S0 S) : S 1000 61 = 1061 := by have := h.2.2 61 (by unfold arrF; omega); omega
theorem MS_uDay {μ S0 S : ST} (h : MS μ S0 S) (j : Int) : S 1061 j = μ 1061 j := h.2.1 1061 j (by omega) (by unfold scr; omega)
theorem MR_uBar {μ S0 S : ST} (h : MS μ S0 S) : S 1000 62 = 1062 := by have := h.2.2 62 (by unfold arrF; omega); omega
theorem MS_uBar {μ S0 S : ST} (h : MS μ S0 S) (j : Int) : S 1062 j = μ 1062 j := h.2.1 1062 j (by omega) (by unfold scr; omega)
theorem MR_uNot {μ S0 S : ST} (h : MS μ S0 S) : S 1000 63 = 1063 := by have := h.2.2 63 (by unfold arrF; omega); omega
theorem MS_uNot {μ S0 S : ST} (h : MS μ S0 S) (j : Int) : S 1063 j = μ 1063 j := h.2.1 1063 j (by omega) (by unfold scr; omega)
theorem MR_uBinding {μ S0 S : ST} (h : MS μ S0 S) : S 1000 64 = 1064 := by have := h.2.2 64 (by unfold arrF; omega); omega
theorem MS_uBinding {μ S0 S : ST} (h : MS μ S0 S) (j : Int) : S 1064 j = μ 1064 j := h.2.1 1064 j (by omega) (by unfold scr; omega)
theorem MR_uState {μ S0 S : ST} (h : MS μ S0 S) : S 1000 65 = 1065 := by have := h.2.2 65 (by unfold arrF; omega); omega
theorem MS_uState {μ S0 S : ST} (h : MS μ S0 S) (j : Int) : S 1065 j = μ 1065 j := h.2.1 1065 j (by omega) (by unfold scr; omega)
theorem MR_uCounted {μ S0 S : ST} (h : MS μ S0 S) : S 1000 66 = 1066 := by have := h.2.2 66 (by unfold arrF; omega); omega
theorem MS_uCounted {μ S0 S : ST} (h : MS μ S0 S) (j : Int) : S 1066 j = μ 1066 j := h.2.1 1066 j (by omega) (by unfold scr; omega)
theorem MR_uBars {μ S0 S : ST} (h : MS μ S0 S) : S 1000 67 = 1067 := by have := h.2.2 67 (by unfold arrF; omega); omega
theorem MS_uBars {μ S0 S : ST} (h : MS μ S0 S) (j : Int) : S 1067 j = μ 1067 j := h.2.1 1067 j (by omega) (by unfold scr; omega)
theorem MR_uAgain {μ S0 S : ST} (h : MS μ S0 S) : S 1000 68 = 1068 := by have := h.2.2 68 (by unfold arrF; omega); omega
theorem MS_uAgain {μ S0 S : ST} (h : MS μ S0 S) (j : Int) : S 1068 j = μ 1068 j := h.2.1 1068 j (by omega) (by unfold scr; omega)
theorem MR_uAppealed {μ S0 S : ST} (h : MS μ S0 S) : S 1000 69 = 1069 := by have := h.2.2 69 (by unfold arrF; omega); omega
theorem MS_uAppealed {μ S0 S : ST} (h : MS μ S0 S) (j : Int) : S 1069 j = μ 1069 j := h.2.1 1069 j (by omega) (by unfold scr; omega)
theorem MR_refused {μ S0 S : ST} (h : MS μ S0 S) : S 1000 70 = 1070 := by have := h.2.2 70 (by unfold arrF; omega); omega
theorem MS_refused {μ S0 S : ST} (h : MS μ S0 S) (j : Int) : S 1070 j = μ 1070 j := h.2.1 1070 j (by omega) (by unfold scr; omega)
theorem MR_kept {μ S0 S : ST} (h : MS μ S0 S) : S 1000 71 = 1071 := by have := h.2.2 71 (by unfold arrF; omega); omega
theorem MR_claimPhrase {μ S0 S : ST} (h : MS μ S0 S) : S 1000 73 = 1073 := by have := h.2.2 73 (by unfold arrF; omega); omega
theorem MR_claimPlace {μ S0 S : ST} (h : MS μ S0 S) : S 1000 74 = 1074 := by have := h.2.2 74 (by unfold arrF; omega); omega
theorem MR_ops {μ S0 S : ST} (h : MS μ S0 S) : S 1000 78 = 1078 := by have := h.2.2 78 (by unfold arrF; omega); omega
theorem MR_worths {μ S0 S : ST} (h : MS μ S0 S) : S 1000 79 = 1079 := by have := h.2.2 79 (by unfold arrF; omega); omega
theorem MR_isBad {μ S0 S : ST} (h : MS μ S0 S) : S 1000 89 = 1089 := by have := h.2.2 89 (by unfold arrF; omega); omega
theorem up_at (S : ST) (a i v b j : Int) : up S a i v b j = if b = a ∧ j = i then v else S b j := rfl
theorem MS_up {μ S0 S : ST} {a i v : Int} (h : MS μ S0 S) (ha : 1000 ≤ a) (hr : a ≠ 1000 ∨ ¬ arrF i) : MS (up μ a i v) S0 (up S a i v) := by
  refine ⟨fun b hb => by rw [up_na (by omega)]; exact h.1 b hb, fun b j hb hn => ?_, fun k hk => ?_⟩
  · rw [up_at, up_at]
    split
    · rfl
    · exact h.2.1 b j hb hn
  · rw [up_at, if_neg]
    · exact h.2.2 k hk
    · rintro ⟨e1, e2⟩
      rcases hr with hr | hr
      · exact hr e1.symm
      · exact hr (e2 ▸ hk)
theorem MS_scr {μ S0 S : ST} {a i v : Int} (h : MS μ S0 S) (hs : scr a i) : MS μ S0 (up S a i v) := by
  have ha : 1000 ≤ a := by unfold scr at hs; omega
  refine ⟨fun b hb => by rw [up_na (by omega)]; exact h.1 b hb, fun b j hb hn => ?_, fun k hk => ?_⟩
  · rw [up_at, if_neg]
    · exact h.2.1 b j hb hn
    · rintro ⟨rfl, rfl⟩
      exact hn hs
  · rw [up_at, if_neg]
    · exact h.2.2 k hk
    · rintro ⟨rfl, rfl⟩
      unfold scr at hs; unfold arrF at hk; omega
