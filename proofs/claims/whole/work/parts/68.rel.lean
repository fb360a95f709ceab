/-! THE RELATION: the class in the picture (ids below 1000), against the reference's memory -/
def encC : List Tok → List Int
  | [] => []
  | .inl (sg, l, r) :: ts => sg :: l :: r :: encC ts
  | .inr (.inl _) :: ts => 33 :: encC ts
  | .inr (.inr true) :: ts => 38 :: encC ts
  | .inr (.inr false) :: ts => 124 :: encC ts
def CK (K : KT) : Prop := K 1 = (13, 14) ∧ K 7 = (90, 0) ∧ K 40 = (1, 3) ∧ K 41 = (1, 3) ∧ K 42 = (1, 3) ∧ K 43 = (6, 3) ∧ K 44 = (1, 3) ∧ K 45 = (3, 3) ∧ K 46 = (100, 9) ∧ K 47 = (1, 3) ∧ K 48 = (9, 7) ∧ K 49 = (100, 60) ∧ K 50 = (100, 60) ∧ K 51 = (7, 3) ∧ K 52 = (112, 24) ∧ K 53 = (100, 24) ∧ K 54 = (100, 10) ∧ K 55 = (100, 20) ∧ K 56 = (100, 7) ∧ K 57 = (111, 8) ∧ (K 8).1 = 91 ∧ ∀ s, 0 ≤ s → s < 8 → K (20 + s) = (11, 5) ∧ K (30 + s) = (101, 60)
def CF (S : ST) : Prop := S 1 0 = 57 ∧ S 1 1 = 40 ∧ S 1 2 = 41 ∧ S 1 3 = 42 ∧ S 1 4 = 43 ∧ S 1 5 = 45 ∧ S 1 6 = 48 ∧ S 1 7 = 51 ∧ S 1 8 = 54 ∧ S 1 9 = 55 ∧ S 1 10 = 56 ∧ S 43 0 = 44 ∧ S 45 0 = 46 ∧ S 45 2 = 47 ∧ S 48 0 = 49 ∧ S 48 4 = 50 ∧ S 51 0 = 52 ∧ S 51 1 = 53 ∧ ∀ s, 0 ≤ s → s < 8 → S 57 s = 20 + s ∧ S (20 + s) 0 = 30 + s
/-- a list at l: n elements g in a row, whose id tells its places -/
def Ls (K : KT) (S : ST) (l rb n : Int) (g : Int → Int) : Prop := S l 2 = n ∧ rowOk K (S l 1) ∧ n ≤ (K (S l 1)).2 ∧ (S l 1 = 7 ∨ S l 1 = rb + (K (S l 1)).2) ∧ (∀ i, 0 ≤ i → i < n → S (S l 1) i = g i) ∧ ∀ c, (K (S l 1)).2 < c → c < 60 → (K (rb + c)).1 = 0
def Rsh (μ : ST) (S : ST) : Prop := ∀ s, 0 ≤ s → s < 8 → S (20 + s) 1 = (if μ 1011 s = 1 then 1 else 0) ∧ S (20 + s) 2 = μ 1012 s ∧ S (20 + s) 3 = μ 1013 s ∧ S (20 + s) 4 = (if μ 1011 s = 2 then 130 + μ 1014 s else 0) ∧ ∀ i, 0 ≤ i → i < 60 → S (30 + s) i = μ 1018 (60 * s + i)
def RadE (μ : ST) (K : KT) (S : ST) (a : Int) : Prop := K (100 + a) = (2, 10) ∧ S (100 + a) 0 = μ 1020 a ∧ S (100 + a) 1 = μ 1021 a ∧ S (100 + a) 2 = 200 + a ∧ S (100 + a) 3 = μ 1027 a ∧ S (100 + a) 5 = μ 1024 a ∧ S (100 + a) 6 = μ 1025 a ∧ S (100 + a) 7 = μ 1026 a ∧ S (100 + a) 8 = 230 + a ∧ S (100 + a) 9 = 260 + a ∧ K (200 + a) = (100, μ 1022 a) ∧ K (230 + a) = (100, 8) ∧ K (260 + a) = (100, 8) ∧ S (100 + a) 4 < 0 ∧ K (S (100 + a) 4) = (100, μ 1023 a) ∧ (∀ j, 0 ≤ j → j < μ 1022 a → S (200 + a) j = μ 1028 (20 * a + j)) ∧ (∀ j, 0 ≤ j → j < μ 1023 a → S (S (100 + a) 4) j = μ 1029 (12 * a + j)) ∧ ∀ p, 0 ≤ p → p < 8 → S (230 + a) p = μ 1030 (24 * p + a) ∧ S (260 + a) p = μ 1031 (24 * p + a)
def Rad (μ : ST) (K : KT) (S : ST) : Prop := (0 ≤ μ 1000 1 ∧ μ 1000 1 ≤ 24) ∧ Ls K S 40 600 (μ 1000 1) (fun i => 100 + i) ∧ (∀ a, 0 ≤ a → a < μ 1000 1 → RadE μ K S a) ∧ ∀ a, μ 1000 1 ≤ a → a < 24 → (K (100 + a)).1 = 0 ∧ (K (200 + a)).1 = 0 ∧ (K (230 + a)).1 = 0 ∧ (K (260 + a)).1 = 0
def RphE (μ : ST) (K : KT) (S : ST) (p : Int) : Prop := K (130 + p) = (4, 6) ∧ S (130 + p) 0 = p ∧ S (130 + p) 1 = 170 + p ∧ S (130 + p) 2 = μ 1034 p ∧ S (130 + p) 3 = μ 1035 p ∧ S (130 + p) 4 = μ 1036 p ∧ S (130 + p) 5 = 150 + p ∧ K (150 + p) = (12, 3) ∧ S (150 + p) 0 = μ 1037 p ∧ S (150 + p) 1 = μ 1038 p ∧ S (150 + p) 2 = μ 1039 p ∧ K (170 + p) = (100, μ 1032 p) ∧ ∀ j, 0 ≤ j → j < μ 1032 p → S (170 + p) j = μ 1033 (6 * p + j)
def Rph (μ : ST) (K : KT) (S : ST) : Prop := (0 ≤ μ 1000 2 ∧ μ 1000 2 ≤ 20) ∧ Ls K S 41 660 (μ 1000 2) (fun i => 130 + i) ∧ (∀ p, 0 ≤ p → p < μ 1000 2 → RphE μ K S p) ∧ ∀ p, μ 1000 2 ≤ p → p < 20 → (K (130 + p)).1 = 0 ∧ (K (150 + p)).1 = 0 ∧ (K (170 + p)).1 = 0
def RpfE (μ : ST) (K : KT) (S : ST) (i : Int) : Prop := K (300 + i) = (5, 4) ∧ S (300 + i) 0 = μ 1040 i ∧ S (300 + i) 1 = μ 1041 i ∧ S (300 + i) 2 = μ 1042 i ∧ S (300 + i) 3 = 340 + i ∧ K (340 + i) = (100, μ 1043 i) ∧ ∀ j, 0 ≤ j → j < μ 1043 i → S (340 + i) j = μ 1044 (60 * i + j)
def Rpf (μ : ST) (K : KT) (S : ST) : Prop := (0 ≤ μ 1000 3 ∧ μ 1000 3 ≤ 40) ∧ Ls K S 44 780 (μ 1000 3) (fun i => 300 + i) ∧ (∀ i, 0 ≤ i → i < μ 1000 3 → RpfE μ K S i) ∧ (∀ i, μ 1000 3 ≤ i → i < 40 → (K (300 + i)).1 = 0 ∧ (K (340 + i)).1 = 0) ∧ S 43 1 = μ 1000 7 ∧ S 43 2 = μ 1000 8
def RruE (μ : ST) (R : RT) (K : KT) (S : ST) (r : Int) : Prop := K (400 + r) = (8, 2) ∧ S (400 + r) 0 = 440 + r ∧ S (400 + r) 1 = 420 + r ∧ K (420 + r) = (12, 3) ∧ S (420 + r) 0 = μ 1045 r ∧ S (420 + r) 1 = μ 1046 r ∧ S (420 + r) 2 = μ 1047 r ∧ K (440 + r) = (100, ((encC (R r)).length : Int)) ∧ ∀ j : Int, 0 ≤ j → j < (encC (R r)).length → S (440 + r) j = (encC (R r)).getD j.toNat 0
def Rru (μ : ST) (R : RT) (K : KT) (S : ST) : Prop := (0 ≤ μ 1000 4 ∧ μ 1000 4 ≤ 16) ∧ Ls K S 42 720 (μ 1000 4) (fun i => 400 + i) ∧ (∀ r, 0 ≤ r → r < μ 1000 4 → RruE μ R K S r) ∧ ∀ r, μ 1000 4 ≤ r → r < 16 → (K (400 + r)).1 = 0 ∧ (K (420 + r)).1 = 0 ∧ (K (440 + r)).1 = 0
def Rpn (μ : ST) (S : ST) : Prop := (0 ≤ μ 1000 5 ∧ μ 1000 5 ≤ 9) ∧ S 45 1 = μ 1000 5 ∧ ∀ j, 0 ≤ j → j < μ 1000 5 → S 46 j = μ 1055 j
def RulE (μ : ST) (K : KT) (S : ST) (u : Int) : Prop := K (500 + u) = (10, 14) ∧ S (500 + u) 0 = μ 1056 u ∧ S (500 + u) 1 = μ 1057 u ∧ S (500 + u) 2 = μ 1058 u ∧ S (500 + u) 3 = μ 1059 u ∧ S (500 + u) 4 = μ 1060 u ∧ S (500 + u) 5 = μ 1061 u ∧ S (500 + u) 6 = μ 1062 u ∧ S (500 + u) 7 = μ 1063 u ∧ S (500 + u) 8 = μ 1066 u ∧ S (500 + u) 9 = μ 1067 u ∧ S (500 + u) 10 = μ 1068 u ∧ S (500 + u) 11 = μ 1069 u ∧ S (500 + u) 12 = μ 1064 u ∧ S (500 + u) 13 = μ 1065 u
def Rul (μ : ST) (K : KT) (S : ST) : Prop := (0 ≤ μ 1000 6 ∧ μ 1000 6 ≤ 40) ∧ Ls K S 47 840 (μ 1000 6) (fun i => 500 + i) ∧ (∀ u, 0 ≤ u → u < μ 1000 6 → RulE μ K S u) ∧ ∀ u, μ 1000 6 ≤ u → u < 40 → (K (500 + u)).1 = 0
def Rno (μ : ST) (S : ST) : Prop := S 1 11 = μ 1000 0 ∧ S 1 12 = μ 1000 9 ∧ S 1 13 = μ 1000 10 ∧ ∀ j, 0 ≤ j → j < 7 → S 56 j = μ 1070 (j + 1)
def Rfr (K : KT) : Prop := ∃ f : Int, f ≤ 0 ∧ ∀ a, a < f → (K a).1 = 0
def Rc (μ : ST) (R : RT) (K : KT) (S : ST) : Prop := CK K ∧ CF S ∧ Rsh μ S ∧ Rad μ K S ∧ Rph μ K S ∧ Rpf μ K S ∧ Rru μ R K S ∧ Rpn μ S ∧ Rul μ K S ∧ Rno μ S ∧ Rfr K
theorem CK_1 {K : KT} (h : CK K) : K 1 = (13, 14) := h.1
theorem CK_7 {K : KT} (h : CK K) : K 7 = (90, 0) := h.2.1
theorem CK_40 {K : KT} (h : CK K) : K 40 = (1, 3) := h.2.2.1
theorem CK_41 {K : KT} (h : CK K) : K 41 = (1, 3) := h.2.2.2.1
theorem CK_42 {K : KT} (h : CK K) : K 42 = (1, 3) := h.2.2.2.2.1
theorem CK_43 {K : KT} (h : CK K) : K 43 = (6, 3) := h.2.2.2.2.2.1
theorem CK_44 {K : KT} (h : CK K) : K 44 = (1, 3) := h.2.2.2.2.2.2.1
theorem CK_45 {K : KT} (h : CK K) : K 45 = (3, 3) := h.2.2.2.2.2.2.2.1
theorem CK_46 {K : KT} (h : CK K) : K 46 = (100, 9) := h.2.2.2.2.2.2.2.2.1
theorem CK_47 {K : KT} (h : CK K) : K 47 = (1, 3) := h.2.2.2.2.2.2.2.2.2.1
theorem CK_48 {K : KT} (h : CK K) : K 48 = (9, 7) := h.2.2.2.2.2.2.2.2.2.2.1
theorem CK_49 {K : KT} (h : CK K) : K 49 = (100, 60) := h.2.2.2.2.2.2.2.2.2.2.2.1
theorem CK_50 {K : KT} (h : CK K) : K 50 = (100, 60) := h.2.2.2.2.2.2.2.2.2.2.2.2.1
theorem CK_51 {K : KT} (h : CK K) : K 51 = (7, 3) := h.2.2.2.2.2.2.2.2.2.2.2.2.2.1
theorem CK_52 {K : KT} (h : CK K) : K 52 = (112, 24) := h.2.2.2.2.2.2.2.2.2.2.2.2.2.2.1
theorem CK_53 {K : KT} (h : CK K) : K 53 = (100, 24) := h.2.2.2.2.2.2.2.2.2.2.2.2.2.2.2.1
theorem CK_54 {K : KT} (h : CK K) : K 54 = (100, 10) := h.2.2.2.2.2.2.2.2.2.2.2.2.2.2.2.2.1
theorem CK_55 {K : KT} (h : CK K) : K 55 = (100, 20) := h.2.2.2.2.2.2.2.2.2.2.2.2.2.2.2.2.2.1
theorem CK_56 {K : KT} (h : CK K) : K 56 = (100, 7) := h.2.2.2.2.2.2.2.2.2.2.2.2.2.2.2.2.2.2.1
theorem CK_57 {K : KT} (h : CK K) : K 57 = (111, 8) := h.2.2.2.2.2.2.2.2.2.2.2.2.2.2.2.2.2.2.2.1
theorem CK_8 {K : KT} (h : CK K) : (K 8).1 = 91 := h.2.2.2.2.2.2.2.2.2.2.2.2.2.2.2.2.2.2.2.2.1
theorem CK_sh {K : KT} (h : CK K) {s : Int} (h0 : 0 ≤ s) (h1 : s < 8) : K (20 + s) = (11, 5) ∧ K (30 + s) = (101, 60) := h.2.2.2.2.2.2.2.2.2.2.2.2.2.2.2.2.2.2.2.2.2 s h0 h1
theorem CF_1_0 {S : ST} (h : CF S) : S 1 0 = 57 := h.1
theorem CF_1_1 {S : ST} (h : CF S) : S 1 1 = 40 := h.2.1
theorem CF_1_2 {S : ST} (h : CF S) : S 1 2 = 41 := h.2.2.1
theorem CF_1_3 {S : ST} (h : CF S) : S 1 3 = 42 := h.2.2.2.1
theorem CF_1_4 {S : ST} (h : CF S) : S 1 4 = 43 := h.2.2.2.2.1
theorem CF_1_5 {S : ST} (h : CF S) : S 1 5 = 45 := h.2.2.2.2.2.1
theorem CF_1_6 {S : ST} (h : CF S) : S 1 6 = 48 := h.2.2.2.2.2.2.1
theorem CF_1_7 {S : ST} (h : CF S) : S 1 7 = 51 := h.2.2.2.2.2.2.2.1
theorem CF_1_8 {S : ST} (h : CF S) : S 1 8 = 54 := h.2.2.2.2.2.2.2.2.1
theorem CF_1_9 {S : ST} (h : CF S) : S 1 9 = 55 := h.2.2.2.2.2.2.2.2.2.1
theorem CF_1_10 {S : ST} (h : CF S) : S 1 10 = 56 := h.2.2.2.2.2.2.2.2.2.2.1
theorem CF_43_0 {S : ST} (h : CF S) : S 43 0 = 44 := h.2.2.2.2.2.2.2.2.2.2.2.1
theorem CF_45_0 {S : ST} (h : CF S) : S 45 0 = 46 := h.2.2.2.2.2.2.2.2.2.2.2.2.1
theorem CF_45_2 {S : ST} (h : CF S) : S 45 2 = 47 := h.2.2.2.2.2.2.2.2.2.2.2.2.2.1
theorem CF_48_0 {S : ST} (h : CF S) : S 48 0 = 49 := h.2.2.2.2.2.2.2.2.2.2.2.2.2.2.1
theorem CF_48_4 {S : ST} (h : CF S) : S 48 4 = 50 := h.2.2.2.2.2.2.2.2.2.2.2.2.2.2.2.1
theorem CF_51_0 {S : ST} (h : CF S) : S 51 0 = 52 := h.2.2.2.2.2.2.2.2.2.2.2.2.2.2.2.2.1
theorem CF_51_1 {S : ST} (h : CF S) : S 51 1 = 53 := h.2.2.2.2.2.2.2.2.2.2.2.2.2.2.2.2.2.1
theorem CF_sh {S : ST} (h : CF S) {s : Int} (h0 : 0 ≤ s) (h1 : s < 8) : S 57 s = 20 + s ∧ S (20 + s) 0 = 30 + s := h.2.2.2.2.2.2.2.2.2.2.2.2.2.2.2.2.2.2 s h0 h1
/-! what each part looks at -/
theorem Ls_f {K K' : KT} {S S' : ST} {l rb n : Int} {g : Int → Int} (h : Ls K S l rb n g) (e1 : S' l = S l) (e2 : S' (S l 1) = S (S l 1)) (e3 : K' (S l 1) = K (S l 1)) (e4 : ∀ c, (K (rb + c)).1 = 0 → 0 < c → c < 60 → (K' (rb + c)).1 = 0) (e7 : K' 7 = K 7) : Ls K' S' l rb n g := by
  obtain ⟨h1, h2, h3, h4, h5, h6⟩ := h
  have hr : rowOk K' (S l 1) := by
    unfold rowOk at h2 ⊢
    rw [e3, e7]; exact h2
  have hc : 0 ≤ (K (S l 1)).2 := by
    rcases h2 with ⟨a, b⟩ | ⟨a, b, c⟩
    · rw [a, b]; decide
    · omega
  refine ⟨by rw [e1]; exact h1, by rw [e1]; exact hr, by rw [e1, e3]; exact h3, by rw [e1, e3]; exact h4, fun i a b => by rw [e1, e2]; exact h5 i a b, fun c a b => ?_⟩
  rw [e1, e3] at a
  exact e4 c (h6 c a b) (by omega) b
theorem Ls_row {K : KT} {S : ST} {l rb n : Int} {g : Int → Int} (h : Ls K S l rb n g) : S l 1 = 7 ∨ (rb < S l 1 ∧ S l 1 < rb + 60) := by
  obtain ⟨h1, h2, h3, h4, h5, h6⟩ := h
  rcases h2 with ⟨a, b⟩ | ⟨a, b, c⟩
  · exact Or.inl a
  · rcases h4 with h4 | h4
    · exact Or.inl h4
    · exact Or.inr (by omega)
theorem Rsh_f {μ : ST} {S S' : ST} (h : Rsh μ S) (e : ∀ a, 20 ≤ a → a < 38 → S' a = S a) : Rsh μ S' := by
  unfold Rsh at h ⊢; intro s a b
  rw [e (20 + s) (by omega) (by omega), e (30 + s) (by omega) (by omega)]
  exact h s a b

def dAd (a : Int) : Prop := a = 40 ∨ (100 ≤ a ∧ a < 130) ∨ (200 ≤ a ∧ a < 230) ∨ (230 ≤ a ∧ a < 260) ∨ (260 ≤ a ∧ a < 290) ∨ (600 < a ∧ a < 660) ∨ a = 7
theorem Rad_f {μ : ST} {K K' : KT} {S S' : ST} (h : Rad μ K S) (e : ∀ a, dAd a → K' a = K a ∧ S' a = S a) (en : ∀ a, a < 0 → (K a).1 ≠ 0 → K' a = K a ∧ S' a = S a) : Rad μ K' S' := by
  obtain ⟨h0, h1, h2, h3⟩ := h
  refine ⟨h0, Ls_f h1 (e 40 (by unfold dAd; omega)).2 ?_ ?_ (fun c q c0 c1 => by rw [(e (600 + c) (by unfold dAd; omega)).1]; exact q) (e 7 (by unfold dAd; omega)).1, fun a a0 a1 => ?_, fun a a0 a1 => ?_⟩
  · exact (e _ (by have := Ls_row h1; unfold dAd; omega)).2
  · exact (e _ (by have := Ls_row h1; unfold dAd; omega)).1
  · have g := h2 a a0 a1
    unfold RadE at g ⊢
    have hk : K (S (100 + a) 4) = (100, μ 1023 a) := g.2.2.2.2.2.2.2.2.2.2.2.2.2.2.1
    have hn : S (100 + a) 4 < 0 := g.2.2.2.2.2.2.2.2.2.2.2.2.2.1
    rw [(e (100 + a) (by unfold dAd; omega)).1, (e (100 + a) (by unfold dAd; omega)).2, (e (200 + a) (by unfold dAd; omega)).1, (e (200 + a) (by unfold dAd; omega)).2, (e (230 + a) (by unfold dAd; omega)).1, (e (230 + a) (by unfold dAd; omega)).2, (e (260 + a) (by unfold dAd; omega)).1, (e (260 + a) (by unfold dAd; omega)).2, (en _ hn (by rw [hk]; show (100 : Int) ≠ 0; decide)).1, (en _ hn (by rw [hk]; show (100 : Int) ≠ 0; decide)).2]
    exact g
  · rw [(e (100 + a) (by unfold dAd; omega)).1, (e (200 + a) (by unfold dAd; omega)).1, (e (230 + a) (by unfold dAd; omega)).1, (e (260 + a) (by unfold dAd; omega)).1]
    exact h3 a a0 a1
def dPh (a : Int) : Prop := a = 41 ∨ (130 ≤ a ∧ a < 150) ∨ (150 ≤ a ∧ a < 170) ∨ (170 ≤ a ∧ a < 190) ∨ (660 < a ∧ a < 720) ∨ a = 7
theorem Rph_f {μ : ST} {K K' : KT} {S S' : ST} (h : Rph μ K S) (e : ∀ a, dPh a → K' a = K a ∧ S' a = S a) : Rph μ K' S' := by
  obtain ⟨h0, h1, h2, h3⟩ := h
  refine ⟨h0, Ls_f h1 (e 41 (by unfold dPh; omega)).2 ?_ ?_ (fun c q c0 c1 => by rw [(e (660 + c) (by unfold dPh; omega)).1]; exact q) (e 7 (by unfold dPh; omega)).1, fun a a0 a1 => ?_, fun a a0 a1 => ?_⟩
  · exact (e _ (by have := Ls_row h1; unfold dPh; omega)).2
  · exact (e _ (by have := Ls_row h1; unfold dPh; omega)).1
  · have g := h2 a a0 a1
    unfold RphE at g ⊢
    rw [(e (130 + a) (by unfold dPh; omega)).1, (e (130 + a) (by unfold dPh; omega)).2, (e (150 + a) (by unfold dPh; omega)).1, (e (150 + a) (by unfold dPh; omega)).2, (e (170 + a) (by unfold dPh; omega)).1, (e (170 + a) (by unfold dPh; omega)).2]
    exact g
  · rw [(e (130 + a) (by unfold dPh; omega)).1, (e (150 + a) (by unfold dPh; omega)).1, (e (170 + a) (by unfold dPh; omega)).1]
    exact h3 a a0 a1
def dPf (a : Int) : Prop := a = 44 ∨ a = 43 ∨ (300 ≤ a ∧ a < 340) ∨ (340 ≤ a ∧ a < 380) ∨ (780 < a ∧ a < 840) ∨ a = 7
theorem Rpf_f {μ : ST} {K K' : KT} {S S' : ST} (h : Rpf μ K S) (e : ∀ a, dPf a → K' a = K a ∧ S' a = S a) : Rpf μ K' S' := by
  obtain ⟨h0, h1, h2, h3, h4⟩ := h
  refine ⟨h0, Ls_f h1 (e 44 (by unfold dPf; omega)).2 ?_ ?_ (fun c q c0 c1 => by rw [(e (780 + c) (by unfold dPf; omega)).1]; exact q) (e 7 (by unfold dPf; omega)).1, fun a a0 a1 => ?_, fun a a0 a1 => ?_, by rw [(e 43 (by unfold dPf; omega)).2]; exact h4.1, by rw [(e 43 (by unfold dPf; omega)).2]; exact h4.2⟩
  · exact (e _ (by have := Ls_row h1; unfold dPf; omega)).2
  · exact (e _ (by have := Ls_row h1; unfold dPf; omega)).1
  · have g := h2 a a0 a1
    unfold RpfE at g ⊢
    rw [(e (300 + a) (by unfold dPf; omega)).1, (e (300 + a) (by unfold dPf; omega)).2, (e (340 + a) (by unfold dPf; omega)).1, (e (340 + a) (by unfold dPf; omega)).2]
    exact g
  · rw [(e (300 + a) (by unfold dPf; omega)).1, (e (340 + a) (by unfold dPf; omega)).1]
    exact h3 a a0 a1
def dRu (a : Int) : Prop := a = 42 ∨ (400 ≤ a ∧ a < 420) ∨ (420 ≤ a ∧ a < 440) ∨ (440 ≤ a ∧ a < 460) ∨ (720 < a ∧ a < 780) ∨ a = 7
theorem Rru_f {μ : ST} {R : RT} {K K' : KT} {S S' : ST} (h : Rru μ R K S) (e : ∀ a, dRu a → K' a = K a ∧ S' a = S a) : Rru μ R K' S' := by
  obtain ⟨h0, h1, h2, h3⟩ := h
  refine ⟨h0, Ls_f h1 (e 42 (by unfold dRu; omega)).2 ?_ ?_ (fun c q c0 c1 => by rw [(e (720 + c) (by unfold dRu; omega)).1]; exact q) (e 7 (by unfold dRu; omega)).1, fun a a0 a1 => ?_, fun a a0 a1 => ?_⟩
  · exact (e _ (by have := Ls_row h1; unfold dRu; omega)).2
  · exact (e _ (by have := Ls_row h1; unfold dRu; omega)).1
  · have g := h2 a a0 a1
    unfold RruE at g ⊢
    rw [(e (400 + a) (by unfold dRu; omega)).1, (e (400 + a) (by unfold dRu; omega)).2, (e (420 + a) (by unfold dRu; omega)).1, (e (420 + a) (by unfold dRu; omega)).2, (e (440 + a) (by unfold dRu; omega)).1, (e (440 + a) (by unfold dRu; omega)).2]
    exact g
  · rw [(e (400 + a) (by unfold dRu; omega)).1, (e (420 + a) (by unfold dRu; omega)).1, (e (440 + a) (by unfold dRu; omega)).1]
    exact h3 a a0 a1
def dUl (a : Int) : Prop := a = 47 ∨ (500 ≤ a ∧ a < 540) ∨ (840 < a ∧ a < 900) ∨ a = 7
theorem Rul_f {μ : ST} {K K' : KT} {S S' : ST} (h : Rul μ K S) (e : ∀ a, dUl a → K' a = K a ∧ S' a = S a) : Rul μ K' S' := by
  obtain ⟨h0, h1, h2, h3⟩ := h
  refine ⟨h0, Ls_f h1 (e 47 (by unfold dUl; omega)).2 ?_ ?_ (fun c q c0 c1 => by rw [(e (840 + c) (by unfold dUl; omega)).1]; exact q) (e 7 (by unfold dUl; omega)).1, fun a a0 a1 => ?_, fun a a0 a1 => ?_⟩
  · exact (e _ (by have := Ls_row h1; unfold dUl; omega)).2
  · exact (e _ (by have := Ls_row h1; unfold dUl; omega)).1
  · have g := h2 a a0 a1
    unfold RulE at g ⊢
    rw [(e (500 + a) (by unfold dUl; omega)).1, (e (500 + a) (by unfold dUl; omega)).2]
    exact g
  · rw [(e (500 + a) (by unfold dUl; omega)).1]
    exact h3 a a0 a1
theorem Rpn_f {μ : ST} {S S' : ST} (h : Rpn μ S) (e1 : S' 45 = S 45) (e2 : S' 46 = S 46) : Rpn μ S' := by unfold Rpn at h ⊢; rw [e1, e2]; exact h
theorem Rno_f {μ : ST} {S S' : ST} (h : Rno μ S) (e1 : S' 1 = S 1) (e2 : S' 56 = S 56) : Rno μ S' := by unfold Rno at h ⊢; rw [e1, e2]; exact h
theorem CK_f {K K' : KT} (h : CK K) (e : ∀ a, 0 ≤ a → a < 60 → K' a = K a) : CK K' := by
  have hs := fun s a b => CK_sh h (s := s) a b
  unfold CK at h ⊢
  simp (disch := omega) only [e]
  exact ⟨h.1, h.2.1, h.2.2.1, h.2.2.2.1, h.2.2.2.2.1, h.2.2.2.2.2.1, h.2.2.2.2.2.2.1, h.2.2.2.2.2.2.2.1, h.2.2.2.2.2.2.2.2.1, h.2.2.2.2.2.2.2.2.2.1, h.2.2.2.2.2.2.2.2.2.2.1, h.2.2.2.2.2.2.2.2.2.2.2.1, h.2.2.2.2.2.2.2.2.2.2.2.2.1, h.2.2.2.2.2.2.2.2.2.2.2.2.2.1, h.2.2.2.2.2.2.2.2.2.2.2.2.2.2.1, h.2.2.2.2.2.2.2.2.2.2.2.2.2.2.2.1, h.2.2.2.2.2.2.2.2.2.2.2.2.2.2.2.2.1, h.2.2.2.2.2.2.2.2.2.2.2.2.2.2.2.2.2.1, h.2.2.2.2.2.2.2.2.2.2.2.2.2.2.2.2.2.2.1, h.2.2.2.2.2.2.2.2.2.2.2.2.2.2.2.2.2.2.2.1, h.2.2.2.2.2.2.2.2.2.2.2.2.2.2.2.2.2.2.2.2.1, fun s a b => by rw [e _ (by omega) (by omega), e _ (by omega) (by omega)]; exact hs s a b⟩
theorem CF_f {S S' : ST} (h : CF S) (e : ∀ a, a = 1 ∨ (20 ≤ a ∧ a < 28) ∨ a = 43 ∨ a = 45 ∨ a = 57 → S' a = S a) (e1 : S' 48 0 = S 48 0) (e2 : S' 48 4 = S 48 4) (e3 : S' 51 0 = S 51 0) (e4 : S' 51 1 = S 51 1) : CF S' := by
  have hs := fun s a b => CF_sh h (s := s) a b
  unfold CF at h ⊢
  simp (disch := omega) only [e, e1, e2, e3, e4]
  exact ⟨h.1, h.2.1, h.2.2.1, h.2.2.2.1, h.2.2.2.2.1, h.2.2.2.2.2.1, h.2.2.2.2.2.2.1, h.2.2.2.2.2.2.2.1, h.2.2.2.2.2.2.2.2.1, h.2.2.2.2.2.2.2.2.2.1, h.2.2.2.2.2.2.2.2.2.2.1, h.2.2.2.2.2.2.2.2.2.2.2.1, h.2.2.2.2.2.2.2.2.2.2.2.2.1, h.2.2.2.2.2.2.2.2.2.2.2.2.2.1, h.2.2.2.2.2.2.2.2.2.2.2.2.2.2.1, h.2.2.2.2.2.2.2.2.2.2.2.2.2.2.2.1, h.2.2.2.2.2.2.2.2.2.2.2.2.2.2.2.2.1, h.2.2.2.2.2.2.2.2.2.2.2.2.2.2.2.2.2.1, fun s a b => by rw [e (20 + s) (by omega)]; exact hs s a b⟩
/-- only what readings and rules' readers use as scratch has changed -/
def Scr (S S' : ST) : Prop := (∀ a, a < 1000 → (a < 48 ∨ 56 ≤ a) → S' a = S a) ∧ (∀ a, 1000 ≤ a → S' a = S a) ∧ S' 48 0 = S 48 0 ∧ S' 48 4 = S 48 4 ∧ S' 51 0 = S 51 0 ∧ S' 51 1 = S 51 1
theorem Scr_rfl (S : ST) : Scr S S := ⟨fun _ _ _ => rfl, fun _ _ => rfl, rfl, rfl, rfl, rfl⟩
theorem Scr_tr {S S' S'' : ST} (h : Scr S S') (g : Scr S' S'') : Scr S S'' := ⟨fun a a0 a1 => (g.1 a a0 a1).trans (h.1 a a0 a1), fun a a0 => (g.2.1 a a0).trans (h.2.1 a a0), g.2.2.1.trans h.2.2.1, g.2.2.2.1.trans h.2.2.2.1, g.2.2.2.2.1.trans h.2.2.2.2.1, g.2.2.2.2.2.trans h.2.2.2.2.2⟩
theorem CF_s {S S' : ST} (h : CF S) (e : Scr S S') : CF S' := CF_f h (fun a q => e.1 a (by omega) (by omega)) e.2.2.1 e.2.2.2.1 e.2.2.2.2.1 e.2.2.2.2.2
theorem Rc_s {μ : ST} {R : RT} {K : KT} {S S' : ST} (h : Rc μ R K S) (e : Scr S S') : Rc μ R K S' := by
  obtain ⟨h1, h2, h3, h4, h5, h6, h7, h8, h9, h10, h11⟩ := h
  exact ⟨h1, CF_s h2 e, Rsh_f h3 (fun a _ _ => e.1 a (by omega) (by omega)), Rad_f h4 (fun a q => ⟨rfl, e.1 a (by unfold dAd at q; omega) (by unfold dAd at q; omega)⟩) (fun a q _ => ⟨rfl, e.1 a (by omega) (by omega)⟩), Rph_f h5 (fun a q => ⟨rfl, e.1 a (by unfold dPh at q; omega) (by unfold dPh at q; omega)⟩), Rpf_f h6 (fun a q => ⟨rfl, e.1 a (by unfold dPf at q; omega) (by unfold dPf at q; omega)⟩), Rru_f h7 (fun a q => ⟨rfl, e.1 a (by unfold dRu at q; omega) (by unfold dRu at q; omega)⟩), Rpn_f h8 (e.1 45 (by omega) (by omega)) (e.1 46 (by omega) (by omega)), Rul_f h9 (fun a q => ⟨rfl, e.1 a (by unfold dUl at q; omega) (by unfold dUl at q; omega)⟩), Rno_f h10 (e.1 1 (by omega) (by omega)) (e.1 56 (by omega) (by omega)), h11⟩
/-- kinds in a range are those of the council -/
theorem Rc_ck {μ : ST} {R : RT} {K : KT} {S : ST} (h : Rc μ R K S) : CK K := h.1
theorem Rc_cf {μ : ST} {R : RT} {K : KT} {S : ST} (h : Rc μ R K S) : CF S := h.2.1
theorem Rc_sh {μ : ST} {R : RT} {K : KT} {S : ST} (h : Rc μ R K S) : Rsh μ S := h.2.2.1
theorem Rc_ad {μ : ST} {R : RT} {K : KT} {S : ST} (h : Rc μ R K S) : Rad μ K S := h.2.2.2.1
theorem Rc_ph {μ : ST} {R : RT} {K : KT} {S : ST} (h : Rc μ R K S) : Rph μ K S := h.2.2.2.2.1
theorem Rc_pf {μ : ST} {R : RT} {K : KT} {S : ST} (h : Rc μ R K S) : Rpf μ K S := h.2.2.2.2.2.1
theorem Rc_ru {μ : ST} {R : RT} {K : KT} {S : ST} (h : Rc μ R K S) : Rru μ R K S := h.2.2.2.2.2.2.1
theorem Rc_pn {μ : ST} {R : RT} {K : KT} {S : ST} (h : Rc μ R K S) : Rpn μ S := h.2.2.2.2.2.2.2.1
theorem Rc_ul {μ : ST} {R : RT} {K : KT} {S : ST} (h : Rc μ R K S) : Rul μ K S := h.2.2.2.2.2.2.2.2.1
theorem Rc_no {μ : ST} {R : RT} {K : KT} {S : ST} (h : Rc μ R K S) : Rno μ S := h.2.2.2.2.2.2.2.2.2.1
theorem Rc_fr {μ : ST} {R : RT} {K : KT} {S : ST} (h : Rc μ R K S) : Rfr K := h.2.2.2.2.2.2.2.2.2.2