/-! INVARIANTS KEPT: what the reference's memory always says, behind every call -/
theorem Iv0_f {μ μ' : ST} (h : Iv0 μ) (e : ∀ i, i ≤ 8 → μ' 1000 i = μ 1000 i) : Iv0 μ' := by
  unfold Iv0 at h ⊢; simp (disch := omega) only [e]; exact h
theorem IvS_f {μ μ' : ST} (h : IvS μ) (e : ∀ a, 1011 ≤ a → a ≤ 1017 → μ' a = μ a) : IvS μ' := by
  unfold IvS at h ⊢; simp (disch := omega) only [e]; exact h
theorem IvA_f {μ μ' : ST} (h : IvA μ) (e0 : μ' 1000 1 = μ 1000 1) (e : ∀ a, 1020 ≤ a → a ≤ 1026 → μ' a = μ a) : IvA μ' := by
  unfold IvA at h ⊢; simp (disch := omega) only [e, e0]; exact h
theorem IvP_f {μ μ' : ST} (h : IvP μ) (e0 : μ' 1000 2 = μ 1000 2) (e : ∀ a, a = 1032 ∨ (1034 ≤ a ∧ a ≤ 1036) → μ' a = μ a) : IvP μ' := by
  unfold IvP at h ⊢; simp (disch := omega) only [e, e0]; exact h
theorem IvF_f {μ μ' : ST} (h : IvF μ) (e0 : μ' 1000 3 = μ 1000 3) (e : ∀ a, 1043 ≤ a → a ≤ 1044 → μ' a = μ a) : IvF μ' := by
  unfold IvF at h ⊢; simp (disch := omega) only [e, e0]; exact h
theorem IvK_f {μ μ' : ST} (h : IvK μ) (e0 : μ' 1000 5 = μ 1000 5) (e : μ' 1055 = μ 1055) : IvK μ' := by
  unfold IvK at h ⊢; rw [e, e0]; exact h
theorem IvU_f {μ μ' : ST} (h : IvU μ) (e0 : μ' 1000 6 = μ 1000 6) (e : ∀ a, 1060 ≤ a → a ≤ 1068 → μ' a = μ a) : IvU μ' := by
  unfold IvU at h ⊢; simp (disch := omega) only [e, e0]; exact h
theorem IvR_f {μ μ' : ST} {R : RT} (h : IvR μ R) (e0 : μ' 1000 4 = μ 1000 4) (e : ∀ a, 1048 ≤ a → a ≤ 1054 → μ' a = μ a) : IvR μ' R := by
  intro r a b
  rw [e0] at b
  have g := h r a b
  exact ⟨by rw [e 1048 (by omega) (by omega)]; exact g.1, g.2.1, EncM_rows (fun a _ _ => e a (by omega) (by omega)) _ _ _ g.2.2.1, g.2.2.2⟩
/-- what is not told yet, and the claims that shelves keep -/
def IvC (μ : ST) : Prop := (∀ a, μ 1000 1 ≤ a → a < 24 → μ 1023 a = 0 ∧ μ 1024 a = 0 ∧ μ 1025 a = 0 ∧ μ 1026 a = 0 ∧ ∀ p, 0 ≤ p → p < 8 → μ 1030 (24 * p + a) = -1 ∧ μ 1031 (24 * p + a) = -1) ∧ (∀ s, 0 ≤ s → s < 8 → μ 1011 s = 2 → 0 ≤ μ 1014 s ∧ μ 1014 s < μ 1000 2 ∧ μ 1015 s = μ 1034 (μ 1014 s) ∧ μ 1016 s = μ 1035 (μ 1014 s) ∧ μ 1017 s = μ 1036 (μ 1014 s)) ∧ (∀ r, μ 1000 6 ≤ r → r < 40 → μ 1069 r = 0)
theorem IvC_f {μ μ' : ST} (h : IvC μ) (e1 : μ' 1000 1 = μ 1000 1) (e2 : μ' 1000 2 = μ 1000 2) (e6 : μ' 1000 6 = μ 1000 6) (e : ∀ a, a = 1011 ∨ (1014 ≤ a ∧ a ≤ 1017) ∨ (1023 ≤ a ∧ a ≤ 1026) ∨ a = 1030 ∨ a = 1031 ∨ (1034 ≤ a ∧ a ≤ 1036) ∨ a = 1069 → μ' a = μ a) : IvC μ' := by
  unfold IvC at h ⊢; simp (disch := omega) only [e, e1, e2, e6]; exact h
def IvB (μ : ST) (R : RT) : Prop := IvAll μ R ∧ IvC μ
theorem IvB_rf {μ : ST} {R : RT} {k : Int} (h : IvB μ R) : IvB (rf μ k) R := ⟨IvAll_rf h.1, IvC_f h.2 (by unfold rf; rw [up_na (by omega)]) (by unfold rf; rw [up_na (by omega)]) (by unfold rf; rw [up_na (by omega)]) (fun a ha => by unfold rf; rw [up_na (by omega)])⟩
theorem zrF_na {μ : ST} {s a : Int} (h : a ≠ 1018) : zrF μ s a = μ a := by funext i; exact if_neg (fun q => h q.1)
theorem toRowF {μ : ST} {id off s n a : Int} (h : a ≠ id) : toRow μ id off s n a = μ a := by funext x; exact if_neg (fun z => h z.1)
theorem putLF {μ : ST} {id off a : Int} {l : List Int} (h : a ≠ id) : putL μ id off l a = μ a := by funext x; exact if_neg (fun z => h z.1)
theorem cpyF_na {μ : ST} {p q i j n a : Int} (h : a ≠ 1018) : cpyF μ p q i j n a = μ a := by funext x; exact if_neg (fun z => h z.1)
/-- all but what is named -/
theorem IvB_f {μ μ' : ST} {R : RT} (h : IvB μ R) (e0 : ∀ i, i ≤ 8 → μ' 1000 i = μ 1000 i) (e : ∀ a, 1011 ≤ a → a ≤ 1069 → a ≠ 1018 → a ≠ 1019 → a ≠ 1027 → a ≠ 1028 → a ≠ 1029 → a ≠ 1033 → (a < 1037 ∨ 1043 ≤ a) → (a < 1045 ∨ 1048 ≤ a) → μ' a = μ a) : IvB μ' R := by
  obtain ⟨⟨h0, h1, h2, h3, h4, h5, h6, h7⟩, h8⟩ := h
  exact ⟨⟨Iv0_f h0 e0, IvS_f h1 (fun a _ _ => e a (by omega) (by omega) (by omega) (by omega) (by omega) (by omega) (by omega) (by omega) (by omega) (by omega)), IvA_f h2 (e0 1 (by omega)) (fun a _ _ => e a (by omega) (by omega) (by omega) (by omega) (by omega) (by omega) (by omega) (by omega) (by omega) (by omega)), IvP_f h3 (e0 2 (by omega)) (fun a _ => e a (by omega) (by omega) (by omega) (by omega) (by omega) (by omega) (by omega) (by omega) (by omega) (by omega)), IvF_f h4 (e0 3 (by omega)) (fun a _ _ => e a (by omega) (by omega) (by omega) (by omega) (by omega) (by omega) (by omega) (by omega) (by omega) (by omega)), IvK_f h5 (e0 5 (by omega)) (e 1055 (by decide) (by decide) (by decide) (by decide) (by decide) (by decide) (by decide) (by decide) (by decide) (by decide)), IvU_f h6 (e0 6 (by omega)) (fun a _ _ => e a (by omega) (by omega) (by omega) (by omega) (by omega) (by omega) (by omega) (by omega) (by omega) (by omega)), IvR_f h7 (e0 4 (by omega)) (fun a _ _ => e a (by omega) (by omega) (by omega) (by omega) (by omega) (by omega) (by omega) (by omega) (by omega) (by omega))⟩, IvC_f h8 (e0 1 (by omega)) (e0 2 (by omega)) (e0 6 (by omega)) (fun a _ => e a (by omega) (by omega) (by omega) (by omega) (by omega) (by omega) (by omega) (by omega) (by omega) (by omega))⟩
theorem Iv_days {μ : ST} {R : RT} {n : Int} (h : IvB μ R) : IvB (f_days μ n).2 R := by
  unfold f_days
  split
  · exact IvB_rf h
  · obtain ⟨⟨h0, h1, h2, h3, h4, h5, h6, h7⟩, h8⟩ := h
    refine ⟨⟨?_, IvS_f h1 (by intros; simp (disch := omega) only [up_na, up_ni, zrF_na, cpyF_na, toRowF, putLF]), IvA_f h2 (by intros; simp (disch := omega) only [up_na, up_ni, zrF_na, cpyF_na, toRowF, putLF]) (by intros; simp (disch := omega) only [up_na, up_ni, zrF_na, cpyF_na, toRowF, putLF]), IvP_f h3 (by intros; simp (disch := omega) only [up_na, up_ni, zrF_na, cpyF_na, toRowF, putLF]) (by intros; simp (disch := omega) only [up_na, up_ni, zrF_na, cpyF_na, toRowF, putLF]), IvF_f h4 (by intros; simp (disch := omega) only [up_na, up_ni, zrF_na, cpyF_na, toRowF, putLF]) (by intros; simp (disch := omega) only [up_na, up_ni, zrF_na, cpyF_na, toRowF, putLF]), IvK_f h5 (by intros; simp (disch := omega) only [up_na, up_ni, zrF_na, cpyF_na, toRowF, putLF]) (by intros; simp (disch := omega) only [up_na, up_ni, zrF_na, cpyF_na, toRowF, putLF]), IvU_f h6 (by intros; simp (disch := omega) only [up_na, up_ni, zrF_na, cpyF_na, toRowF, putLF]) (by intros; simp (disch := omega) only [up_na, up_ni, zrF_na, cpyF_na, toRowF, putLF]), IvR_f h7 (by intros; simp (disch := omega) only [up_na, up_ni, zrF_na, cpyF_na, toRowF, putLF]) (by intros; simp (disch := omega) only [up_na, up_ni, zrF_na, cpyF_na, toRowF, putLF])⟩, IvC_f h8 (by intros; simp (disch := omega) only [up_na, up_ni, zrF_na, cpyF_na, toRowF, putLF]) (by intros; simp (disch := omega) only [up_na, up_ni, zrF_na, cpyF_na, toRowF, putLF]) (by intros; simp (disch := omega) only [up_na, up_ni, zrF_na, cpyF_na, toRowF, putLF]) (by intros; simp (disch := omega) only [up_na, up_ni, zrF_na, cpyF_na, toRowF, putLF])⟩
    unfold Iv0 at h0 ⊢
    simp (disch := omega) only [up_s, up_ni]
    omega
theorem Iv_row {μ : ST} {R : RT} {s o n : Int} (h : IvB μ R) : IvB (f_row μ s o n).2 R := by
  unfold f_row
  split
  · exact IvB_rf h
  split
  · exact IvB_rf h
  split
  · exact IvB_rf h
  split
  · exact IvB_rf h
  rename_i c1 c2 c3 c4
  have c1 := Classical.not_not.mp c1
  obtain ⟨⟨h0, h1, h2, h3, h4, h5, h6, h7⟩, h8⟩ := h
  refine ⟨⟨Iv0_f h0 (by intros; simp (disch := omega) only [up_na, up_ni, zrF_na, cpyF_na, toRowF, putLF]), ?_, IvA_f h2 (by intros; simp (disch := omega) only [up_na, up_ni, zrF_na, cpyF_na, toRowF, putLF]) (by intros; simp (disch := omega) only [up_na, up_ni, zrF_na, cpyF_na, toRowF, putLF]), IvP_f h3 (by intros; simp (disch := omega) only [up_na, up_ni, zrF_na, cpyF_na, toRowF, putLF]) (by intros; simp (disch := omega) only [up_na, up_ni, zrF_na, cpyF_na, toRowF, putLF]), IvF_f h4 (by intros; simp (disch := omega) only [up_na, up_ni, zrF_na, cpyF_na, toRowF, putLF]) (by intros; simp (disch := omega) only [up_na, up_ni, zrF_na, cpyF_na, toRowF, putLF]), IvK_f h5 (by intros; simp (disch := omega) only [up_na, up_ni, zrF_na, cpyF_na, toRowF, putLF]) (by intros; simp (disch := omega) only [up_na, up_ni, zrF_na, cpyF_na, toRowF, putLF]), IvU_f h6 (by intros; simp (disch := omega) only [up_na, up_ni, zrF_na, cpyF_na, toRowF, putLF]) (by intros; simp (disch := omega) only [up_na, up_ni, zrF_na, cpyF_na, toRowF, putLF]), IvR_f h7 (by intros; simp (disch := omega) only [up_na, up_ni, zrF_na, cpyF_na, toRowF, putLF]) (by intros; simp (disch := omega) only [up_na, up_ni, zrF_na, cpyF_na, toRowF, putLF])⟩, ?_⟩
  · intro t a b
    have g := h1 t a b
    simp (disch := omega) only [zrF_na, up_na]
    by_cases e : t = s
    · subst e
      simp only [up_s]
      exact ⟨Or.inr (Or.inl trivial), by omega, by omega, by omega, by omega, fun q => by omega⟩
    · simp only [up_ni e]
      exact g
  · obtain ⟨g1, g2, g3⟩ := h8
    refine ⟨?_, fun t a b c => ?_, ?_⟩
    · simp (disch := omega) only [zrF_na, up_na]; exact g1
    · have g := g2 t a b
      simp (disch := omega) only [zrF_na, up_na] at c ⊢
      by_cases e : t = s
      · subst e
        rw [up_s] at c
        omega
      · simp only [up_ni e] at c ⊢
        exact g c
    · simp (disch := omega) only [zrF_na, up_na]; exact g3
theorem Iv_set {μ : ST} {R : RT} {s i v : Int} (h : IvB μ R) : IvB (f_set μ s i v).2 R := by
  unfold f_set
  split
  · exact IvB_rf h
  split
  · exact IvB_rf h
  exact IvB_f h (by intros; simp (disch := omega) only [up_na, up_ni, zrF_na, cpyF_na, toRowF, putLF]) (by intros; simp (disch := omega) only [up_na, up_ni, zrF_na, cpyF_na, toRowF, putLF])
theorem Iv_copy {μ : ST} {R : RT} {p q i j n : Int} (h : IvB μ R) : IvB (f_copy μ p q i j n).2 R := by
  unfold f_copy
  split
  · exact IvB_rf h
  split
  · exact IvB_rf h
  split
  · exact IvB_rf h
  split
  · exact IvB_rf h
  split
  · exact IvB_rf h
  exact IvB_f h (by intros; simp (disch := omega) only [up_na, up_ni, zrF_na, cpyF_na, toRowF, putLF]) (by intros; simp (disch := omega) only [up_na, up_ni, zrF_na, cpyF_na, toRowF, putLF])
theorem Iv_says {μ : ST} {R : RT} {s k : Int} (h : IvB μ R) : IvB (f_says μ s k).2 R := by
  unfold f_says
  repeat' split
  all_goals first | exact IvB_rf h | exact h
theorem want0 {μ : ST} {s : Int} (h : ¬ wantF μ s ≠ 0) : 0 ≤ s ∧ s < 8 := by
  unfold wantF at h
  split at h
  · omega
  · rename_i q
    exact Classical.not_not.mp q
theorem Iv_advert {μ : ST} {R : RT} {f m s : Int} (h : IvB μ R) : IvB (f_advert μ f m s).2 R := by
  unfold f_advert
  split
  · exact IvB_rf h
  split
  · exact IvB_rf h
  split
  · exact IvB_rf h
  split
  · exact IvB_rf h
  rename_i c1 c2 c3 c4
  have c1 := Classical.not_not.mp c1
  have c2 := want0 c2
  obtain ⟨⟨h0, h1, h2, h3, h4, h5, h6, h7⟩, h8⟩ := h
  have hs := h1 s c2.1 c2.2
  have h0' := h0
  unfold Iv0 at h0'
  refine ⟨⟨?_, IvS_f h1 (by intros; simp (disch := omega) only [up_na, up_ni, zrF_na, cpyF_na, toRowF, putLF]), ?_, IvP_f h3 (by intros; simp (disch := omega) only [up_na, up_ni, zrF_na, cpyF_na, toRowF, putLF]) (by intros; simp (disch := omega) only [up_na, up_ni, zrF_na, cpyF_na, toRowF, putLF]), IvF_f h4 (by intros; simp (disch := omega) only [up_na, up_ni, zrF_na, cpyF_na, toRowF, putLF]) (by intros; simp (disch := omega) only [up_na, up_ni, zrF_na, cpyF_na, toRowF, putLF]), IvK_f h5 (by intros; simp (disch := omega) only [up_na, up_ni, zrF_na, cpyF_na, toRowF, putLF]) (by intros; simp (disch := omega) only [up_na, up_ni, zrF_na, cpyF_na, toRowF, putLF]), IvU_f h6 (by intros; simp (disch := omega) only [up_na, up_ni, zrF_na, cpyF_na, toRowF, putLF]) (by intros; simp (disch := omega) only [up_na, up_ni, zrF_na, cpyF_na, toRowF, putLF]), IvR_f h7 (by intros; simp (disch := omega) only [up_na, up_ni, zrF_na, cpyF_na, toRowF, putLF]) (by intros; simp (disch := omega) only [up_na, up_ni, zrF_na, cpyF_na, toRowF, putLF])⟩, ?_⟩
  · unfold Iv0 at h0 ⊢
    simp (disch := omega) only [up_s, up_ni, up_na, toRowF]
    omega
  · intro a a0 a1
    simp (disch := omega) only [up_s, up_na, toRowF] at a1 ⊢
    by_cases e : a = μ 1000 1
    · subst e
      have g := h8.1 (μ 1000 1) (Int.le_refl _) (by omega)
      simp only [up_s]
      omega
    · simp only [up_ni e]
      exact h2 a a0 (by omega)
  · refine ⟨fun a a0 a1 => ?_, ?_, ?_⟩
    · simp (disch := omega) only [up_s, up_na, toRowF] at a0 ⊢
      exact h8.1 a (by omega) a1
    · have g := h8.2.1
      simp (disch := omega) only [up_ni, up_na, toRowF]
      exact g
    · have g := h8.2.2
      simp (disch := omega) only [up_ni, up_na, toRowF]
      exact g
theorem Iv_print {μ : ST} {R : RT} {a s z : Int} (h : IvB μ R) : IvB (f_print μ a s z).2 R := by
  unfold f_print
  split
  · exact IvB_rf h
  split
  · exact IvB_rf h
  split
  · exact IvB_rf h
  rename_i c1 c2 c3
  have c1 := Classical.not_not.mp c1
  have c2 := want0 c2
  obtain ⟨⟨h0, h1, h2, h3, h4, h5, h6, h7⟩, h8⟩ := h
  have hs := h1 s c2.1 c2.2
  refine ⟨⟨Iv0_f h0 (by intros; simp (disch := omega) only [up_na, up_ni, zrF_na, cpyF_na, toRowF, putLF]), IvS_f h1 (by intros; simp (disch := omega) only [up_na, up_ni, zrF_na, cpyF_na, toRowF, putLF]), ?_, IvP_f h3 (by intros; simp (disch := omega) only [up_na, up_ni, zrF_na, cpyF_na, toRowF, putLF]) (by intros; simp (disch := omega) only [up_na, up_ni, zrF_na, cpyF_na, toRowF, putLF]), IvF_f h4 (by intros; simp (disch := omega) only [up_na, up_ni, zrF_na, cpyF_na, toRowF, putLF]) (by intros; simp (disch := omega) only [up_na, up_ni, zrF_na, cpyF_na, toRowF, putLF]), IvK_f h5 (by intros; simp (disch := omega) only [up_na, up_ni, zrF_na, cpyF_na, toRowF, putLF]) (by intros; simp (disch := omega) only [up_na, up_ni, zrF_na, cpyF_na, toRowF, putLF]), IvU_f h6 (by intros; simp (disch := omega) only [up_na, up_ni, zrF_na, cpyF_na, toRowF, putLF]) (by intros; simp (disch := omega) only [up_na, up_ni, zrF_na, cpyF_na, toRowF, putLF]), IvR_f h7 (by intros; simp (disch := omega) only [up_na, up_ni, zrF_na, cpyF_na, toRowF, putLF]) (by intros; simp (disch := omega) only [up_na, up_ni, zrF_na, cpyF_na, toRowF, putLF])⟩, ?_⟩
  · intro b b0 b1
    simp (disch := omega) only [up_na, toRowF] at b1 ⊢
    have g := h2 b b0 b1
    by_cases e : b = a
    · subst e
      simp only [up_s]
      omega
    · simp only [up_ni e]
      exact g
  · refine ⟨fun b b0 b1 => ?_, ?_, ?_⟩
    · simp (disch := omega) only [up_na, toRowF] at b0 ⊢
      simp (disch := omega) only [up_ni]
      exact h8.1 b b0 b1
    · have g := h8.2.1
      simp (disch := omega) only [up_na, toRowF]
      exact g
    · have g := h8.2.2
      simp (disch := omega) only [up_na, toRowF]
      exact g
theorem Iv_saw {μ : ST} {R : RT} {a c o : Int} (h : IvB μ R) : IvB (f_saw μ a c o).2 R := by
  unfold f_saw
  split
  · exact IvB_rf h
  split
  · exact IvB_rf h
  split
  · exact IvB_rf h
  rename_i c1 c2 c3
  have c1 := Classical.not_not.mp c1
  obtain ⟨⟨h0, h1, h2, h3, h4, h5, h6, h7⟩, h8⟩ := h
  refine ⟨⟨Iv0_f h0 (by intros; simp (disch := omega) only [up_na, up_ni, zrF_na, cpyF_na, toRowF, putLF]), IvS_f h1 (by intros; simp (disch := omega) only [up_na, up_ni, zrF_na, cpyF_na, toRowF, putLF]), ?_, IvP_f h3 (by intros; simp (disch := omega) only [up_na, up_ni, zrF_na, cpyF_na, toRowF, putLF]) (by intros; simp (disch := omega) only [up_na, up_ni, zrF_na, cpyF_na, toRowF, putLF]), IvF_f h4 (by intros; simp (disch := omega) only [up_na, up_ni, zrF_na, cpyF_na, toRowF, putLF]) (by intros; simp (disch := omega) only [up_na, up_ni, zrF_na, cpyF_na, toRowF, putLF]), IvK_f h5 (by intros; simp (disch := omega) only [up_na, up_ni, zrF_na, cpyF_na, toRowF, putLF]) (by intros; simp (disch := omega) only [up_na, up_ni, zrF_na, cpyF_na, toRowF, putLF]), IvU_f h6 (by intros; simp (disch := omega) only [up_na, up_ni, zrF_na, cpyF_na, toRowF, putLF]) (by intros; simp (disch := omega) only [up_na, up_ni, zrF_na, cpyF_na, toRowF, putLF]), IvR_f h7 (by intros; simp (disch := omega) only [up_na, up_ni, zrF_na, cpyF_na, toRowF, putLF]) (by intros; simp (disch := omega) only [up_na, up_ni, zrF_na, cpyF_na, toRowF, putLF])⟩, ?_⟩
  · intro b b0 b1
    simp (disch := omega) only [up_na] at b1 ⊢
    have g := h2 b b0 b1
    by_cases e : b = a
    · subst e
      simp only [up_s]
      omega
    · simp only [up_ni e]
      exact g
  · refine ⟨fun b b0 b1 => ?_, ?_, ?_⟩
    · simp (disch := omega) only [up_na] at b0 ⊢
      simp (disch := omega) only [up_ni]
      exact h8.1 b b0 b1
    · have g := h8.2.1
      simp (disch := omega) only [up_na]
      exact g
    · have g := h8.2.2
      simp (disch := omega) only [up_na]
      exact g
theorem Iv_phrase {μ : ST} {R : RT} {s k i f : Int} (h : IvB μ R) : IvB (f_phrase μ s k i f).2 R := by
  unfold f_phrase
  split
  · exact IvB_rf h
  split
  · exact IvB_rf h
  split
  · exact IvB_rf h
  split
  · exact IvB_rf h
  rename_i c1 c2 c3 c4
  have c2 := want0 c2
  obtain ⟨⟨h0, h1, h2, h3, h4, h5, h6, h7⟩, h8⟩ := h
  have h0' := h0
  unfold Iv0 at h0'
  refine ⟨⟨?_, IvS_f h1 (by intros; simp (disch := omega) only [up_na, up_ni, zrF_na, cpyF_na, toRowF, putLF]), IvA_f h2 (by intros; simp (disch := omega) only [up_na, up_ni, zrF_na, cpyF_na, toRowF, putLF]) (by intros; simp (disch := omega) only [up_na, up_ni, zrF_na, cpyF_na, toRowF, putLF]), ?_, IvF_f h4 (by intros; simp (disch := omega) only [up_na, up_ni, zrF_na, cpyF_na, toRowF, putLF]) (by intros; simp (disch := omega) only [up_na, up_ni, zrF_na, cpyF_na, toRowF, putLF]), IvK_f h5 (by intros; simp (disch := omega) only [up_na, up_ni, zrF_na, cpyF_na, toRowF, putLF]) (by intros; simp (disch := omega) only [up_na, up_ni, zrF_na, cpyF_na, toRowF, putLF]), IvU_f h6 (by intros; simp (disch := omega) only [up_na, up_ni, zrF_na, cpyF_na, toRowF, putLF]) (by intros; simp (disch := omega) only [up_na, up_ni, zrF_na, cpyF_na, toRowF, putLF]), IvR_f h7 (by intros; simp (disch := omega) only [up_na, up_ni, zrF_na, cpyF_na, toRowF, putLF]) (by intros; simp (disch := omega) only [up_na, up_ni, zrF_na, cpyF_na, toRowF, putLF])⟩, ?_⟩
  · unfold Iv0 at h0 ⊢
    simp (disch := omega) only [up_s, up_ni, up_na, toRowF]
    omega
  · intro a a0 a1
    simp (disch := omega) only [up_s, up_na, toRowF] at a1 ⊢
    by_cases e : a = μ 1000 2
    · subst e
      simp only [up_s]
      omega
    · simp only [up_ni e]
      exact h3 a a0 (by omega)
  · refine ⟨?_, fun t t0 t1 t2 => ?_, ?_⟩
    · have g := h8.1
      simp (disch := omega) only [up_ni, up_na, toRowF]
      exact g
    · simp (disch := omega) only [up_s, up_na, toRowF] at t2 ⊢
      have g := h8.2.1 t t0 t1 t2
      have e : μ 1014 t ≠ μ 1000 2 := by omega
      simp only [up_ni e]
      exact ⟨g.1, by omega, g.2.2⟩
    · have g := h8.2.2
      simp (disch := omega) only [up_ni, up_na, toRowF]
      exact g
theorem Iv_unphrase {μ : ST} {R : RT} {p : Int} (h : IvB μ R) : IvB (f_unphrase μ p).2 R := by
  unfold f_unphrase
  split
  · exact IvB_rf h
  split
  · exact IvB_rf h
  exact IvB_f h (by intros; simp (disch := omega) only [up_na, up_ni, zrF_na, cpyF_na, toRowF, putLF]) (by intros; simp (disch := omega) only [up_na, up_ni, zrF_na, cpyF_na, toRowF, putLF])
theorem Iv_strike {μ : ST} {R : RT} {r : Int} (h : IvB μ R) : IvB (f_strike μ r).2 R := by
  unfold f_strike
  split
  · exact IvB_rf h
  split
  · exact IvB_rf h
  exact IvB_f h (by intros; simp (disch := omega) only [up_na, up_ni, zrF_na, cpyF_na, toRowF, putLF]) (by intros; simp (disch := omega) only [up_na, up_ni, zrF_na, cpyF_na, toRowF, putLF])
