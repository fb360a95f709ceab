/-! ONE PART OF THE RELATION IS REPLACED -/
theorem Rsh_m {μ μ' : ST} {S : ST} (h : Rsh μ S) (e : ∀ a, (1011 ≤ a ∧ a ≤ 1014) ∨ a = 1018 → μ' a = μ a) : Rsh μ' S := by
  unfold Rsh at h ⊢; simp (disch := omega) only [e]; exact h
theorem Rad_m {μ μ' : ST} {K : KT} {S : ST} (h : Rad μ K S) (e0 : μ' 1000 1 = μ 1000 1) (e : ∀ a, 1020 ≤ a → a ≤ 1031 → μ' a = μ a) : Rad μ' K S := by
  unfold Rad RadE at h ⊢; simp (disch := omega) only [e, e0]; exact h
theorem Rph_m {μ μ' : ST} {K : KT} {S : ST} (h : Rph μ K S) (e0 : μ' 1000 2 = μ 1000 2) (e : ∀ a, 1032 ≤ a → a ≤ 1039 → μ' a = μ a) : Rph μ' K S := by
  unfold Rph RphE at h ⊢; simp (disch := omega) only [e, e0]; exact h
theorem Rpf_m {μ μ' : ST} {K : KT} {S : ST} (h : Rpf μ K S) (e0 : μ' 1000 3 = μ 1000 3) (e7 : μ' 1000 7 = μ 1000 7) (e8 : μ' 1000 8 = μ 1000 8) (e : ∀ a, 1040 ≤ a → a ≤ 1044 → μ' a = μ a) : Rpf μ' K S := by
  unfold Rpf RpfE at h ⊢; simp (disch := omega) only [e, e0, e7, e8]; exact h
theorem Rru_m {μ μ' : ST} {R : RT} {K : KT} {S : ST} (h : Rru μ R K S) (e0 : μ' 1000 4 = μ 1000 4) (e : ∀ a, 1045 ≤ a → a ≤ 1047 → μ' a = μ a) : Rru μ' R K S := by
  unfold Rru RruE at h ⊢; simp (disch := omega) only [e, e0]; exact h
theorem Rpn_m {μ μ' : ST} {S : ST} (h : Rpn μ S) (e0 : μ' 1000 5 = μ 1000 5) (e : μ' 1055 = μ 1055) : Rpn μ' S := by
  unfold Rpn at h ⊢; rw [e, e0]; exact h
theorem Rul_m {μ μ' : ST} {K : KT} {S : ST} (h : Rul μ K S) (e0 : μ' 1000 6 = μ 1000 6) (e : ∀ a, 1056 ≤ a → a ≤ 1069 → μ' a = μ a) : Rul μ' K S := by
  unfold Rul RulE at h ⊢; simp (disch := omega) only [e, e0]; exact h
theorem Rno_m {μ μ' : ST} {S : ST} (h : Rno μ S) (e0 : μ' 1000 0 = μ 1000 0) (e9 : μ' 1000 9 = μ 1000 9) (e10 : μ' 1000 10 = μ 1000 10) (e : μ' 1070 = μ 1070) : Rno μ' S := by
  unfold Rno at h ⊢; rw [e, e0, e9, e10]; exact h
def Out (S S' : ST) : Prop := ∀ a, 1000 ≤ a → S' a = S a
theorem Out_rfl (S : ST) : Out S S := fun _ _ => rfl
theorem Out_tr {S S' S'' : ST} (h : Out S S') (g : Out S' S'') : Out S S'' := fun a q => (g a q).trans (h a q)
theorem Scr_o {S S' : ST} (h : Scr S S') : Out S S' := h.2.1
theorem Out_up {S S' : ST} (h : Out S S') {a i v : Int} (ha : a < 1000) : Out S (up S' a i v) := fun b hb => by rw [up_na (by omega)]; exact h b hb
theorem cqc {μ' : ST} {R : RT} {f : Int × ST} {Q : QF} {K : KT} {S S' : ST} {r : Int} (hq : ∀ S', Rc f.2 R K S' → Out S S' → Q [vI f.1] K S') (hm : Rc μ' R K S') (ho : Out S S') (e : f = (r, μ')) : Q [vI r] K S' := by subst e; exact hq S' hm ho
theorem Rc_sh' {μ μ' : ST} {R : RT} {K K' : KT} {S S' : ST} (h : Rc μ R K S) (eK : ∀ a, ¬ (20 ≤ a ∧ a < 38) → K' a = K a) (eC : ∀ a, 0 ≤ a → a < 60 → K' a = K a) (eS : ∀ a, a < 1000 → ¬ (20 ≤ a ∧ a < 38) → S' a = S a) (eF : ∀ s, 0 ≤ s → s < 8 → S' (20 + s) 0 = S (20 + s) 0) (eM : ∀ a, a ≠ 1000 → ¬ (1011 ≤ a ∧ a ≤ 1019) → μ' a = μ a) (eI : μ' 1000 0 = μ 1000 0 ∧ μ' 1000 1 = μ 1000 1 ∧ μ' 1000 2 = μ 1000 2 ∧ μ' 1000 3 = μ 1000 3 ∧ μ' 1000 4 = μ 1000 4 ∧ μ' 1000 5 = μ 1000 5 ∧ μ' 1000 6 = μ 1000 6 ∧ μ' 1000 7 = μ 1000 7 ∧ μ' 1000 8 = μ 1000 8 ∧ μ' 1000 9 = μ 1000 9 ∧ μ' 1000 10 = μ 1000 10) (hn : Rsh μ' S') (hf : Rfr K') : Rc μ' R K' S' := by
  obtain ⟨h1, h2, h3, h4, h5, h6, h7, h8, h9, h10, h11⟩ := h
  refine ⟨CK_f h1 eC, ?_, ?_, ?_, ?_, ?_, ?_, ?_, ?_, ?_, hf⟩
  · have hs := fun s a b => CF_sh h2 (s := s) a b
    unfold CF at h2 ⊢
    simp (disch := omega) only [eS]
    exact ⟨h2.1, h2.2.1, h2.2.2.1, h2.2.2.2.1, h2.2.2.2.2.1, h2.2.2.2.2.2.1, h2.2.2.2.2.2.2.1, h2.2.2.2.2.2.2.2.1, h2.2.2.2.2.2.2.2.2.1, h2.2.2.2.2.2.2.2.2.2.1, h2.2.2.2.2.2.2.2.2.2.2.1, h2.2.2.2.2.2.2.2.2.2.2.2.1, h2.2.2.2.2.2.2.2.2.2.2.2.2.1, h2.2.2.2.2.2.2.2.2.2.2.2.2.2.1, h2.2.2.2.2.2.2.2.2.2.2.2.2.2.2.1, h2.2.2.2.2.2.2.2.2.2.2.2.2.2.2.2.1, h2.2.2.2.2.2.2.2.2.2.2.2.2.2.2.2.2.1, h2.2.2.2.2.2.2.2.2.2.2.2.2.2.2.2.2.2.1, fun s a b => by rw [eF s a b]; exact hs s a b⟩
  · exact hn
  · exact Rad_m (Rad_f h4 (fun a q => ⟨eK a (by unfold dAd at q; omega), eS a (by unfold dAd at q; omega) (by unfold dAd at q; omega)⟩) (fun a q _ => ⟨eK a (by omega), eS a (by omega) (by omega)⟩)) eI.2.1 (fun a _ _ => eM a (by omega) (by omega))
  · exact Rph_m (Rph_f h5 (fun a q => ⟨eK a (by unfold dPh at q; omega), eS a (by unfold dPh at q; omega) (by unfold dPh at q; omega)⟩)) eI.2.2.1 (fun a _ _ => eM a (by omega) (by omega))
  · exact Rpf_m (Rpf_f h6 (fun a q => ⟨eK a (by unfold dPf at q; omega), eS a (by unfold dPf at q; omega) (by unfold dPf at q; omega)⟩)) eI.2.2.2.1 eI.2.2.2.2.2.2.2.1 eI.2.2.2.2.2.2.2.2.1 (fun a _ _ => eM a (by omega) (by omega))
  · exact Rru_m (Rru_f h7 (fun a q => ⟨eK a (by unfold dRu at q; omega), eS a (by unfold dRu at q; omega) (by unfold dRu at q; omega)⟩)) eI.2.2.2.2.1 (fun a _ _ => eM a (by omega) (by omega))
  · exact Rpn_m (Rpn_f h8 (eS 45 (by decide) (by omega)) (eS 46 (by decide) (by omega))) eI.2.2.2.2.2.1 (eM 1055 (by decide) (by omega))
  · exact Rul_m (Rul_f h9 (fun a q => ⟨eK a (by unfold dUl at q; omega), eS a (by unfold dUl at q; omega) (by unfold dUl at q; omega)⟩)) eI.2.2.2.2.2.2.1 (fun a _ _ => eM a (by omega) (by omega))
  · exact Rno_m (Rno_f h10 (eS 1 (by decide) (by omega)) (eS 56 (by decide) (by omega))) eI.1 eI.2.2.2.2.2.2.2.2.2.1 eI.2.2.2.2.2.2.2.2.2.2 (eM 1070 (by decide) (by omega))
theorem Rc_ad' {μ μ' : ST} {R : RT} {K K' : KT} {S S' : ST} (h : Rc μ R K S) (eK : ∀ a, ¬ (a = 40 ∨ (100 ≤ a ∧ a < 130) ∨ (200 ≤ a ∧ a < 300) ∨ (600 < a ∧ a < 660) ∨ a < 0) → K' a = K a) (eC : ∀ a, 0 ≤ a → a < 60 → K' a = K a) (eS : ∀ a, a < 1000 → ¬ (a = 40 ∨ (100 ≤ a ∧ a < 130) ∨ (200 ≤ a ∧ a < 300) ∨ (600 < a ∧ a < 660) ∨ a < 0) → S' a = S a)  (eM : ∀ a, a ≠ 1000 → ¬ (1020 ≤ a ∧ a ≤ 1031) → μ' a = μ a) (eI : μ' 1000 0 = μ 1000 0 ∧ μ' 1000 2 = μ 1000 2 ∧ μ' 1000 3 = μ 1000 3 ∧ μ' 1000 4 = μ 1000 4 ∧ μ' 1000 5 = μ 1000 5 ∧ μ' 1000 6 = μ 1000 6 ∧ μ' 1000 7 = μ 1000 7 ∧ μ' 1000 8 = μ 1000 8 ∧ μ' 1000 9 = μ 1000 9 ∧ μ' 1000 10 = μ 1000 10) (hn : Rad μ' K' S') (hf : Rfr K') : Rc μ' R K' S' := by
  obtain ⟨h1, h2, h3, h4, h5, h6, h7, h8, h9, h10, h11⟩ := h
  refine ⟨CK_f h1 eC, ?_, ?_, ?_, ?_, ?_, ?_, ?_, ?_, ?_, hf⟩
  · exact CF_f h2 (fun a q => eS a (by omega) (by omega)) (by rw [eS 48 (by decide) (by omega)]) (by rw [eS 48 (by decide) (by omega)]) (by rw [eS 51 (by decide) (by omega)]) (by rw [eS 51 (by decide) (by omega)])
  · exact Rsh_m (Rsh_f h3 (fun a _ _ => eS a (by omega) (by omega))) (fun a _ => eM a (by omega) (by omega))
  · exact hn
  · exact Rph_m (Rph_f h5 (fun a q => ⟨eK a (by unfold dPh at q; omega), eS a (by unfold dPh at q; omega) (by unfold dPh at q; omega)⟩)) eI.2.1 (fun a _ _ => eM a (by omega) (by omega))
  · exact Rpf_m (Rpf_f h6 (fun a q => ⟨eK a (by unfold dPf at q; omega), eS a (by unfold dPf at q; omega) (by unfold dPf at q; omega)⟩)) eI.2.2.1 eI.2.2.2.2.2.2.1 eI.2.2.2.2.2.2.2.1 (fun a _ _ => eM a (by omega) (by omega))
  · exact Rru_m (Rru_f h7 (fun a q => ⟨eK a (by unfold dRu at q; omega), eS a (by unfold dRu at q; omega) (by unfold dRu at q; omega)⟩)) eI.2.2.2.1 (fun a _ _ => eM a (by omega) (by omega))
  · exact Rpn_m (Rpn_f h8 (eS 45 (by decide) (by omega)) (eS 46 (by decide) (by omega))) eI.2.2.2.2.1 (eM 1055 (by decide) (by omega))
  · exact Rul_m (Rul_f h9 (fun a q => ⟨eK a (by unfold dUl at q; omega), eS a (by unfold dUl at q; omega) (by unfold dUl at q; omega)⟩)) eI.2.2.2.2.2.1 (fun a _ _ => eM a (by omega) (by omega))
  · exact Rno_m (Rno_f h10 (eS 1 (by decide) (by omega)) (eS 56 (by decide) (by omega))) eI.1 eI.2.2.2.2.2.2.2.2.1 eI.2.2.2.2.2.2.2.2.2 (eM 1070 (by decide) (by omega))
theorem Rc_ph' {μ μ' : ST} {R : RT} {K K' : KT} {S S' : ST} (h : Rc μ R K S) (eK : ∀ a, ¬ (a = 41 ∨ (130 ≤ a ∧ a < 190) ∨ (660 < a ∧ a < 720)) → K' a = K a) (eC : ∀ a, 0 ≤ a → a < 60 → K' a = K a) (eS : ∀ a, a < 1000 → ¬ (a = 41 ∨ (130 ≤ a ∧ a < 190) ∨ (660 < a ∧ a < 720)) → S' a = S a)  (eM : ∀ a, a ≠ 1000 → ¬ (1032 ≤ a ∧ a ≤ 1039) → μ' a = μ a) (eI : μ' 1000 0 = μ 1000 0 ∧ μ' 1000 1 = μ 1000 1 ∧ μ' 1000 3 = μ 1000 3 ∧ μ' 1000 4 = μ 1000 4 ∧ μ' 1000 5 = μ 1000 5 ∧ μ' 1000 6 = μ 1000 6 ∧ μ' 1000 7 = μ 1000 7 ∧ μ' 1000 8 = μ 1000 8 ∧ μ' 1000 9 = μ 1000 9 ∧ μ' 1000 10 = μ 1000 10) (hn : Rph μ' K' S') (hf : Rfr K') : Rc μ' R K' S' := by
  obtain ⟨h1, h2, h3, h4, h5, h6, h7, h8, h9, h10, h11⟩ := h
  refine ⟨CK_f h1 eC, ?_, ?_, ?_, ?_, ?_, ?_, ?_, ?_, ?_, hf⟩
  · exact CF_f h2 (fun a q => eS a (by omega) (by omega)) (by rw [eS 48 (by decide) (by omega)]) (by rw [eS 48 (by decide) (by omega)]) (by rw [eS 51 (by decide) (by omega)]) (by rw [eS 51 (by decide) (by omega)])
  · exact Rsh_m (Rsh_f h3 (fun a _ _ => eS a (by omega) (by omega))) (fun a _ => eM a (by omega) (by omega))
  · exact Rad_m (Rad_f h4 (fun a q => ⟨eK a (by unfold dAd at q; omega), eS a (by unfold dAd at q; omega) (by unfold dAd at q; omega)⟩) (fun a q _ => ⟨eK a (by omega), eS a (by omega) (by omega)⟩)) eI.2.1 (fun a _ _ => eM a (by omega) (by omega))
  · exact hn
  · exact Rpf_m (Rpf_f h6 (fun a q => ⟨eK a (by unfold dPf at q; omega), eS a (by unfold dPf at q; omega) (by unfold dPf at q; omega)⟩)) eI.2.2.1 eI.2.2.2.2.2.2.1 eI.2.2.2.2.2.2.2.1 (fun a _ _ => eM a (by omega) (by omega))
  · exact Rru_m (Rru_f h7 (fun a q => ⟨eK a (by unfold dRu at q; omega), eS a (by unfold dRu at q; omega) (by unfold dRu at q; omega)⟩)) eI.2.2.2.1 (fun a _ _ => eM a (by omega) (by omega))
  · exact Rpn_m (Rpn_f h8 (eS 45 (by decide) (by omega)) (eS 46 (by decide) (by omega))) eI.2.2.2.2.1 (eM 1055 (by decide) (by omega))
  · exact Rul_m (Rul_f h9 (fun a q => ⟨eK a (by unfold dUl at q; omega), eS a (by unfold dUl at q; omega) (by unfold dUl at q; omega)⟩)) eI.2.2.2.2.2.1 (fun a _ _ => eM a (by omega) (by omega))
  · exact Rno_m (Rno_f h10 (eS 1 (by decide) (by omega)) (eS 56 (by decide) (by omega))) eI.1 eI.2.2.2.2.2.2.2.2.1 eI.2.2.2.2.2.2.2.2.2 (eM 1070 (by decide) (by omega))
theorem Rc_pf' {μ μ' : ST} {R : RT} {K K' : KT} {S S' : ST} (h : Rc μ R K S) (eK : ∀ a, ¬ (a = 43 ∨ a = 44 ∨ (300 ≤ a ∧ a < 380) ∨ (780 < a ∧ a < 840)) → K' a = K a) (eC : ∀ a, 0 ≤ a → a < 60 → K' a = K a) (eS : ∀ a, a < 1000 → ¬ (a = 43 ∨ a = 44 ∨ (300 ≤ a ∧ a < 380) ∨ (780 < a ∧ a < 840)) → S' a = S a) (eF : S' 43 0 = S 43 0) (eM : ∀ a, a ≠ 1000 → ¬ (1040 ≤ a ∧ a ≤ 1044) → μ' a = μ a) (eI : μ' 1000 0 = μ 1000 0 ∧ μ' 1000 1 = μ 1000 1 ∧ μ' 1000 2 = μ 1000 2 ∧ μ' 1000 4 = μ 1000 4 ∧ μ' 1000 5 = μ 1000 5 ∧ μ' 1000 6 = μ 1000 6 ∧ μ' 1000 9 = μ 1000 9 ∧ μ' 1000 10 = μ 1000 10) (hn : Rpf μ' K' S') (hf : Rfr K') : Rc μ' R K' S' := by
  obtain ⟨h1, h2, h3, h4, h5, h6, h7, h8, h9, h10, h11⟩ := h
  refine ⟨CK_f h1 eC, ?_, ?_, ?_, ?_, ?_, ?_, ?_, ?_, ?_, hf⟩
  · have hs := fun s a b => CF_sh h2 (s := s) a b
    unfold CF at h2 ⊢
    simp (disch := omega) only [eS, eF]
    exact ⟨h2.1, h2.2.1, h2.2.2.1, h2.2.2.2.1, h2.2.2.2.2.1, h2.2.2.2.2.2.1, h2.2.2.2.2.2.2.1, h2.2.2.2.2.2.2.2.1, h2.2.2.2.2.2.2.2.2.1, h2.2.2.2.2.2.2.2.2.2.1, h2.2.2.2.2.2.2.2.2.2.2.1, h2.2.2.2.2.2.2.2.2.2.2.2.1, h2.2.2.2.2.2.2.2.2.2.2.2.2.1, h2.2.2.2.2.2.2.2.2.2.2.2.2.2.1, h2.2.2.2.2.2.2.2.2.2.2.2.2.2.2.1, h2.2.2.2.2.2.2.2.2.2.2.2.2.2.2.2.1, h2.2.2.2.2.2.2.2.2.2.2.2.2.2.2.2.2.1, h2.2.2.2.2.2.2.2.2.2.2.2.2.2.2.2.2.2.1, fun s a b => by rw [eS (20 + s) (by omega) (by omega)]; exact hs s a b⟩
  · exact Rsh_m (Rsh_f h3 (fun a _ _ => eS a (by omega) (by omega))) (fun a _ => eM a (by omega) (by omega))
  · exact Rad_m (Rad_f h4 (fun a q => ⟨eK a (by unfold dAd at q; omega), eS a (by unfold dAd at q; omega) (by unfold dAd at q; omega)⟩) (fun a q _ => ⟨eK a (by omega), eS a (by omega) (by omega)⟩)) eI.2.1 (fun a _ _ => eM a (by omega) (by omega))
  · exact Rph_m (Rph_f h5 (fun a q => ⟨eK a (by unfold dPh at q; omega), eS a (by unfold dPh at q; omega) (by unfold dPh at q; omega)⟩)) eI.2.2.1 (fun a _ _ => eM a (by omega) (by omega))
  · exact hn
  · exact Rru_m (Rru_f h7 (fun a q => ⟨eK a (by unfold dRu at q; omega), eS a (by unfold dRu at q; omega) (by unfold dRu at q; omega)⟩)) eI.2.2.2.1 (fun a _ _ => eM a (by omega) (by omega))
  · exact Rpn_m (Rpn_f h8 (eS 45 (by decide) (by omega)) (eS 46 (by decide) (by omega))) eI.2.2.2.2.1 (eM 1055 (by decide) (by omega))
  · exact Rul_m (Rul_f h9 (fun a q => ⟨eK a (by unfold dUl at q; omega), eS a (by unfold dUl at q; omega) (by unfold dUl at q; omega)⟩)) eI.2.2.2.2.2.1 (fun a _ _ => eM a (by omega) (by omega))
  · exact Rno_m (Rno_f h10 (eS 1 (by decide) (by omega)) (eS 56 (by decide) (by omega))) eI.1 eI.2.2.2.2.2.2.1 eI.2.2.2.2.2.2.2 (eM 1070 (by decide) (by omega))
theorem Rc_ru' {μ μ' : ST} {R R' : RT} {K K' : KT} {S S' : ST} (h : Rc μ R K S) (eK : ∀ a, ¬ (a = 42 ∨ (400 ≤ a ∧ a < 460) ∨ (720 < a ∧ a < 780)) → K' a = K a) (eC : ∀ a, 0 ≤ a → a < 60 → K' a = K a) (eS : ∀ a, a < 1000 → ¬ (a = 42 ∨ (400 ≤ a ∧ a < 460) ∨ (720 < a ∧ a < 780)) → S' a = S a)  (eM : ∀ a, a ≠ 1000 → ¬ (1045 ≤ a ∧ a ≤ 1054) → μ' a = μ a) (eI : μ' 1000 0 = μ 1000 0 ∧ μ' 1000 1 = μ 1000 1 ∧ μ' 1000 2 = μ 1000 2 ∧ μ' 1000 3 = μ 1000 3 ∧ μ' 1000 5 = μ 1000 5 ∧ μ' 1000 6 = μ 1000 6 ∧ μ' 1000 7 = μ 1000 7 ∧ μ' 1000 8 = μ 1000 8 ∧ μ' 1000 9 = μ 1000 9 ∧ μ' 1000 10 = μ 1000 10)  (hn : Rru μ' R' K' S') (hf : Rfr K') : Rc μ' R' K' S' := by
  obtain ⟨h1, h2, h3, h4, h5, h6, h7, h8, h9, h10, h11⟩ := h
  refine ⟨CK_f h1 eC, ?_, ?_, ?_, ?_, ?_, ?_, ?_, ?_, ?_, hf⟩
  · exact CF_f h2 (fun a q => eS a (by omega) (by omega)) (by rw [eS 48 (by decide) (by omega)]) (by rw [eS 48 (by decide) (by omega)]) (by rw [eS 51 (by decide) (by omega)]) (by rw [eS 51 (by decide) (by omega)])
  · exact Rsh_m (Rsh_f h3 (fun a _ _ => eS a (by omega) (by omega))) (fun a _ => eM a (by omega) (by omega))
  · exact Rad_m (Rad_f h4 (fun a q => ⟨eK a (by unfold dAd at q; omega), eS a (by unfold dAd at q; omega) (by unfold dAd at q; omega)⟩) (fun a q _ => ⟨eK a (by omega), eS a (by omega) (by omega)⟩)) eI.2.1 (fun a _ _ => eM a (by omega) (by omega))
  · exact Rph_m (Rph_f h5 (fun a q => ⟨eK a (by unfold dPh at q; omega), eS a (by unfold dPh at q; omega) (by unfold dPh at q; omega)⟩)) eI.2.2.1 (fun a _ _ => eM a (by omega) (by omega))
  · exact Rpf_m (Rpf_f h6 (fun a q => ⟨eK a (by unfold dPf at q; omega), eS a (by unfold dPf at q; omega) (by unfold dPf at q; omega)⟩)) eI.2.2.2.1 eI.2.2.2.2.2.2.1 eI.2.2.2.2.2.2.2.1 (fun a _ _ => eM a (by omega) (by omega))
  · exact hn
  · exact Rpn_m (Rpn_f h8 (eS 45 (by decide) (by omega)) (eS 46 (by decide) (by omega))) eI.2.2.2.2.1 (eM 1055 (by decide) (by omega))
  · exact Rul_m (Rul_f h9 (fun a q => ⟨eK a (by unfold dUl at q; omega), eS a (by unfold dUl at q; omega) (by unfold dUl at q; omega)⟩)) eI.2.2.2.2.2.1 (fun a _ _ => eM a (by omega) (by omega))
  · exact Rno_m (Rno_f h10 (eS 1 (by decide) (by omega)) (eS 56 (by decide) (by omega))) eI.1 eI.2.2.2.2.2.2.2.2.1 eI.2.2.2.2.2.2.2.2.2 (eM 1070 (by decide) (by omega))
theorem Rc_pn' {μ μ' : ST} {R : RT} {K K' : KT} {S S' : ST} (h : Rc μ R K S) (eK : ∀ a, ¬ (a = 45 ∨ a = 46) → K' a = K a) (eC : ∀ a, 0 ≤ a → a < 60 → K' a = K a) (eS : ∀ a, a < 1000 → ¬ (a = 45 ∨ a = 46) → S' a = S a) (eF0 : S' 45 0 = S 45 0) (eF2 : S' 45 2 = S 45 2) (eM : ∀ a, a ≠ 1000 → ¬ a = 1055 → μ' a = μ a) (eI : μ' 1000 0 = μ 1000 0 ∧ μ' 1000 1 = μ 1000 1 ∧ μ' 1000 2 = μ 1000 2 ∧ μ' 1000 3 = μ 1000 3 ∧ μ' 1000 4 = μ 1000 4 ∧ μ' 1000 6 = μ 1000 6 ∧ μ' 1000 7 = μ 1000 7 ∧ μ' 1000 8 = μ 1000 8 ∧ μ' 1000 9 = μ 1000 9 ∧ μ' 1000 10 = μ 1000 10) (hn : Rpn μ' S') (hf : Rfr K') : Rc μ' R K' S' := by
  obtain ⟨h1, h2, h3, h4, h5, h6, h7, h8, h9, h10, h11⟩ := h
  refine ⟨CK_f h1 eC, ?_, ?_, ?_, ?_, ?_, ?_, ?_, ?_, ?_, hf⟩
  · have hs := fun s a b => CF_sh h2 (s := s) a b
    unfold CF at h2 ⊢
    simp (disch := omega) only [eS, eF0, eF2]
    exact ⟨h2.1, h2.2.1, h2.2.2.1, h2.2.2.2.1, h2.2.2.2.2.1, h2.2.2.2.2.2.1, h2.2.2.2.2.2.2.1, h2.2.2.2.2.2.2.2.1, h2.2.2.2.2.2.2.2.2.1, h2.2.2.2.2.2.2.2.2.2.1, h2.2.2.2.2.2.2.2.2.2.2.1, h2.2.2.2.2.2.2.2.2.2.2.2.1, h2.2.2.2.2.2.2.2.2.2.2.2.2.1, h2.2.2.2.2.2.2.2.2.2.2.2.2.2.1, h2.2.2.2.2.2.2.2.2.2.2.2.2.2.2.1, h2.2.2.2.2.2.2.2.2.2.2.2.2.2.2.2.1, h2.2.2.2.2.2.2.2.2.2.2.2.2.2.2.2.2.1, h2.2.2.2.2.2.2.2.2.2.2.2.2.2.2.2.2.2.1, fun s a b => by rw [eS (20 + s) (by omega) (by omega)]; exact hs s a b⟩
  · exact Rsh_m (Rsh_f h3 (fun a _ _ => eS a (by omega) (by omega))) (fun a _ => eM a (by omega) (by omega))
  · exact Rad_m (Rad_f h4 (fun a q => ⟨eK a (by unfold dAd at q; omega), eS a (by unfold dAd at q; omega) (by unfold dAd at q; omega)⟩) (fun a q _ => ⟨eK a (by omega), eS a (by omega) (by omega)⟩)) eI.2.1 (fun a _ _ => eM a (by omega) (by omega))
  · exact Rph_m (Rph_f h5 (fun a q => ⟨eK a (by unfold dPh at q; omega), eS a (by unfold dPh at q; omega) (by unfold dPh at q; omega)⟩)) eI.2.2.1 (fun a _ _ => eM a (by omega) (by omega))
  · exact Rpf_m (Rpf_f h6 (fun a q => ⟨eK a (by unfold dPf at q; omega), eS a (by unfold dPf at q; omega) (by unfold dPf at q; omega)⟩)) eI.2.2.2.1 eI.2.2.2.2.2.2.1 eI.2.2.2.2.2.2.2.1 (fun a _ _ => eM a (by omega) (by omega))
  · exact Rru_m (Rru_f h7 (fun a q => ⟨eK a (by unfold dRu at q; omega), eS a (by unfold dRu at q; omega) (by unfold dRu at q; omega)⟩)) eI.2.2.2.2.1 (fun a _ _ => eM a (by omega) (by omega))
  · exact hn
  · exact Rul_m (Rul_f h9 (fun a q => ⟨eK a (by unfold dUl at q; omega), eS a (by unfold dUl at q; omega) (by unfold dUl at q; omega)⟩)) eI.2.2.2.2.2.1 (fun a _ _ => eM a (by omega) (by omega))
  · exact Rno_m (Rno_f h10 (eS 1 (by decide) (by omega)) (eS 56 (by decide) (by omega))) eI.1 eI.2.2.2.2.2.2.2.2.1 eI.2.2.2.2.2.2.2.2.2 (eM 1070 (by decide) (by omega))
theorem Rc_ul' {μ μ' : ST} {R : RT} {K K' : KT} {S S' : ST} (h : Rc μ R K S) (eK : ∀ a, ¬ (a = 47 ∨ (500 ≤ a ∧ a < 540) ∨ (840 < a ∧ a < 900)) → K' a = K a) (eC : ∀ a, 0 ≤ a → a < 60 → K' a = K a) (eS : ∀ a, a < 1000 → ¬ (a = 47 ∨ (500 ≤ a ∧ a < 540) ∨ (840 < a ∧ a < 900)) → S' a = S a)  (eM : ∀ a, a ≠ 1000 → ¬ (1056 ≤ a ∧ a ≤ 1069) → μ' a = μ a) (eI : μ' 1000 0 = μ 1000 0 ∧ μ' 1000 1 = μ 1000 1 ∧ μ' 1000 2 = μ 1000 2 ∧ μ' 1000 3 = μ 1000 3 ∧ μ' 1000 4 = μ 1000 4 ∧ μ' 1000 5 = μ 1000 5 ∧ μ' 1000 7 = μ 1000 7 ∧ μ' 1000 8 = μ 1000 8 ∧ μ' 1000 9 = μ 1000 9 ∧ μ' 1000 10 = μ 1000 10) (hn : Rul μ' K' S') (hf : Rfr K') : Rc μ' R K' S' := by
  obtain ⟨h1, h2, h3, h4, h5, h6, h7, h8, h9, h10, h11⟩ := h
  refine ⟨CK_f h1 eC, ?_, ?_, ?_, ?_, ?_, ?_, ?_, ?_, ?_, hf⟩
  · exact CF_f h2 (fun a q => eS a (by omega) (by omega)) (by rw [eS 48 (by decide) (by omega)]) (by rw [eS 48 (by decide) (by omega)]) (by rw [eS 51 (by decide) (by omega)]) (by rw [eS 51 (by decide) (by omega)])
  · exact Rsh_m (Rsh_f h3 (fun a _ _ => eS a (by omega) (by omega))) (fun a _ => eM a (by omega) (by omega))
  · exact Rad_m (Rad_f h4 (fun a q => ⟨eK a (by unfold dAd at q; omega), eS a (by unfold dAd at q; omega) (by unfold dAd at q; omega)⟩) (fun a q _ => ⟨eK a (by omega), eS a (by omega) (by omega)⟩)) eI.2.1 (fun a _ _ => eM a (by omega) (by omega))
  · exact Rph_m (Rph_f h5 (fun a q => ⟨eK a (by unfold dPh at q; omega), eS a (by unfold dPh at q; omega) (by unfold dPh at q; omega)⟩)) eI.2.2.1 (fun a _ _ => eM a (by omega) (by omega))
  · exact Rpf_m (Rpf_f h6 (fun a q => ⟨eK a (by unfold dPf at q; omega), eS a (by unfold dPf at q; omega) (by unfold dPf at q; omega)⟩)) eI.2.2.2.1 eI.2.2.2.2.2.2.1 eI.2.2.2.2.2.2.2.1 (fun a _ _ => eM a (by omega) (by omega))
  · exact Rru_m (Rru_f h7 (fun a q => ⟨eK a (by unfold dRu at q; omega), eS a (by unfold dRu at q; omega) (by unfold dRu at q; omega)⟩)) eI.2.2.2.2.1 (fun a _ _ => eM a (by omega) (by omega))
  · exact Rpn_m (Rpn_f h8 (eS 45 (by decide) (by omega)) (eS 46 (by decide) (by omega))) eI.2.2.2.2.2.1 (eM 1055 (by decide) (by omega))
  · exact hn
  · exact Rno_m (Rno_f h10 (eS 1 (by decide) (by omega)) (eS 56 (by decide) (by omega))) eI.1 eI.2.2.2.2.2.2.2.2.1 eI.2.2.2.2.2.2.2.2.2 (eM 1070 (by decide) (by omega))
theorem Rc_no' {μ μ' : ST} {R : RT} {K K' : KT} {S S' : ST} (h : Rc μ R K S) (eK : ∀ a, ¬ (a = 1 ∨ a = 56) → K' a = K a) (eC : ∀ a, 0 ≤ a → a < 60 → K' a = K a) (eS : ∀ a, a < 1000 → ¬ (a = 1 ∨ a = 56) → S' a = S a) (eF : ∀ i, i ≤ 10 → S' 1 i = S 1 i) (eM : ∀ a, a ≠ 1000 → ¬ a = 1070 → μ' a = μ a) (eI : μ' 1000 1 = μ 1000 1 ∧ μ' 1000 2 = μ 1000 2 ∧ μ' 1000 3 = μ 1000 3 ∧ μ' 1000 4 = μ 1000 4 ∧ μ' 1000 5 = μ 1000 5 ∧ μ' 1000 6 = μ 1000 6 ∧ μ' 1000 7 = μ 1000 7 ∧ μ' 1000 8 = μ 1000 8) (hn : Rno μ' S') (hf : Rfr K') : Rc μ' R K' S' := by
  obtain ⟨h1, h2, h3, h4, h5, h6, h7, h8, h9, h10, h11⟩ := h
  refine ⟨CK_f h1 eC, ?_, ?_, ?_, ?_, ?_, ?_, ?_, ?_, ?_, hf⟩
  · have hs := fun s a b => CF_sh h2 (s := s) a b
    unfold CF at h2 ⊢
    simp (disch := omega) only [eS, eF]
    exact ⟨h2.1, h2.2.1, h2.2.2.1, h2.2.2.2.1, h2.2.2.2.2.1, h2.2.2.2.2.2.1, h2.2.2.2.2.2.2.1, h2.2.2.2.2.2.2.2.1, h2.2.2.2.2.2.2.2.2.1, h2.2.2.2.2.2.2.2.2.2.1, h2.2.2.2.2.2.2.2.2.2.2.1, h2.2.2.2.2.2.2.2.2.2.2.2.1, h2.2.2.2.2.2.2.2.2.2.2.2.2.1, h2.2.2.2.2.2.2.2.2.2.2.2.2.2.1, h2.2.2.2.2.2.2.2.2.2.2.2.2.2.2.1, h2.2.2.2.2.2.2.2.2.2.2.2.2.2.2.2.1, h2.2.2.2.2.2.2.2.2.2.2.2.2.2.2.2.2.1, h2.2.2.2.2.2.2.2.2.2.2.2.2.2.2.2.2.2.1, fun s a b => by rw [eS (20 + s) (by omega) (by omega)]; exact hs s a b⟩
  · exact Rsh_m (Rsh_f h3 (fun a _ _ => eS a (by omega) (by omega))) (fun a _ => eM a (by omega) (by omega))
  · exact Rad_m (Rad_f h4 (fun a q => ⟨eK a (by unfold dAd at q; omega), eS a (by unfold dAd at q; omega) (by unfold dAd at q; omega)⟩) (fun a q _ => ⟨eK a (by omega), eS a (by omega) (by omega)⟩)) eI.1 (fun a _ _ => eM a (by omega) (by omega))
  · exact Rph_m (Rph_f h5 (fun a q => ⟨eK a (by unfold dPh at q; omega), eS a (by unfold dPh at q; omega) (by unfold dPh at q; omega)⟩)) eI.2.1 (fun a _ _ => eM a (by omega) (by omega))
  · exact Rpf_m (Rpf_f h6 (fun a q => ⟨eK a (by unfold dPf at q; omega), eS a (by unfold dPf at q; omega) (by unfold dPf at q; omega)⟩)) eI.2.2.1 eI.2.2.2.2.2.2.1 eI.2.2.2.2.2.2.2 (fun a _ _ => eM a (by omega) (by omega))
  · exact Rru_m (Rru_f h7 (fun a q => ⟨eK a (by unfold dRu at q; omega), eS a (by unfold dRu at q; omega) (by unfold dRu at q; omega)⟩)) eI.2.2.2.1 (fun a _ _ => eM a (by omega) (by omega))
  · exact Rpn_m (Rpn_f h8 (eS 45 (by decide) (by omega)) (eS 46 (by decide) (by omega))) eI.2.2.2.2.1 (eM 1055 (by decide) (by omega))
  · exact Rul_m (Rul_f h9 (fun a q => ⟨eK a (by unfold dUl at q; omega), eS a (by unfold dUl at q; omega) (by unfold dUl at q; omega)⟩)) eI.2.2.2.2.2.1 (fun a _ _ => eM a (by omega) (by omega))
  · exact hn
