/-! INVARIANTS KEPT: rule -/
theorem EncM_nt {μ : ST} {r : Int} : ∀ (ts : List Tok) (j t : Int), EncM μ r ts j t → ntT ts = 0 ∨ t + ntT ts ≤ 40
  | [], _, _, _ => Or.inl rfl
  | .inl (sg, x, y) :: ts, j, t, h => by
    obtain ⟨h1, h3, h4, h5, h6, h7⟩ := h
    have g := EncM_nt ts (j + 1) (t + 1) h7
    show 1 + ntT ts = 0 ∨ t + (1 + ntT ts) ≤ 40
    omega
  | .inr (.inl u) :: ts, j, t, h => EncM_nt ts (j + 1) t h.2
  | .inr (.inr true) :: ts, j, t, h => EncM_nt ts (j + 1) t h.2
  | .inr (.inr false) :: ts, j, t, h => EncM_nt ts (j + 1) t h.2
theorem RuM_same {μ μ1 : ST} {r r' : Int} {ts : List Tok} (h : SameR r μ μ1) (hr : r' ≠ r) (g : RuM μ r' ts) : RuM μ1 r' ts := by
  obtain ⟨g1, g2, g3, g4⟩ := g
  have hn := EncM_nt ts 0 0 g3
  refine ⟨by rw [h 1048 r' (by omega)]; exact g1, g2, EncM_same ts 0 0 (fun x x0 x1 => h 1049 _ (by omega)) (fun b x b1 b2 x0 x1 => h b _ (by omega)) g3, g4⟩
theorem RuM_rows {μ μ1 : ST} {r : Int} {ts : List Tok} (h : ∀ a, 1048 ≤ a → a ≤ 1054 → μ1 a = μ a) (g : RuM μ r ts) : RuM μ1 r ts :=
  ⟨by rw [h 1048 (by omega) (by omega)]; exact g.1, g.2.1, EncM_rows (fun a a0 a1 => h a (by omega) a1) _ _ _ g.2.2.1, g.2.2.2⟩
theorem IvB_R {μ : ST} {R R' : RT} (h : IvB μ R) (e : ∀ r, 0 ≤ r → r < μ 1000 4 → R' r = R r) : IvB μ R' := by
  obtain ⟨⟨h0, h1, h2, h3, h4, h5, h6, h7⟩, h8⟩ := h
  exact ⟨⟨h0, h1, h2, h3, h4, h5, h6, fun r a b => by rw [e r a b]; exact h7 r a b⟩, h8⟩
theorem IvB_same {μ μ1 : ST} {R : RT} (h : IvB μ R) (hs : SameR (μ 1000 4) μ μ1) : IvB μ1 R := by
  have e : ∀ a, ¬ (1048 ≤ a ∧ a ≤ 1054) → μ1 a = μ a := fun a q => funext fun x => hs a x (by omega)
  have e0 : μ1 1000 = μ 1000 := e 1000 (by omega)
  obtain ⟨⟨h0, h1, h2, h3, h4, h5, h6, h7⟩, h8⟩ := h
  refine ⟨⟨Iv0_f h0 (fun i _ => by rw [e0]), IvS_f h1 (fun a _ _ => e a (by omega)), IvA_f h2 (by rw [e0]) (fun a _ _ => e a (by omega)), IvP_f h3 (by rw [e0]) (fun a _ => e a (by omega)), IvF_f h4 (by rw [e0]) (fun a _ _ => e a (by omega)), IvK_f h5 (by rw [e0]) (e 1055 (by omega)), IvU_f h6 (by rw [e0]) (fun a _ _ => e a (by omega)), fun r a b => ?_⟩, IvC_f h8 (by rw [e0]) (by rw [e0]) (by rw [e0]) (fun a _ => e a (by omega))⟩
  rw [e0] at b
  exact RuM_same hs (by omega) (h7 r a b)
theorem IvB_ft {μ : ST} {R : RT} {v : Int} (h : IvB μ R) : IvB (up μ 1000 9 v) R := IvB_f h (by intros; simp (disch := omega) only [up_na, up_ni, zrF_na, cpyF_na, toRowF, putLF]) (by intros; simp (disch := omega) only [up_na, up_ni, zrF_na, cpyF_na, toRowF, putLF])
theorem ruP_ok {μ : ST} {s : Int} (hn : μ 1013 s ≤ 60) (h : (ruP μ s).1 = -1) : OkT (ruP μ s).2 := by
  have ew := ruP_wf hn h
  obtain ⟨k1, k2⟩ := isC_t ew.2.2.1
  obtain ⟨p1, p2, p3⟩ := (PI_all (t := intF μ s) (n := μ 1013 s) 300).2.2.2.1 0 2 (by omega)
  rw [ew.2.2.2.2.2]
  exact (p3 ew.2.2.2.1).2.2
theorem ruR_ok {μ : ST} {R : RT} {s : Int} (hn : (ruP μ s).1 = -1 → μ 1013 s ≤ 60) (h : ∀ r, OkT (R r)) (r : Int) : OkT (ruR μ R s r) := by
  unfold ruR
  split
  · rename_i c
    exact ruP_ok (hn c.2) c.2
  · exact h r
theorem RuOk_of {μ : ST} {R : RT} (h : IvR μ R) (hO : ∀ r, OkT (R r)) : RuOk μ R := fun r a b => ⟨hO r, (h r a b).2.2.2, (h r a b).2.1⟩
theorem Iv_rule {μ μ' : ST} {R : RT} {s f : Int} (h : IvB μ R) (hu : RuU μ s f μ') : IvB μ' (ruR μ R s) := by
  by_cases e : wantF μ s = 0
  · by_cases hf : 0 ≤ f ∧ f ≤ 9000
    · have hs : isSh s := by rcases wantF_c μ s with ⟨a, w⟩ | ⟨a, w⟩ | ⟨a, w⟩ | ⟨a, w⟩ <;> first | omega | exact w.1
      have hsz := h.1.2.1 s hs.1 hs.2
      by_cases hp : (ruP μ s).1 = -1
      · by_cases h16 : μ 1000 4 = 16
        · obtain ⟨μ1, hs1, hs3⟩ := RuU_d e hf hp h16 hu
          rw [hs3]
          exact IvB_R (IvB_rf (IvB_ft (IvB_same h hs1))) (fun r _ r1 => ruR_n (by
            have e7 : rf (up μ1 1000 9 (-1)) 7 1000 4 = μ 1000 4 := by
              unfold rf
              rw [up_na (by decide), up_ni (by decide), hs1 1000 _ (by omega)]
            rw [e7] at r1; exact r1))
        · obtain ⟨μ1, hs1, hs2, hs3⟩ := RuU_e e hf hp h16 hu
          obtain ⟨m1, m2, m3, m4, m5, m6⟩ := ruM_at hs1 hs3
          have hold := h.1.2.2.2.2.2.2.2
          have hnew := RuE_M (by omega) hp hs2
          obtain ⟨⟨h0, h1, h2, h3, h4, h5, h6, h7⟩, h8⟩ := IvB_ft (v := -1) h
          refine ⟨⟨?_, IvS_f h1 (fun a _ _ => m1 a (by omega) (by omega)), IvA_f h2 (m2 1 (by decide)) (fun a _ _ => m1 a (by omega) (by omega)), IvP_f h3 (m2 2 (by decide)) (fun a _ => m1 a (by omega) (by omega)), IvF_f h4 (m2 3 (by decide)) (fun a _ _ => m1 a (by omega) (by omega)), IvK_f h5 (m2 5 (by decide)) (m1 1055 (by decide) (by omega)), IvU_f h6 (m2 6 (by decide)) (fun a _ _ => m1 a (by omega) (by omega)), fun r a b => ?_⟩, IvC_f h8 (m2 1 (by decide)) (m2 2 (by decide)) (m2 6 (by decide)) (fun a _ => m1 a (by omega) (by omega))⟩
          · have e4 : (up μ 1000 9 (-1)) 1000 4 = μ 1000 4 := up_ni (by decide)
            unfold Iv0 at h0 ⊢
            rw [m3, m2 0 (by decide), m2 1 (by decide), m2 2 (by decide), m2 3 (by decide), m2 5 (by decide), m2 6 (by decide), m2 7 (by decide), m2 8 (by decide)]
            rw [e4] at h0
            omega
          · rw [m3] at b
            by_cases er : r = μ 1000 4
            · rw [er, show ruR μ R s (μ 1000 4) = (ruP μ s).2 from if_pos ⟨rfl, hp⟩]
              exact RuM_rows m6 hnew
            · rw [ruR_n (by omega)]
              exact RuM_rows m6 (RuM_same hs1 er (hold r a (by omega)))
      · obtain ⟨μ1, hs1, hs3⟩ := RuU_c e hf hp hu
        rw [hs3]
        exact IvB_R (IvB_rf (IvB_ft (IvB_same h hs1))) (fun r _ r1 => ruR_n (by
          have e7 : rf (up μ1 1000 9 (ruP μ s).1) 6 1000 4 = μ 1000 4 := by
            unfold rf
            rw [up_na (by decide), up_ni (by decide), hs1 1000 _ (by omega)]
          rw [e7] at r1; exact r1))
    · rw [RuU_b e hf hu]
      exact IvB_R (IvB_rf h) (fun r _ r1 => ruR_n (by
        have e7 : rf μ 6 1000 4 = μ 1000 4 := by unfold rf; rw [up_na (by decide)]
        rw [e7] at r1; exact r1))
  · rw [RuU_a e hu]
    exact IvB_R (IvB_rf h) (fun r _ r1 => ruR_n (by
      have e7 : rf μ (-(wantF μ s)) 1000 4 = μ 1000 4 := by unfold rf; rw [up_na (by decide)]
      rw [e7] at r1; exact r1))
