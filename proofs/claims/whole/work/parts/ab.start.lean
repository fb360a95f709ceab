/-! THE START: the class as it is made, against the reference as it is made -/
theorem Mu0_z {μ : ST} (hm : Mu0 μ) {a x : Int} (h0 : 1011 ≤ a) (h1 : a ≤ 1071) (h2 : a ≠ 1030) (h3 : a ≠ 1031) : μ a x = 0 := by
  have g := hm.2.1 (a - 1000) (by unfold arrF; omega) (by omega) (by omega) x
  rw [show 1000 + (a - 1000) = a by omega] at g
  exact g
theorem Ls_start {K : KT} {S : ST} {l rb : Int} {g : Int → Int} (h1 : S l 1 = 7) (h2 : S l 2 = 0) (h7 : K 7 = (90, 0)) (hf : ∀ c, 0 < c → c < 60 → (K (rb + c)).1 = 0) : Ls K S l rb 0 g := by
  refine ⟨h2, ?_, ?_, Or.inl h1, fun i i0 i1 => by omega, fun c c0 c1 => ?_⟩
  · rw [h1]; exact Or.inl ⟨rfl, h7⟩
  · rw [h1, h7]; decide
  · rw [h1, h7] at c0; exact hf c c0 c1
theorem Rc_start {c : List Int} {K0 K1 K : KT} {T0 T1 S : ST} {μ : ST} {R : RT} (ec : c = [56, 55, 54, 51, 52, 53, 48, 49, 50, 45, 46, 47, 43, 44, 42, 41, 40, 57]) (h : IC 14 c K0 T0 K1 T1) (hs : IS 8 K1 T1 K S) (hF : ∀ a, 10 ≤ a → a < 1000 → (K0 a).1 = 0) (h7 : K0 7 = (90, 0)) (h8 : (K0 8).1 = 91) (hN : ∀ a, a < 0 → (K0 a).1 = 0) (hm : Mu0 μ) : Rc μ R K S := by
  subst ec
  obtain ⟨a1, a2, a3, a4⟩ := h
  obtain ⟨b1, b2, b3, b4⟩ := hs
  have z := @Mu0_z μ hm
  have kc : ∀ x ∈ ([56, 55, 54, 51, 52, 53, 48, 49, 50, 45, 46, 47, 43, 44, 42, 41, 40, 57] : List Int), K x = kkF x := fun x hx => by
    have hb : 40 ≤ x := by simp only [List.mem_cons, List.not_mem_nil, or_false] at hx; omega
    rw [b2 x (by omega) (by omega)]; exact (a3 x hx).1
  have sc : ∀ x ∈ ([56, 55, 54, 51, 52, 53, 48, 49, 50, 45, 46, 47, 43, 44, 42, 41, 40, 57] : List Int), x ≠ 57 → ∀ j, S x j = ssF x j := fun x hx hx7 j => by
    have hb : 40 ≤ x := by simp only [List.mem_cons, List.not_mem_nil, or_false] at hx; omega
    rw [b3 x (by omega) (by omega) hx7]; exact (a3 x hx).2 j
  have s1 : ∀ j, 0 ≤ j → j < 14 → S 1 j = tgF j := fun j j0 j1 => by rw [b3 1 (by omega) (by omega) (by omega)]; exact a2 j j0 j1
  have k0 : ∀ x, ¬ (20 ≤ x ∧ x < 28) → ¬ (30 ≤ x ∧ x < 38) → x ≠ 1 → ¬ (40 ≤ x ∧ x ≤ 57) → K x = K0 x := fun x x0 x1 x2 x3 => by
    rw [b2 x x0 x1]
    exact (a4 x (fun q => by simp only [List.mem_cons, List.not_mem_nil, or_false] at q; omega) x2).1
  have hk7 : K 7 = (90, 0) := by rw [k0 7 (by omega) (by omega) (by omega) (by omega)]; exact h7
  have fr : ∀ x, 60 ≤ x → x < 1000 → (K x).1 = 0 := fun x x0 x1 => by
    rw [k0 x (by omega) (by omega) (by omega) (by omega)]; exact hF x (by omega) x1
  have m1 : μ 1000 1 = 0 := hm.1 1 (by unfold arrF; omega)
  have m2 : μ 1000 2 = 0 := hm.1 2 (by unfold arrF; omega)
  have m3 : μ 1000 3 = 0 := hm.1 3 (by unfold arrF; omega)
  have m4 : μ 1000 4 = 0 := hm.1 4 (by unfold arrF; omega)
  have m5 : μ 1000 5 = 0 := hm.1 5 (by unfold arrF; omega)
  have m6 : μ 1000 6 = 0 := hm.1 6 (by unfold arrF; omega)
  refine ⟨?_, ?_, ?_, ?_, ?_, ?_, ?_, ?_, ?_, ?_, ?_⟩
  · refine ⟨by rw [b2 1 (by omega) (by omega)]; exact a1, hk7, kc 40 (by decide), kc 41 (by decide), kc 42 (by decide), kc 43 (by decide), kc 44 (by decide), kc 45 (by decide), kc 46 (by decide), kc 47 (by decide), kc 48 (by decide), kc 49 (by decide), kc 50 (by decide), kc 51 (by decide), kc 52 (by decide), kc 53 (by decide), kc 54 (by decide), kc 55 (by decide), kc 56 (by decide), kc 57 (by decide), by rw [k0 8 (by omega) (by omega) (by omega) (by omega)]; exact h8, fun s s0 s1 => ⟨(b1 s s0 s1).1, (b1 s s0 s1).2.1⟩⟩
  · refine ⟨s1 0 (by decide) (by decide), s1 1 (by decide) (by decide), s1 2 (by decide) (by decide), s1 3 (by decide) (by decide), s1 4 (by decide) (by decide), s1 5 (by decide) (by decide), s1 6 (by decide) (by decide), s1 7 (by decide) (by decide), s1 8 (by decide) (by decide), s1 9 (by decide) (by decide), s1 10 (by decide) (by decide), sc 43 (by decide) (by decide) 0, sc 45 (by decide) (by decide) 0, sc 45 (by decide) (by decide) 2, sc 48 (by decide) (by decide) 0, sc 48 (by decide) (by decide) 4, sc 51 (by decide) (by decide) 0, sc 51 (by decide) (by decide) 1, fun s s0 s1 => ⟨(b1 s s0 s1).2.2.1, (b1 s s0 s1).2.2.2.1⟩⟩
  · intro s s0 s1
    obtain ⟨c1, c2, c3, c4, c5, c6⟩ := b1 s s0 s1
    rw [z (a := 1011) (by decide) (by decide) (by decide) (by decide), z (a := 1012) (by decide) (by decide) (by decide) (by decide), z (a := 1013) (by decide) (by decide) (by decide) (by decide), c5 1 (by decide), c5 2 (by decide), c5 3 (by decide), c5 4 (by decide)]
    refine ⟨rfl, rfl, rfl, rfl, fun i i0 i1 => ?_⟩
    rw [c6 i, z (a := 1018) (by decide) (by decide) (by decide) (by decide)]
  · unfold Rad
    rw [m1]
    exact ⟨by decide, Ls_start (sc 40 (by decide) (by decide) 1) (sc 40 (by decide) (by decide) 2) hk7 (fun c c0 c1 => fr _ (by omega) (by omega)), fun a x0 x1 => by omega, fun a x0 x1 => ⟨fr _ (by omega) (by omega), fr _ (by omega) (by omega), fr _ (by omega) (by omega), fr _ (by omega) (by omega)⟩⟩
  · unfold Rph
    rw [m2]
    exact ⟨by decide, Ls_start (sc 41 (by decide) (by decide) 1) (sc 41 (by decide) (by decide) 2) hk7 (fun c c0 c1 => fr _ (by omega) (by omega)), fun a x0 x1 => by omega, fun a x0 x1 => ⟨fr _ (by omega) (by omega), fr _ (by omega) (by omega), fr _ (by omega) (by omega)⟩⟩
  · unfold Rpf
    rw [m3, hm.1 7 (by unfold arrF; omega), hm.1 8 (by unfold arrF; omega)]
    exact ⟨by decide, Ls_start (sc 44 (by decide) (by decide) 1) (sc 44 (by decide) (by decide) 2) hk7 (fun c c0 c1 => fr _ (by omega) (by omega)), fun a x0 x1 => by omega, fun a x0 x1 => ⟨fr _ (by omega) (by omega), fr _ (by omega) (by omega)⟩, sc 43 (by decide) (by decide) 1, sc 43 (by decide) (by decide) 2⟩
  · unfold Rru
    rw [m4]
    exact ⟨by decide, Ls_start (sc 42 (by decide) (by decide) 1) (sc 42 (by decide) (by decide) 2) hk7 (fun c c0 c1 => fr _ (by omega) (by omega)), fun a x0 x1 => by omega, fun a x0 x1 => ⟨fr _ (by omega) (by omega), fr _ (by omega) (by omega), fr _ (by omega) (by omega)⟩⟩
  · unfold Rpn
    rw [m5]
    exact ⟨by decide, sc 45 (by decide) (by decide) 1, fun j x0 x1 => by omega⟩
  · unfold Rul
    rw [m6]
    exact ⟨by decide, Ls_start (sc 47 (by decide) (by decide) 1) (sc 47 (by decide) (by decide) 2) hk7 (fun c c0 c1 => fr _ (by omega) (by omega)), fun a x0 x1 => by omega, fun a x0 x1 => fr _ (by omega) (by omega)⟩
  · unfold Rno
    rw [hm.1 0 (by unfold arrF; omega), hm.1 9 (by unfold arrF; omega), hm.1 10 (by unfold arrF; omega)]
    refine ⟨s1 11 (by decide) (by decide), s1 12 (by decide) (by decide), s1 13 (by decide) (by decide), fun j j0 j1 => ?_⟩
    rw [z (a := 1070) (by decide) (by decide) (by decide) (by decide), sc 56 (by decide) (by decide) j]
    rfl
  · exact ⟨0, Int.le_refl 0, fun a a0 => by rw [k0 a (by omega) (by omega) (by omega) (by omega)]; exact hN a a0⟩
theorem IvB_start {μ : ST} (hm : Mu0 μ) : IvB μ (fun _ => []) := by
  have z := @Mu0_z μ hm
  have m1 : μ 1000 1 = 0 := hm.1 1 (by unfold arrF; omega)
  have m2 : μ 1000 2 = 0 := hm.1 2 (by unfold arrF; omega)
  have m3 : μ 1000 3 = 0 := hm.1 3 (by unfold arrF; omega)
  have m4 : μ 1000 4 = 0 := hm.1 4 (by unfold arrF; omega)
  have m5 : μ 1000 5 = 0 := hm.1 5 (by unfold arrF; omega)
  have m6 : μ 1000 6 = 0 := hm.1 6 (by unfold arrF; omega)
  refine ⟨⟨?_, fun s s0 s1 => ?_, fun a a0 a1 => ?_, fun a a0 a1 => ?_, fun a a0 a1 => ?_, fun a a0 a1 => ?_, fun a a0 a1 => ?_, fun a a0 a1 => ?_⟩, ?_⟩
  · unfold Iv0
    rw [m1, m2, m3, m4, m5, m6, hm.1 0 (by unfold arrF; omega), hm.1 7 (by unfold arrF; omega), hm.1 8 (by unfold arrF; omega)]
    decide
  · rw [z (a := 1011) (by decide) (by decide) (by decide) (by decide), z (a := 1012) (by decide) (by decide) (by decide) (by decide), z (a := 1013) (by decide) (by decide) (by decide) (by decide)]
    refine ⟨Or.inl rfl, by decide, by decide, by decide, by decide, fun q => ?_⟩
    exact absurd q (by decide)
  · omega
  · omega
  · omega
  · omega
  · omega
  · omega
  · unfold IvC
    rw [m1, m2, m6]
    refine ⟨fun a a0 a1 => ?_, fun s s0 s1 q => ?_, fun r r0 r1 => ?_⟩
    · rw [z (a := 1023) (by decide) (by decide) (by decide) (by decide), z (a := 1024) (by decide) (by decide) (by decide) (by decide), z (a := 1025) (by decide) (by decide) (by decide) (by decide), z (a := 1026) (by decide) (by decide) (by decide) (by decide)]
      exact ⟨rfl, rfl, rfl, rfl, fun p p0 p1 => hm.2.2 _ (by omega) (by omega)⟩
    · rw [z (a := 1011) (by decide) (by decide) (by decide) (by decide)] at q
      exact absurd q (by decide)
    · exact z (by decide) (by decide) (by decide) (by decide)
