/-! THE LAW: its script; a call leaves it as it is -/
theorem Mt.scr {d mc ms : Nat} {M : Mth} {as : List V} {K : KT} {S : ST} {Q : QF} {L : Int} (hk : K 9 = (92, L)) (h : Mt d mc ms M as K S (fun r K' S' => K' 9 = (92, L) → (∀ j, 0 ≤ j → j < L → S' 9 j = S 9 j) → Q r K' S')) : Mt d mc ms M as K S Q := by
  intro l D AC ι sz hok hJ
  have hm := h l D AC ι sz hok hJ
  intro p e ha hc hkk s m args below hf happ hP hT
  obtain ⟨n, o, h1, h2, h3, ⟨⟨r, K', S', ι', q1, q2, q3, q4, q5, q6, q7, q8⟩, hF⟩, hfr⟩ := hm p e ha hc hkk s m args below hf happ hP hT
  refine ⟨n, o, h1, h2, h3, ⟨⟨r, K', S', ι', q1, q2, q3 ?_ ?_, q4, q5, q6, q7, q8⟩, hF⟩, hfr⟩
  · rw [(q5 9 (by rw [hk]; show (92 : Int) ≠ 0; decide)).1, hk]
  · obtain ⟨p0, hsz, hR, hKK, hW⟩ := hP
    have hk1 : (K 9).1 = 92 := by rw [hk]
    have hk2 : (K 9).2 = L := by rw [hk]
    have c1 := hR.2.2 9 (by rw [hk1]; decide)
    have hlt := c1.lt
    obtain ⟨e1, e2⟩ := q5 9 (by rw [hk1]; decide)
    have hkk1 : (K' 9).1 = 92 := by rw [e1]; exact hk1
    have hkk2 : (K' 9).2 = L := by rw [e1]; exact hk2
    have c2 := q4.2.2 9 (by rw [hkk1]; decide)
    have hnA : ¬ AA ι K sz (ι 9) := by
      rintro (⟨a, a1, a2, a3⟩ | a)
      · have := hR.2.1 a 9 a1 (by rw [hk1]; decide) a3
        rw [this, hk1] at a2
        exact a2 (Or.inr (Or.inr rfl))
      · omega
    have hsame := hF.2 (ι 9) hlt hnA
    rcases c1 with ⟨g1, _⟩ | ⟨g1 | g1, _⟩ | ⟨_, _, _, cell, g1, _, _, g3⟩ | ⟨_, g1, _⟩
    · omega
    · omega
    · omega
    · rcases c2 with ⟨k1, _⟩ | ⟨k1 | k1, _⟩ | ⟨_, _, _, cell', k1, _, _, k3⟩ | ⟨_, k1, _⟩
      · omega
      · omega
      · omega
      · rw [e2, hsame, g1] at k1
        cases k1
        intro j j0 j1
        have a := g3 j.toNat (by rw [hk2]; omega)
        have b := k3 j.toNat (by rw [hkk2]; omega)
        rw [show ((j.toNat : Nat) : Int) = j by omega] at a b
        have e := a.1.symm.trans b.1
        have e' : i32 (S 9 j) = i32 (S' 9 j) := by injection e with e; injection e
        exact ((i32_eq a.2 b.2).mp e').symm
      · omega
    · omega
def oAlenX (nx : Nat) : Op := fun T _ _ L st K S cb nb => popR st fun a st => a = 9 ∧ (K 9).1 = 92 ∧ T nx L (vI (K 9).2 :: st) K S cb nb
/-- the script's cell is still the int array that it was -/
theorem scr_at {M : Mth} {d : Nat} {D : va_G} {AC : Int → ClassId} {ι0 : Int → Nat} {K0 : KT} {A : Nat → Prop} {mc ms : Nat} {p : Program} {R : Room} {s : State} {m : MethodId} {args : Array Value} {meth : Method} {c : Code} {H : Heap} {locs : List Loc} {cells slots cb nb : Nat} {ι : Int → Nat} {ls : Array Slot} {L st : List V} {K : KT} {S : ST}
    (hX1 : CX M d D AC ι0 K0 A mc ms p R s m args meth c) (hX : DX M D AC ι0 K0 A mc ms s H locs cells slots ι ls L st K S cb nb) (hk : (K 9).1 = 92) : 0 ≤ (K 9).2 ∧ (K 9).2 < 2147483648 ∧ ∃ cell : Cell, H[ι 9]? = some cell ∧ s.isArrayOf cell .int ∧ cell.vm ≠ .unknown ∧ cell.slots.size = (K 9).2.toNat ∧ ∀ j : Nat, (j : Int) < (K 9).2 → cell.slots[j]? = some (.int (i32 (S 9 j))) ∧ in32 (S 9 j) := by
  obtain ⟨g1, g2, g3, g4, g5, g6, g7, g8, g9, g10⟩ := id hX
  have e0 := g3 9 (Or.inr (Or.inr hk))
  have hk0 : (K0 9).1 = 92 := by rw [e0]; exact hk
  obtain ⟨cell0, z1, z2, z3⟩ := hX1.2.2.2.2.2.2.2.2.2.2.2.2.2.1.2.2 hk0
  rw [← (g2 9 (by rw [hk0]; decide)).2] at z1 z3
  have hh := g5.2.1 (ι 9) (Array.getElem?_eq_some_iff.mp z1).1 z3
  have c1 := g1.2.2 9 (by rw [hk]; decide)
  rcases c1 with ⟨w1, _⟩ | ⟨w1 | w1, _⟩ | ⟨_, w1, w2, cell, w3, w4, w5, w6⟩ | ⟨_, w1, _⟩
  · omega
  · omega
  · omega
  · have : cell = cell0 := by
      rw [hh, z1] at w3
      exact (Option.some.inj w3).symm
    subst this
    exact ⟨w1, w2, cell, w3, z2, w4, w5, w6⟩
  · omega
theorem s_alenX {M : Mth} {pc : Nat} (hd : decode M.2.1 pc = .ok (.arraylength, 1)) : Snd M pc (oAlenX (pc + 1)) := by
  intro d T Q hT L st K S cb nb h
  obtain ⟨a, r0, rfl, ha, hk, h2⟩ := popR_o h
  subst ha
  intro p l e R s m args below meth c D AC ι0 K0 A mc ms H locs cells slots ι ls hX1 hX
  obtain ⟨b1, b2, cell, b3, b4, b5, b6, b7⟩ := scr_at hX1 hX hk
  obtain ⟨g1, g2, g3, g4, g5, g6, g7, g8, g9, g10⟩ := id hX
  have hkk := hT _ _ _ _ _ _ _ h2 p l e R s m args below meth c D AC ι0 K0 A mc ms H locs cells slots ι ls hX1 ⟨g1, g2, g3, g4, g5, g6, g7, g8, g9, okc (v := vI (K 9).2) (show in32 (K 9).2 by unfold in32; omega) (okt g10)⟩
  rw [List.map_cons, conc_R, cR_n (by decide)]
  refine W.alen (n := i32 (K 9).2) hX1.1 hX1.2.1 b3 b4 ?_ rfl rfl hd hkk
  rw [b6]
  show Int32.ofNat (K 9).2.toNat = Int32.ofInt (K 9).2
  rw [← Int32.ofInt_eq_ofNat]
  congr 1
  omega
def oIaldX (nx : Nat) : Op := fun T _ _ L st K S cb nb => popI st fun i st => popR st fun a st => a = 9 ∧ (K 9).1 = 92 ∧ 0 ≤ i ∧ i < (K 9).2 ∧ T nx L (vI (S 9 i) :: st) K S cb nb
theorem s_ialdX {M : Mth} {pc : Nat} (hd : decode M.2.1 pc = .ok (.iaload, 1)) : Snd M pc (oIaldX (pc + 1)) := by
  intro d T Q hT L st K S cb nb h
  obtain ⟨i, r0, rfl, h1⟩ := popI_o h
  obtain ⟨a, r0, rfl, ha, hk, i0, i1, h2⟩ := popR_o h1
  subst ha
  intro p l e R s m args below meth c D AC ι0 K0 A mc ms H locs cells slots ι ls hX1 hX
  obtain ⟨b1, b2, cell, b3, b4, b5, b6, b7⟩ := scr_at hX1 hX hk
  obtain ⟨g1, g2, g3, g4, g5, g6, g7, g8, g9, g10⟩ := id hX
  obtain ⟨hin, hcl⟩ := nn_i32 (i := i) (n := (K 9).2.toNat) i0 (by omega) (by omega)
  have ei : ((i.toNat : Nat) : Int) = i := by omega
  have hok := b7 i.toNat (by omega)
  rw [ei] at hok
  have hkk := hT _ _ _ _ _ _ _ h2 p l e R s m args below meth c D AC ι0 K0 A mc ms H locs cells slots ι ls hX1 ⟨g1, g2, g3, g4, g5, g6, g7, g8, g9, okc (v := vI (S 9 i)) hok.2 (okt (okt g10))⟩
  rw [List.map_cons, List.map_cons, conc_I, conc_R, cR_n (by decide)]
  exact W.iald (v := .int (i32 (S 9 i))) hX1.1 hX1.2.1 b3 b4 b5 (by rw [b6]; exact hin) (by rw [hcl]; exact hok.1) rfl rfl hd hkk
/-! what holds between the law's calls -/
theorem Rc_lo {μ : ST} {R : RT} {K K' : KT} {S S' : ST} (h : Rc μ R K S) (e : ∀ a, a < 1000 → (0 ≤ a ∨ (K a).1 ≠ 0) → K' a = K a ∧ S' a = S a) (hfr : Rfr K') : Rc μ R K' S' := by
  obtain ⟨h1, h2, h3, h4, h5, h6, h7, h8, h9, h10, h11⟩ := h
  refine ⟨CK_f h1 (fun a a0 a1 => (e a (by omega) (by omega)).1), CF_f h2 (fun a q => (e a (by omega) (by omega)).2) (by rw [(e 48 (by omega) (by omega)).2]) (by rw [(e 48 (by omega) (by omega)).2]) (by rw [(e 51 (by omega) (by omega)).2]) (by rw [(e 51 (by omega) (by omega)).2]), Rsh_f h3 (fun a a0 a1 => (e a (by omega) (by omega)).2), Rad_f h4 (fun a q => e a (by unfold dAd at q; omega) (by unfold dAd at q; omega)) (fun a q q2 => e a (by omega) (Or.inr q2)), Rph_f h5 (fun a q => e a (by unfold dPh at q; omega) (by unfold dPh at q; omega)), Rpf_f h6 (fun a q => e a (by unfold dPf at q; omega) (by unfold dPf at q; omega)), Rru_f h7 (fun a q => e a (by unfold dRu at q; omega) (by unfold dRu at q; omega)), Rpn_f h8 (e 45 (by omega) (by omega)).2 (e 46 (by omega) (by omega)).2, Rul_f h9 (fun a q => e a (by unfold dUl at q; omega) (by unfold dUl at q; omega)), Rno_f h10 (e 1 (by omega) (by omega)).2 (e 56 (by omega) (by omega)).2, hfr⟩
def LI (L : Int) (T : Int → Int) (μ : ST) (R : RT) (K : KT) (S : ST) : Prop := Rc μ R K S ∧ MS μ S S ∧ MK K ∧ IvB μ R ∧ (∀ r, OkT (R r)) ∧ K 9 = (92, L) ∧ ∀ j, 0 ≤ j → j < L → S 9 j = T j
theorem MS_out {μ S S' : ST} (h : MS μ S S) (ho : Out S S') : MS μ S' S' := ⟨fun _ _ => rfl, fun a i a0 q => by rw [ho a a0]; exact h.2.1 a i a0 q, fun k hk => by rw [ho 1000 (by omega)]; exact h.2.2 k hk⟩
theorem MK_out {K K' : KT} (h : MK K) (e : ∀ a, 1000 ≤ a → K' a = K a) : MK K' := by
  unfold MK at h ⊢
  simp (disch := omega) only [e]
  exact h
/-- behind the class's call and the reference's -/
theorem LI_next {L : Int} {T : Int → Int} {μ μ' : ST} {R R' : RT} {K K1 : KT} {S S1 S2 : ST} (h : LI L T μ R K S) (hrc : Rc μ' R' K1 S1) (hk : MK K1) (h9 : K1 9 = (92, L)) (hs : ∀ j, 0 ≤ j → j < L → S1 9 j = S 9 j) (hm : MS μ' S1 S2) (hI : IvB μ' R') (hO : ∀ r, OkT (R' r)) : LI L T μ' R' K1 S2 := by
  refine ⟨Rc_lo hrc (fun a a0 _ => ⟨rfl, hm.1 a a0⟩) (Rc_fr hrc), ⟨fun _ _ => rfl, hm.2.1, hm.2.2⟩, hk, hI, hO, h9, fun j j0 j1 => ?_⟩
  rw [hm.1 9 (by decide), hs j j0 j1]
  exact h.2.2.2.2.2.2 j j0 j1
