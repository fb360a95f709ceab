theorem in32_d {z : Int} (h : -2147483648 ≤ z ∧ z < 2147483648) : in32 z := h
theorem in64_d {z : Int} (h : -9223372036854775808 ≤ z ∧ z < 9223372036854775808) : in64 z := h
theorem akd_d {kd : Int} (h : kd = 100 ∨ kd = 101 ∨ kd = 103 ∨ kd = 110 ∨ kd = 111 ∨ kd = 112) : akd kd := h
/-! a few instructions more: a switch by its printed table, references put side by side, the shared empty row, lists' rows of any class -/
def swOk : Int → List Int → List Nat → Bool
  | _, [], [] => true
  | pc, o :: os, t :: ts => decide (pc + o = (t : Int)) && swOk pc os ts
  | _, _, _ => false
theorem swOk_at : ∀ {pc : Int} {os : List Int} {ts : List Nat}, swOk pc os ts = true → ∀ j : Nat, j < ts.length → ∃ off t, os[j]? = some off ∧ ts[j]? = some t ∧ pc + off = ((t : Nat) : Int)
  | _, [], [], _, j, h => by simp at h
  | pc, o :: os, t :: ts, h, j, hj => by
    unfold swOk at h
    rw [Bool.and_eq_true, decide_eq_true_eq] at h
    match j, hj with
    | 0, _ => exact ⟨o, t, rfl, rfl, h.1⟩
    | j + 1, hj =>
      obtain ⟨off, u, e1, e2, e3⟩ := swOk_at h.2 j (by simpa using hj)
      exact ⟨off, u, by simpa using e1, by simpa using e2, e3⟩
  | _, [], _ :: _, h, _, _ => by cases h
  | _, _ :: _, [], h, _, _ => by cases h
theorem s_switch2 {M : Mth} {pc len tgt : Nat} {dflt lo hi : Int} {offs : Array Int} {ts : List Nat} (hd : decode M.2.1 pc = .ok (.tableswitch dflt lo hi offs, len)) (ht : (pc : Int) + dflt = (tgt : Int)) (hz : swOk (pc : Int) offs.toList ts = true) (hl : hi - lo + 1 = (ts.length : Int)) : Snd M pc (oSwitch lo hi ts tgt) :=
  s_switch hd ht (fun j hj => by
    obtain ⟨off, t, e1, e2, e3⟩ := swOk_at hz j hj
    exact ⟨off, t, by rw [← Array.getElem?_toList]; exact e1, e2, e3⟩) hl
theorem cR_rf (ι : Int → Nat) (z : Int) : cR ι z = va_rf (if z = 0 then none else some (ι z)) := by
  unfold cR va_rf
  by_cases h : z = 0
  · simp [h]
  · simp [h]
theorem cR_inj {D : va_G} {AC : Int → ClassId} {ι : Int → Nat} {K : KT} {S : ST} {H : Heap} (h : RR D AC ι K S H) {x y : Int} (hx : okR K x) (hy : okR K y) : (if x = 0 then none else some (ι x)) = (if y = 0 then none else some (ι y)) ↔ x = y := by
  constructor
  · intro e
    by_cases h1 : x = 0
    · by_cases h2 : y = 0
      · rw [h1, h2]
      · simp [h1, h2] at e
    · by_cases h2 : y = 0
      · simp [h1, h2] at e
      · simp only [h1, h2, if_false, Option.some.injEq] at e
        exact h.2.1 x y (hx.resolve_left h1) (hy.resolve_left h2) e
  · intro e
    rw [e]
def oAcEq (tgt nx : Nat) : Op := fun T _ _ L st K S cb nb => popR st fun y st => popR st fun x st => (x = y → T tgt L st K S cb nb) ∧ (¬ x = y → T nx L st K S cb nb)
theorem s_ac_eq {M : Mth} {pc tgt : Nat} {off : Int} (hd : decode M.2.1 pc = .ok (.if_acmp .eq off, 3)) (ht : (pc : Int) + off = (tgt : Int)) : Snd M pc (oAcEq tgt (pc + 3)) := by
  intro d T Q hT L st K S cb nb h
  obtain ⟨y, r0, rfl, h1⟩ := popR_o h
  obtain ⟨x, r0, rfl, h2, h3⟩ := popR_o h1
  intro p l e R s m args below meth c D AC ι0 K0 A mc ms H locs cells slots ι ls hX1 hX
  obtain ⟨g1, g2, g3, g4, g5, g6, g7, g8, g9, g10⟩ := id hX
  have hy : okR K y := okh g10
  have hx : okR K x := okh (okt g10)
  rw [List.map_cons, List.map_cons, conc_R, conc_R, cR_rf, cR_rf]
  exact lv_acmp_eq hX1.1 hX1.2.1 hd ht (fun q => hT _ _ _ _ _ _ _ (h2 ((cR_inj g1 hx hy).mp q)) p l e R s m args below meth c D AC ι0 K0 A mc ms H locs cells slots ι ls hX1 ⟨g1, g2, g3, g4, g5, g6, g7, g8, g9, okt (okt g10)⟩)
    (fun q => hT _ _ _ _ _ _ _ (h3 (fun z => q ((cR_inj g1 hx hy).mpr z))) p l e R s m args below meth c D AC ι0 K0 A mc ms H locs cells slots ι ls hX1 ⟨g1, g2, g3, g4, g5, g6, g7, g8, g9, okt (okt g10)⟩)
def oGetE (nx : Nat) : Op := fun T _ _ L st K S cb nb => (K 7).1 = 90 ∧ T nx L (vR 7 :: st) K S cb nb
theorem s_getE {M : Mth} {pc idx : Nat} (hl : Cond.fieldLink M.1.cls idx "java/util/ArrayList" "DEFAULTCAPACITY_EMPTY_ELEMENTDATA" "[Ljava/lang/Object;" ∈ lwG) (hd : decode M.2.1 pc = .ok (.getstatic idx, 3)) : Snd M pc (oGetE (pc + 3)) := by
  intro d T Q hT L st K S cb nb h
  obtain ⟨hk, h⟩ := h
  intro p l e R s m args below meth c D AC ι0 K0 A mc ms H locs cells slots ι ls hX1 hX
  obtain ⟨g1, g2, g3, g4, g5, g6, g7, g8, g9, g10⟩ := id hX
  have e0 := g3 7 (Or.inl hk)
  have hk0 : (K0 7).1 = 90 := by rw [e0]; exact hk
  have hZ := (hX1.2.2.2.2.2.2.2.2.2.2.2.2.2.1.1 hk0).1
  rw [← (g2 7 (by rw [hk0]; decide)).2] at hZ
  have hkk := hT _ _ _ _ _ _ _ h p l e R s m args below meth c D AC ι0 K0 A mc ms H locs cells slots ι ls hX1 ⟨g1, g2, g3, g4, g5, g6, g7, g8, g9, okc (v := vR 7) (Or.inr (by rw [hk]; decide)) g10⟩
  rw [List.map_cons, conc_R, cR_n (by decide)] at hkk
  exact va_gets hX1.1 hX1.2.1 hZ g5 hX1.2.2.2.2.2.1 (hX1.2.2.2.2.1 _ hl) (fun _ q => q) hd hkk
/-- a list's row, or the shared empty one -/
def oAlenE (nx : Nat) : Op := fun T _ _ L st K S cb nb => popR st fun a st => (akd (K a).1 ∨ (a = 7 ∧ K 7 = (90, 0))) ∧ T nx L (vI (K a).2 :: st) K S cb nb
theorem s_alenE {M : Mth} {pc : Nat} (hd : decode M.2.1 pc = .ok (.arraylength, 1)) : Snd M pc (oAlenE (pc + 1)) := by
  intro d T Q hT L st K S cb nb h
  obtain ⟨a, r0, rfl, ha, h⟩ := popR_o h
  rcases ha with ha | ⟨rfl, hk⟩
  · exact s_alen hd d T Q hT L (vR a :: r0) K S cb nb ⟨ha, h⟩
  intro p l e R s m args below meth c D AC ι0 K0 A mc ms H locs cells slots ι ls hX1 hX
  obtain ⟨g1, g2, g3, g4, g5, g6, g7, g8, g9, g10⟩ := id hX
  have hk1 : (K 7).1 = 90 := by rw [hk]
  have e0 := g3 7 (Or.inl hk1)
  have hk0 : (K0 7).1 = 90 := by rw [e0]; exact hk1
  have hZ := (hX1.2.2.2.2.2.2.2.2.2.2.2.2.2.1.1 hk0).2.1
  rw [← (g2 7 (by rw [hk0]; decide)).2] at hZ
  obtain ⟨cell, q1, q2, q3, q4, q5, q6, q7⟩ := hZ.kept g5.2.1
  rw [hk] at h
  have hkk := hT _ _ _ _ _ _ _ h p l e R s m args below meth c D AC ι0 K0 A mc ms H locs cells slots ι ls hX1 ⟨g1, g2, g3, g4, g5, g6, g7, g8, g9, okc (v := vI 0) in32_0 (okt g10)⟩
  rw [List.map_cons, conc_R, cR_n (by decide)]
  exact W.alen (n := i32 0) hX1.1 hX1.2.1 q1 q2 (by rw [q5]; exact i32_0.symm) rfl rfl hd hkk
/-- a store of an object into a list's row: of a class that the tables let in -/
def listed (ck : Int) : Prop := ck = 2 ∨ ck = 4 ∨ ck = 5 ∨ ck = 8 ∨ ck = 10
def oAastO (nx : Nat) : Op := fun T _ _ L st K S cb nb => popR st fun z st => popI st fun i st => popR st fun a st => (K a).1 = 110 ∧ 0 ≤ i ∧ i < (K a).2 ∧ listed (K z).1 ∧ T nx L st K (up S a i z) cb nb
def oCopyL (nx : Nat) : Op := fun T _ _ L st K S cb nb => popI st fun n st => popI st fun dp st => popR st fun b st => popI st fun sp st => popR st fun a st => (K a).1 = 101 ∧ (K b).1 = 101 ∧ 0 ≤ sp ∧ 0 ≤ dp ∧ 0 ≤ n ∧ sp + n ≤ (K a).2 ∧ dp + n ≤ (K b).2 ∧ stW st ≤ 8 ∧ T nx L st K (cpS S a sp b dp n) cb nb
