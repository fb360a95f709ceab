/-! Math.max, min, abs: instructions of their own -/
def oMmax (nx : Nat) : Op := fun T _ _ L st K S cb nb => popI st fun y st => popI st fun x st => stW st ≤ 8 ∧ T nx L (vI (if x < y then y else x) :: st) K S cb nb
def oMmin (nx : Nat) : Op := fun T _ _ L st K S cb nb => popI st fun y st => popI st fun x st => stW st ≤ 8 ∧ T nx L (vI (if y < x then y else x) :: st) K S cb nb
def oMabs (nx : Nat) : Op := fun T _ _ L st K S cb nb => popI st fun x st => stW st ≤ 8 ∧ T nx L (vI (w32 (if 0 ≤ x then x else -x)) :: st) K S cb nb
theorem s_mmax {M : Mth} {pc idx : Nat} (hl : Cond.methodLink M.1.cls idx Lib.Math.max.name ∈ lwG) (hs : Cond.static Lib.Math.max.name ∈ lwG) (hi : Cond.initialized "java/lang/Math" ∈ lwG) (hc : Cond.code Lib.Math.max.name Lib.Math.max.code 2 (some .int) ∈ lwG) (hd : decode M.2.1 pc = .ok (.invokestatic idx, 3)) : Snd M pc (oMmax (pc + 3)) := by
  intro d T Q hT L st K S cb nb h
  obtain ⟨y, r0, rfl, h1⟩ := popI_o h
  obtain ⟨x, r1, rfl, hw, h2⟩ := popI_o h1
  intro p l e R s m args below meth c D AC ι0 K0 A mc ms H locs cells slots ι ls hX1 hX
  obtain ⟨g1, g2, g3, g4, g5, g6, g7, g8, g9, g10⟩ := id hX
  have hts := hX1.2.2.2.2.1
  have hf := hX1.2.2.2.2.2.2.2.2.1
  have hlo := hX1.2.2.2.2.2.2.2.2.2.1
  have hRc := hX1.2.2.2.2.2.2.2.2.2.2.1
  have hRs := hX1.2.2.2.2.2.2.2.2.2.2.2.1
  have hW := stW_o ι r1
  have hx : in32 x := okh (okt g10)
  have hy : in32 y := okh g10
  have hkk := hT _ _ _ _ _ _ _ h2 p l e R s m args below meth c D AC ι0 K0 A mc ms H locs cells slots ι ls hX1 ⟨g1, g2, g3, g4, g5, g6, g7, g8, g9, okc (v := vI _) (by show in32 _; split <;> assumption) (okt (okt g10))⟩
  rw [List.map_cons, List.map_cons, conc_I, conc_I]
  refine va_mmax hX1.1 hX1.2.1 (hX1.2.2.2.1.trans g8.2.1.symm) hX1.2.2.2.2.2.1 (hts _ hl) (hts _ hs) (hts _ hi) (hts _ hc) (by omega) (by omega) (by omega) (by omega) hd ?_
  have e : (if i32 x < i32 y then i32 y else i32 x) = i32 (if x < y then y else x) := by
    by_cases q : x < y
    · rw [if_pos q, if_pos ((i32_lt hx hy).mpr q)]
    · rw [if_neg q, if_neg (fun z => q ((i32_lt hx hy).mp z))]
  rw [e]
  exact hkk
theorem s_mmin {M : Mth} {pc idx : Nat} (hl : Cond.methodLink M.1.cls idx Lib.Math.min.name ∈ lwG) (hs : Cond.static Lib.Math.min.name ∈ lwG) (hi : Cond.initialized "java/lang/Math" ∈ lwG) (hc : Cond.code Lib.Math.min.name Lib.Math.min.code 2 (some .int) ∈ lwG) (hd : decode M.2.1 pc = .ok (.invokestatic idx, 3)) : Snd M pc (oMmin (pc + 3)) := by
  intro d T Q hT L st K S cb nb h
  obtain ⟨y, r0, rfl, h1⟩ := popI_o h
  obtain ⟨x, r1, rfl, hw, h2⟩ := popI_o h1
  intro p l e R s m args below meth c D AC ι0 K0 A mc ms H locs cells slots ι ls hX1 hX
  obtain ⟨g1, g2, g3, g4, g5, g6, g7, g8, g9, g10⟩ := id hX
  have hts := hX1.2.2.2.2.1
  have hf := hX1.2.2.2.2.2.2.2.2.1
  have hlo := hX1.2.2.2.2.2.2.2.2.2.1
  have hRc := hX1.2.2.2.2.2.2.2.2.2.2.1
  have hRs := hX1.2.2.2.2.2.2.2.2.2.2.2.1
  have hW := stW_o ι r1
  have hx : in32 x := okh (okt g10)
  have hy : in32 y := okh g10
  have hkk := hT _ _ _ _ _ _ _ h2 p l e R s m args below meth c D AC ι0 K0 A mc ms H locs cells slots ι ls hX1 ⟨g1, g2, g3, g4, g5, g6, g7, g8, g9, okc (v := vI _) (by show in32 _; split <;> assumption) (okt (okt g10))⟩
  rw [List.map_cons, List.map_cons, conc_I, conc_I]
  refine va_mmin hX1.1 hX1.2.1 (hX1.2.2.2.1.trans g8.2.1.symm) hX1.2.2.2.2.2.1 (hts _ hl) (hts _ hs) (hts _ hi) (hts _ hc) (by omega) (by omega) (by omega) (by omega) hd ?_
  have e : (if i32 y < i32 x then i32 y else i32 x) = i32 (if y < x then y else x) := by
    by_cases q : y < x
    · rw [if_pos q, if_pos ((i32_lt hy hx).mpr q)]
    · rw [if_neg q, if_neg (fun z => q ((i32_lt hy hx).mp z))]
  rw [e]
  exact hkk
theorem s_mabs {M : Mth} {pc idx : Nat} (hl : Cond.methodLink M.1.cls idx Lib.Math.abs.name ∈ lwG) (hs : Cond.static Lib.Math.abs.name ∈ lwG) (hi : Cond.initialized "java/lang/Math" ∈ lwG) (hc : Cond.code Lib.Math.abs.name Lib.Math.abs.code 1 (some .int) ∈ lwG) (hd : decode M.2.1 pc = .ok (.invokestatic idx, 3)) : Snd M pc (oMabs (pc + 3)) := by
  intro d T Q hT L st K S cb nb h
  obtain ⟨x, r1, rfl, hw, h2⟩ := popI_o h
  intro p l e R s m args below meth c D AC ι0 K0 A mc ms H locs cells slots ι ls hX1 hX
  obtain ⟨g1, g2, g3, g4, g5, g6, g7, g8, g9, g10⟩ := id hX
  have hts := hX1.2.2.2.2.1
  have hf := hX1.2.2.2.2.2.2.2.2.1
  have hlo := hX1.2.2.2.2.2.2.2.2.2.1
  have hRc := hX1.2.2.2.2.2.2.2.2.2.2.1
  have hRs := hX1.2.2.2.2.2.2.2.2.2.2.2.1
  have hW := stW_o ι r1
  have hx : in32 x := okh g10
  have hkk := hT _ _ _ _ _ _ _ h2 p l e R s m args below meth c D AC ι0 K0 A mc ms H locs cells slots ι ls hX1 ⟨g1, g2, g3, g4, g5, g6, g7, g8, g9, okc (v := vI _) (w32_in _) (okt g10)⟩
  rw [List.map_cons, conc_I]
  refine va_mabs hX1.1 hX1.2.1 (hX1.2.2.2.1.trans g8.2.1.symm) hX1.2.2.2.2.2.1 (hts _ hl) (hts _ hs) (hts _ hi) (hts _ hc) (by omega) (by omega) (by omega) (by omega) hd ?_
  have e : (if 0 ≤ i32 x then i32 x else 0 - i32 x) = i32 (w32 (if 0 ≤ x then x else -x)) := by
    rw [i32_w]
    have h0 : (0 : Int32) ≤ i32 x ↔ 0 ≤ x := by
      have := i32_le in32_0 hx
      rwa [i32_0] at this
    by_cases q : 0 ≤ x
    · rw [if_pos q, if_pos (h0.mpr q)]
    · rw [if_neg q, if_neg (fun z => q (h0.mp z))]
      unfold i32
      rw [Int32.ofInt_neg]
      exact Int32.zero_sub _
  rw [e]
  exact hkk
theorem pn_Integer : plainName "java/lang/Integer" = true := by decide +kernel
