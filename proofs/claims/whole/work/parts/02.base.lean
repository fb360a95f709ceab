/-! VALUES, LOCALS: a value is a whole number with its sort (int, long, reference: 0 is null, else the number of a cell of the picture); a place of the locals of which nothing is said holds vJ -/
abbrev V : Type := Int ⊕ (Int ⊕ (Int ⊕ Unit))
def vI (z : Int) : V := .inl z
def vL (z : Int) : V := .inr (.inl z)
def vR (z : Int) : V := .inr (.inr (.inl z))
def vJ : V := .inr (.inr (.inr ()))
abbrev KT : Type := Int → Int × Int
abbrev ST : Type := Int → Int → Int
abbrev Mth : Type := MethodName × ByteArray × Nat × Option FieldType
def i32 (z : Int) : Int32 := Int32.ofInt z
def i64 (z : Int) : Int64 := Int64.ofInt z
def in32 (z : Int) : Prop := -2147483648 ≤ z ∧ z < 2147483648
def in64 (z : Int) : Prop := -9223372036854775808 ≤ z ∧ z < 9223372036854775808
def w32 (z : Int) : Int := (z + 2147483648) % 4294967296 - 2147483648
def w64 (z : Int) : Int := (z + 9223372036854775808) % 18446744073709551616 - 9223372036854775808
theorem w32_in (z : Int) : in32 (w32 z) := by unfold w32 in32; omega
theorem w64_in (z : Int) : in64 (w64 z) := by unfold w64 in64; omega
theorem w32_id {z : Int} (h : in32 z) : w32 z = z := by unfold w32; unfold in32 at h; omega
theorem w64_id {z : Int} (h : in64 z) : w64 z = z := by unfold w64; unfold in64 at h; omega
theorem i32_toInt (z : Int) : (i32 z).toInt = w32 z := by
  unfold i32 w32
  rw [Int32.toInt_ofInt]
  simp only [Int32.size, Int.bmod]
  omega
theorem i64_toInt (z : Int) : (i64 z).toInt = w64 z := by
  unfold i64 w64
  rw [Int64.toInt_ofInt]
  simp only [Int64.size, Int.bmod]
  omega
theorem i32_w (z : Int) : i32 (w32 z) = i32 z := by
  apply Int32.toInt_inj.mp
  rw [i32_toInt, i32_toInt, w32_id (w32_in z)]
theorem i64_w (z : Int) : i64 (w64 z) = i64 z := by
  apply Int64.toInt_inj.mp
  rw [i64_toInt, i64_toInt, w64_id (w64_in z)]
theorem i32_of (x : Int32) : i32 x.toInt = x := Int32.ofInt_toInt x
theorem i64_of (x : Int64) : i64 x.toInt = x := Int64.ofInt_toInt x
theorem in32_of (x : Int32) : in32 x.toInt := ⟨x.le_toInt, x.toInt_lt⟩
theorem in64_of (x : Int64) : in64 x.toInt := ⟨x.le_toInt, x.toInt_lt⟩
theorem i32_ti {z : Int} (h : in32 z) : (i32 z).toInt = z := by rw [i32_toInt, w32_id h]
theorem i64_ti {z : Int} (h : in64 z) : (i64 z).toInt = z := by rw [i64_toInt, w64_id h]
theorem i32_lt {x y : Int} (hx : in32 x) (hy : in32 y) : i32 x < i32 y ↔ x < y := by rw [Int32.lt_iff_toInt_lt, i32_ti hx, i32_ti hy]
theorem i32_le {x y : Int} (hx : in32 x) (hy : in32 y) : i32 x ≤ i32 y ↔ x ≤ y := by rw [Int32.le_iff_toInt_le, i32_ti hx, i32_ti hy]
theorem i32_eq {x y : Int} (hx : in32 x) (hy : in32 y) : i32 x = i32 y ↔ x = y := by rw [← Int32.toInt_inj, i32_ti hx, i32_ti hy]
theorem i64_lt {x y : Int} (hx : in64 x) (hy : in64 y) : i64 x < i64 y ↔ x < y := by rw [Int64.lt_iff_toInt_lt, i64_ti hx, i64_ti hy]
theorem i64_eq {x y : Int} (hx : in64 x) (hy : in64 y) : i64 x = i64 y ↔ x = y := by rw [← Int64.toInt_inj, i64_ti hx, i64_ti hy]
theorem i32_0 : i32 0 = 0 := by decide +kernel
theorem in32_0 : in32 0 := by unfold in32; omega
def cR (ι : Int → Nat) (z : Int) : Value := if z = 0 then .null else .ref (ι z)
theorem cR_0 (ι : Int → Nat) : cR ι 0 = .null := if_pos rfl
theorem cR_n {ι : Int → Nat} {z : Int} (h : z ≠ 0) : cR ι z = .ref (ι z) := if_neg h
def conc (ι : Int → Nat) (v : V) : Value := match v with
  | .inl z => .int (i32 z)
  | .inr (.inl z) => .long (i64 z)
  | .inr (.inr (.inl z)) => cR ι z
  | .inr (.inr (.inr _)) => .null
theorem conc_I (ι : Int → Nat) (z : Int) : conc ι (vI z) = .int (i32 z) := rfl
theorem conc_L (ι : Int → Nat) (z : Int) : conc ι (vL z) = .long (i64 z) := rfl
theorem conc_R (ι : Int → Nat) (z : Int) : conc ι (vR z) = cR ι z := rfl
def okR (K : KT) (z : Int) : Prop := z = 0 ∨ (K z).1 ≠ 0
def okV (K : KT) (v : V) : Prop := match v with
  | .inl z => in32 z
  | .inr (.inl z) => in64 z
  | .inr (.inr (.inl z)) => okR K z
  | .inr (.inr (.inr _)) => True
/-- sorts of fields and elements: 0 int, 1 long, 2 reference, 3 boolean -/
def tc (t : FieldType) : Nat := match t with
  | .int => 0
  | .long => 1
  | .boolean => 3
  | _ => 2
def cvT (ι : Int → Nat) (t : Nat) (z : Int) : Value := match t with
  | 0 => .int (i32 z)
  | 1 => .long (i64 z)
  | 2 => cR ι z
  | _ => .int (i32 z)
def mkT (t : Nat) (z : Int) : V := match t with
  | 0 => vI z
  | 1 => vL z
  | 2 => vR z
  | _ => vI z
def okT (K : KT) (t : Nat) (z : Int) : Prop := match t with
  | 0 => in32 z
  | 1 => in64 z
  | 2 => okR K z
  | _ => z = 0 ∨ z = 1
theorem mkT_0 (z : Int) : mkT 0 z = vI z := rfl
theorem mkT_1 (z : Int) : mkT 1 z = vL z := rfl
theorem mkT_2 (z : Int) : mkT 2 z = vR z := rfl
theorem mkT_3 (z : Int) : mkT 3 z = vI z := rfl
theorem in32_01 {z : Int} (h : z = 0 ∨ z = 1) : in32 z := by unfold in32; omega
theorem conc_mkT (ι : Int → Nat) (t : Nat) (z : Int) : conc ι (mkT t z) = cvT ι t z := by
  match t with
  | 0 => rfl
  | 1 => rfl
  | 2 => rfl
  | _ + 3 => rfl
theorem okV_mkT {K : KT} {t : Nat} {z : Int} (h : okT K t z) : okV K (mkT t z) := by
  match t, h with
  | 0, h => exact h
  | 1, h => exact h
  | 2, h => exact h
  | _ + 3, h => exact in32_01 h
theorem okR_mono {K K' : KT} (hk : ∀ a, (K a).1 ≠ 0 → K' a = K a) {z : Int} (h : okR K z) : okR K' z := h.imp id (fun h => by rw [hk z h]; exact h)
theorem okV_mono {K K' : KT} (hk : ∀ a, (K a).1 ≠ 0 → K' a = K a) {v : V} (h : okV K v) : okV K' v := by
  match v, h with
  | .inl z, h => exact h
  | .inr (.inl z), h => exact h
  | .inr (.inr (.inl z)), h => exact okR_mono hk h
  | .inr (.inr (.inr _)), _ => trivial
theorem okT_mono {K K' : KT} (hk : ∀ a, (K a).1 ≠ 0 → K' a = K a) {t : Nat} {z : Int} (h : okT K t z) : okT K' t z := by
  match t, h with
  | 0, h => exact h
  | 1, h => exact h
  | 2, h => exact okR_mono hk h
  | _ + 3, h => exact h
theorem cR_agree {K : KT} {ι ι' : Int → Nat} (hi : ∀ a, (K a).1 ≠ 0 → ι' a = ι a) {z : Int} (h : okR K z) : cR ι' z = cR ι z := by
  by_cases hz : z = 0
  · rw [hz, cR_0, cR_0]
  · rw [cR_n hz, cR_n hz, hi z (h.resolve_left hz)]
theorem conc_agree {K : KT} {ι ι' : Int → Nat} (hi : ∀ a, (K a).1 ≠ 0 → ι' a = ι a) {v : V} (h : okV K v) : conc ι' v = conc ι v := by
  match v, h with
  | .inl z, _ => rfl
  | .inr (.inl z), _ => rfl
  | .inr (.inr (.inl z)), h => exact cR_agree hi h
  | .inr (.inr (.inr _)), _ => rfl
theorem cvT_agree {K : KT} {ι ι' : Int → Nat} (hi : ∀ a, (K a).1 ≠ 0 → ι' a = ι a) {t : Nat} {z : Int} (h : okT K t z) : cvT ι' t z = cvT ι t z := by
  rw [← conc_mkT, ← conc_mkT]
  exact conc_agree hi (okV_mkT h)
/-- the locals, as a list of values -/
def LR (ι : Int → Nat) (n : Nat) (L : List V) (ls : Array Slot) : Prop := L.length = n ∧ ls.size = n ∧ lv_wf ls ∧ ∀ (j : Nat) (v : V), L[j]? = some v → v ≠ vJ → ls[j]? = some (.val (conc ι v))
def lvl (ι : Int → Nat) : Nat → List V → List (Nat × Value)
  | _, [] => []
  | k, v :: L => match v with
    | .inr (.inr (.inr _)) => lvl ι (k + 1) L
    | _ => (k, conc ι v) :: lvl ι (k + 1) L
theorem vJ_iff (v : V) : v = vJ ∨ (v ≠ vJ ∧ ∀ (ι : Int → Nat) (k : Nat) (L : List V), lvl ι k (v :: L) = (k, conc ι v) :: lvl ι (k + 1) L) := by
  match v with
  | .inl z => exact Or.inr ⟨(fun h => by cases h), fun _ _ _ => rfl⟩
  | .inr (.inl z) => exact Or.inr ⟨(fun h => by cases h), fun _ _ _ => rfl⟩
  | .inr (.inr (.inl z)) => exact Or.inr ⟨(fun h => by cases h), fun _ _ _ => rfl⟩
  | .inr (.inr (.inr ())) => exact Or.inl rfl
theorem mem_lvl (ι : Int → Nat) : ∀ (L : List V) (k : Nat) (q : Nat × Value), q ∈ lvl ι k L → ∃ (j : Nat) (v : V), L[j]? = some v ∧ v ≠ vJ ∧ q = (k + j, conc ι v)
  | [], _, _, h => by cases h
  | v :: L, k, q, h => by
    rcases vJ_iff v with e | ⟨hv, e⟩
    · subst e
      obtain ⟨j, w, h1, h2, h3⟩ := mem_lvl ι L (k + 1) q h
      exact ⟨j + 1, w, by simpa using h1, h2, by rw [h3, Nat.add_assoc, Nat.add_comm 1 j]⟩
    · rw [e] at h
      rcases List.mem_cons.mp h with h | h
      · exact ⟨0, v, rfl, hv, h⟩
      · obtain ⟨j, w, h1, h2, h3⟩ := mem_lvl ι L (k + 1) q h
        exact ⟨j + 1, w, by simpa using h1, h2, by rw [h3, Nat.add_assoc, Nat.add_comm 1 j]⟩
theorem lvl_mem (ι : Int → Nat) : ∀ (L : List V) (k j : Nat) (v : V), L[j]? = some v → v ≠ vJ → (k + j, conc ι v) ∈ lvl ι k L
  | [], _, _, _, h, _ => by simp at h
  | v :: L, k, 0, w, h, hw => by
    have e : v = w := by simpa using h
    subst e
    rcases vJ_iff v with e | ⟨_, e⟩
    · exact absurd e hw
    · rw [e]; exact List.mem_cons_self
  | v :: L, k, j + 1, w, h, hw => by
    have h1 := lvl_mem ι L (k + 1) j w (by simpa using h) hw
    rw [Nat.add_assoc, Nat.add_comm 1 j] at h1
    rcases vJ_iff v with e | ⟨_, e⟩
    · subst e; exact h1
    · rw [e]; exact List.mem_cons_of_mem _ h1
theorem LR.has {ι : Int → Nat} {n : Nat} {L : List V} {ls : Array Slot} (h : LR ι n L ls) : lv_has ls n (lvl ι 0 L) := by
  refine ⟨h.2.1, h.2.2.1, fun q hq => ?_⟩
  obtain ⟨j, v, h1, h2, h3⟩ := mem_lvl ι L 0 q hq
  subst h3
  rw [Nat.zero_add]
  exact h.2.2.2 j v h1 h2
theorem LR.agree {K : KT} {ι ι' : Int → Nat} {n : Nat} {L : List V} {ls : Array Slot} (h : LR ι n L ls) (hi : ∀ a, (K a).1 ≠ 0 → ι' a = ι a) (hL : ∀ v ∈ L, okV K v) : LR ι' n L ls :=
  ⟨h.1, h.2.1, h.2.2.1, fun j v h1 h2 => by rw [conc_agree hi (hL v (List.mem_of_getElem? h1))]; exact h.2.2.2 j v h1 h2⟩
def isLong (v : V) : Bool := match v with
  | .inr (.inl _) => true
  | _ => false
def jk (v : V) : V := match v with
  | .inr (.inl _) => vJ
  | _ => v
theorem jk_I (z : Int) : jk (vI z) = vI z := rfl
theorem jk_R (z : Int) : jk (vR z) = vR z := rfl
theorem jk_L (z : Int) : jk (vL z) = vJ := rfl
theorem jk_J : jk vJ = vJ := rfl
def st1 : List V → Nat → V → List V
  | [], _, _ => []
  | _ :: L, 0, v => v :: L
  | v0 :: L, 1, v => jk v0 :: st1 L 0 v
  | v0 :: L, j + 2, v => v0 :: st1 L (j + 1) v
def st2 : List V → Nat → V → List V
  | [], _, _ => []
  | _ :: L, 0, v => v :: (match L with | [] => [] | _ :: L' => vJ :: L')
  | v0 :: L, 1, v => jk v0 :: st2 L 0 v
  | v0 :: L, j + 2, v => v0 :: st2 L (j + 1) v
theorem st1_0 (v0 : V) (L : List V) (v : V) : st1 (v0 :: L) 0 v = v :: L := rfl
theorem st1_1 (v0 : V) (L : List V) (v : V) : st1 (v0 :: L) 1 v = jk v0 :: st1 L 0 v := rfl
theorem st1_s (v0 : V) (L : List V) (j : Nat) (v : V) : st1 (v0 :: L) (j + 2) v = v0 :: st1 L (j + 1) v := rfl
theorem st2_0 (v0 v1 : V) (L : List V) (v : V) : st2 (v0 :: v1 :: L) 0 v = v :: vJ :: L := rfl
theorem st2_1 (v0 : V) (L : List V) (v : V) : st2 (v0 :: L) 1 v = jk v0 :: st2 L 0 v := rfl
theorem st2_s (v0 : V) (L : List V) (j : Nat) (v : V) : st2 (v0 :: L) (j + 2) v = v0 :: st2 L (j + 1) v := rfl
theorem st1_len : ∀ (L : List V) (j : Nat) (v : V), (st1 L j v).length = L.length
  | [], _, _ => rfl
  | _ :: L, 0, v => rfl
  | v0 :: L, 1, v => by rw [st1_1, List.length_cons, List.length_cons, st1_len L 0 v]
  | v0 :: L, j + 2, v => by rw [st1_s, List.length_cons, List.length_cons, st1_len L (j + 1) v]
theorem st2_len : ∀ (L : List V) (j : Nat) (v : V), (st2 L j v).length = L.length
  | [], _, _ => rfl
  | [_], 0, v => rfl
  | _ :: _ :: L, 0, v => rfl
  | v0 :: L, 1, v => by rw [st2_1, List.length_cons, List.length_cons, st2_len L 0 v]
  | v0 :: L, j + 2, v => by rw [st2_s, List.length_cons, List.length_cons, st2_len L (j + 1) v]
/-- what stands in a store's locals: the value, or what stood there before (no long whose second half is hit) -/
theorem st1_at : ∀ (L : List V) (j : Nat) (v : V) (i : Nat) (w : V), (st1 L j v)[i]? = some w → w ≠ vJ → (i = j ∧ w = v) ∨ (i ≠ j ∧ L[i]? = some w ∧ (i + 1 = j → isLong w = false))
  | [], _, _, i, w, h, _ => by simp [st1] at h
  | v0 :: L, 0, v, 0, w, h, _ => Or.inl ⟨rfl, by rw [st1_0] at h; simpa using h.symm⟩
  | v0 :: L, 0, v, i + 1, w, h, _ => Or.inr ⟨by omega, by rw [st1_0] at h; simpa using h, by omega⟩
  | v0 :: L, 1, v, 0, w, h, hw => by
    rw [st1_1] at h
    have e : jk v0 = w := by simpa using h
    subst e
    match v0 with
    | .inl z => exact Or.inr ⟨by omega, rfl, fun _ => rfl⟩
    | .inr (.inl z) => exact absurd rfl hw
    | .inr (.inr (.inl z)) => exact Or.inr ⟨by omega, rfl, fun _ => rfl⟩
    | .inr (.inr (.inr ())) => exact absurd rfl hw
  | v0 :: L, 1, v, i + 1, w, h, hw => by
    rw [st1_1] at h
    rcases st1_at L 0 v i w (by simpa using h) hw with ⟨h1, h2⟩ | ⟨h1, h2, h3⟩
    · exact Or.inl ⟨by omega, h2⟩
    · exact Or.inr ⟨by omega, by simpa using h2, by omega⟩
  | v0 :: L, j + 2, v, 0, w, h, hw => by
    rw [st1_s] at h
    exact Or.inr ⟨by omega, by simpa using h, by omega⟩
  | v0 :: L, j + 2, v, i + 1, w, h, hw => by
    rw [st1_s] at h
    rcases st1_at L (j + 1) v i w (by simpa using h) hw with ⟨h1, h2⟩ | ⟨h1, h2, h3⟩
    · exact Or.inl ⟨by omega, h2⟩
    · exact Or.inr ⟨by omega, by simpa using h2, fun e => h3 (by omega)⟩
theorem st2_at : ∀ (L : List V) (j : Nat) (v : V) (i : Nat) (w : V), (st2 L j v)[i]? = some w → w ≠ vJ → (i = j ∧ w = v) ∨ (i ≠ j ∧ i ≠ j + 1 ∧ L[i]? = some w ∧ (i + 1 = j → isLong w = false))
  | [], _, _, i, w, h, _ => by simp [st2] at h
  | v0 :: L, 0, v, 0, w, h, _ => Or.inl ⟨rfl, by unfold st2 at h; simpa using h.symm⟩
  | [v0], 0, v, i + 1, w, h, _ => by simp [st2] at h
  | v0 :: v1 :: L, 0, v, 1, w, h, hw => by
    rw [st2_0] at h
    exact absurd (by simpa using h.symm) hw
  | v0 :: v1 :: L, 0, v, i + 2, w, h, hw => by
    rw [st2_0] at h
    exact Or.inr ⟨by omega, by omega, by simpa using h, by omega⟩
  | v0 :: L, 1, v, 0, w, h, hw => by
    rw [st2_1] at h
    have e : jk v0 = w := by simpa using h
    subst e
    match v0 with
    | .inl z => exact Or.inr ⟨by omega, by omega, rfl, fun _ => rfl⟩
    | .inr (.inl z) => exact absurd rfl hw
    | .inr (.inr (.inl z)) => exact Or.inr ⟨by omega, by omega, rfl, fun _ => rfl⟩
    | .inr (.inr (.inr ())) => exact absurd rfl hw
  | v0 :: L, 1, v, i + 1, w, h, hw => by
    rw [st2_1] at h
    rcases st2_at L 0 v i w (by simpa using h) hw with ⟨h1, h2⟩ | ⟨h1, h2, h3, h4⟩
    · exact Or.inl ⟨by omega, h2⟩
    · exact Or.inr ⟨by omega, by omega, by simpa using h3, by omega⟩
  | v0 :: L, j + 2, v, 0, w, h, hw => by
    rw [st2_s] at h
    exact Or.inr ⟨by omega, by omega, by simpa using h, by omega⟩
  | v0 :: L, j + 2, v, i + 1, w, h, hw => by
    rw [st2_s] at h
    rcases st2_at L (j + 1) v i w (by simpa using h) hw with ⟨h1, h2⟩ | ⟨h1, h2, h3, h4⟩
    · exact Or.inl ⟨by omega, h2⟩
    · exact Or.inr ⟨by omega, by omega, by simpa using h3, fun e => h4 (by omega)⟩
theorem conc_cat {ι : Int → Nat} {v : V} (h : v ≠ vJ) : (conc ι v).category = 2 ↔ isLong v = true := by
  match v, h with
  | .inl z, _ => simp [conc, isLong, Value.category]
  | .inr (.inl z), _ => simp [conc, isLong, Value.category]
  | .inr (.inr (.inl z)), _ =>
    by_cases hz : z = 0
    · simp [conc, isLong, cR, hz, Value.category]
    · simp [conc, isLong, cR, hz, Value.category]
  | .inr (.inr (.inr ())), h => exact absurd rfl h
/-- behind a store of a value of one slot: the kit's list, and the picture's -/
theorem LR.st1 {ι : Int → Nat} {n : Nat} {L : List V} {ls ls' : Array Slot} {i : Nat} {v : V} (h : LR ι n L ls) (h' : lv_has ls' n ((i, conc ι v) :: (lvl ι 0 L).filter (fun q => !(q.1 == i) && !(q.1 + 1 == i && q.2.category == 2)))) : LR ι n (st1 L i v) ls' := by
  refine ⟨by rw [st1_len]; exact h.1, h'.1, h'.2.1, fun j w hj hw => ?_⟩
  rcases st1_at L i v j w hj hw with ⟨rfl, rfl⟩ | ⟨h1, h2, h3⟩
  · exact h'.2.2 _ List.mem_cons_self
  · have hm := lvl_mem ι L 0 j w h2 hw
    rw [Nat.zero_add] at hm
    refine h'.2.2 (j, conc ι w) (List.mem_cons_of_mem _ (List.mem_filter.mpr ⟨hm, ?_⟩))
    have hc := conc_cat (ι := ι) hw
    by_cases e : j + 1 = i
    · have hn : ¬ (conc ι w).category = 2 := fun q => by have := hc.mp q; rw [h3 e] at this; cases this
      simp [h1, hn]
    · simp [h1, e]
theorem LR.st2 {ι : Int → Nat} {n : Nat} {L : List V} {ls ls' : Array Slot} {i : Nat} {v : V} (h : LR ι n L ls) (h' : lv_has ls' n ((i, conc ι v) :: (lvl ι 0 L).filter (fun q => !(q.1 == i) && (!(q.1 == i + 1) && !(q.1 + 1 == i && q.2.category == 2))))) : LR ι n (st2 L i v) ls' := by
  refine ⟨by rw [st2_len]; exact h.1, h'.1, h'.2.1, fun j w hj hw => ?_⟩
  rcases st2_at L i v j w hj hw with ⟨rfl, rfl⟩ | ⟨h1, h1', h2, h3⟩
  · exact h'.2.2 _ List.mem_cons_self
  · have hm := lvl_mem ι L 0 j w h2 hw
    rw [Nat.zero_add] at hm
    refine h'.2.2 (j, conc ι w) (List.mem_cons_of_mem _ (List.mem_filter.mpr ⟨hm, ?_⟩))
    have hc := conc_cat (ι := ι) hw
    by_cases e : j + 1 = i
    · have hn : ¬ (conc ι w).category = 2 := fun q => by have := hc.mp q; rw [h3 e] at this; cases this
      simp [h1, h1', hn]
    · simp [h1, h1', e]
theorem ok_st1 {K : KT} : ∀ {L : List V} {j : Nat} {v : V}, (∀ w ∈ L, okV K w) → okV K v → ∀ w ∈ st1 L j v, okV K w
  | L, j, v, hL, hv, w, hw => by
    by_cases hJ : w = vJ
    · subst hJ; trivial
    · obtain ⟨i, hi⟩ := List.getElem?_of_mem hw
      rcases st1_at L j v i w hi hJ with ⟨_, rfl⟩ | ⟨_, h2, _⟩
      · exact hv
      · exact hL w (List.mem_of_getElem? h2)
theorem ok_st2 {K : KT} : ∀ {L : List V} {j : Nat} {v : V}, (∀ w ∈ L, okV K w) → okV K v → ∀ w ∈ st2 L j v, okV K w
  | L, j, v, hL, hv, w, hw => by
    by_cases hJ : w = vJ
    · subst hJ; trivial
    · obtain ⟨i, hi⟩ := List.getElem?_of_mem hw
      rcases st2_at L j v i w hi hJ with ⟨_, rfl⟩ | ⟨_, _, h2, _⟩
      · exact hv
      · exact hL w (List.mem_of_getElem? h2)
/-- less is known of the locals -/
def Lle : List V → List V → Prop
  | [], [] => True
  | v :: L, w :: M => (v = vJ ∨ v = w) ∧ Lle L M
  | _, _ => False
theorem Lle_nil : Lle [] [] := trivial
theorem Lle_J {w : V} {L M : List V} (h : Lle L M) : Lle (vJ :: L) (w :: M) := ⟨Or.inl rfl, h⟩
theorem Lle_c {w : V} {L M : List V} (h : Lle L M) : Lle (w :: L) (w :: M) := ⟨Or.inr rfl, h⟩
theorem Lle.len : ∀ {L M : List V}, Lle L M → L.length = M.length
  | [], [], _ => rfl
  | _ :: L, _ :: M, h => by rw [List.length_cons, List.length_cons, h.2.len]
  | [], _ :: _, h => h.elim
  | _ :: _, [], h => h.elim
theorem Lle.at : ∀ {L M : List V}, Lle L M → ∀ (j : Nat) (v : V), L[j]? = some v → v ≠ vJ → M[j]? = some v
  | [], [], _, _, _, h, _ => by simp at h
  | v :: L, w :: M, h, 0, u, hu, hJ => by
    have e : v = u := by simpa using hu
    subst e
    rcases h.1 with e | e
    · exact absurd e hJ
    · simp [e]
  | v :: L, w :: M, h, j + 1, u, hu, hJ => by
    have := h.2.at j u (by simpa using hu) hJ
    simpa using this
  | [], _ :: _, h, _, _, _, _ => h.elim
  | _ :: _, [], h, _, _, _, _ => h.elim
theorem Lle.LR {ι : Int → Nat} {n : Nat} {L M : List V} {ls : Array Slot} (h : Lle L M) (hM : LR ι n M ls) : LR ι n L ls :=
  ⟨by rw [h.len]; exact hM.1, hM.2.1, hM.2.2.1, fun j v h1 h2 => hM.2.2.2 j v (h.at j v h1 h2) h2⟩
theorem Lle.ok {K : KT} {L M : List V} (h : Lle L M) (hM : ∀ v ∈ M, okV K v) : ∀ v ∈ L, okV K v := by
  intro v hv
  by_cases hJ : v = vJ
  · subst hJ; trivial
  · obtain ⟨i, hi⟩ := List.getElem?_of_mem hv
    exact hM v (List.mem_of_getElem? (h.at i v hi hJ))
/-- the locals at a method's entry -/
def expV : List V → List V
  | [] => []
  | v :: r => if isLong v then v :: vJ :: expV r else v :: expV r
def entL (n : Nat) (as : List V) : List V := expV as ++ List.replicate (n - (expV as).length) vJ
theorem expV_at (ι : Int → Nat) : ∀ (as : List V) (k j : Nat) (v : V), (∀ w ∈ as, w ≠ vJ) → (expV as)[j]? = some v → v ≠ vJ → (k + j, conc ι v) ∈ lv_args k (as.map (conc ι))
  | [], _, _, _, _, h, _ => by simp [expV] at h
  | w :: r, k, j, v, hr, h, hv => by
    have hw : w ≠ vJ := hr w List.mem_cons_self
    have hr' : ∀ u ∈ r, u ≠ vJ := fun u hu => hr u (List.mem_cons_of_mem _ hu)
    have hc := conc_cat (ι := ι) hw
    unfold expV at h
    show (k + j, conc ι v) ∈ (k, conc ι w) :: lv_args (if (conc ι w).category = 2 then k + 2 else k + 1) (r.map (conc ι))
    by_cases hl : isLong w = true
    · rw [if_pos hl] at h
      rw [if_pos (hc.mpr hl)]
      match j, h with
      | 0, h =>
        have e : w = v := by simpa using h
        subst e; exact List.mem_cons_self
      | 1, h => exact absurd (by simpa using h.symm) hv
      | j + 2, h =>
        have := expV_at ι r (k + 2) j v hr' (by simpa using h) hv
        rw [show k + 2 + j = k + (j + 2) by omega] at this
        exact List.mem_cons_of_mem _ this
    · rw [if_neg hl] at h
      rw [if_neg (fun q => hl (hc.mp q))]
      match j, h with
      | 0, h =>
        have e : w = v := by simpa using h
        subst e; exact List.mem_cons_self
      | j + 1, h =>
        have := expV_at ι r (k + 1) j v hr' (by simpa using h) hv
        rw [show k + 1 + j = k + (j + 1) by omega] at this
        exact List.mem_cons_of_mem _ this
theorem expV_len (ι : Int → Nat) : ∀ (as : List V), (∀ w ∈ as, w ≠ vJ) → (lg_sl (as.map (conc ι))).length = (expV as).length
  | [], _ => rfl
  | w :: r, hr => by
    have hw : w ≠ vJ := hr w List.mem_cons_self
    have ih := expV_len ι r (fun u hu => hr u (List.mem_cons_of_mem _ hu))
    have hc := conc_cat (ι := ι) hw
    unfold expV
    unfold lg_sl at ih ⊢
    rw [List.map_cons, List.flatMap_cons, List.length_append, ih]
    by_cases hl : isLong w = true
    · rw [if_pos hl, if_pos (hc.mpr hl)]
      simp only [List.length_cons, List.length_nil]
      omega
    · rw [if_neg hl, if_neg (fun q => hl (hc.mp q))]
      simp only [List.length_cons, List.length_nil]
      omega
theorem ok_expV {K : KT} : ∀ {as : List V}, (∀ w ∈ as, okV K w) → ∀ w ∈ expV as, okV K w
  | [], _, w, h => by simp [expV] at h
  | v :: r, hr, w, h => by
    have ih := ok_expV (as := r) (fun u hu => hr u (List.mem_cons_of_mem _ hu))
    unfold expV at h
    by_cases hl : isLong v = true
    · rw [if_pos hl] at h
      rcases List.mem_cons.mp h with h | h
      · subst h; exact hr w List.mem_cons_self
      · rcases List.mem_cons.mp h with h | h
        · subst h; trivial
        · exact ih w h
    · rw [if_neg hl] at h
      rcases List.mem_cons.mp h with h | h
      · subst h; exact hr w List.mem_cons_self
      · exact ih w h
theorem ok_entL {K : KT} {n : Nat} {as : List V} (h : ∀ w ∈ as, okV K w) : ∀ w ∈ entL n as, okV K w := by
  intro w hw
  rcases List.mem_append.mp hw with h1 | h1
  · exact ok_expV h w h1
  · rw [List.eq_of_mem_replicate h1]; trivial
theorem LR_entry (ι : Int → Nat) {n : Nat} {as : List V} (ha : ∀ w ∈ as, w ≠ vJ) (hn : (expV as).length ≤ n) : LR ι n (entL n as) ((lg_sl (as.map (conc ι)) ++ List.replicate (n - (lg_sl (as.map (conc ι))).length) Slot.unset).toArray) := by
  have he := expV_len ι as ha
  have h := lv_entry (as.map (conc ι)) (n := n) (by rw [he]; exact hn)
  refine ⟨?_, h.1, h.2.1, fun j v hj hv => ?_⟩
  · unfold entL
    rw [List.length_append, List.length_replicate]
    omega
  · have hj' : (expV as)[j]? = some v := by
      unfold entL at hj
      by_cases hl : j < (expV as).length
      · rwa [List.getElem?_append_left hl] at hj
      · rw [List.getElem?_append_right (by omega)] at hj
        exact absurd (List.eq_of_mem_replicate (List.mem_of_getElem? hj)) hv
    have := expV_at ι as 0 j v ha hj' hv
    rw [Nat.zero_add] at this
    exact h.2.2 (j, conc ι v) this
