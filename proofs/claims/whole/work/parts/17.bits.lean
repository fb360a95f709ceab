/-! BITS -/
theorem w32_i {z : Int} (h1 : -2147483648 ≤ z) (h2 : z < 2147483648) : w32 z = z := w32_id ⟨h1, h2⟩
theorem i32_nat (n : Nat) : i32 (n : Int) = nI n := Int32.ofInt_eq_ofNat
theorem sl_all : ∀ n, n < 32 → ((nI n &&& 31).toBitVec.smod 32).toNat = n := by decide +kernel
theorem su_all : ∀ n, n < 32 → (((nI n).toUInt32 &&& Int32.toUInt32 31).toBitVec % 32).toNat = n := by decide +kernel
theorem i32_1' : i32 1 = 1 := by decide +kernel
theorem tb_int (x : Int32) : (x.toBitVec.toNat : Int) = if x.toInt < 0 then x.toInt + 4294967296 else x.toInt := by
  have h : x.toInt = x.toBitVec.toInt := rfl
  rw [h, BitVec.toInt_eq_toNat_cond]
  have := x.toBitVec.isLt
  split <;> split <;> omega
theorem and1_v (x : Int32) : (x &&& 1).toInt = x.toInt % 2 := by
  rw [pk_and x (m := 1) 1 (by decide +kernel), nI_toInt (by omega)]
  have h := tb_int x
  have e : ((x.toBitVec.toNat % 2 ^ 1 : Nat) : Int) = (x.toBitVec.toNat : Int) % 2 := by push_cast; rfl
  rw [e, h]
  split <;> omega
theorem iand_1 (x : Int) : iand x 1 = w32 x % 2 := by
  unfold iand
  rw [i32_1', and1_v, i32_toInt]
theorem ishr_v {x s : Int} (hx : in32 x) (h0 : 0 ≤ s) (h1 : s < 32) : ishr x s = x / 2 ^ s.toNat := by
  unfold ishr
  have es : i32 s = nI s.toNat := by rw [← i32_nat]; congr 1; omega
  rw [pk_shr (i32 x) (i32 s &&& 31) s.toNat (by rw [es]; exact sl_all _ (by omega)), i32_ti hx, Int.shiftRight_eq_div_pow]
  push_cast
  rfl
theorem ishr_in {x s : Int} : in32 (ishr x s) := in32_of _
theorem b01_d {p : Prop} [Decidable p] : b01 (decide p) = if p then 1 else 0 := by
  unfold b01
  by_cases h : p <;> simp [h]
theorem b01_in (b : Bool) : b01 b = 0 ∨ b01 b = 1 := by cases b <;> simp [b01]
theorem mod2 (z : Int) : z % 2 = if z % 2 = 1 then 1 else 0 := by split <;> omega
theorem shr_bt {x s : Int} (hx : in32 x) (h0 : 0 ≤ s) (h1 : s < 32) : iand (ishr x s) 1 = b01 (bt x s) := by
  rw [iand_1, w32_id ishr_in, ishr_v hx h0 h1]
  unfold bt
  rw [b01_d]
  exact mod2 _
theorem ushr_bt {x s : Int} (hx : in32 x) (h0 : 0 ≤ s) (h1 : s < 32) : iand (iushr x s) 1 = b01 (bt x s) := by
  have es : i32 s = nI s.toNat := by rw [← i32_nat]; congr 1; omega
  have hu := pk_ushr (i32 x) (i32 s) s.toNat (by rw [es]; exact su_all _ (by omega))
  unfold iand
  rw [i32_1', and1_v]
  have e2 : i32 (iushr x s) = ((i32 x).toUInt32 >>> ((i32 s).toUInt32 &&& Int32.toUInt32 31)).toInt32 := i32_of _
  rw [e2]
  generalize ((i32 x).toUInt32 >>> ((i32 s).toUInt32 &&& Int32.toUInt32 31)).toInt32 = u at hu
  have h2 := tb_int u
  have h3 := tb_int (i32 x)
  rw [i32_ti hx] at h3
  have e4 : u.toInt % 2 = (u.toBitVec.toNat : Int) % 2 := by rw [h2]; split <;> omega
  rw [e4, hu]
  unfold bt
  rw [b01_d]
  have e5 : (((i32 x).toBitVec.toNat / 2 ^ s.toNat : Nat) : Int) = ((i32 x).toBitVec.toNat : Int) / 2 ^ s.toNat := by push_cast; rfl
  rw [e5, h3]
  split
  · have hp : (4294967296 : Int) = 2 ^ s.toNat * (2 * 2 ^ (31 - s.toNat)) := by
      have : s.toNat + (1 + (31 - s.toNat)) = 32 := by omega
      rw [← Int.pow_succ', ← Int.pow_add, show s.toNat + (31 - s.toNat + 1) = 32 by omega]
      rfl
    rw [hp, Int.add_mul_ediv_left _ _ (by have := Int.pow_pos (n := 2) (m := s.toNat) (by omega); omega), Int.add_mul_emod_self_left]
    exact mod2 _
  · exact mod2 _
theorem pow2_le {a b : Nat} (h : a ≤ b) : (2 : Int) ^ a ≤ 2 ^ b := by
  have := Nat.pow_le_pow_right (n := 2) (by omega) h
  exact_mod_cast this
theorem pow2_pos (a : Nat) : (0 : Int) < 2 ^ a := Int.pow_pos (by omega)
theorem ishl_1 {q : Int} (h0 : 0 ≤ q) (h1 : q ≤ 30) : ishl 1 q = 2 ^ q.toNat := by
  unfold ishl
  have es : i32 q = nI q.toNat := by rw [← i32_nat]; congr 1; omega
  have := pow2_le (a := q.toNat) (b := 30) (by omega)
  rw [i32_1', es, show (1 : Int32) = nI 1 from rfl, pk_shlN (n := 1) (nI q.toNat &&& 31) q.toNat (sl_all _ (by omega)) (by
    have : 2 ^ q.toNat ≤ 2 ^ 30 := Nat.pow_le_pow_right (by omega) (by omega)
    omega), nI_toInt (by
    have : 2 ^ q.toNat ≤ 2 ^ 30 := Nat.pow_le_pow_right (by omega) (by omega)
    omega)]
  push_cast
  omega
