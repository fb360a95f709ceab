/-! LONGS: shifts and single bits -/
theorem l_sm : ∀ n, n < 64 → (((nI n).toInt64 &&& 63).toBitVec.smod 64).toNat = n := by decide +kernel
theorem l_su : ∀ n, n < 64 → (((nI n).toInt64.toUInt64 &&& Int64.toUInt64 63).toBitVec % 64).toNat = n := by decide +kernel
theorem w64_b (z : Int) : w64 z = Int.bmod z 18446744073709551616 := by
  unfold w64
  show _ = if z % 18446744073709551616 < (18446744073709551616 + 1) / 2 then z % 18446744073709551616 else z % 18446744073709551616 - 18446744073709551616
  split <;> omega
theorem i64_tb (x : Int) : (i64 x).toBitVec.toInt = w64 x := i64_toInt x
theorem lshl_v {x s : Int} (h0 : 0 ≤ s) (h1 : s < 64) : lshl x s = w64 (x * 2 ^ s.toNat) := by
  unfold lshl
  have es : i32 s = nI s.toNat := by rw [← i32_nat]; congr 1; omega
  have e1 := l_sm s.toNat (by omega)
  rw [← es] at e1
  show ((i64 x).toBitVec <<< (((i32 s).toInt64 &&& 63).toBitVec.smod 64)).toInt = _
  rw [BitVec.shiftLeft_eq', e1, BitVec.toInt_shiftLeft, Nat.shiftLeft_eq]
  have h2 := i64_tb x
  rw [BitVec.toInt_eq_toNat_bmod] at h2
  have e3 : (((i64 x).toBitVec.toNat * 2 ^ s.toNat : Nat) : Int) = ((i64 x).toBitVec.toNat : Int) * 2 ^ s.toNat := by push_cast; rfl
  rw [e3]
  show Int.bmod _ 18446744073709551616 = _
  rw [← Int.bmod_mul_bmod]
  have h2' : Int.bmod ((i64 x).toBitVec.toNat : Int) 18446744073709551616 = w64 x := h2
  rw [h2', w64_b x, Int.bmod_mul_bmod, ← w64_b]
theorem lshr_v {x s : Int} (hx : in64 x) (h0 : 0 ≤ s) (h1 : s < 64) : lshr x s = x / 2 ^ s.toNat := by
  unfold lshr
  have es : i32 s = nI s.toNat := by rw [← i32_nat]; congr 1; omega
  have e1 := l_sm s.toNat (by omega)
  rw [← es] at e1
  show ((i64 x).toBitVec.sshiftRight (((i32 s).toInt64 &&& 63).toBitVec.smod 64).toNat).toInt = _
  rw [e1, BitVec.toInt_sshiftRight, i64_tb, w64_id hx, Int.shiftRight_eq_div_pow]
  push_cast
  rfl
theorem cut_v {o v : Int} (ho : 0 ≤ o ∧ o ≤ 3) (hv : in64 v) : lshr (lshl v (w32 (64 - ishl 8 o))) (w32 (64 - ishl 8 o)) = cutF o v := by
  have h : o = 0 ∨ o = 1 ∨ o = 2 ∨ o = 3 := by omega
  unfold in64 at hv
  unfold cutF
  rcases h with rfl | rfl | rfl | rfl
  · rw [show w32 (64 - ishl 8 0) = 56 by decide +kernel, lshl_v (by decide) (by decide), lshr_v (w64_in _) (by decide) (by decide), if_pos rfl]
    show w64 (v * 72057594037927936) / 72057594037927936 = _
    unfold w64
    omega
  · rw [show w32 (64 - ishl 8 1) = 48 by decide +kernel, lshl_v (by decide) (by decide), lshr_v (w64_in _) (by decide) (by decide), if_neg (by decide), if_pos rfl]
    show w64 (v * 281474976710656) / 281474976710656 = _
    unfold w64
    omega
  · rw [show w32 (64 - ishl 8 2) = 32 by decide +kernel, lshl_v (by decide) (by decide), lshr_v (w64_in _) (by decide) (by decide), if_neg (by decide), if_neg (by decide), if_pos rfl]
    show w64 (v * 4294967296) / 4294967296 = _
    unfold w64 w32
    omega
  · rw [show w32 (64 - ishl 8 3) = 0 by decide +kernel, lshl_v (by decide) (by decide), lshr_v (w64_in _) (by decide) (by decide), if_neg (by decide), if_neg (by decide), if_neg (by decide)]
    show w64 (v * 1) / 1 = _
    unfold w64
    omega
theorem miss_v {o : Int} (ho : 0 ≤ o ∧ o ≤ 3) : lshl (-1) (w32 (ishl 8 o - 1)) = missF o := by
  have h : o = 0 ∨ o = 1 ∨ o = 2 ∨ o = 3 := by omega
  rcases h with rfl | rfl | rfl | rfl <;> decide +kernel
/-- a long of waiting bits -/
theorem i64_N {x : Int} (h : 0 ≤ x) : (i64 x) = Int64.ofNat x.toNat := by unfold i64; rw [← Int64.ofInt_eq_ofNat]; congr 1; omega
theorem i64_tN {x : Int} (hx : 0 ≤ x ∧ x < 9223372036854775808) : (i64 x).toBitVec.toNat = x.toNat := by
  have h := i64_tb x
  rw [w64_id (by unfold in64; omega), BitVec.toInt_eq_toNat_cond] at h
  have := (i64 x).toBitVec.isLt
  split at h <;> omega
theorem tI64 (u : Int64) : u.toInt = if 2 * u.toBitVec.toNat < 18446744073709551616 then (u.toBitVec.toNat : Int) else (u.toBitVec.toNat : Int) - 18446744073709551616 := by
  show u.toBitVec.toInt = _
  rw [BitVec.toInt_eq_toNat_cond]
  rfl
theorem lushr_1 {x : Int} (hx : 0 ≤ x ∧ x < 9223372036854775808) : lushr x 1 = x / 2 := by
  unfold lushr
  have e1 := l_su 1 (by decide)
  have h := i64_tN hx
  rw [tI64]
  have e2 : (((i64 x).toUInt64 >>> ((i32 1).toInt64.toUInt64 &&& Int64.toUInt64 63)).toInt64).toBitVec.toNat = x.toNat / 2 := by
    show ((i64 x).toBitVec >>> (((nI 1).toInt64.toUInt64 &&& Int64.toUInt64 63).toBitVec % 64)).toNat = _
    rw [BitVec.ushiftRight_eq', BitVec.toNat_ushiftRight, e1, h, Nat.shiftRight_eq_div_pow]
  rw [e2, if_pos (by omega)]
  omega
theorem land_n {x y : Int} (hx : 0 ≤ x ∧ x < 9223372036854775808) (hy : 0 ≤ y ∧ y < 9223372036854775808) : land x y = ((x.toNat &&& y.toNat : Nat) : Int) := by
  unfold land
  rw [tI64, Int64.toBitVec_and, BitVec.toNat_and, i64_tN hx, i64_tN hy, if_pos]
  have := Nat.and_le_left (n := x.toNat) (m := y.toNat)
  omega
theorem lor_n {x y : Int} (hx : 0 ≤ x ∧ x < 4611686018427387904) (hy : 0 ≤ y ∧ y < 4611686018427387904) : lor x y = ((x.toNat ||| y.toNat : Nat) : Int) := by
  unfold lor
  rw [tI64, Int64.toBitVec_or, BitVec.toNat_or, i64_tN (by omega), i64_tN (by omega), if_pos]
  have l := Nat.or_lt_two_pow (n := 62) (x := x.toNat) (y := y.toNat) (by omega) (by omega)
  omega
theorem lxor_n {x y : Int} (hx : 0 ≤ x ∧ x < 4611686018427387904) (hy : 0 ≤ y ∧ y < 4611686018427387904) : lxor x y = ((x.toNat ^^^ y.toNat : Nat) : Int) := by
  unfold lxor
  rw [tI64, Int64.toBitVec_xor, BitVec.toNat_xor, i64_tN (by omega), i64_tN (by omega), if_pos]
  have l := Nat.xor_lt_two_pow (n := 62) (x := x.toNat) (y := y.toNat) (by omega) (by omega)
  omega
theorem land_1 {x : Int} (hx : 0 ≤ x ∧ x < 9223372036854775808) : land x 1 = x % 2 := by
  rw [land_n hx (by decide)]
  show ((x.toNat &&& 1 : Nat) : Int) = _
  rw [Nat.and_one_is_mod]
  omega
theorem or1 (n : Nat) : n ||| 1 = n / 2 * 2 + 1 := by
  apply Nat.eq_of_testBit_eq
  intro i
  cases i with
  | zero => simp [Nat.testBit_zero]
  | succ i =>
    rw [Nat.testBit_succ, Nat.testBit_succ, Nat.or_div_two, show (1 : Nat) / 2 = 0 from rfl, Nat.or_zero]
    congr 1
    omega
theorem xor1 (n : Nat) : n ^^^ 1 = n / 2 * 2 + (1 - n % 2) := by
  apply Nat.eq_of_testBit_eq
  intro i
  cases i with
  | zero => simp [Nat.testBit_zero]; omega
  | succ i =>
    rw [Nat.testBit_succ, Nat.testBit_succ, Nat.xor_div_two, show (1 : Nat) / 2 = 0 from rfl, Nat.xor_zero]
    congr 1
    omega
theorem lor_1 {x b : Int} (hx : 0 ≤ x ∧ x < 4611686018427387904) (hb : b = 0 ∨ b = 1) : lor x b = if b = 1 then x / 2 * 2 + 1 else x := by
  rw [lor_n hx (by omega)]
  rcases hb with rfl | rfl
  · simp; omega
  · show ((x.toNat ||| 1 : Nat) : Int) = _
    rw [or1, if_pos rfl]
    omega
theorem lxor_1 {x : Int} (hx : 0 ≤ x ∧ x < 4611686018427387904) : lxor x 1 = x / 2 * 2 + (1 - x % 2) := by
  rw [lxor_n hx (by decide)]
  show ((x.toNat ^^^ 1 : Nat) : Int) = _
  rw [xor1]
  omega
theorem land_m {x b : Int} (hx : 0 ≤ x ∧ x < 9223372036854775808) (hb : b = 0 ∨ b = 1) : land x (lor (-2) b) = if b = 1 then x else x / 2 * 2 := by
  rcases hb with rfl | rfl
  · rw [show lor (-2) 0 = -2 by decide +kernel, if_neg (by decide)]
    unfold land
    have e : (i64 x &&& i64 (-2)).toBitVec.toNat = x.toNat / 2 * 2 := by
      rw [Int64.toBitVec_and, BitVec.toNat_and, i64_tN hx, show (i64 (-2)).toBitVec.toNat = 18446744073709551614 by decide +kernel]
      have h : x.toNat < 2 ^ 63 := by omega
      have e9 : (18446744073709551614 : Nat) = 2 * (2 ^ 63 - 1) := by decide
      apply Nat.eq_of_testBit_eq
      intro i
      cases i with
      | zero => simp [Nat.testBit_zero]
      | succ i =>
        rw [Nat.testBit_and, e9, Nat.testBit_succ, Nat.testBit_succ, Nat.testBit_succ, Nat.mul_div_cancel_left _ (by decide : 0 < 2), Nat.testBit_two_pow_sub_one, Nat.mul_div_cancel _ (by decide : 0 < 2)]
        by_cases hi : i < 63
        · simp [hi]
        · have : (x.toNat / 2).testBit i = false := Nat.testBit_lt_two_pow (Nat.lt_of_lt_of_le (by omega : x.toNat / 2 < 2 ^ 63) (Nat.pow_le_pow_right (by decide) (by omega)))
          simp [this]
    rw [tI64, e, if_pos (by omega)]
    omega
  · rw [show lor (-2) 1 = -1 by decide +kernel, if_pos rfl]
    unfold land
    have e : i64 x &&& i64 (-1) = i64 x := by
      apply Int64.toBitVec_inj.mp
      rw [Int64.toBitVec_and, show (i64 (-1)).toBitVec = BitVec.allOnes 64 by decide +kernel, BitVec.and_allOnes]
    rw [e, i64_ti (by unfold in64; omega)]
