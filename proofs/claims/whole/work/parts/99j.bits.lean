/-! THE CLASS'S CALLS: least, how many bits a set of n places can have -/
theorem bits_all : ∀ n : Nat, n < 13 → bitsN (((2 : Nat) ^ n - 1 : Nat) : Int) = (n : Int) := by decide +kernel
theorem bits_min : ∀ a : Nat, a < 64 → ∀ b : Nat, b < 64 → 2 ^ (bitsN ((64 * a + b : Nat) : Int)).toNat ≤ 64 * a + b + 1 := by decide +kernel
theorem bits_lt {s : Int} {n : Nat} (hn : n < 13) (h0 : 0 ≤ s) (h1 : s < ((2 ^ n - 1 : Nat) : Int)) : bitsN s < n := by
  have hp : 2 ^ n ≤ 2 ^ 12 := Nat.pow_le_pow_right (by omega) (by omega)
  have h12 : 2 ^ 12 = 4096 := rfl
  have h := bits_min (s.toNat / 64) (by omega) (s.toNat % 64) (by omega)
  have e : (64 * (s.toNat / 64) + s.toNat % 64 : Nat) = s.toNat := by omega
  rw [e, Int.toNat_of_nonneg h0] at h
  have hb := cntF_in (bt s) 20 0
  have hb' : 0 ≤ bitsN s := hb.1
  by_cases c : bitsN s < n
  · exact c
  · have : 2 ^ n ≤ 2 ^ (bitsN s).toNat := Nat.pow_le_pow_right (by omega) (by omega)
    omega
