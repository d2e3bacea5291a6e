/-! numbers -/
theorem n_and (a b : Nat) : nI a &&& nI b = nI (a &&& b) := by
  apply Int32.toBitVec_inj.mp
  simp only [nI, Int32.toBitVec_and, Int32.toBitVec_ofNat']
  exact BitVec.ofNat_and.symm
theorem n_or (a b : Nat) : nI a ||| nI b = nI (a ||| b) := by
  apply Int32.toBitVec_inj.mp
  simp only [nI, Int32.toBitVec_or, Int32.toBitVec_ofNat']
  exact BitVec.ofNat_or.symm
theorem n_xor (a b : Nat) : nI a ^^^ nI b = nI (a ^^^ b) := by
  apply Int32.toBitVec_inj.mp
  simp only [nI, Int32.toBitVec_xor, Int32.toBitVec_ofNat']
  exact BitVec.ofNat_xor.symm
theorem n_sm : ∀ n, n < 32 → ((nI n &&& 31).toBitVec.smod 32).toNat = n := by decide
theorem n_shr {a k : Nat} (ha : a < 2 ^ 31) (hk : k < 32) : nI a >>> (nI k &&& 31) = nI (a / 2 ^ k) := pk_shrN ha _ k (n_sm k hk)
theorem n_shl {a k : Nat} (hk : k < 32) (ha : a * 2 ^ k < 2 ^ 32) : nI a <<< (nI k &&& 31) = nI (a * 2 ^ k) := pk_shlN _ k (n_sm k hk) ha
theorem n_and1 {a : Nat} (ha : a < 2 ^ 32) : nI a &&& nI 1 = nI (a % 2) := by
  rw [pk_andN ha 1 (by decide)]
theorem n_bit {a k : Nat} (ha : a < 2 ^ 31) (hk : k < 32) : nI a >>> (nI k &&& 31) &&& nI 1 = nI (a / 2 ^ k % 2) := by
  rw [n_shr ha hk, n_and1 (by have := Nat.div_le_self a (2 ^ k); omega)]
theorem n_eq0 {a : Nat} (ha : a < 2 ^ 31) : nI a = 0 ↔ a = 0 := by
  rw [← nI_0]
  exact nI_eq ha (by omega)
theorem n_z0 : (0 : Int32) = nI 0 := nI_0.symm
theorem n_z1 : (1 : Int32) = nI 1 := rfl
theorem n_not (a : Nat) (h : a < 2 ^ 31) : nI a ^^^ -(nI 1) = ~~~ (nI a) := by
  apply Int32.toBitVec_inj.mp
  have e : (-(nI 1)).toBitVec = BitVec.allOnes 32 := by decide
  simp only [Int32.toBitVec_xor, e, Int32.toBitVec_not, BitVec.xor_allOnes]
theorem n_andn (a b : Nat) (ha : a < 2 ^ 31) (hb : b < 2 ^ 31) : nI a &&& (nI b ^^^ -(nI 1)) = nI (a &&& (b ^^^ (2 ^ 32 - 1))) := by
  have e : (-(nI 1)) = nI (2 ^ 32 - 1) := by decide
  rw [e, n_xor, n_and]
theorem n_lt_or {a b k : Nat} (ha : a < 2 ^ k) (hb : b < 2 ^ k) : a ||| b < 2 ^ k := Nat.or_lt_two_pow ha hb
theorem n_and_le (a b : Nat) : a &&& b ≤ a := Nat.and_le_left
