/-! HOW MANY BITS -/
theorem L16 (r d m e : Nat) (hd : d < 16) (he : e < 16) : (16 * r + d) &&& (16 * m + e) = 16 * (r &&& m) + (d &&& e) := by
  apply Nat.eq_of_testBit_eq
  intro j
  have h2 : d &&& e < 2 ^ 4 := Nat.lt_of_le_of_lt Nat.and_le_left hd
  have q1 := Nat.testBit_two_pow_mul_add r (show d < 2 ^ 4 from hd) j
  have q2 := Nat.testBit_two_pow_mul_add m (show e < 2 ^ 4 from he) j
  have q3 := Nat.testBit_two_pow_mul_add (r &&& m) h2 j
  rw [Nat.testBit_and]
  rw [show (16 : Nat) = 2 ^ 4 from rfl, q1, q2, q3]
  split
  · rw [Nat.testBit_and]
  · rw [Nat.testBit_and]
theorem t5 : ∀ x, x < 2 → ∀ d, d < 16 → (8 * x + d / 2) &&& 5 = d / 2 &&& 5 := by decide
theorem t3 : ∀ x, x < 4 → ∀ d, d < 16 → (4 * x + d / 4) &&& 3 = d / 4 &&& 3 := by decide
theorem L2 (r d m : Nat) (hd : d < 16) : (16 * r + d) / 2 &&& (16 * m + 5) = 16 * (r / 2 &&& m) + (d / 2 &&& 5) := by
  have e : (16 * r + d) / 2 = 16 * (r / 2) + (8 * (r % 2) + d / 2) := by omega
  rw [e, L16 _ _ _ _ (by omega) (by decide), t5 _ (by omega) _ hd]
theorem L4 (r d m : Nat) (hd : d < 16) : (16 * r + d) / 4 &&& (16 * m + 3) = 16 * (r / 4 &&& m) + (d / 4 &&& 3) := by
  have e : (16 * r + d) / 4 = 16 * (r / 4) + (4 * (r % 4) + d / 4) := by omega
  rw [e, L16 _ _ _ _ (by omega) (by decide), t3 _ (by omega) _ hd]
def p4 (d : Nat) : Nat := bi d 0 + bi d 1 + bi d 2 + bi d 3
def a4 (d : Nat) : Nat := d - (d / 2 &&& 5)
theorem a4_lt : ∀ d, d < 16 → a4 d < 16 := by decide
theorem a4_p : ∀ d, d < 16 → (a4 d &&& 3) + (a4 d / 4 &&& 3) = p4 d ∧ p4 d ≤ 4 := by decide
theorem aL (r d m : Nat) (hd : d < 16) : (16 * r + d) - ((16 * r + d) / 2 &&& (16 * m + 5)) = 16 * (r - (r / 2 &&& m)) + a4 d := by
  rw [L2 r d m hd]
  have h1 : r / 2 &&& m ≤ r / 2 := Nat.and_le_left
  have h2 : d / 2 &&& 5 ≤ d / 2 := Nat.and_le_left
  unfold a4
  omega
theorem bL (r d m : Nat) (hd : d < 16) : ((16 * r + a4 d) &&& (16 * m + 3)) + ((16 * r + a4 d) / 4 &&& (16 * m + 3)) = 16 * ((r &&& m) + (r / 4 &&& m)) + p4 d := by
  have h := a4_lt d hd
  rw [L16 _ _ _ _ h (by decide), L4 _ _ _ h, ← (a4_p d hd).1]
  omega
theorem cL0 (r s d : Nat) (hd : d < 16) (m : Nat) : (16 * r + d) &&& (16 * m + 15) = 16 * (r &&& m) + d := by
  rw [L16 _ _ _ _ hd (by decide)]
  have : ∀ d, d < 16 → d &&& 15 = d := by decide
  rw [this d hd]
theorem cL1 (r d : Nat) (hd : d < 16) (m : Nat) : (16 * r + d) &&& (16 * m) = 16 * (r &&& m) := by
  have := L16 r d m 0 hd (by decide)
  rw [Nat.add_zero, Nat.and_zero, Nat.add_zero] at this
  exact this
def H8 (d0 d1 d2 d3 d4 d5 d6 d7 : Nat) : Nat := 16 * (16 * (16 * (16 * (16 * (16 * (16 * (16 * 0 + d7) + d6) + d5) + d4) + d3) + d2) + d1) + d0
def M5 : Nat := 16 * (16 * (16 * (16 * (16 * (16 * (16 * (16 * 0 + 5) + 5) + 5) + 5) + 5) + 5) + 5) + 5
def M3 : Nat := 16 * (16 * (16 * (16 * (16 * (16 * (16 * (16 * 0 + 3) + 3) + 3) + 3) + 3) + 3) + 3) + 3
def MF : Nat := 16 * (16 * (16 * (16 * (16 * (16 * (16 * (16 * 0) + 15)) + 15)) + 15)) + 15
theorem aH {d0 d1 d2 d3 d4 d5 d6 d7 : Nat} (h0 : d0 < 16) (h1 : d1 < 16) (h2 : d2 < 16) (h3 : d3 < 16) (h4 : d4 < 16) (h5 : d5 < 16) (h6 : d6 < 16) (h7 : d7 < 16) :
    H8 d0 d1 d2 d3 d4 d5 d6 d7 - (H8 d0 d1 d2 d3 d4 d5 d6 d7 / 2 &&& M5) = H8 (a4 d0) (a4 d1) (a4 d2) (a4 d3) (a4 d4) (a4 d5) (a4 d6) (a4 d7) := by
  unfold H8 M5
  rw [aL _ _ _ h0, aL _ _ _ h1, aL _ _ _ h2, aL _ _ _ h3, aL _ _ _ h4, aL _ _ _ h5, aL _ _ _ h6, aL _ _ _ h7]
  simp
theorem bH {d0 d1 d2 d3 d4 d5 d6 d7 : Nat} (h0 : d0 < 16) (h1 : d1 < 16) (h2 : d2 < 16) (h3 : d3 < 16) (h4 : d4 < 16) (h5 : d5 < 16) (h6 : d6 < 16) (h7 : d7 < 16) :
    (H8 (a4 d0) (a4 d1) (a4 d2) (a4 d3) (a4 d4) (a4 d5) (a4 d6) (a4 d7) &&& M3) + (H8 (a4 d0) (a4 d1) (a4 d2) (a4 d3) (a4 d4) (a4 d5) (a4 d6) (a4 d7) / 4 &&& M3) = H8 (p4 d0) (p4 d1) (p4 d2) (p4 d3) (p4 d4) (p4 d5) (p4 d6) (p4 d7) := by
  unfold H8 M3
  rw [bL _ _ _ h0, bL _ _ _ h1, bL _ _ _ h2, bL _ _ _ h3, bL _ _ _ h4, bL _ _ _ h5, bL _ _ _ h6, bL _ _ _ h7]
  simp
theorem cH {d0 d1 d2 d3 d4 d5 d6 d7 : Nat} (h0 : d0 ≤ 4) (h1 : d1 ≤ 4) (h2 : d2 ≤ 4) (h3 : d3 ≤ 4) (h4 : d4 ≤ 4) (h5 : d5 ≤ 4) (h6 : d6 ≤ 4) (h7 : d7 ≤ 4) :
    (H8 d0 d1 d2 d3 d4 d5 d6 d7 + H8 d0 d1 d2 d3 d4 d5 d6 d7 / 16) &&& MF = 256 * (256 * (256 * (d6 + d7) + (d4 + d5)) + (d2 + d3)) + (d0 + d1) := by
  have e : H8 d0 d1 d2 d3 d4 d5 d6 d7 + H8 d0 d1 d2 d3 d4 d5 d6 d7 / 16 = 16 * (16 * (16 * (16 * (16 * (16 * (16 * (16 * 0 + d7) + (d6 + d7)) + (d5 + d6)) + (d4 + d5)) + (d3 + d4)) + (d2 + d3)) + (d1 + d2)) + (d0 + d1) := by
    unfold H8; omega
  rw [e]
  unfold MF
  rw [cL0 _ 0 _ (by omega), cL1 _ _ (by omega), cL0 _ 0 _ (by omega), cL1 _ _ (by omega), cL0 _ 0 _ (by omega), cL1 _ _ (by omega), cL0 _ 0 _ (by omega), cL1 _ _ (by omega)]
  simp
  omega
theorem dH {s0 s1 s2 s3 : Nat} (h0 : s0 ≤ 8) (h1 : s1 ≤ 8) (h2 : s2 ≤ 8) (h3 : s3 ≤ 8) {c d e : Nat} (hc : c = 256 * (256 * (256 * s3 + s2) + s1) + s0) (hd : d = c + c / 256) (he : e = d + d / 65536) : e % 64 = s0 + s1 + s2 + s3 ∧ e < 2 ^ 31 ∧ d < 2 ^ 31 := by
  have q1 : c / 256 = 256 * (256 * s3 + s2) + s1 := by omega
  have q2 : d = 2 ^ 24 * s3 + 65536 * (s2 + s3) + 256 * (s1 + s2) + (s0 + s1) := by omega
  have q3 : d / 65536 = 256 * s3 + (s2 + s3) := by omega
  omega
theorem H8_of {x : Nat} (h : x < 2 ^ 32) : x = H8 (x % 16) (x / 16 % 16) (x / 256 % 16) (x / 4096 % 16) (x / 65536 % 16) (x / 1048576 % 16) (x / 16777216 % 16) (x / 268435456 % 16) := by
  unfold H8; omega
theorem n_k31 : ∀ k, k < 32 → (((nI k).toUInt32 &&& Int32.toUInt32 31).toBitVec % 32).toNat = k := by decide
theorem n_us {x k : Nat} (hx : x < 2 ^ 31) (hk : k < 32) : us (nI x) k = nI (x / 2 ^ k) := by
  apply Int32.toBitVec_inj.mp
  unfold us
  show ((nI x).toUInt32 >>> ((nI k).toUInt32 &&& Int32.toUInt32 31)).toBitVec = _
  rw [UInt32.toBitVec_shiftRight]
  apply BitVec.eq_of_toNat_eq
  have e1 : ((nI x).toUInt32).toBitVec.toNat = x := by
    show (nI x).toBitVec.toNat = x
    unfold nI
    rw [Int32.toBitVec_ofNat', BitVec.toNat_ofNat]
    omega
  have e2 : (nI (x / 2 ^ k)).toBitVec.toNat = x / 2 ^ k := by
    have : x / 2 ^ k ≤ x := Nat.div_le_self _ _
    unfold nI
    rw [Int32.toBitVec_ofNat', BitVec.toNat_ofNat, Nat.mod_eq_of_lt (by omega)]
  have hs := n_k31 k hk
  rw [e2]
  show (((nI x).toUInt32).toBitVec >>> (((nI k).toUInt32 &&& Int32.toUInt32 31).toBitVec % 32).toNat).toNat = _
  rw [hs, BitVec.toNat_ushiftRight, e1, Nat.shiftRight_eq_div_pow]
theorem n_subN {a b : Nat} (h : b ≤ a) : nI a - nI b = nI (a - b) := by
  have : nI a = nI (a - b) + nI b := by rw [nI_add]; congr 1; omega
  rw [this, Int32.add_sub_cancel]
theorem bcI_H {d0 d1 d2 d3 d4 d5 d6 d7 : Nat} (h0 : d0 < 16) (h1 : d1 < 16) (h2 : d2 < 16) (h3 : d3 < 16) (h4 : d4 < 16) (h5 : d5 < 16) (h6 : d6 < 16) (h7 : d7 < 4) :
    bcI (nI (H8 d0 d1 d2 d3 d4 d5 d6 d7)) = nI (p4 d0 + p4 d1 + p4 d2 + p4 d3 + p4 d4 + p4 d5 + p4 d6 + p4 d7) := by
  have hx : H8 d0 d1 d2 d3 d4 d5 d6 d7 < 2 ^ 31 := by unfold H8; omega
  have ea := aH h0 h1 h2 h3 h4 h5 h6 (show d7 < 16 by omega)
  have eb := bH h0 h1 h2 h3 h4 h5 h6 (show d7 < 16 by omega)
  have k0 := (a4_p d0 h0).2
  have k1 := (a4_p d1 h1).2
  have k2 := (a4_p d2 h2).2
  have k3 := (a4_p d3 h3).2
  have k4 := (a4_p d4 h4).2
  have k5 := (a4_p d5 h5).2
  have k6 := (a4_p d6 h6).2
  have k7 := (a4_p d7 (by omega)).2
  have ec := cH k0 k1 k2 k3 k4 k5 k6 k7
  have hA : H8 (a4 d0) (a4 d1) (a4 d2) (a4 d3) (a4 d4) (a4 d5) (a4 d6) (a4 d7) < 2 ^ 31 := by rw [← ea]; omega
  have hB : H8 (p4 d0) (p4 d1) (p4 d2) (p4 d3) (p4 d4) (p4 d5) (p4 d6) (p4 d7) < 2 ^ 31 := by unfold H8; omega
  obtain ⟨f1, f2, f3⟩ := dH (s0 := p4 d0 + p4 d1) (s1 := p4 d2 + p4 d3) (s2 := p4 d4 + p4 d5) (s3 := p4 d6 + p4 d7) (by omega) (by omega) (by omega) (by omega) rfl rfl rfl
  have m5 : (1431655765 : Int32) = nI M5 := by decide
  have m3 : (858993459 : Int32) = nI M3 := by decide
  have mF : (252645135 : Int32) = nI MF := by decide
  have hle : H8 d0 d1 d2 d3 d4 d5 d6 d7 / 2 &&& M5 ≤ H8 d0 d1 d2 d3 d4 d5 d6 d7 := Nat.le_trans Nat.and_le_left (Nat.div_le_self _ _)
  have sA : nI (H8 d0 d1 d2 d3 d4 d5 d6 d7) - (us (nI (H8 d0 d1 d2 d3 d4 d5 d6 d7)) 1 &&& 1431655765) = nI (H8 (a4 d0) (a4 d1) (a4 d2) (a4 d3) (a4 d4) (a4 d5) (a4 d6) (a4 d7)) := by
    rw [n_us hx (by decide), m5, n_and, n_subN (by simpa using hle), ← ea]
  have sB : (nI (H8 (a4 d0) (a4 d1) (a4 d2) (a4 d3) (a4 d4) (a4 d5) (a4 d6) (a4 d7)) &&& 858993459) + (us (nI (H8 (a4 d0) (a4 d1) (a4 d2) (a4 d3) (a4 d4) (a4 d5) (a4 d6) (a4 d7))) 2 &&& 858993459) = nI (H8 (p4 d0) (p4 d1) (p4 d2) (p4 d3) (p4 d4) (p4 d5) (p4 d6) (p4 d7)) := by
    rw [n_us hA (by decide), m3, n_and, n_and, nI_add, ← eb]
  have sC : (nI (H8 (p4 d0) (p4 d1) (p4 d2) (p4 d3) (p4 d4) (p4 d5) (p4 d6) (p4 d7)) + us (nI (H8 (p4 d0) (p4 d1) (p4 d2) (p4 d3) (p4 d4) (p4 d5) (p4 d6) (p4 d7))) 4) &&& 252645135 = nI (256 * (256 * (256 * (p4 d6 + p4 d7) + (p4 d4 + p4 d5)) + (p4 d2 + p4 d3)) + (p4 d0 + p4 d1)) := by
    rw [n_us hB (by decide), nI_add, mF, n_and, ← ec]
  unfold bcI
  simp only []
  rw [sA, sB, sC, n_us (by omega) (by decide), nI_add, n_us (by simpa using f3) (by decide), nI_add, n_and]
  congr 1
  have e63 : ∀ z, z &&& 63 = z % 64 := fun z => Nat.and_two_pow_sub_one_eq_mod z 6
  rw [e63]
  have := f1
  simp only [Nat.reducePow] at this ⊢
  rw [this]
  omega
theorem p4_x (x i : Nat) : p4 (x / 2 ^ (4 * i) % 16) = bi x (4 * i) + bi x (4 * i + 1) + bi x (4 * i + 2) + bi x (4 * i + 3) := by
  have hb : ∀ j, j < 4 → bi (x / 2 ^ (4 * i) % 16) j = bi x (4 * i + j) := fun j hj => by
    rw [bi_tb', bi_tb', show (16 : Nat) = 2 ^ 4 from rfl, Nat.testBit_mod_two_pow, Nat.testBit_div_two_pow]
    simp [hj, Nat.add_comm]
  unfold p4
  rw [hb 0 (by decide), hb 1 (by decide), hb 2 (by decide), hb 3 (by decide)]
  rfl
theorem bc_30 {x : Nat} (h : x < 2 ^ 30) : bcI (nI x) = nI (pcn x 32) := by
  have e := H8_of (x := x) (by omega)
  have q := bcI_H (d0 := x % 16) (d1 := x / 16 % 16) (d2 := x / 256 % 16) (d3 := x / 4096 % 16) (d4 := x / 65536 % 16) (d5 := x / 1048576 % 16) (d6 := x / 16777216 % 16) (d7 := x / 268435456 % 16) (by omega) (by omega) (by omega) (by omega) (by omega) (by omega) (by omega) (by omega)
  rw [← e] at q
  rw [q]
  congr 1
  have y0 := p4_x x 0
  have y1 := p4_x x 1
  have y2 := p4_x x 2
  have y3 := p4_x x 3
  have y4 := p4_x x 4
  have y5 := p4_x x 5
  have y6 := p4_x x 6
  have y7 := p4_x x 7
  simp only [Nat.mul_zero, Nat.pow_zero, Nat.div_one, Nat.reduceMul, Nat.reducePow, Nat.reduceAdd, Nat.zero_add] at y0 y1 y2 y3 y4 y5 y6 y7
  simp only [pcn]
  omega
theorem pcn_tbf (t : Nat → Int32) : ∀ n i, pcn (tbf t n) i = cnz t (if i ≤ n then i else n)
  | n, 0 => by rw [if_pos (by omega)]; rfl
  | n, i + 1 => by
    have h := pcn_tbf t n i
    have hb := tbf_tb t n i
    unfold pcn
    rw [h, bi_tb', hb]
    by_cases c : i < n
    · rw [if_pos (by omega), if_pos (by omega)]
      show _ = (if t i = 0 then cnz t i else cnz t i + 1)
      by_cases e : t i = 0
      · rw [if_pos e]; simp [e]
      · rw [if_neg e]; simp [e, c]
    · have : decide (i < n) = false := by simp; omega
      rw [this]
      by_cases e : i = n
      · subst e; rw [if_pos (by omega), if_neg (by omega)]; rfl
      · rw [if_neg (by omega), if_neg (by omega)]; rfl
theorem bc_told (t : Nat → Int32) {n : Nat} (hn : n ≤ 30) : bcI (nI (tbf t n)) = nI (cnz t n) := by
  rw [bc_30 (tbf_30 t hn), pcn_tbf t n 32, if_neg (by omega)]
