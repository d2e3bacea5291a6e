/-! PLAIN SETS: a closed net of them, none empty, can be -/
/-- the signs, as bits 1, 2, 4, that a set lets an end of p have to an end of q -/
def dg (s e o : Nat) : Nat := fo sgT s 13 / 2 ^ ((3 - (2 * e + o)) * 4) % 16
def sgIn (x m : Nat) : Prop := x &&& m = x
theorem dg_ok : ∀ r, r < 13 → ∀ e, e < 2 → ∀ o, o < 2 → sd r e o = 1 ∨ sd r e o = 2 ∨ sd r e o = 4 := by decide
theorem fo_split (n : Nat) : fo sgT n 13 < 2 ^ 15 := fo_lt sgT_lt 13
theorem sh_tb (n k i : Nat) : (n / 2 ^ k).testBit i = n.testBit (k + i) := by rw [← Nat.shiftRight_eq_div_pow, Nat.testBit_shiftRight]
theorem m16_tb (n i : Nat) : (n % 16).testBit i = (decide (i < 4) && n.testBit i) := Nat.testBit_mod_two_pow n 4 i
theorem dg_tb {s e o i : Nat} (hi : i < 4) : (dg s e o).testBit i = true ↔ ∃ r, r < 13 ∧ s.testBit r = true ∧ (sd r e o).testBit i = true := by
  unfold dg sd
  rw [m16_tb, sh_tb]
  simp only [hi, decide_true, Bool.true_and]
  rw [fo_tb]
  constructor
  · rintro ⟨r, h1, h2, h3⟩
    exact ⟨r, h1, h2, by rw [m16_tb, sh_tb]; simpa [hi] using h3⟩
  · rintro ⟨r, h1, h2, h3⟩
    rw [m16_tb, sh_tb] at h3
    exact ⟨r, h1, h2, by simpa [hi] using h3⟩
/-- sign 2^i is let -/
theorem dg_in {s e o i : Nat} (he : e < 2) (ho : o < 2) (hi : i < 3) : (dg s e o).testBit i = true ↔ ∃ r, r < 13 ∧ s.testBit r = true ∧ sd r e o = 2 ^ i := by
  rw [dg_tb (by omega)]
  constructor
  · rintro ⟨r, h1, h2, h3⟩
    refine ⟨r, h1, h2, ?_⟩
    rcases dg_ok r h1 e he o ho with q | q | q <;> rw [q] at h3 ⊢ <;> rcases (show i = 0 ∨ i = 1 ∨ i = 2 by omega) with rfl | rfl | rfl <;> first | rfl | (exact absurd h3 (by decide))
  · rintro ⟨r, h1, h2, h3⟩
    exact ⟨r, h1, h2, by rw [h3]; exact Nat.testBit_two_pow_self⟩
/-- ends: 2 a + e. What is let between two of them: bit 0 below, 1 alike, 2 above -/
def dm (g : Nat → Nat) (x y i : Nat) : Prop := if x / 2 = y / 2 then i = (if x % 2 < y % 2 then 0 else if x % 2 = y % 2 then 1 else 2) else (dg (g (x / 2 * 6 + y / 2)) (x % 2) (y % 2)).testBit i = true
theorem dm_same {g : Nat → Nat} {x y i : Nat} (h : x / 2 = y / 2) : dm g x y i ↔ i = (if x % 2 < y % 2 then 0 else if x % 2 = y % 2 then 1 else 2) := by unfold dm; rw [if_pos h]
theorem dm_diff {g : Nat → Nat} {x y i : Nat} (h : x / 2 ≠ y / 2) (hi : i < 3) : dm g x y i ↔ ∃ r, r < 13 ∧ (g (x / 2 * 6 + y / 2)).testBit r = true ∧ sd r (x % 2) (y % 2) = 2 ^ i := by
  unfold dm; rw [if_neg h]; exact dg_in (by omega) (by omega) hi
theorem sd_pw : ∀ r, r < 13 → ∀ e, e < 2 → ∀ o, o < 2 → ∃ i, i < 3 ∧ sd r e o = 2 ^ i := by decide
theorem pw_inj : ∀ i, i < 3 → ∀ j, j < 3 → (2 ^ i = 2 ^ j → i = j) := by decide
/-- positions of a sign: three numbers of ends in one relation or two -/
def okB (x y z : Nat) : Bool := (x != 2 || z == y) && (y != 2 || z == x) && (x != y || z == x)
theorem okB_S {x y z : Nat} (h : okB x y z = true) : okS x y z := by
  unfold okB at h
  unfold okS
  simp only [Bool.and_eq_true, Bool.or_eq_true, bne_iff_ne, ne_eq, beq_iff_eq] at h
  obtain ⟨⟨h1, h2⟩, h3⟩ := h
  exact ⟨fun q => h1.resolve_left (fun n => n q), fun q => h2.resolve_left (fun n => n q), fun q => h3.resolve_left (fun n => n q)⟩
theorem sd_b1 : ∀ r, r < 13 → ∀ e, e < 2 → ∀ f, f < 2 → ∀ g, g < 2 → okB (if e < f then 1 else if e = f then 2 else 4) (sd r f g) (sd r e g) = true := by decide +kernel
theorem sd_b2 : ∀ r, r < 13 → ∀ e, e < 2 → ∀ f, f < 2 → ∀ g, g < 2 → okB (sd r e f) (if f < g then 1 else if f = g then 2 else 4) (sd r e g) = true := by decide +kernel
theorem sd_b3 : ∀ r, r < 13 → ∀ e, e < 2 → ∀ f, f < 2 → ∀ g, g < 2 → okB (sd r e f) (sd (12 - r) f g) (if e < g then 1 else if e = g then 2 else 4) = true := by decide +kernel
theorem sd_in1 (r : Nat) (hr : r < 13) (e : Nat) (he : e < 2) (f : Nat) (hf : f < 2) (g : Nat) (hg : g < 2) : okS (if e < f then 1 else if e = f then 2 else 4) (sd r f g) (sd r e g) := okB_S (sd_b1 r hr e he f hf g hg)
theorem sd_in2 (r : Nat) (hr : r < 13) (e : Nat) (he : e < 2) (f : Nat) (hf : f < 2) (g : Nat) (hg : g < 2) : okS (sd r e f) (if f < g then 1 else if f = g then 2 else 4) (sd r e g) := okB_S (sd_b2 r hr e he f hf g hg)
theorem sd_in3 (r : Nat) (hr : r < 13) (e : Nat) (he : e < 2) (f : Nat) (hf : f < 2) (g : Nat) (hg : g < 2) : okS (sd r e f) (sd (12 - r) f g) (if e < g then 1 else if e = g then 2 else 4) := okB_S (sd_b3 r hr e he f hf g hg)
theorem s2i (e f : Nat) : (if e < f then 1 else if e = f then 2 else 4) = 2 ^ (if e < f then 0 else if e = f then 1 else 2) := by split <;> (try split) <;> rfl
/-- what goes together -/
theorem dm_tr {g : Nat → Nat} (hB : Bd g) (hS : Sy g) (hC : Clo g) (hN : NE g 0) {x y z i : Nat} (hx : x < 12) (hy : y < 12) (hz : z < 12) (hi : i < 3) (h : dm g x z i) : ∃ j k, j < 3 ∧ k < 3 ∧ dm g x y j ∧ dm g y z k ∧ okS (2 ^ j) (2 ^ k) (2 ^ i) := by
  have ex : x % 2 < 2 := by omega
  have ey : y % 2 < 2 := by omega
  have ez : z % 2 < 2 := by omega
  by_cases c1 : x / 2 = y / 2
  · by_cases c2 : y / 2 = z / 2
    · have c3 : x / 2 = z / 2 := by omega
      rw [dm_same c3] at h
      refine ⟨_, _, ?_, ?_, (dm_same c1).mpr rfl, (dm_same c2).mpr rfl, ?_⟩
      · (repeat' split) <;> omega
      · (repeat' split) <;> omega
      · rw [h]
        unfold okS
        rcases (show x % 2 = 0 ∨ x % 2 = 1 by omega) with e1 | e1 <;> rcases (show y % 2 = 0 ∨ y % 2 = 1 by omega) with e2 | e2 <;> rcases (show z % 2 = 0 ∨ z % 2 = 1 by omega) with e3 | e3 <;> rw [e1, e2, e3] <;> decide
    · have c3 : x / 2 ≠ z / 2 := by omega
      rw [dm_diff c3 hi] at h
      obtain ⟨r, hr, h1, h2⟩ := h
      obtain ⟨k, hk, h3⟩ := sd_pw r hr (y % 2) ey (z % 2) ez
      refine ⟨_, k, ?_, hk, (dm_same c1).mpr rfl, (dm_diff c2 hk).mpr ⟨r, hr, by rw [← c1]; exact h1, h3⟩, ?_⟩
      · (repeat' split) <;> omega
      · rw [← s2i, ← h2, ← h3]
        exact sd_in1 r hr _ ex _ ey _ ez
  · by_cases c2 : y / 2 = z / 2
    · have c3 : x / 2 ≠ z / 2 := by omega
      rw [dm_diff c3 hi] at h
      obtain ⟨r, hr, h1, h2⟩ := h
      obtain ⟨j, hj, h3⟩ := sd_pw r hr (x % 2) ex (y % 2) ey
      refine ⟨j, _, hj, ?_, (dm_diff c1 hj).mpr ⟨r, hr, by rw [c2]; exact h1, h3⟩, (dm_same c2).mpr rfl, ?_⟩
      · (repeat' split) <;> omega
      · rw [← s2i, ← h2, ← h3]
        exact sd_in2 r hr _ ex _ ey _ ez
    · by_cases c3 : x / 2 = z / 2
      · rw [dm_same c3] at h
        have hne := hN (x / 2) (y / 2) (by omega) (by omega) c1 (Nat.zero_testBit _)
        obtain ⟨r, hr, h1⟩ := tb_ex (hB _ (by omega)) hne
        obtain ⟨j, hj, h2⟩ := sd_pw r hr (x % 2) ex (y % 2) ey
        obtain ⟨k, hk, h3⟩ := sd_pw (12 - r) (by omega) (y % 2) ey (z % 2) ez
        refine ⟨j, k, hj, hk, (dm_diff c1 hj).mpr ⟨r, hr, h1, h2⟩, (dm_diff c2 hk).mpr ⟨12 - r, by omega, ?_, h3⟩, ?_⟩
        · rw [← c3, hS (x / 2) (y / 2) (by omega) (by omega) c1, tn_tb _ (by omega), show 12 - (12 - r) = r by omega]
          exact h1
        · rw [h, ← s2i, ← h2, ← h3]
          exact sd_in3 r hr _ ex _ ey _ ez
      · rw [dm_diff c3 hi] at h
        obtain ⟨t, ht, h1, h2⟩ := h
        have hcl := sb_tb.mp (hC (x / 2) (y / 2) (z / 2) ⟨by omega, by omega, by omega, c1, c2, c3⟩) t h1
        obtain ⟨r, s, hr, hs, g1, g2, g3⟩ := cm_tb.mp hcl
        rw [cm_cons r hr s hs t ht, cons3_ok] at g3
        obtain ⟨j, hj, h3⟩ := sd_pw r hr (x % 2) ex (y % 2) ey
        obtain ⟨k, hk, h4⟩ := sd_pw s hs (y % 2) ey (z % 2) ez
        refine ⟨j, k, hj, hk, (dm_diff c1 hj).mpr ⟨r, hr, g1, h3⟩, (dm_diff c2 hk).mpr ⟨s, hs, g2, h4⟩, ?_⟩
        rw [← h2, ← h3, ← h4]
        exact g3 _ _ _ ex ey ez
/-- before or alike: 'above' isn't let -/
def lee (g : Nat → Nat) (x y : Nat) : Prop := ¬ dm g x y 2
theorem lee_tr {g : Nat → Nat} (hB : Bd g) (hS : Sy g) (hC : Clo g) (hN : NE g 0) {x y z : Nat} (hx : x < 12) (hy : y < 12) (hz : z < 12) (h1 : lee g x y) (h2 : lee g y z) : lee g x z := by
  intro h
  obtain ⟨j, k, hj, hk, g1, g2, g3, g4, g5⟩ := dm_tr hB hS hC hN hx hy hz (by omega) h
  have nj : j ≠ 2 := fun q => h1 (by rw [← q]; exact g1)
  have nk : k ≠ 2 := fun q => h2 (by rw [← q]; exact g2)
  rcases (show j = 0 ∨ j = 1 by omega) with rfl | rfl <;> rcases (show k = 0 ∨ k = 1 by omega) with rfl | rfl
  · exact absurd (g5 rfl) (by decide)
  · exact absurd (g4 rfl) (by decide)
  · exact absurd (g3 rfl) (by decide)
  · exact absurd (g5 rfl) (by decide)
theorem lee_rf {g : Nat → Nat} (x : Nat) : lee g x x := by
  unfold lee
  rw [dm_same rfl]
  simp
theorem sd_sw : ∀ r, r < 13 → ∀ e, e < 2 → ∀ o, o < 2 → ∀ i, i < 3 → (sd r e o = 2 ^ i → sd (12 - r) o e = 2 ^ (2 - i)) := by decide
theorem dm_sw {g : Nat → Nat} (hS : Sy g) {x y i : Nat} (hx : x < 12) (hy : y < 12) (hi : i < 3) (h : dm g x y i) : dm g y x (2 - i) := by
  by_cases c : x / 2 = y / 2
  · rw [dm_same c] at h
    rw [dm_same c.symm, h]
    (repeat' split) <;> omega
  · rw [dm_diff c hi] at h
    obtain ⟨r, hr, h1, h2⟩ := h
    refine (dm_diff (Ne.symm c) (by omega)).mpr ⟨12 - r, by omega, ?_, sd_sw r hr _ (by omega) _ (by omega) i hi h2⟩
    rw [hS (x / 2) (y / 2) (by omega) (by omega) c, tn_tb _ (by omega), show 12 - (12 - r) = r by omega]
    exact h1
