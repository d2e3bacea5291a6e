/-! PLAIN SETS: the drawing of a closed net of them -/
noncomputable def cn (p : Nat → Prop) : Nat → Nat
  | 0 => 0
  | i + 1 => cn p i + @ite Nat (p i) (Classical.propDecidable _) 1 0
noncomputable def ff (p : Nat → Prop) : Nat → Nat → Nat
  | 0, _ => 0
  | n + 1, i => @ite Nat (p i) (Classical.propDecidable _) i (ff p n (i + 1))
theorem ite_t {p : Prop} {a b : Nat} (h : p) : @ite Nat p (Classical.propDecidable _) a b = a := by rw [if_pos h]
theorem ite_f {p : Prop} {a b : Nat} (h : ¬ p) : @ite Nat p (Classical.propDecidable _) a b = b := by rw [if_neg h]
theorem cn_le {p q : Nat → Prop} : ∀ n, (∀ i, i < n → p i → q i) → cn p n ≤ cn q n
  | 0, _ => Nat.le_refl _
  | n + 1, h => by
    have h1 := cn_le n (fun i hi => h i (by omega))
    show cn p n + @ite Nat (p n) (Classical.propDecidable _) 1 0 ≤ cn q n + @ite Nat (q n) (Classical.propDecidable _) 1 0
    by_cases hp : p n
    · rw [ite_t hp, ite_t (h n (by omega) hp)]; omega
    · rw [ite_f hp]; omega
theorem cn_lt {p q : Nat → Prop} (j : Nat) (hj1 : ¬ p j) (hj2 : q j) : ∀ n, (∀ i, i < n → p i → q i) → j < n → cn p n < cn q n
  | 0, _, hj => by omega
  | n + 1, h, hj => by
    show cn p n + @ite Nat (p n) (Classical.propDecidable _) 1 0 < cn q n + @ite Nat (q n) (Classical.propDecidable _) 1 0
    by_cases e : j = n
    · subst e
      have h1 := cn_le (p := p) (q := q) j (fun i hi => h i (by omega))
      rw [ite_f hj1, ite_t hj2]; omega
    · have h1 := cn_lt j hj1 hj2 n (fun i hi => h i (by omega)) (by omega)
      by_cases hp : p n
      · rw [ite_t hp, ite_t (h n (by omega) hp)]; omega
      · rw [ite_f hp]; omega
theorem ff_ok {p : Nat → Prop} : ∀ n i j, i ≤ j → j < i + n → p j → p (ff p n i) ∧ ff p n i < i + n
  | 0, i, j, h1, h2, _ => by omega
  | n + 1, i, j, h1, h2, h3 => by
    show p (@ite Nat (p i) (Classical.propDecidable _) i (ff p n (i + 1))) ∧ @ite Nat (p i) (Classical.propDecidable _) i (ff p n (i + 1)) < i + (n + 1)
    by_cases hp : p i
    · rw [ite_t hp]; exact ⟨hp, by omega⟩
    · rw [ite_f hp]
      have hne : i ≠ j := fun e => hp (by rw [e]; exact h3)
      have := ff_ok n (i + 1) j (by omega) (by omega) h3
      exact ⟨this.1, by omega⟩
/-- alike -/
def eqv (g : Nat → Nat) (x : Nat) : Nat → Prop := fun y => lee g x y ∧ lee g y x
def blw (g : Nat → Nat) (x : Nat) : Nat → Prop := fun y => lee g y x ∧ ¬ lee g x y
noncomputable def key (g : Nat → Nat) (x : Nat) : Nat := 12 * cn (blw g x) 12 + ff (eqv g x) 12 0
section KEY
variable {g : Nat → Nat} (hB : Bd g) (hS : Sy g) (hC : Clo g) (hN : NE g 0)
theorem ff_12 {x : Nat} (hx : x < 12) : eqv g x (ff (eqv g x) 12 0) ∧ ff (eqv g x) 12 0 < 12 := by
  have := ff_ok (p := eqv g x) 12 0 x (by omega) (by omega) ⟨lee_rf x, lee_rf x⟩
  exact ⟨this.1, by omega⟩
theorem key_lt {x y : Nat} (hB : Bd g) (hS : Sy g) (hC : Clo g) (hN : NE g 0) (hx : x < 12) (hy : y < 12) (h1 : lee g x y) (h2 : ¬ lee g y x) : key g x < key g y := by
  have hc : cn (blw g x) 12 < cn (blw g y) 12 := by
    refine cn_lt x (fun q => q.2 q.1) ⟨h1, h2⟩ 12 (fun i hi q => ⟨lee_tr hB hS hC hN hi hx hy q.1 h1, fun q2 => h2 (lee_tr hB hS hC hN hy hi hx q2 q.1)⟩) hx
  have m1 := (ff_12 (g := g) hx).2
  unfold key
  omega
theorem key_eq {x y : Nat} (hB : Bd g) (hS : Sy g) (hC : Clo g) (hN : NE g 0) (hx : x < 12) (hy : y < 12) (h : key g x = key g y) : lee g x y ∧ lee g y x := by
  obtain ⟨⟨e1, e2⟩, m1⟩ := ff_12 (g := g) hx
  obtain ⟨⟨e3, e4⟩, m2⟩ := ff_12 (g := g) hy
  unfold key at h
  have hm : ff (eqv g x) 12 0 = ff (eqv g y) 12 0 := by omega
  rw [hm] at e1 e2
  exact ⟨lee_tr hB hS hC hN hx m2 hy e1 e4, lee_tr hB hS hC hN hy m2 hx e3 e2⟩
theorem key_same {x y : Nat} (hB : Bd g) (hS : Sy g) (hC : Clo g) (hN : NE g 0) (hx : x < 12) (hy : y < 12) (h1 : lee g x y) (h2 : lee g y x) : key g x = key g y := by
  have a1 : cn (blw g x) 12 ≤ cn (blw g y) 12 := cn_le 12 (fun i hi q => ⟨lee_tr hB hS hC hN hi hx hy q.1 h1, fun q2 => q.2 (lee_tr hB hS hC hN hx hy hi h1 q2)⟩)
  have a2 : cn (blw g y) 12 ≤ cn (blw g x) 12 := cn_le 12 (fun i hi q => ⟨lee_tr hB hS hC hN hi hy hx q.1 h2, fun q2 => q.2 (lee_tr hB hS hC hN hy hx hi h2 q2)⟩)
  have hmin : ∀ n i, i + n = 12 → ff (eqv g x) n i = ff (eqv g y) n i := by
    intro n
    induction n with
    | zero => intro i _; rfl
    | succ n ih =>
      intro i hi
      have hiff : eqv g x i ↔ eqv g y i := ⟨fun q => ⟨lee_tr hB hS hC hN hy hx (by omega) h2 q.1, lee_tr hB hS hC hN (by omega) hx hy q.2 h1⟩, fun q => ⟨lee_tr hB hS hC hN hx hy (by omega) h1 q.1, lee_tr hB hS hC hN (by omega) hy hx q.2 h2⟩⟩
      show @ite Nat (eqv g x i) (Classical.propDecidable _) i (ff (eqv g x) n (i + 1)) = @ite Nat (eqv g y i) (Classical.propDecidable _) i (ff (eqv g y) n (i + 1))
      by_cases q : eqv g x i
      · rw [ite_t q, ite_t (hiff.mp q)]
      · rw [ite_f q, ite_f (fun z => q (hiff.mpr z)), ih (i + 1) (by omega)]
  unfold key
  rw [hmin 12 0 rfl]
  omega
end KEY
def plb (s : Nat) : Bool := (List.range 13).all fun i => !(bi (msT s) i == 1) || !((sgT i &&& fo sgT s 13) == sgT i)
theorem plb_ok {s : Nat} (h : pln s) : plb s = true := by
  unfold plb
  rw [List.all_eq_true]
  intro i hi
  have := h i (List.mem_range.mp hi)
  by_cases q : bi (msT s) i = 1
  · have := this q
    simp [q, this]
  · simp [q]
def plq (s r e o : Nat) : Bool := (sd r e o == 2 && dg s e o == 2) || (!(sd r e o == 2) && !(dg s e o == 2) && !((sd r e o &&& dg s e o) == 0))
def plc (s : Nat) : Bool := (List.range 13).all fun r => !(plq s r 0 0 && plq s r 0 1 && plq s r 1 0 && plq s r 1 1) || s.testBit r
set_option maxHeartbeats 4000000 in
theorem plain_all : ∀ a, a < 128 → ∀ b, b < 64 → (!plb (a * 64 + b) || plc (a * 64 + b)) = true := by decide +kernel
theorem plain_in {s r : Nat} (hs : s < 8192) (hp : pln s) (hr : r < 13) (h : ∀ e o, e < 2 → o < 2 → plq s r e o = true) : s.testBit r = true := by
  have h1 := plain_all (s / 64) (by omega) (s % 64) (by omega)
  rw [show s / 64 * 64 + s % 64 = s by omega, plb_ok hp] at h1
  simp only [Bool.not_true, Bool.false_or] at h1
  unfold plc at h1
  have h2 := List.all_eq_true.mp h1 r (List.mem_range.mpr hr)
  rw [h 0 0 (by omega) (by omega), h 0 1 (by omega) (by omega), h 1 0 (by omega) (by omega), h 1 1 (by omega) (by omega)] at h2
  simpa using h2
theorem dg_lt8 : ∀ d, d < 16 → (d.testBit 3 = false) → (d.testBit 0 = false) → (d.testBit 2 = false) → d ≠ 0 → d = 2 := by decide
theorem dg_b3 (s e o : Nat) (he : e < 2) (ho : o < 2) : (dg s e o).testBit 3 = false := by
  cases h : (dg s e o).testBit 3
  · rfl
  · obtain ⟨r, h1, -, h2⟩ := (dg_tb (by omega)).mp h
    rcases dg_ok r h1 e he o ho with q | q | q <;> rw [q] at h2 <;> exact absurd h2 (by decide)
set_option maxHeartbeats 1000000 in
/-- A CLOSED NET OF PLAIN SETS, NONE EMPTY, CAN BE -/
theorem plain_sat {g : Nat → Nat} (hB : Bd g) (hS : Sy g) (hC : Clo g) (hN : NE g 0) (hp : ∀ a b, a < b → b < 6 → pln (g (a * 6 + b))) : Sat g := by
  refine ⟨fun a e => key g (2 * a + e), fun a ha => ?_, ?_⟩
  · show key g (2 * a + 0) < key g (2 * a + 1)
    refine key_lt hB hS hC hN (by omega) (by omega) ?_ ?_
    · unfold lee
      rw [dm_same (by omega)]
      rw [if_pos (by omega)]
      omega
    · unfold lee
      rw [dm_same (by omega), if_neg (by omega), if_neg (by omega)]
      simp
  · have hstr : ∀ a, a < 6 → key g (2 * a) < key g (2 * a + 1) := fun a ha => by
      refine key_lt hB hS hC hN (by omega) (by omega) ?_ ?_
      · unfold lee
        rw [dm_same (by omega)]
        rw [if_pos (by omega)]
        omega
      · unfold lee
        rw [dm_same (by omega), if_neg (by omega), if_neg (by omega)]
        simp
    have main : ∀ a b, a < b → b < 6 → (g (a * 6 + b)).testBit (rP (fun a e => key g (2 * a + e)) a b) = true := by
      intro a b hab hb
      have ha : a < 6 := by omega
      refine plain_in (hB _ (by omega)) (hp a b hab hb) (rN_lt _ _ _ _) (fun e o he ho => ?_)
      have hsd : sd (rP (fun a e => key g (2 * a + e)) a b) e o = sgN (key g (2 * a + e)) (key g (2 * b + o)) := by
        unfold rP
        rw [sd_rN (show key g (2 * a + 0) < key g (2 * a + 1) from hstr a ha) (show key g (2 * b + 0) < key g (2 * b + 1) from hstr b hb) he ho]
        rcases (show e = 0 ∨ e = 1 by omega) with rfl | rfl <;> rcases (show o = 0 ∨ o = 1 by omega) with rfl | rfl <;> rfl
      have hx : 2 * a + e < 12 := by omega
      have hy : 2 * b + o < 12 := by omega
      have hd2 : (2 * a + e) / 2 ≠ (2 * b + o) / 2 := by omega
      have dmd : ∀ i, dm g (2 * a + e) (2 * b + o) i ↔ (dg (g (a * 6 + b)) e o).testBit i = true := by
        intro i
        unfold dm
        rw [if_neg hd2, show (2 * a + e) / 2 = a by omega, show (2 * b + o) / 2 = b by omega, show (2 * a + e) % 2 = e by omega, show (2 * b + o) % 2 = o by omega]
      have b3 := dg_b3 (g (a * 6 + b)) e o he ho
      have d16 : dg (g (a * 6 + b)) e o < 16 := Nat.mod_lt _ (by decide)
      have le1 : lee g (2 * a + e) (2 * b + o) ↔ (dg (g (a * 6 + b)) e o).testBit 2 = false := by
        unfold lee
        rw [dmd 2]
        simp
      have le2 : lee g (2 * b + o) (2 * a + e) ↔ (dg (g (a * 6 + b)) e o).testBit 0 = false := by
        constructor
        · intro q
          cases h0 : (dg (g (a * 6 + b)) e o).testBit 0
          · rfl
          · exact absurd (dm_sw hS hx hy (by omega) ((dmd 0).mpr h0)) q
        · intro q z
          have := dm_sw hS hy hx (by omega) z
          rw [show 2 - 2 = 0 by omega, dmd 0, q] at this
          cases this
      have hne : dg (g (a * 6 + b)) e o ≠ 0 := by
        intro q
        obtain ⟨r, hr, h1⟩ := tb_ex (hB (a * 6 + b) (by omega)) (hN a b ha hb (by omega) (Nat.zero_testBit _))
        obtain ⟨i, hi, h2⟩ := sd_pw r hr e he o ho
        have := (dg_in he ho hi).mpr ⟨r, hr, h1, h2⟩
        rw [q, Nat.zero_testBit] at this
        cases this
      unfold plq
      rw [hsd]
      rcases Nat.lt_trichotomy (key g (2 * a + e)) (key g (2 * b + o)) with q | q | q
      · have e1 : sgN (key g (2 * a + e)) (key g (2 * b + o)) = 1 := by unfold sgN; rw [if_pos q]
        have t0 : (dg (g (a * 6 + b)) e o).testBit 0 = true := by
          cases h0 : (dg (g (a * 6 + b)) e o).testBit 0
          · have l2 := le2.mpr h0
            by_cases l1 : lee g (2 * a + e) (2 * b + o)
            · have := key_same hB hS hC hN hx hy l1 l2; omega
            · have := key_lt hB hS hC hN hy hx l2 l1; omega
          · rfl
        rw [e1]
        generalize dg (g (a * 6 + b)) e o = d at d16 t0
        revert t0
        revert d
        decide
      · have e1 : sgN (key g (2 * a + e)) (key g (2 * b + o)) = 2 := by unfold sgN; rw [if_neg (by omega), if_pos q]
        obtain ⟨l1, l2⟩ := key_eq hB hS hC hN hx hy q
        have := dg_lt8 _ d16 b3 (le2.mp l2) (le1.mp l1) hne
        rw [e1, this]
        rfl
      · have e1 : sgN (key g (2 * a + e)) (key g (2 * b + o)) = 4 := by unfold sgN; rw [if_neg (by omega), if_neg (by omega)]
        have t0 : (dg (g (a * 6 + b)) e o).testBit 2 = true := by
          cases h0 : (dg (g (a * 6 + b)) e o).testBit 2
          · have l1 := le1.mpr h0
            by_cases l2 : lee g (2 * b + o) (2 * a + e)
            · have := key_same hB hS hC hN hx hy l1 l2; omega
            · have := key_lt hB hS hC hN hx hy l1 l2; omega
          · rfl
        rw [e1]
        generalize dg (g (a * 6 + b)) e o = d at d16 t0
        revert t0
        revert d
        decide
    intro a b ha hb hab
    rcases Nat.lt_or_ge a b with q | q
    · exact main a b q hb
    · have h1 := main b a (by omega) ha
      rw [hS b a hb ha (Ne.symm hab)]
      have h2 : rP (fun a e => key g (2 * a + e)) a b = 12 - rP (fun a e => key g (2 * a + e)) b a := by
        unfold rP
        exact rN_turn (hstr b hb) (hstr a ha)
      have h3 : rP (fun a e => key g (2 * a + e)) b a < 13 := rN_lt _ _ _ _
      rw [h2, tn_tb _ (by omega), show 12 - (12 - rP (fun a e => key g (2 * a + e)) b a) = rP (fun a e => key g (2 * a + e)) b a by omega]
      exact h1
