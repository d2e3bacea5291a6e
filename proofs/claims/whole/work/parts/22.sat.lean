/-! WHAT CAN BE: stretches, their relations, nets that hold of stretches -/
def sgN (x y : Nat) : Nat := if x < y then 1 else if x = y then 2 else 4
/-- the sign of an end of p to an end of q in a relation -/
def sd (r e o : Nat) : Nat := sgT r / 2 ^ ((3 - (2 * e + o)) * 4) % 16
/-- signs of e to f, of f to g, of e to g that go together -/
def okS (x y z : Nat) : Prop := (x = 2 → z = y) ∧ (y = 2 → z = x) ∧ (x = y → z = x)
theorem okS_of (x y z : Nat) : okS (sgN x y) (sgN y z) (sgN x z) := by
  unfold okS sgN
  refine ⟨?_, ?_, ?_⟩ <;> (repeat' split) <;> omega
def rN (a z b y : Nat) : Nat := bwf ((sgN a b * 4096 ||| sgN a y * 256) ||| sgN z b * 16 ||| sgN z y) 13
theorem rN_ok {a z b y : Nat} (h1 : a < z) (h2 : b < y) : sgT (rN a z b y) = ((sgN a b * 4096 ||| sgN a y * 256) ||| sgN z b * 16 ||| sgN z y) := by
  have h : ∀ (p q r s : Nat), (p = 1 ∨ p = 2 ∨ p = 4) → (q = 1 ∨ q = 2 ∨ q = 4) → (r = 1 ∨ r = 2 ∨ r = 4) → (s = 1 ∨ s = 2 ∨ s = 4) → ((p = 1 ∨ p = 2) → q = 1) → ((s = 2 ∨ s = 4) → r = 4) → (q = 2 → p = 4 ∧ r = 4 ∧ s = 4) → (q = 4 → p = 4 ∧ r = 4 ∧ s = 4) → (r = 2 → p = 1 ∧ q = 1 ∧ s = 1) → (r = 1 → p = 1 ∧ q = 1 ∧ s = 1) → sgT (bwf ((p * 4096 ||| q * 256) ||| r * 16 ||| s) 13) = ((p * 4096 ||| q * 256) ||| r * 16 ||| s) := by
    rintro p q r s (rfl | rfl | rfl) (rfl | rfl | rfl) (rfl | rfl | rfl) (rfl | rfl | rfl) c1 c2 c3 c4 c5 c6 <;> first | (exact absurd (c1 (by decide)) (by decide)) | (exact absurd (c2 (by decide)) (by decide)) | (exact absurd (c3 rfl) (by decide)) | (exact absurd (c4 rfl) (by decide)) | (exact absurd (c5 rfl) (by decide)) | (exact absurd (c6 rfl) (by decide)) | decide
  have v : ∀ x y, sgN x y = 1 ∨ sgN x y = 2 ∨ sgN x y = 4 := fun x y => by unfold sgN; split <;> (try split) <;> simp
  unfold rN
  refine h _ _ _ _ (v _ _) (v _ _) (v _ _) (v _ _) ?_ ?_ ?_ ?_ ?_ ?_ <;> (unfold sgN; (repeat' split) <;> omega)
theorem rN_lt (a z b y : Nat) : rN a z b y < 13 := bwf_lt _ 13 (by omega)
theorem sg_dig : ∀ p, p < 5 → ∀ q, q < 5 → ∀ r, r < 5 → ∀ s, s < 5 → ((p * 4096 ||| q * 256) ||| r * 16 ||| s) / 4096 % 16 = p ∧ ((p * 4096 ||| q * 256) ||| r * 16 ||| s) / 256 % 16 = q ∧ ((p * 4096 ||| q * 256) ||| r * 16 ||| s) / 16 % 16 = r ∧ ((p * 4096 ||| q * 256) ||| r * 16 ||| s) % 16 = s := by decide
theorem sgN_lt (x y : Nat) : sgN x y < 5 := by unfold sgN; split <;> (try split) <;> omega
/-- the ends: 0 its first, else its last -/
def en (a z e : Nat) : Nat := if e = 0 then a else z
theorem sd_rN {a z b y : Nat} (h1 : a < z) (h2 : b < y) {e o : Nat} (he : e < 2) (ho : o < 2) : sd (rN a z b y) e o = sgN (en a z e) (en b y o) := by
  obtain ⟨d1, d2, d3, d4⟩ := sg_dig _ (sgN_lt a b) _ (sgN_lt a y) _ (sgN_lt z b) _ (sgN_lt z y)
  unfold sd
  rw [rN_ok h1 h2]
  rcases (show e = 0 ∨ e = 1 by omega) with rfl | rfl <;> rcases (show o = 0 ∨ o = 1 by omega) with rfl | rfl
  · exact d1
  · exact d2
  · exact d3
  · show _ / 1 % 16 = _
    rw [Nat.div_one]
    exact d4
/-- composing, by signs -/
def cons3 (r s t : Nat) : Bool := (List.range 2).all fun e => (List.range 2).all fun f => (List.range 2).all fun g => decide ((sd r e f = 2 → sd t e g = sd s f g) ∧ (sd s f g = 2 → sd t e g = sd r e f) ∧ (sd r e f = sd s f g → sd t e g = sd r e f))
theorem cm_cons : ∀ r, r < 13 → ∀ s, s < 13 → ∀ t, t < 13 → (cmT (r * 13 + s)).testBit t = cons3 r s t := by decide +kernel
theorem cons3_ok {r s t : Nat} : cons3 r s t = true ↔ ∀ e f g, e < 2 → f < 2 → g < 2 → okS (sd r e f) (sd s f g) (sd t e g) := by
  unfold cons3 okS
  simp only [List.all_eq_true, List.mem_range, decide_eq_true_eq]
  exact ⟨fun h e f g he hf hg => h e he f hf g hg, fun h e he f hf g hg => h e f g he hf hg⟩
theorem sd_turn : ∀ r, r < 13 → ∀ e, e < 2 → ∀ o, o < 2 → sd (12 - r) o e = (if sd r e o = 1 then 4 else if sd r e o = 2 then 2 else 1) := by decide
theorem sd_inj : ∀ r, r < 13 → ∀ t, t < 13 → (sd r 0 0 = sd t 0 0 ∧ sd r 0 1 = sd t 0 1 ∧ sd r 1 0 = sd t 1 0 ∧ sd r 1 1 = sd t 1 1) → r = t := by decide
theorem rN_turn {a z b y : Nat} (h1 : a < z) (h2 : b < y) : rN b y a z = 12 - rN a z b y := by
  have hs : ∀ u v, (if sgN u v = 1 then 4 else if sgN u v = 2 then 2 else 1) = sgN v u := by
    intro u v
    unfold sgN
    (repeat' split) <;> omega
  have key : ∀ e o, e < 2 → o < 2 → sd (rN b y a z) e o = sd (12 - rN a z b y) e o := by
    intro e o he ho
    rw [sd_turn _ (rN_lt a z b y) o ho e he, sd_rN h1 h2 ho he, hs, sd_rN h2 h1 he ho]
  exact sd_inj _ (rN_lt _ _ _ _) _ (by omega) ⟨key 0 0 (by omega) (by omega), key 0 1 (by omega) (by omega), key 1 0 (by omega) (by omega), key 1 1 (by omega) (by omega)⟩
theorem rN_comp {a z b y c x : Nat} (h1 : a < z) (h2 : b < y) (h3 : c < x) : (cmT (rN a z b y * 13 + rN b y c x)).testBit (rN a z c x) = true := by
  rw [cm_cons _ (rN_lt _ _ _ _) _ (rN_lt _ _ _ _) _ (rN_lt _ _ _ _), cons3_ok]
  intro e f g he hf hg
  rw [sd_rN h1 h2 he hf, sd_rN h2 h3 hf hg, sd_rN h1 h3 he hg]
  exact okS_of _ _ _
def rP (P : Nat → Nat → Nat) (a b : Nat) : Nat := rN (P a 0) (P a 1) (P b 0) (P b 1)
def Str (P : Nat → Nat → Nat) : Prop := ∀ a, a < 6 → P a 0 < P a 1
def Hol (P : Nat → Nat → Nat) (g : Nat → Nat) : Prop := ∀ a b, a < 6 → b < 6 → a ≠ b → (g (a * 6 + b)).testBit (rP P a b) = true
def Sat (g : Nat → Nat) : Prop := ∃ P, Str P ∧ Hol P g
def hP (P : Nat → Nat → Nat) (j : Nat) : Nat := 2 ^ rP P (j / 6) (j % 6)
theorem hP_at (P : Nat → Nat → Nat) {a b : Nat} (hb : b < 6) : hP P (a * 6 + b) = 2 ^ rP P a b := by
  unfold hP
  rw [show (a * 6 + b) / 6 = a by omega, show (a * 6 + b) % 6 = b by omega]
theorem tn_pow : ∀ r, r < 13 → tn (2 ^ r) = 2 ^ (12 - r) := by decide
theorem hP_Sy {P : Nat → Nat → Nat} (h : Str P) : Sy (hP P) := by
  intro a b ha hb hab
  rw [hP_at P ha, hP_at P hb, tn_pow _ (show rP P a b < 13 from rN_lt _ _ _ _)]
  unfold rP
  rw [rN_turn (h a ha) (h b hb)]
theorem hP_Clo {P : Nat → Nat → Nat} (h : Str P) : Clo (hP P) := by
  intro x y z hd
  obtain ⟨hx, hy, hz, hxy, hyz, hxz⟩ := hd
  unfold Tri
  rw [hP_at P hz, hP_at P hy, hP_at P hz]
  refine sb_tb.mpr (fun i hi => ?_)
  rw [Nat.testBit_two_pow] at hi
  have hi : rP P x z = i := by simpa using hi
  subst hi
  exact cm_tb.mpr ⟨rP P x y, rP P y z, rN_lt _ _ _ _, rN_lt _ _ _ _, Nat.testBit_two_pow_self, Nat.testBit_two_pow_self, rN_comp (h x hx) (h y hy) (h z hz)⟩
theorem Hol_Le {P : Nat → Nat → Nat} {g : Nat → Nat} : Hol P g ↔ Le (hP P) g := by
  constructor
  · intro h a b ha hb hab
    rw [hP_at P hb]
    refine sb_tb.mpr (fun i hi => ?_)
    rw [Nat.testBit_two_pow] at hi
    have hi : rP P a b = i := by simpa using hi
    subst hi
    exact h a b ha hb hab
  · intro h a b ha hb hab
    have := h a b ha hb hab
    rw [hP_at P hb] at this
    exact sb_tb.mp this _ Nat.testBit_two_pow_self
theorem Hol_mx {P : Nat → Nat → Nat} {f g : Nat → Nat} (hP : Str P) (h : Mx f g) : Hol P f ↔ Hol P g := by
  rw [Hol_Le, Hol_Le]
  exact ⟨fun q => h.2.1 _ (hP_Sy hP) (hP_Clo hP) q, fun q => Le_tr q h.1⟩
theorem Sat_mx {f g : Nat → Nat} (h : Mx f g) : Sat f ↔ Sat g :=
  ⟨fun ⟨P, h1, h2⟩ => ⟨P, h1, (Hol_mx h1 h).mp h2⟩, fun ⟨P, h1, h2⟩ => ⟨P, h1, (Hol_mx h1 h).mpr h2⟩⟩
theorem Sat_fail {f : Nat → Nat} (h : Fail f) : ¬ Sat f := by
  rintro ⟨P, h1, h2⟩
  obtain ⟨a, b, ha, hb, hab, h0⟩ := h _ (hP_Sy h1) (hP_Clo h1) (Hol_Le.mp h2)
  rw [hP_at P hb] at h0
  exact absurd h0 (Nat.ne_of_gt (Nat.two_pow_pos _))
