/-! WHAT A WAY FINDS: mathematics -/
theorem all_tb : ∀ i, i < 15 → (32767 : Nat).testBit i = true := by decide
theorem IV_all (g : Nat → Nat) : IV g 32767 := fun x y z hd h => absurd h (by rw [all_tb _ (pr_lt hd.1 hd.2.1 hd.2.2.2.1)]; decide)
theorem NE_all (g : Nat → Nat) : NE g 32767 := fun x y hx hy hxy h => absurd h (by rw [all_tb _ (pr_lt hx hy hxy)]; decide)
theorem NE_0 {g : Nat → Nat} (h : NE g 0) {a b : Nat} (ha : a < 6) (hb : b < 6) (hab : a ≠ b) : g (a * 6 + b) ≠ 0 := h a b ha hb hab (Nat.zero_testBit _)
/-- closed without empty sets -/
def Cn (f g : Nat → Nat) : Prop := Bd g ∧ Sy g ∧ Clo g ∧ NE g 0 ∧ Mx f g
def Cl (f g : Nat → Nat) : Prop := Cn f g ∨ (Fail f ∧ ∀ j, j < 36 → g j = 0)
theorem Fail_no {f g : Nat → Nat} (hF : Fail f) (h : Cn f g) : False := by
  obtain ⟨-, hS, hC, hN, hM⟩ := h
  obtain ⟨a, b, ha, hb, hab, h0⟩ := hF g hS hC hM.1
  exact NE_0 hN ha hb hab h0
theorem Cl_u {f g g2 : Nat → Nat} (h : Cl f g) (h2 : Cl f g2) {a b : Nat} (ha : a < 6) (hb : b < 6) (hab : a ≠ b) : g (a * 6 + b) = g2 (a * 6 + b) := by
  rcases h with h | ⟨f1, z1⟩ <;> rcases h2 with h2 | ⟨f2, z2⟩
  · obtain ⟨-, s1, c1, n1, m1⟩ := h
    obtain ⟨-, s2, c2, n2, m2⟩ := h2
    exact sb_as (m2.2.1 g s1 c1 m1.1 a b ha hb hab) (m1.2.1 g2 s2 c2 m2.1 a b ha hb hab)
  · exact (Fail_no f2 h).elim
  · exact (Fail_no f1 h2).elim
  · rw [z1 _ (by omega), z2 _ (by omega)]
theorem Cn_sat {f g : Nat → Nat} (h : Cn f g) : Sat f ↔ Sat g := Sat_mx h.2.2.2.2
theorem Hol_fix {g : Nat → Nat} (hS : Sy g) {a b r : Nat} (ha : a < 6) (hb : b < 6) (hab : a ≠ b) (hr : r < 13) (hbit : (g (a * 6 + b)).testBit r = true) {P : Nat → Nat → Nat} (hP : Str P) : Hol P (nw g a b (2 ^ r)) ↔ Hol P g ∧ rP P a b = r := by
  constructor
  · intro h2
    have hv : sb (2 ^ r) (g (a * 6 + b)) := sb_tb.mpr (fun i hi => by
      rw [Nat.testBit_two_pow] at hi
      have hi : r = i := by simpa using hi
      rw [← hi]; exact hbit)
    refine ⟨Hol_Le.mpr (Le_tr (Hol_Le.mp h2) (nw_Le hS ha hb hab hv)), ?_⟩
    have := h2 a b ha hb hab
    rw [nw_ab g _ ha hb hab, Nat.testBit_two_pow] at this
    exact (by simpa using this : r = rP P a b).symm
  · rintro ⟨h2, e⟩
    intro x y hx hy hxy
    by_cases q1 : x = a ∧ y = b
    · obtain ⟨rfl, rfl⟩ := q1
      rw [nw_ab g _ ha hb hab, e]; exact Nat.testBit_two_pow_self
    · by_cases q2 : x = b ∧ y = a
      · obtain ⟨rfl, rfl⟩ := q2
        rw [nw_ba, tn_pow _ hr]
        have : rP P x y = 12 - rP P y x := rN_turn (hP y hy) (hP x hx)
        rw [this, e]; exact Nat.testBit_two_pow_self
      · rw [nw_ne g _ ha hb hx hy q1 q2]; exact h2 x y hx hy hxy
/-- a relation that can be -/
def Rl (f : Nat → Nat) (a b r : Nat) : Prop := ∃ P, Str P ∧ Hol P f ∧ rP P a b = r
theorem Rl_fix {g : Nat → Nat} (hS : Sy g) {a b r : Nat} (ha : a < 6) (hb : b < 6) (hab : a ≠ b) (hr : r < 13) (hbit : (g (a * 6 + b)).testBit r = true) : Sat (nw g a b (2 ^ r)) ↔ Rl g a b r :=
  ⟨fun ⟨P, h1, h2⟩ => ⟨P, h1, (Hol_fix hS ha hb hab hr hbit h1).mp h2⟩, fun ⟨P, h1, h2⟩ => ⟨P, h1, (Hol_fix hS ha hb hab hr hbit h1).mpr h2⟩⟩
theorem Rl_mx {f g : Nat → Nat} (h : Mx f g) (a b r : Nat) : Rl f a b r ↔ Rl g a b r :=
  ⟨fun ⟨P, h1, h2, h3⟩ => ⟨P, h1, (Hol_mx h1 h).mp h2, h3⟩, fun ⟨P, h1, h2, h3⟩ => ⟨P, h1, (Hol_mx h1 h).mpr h2, h3⟩⟩
theorem Rl_bit {g : Nat → Nat} {a b r : Nat} (ha : a < 6) (hb : b < 6) (hab : a ≠ b) (h : Rl g a b r) : (g (a * 6 + b)).testBit r = true := by
  obtain ⟨P, h1, h2, rfl⟩ := h
  exact h2 a b ha hb hab
theorem Rl_sat {g : Nat → Nat} {a b r : Nat} (h : Rl g a b r) : Sat g := by
  obtain ⟨P, h1, h2, -⟩ := h
  exact ⟨P, h1, h2⟩
theorem rP_turn {P : Nat → Nat → Nat} (hP : Str P) {a b : Nat} (ha : a < 6) (hb : b < 6) : rP P b a = 12 - rP P a b := rN_turn (hP a ha) (hP b hb)
theorem Rl_turn {f : Nat → Nat} {a b r : Nat} (ha : a < 6) (hb : b < 6) (hr : r < 13) : Rl f b a r ↔ Rl f a b (12 - r) := by
  constructor
  · rintro ⟨P, h1, h2, e⟩
    exact ⟨P, h1, h2, by rw [rP_turn h1 hb ha, e]⟩
  · rintro ⟨P, h1, h2, e⟩
    exact ⟨P, h1, h2, by rw [rP_turn h1 ha hb, e]; omega⟩
def CanV (f : Nat → Nat) (a b v : Nat) : Prop := v < 8192 ∧ ∀ r, r < 13 → (v.testBit r = true ↔ Rl f a b r)
theorem CanV_u {f : Nat → Nat} {a b v v2 : Nat} (h : CanV f a b v) (h2 : CanV f a b v2) : v = v2 :=
  tb_ext h.1 h2.1 (fun i hi => (h.2 i hi).trans (h2.2 i hi).symm)
theorem CanV_turn {f : Nat → Nat} {a b v : Nat} (ha : a < 6) (hb : b < 6) (h : CanV f a b v) : CanV f b a (tn v) :=
  ⟨tn_lt v, fun r hr => by rw [tn_tb v hr, h.2 (12 - r) (by omega), Rl_turn ha hb hr]⟩
theorem CanV_no {f : Nat → Nat} {a b : Nat} (h : ¬ Sat f) : CanV f a b 0 :=
  ⟨by decide, fun r hr => ⟨fun q => by simp at q, fun q => (h (Rl_sat q)).elim⟩⟩
theorem CanV_ne {f : Nat → Nat} {a b v : Nat} (h : Sat f) (hv : CanV f a b v) : v ≠ 0 := by
  rintro rfl
  obtain ⟨P, h1, h2⟩ := h
  have := (hv.2 (rP P a b) (rN_lt _ _ _ _)).mpr ⟨P, h1, h2, rfl⟩
  simp at this
theorem CanV_mx {f g : Nat → Nat} (h : Mx f g) {a b v : Nat} (hv : CanV g a b v) : CanV f a b v := ⟨hv.1, fun r hr => (hv.2 r hr).trans (Rl_mx h a b r).symm⟩
/-! the first drawing -/
def rl (P : Nat → Nat → Nat) (q : Nat) : Nat := rP P (fsT q) (scT q)
theorem rl_lt (P : Nat → Nat → Nat) (q : Nat) : rl P q < 13 := rN_lt _ _ _ _
def Lst (f : Nat → Nat) (p : Nat) (s : Nat → Nat) : Prop := ∀ P, Str P → Hol P f → (∀ q, q < p → rl P q = s q) ∨ ∃ q, q < p ∧ (∀ u, u < q → rl P u = s u) ∧ s q < rl P q
def Fs (f : Nat → Nat) (s : Nat → Nat) : Prop := (∃ P, Str P ∧ Hol P f ∧ ∀ q, q < 15 → rl P q = s q) ∧ Lst f 15 s
theorem Fs_u {f s s2 : Nat → Nat} (h : Fs f s) (h2 : Fs f s2) : ∀ q, q < 15 → s q = s2 q := by
  obtain ⟨⟨P, p1, p2, p3⟩, hl⟩ := h
  obtain ⟨⟨Q, q1, q2, q3⟩, hl2⟩ := h2
  rcases hl Q q1 q2 with a | ⟨k, hk, a1, a2⟩
  · intro q hq; rw [← a q hq, q3 q hq]
  · rw [q3 k hk] at a2
    rcases hl2 P p1 p2 with b | ⟨k2, hk2, b1, b2⟩
    · intro q hq; rw [← p3 q hq, b q hq]
    · rw [p3 k2 hk2] at b2
      exfalso
      rcases Nat.lt_trichotomy k k2 with c | c | c
      · have := b1 k c; rw [p3 k hk] at this; omega
      · subst c; omega
      · have := a1 k2 c; rw [q3 k2 hk2] at this; omega
def FI (f : Nat → Nat) (p : Nat) (s g : Nat → Nat) : Prop := (Bd g ∧ Sy g ∧ Clo g ∧ NE g 0) ∧ (∀ a, a < 6 → g (a * 6 + a) = 64) ∧ (∀ P, Str P → (Hol P g ↔ Hol P f ∧ ∀ q, q < p → rl P q = s q)) ∧ (∀ q, q < p → s q < 13 ∧ pf g q = 2 ^ s q) ∧ Lst f p s ∧ Sat g
theorem FI_0 {f g : Nat → Nat} (h : Cn f g) (hd : ∀ a, a < 6 → f (a * 6 + a) = 64) (hs : Sat f) : FI f 0 (fun _ => 0) g := by
  obtain ⟨h1, h2, h3, h4, h5⟩ := h
  refine ⟨⟨h1, h2, h3, h4⟩, fun a ha => (h5.2.2 a ha).trans (hd a ha), fun P hP => ?_, fun q hq => by omega, fun P _ _ => Or.inl (fun q hq => by omega), (Sat_mx h5).mp hs⟩
  rw [← Hol_mx hP h5]
  exact ⟨fun q => ⟨q, fun q hq => by omega⟩, fun q => q.1⟩
def ups (s : Nat → Nat) (p r : Nat) : Nat → Nat := fun q => if q = p then r else s q
theorem ups_p {s : Nat → Nat} {p r : Nat} : ups s p r p = r := if_pos rfl
theorem ups_ne {s : Nat → Nat} {p r q : Nat} (h : ¬ q = p) : ups s p r q = s q := if_neg h
theorem FI_step {f s g g2 : Nat → Nat} {p r : Nat} (h : FI f p s g) (hp : p < 15) (hr : r < 13) (hbit : (pf g p).testBit r = true) (hlow : ∀ t, t < r → (pf g p).testBit t = true → ¬ Sat (nw g (fsT p) (scT p) (2 ^ t))) (hsat : Sat (nw g (fsT p) (scT p) (2 ^ r))) (h2 : Cn (nw g (fsT p) (scT p) (2 ^ r)) g2) :
    FI f (p + 1) (ups s p r) g2 := by
  obtain ⟨⟨hB, hS, hC, hN⟩, hd, hH, hs, hL, hSat⟩ := h
  obtain ⟨f1, f2, f3, f4⟩ := fs_ok p hp
  obtain ⟨hB2, hS2, hC2, hN2, hM2⟩ := h2
  have hv : sb (2 ^ r) (g (fsT p * 6 + scT p)) := sb_tb.mpr (fun i hi => by
    rw [Nat.testBit_two_pow] at hi
    have hi : r = i := by simpa using hi
    rw [← hi]; exact hbit)
  refine ⟨⟨hB2, hS2, hC2, hN2⟩, fun a ha => ?_, fun P hP => ?_, fun q hq => ?_, fun P hP hf => ?_, (Sat_mx hM2).mp hsat⟩
  · rw [hM2.2.2 a ha, nw_Dg f1 f2 f3 a ha, hd a ha]
  · rw [← Hol_mx hP hM2, Hol_fix hS f1 f2 f3 hr hbit hP, hH P hP]
    constructor
    · rintro ⟨⟨a1, a2⟩, a3⟩
      refine ⟨a1, fun q hq => ?_⟩
      by_cases e : q = p
      · subst e; rw [ups_p]; exact a3
      · rw [ups_ne e]; exact a2 q (by omega)
    · rintro ⟨a1, a2⟩
      refine ⟨⟨a1, fun q hq => ?_⟩, ?_⟩
      · have := a2 q (by omega)
        rw [ups_ne (by omega)] at this; exact this
      · have := a2 p (by omega)
        rw [ups_p] at this; exact this
  · obtain ⟨g1, g4, g3, -⟩ := fs_ok q (by omega)
    by_cases e : q = p
    · subst e
      rw [ups_p]
      refine ⟨hr, sb_pow ?_ (NE_0 hN2 f1 f2 f3)⟩
      have := hM2.1 _ _ f1 f2 f3
      rw [nw_ab g _ f1 f2 f3] at this
      exact this
    · rw [ups_ne e]
      refine ⟨(hs q (by omega)).1, sb_pow ?_ (NE_0 hN2 g1 g4 g3)⟩
      have := Le_tr hM2.1 (nw_Le hS f1 f2 f3 hv) _ _ g1 g4 g3
      rw [← (hs q (by omega)).2]
      exact this
  · rcases hL P hP hf with a | ⟨q, hq, a1, a2⟩
    · have hg := (hH P hP).mpr ⟨hf, a⟩
      have hb2 : (pf g p).testBit (rl P p) = true := hg _ _ f1 f2 f3
      have hS2 : Sat (nw g (fsT p) (scT p) (2 ^ rl P p)) := ⟨P, hP, (Hol_fix hS f1 f2 f3 (rl_lt P p) hb2 hP).mpr ⟨hg, rfl⟩⟩
      have hnl : ¬ rl P p < r := fun q => hlow _ q hb2 hS2
      by_cases e : rl P p = r
      · left
        intro q hq
        by_cases e2 : q = p
        · subst e2; rw [ups_p]; exact e
        · rw [ups_ne e2]; exact a q (by omega)
      · right
        refine ⟨p, by omega, fun u hu => ?_, by rw [ups_p]; omega⟩
        rw [ups_ne (by omega)]; exact a u hu
    · right
      refine ⟨q, by omega, fun u hu => ?_, ?_⟩
      · rw [ups_ne (by omega)]; exact a1 u hu
      · rw [ups_ne (by omega)]; exact a2
theorem FI_end {f s g : Nat → Nat} (h : FI f 15 s g) : Fs f s := by
  obtain ⟨-, -, hH, -, hL, P, h1, h2⟩ := h
  exact ⟨⟨P, h1, (hH P h1).mp h2⟩, hL⟩
/-- the relation of a to b in a drawing told by pairs -/
def rel (s : Nat → Nat) (a b : Nat) : Nat := if a = b then 6 else if a < b then s (pr a b) else 12 - s (pr a b)
theorem rel_lt {s : Nat → Nat} (hs : ∀ p, p < 15 → s p < 13) {a b : Nat} (ha : a < 6) (hb : b < 6) : rel s a b < 13 := by
  unfold rel
  split
  · decide
  · rename_i h
    have := hs _ (pr_lt ha hb h)
    split <;> omega
theorem rel_cg {s s2 : Nat → Nat} (hs : ∀ p, p < 15 → s p = s2 p) {a b : Nat} (ha : a < 6) (hb : b < 6) : rel s a b = rel s2 a b := by
  unfold rel
  split
  · rfl
  · rename_i h
    rw [hs _ (pr_lt ha hb h)]
theorem gRel {s g : Nat → Nat} (hS : Sy g) (h : ∀ q, q < 15 → s q < 13 ∧ pf g q = 2 ^ s q) {a b : Nat} (ha : a < 6) (hb : b < 6) (hab : a ≠ b) : g (a * 6 + b) = 2 ^ rel s a b := by
  unfold rel
  rw [if_neg hab]
  by_cases c : a < b
  · rw [if_pos c]
    have := (h _ (pr_lt ha hb hab)).2
    unfold pf at this
    rw [(pr_fs a b c hb).1, (pr_fs a b c hb).2] at this
    exact this
  · rw [if_neg c]
    have hba : b < a := by omega
    have q := h _ (pr_lt hb ha (Ne.symm hab))
    have e := q.2
    unfold pf at e
    rw [(pr_fs b a hba ha).1, (pr_fs b a hba ha).2] at e
    rw [hS b a hb ha (Ne.symm hab), e, tn_pow _ q.1, pr_c ha hb hab]
theorem ls_pow : ∀ r, r < 13 → ls13 (2 ^ r) = r := by decide
/-! the nets that are told -/
theorem opn_Sy : Sy opn := by
  intro a b ha hb hab
  unfold opn
  rw [if_neg (by omega), if_neg (by omega)]
  decide
theorem opn_dg (a : Nat) (ha : a < 6) : opn (a * 6 + a) = 64 := by
  unfold opn; rw [if_pos (by omega)]
def Okn (n : Nat) (A B s : Nat → Nat) : Prop := ∀ i, i < n → A i < 6 ∧ B i < 6 ∧ A i ≠ B i ∧ s i < 8192
theorem wnF_ok {A B s : Nat → Nat} {c n : Nat} (h : Okn n A B s) : ∀ i, i ≤ n → Bd (wnF A B s c i) ∧ Sy (wnF A B s c i) ∧ ∀ a, a < 6 → wnF A B s c i (a * 6 + a) = 64
  | 0, _ => ⟨opn_Bd, opn_Sy, opn_dg⟩
  | i + 1, hi => by
    obtain ⟨h1, h2, h3⟩ := wnF_ok (c := c) h i (by omega)
    obtain ⟨a1, a2, a3, a4⟩ := h i (by omega)
    unfold wnF
    split
    · have hlt : wnF A B s c i (A i * 6 + B i) &&& s i < 8192 := Nat.lt_of_le_of_lt Nat.and_le_right a4
      exact ⟨nw_Bd h1 hlt, nw_Sy h2 a1 a2 a3 hlt, fun a ha => (nw_Dg a1 a2 a3 a ha).trans (h3 a ha)⟩
    · exact ⟨h1, h2, h3⟩
theorem tbf_tb (t : Nat → Int32) : ∀ n i, (tbf t n).testBit i = (decide (i < n) && decide (t i ≠ 0))
  | 0, i => by simp [tbf]
  | n + 1, i => by
    have h := tbf_tb t n i
    unfold tbf
    by_cases e : i = n
    · subst e
      have h0 : (tbf t i).testBit i = false := Nat.testBit_lt_two_pow (tbf_lt t i)
      split
      · rename_i q; simp [h0, q]
      · rename_i q; simp [Nat.testBit_or, h0, q]
    · have e2 : decide (i < n + 1) = decide (i < n) := by simp; omega
      rw [e2]
      split
      · exact h
      · rw [Nat.testBit_or, h, Nat.testBit_two_pow]; simp; omega
/-- the core: of the kept, those below j are looked at, the last first -/
noncomputable def ckF (A B s : Nat → Nat) (n : Nat) : Nat → Nat → Nat
  | kept, 0 => kept
  | kept, j + 1 => ckF A B s n (@ite Nat (kept.testBit j = true ∧ ¬ Sat (wnF A B s (clr kept j) n)) (Classical.propDecidable _) (clr kept j) kept) j
