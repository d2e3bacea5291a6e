/-! CLOSING: one narrowing, one pair -/
def Dg (f g : Nat → Nat) : Prop := ∀ a, a < 6 → g (a * 6 + a) = f (a * 6 + a)
theorem nw_Dg {g : Nat → Nat} {a b v : Nat} (ha : a < 6) (hb : b < 6) (hab : a ≠ b) : Dg g (nw g a b v) := fun x hx => nw_ne g v ha hb hx hx (by omega) (by omega)
def Mx (f g : Nat → Nat) : Prop := Le g f ∧ (∀ h, Sy h → Clo h → Le h f → Le h g) ∧ Dg f g
def Fail (f : Nat → Nat) : Prop := ∀ h, Sy h → Clo h → Le h f → ∃ a b, a < 6 ∧ b < 6 ∧ a ≠ b ∧ h (a * 6 + b) = 0
/-- a narrowing's outcome -/
def NR (g : Nat → Nat) (a m b r : Nat) (g' : Nat → Nat) : Prop := (lft g a m b = 0 ∧ g' = g ∧ r = 2 ^ 15) ∨ (lft g a m b ≠ 0 ∧ lft g a m b = g (a * 6 + b) ∧ g' = g ∧ r = 0) ∨ (lft g a m b ≠ 0 ∧ lft g a m b ≠ g (a * 6 + b) ∧ g' = nw g a b (lft g a m b) ∧ r = 2 ^ pr a b)
theorem Le_tr {f g h : Nat → Nat} (h1 : Le f g) (h2 : Le g h) : Le f h := fun a b ha hb hab => sb_tr (h1 a b ha hb hab) (h2 a b ha hb hab)
theorem lft_sb (g : Nat → Nat) (a m b : Nat) : sb (lft g a m b) (g (a * 6 + b)) := sb_andR _ _
theorem NR_B {f g g' : Nat → Nat} {a m b r : Nat} (hd : Ds a m b) (h : NR g a m b r g') (hB : Bd g) (hS : Sy g) (hM : Mx f g) : Bd g' ∧ Sy g' ∧ Mx f g' := by
  have hd' := hd
  obtain ⟨ha, hm, hb, ham, hmb, hab⟩ := hd'
  rcases h with ⟨-, rfl, -⟩ | ⟨-, -, rfl, -⟩ | ⟨h0, h1, rfl, -⟩
  · exact ⟨hB, hS, hM⟩
  · exact ⟨hB, hS, hM⟩
  · have hl := lft_lt hB ha hm hb
    exact ⟨nw_Bd hB hl, nw_Sy hS ha hb hab hl, Le_tr (nw_Le hS ha hb hab (lft_sb g a m b)) hM.1, fun h g1 g2 g3 => nw_max hS g1 g2 (hM.2.1 h g1 g2 g3) hd, fun x hx => (nw_Dg ha hb hab x hx).trans (hM.2.2 x hx)⟩
theorem NR_F {f g g' : Nat → Nat} {a m b r : Nat} (hd : Ds a m b) (h : NR g a m b r g') (hM : Mx f g) (hr : r.testBit 15 = true) : Fail f := by
  have hd' := hd
  obtain ⟨ha, hm, hb, ham, hmb, hab⟩ := hd'
  have hp := pr_lt ha hb hab
  rcases h with ⟨h0, rfl, rfl⟩ | ⟨-, -, rfl, rfl⟩ | ⟨h0, h1, rfl, rfl⟩
  · exact fun h g1 g2 g3 => ⟨a, b, ha, hb, hab, lft_0 g2 (hM.2.1 h g1 g2 g3) hd h0⟩
  · simp at hr
  · rw [Nat.testBit_two_pow] at hr
    simp at hr
    omega
theorem NR_r {g g' : Nat → Nat} {a m b r : Nat} (hd : Ds a m b) (h : NR g a m b r g') : r < 2 ^ 16 ∧ (r.testBit 15 = false → lft g a m b ≠ 0) := by
  obtain ⟨ha, hm, hb, ham, hmb, hab⟩ := hd
  have hp := pr_lt ha hb hab
  rcases h with ⟨h0, rfl, rfl⟩ | ⟨h0, -, rfl, rfl⟩ | ⟨h0, h1, rfl, rfl⟩
  · exact ⟨by decide, fun q => by rw [Nat.testBit_two_pow_self] at q; cases q⟩
  · exact ⟨by decide, fun _ => h0⟩
  · exact ⟨Nat.pow_lt_pow_right (by decide) (by omega), fun _ => h0⟩
theorem NR_T {g g' : Nat → Nat} {a m b r x y z : Nat} (hd : Ds a m b) (h : NR g a m b r g') (hS : Sy g) (hx : Ds x y z) (h1 : r.testBit (pr x y) = false) (h2 : r.testBit (pr y z) = false) (ht : Tri g x y z) : Tri g' x y z := by
  obtain ⟨ha, hm, hb, ham, hmb, hab⟩ := hd
  rcases h with ⟨h0, rfl, rfl⟩ | ⟨h0, -, rfl, rfl⟩ | ⟨h0, -, rfl, rfl⟩
  · exact ht
  · exact ht
  · rw [Nat.testBit_two_pow] at h1 h2
    simp only [decide_eq_false_iff_not] at h1 h2
    exact nw_Tri hS ha hb hab (lft_sb g a m b) hx (fun q => h1 q.symm) (fun q => h2 q.symm) ht
theorem NR_T2 {g g' : Nat → Nat} {a m b r : Nat} (hd : Ds a m b) (h : NR g a m b r g') (hr : r.testBit 15 = false) : Tri g' a m b := by
  rcases h with ⟨h0, rfl, rfl⟩ | ⟨h0, h1, rfl, rfl⟩ | ⟨h0, -, rfl, rfl⟩
  · rw [Nat.testBit_two_pow_self] at hr; cases hr
  · unfold Tri
    rw [← h1]
    exact sb_andL _ _
  · exact nw_Tri2 hd
theorem NR_e {g g' : Nat → Nat} {a m b r x y : Nat} (hd : Ds a m b) (h : NR g a m b r g') (hx : x < 6) (hy : y < 6) (hxy : x ≠ y) (hp : pr x y ≠ pr a b) : g' (x * 6 + y) = g (x * 6 + y) := by
  obtain ⟨ha, hm, hb, ham, hmb, hab⟩ := hd
  rcases h with ⟨h0, rfl, rfl⟩ | ⟨h0, h1, rfl, rfl⟩ | ⟨h0, -, rfl, rfl⟩
  · rfl
  · rfl
  · exact nw_ne g _ ha hb hx hy (fun q => hp (by rw [q.1, q.2])) (fun q => hp (by rw [q.1, q.2, pr_c hb ha (Ne.symm hab)]))
theorem tn_ne0 {v : Nat} (hv : v < 8192) (h : v ≠ 0) : tn v ≠ 0 := fun q => h (by rw [← tn_tn hv, q]; decide)
theorem NR_n {g g' : Nat → Nat} {a m b r x y : Nat} (hd : Ds a m b) (h : NR g a m b r g') (hB : Bd g) (hx : x < 6) (hy : y < 6) (hxy : x ≠ y) (h0 : g (x * 6 + y) ≠ 0) : g' (x * 6 + y) ≠ 0 := by
  have hd' := hd
  obtain ⟨ha, hm, hb, ham, hmb, hab⟩ := hd'
  rcases h with ⟨h0', rfl, rfl⟩ | ⟨-, h1, rfl, rfl⟩ | ⟨hl, -, rfl, rfl⟩
  · exact h0
  · exact h0
  · by_cases q1 : x = a ∧ y = b
    · obtain ⟨rfl, rfl⟩ := q1
      rw [nw_ab g _ ha hb hab]; exact hl
    · by_cases q2 : x = b ∧ y = a
      · obtain ⟨rfl, rfl⟩ := q2
        rw [nw_ba]; exact tn_ne0 (lft_lt hB ha hm hb) hl
      · rw [nw_ne g _ ha hb hx hy q1 q2]; exact h0
theorem NR_t {g g' : Nat → Nat} {a m b r : Nat} (hd : Ds a m b) (h : NR g a m b r g') (hB : Bd g) (hS : Sy g) : (g' = g ∧ (r = 0 ∨ r = 2 ^ 15)) ∨ tot g' + 2 ≤ tot g := by
  obtain ⟨ha, hm, hb, ham, hmb, hab⟩ := hd
  rcases h with ⟨h0, rfl, rfl⟩ | ⟨h0, h1, rfl, rfl⟩ | ⟨h0, h1, rfl, rfl⟩
  · exact Or.inl ⟨rfl, Or.inr rfl⟩
  · exact Or.inl ⟨rfl, Or.inl rfl⟩
  · exact Or.inr (tot_nw hB hS ha hb hab (lft_sb g a m b) h1)
/-- the paths that hold, while the pair a, b is looked at, behind the things below i -/
def IVp (g : Nat → Nat) (w a b i : Nat) : Prop := ∀ x y z, Ds x y z → w.testBit (pr x y) = false → w.testBit (pr y z) = false → (pr x y = pr a b → z < i) → (pr y z = pr a b → x < i) → Tri g x y z
def IV (g : Nat → Nat) (w : Nat) : Prop := ∀ x y z, Ds x y z → w.testBit (pr x y) = false → w.testBit (pr y z) = false → Tri g x y z
def NEp (g : Nat → Nat) (w a b i : Nat) : Prop := (∀ x y, x < 6 → y < 6 → x ≠ y → w.testBit (pr x y) = false → pr x y ≠ pr a b → g (x * 6 + y) ≠ 0) ∧ ∀ t, t < i → t ≠ a → t ≠ b → g (a * 6 + b) ≠ 0
def NE (g : Nat → Nat) (w : Nat) : Prop := ∀ x y, x < 6 → y < 6 → x ≠ y → w.testBit (pr x y) = false → g (x * 6 + y) ≠ 0
theorem or_f {w r i : Nat} (h : (w ||| r).testBit i = false) : w.testBit i = false ∧ r.testBit i = false := by
  rw [Nat.testBit_or, Bool.or_eq_false_iff] at h
  exact h
set_option maxHeartbeats 1000000 in
/-- one thing m beside the pair a, b -/
theorem cl_step {f g g1 g2 : Nat → Nat} {a b m w r1 r2 : Nat} (hd : Ds a b m) (hB : Bd g) (hS : Sy g) (hM : Mx f g) (h1 : NR g a b m r1 g1) (h2 : NR g1 b a m r2 g2) :
    (Bd g2 ∧ Sy g2 ∧ Mx f g2) ∧ r1 ||| r2 < 2 ^ 16 ∧ ((r1 ||| r2).testBit 15 = true → Fail f) ∧ ((g2 = g ∧ ((r1 ||| r2).testBit 15 = false → r1 ||| r2 = 0)) ∨ tot g2 + 2 ≤ tot g) ∧
    ((w ||| (r1 ||| r2)).testBit 15 = false → IVp g w a b m → NEp g w a b m → IVp g2 (w ||| (r1 ||| r2)) a b (m + 1) ∧ NEp g2 (w ||| (r1 ||| r2)) a b (m + 1)) := by
  have hd2 : Ds b a m := by unfold Ds at hd ⊢; omega
  obtain ⟨hB1, hS1, hM1⟩ := NR_B hd h1 hB hS hM
  obtain ⟨hB2, hS2, hM2⟩ := NR_B hd2 h2 hB1 hS1 hM1
  have hr1 := NR_r hd h1
  have hr2 := NR_r hd2 h2
  have hd' := hd
  obtain ⟨ha, hb, hm, hab, hbm, ham⟩ := hd'
  refine ⟨⟨hB2, hS2, hM2⟩, Nat.or_lt_two_pow hr1.1 hr2.1, fun h => ?_, ?_, fun hw hi hn => ⟨?_, ?_⟩⟩
  · rw [Nat.testBit_or, Bool.or_eq_true] at h
    rcases h with h | h
    · exact NR_F hd h1 hM h
    · exact NR_F hd2 h2 hM1 h
  · rcases NR_t hd h1 hB hS with ⟨e1, q1⟩ | q1 <;> rcases NR_t hd2 h2 hB1 hS1 with ⟨e2, q2⟩ | q2
    · refine Or.inl ⟨by rw [e2, e1], fun q => ?_⟩
      obtain ⟨z1, z2⟩ := or_f q
      rcases q1 with rfl | rfl
      · rcases q2 with rfl | rfl
        · rfl
        · rw [Nat.testBit_two_pow_self] at z2; cases z2
      · rw [Nat.testBit_two_pow_self] at z1; cases z1
    · rw [e1] at q2; exact Or.inr q2
    · rw [e2]; exact Or.inr q1
    · exact Or.inr (by omega)
  · obtain ⟨w0, w12⟩ := or_f hw
    obtain ⟨w1, w2⟩ := or_f w12
    have t1 : Tri g1 a b m := NR_T2 hd h1 w1
    have t2 : Tri g2 b a m := NR_T2 hd2 h2 w2
    intro x y z hx hp1 hp2 hz1 hz2
    obtain ⟨p1, p12⟩ := or_f hp1
    obtain ⟨p11, p13⟩ := or_f p12
    obtain ⟨p2, p22⟩ := or_f hp2
    obtain ⟨p21, p23⟩ := or_f p22
    have hx' := hx
    obtain ⟨gx, gy, gz, gxy, gyz, gxz⟩ := hx'
    by_cases c1 : pr x y = pr a b ∧ z = m
    · obtain ⟨c1, rfl⟩ := c1
      rcases pr_inj x gx y gy a ha b hb gxy hab c1 with ⟨rfl, rfl⟩ | ⟨rfl, rfl⟩
      · exact NR_T hd2 h2 hS1 hx p13 p23 t1
      · exact t2
    · by_cases c2 : pr y z = pr a b ∧ x = m
      · obtain ⟨c2, rfl⟩ := c2
        rcases pr_inj y gy z gz a ha b hb gyz hab c2 with ⟨rfl, rfl⟩ | ⟨rfl, rfl⟩
        · exact Tri_sy hS2 hd2 t2
        · exact NR_T hd2 h2 hS1 hx p13 p23 (Tri_sy hS1 hd t1)
      · exact NR_T hd2 h2 hS1 hx p13 p23 (NR_T hd h1 hS hx p11 p21 (hi x y z hx p1 p2 (fun q => by have := hz1 q; have : z ≠ m := fun e => c1 ⟨q, e⟩; omega) (fun q => by have := hz2 q; have : x ≠ m := fun e => c2 ⟨q, e⟩; omega)))
  · obtain ⟨w0, w12⟩ := or_f hw
    obtain ⟨w1, w2⟩ := or_f w12
    have hab0 : g (a * 6 + b) ≠ 0 := by
      intro q
      apply hr1.2 w1
      unfold lft
      rw [q, cm_0L, Nat.zero_and]
    refine ⟨fun x y gx gy gxy hp hne => ?_, fun t _ _ _ => NR_n hd2 h2 hB1 ha hb hab (NR_n hd h1 hB ha hb hab hab0)⟩
    exact NR_n hd2 h2 hB1 gx gy gxy (NR_n hd h1 hB gx gy gxy (hn.1 x y gx gy gxy (or_f hp).1 hne))
theorem cl_skip {g : Nat → Nat} {w a b i : Nat} (ha : a < 6) (hb : b < 6) (hab : a ≠ b) (h : i = a ∨ i = b) (h1 : IVp g w a b i) (h2 : NEp g w a b i) : IVp g w a b (i + 1) ∧ NEp g w a b (i + 1) := by
  refine ⟨fun x y z hx p1 p2 z1 z2 => h1 x y z hx p1 p2 (fun q => ?_) (fun q => ?_), h2.1, fun t ht hta htb => h2.2 t (by omega) hta htb⟩
  · have := z1 q
    obtain ⟨gx, gy, gz, gxy, gyz, gxz⟩ := hx
    rcases pr_inj x gx y gy a ha b hb gxy hab q with ⟨e1, e2⟩ | ⟨e1, e2⟩ <;> omega
  · have := z2 q
    obtain ⟨gx, gy, gz, gxy, gyz, gxz⟩ := hx
    rcases pr_inj y gy z gz a ha b hb gyz hab q with ⟨e1, e2⟩ | ⟨e1, e2⟩ <;> omega
theorem cl_begin {g : Nat → Nat} {w w' a b : Nat} (hab : a ≠ b) (hw : ∀ i, i < 15 → i ≠ pr a b → w'.testBit i = w.testBit i) (h1 : IV g w) (h2 : NE g w) : IVp g w' a b 0 ∧ NEp g w' a b 0 := by
  refine ⟨fun x y z hx p1 p2 z1 z2 => ?_, fun x y gx gy gxy p hne => h2 x y gx gy gxy ?_, fun t ht => by omega⟩
  · have hx' := hx
    obtain ⟨gx, gy, gz, gxy, gyz, gxz⟩ := hx'
    have n1 : pr x y ≠ pr a b := fun q => by have := z1 q; omega
    have n2 : pr y z ≠ pr a b := fun q => by have := z2 q; omega
    exact h1 x y z hx (by rw [← hw _ (pr_lt gx gy gxy) n1]; exact p1) (by rw [← hw _ (pr_lt gy gz gyz) n2]; exact p2)
  · rw [← hw _ (pr_lt gx gy gxy) hne]; exact p
theorem cl_end {g : Nat → Nat} {w a b : Nat} (ha : a < 6) (hb : b < 6) (hab : a ≠ b) (hS : Sy g) (hB : Bd g) (h1 : IVp g w a b 6) (h2 : NEp g w a b 6) : IV g w ∧ NE g w := by
  refine ⟨fun x y z hx p1 p2 => h1 x y z hx p1 p2 (fun _ => hx.2.2.1) (fun _ => hx.1), fun x y gx gy gxy p => ?_⟩
  have h0 : g (a * 6 + b) ≠ 0 := by
    have hex : ∃ t, t < 6 ∧ t ≠ a ∧ t ≠ b := by
      by_cases q0 : 0 ≠ a ∧ 0 ≠ b
      · exact ⟨0, by omega, q0.1, q0.2⟩
      · by_cases q1 : 1 ≠ a ∧ 1 ≠ b
        · exact ⟨1, by omega, q1.1, q1.2⟩
        · exact ⟨2, by omega, by omega, by omega⟩
    obtain ⟨t, t1, t2, t3⟩ := hex
    exact h2.2 t t1 t2 t3
  by_cases q : pr x y = pr a b
  · rcases pr_inj x gx y gy a ha b hb gxy hab q with ⟨rfl, rfl⟩ | ⟨rfl, rfl⟩
    · exact h0
    · rw [hS a b ha hb hab]; exact tn_ne0 (hB _ (by omega)) h0
  · exact h2.1 x y gx gy gxy p q
