/-! CLOSING: the mathematics of one narrowing -/
theorem bi_tb' (n i : Nat) : bi n i = (n.testBit i).toNat := by
  have h := bi_lt n i
  have h2 := bi_tb n i
  cases hb : n.testBit i
  · have : bi n i ≠ 1 := fun q => by rw [h2.mp q] at hb; cases hb
    simp; omega
  · rw [h2.mpr hb]; rfl
theorem tq_tb (n : Nat) : ∀ i j, (tq n i).testBit j = (decide (j < i) && n.testBit (i - 1 - j))
  | 0, j => by simp [tq]
  | i + 1, j => by
    have hb := bi_lt n i
    show (2 * tq n i + bi n i).testBit j = _
    cases j with
    | zero =>
      rw [Nat.testBit_zero]
      have : (2 * tq n i + bi n i) % 2 = bi n i := by omega
      rw [this, bi_tb']
      cases hq : n.testBit i <;> simp [hq]
    | succ j =>
      rw [Nat.testBit_succ]
      have : (2 * tq n i + bi n i) / 2 = tq n i := by omega
      rw [this, tq_tb n i j]
      simp only [Nat.add_lt_add_iff_right, Nat.add_sub_cancel]
      congr 2
      omega
theorem tn_tb (n : Nat) {j : Nat} (hj : j < 13) : (tn n).testBit j = n.testBit (12 - j) := by
  unfold tn
  rw [tq_tb]
  simp [hj]
theorem tn_tn {n : Nat} (hn : n < 8192) : tn (tn n) = n := by
  refine tb_ext (tn_lt _) hn (fun i hi => ?_)
  rw [tn_tb _ hi, tn_tb _ (by omega), show 12 - (12 - i) = i by omega]
/-- within -/
def sb (a b : Nat) : Prop := a &&& b = a
theorem sb_tb {a b : Nat} : sb a b ↔ ∀ i, a.testBit i = true → b.testBit i = true := by
  unfold sb
  constructor
  · intro h i hi
    rw [← h, Nat.testBit_and, Bool.and_eq_true] at hi
    exact hi.2
  · intro h
    apply Nat.eq_of_testBit_eq
    intro i
    rw [Nat.testBit_and]
    have := h i
    cases hA : a.testBit i <;> simp_all
theorem sb_rf (a : Nat) : sb a a := Nat.and_self a
theorem sb_tr {a b c : Nat} (h1 : sb a b) (h2 : sb b c) : sb a c := sb_tb.mpr (fun i hi => sb_tb.mp h2 i (sb_tb.mp h1 i hi))
theorem sb_and {a b c : Nat} (h1 : sb a b) (h2 : sb a c) : sb a (b &&& c) := sb_tb.mpr (fun i hi => by rw [Nat.testBit_and, sb_tb.mp h1 i hi, sb_tb.mp h2 i hi]; rfl)
theorem sb_andL (a b : Nat) : sb (a &&& b) a := sb_tb.mpr (fun i hi => by rw [Nat.testBit_and, Bool.and_eq_true] at hi; exact hi.1)
theorem sb_andR (a b : Nat) : sb (a &&& b) b := sb_tb.mpr (fun i hi => by rw [Nat.testBit_and, Bool.and_eq_true] at hi; exact hi.2)
theorem sb_0 {a : Nat} (h : sb a 0) : a = 0 := by unfold sb at h; rw [Nat.and_zero] at h; exact h.symm
theorem sb_as {a b : Nat} (h1 : sb a b) (h2 : sb b a) : a = b := by unfold sb at h1 h2; rw [← h1, Nat.and_comm]; exact h2
theorem sb_tn {a b : Nat} (h : sb a b) : sb (tn a) (tn b) := by
  refine sb_tb.mpr (fun i hi => ?_)
  have h13 := tb_lt (tn_lt a) hi
  rw [tn_tb _ h13] at hi ⊢
  exact sb_tb.mp h _ hi
theorem sb_cm {r r' s s' : Nat} (h1 : sb r r') (h2 : sb s s') : sb (cm r s) (cm r' s') := by
  refine sb_tb.mpr (fun b hb => ?_)
  obtain ⟨i, j, hi, hj, g1, g2, g3⟩ := cm_tb.mp hb
  exact cm_tb.mpr ⟨i, j, hi, hj, sb_tb.mp h1 _ g1, sb_tb.mp h2 _ g2, g3⟩
theorem cmT_tn : ∀ i, i < 13 → ∀ j, j < 13 → ∀ b, b < 13 → (cmT (i * 13 + j)).testBit b = (cmT ((12 - j) * 13 + (12 - i))).testBit (12 - b) := by decide +kernel
theorem cm_tn (r s : Nat) : tn (cm r s) = cm (tn s) (tn r) := by
  refine tb_ext (tn_lt _) (cm_lt _ _) (fun b hb => ?_)
  rw [tn_tb _ hb, cm_tb, cm_tb]
  constructor
  · rintro ⟨i, j, hi, hj, g1, g2, g3⟩
    refine ⟨12 - j, 12 - i, by omega, by omega, ?_, ?_, ?_⟩
    · rw [tn_tb _ (by omega), show 12 - (12 - j) = j by omega]; exact g2
    · rw [tn_tb _ (by omega), show 12 - (12 - i) = i by omega]; exact g1
    · rw [cmT_tn i hi j hj _ (by omega)] at g3
      rw [show 12 - (12 - b) = b by omega] at g3
      exact g3
  · rintro ⟨i, j, hi, hj, g1, g2, g3⟩
    rw [tn_tb _ hi] at g1
    rw [tn_tb _ hj] at g2
    refine ⟨12 - j, 12 - i, by omega, by omega, g2, g1, ?_⟩
    rw [cmT_tn i hi j hj b hb] at g3
    exact g3
def Bd (g : Nat → Nat) : Prop := ∀ j, j < 36 → g j < 8192
def Sy (g : Nat → Nat) : Prop := ∀ a b, a < 6 → b < 6 → a ≠ b → g (b * 6 + a) = tn (g (a * 6 + b))
def Tri (g : Nat → Nat) (x y z : Nat) : Prop := sb (g (x * 6 + z)) (cm (g (x * 6 + y)) (g (y * 6 + z)))
def Le (h g : Nat → Nat) : Prop := ∀ a b, a < 6 → b < 6 → a ≠ b → sb (h (a * 6 + b)) (g (a * 6 + b))
def Ds (x y z : Nat) : Prop := x < 6 ∧ y < 6 ∧ z < 6 ∧ x ≠ y ∧ y ≠ z ∧ x ≠ z
def Clo (g : Nat → Nat) : Prop := ∀ x y z, Ds x y z → Tri g x y z
theorem Tri_sy {g : Nat → Nat} (hS : Sy g) {x y z : Nat} (hd : Ds x y z) (h : Tri g x y z) : Tri g z y x := by
  obtain ⟨h1, h2, h3, h4, h5, h6⟩ := hd
  unfold Tri at h ⊢
  rw [hS x z h1 h3 h6, hS y z h2 h3 h5, hS x y h1 h2 h4, ← cm_tn]
  exact sb_tn h
/-- a pair gets a set, and its turned one -/
def nw (g : Nat → Nat) (a b v : Nat) : Nat → Nat := fun j => if j = b * 6 + a then tn v else if j = a * 6 + b then v else g j
theorem nw_ab (g : Nat → Nat) {a b : Nat} (v : Nat) (ha : a < 6) (hb : b < 6) (h : a ≠ b) : nw g a b v (a * 6 + b) = v := by
  unfold nw; rw [if_neg (by omega), if_pos rfl]
theorem nw_ba (g : Nat → Nat) {a b : Nat} (v : Nat) : nw g a b v (b * 6 + a) = tn v := by
  unfold nw; rw [if_pos rfl]
theorem nw_ne (g : Nat → Nat) {a b x y : Nat} (v : Nat) (ha : a < 6) (hb : b < 6) (hx : x < 6) (hy : y < 6) (h1 : ¬ (x = a ∧ y = b)) (h2 : ¬ (x = b ∧ y = a)) : nw g a b v (x * 6 + y) = g (x * 6 + y) := by
  unfold nw; rw [if_neg (by omega), if_neg (by omega)]
theorem nw_Bd {g : Nat → Nat} (hB : Bd g) {a b v : Nat} (hv : v < 8192) : Bd (nw g a b v) := by
  intro j hj
  unfold nw
  split
  · exact tn_lt v
  · split
    · exact hv
    · exact hB j hj
theorem nw_Sy {g : Nat → Nat} (hS : Sy g) {a b v : Nat} (ha : a < 6) (hb : b < 6) (hne : a ≠ b) (hv : v < 8192) : Sy (nw g a b v) := by
  intro x y hx hy hxy
  by_cases h1 : x = a ∧ y = b
  · obtain ⟨rfl, rfl⟩ := h1
    rw [nw_ba, nw_ab g v ha hb hne]
  · by_cases h2 : x = b ∧ y = a
    · obtain ⟨rfl, rfl⟩ := h2
      rw [nw_ba, nw_ab g v ha hb hne, tn_tn hv]
    · rw [nw_ne g v ha hb hx hy h1 h2, nw_ne g v ha hb hy hx (fun q => h2 ⟨q.2, q.1⟩) (fun q => h1 ⟨q.2, q.1⟩)]
      exact hS x y hx hy hxy
theorem nw_Le {g : Nat → Nat} (hS : Sy g) {a b v : Nat} (ha : a < 6) (hb : b < 6) (hne : a ≠ b) (hv : sb v (g (a * 6 + b))) : Le (nw g a b v) g := by
  intro x y hx hy hxy
  by_cases h1 : x = a ∧ y = b
  · obtain ⟨rfl, rfl⟩ := h1
    rw [nw_ab g v ha hb hne]; exact hv
  · by_cases h2 : x = b ∧ y = a
    · obtain ⟨rfl, rfl⟩ := h2
      rw [nw_ba, hS y x ha hb hne]; exact sb_tn hv
    · rw [nw_ne g v ha hb hx hy h1 h2]; exact sb_rf _
theorem nw_max {g h : Nat → Nat} (hSg : Sy g) (hSh : Sy h) (hC : Clo h) (hle : Le h g) {a m b : Nat} (hd : Ds a m b) : Le h (nw g a b (lft g a m b)) := by
  obtain ⟨ha, hm, hb, ham, hmb, hab⟩ := hd
  have key : sb (h (a * 6 + b)) (lft g a m b) := sb_and (sb_tr (hC a m b ⟨ha, hm, hb, ham, hmb, hab⟩) (sb_cm (hle a m ha hm ham) (hle m b hm hb hmb))) (hle a b ha hb hab)
  intro x y hx hy hxy
  by_cases h1 : x = a ∧ y = b
  · obtain ⟨rfl, rfl⟩ := h1
    rw [nw_ab g _ ha hb hab]; exact key
  · by_cases h2 : x = b ∧ y = a
    · obtain ⟨rfl, rfl⟩ := h2
      rw [nw_ba, hSh y x ha hb hab]; exact sb_tn key
    · rw [nw_ne g _ ha hb hx hy h1 h2]; exact hle x y hx hy hxy
theorem lft_0 {g h : Nat → Nat} (hC : Clo h) (hle : Le h g) {a m b : Nat} (hd : Ds a m b) (h0 : lft g a m b = 0) : h (a * 6 + b) = 0 := by
  obtain ⟨ha, hm, hb, ham, hmb, hab⟩ := hd
  have key : sb (h (a * 6 + b)) (lft g a m b) := sb_and (sb_tr (hC a m b ⟨ha, hm, hb, ham, hmb, hab⟩) (sb_cm (hle a m ha hm ham) (hle m b hm hb hmb))) (hle a b ha hb hab)
  rw [h0] at key
  exact sb_0 key
theorem pr_inj0 : ∀ (a b x y : Fin 6), (a ≠ b ∧ x ≠ y ∧ pr a.val b.val = pr x.val y.val) → ((x = a ∧ y = b) ∨ (x = b ∧ y = a)) := by decide +kernel
theorem pr_inj (a : Nat) (ha : a < 6) (b : Nat) (hb : b < 6) (x : Nat) (hx : x < 6) (y : Nat) (hy : y < 6) (h1 : a ≠ b) (h2 : x ≠ y) (h : pr a b = pr x y) : (x = a ∧ y = b) ∨ (x = b ∧ y = a) := by
  have := pr_inj0 ⟨a, ha⟩ ⟨b, hb⟩ ⟨x, hx⟩ ⟨y, hy⟩ ⟨by simpa using h1, by simpa using h2, h⟩
  simpa using this
/-- a path whose legs keep, and whose end shrinks -/
theorem nw_Tri {g : Nat → Nat} (hS : Sy g) {a b v x y z : Nat} (ha : a < 6) (hb : b < 6) (hne : a ≠ b) (hv : sb v (g (a * 6 + b))) (hd : Ds x y z) (h1 : pr x y ≠ pr a b) (h2 : pr y z ≠ pr a b) (h : Tri g x y z) : Tri (nw g a b v) x y z := by
  obtain ⟨hx, hy, hz, hxy, hyz, hxz⟩ := hd
  have n1 : ¬ (x = a ∧ y = b) := fun q => h1 (by rw [q.1, q.2])
  have n2 : ¬ (x = b ∧ y = a) := fun q => h1 (by rw [q.1, q.2, pr_c hb ha (Ne.symm hne)])
  have n3 : ¬ (y = a ∧ z = b) := fun q => h2 (by rw [q.1, q.2])
  have n4 : ¬ (y = b ∧ z = a) := fun q => h2 (by rw [q.1, q.2, pr_c hb ha (Ne.symm hne)])
  unfold Tri at h ⊢
  rw [nw_ne g v ha hb hx hy n1 n2, nw_ne g v ha hb hy hz n3 n4]
  exact sb_tr (nw_Le hS ha hb hne hv x z hx hz hxz) h
theorem nw_Tri2 {g : Nat → Nat} {a m b : Nat} (hd : Ds a m b) : Tri (nw g a b (lft g a m b)) a m b := by
  obtain ⟨ha, hm, hb, ham, hmb, hab⟩ := hd
  unfold Tri
  rw [nw_ab g _ ha hb hab, nw_ne g _ ha hb ha hm (by omega) (by omega), nw_ne g _ ha hb hm hb (by omega) (by omega)]
  exact sb_andL _ _
/-- how many -/
def pcn (n : Nat) : Nat → Nat
  | 0 => 0
  | i + 1 => pcn n i + bi n i
def sm (F : Nat → Nat) : Nat → Nat
  | 0 => 0
  | i + 1 => sm F i + F i
theorem pcn_le {a b : Nat} (h : sb a b) : ∀ i, pcn a i ≤ pcn b i
  | 0 => Nat.le_refl _
  | i + 1 => by
    have h1 := pcn_le h i
    have h2 : bi a i ≤ bi b i := by
      have := sb_tb.mp h i
      rw [bi_tb', bi_tb']
      cases hA : a.testBit i <;> simp_all
    unfold pcn
    omega
theorem pcn_lt {a b : Nat} (h : sb a b) (j : Nat) (hj1 : a.testBit j = false) (hj2 : b.testBit j = true) : ∀ i, j < i → pcn a i < pcn b i
  | 0, q => by omega
  | i + 1, q => by
    have h2 : bi a i ≤ bi b i := by
      have := sb_tb.mp h i
      rw [bi_tb', bi_tb']
      cases hA : a.testBit i <;> simp_all
    have h3 := pcn_le h i
    unfold pcn
    by_cases e : j = i
    · subst e
      have e1 : bi a j = 0 := by rw [bi_tb', hj1]; rfl
      have e2 : bi b j = 1 := by rw [bi_tb', hj2]; rfl
      omega
    · have := pcn_lt h j hj1 hj2 i (by omega)
      omega
theorem pcn_13 (n : Nat) : ∀ i, pcn n i ≤ i
  | 0 => Nat.le_refl _
  | i + 1 => by
    have := pcn_13 n i
    have := bi_lt n i
    unfold pcn
    omega
theorem pcn_ss {a b : Nat} (hb : b < 8192) (h : sb a b) (hne : a ≠ b) : pcn a 13 < pcn b 13 := by
  have ha : a < 8192 := by
    have : a &&& b ≤ b := Nat.and_le_right
    unfold sb at h
    omega
  have hex : ∃ j, j < 13 ∧ a.testBit j = false ∧ b.testBit j = true := by
    apply Classical.byContradiction
    intro hn
    apply hne
    refine tb_ext ha hb (fun i hi => ⟨sb_tb.mp h i, fun hbi => ?_⟩)
    cases hA : a.testBit i
    · exact absurd ⟨i, hi, hA, hbi⟩ hn
    · rfl
  obtain ⟨j, hj, h1, h2⟩ := hex
  exact pcn_lt h j h1 h2 13 hj
theorem sm_le {F F' : Nat → Nat} : ∀ n, (∀ j, j < n → F' j ≤ F j) → sm F' n ≤ sm F n
  | 0, _ => Nat.le_refl _
  | n + 1, h => by
    have := sm_le n (fun j hj => h j (by omega))
    have := h n (by omega)
    unfold sm
    omega
theorem sm_lt {F F' : Nat → Nat} (j1 : Nat) : ∀ n, (∀ j, j < n → F' j ≤ F j) → j1 < n → F' j1 < F j1 → sm F' n + 1 ≤ sm F n
  | 0, _, q, _ => by omega
  | n + 1, h, q, h1 => by
    unfold sm
    have hn := h n (by omega)
    by_cases e : j1 = n
    · subst e
      have := sm_le j1 (fun j hj => h j (by omega))
      omega
    · have := sm_lt j1 n (fun j hj => h j (by omega)) (by omega) h1
      omega
theorem sm_lt2 {F F' : Nat → Nat} (j1 j2 : Nat) (hne : j1 < j2) : ∀ n, (∀ j, j < n → F' j ≤ F j) → j2 < n → F' j1 < F j1 → F' j2 < F j2 → sm F' n + 2 ≤ sm F n
  | 0, _, q, _, _ => by omega
  | n + 1, h, q, h1, h2 => by
    unfold sm
    have hn := h n (by omega)
    by_cases e : j2 = n
    · subst e
      have := sm_lt j1 j2 (fun j hj => h j (by omega)) hne h1
      omega
    · have := sm_lt2 j1 j2 hne n (fun j hj => h j (by omega)) (by omega) h1 h2
      omega
def tot (g : Nat → Nat) : Nat := sm (fun j => if j / 6 = j % 6 then 0 else pcn (g j) 13) 36
theorem tot_le (g : Nat → Nat) : tot g ≤ 390 := by
  have h : tot g ≤ sm (fun j => if j / 6 = j % 6 then 0 else 13) 36 := sm_le 36 (fun j _ => by
    split
    · exact Nat.le_refl _
    · exact pcn_13 _ _)
  exact Nat.le_trans h (by decide)
theorem tot_nw {g : Nat → Nat} (hB : Bd g) (hS : Sy g) {a b v : Nat} (ha : a < 6) (hb : b < 6) (hne : a ≠ b) (hv : sb v (g (a * 6 + b))) (hv2 : v ≠ g (a * 6 + b)) : tot (nw g a b v) + 2 ≤ tot g := by
  have hva : g (a * 6 + b) < 8192 := hB _ (by omega)
  have hvl : v < 8192 := by
    have : v &&& g (a * 6 + b) ≤ g (a * 6 + b) := Nat.and_le_right
    unfold sb at hv
    omega
  have l1 : pcn (nw g a b v (a * 6 + b)) 13 < pcn (g (a * 6 + b)) 13 := by rw [nw_ab g v ha hb hne]; exact pcn_ss hva hv hv2
  have l2 : pcn (nw g a b v (b * 6 + a)) 13 < pcn (g (b * 6 + a)) 13 := by
    rw [nw_ba, hS a b ha hb hne]
    exact pcn_ss (tn_lt _) (sb_tn hv) (fun q => hv2 (by rw [← tn_tn hvl, q, tn_tn hva]))
  have hmono : ∀ j, j < 36 → (if j / 6 = j % 6 then 0 else pcn (nw g a b v j) 13) ≤ (if j / 6 = j % 6 then 0 else pcn (g j) 13) := by
    intro j hj
    split
    · exact Nat.le_refl _
    · rename_i hd
      have := nw_Le hS ha hb hne hv (j / 6) (j % 6) (by omega) (by omega) hd
      rw [show j / 6 * 6 + j % 6 = j by omega] at this
      exact pcn_le this 13
  unfold tot
  have d1 : ¬ (a * 6 + b) / 6 = (a * 6 + b) % 6 := by omega
  have d2 : ¬ (b * 6 + a) / 6 = (b * 6 + a) % 6 := by omega
  rcases Nat.lt_or_ge (a * 6 + b) (b * 6 + a) with q | q
  · exact sm_lt2 (a * 6 + b) (b * 6 + a) q 36 hmono (by omega) (by rw [if_neg d1, if_neg d1]; exact l1) (by rw [if_neg d2, if_neg d2]; exact l2)
  · exact sm_lt2 (b * 6 + a) (a * 6 + b) (by omega) 36 hmono (by omega) (by rw [if_neg d2, if_neg d2]; exact l2) (by rw [if_neg d1, if_neg d1]; exact l1)
