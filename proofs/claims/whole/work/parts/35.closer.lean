/-! CLOSING IN THE REFERENCE: one side of a pair at a time -/
def nwr (g : Nat → Nat) (a b v : Nat) : Nat → Nat := fun j => if j = a * 6 + b then v else g j
def Mr (f g : Nat → Nat) : Prop := Le g f ∧ ∀ h, Clo h → Le h f → Le h g
theorem nwr_Bd {g : Nat → Nat} (hB : Bd g) {a b v : Nat} (hv : v < 8192) : Bd (nwr g a b v) := by
  intro j hj
  unfold nwr
  split
  · exact hv
  · exact hB j hj
theorem nwr_ab (g : Nat → Nat) (a b v : Nat) : nwr g a b v (a * 6 + b) = v := by unfold nwr; rw [if_pos rfl]
theorem nwr_ne (g : Nat → Nat) {a b x y : Nat} (v : Nat) (hb : b < 6) (hy : y < 6) (h : ¬ (x = a ∧ y = b)) : nwr g a b v (x * 6 + y) = g (x * 6 + y) := by
  unfold nwr; rw [if_neg (by omega)]
theorem Mr_rf (f : Nat → Nat) : Mr f f := ⟨fun _ _ _ _ _ => sb_rf _, fun _ _ h => h⟩
theorem lft_up {g h : Nat → Nat} (hC : Clo h) (hle : Le h g) {a m b : Nat} (hd : Ds a m b) : sb (h (a * 6 + b)) (lft g a m b) := by
  obtain ⟨ha, hm, hb, ham, hmb, hab⟩ := hd
  exact sb_and (sb_tr (hC a m b ⟨ha, hm, hb, ham, hmb, hab⟩) (sb_cm (hle a m ha hm ham) (hle m b hm hb hmb))) (hle a b ha hb hab)
theorem Mr_step {f g : Nat → Nat} (h : Mr f g) {a m b : Nat} (hd : Ds a m b) : Mr f (nwr g a b (lft g a m b)) := by
  have hd' := hd
  obtain ⟨ha, hm, hb, ham, hmb, hab⟩ := hd'
  refine ⟨fun x y hx hy hxy => ?_, fun q hC hl x y hx hy hxy => ?_⟩
  · by_cases e : x = a ∧ y = b
    · obtain ⟨rfl, rfl⟩ := e
      rw [nwr_ab]; exact sb_tr (lft_sb g x m y) (h.1 x y hx hy hxy)
    · rw [nwr_ne g _ hb hy e]; exact h.1 x y hx hy hxy
  · by_cases e : x = a ∧ y = b
    · obtain ⟨rfl, rfl⟩ := e
      rw [nwr_ab]; exact lft_up hC (h.2 q hC hl) hd
    · rw [nwr_ne g _ hb hy e]; exact h.2 q hC hl x y hx hy hxy
theorem nwr_Dg {f g : Nat → Nat} (h : Dg f g) {a b v : Nat} (ha : a < 6) (hb : b < 6) (hab : a ≠ b) : Dg f (nwr g a b v) := fun x hx => (nwr_ne g v hb hx (by omega)).trans (h x hx)
theorem Mr_fail {f g : Nat → Nat} (h : Mr f g) {a m b : Nat} (hd : Ds a m b) (h0 : lft g a m b = 0) : Fail f := by
  intro q _ hC hl
  have := lft_up hC (h.2 q hC hl) hd
  rw [h0] at this
  exact ⟨a, b, hd.1, hd.2.2.1, hd.2.2.2.2.2, sb_0 this⟩
theorem Fail_0 {f : Nat → Nat} {a b : Nat} (ha : a < 6) (hb : b < 6) (hab : a ≠ b) (h0 : f (a * 6 + b) = 0) : Fail f := by
  intro q _ _ hl
  have := hl a b ha hb hab
  rw [h0] at this
  exact ⟨a, b, ha, hb, hab, sb_0 this⟩
/-- turned as a whole -/
def trn (g : Nat → Nat) : Nat → Nat := fun j => tn (g (j % 6 * 6 + j / 6))
theorem trn_at (g : Nat → Nat) {a b : Nat} (hb : b < 6) : trn g (a * 6 + b) = tn (g (b * 6 + a)) := by
  unfold trn
  rw [show (a * 6 + b) % 6 = b by omega, show (a * 6 + b) / 6 = a by omega]
theorem trn_Clo {g : Nat → Nat} (h : Clo g) : Clo (trn g) := by
  intro x y z hd
  obtain ⟨hx, hy, hz, hxy, hyz, hxz⟩ := hd
  unfold Tri
  rw [trn_at g hz, trn_at g hy, trn_at g hz, ← cm_tn]
  exact sb_tn (h z y x ⟨hz, hy, hx, Ne.symm hyz, Ne.symm hxy, Ne.symm hxz⟩)
theorem Mr_end {f g : Nat → Nat} (hSf : Sy f) (hBf : Bd f) (hBg : Bd g) (h : Mr f g) (hD : Dg f g) (hC : Clo g) : Sy g ∧ Mx f g := by
  have hl : Le (trn g) f := by
    intro a b ha hb hab
    rw [trn_at g hb, hSf b a hb ha (Ne.symm hab)]
    exact sb_tn (h.1 b a hb ha (Ne.symm hab))
  have hg := h.2 _ (trn_Clo hC) hl
  have key : ∀ a b, a < 6 → b < 6 → a ≠ b → sb (tn (g (b * 6 + a))) (g (a * 6 + b)) := by
    intro a b ha hb hab
    have := hg a b ha hb hab
    rw [trn_at g hb] at this
    exact this
  refine ⟨fun a b ha hb hab => ?_, h.1, fun q _ q2 q3 => h.2 q q2 q3, hD⟩
  apply sb_as
  · have := sb_tn (key a b ha hb hab)
    rw [tn_tn (hBg _ (by omega))] at this
    exact this
  · exact key b a hb ha (Ne.symm hab)
theorem tot_nwr {g : Nat → Nat} (hB : Bd g) {a b v : Nat} (ha : a < 6) (hb : b < 6) (hne : a ≠ b) (hv : sb v (g (a * 6 + b))) (hv2 : v ≠ g (a * 6 + b)) : tot (nwr g a b v) + 1 ≤ tot g := by
  have hva : g (a * 6 + b) < 8192 := hB _ (by omega)
  have d1 : ¬ (a * 6 + b) / 6 = (a * 6 + b) % 6 := by omega
  unfold tot
  refine sm_lt (a * 6 + b) 36 (fun j hj => ?_) (by omega) (by rw [if_neg d1, if_neg d1, nwr_ab]; exact pcn_ss hva hv hv2)
  split
  · exact Nat.le_refl _
  · unfold nwr
    split
    · rename_i e
      rw [e]; exact pcn_le hv 13
    · exact Nat.le_refl _
/-- what has been looked at in this sweep, with no change: the paths that hold -/
theorem Tri_lft {g : Nat → Nat} {a m b : Nat} (h : lft g a m b = g (a * 6 + b)) : Tri g a m b := by
  unfold Tri
  rw [← h]
  exact sb_andL _ _
theorem nwr_id {g : Nat → Nat} {a b : Nat} : nwr g a b (g (a * 6 + b)) = g := by
  funext j
  unfold nwr
  split
  · rename_i e; rw [e]
  · rfl
