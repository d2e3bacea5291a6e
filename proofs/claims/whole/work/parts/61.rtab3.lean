/-! THE REFERENCE: findSteps -/
def dsT : List (List Nat) := [[0, 1, 999, 999, 999, 999, 999, 999, 999, 999, 999, 999, 999, 1, 0, 1, 1, 999, 999, 999, 1, 999, 999, 999, 999, 999, 999, 1, 0, 1, 999, 999, 999, 1, 999, 999, 999, 999, 999, 999, 1, 1, 0, 1, 999, 1, 999, 999, 999, 999, 999, 999, 999, 999, 999, 1, 0, 1, 999, 999, 999, 999, 999, 999, 999, 999, 999, 999, 999, 1, 0, 1, 999, 999, 999, 1, 1, 999, 999, 999, 999, 1, 999, 1, 0, 1, 999, 1, 999, 999, 999, 999, 1, 1, 999, 999, 999, 1, 0, 1, 999, 999, 999, 999, 999, 999, 999, 999, 999, 999, 999, 1, 0, 1, 999, 999, 999, 999, 999, 999, 999, 999, 999, 1, 999, 1, 0, 1, 1, 999, 999, 999, 999, 999, 999, 1, 999, 999, 999, 1, 0, 1, 999, 999, 999, 999, 999, 999, 1, 999, 999, 999, 1, 1, 0, 1, 999, 999, 999, 999, 999, 999, 999, 999, 999, 999, 999, 1, 0], [0, 1, 999, 999, 999, 999, 999, 999, 999, 999, 999, 999, 999, 1, 0, 1, 1, 999, 999, 999, 1, 999, 999, 999, 999, 999, 999, 1, 0, 1, 999, 999, 999, 1, 999, 999, 999, 999, 999, 999, 1, 1, 0, 1, 999, 1, 999, 999, 999, 999, 999, 999, 999, 999, 999, 1, 0, 1, 999, 999, 999, 999, 999, 999, 999, 999, 999, 999, 999, 1, 0, 1, 999, 999, 999, 1, 1, 999, 999, 999, 999, 1, 999, 1, 0, 1, 999, 1, 999, 999, 999, 999, 1, 1, 999, 999, 999, 1, 0, 1, 999, 999, 999, 999, 999, 999, 999, 999, 999, 999, 999, 1, 0, 1, 999, 999, 999, 999, 999, 999, 999, 999, 999, 1, 999, 1, 0, 1, 1, 999, 999, 999, 999, 999, 999, 1, 999, 999, 999, 1, 0, 1, 999, 999, 999, 999, 999, 999, 1, 999, 999, 999, 1, 1, 0, 1, 999, 999, 999, 999, 999, 999, 999, 999, 999, 999, 999, 1, 0], [0, 1, 2, 2, 999, 999, 999, 2, 999, 999, 999, 999, 999, 1, 0, 1, 1, 999, 999, 999, 1, 999, 999, 999, 999, 999, 2, 1, 0, 1, 999, 999, 999, 1, 999, 999, 999, 999, 999, 2, 1, 1, 0, 1, 999, 1, 2, 999, 999, 999, 999, 999, 999, 999, 999, 1, 0, 1, 999, 999, 999, 999, 999, 999, 999, 999, 999, 999, 999, 1, 0, 1, 999, 999, 999, 1, 1, 999, 999, 999, 999, 1, 999, 1, 0, 1, 999, 1, 999, 999, 999, 2, 1, 1, 2, 999, 999, 1, 0, 1, 999, 999, 999, 999, 999, 999, 999, 999, 999, 999, 999, 1, 0, 1, 999, 999, 999, 999, 999, 999, 999, 999, 999, 1, 999, 1, 0, 1, 1, 999, 999, 999, 999, 999, 999, 1, 999, 999, 999, 1, 0, 1, 999, 999, 999, 999, 999, 999, 1, 999, 999, 999, 1, 1, 0, 1, 999, 999, 999, 999, 999, 999, 999, 999, 999, 999, 999, 1, 0], [0, 1, 2, 2, 999, 999, 999, 2, 999, 999, 999, 999, 999, 1, 0, 1, 1, 999, 999, 999, 1, 999, 999, 999, 999, 999, 2, 1, 0, 1, 999, 999, 999, 1, 999, 999, 999, 999, 999, 2, 1, 1, 0, 1, 999, 1, 2, 999, 999, 999, 999, 999, 999, 999, 999, 1, 0, 1, 999, 999, 999, 999, 999, 999, 999, 999, 999, 999, 999, 1, 0, 1, 999, 999, 999, 1, 1, 999, 999, 999, 999, 1, 999, 1, 0, 1, 999, 1, 999, 999, 999, 2, 1, 1, 2, 999, 999, 1, 0, 1, 999, 999, 999, 999, 999, 999, 999, 999, 999, 999, 999, 1, 0, 1, 999, 999, 999, 999, 999, 999, 999, 999, 999, 1, 999, 1, 0, 1, 1, 999, 999, 999, 999, 999, 999, 1, 999, 999, 999, 1, 0, 1, 999, 999, 999, 999, 999, 999, 1, 999, 999, 999, 1, 1, 0, 1, 999, 999, 999, 999, 999, 999, 999, 999, 999, 999, 999, 1, 0], [0, 1, 2, 2, 3, 999, 3, 2, 999, 999, 999, 999, 999, 1, 0, 1, 1, 2, 999, 2, 1, 999, 999, 999, 999, 999, 2, 1, 0, 1, 2, 999, 2, 1, 999, 999, 999, 999, 999, 2, 1, 1, 0, 1, 999, 1, 2, 999, 999, 999, 999, 999, 3, 2, 2, 1, 0, 1, 2, 3, 999, 999, 999, 999, 999, 999, 999, 999, 999, 1, 0, 1, 999, 999, 999, 1, 1, 999, 3, 2, 2, 1, 2, 1, 0, 1, 999, 1, 999, 999, 999, 2, 1, 1, 2, 3, 999, 1, 0, 1, 999, 999, 999, 999, 999, 999, 999, 999, 999, 999, 999, 1, 0, 1, 999, 999, 999, 999, 999, 999, 999, 999, 999, 1, 999, 1, 0, 1, 1, 999, 999, 999, 999, 999, 999, 1, 999, 999, 999, 1, 0, 1, 999, 999, 999, 999, 999, 999, 1, 999, 999, 999, 1, 1, 0, 1, 999, 999, 999, 999, 999, 999, 999, 999, 999, 999, 999, 1, 0], [0, 1, 2, 2, 3, 4, 3, 2, 999, 999, 999, 999, 999, 1, 0, 1, 1, 2, 3, 2, 1, 999, 999, 999, 999, 999, 2, 1, 0, 1, 2, 3, 2, 1, 999, 999, 999, 999, 999, 2, 1, 1, 0, 1, 2, 1, 2, 999, 999, 999, 999, 999, 3, 2, 2, 1, 0, 1, 2, 3, 999, 999, 999, 999, 999, 4, 3, 3, 2, 1, 0, 1, 4, 999, 999, 1, 1, 999, 3, 2, 2, 1, 2, 1, 0, 1, 999, 1, 999, 999, 999, 2, 1, 1, 2, 3, 4, 1, 0, 1, 999, 999, 999, 999, 999, 999, 999, 999, 999, 999, 999, 1, 0, 1, 999, 999, 999, 999, 999, 999, 999, 999, 999, 1, 999, 1, 0, 1, 1, 999, 999, 999, 999, 999, 999, 1, 999, 999, 999, 1, 0, 1, 999, 999, 999, 999, 999, 999, 1, 999, 999, 999, 1, 1, 0, 1, 999, 999, 999, 999, 999, 999, 999, 999, 999, 999, 999, 1, 0], [0, 1, 2, 2, 3, 4, 3, 2, 999, 999, 5, 5, 999, 1, 0, 1, 1, 2, 3, 2, 1, 999, 999, 4, 4, 999, 2, 1, 0, 1, 2, 3, 2, 1, 999, 999, 4, 4, 999, 2, 1, 1, 0, 1, 2, 1, 2, 999, 999, 3, 3, 999, 3, 2, 2, 1, 0, 1, 2, 3, 999, 999, 2, 2, 999, 4, 3, 3, 2, 1, 0, 1, 4, 999, 999, 1, 1, 999, 3, 2, 2, 1, 2, 1, 0, 1, 999, 1, 2, 2, 999, 2, 1, 1, 2, 3, 4, 1, 0, 1, 999, 5, 5, 999, 999, 999, 999, 999, 999, 999, 999, 1, 0, 1, 999, 999, 999, 999, 999, 999, 999, 999, 999, 1, 999, 1, 0, 1, 1, 999, 5, 4, 4, 3, 2, 1, 2, 5, 999, 1, 0, 1, 999, 5, 4, 4, 3, 2, 1, 2, 5, 999, 1, 1, 0, 1, 999, 999, 999, 999, 999, 999, 999, 999, 999, 999, 999, 1, 0], [0, 1, 2, 2, 3, 4, 3, 2, 999, 4, 5, 5, 999, 1, 0, 1, 1, 2, 3, 2, 1, 999, 3, 4, 4, 999, 2, 1, 0, 1, 2, 3, 2, 1, 999, 3, 4, 4, 999, 2, 1, 1, 0, 1, 2, 1, 2, 999, 2, 3, 3, 999, 3, 2, 2, 1, 0, 1, 2, 3, 999, 3, 2, 2, 999, 4, 3, 3, 2, 1, 0, 1, 2, 999, 2, 1, 1, 999, 3, 2, 2, 1, 2, 1, 0, 1, 999, 1, 2, 2, 999, 2, 1, 1, 2, 3, 2, 1, 0, 1, 2, 3, 3, 999, 999, 999, 999, 999, 999, 999, 999, 1, 0, 1, 999, 999, 999, 4, 3, 3, 2, 3, 2, 1, 2, 1, 0, 1, 1, 999, 5, 4, 4, 3, 2, 1, 2, 3, 999, 1, 0, 1, 999, 5, 4, 4, 3, 2, 1, 2, 3, 999, 1, 1, 0, 1, 999, 999, 999, 999, 999, 999, 999, 999, 999, 999, 999, 1, 0], [0, 1, 2, 2, 3, 4, 3, 2, 3, 4, 5, 5, 999, 1, 0, 1, 1, 2, 3, 2, 1, 2, 3, 4, 4, 999, 2, 1, 0, 1, 2, 3, 2, 1, 2, 3, 4, 4, 999, 2, 1, 1, 0, 1, 2, 1, 2, 3, 2, 3, 3, 999, 3, 2, 2, 1, 0, 1, 2, 3, 4, 3, 2, 2, 999, 4, 3, 3, 2, 1, 0, 1, 2, 3, 2, 1, 1, 999, 3, 2, 2, 1, 2, 1, 0, 1, 2, 1, 2, 2, 999, 2, 1, 1, 2, 3, 2, 1, 0, 1, 2, 3, 3, 999, 3, 2, 2, 3, 4, 3, 2, 1, 0, 1, 4, 4, 999, 4, 3, 3, 2, 3, 2, 1, 2, 1, 0, 1, 1, 999, 5, 4, 4, 3, 2, 1, 2, 3, 4, 1, 0, 1, 999, 5, 4, 4, 3, 2, 1, 2, 3, 4, 1, 1, 0, 1, 999, 999, 999, 999, 999, 999, 999, 999, 999, 999, 999, 1, 0], [0, 1, 2, 2, 3, 4, 3, 2, 3, 4, 5, 5, 999, 1, 0, 1, 1, 2, 3, 2, 1, 2, 3, 4, 4, 999, 2, 1, 0, 1, 2, 3, 2, 1, 2, 3, 4, 4, 999, 2, 1, 1, 0, 1, 2, 1, 2, 3, 2, 3, 3, 999, 3, 2, 2, 1, 0, 1, 2, 3, 4, 3, 2, 2, 999, 4, 3, 3, 2, 1, 0, 1, 2, 3, 2, 1, 1, 999, 3, 2, 2, 1, 2, 1, 0, 1, 2, 1, 2, 2, 999, 2, 1, 1, 2, 3, 2, 1, 0, 1, 2, 3, 3, 999, 3, 2, 2, 3, 4, 3, 2, 1, 0, 1, 4, 4, 999, 4, 3, 3, 2, 3, 2, 1, 2, 1, 0, 1, 1, 999, 5, 4, 4, 3, 2, 1, 2, 3, 4, 1, 0, 1, 999, 5, 4, 4, 3, 2, 1, 2, 3, 4, 1, 1, 0, 1, 999, 999, 999, 999, 999, 999, 999, 999, 999, 999, 999, 1, 0], [0, 1, 2, 2, 3, 4, 3, 2, 3, 4, 5, 5, 999, 1, 0, 1, 1, 2, 3, 2, 1, 2, 3, 4, 4, 999, 2, 1, 0, 1, 2, 3, 2, 1, 2, 3, 4, 4, 999, 2, 1, 1, 0, 1, 2, 1, 2, 3, 2, 3, 3, 999, 3, 2, 2, 1, 0, 1, 2, 3, 4, 3, 2, 2, 999, 4, 3, 3, 2, 1, 0, 1, 2, 3, 2, 1, 1, 999, 3, 2, 2, 1, 2, 1, 0, 1, 2, 1, 2, 2, 999, 2, 1, 1, 2, 3, 2, 1, 0, 1, 2, 3, 3, 999, 3, 2, 2, 3, 4, 3, 2, 1, 0, 1, 2, 2, 999, 4, 3, 3, 2, 3, 2, 1, 2, 1, 0, 1, 1, 999, 5, 4, 4, 3, 2, 1, 2, 3, 2, 1, 0, 1, 999, 5, 4, 4, 3, 2, 1, 2, 3, 2, 1, 1, 0, 1, 999, 999, 999, 999, 999, 999, 999, 999, 999, 999, 999, 1, 0], [0, 1, 2, 2, 3, 4, 3, 2, 3, 4, 5, 5, 999, 1, 0, 1, 1, 2, 3, 2, 1, 2, 3, 4, 4, 999, 2, 1, 0, 1, 2, 3, 2, 1, 2, 3, 4, 4, 999, 2, 1, 1, 0, 1, 2, 1, 2, 3, 2, 3, 3, 999, 3, 2, 2, 1, 0, 1, 2, 3, 4, 3, 2, 2, 999, 4, 3, 3, 2, 1, 0, 1, 2, 3, 2, 1, 1, 999, 3, 2, 2, 1, 2, 1, 0, 1, 2, 1, 2, 2, 999, 2, 1, 1, 2, 3, 2, 1, 0, 1, 2, 3, 3, 999, 3, 2, 2, 3, 4, 3, 2, 1, 0, 1, 2, 2, 999, 4, 3, 3, 2, 3, 2, 1, 2, 1, 0, 1, 1, 999, 5, 4, 4, 3, 2, 1, 2, 3, 2, 1, 0, 1, 999, 5, 4, 4, 3, 2, 1, 2, 3, 2, 1, 1, 0, 1, 999, 999, 999, 999, 999, 999, 999, 999, 999, 999, 999, 1, 0], [0, 1, 2, 2, 3, 4, 3, 2, 3, 4, 5, 5, 6, 1, 0, 1, 1, 2, 3, 2, 1, 2, 3, 4, 4, 5, 2, 1, 0, 1, 2, 3, 2, 1, 2, 3, 4, 4, 5, 2, 1, 1, 0, 1, 2, 1, 2, 3, 2, 3, 3, 4, 3, 2, 2, 1, 0, 1, 2, 3, 4, 3, 2, 2, 3, 4, 3, 3, 2, 1, 0, 1, 2, 3, 2, 1, 1, 2, 3, 2, 2, 1, 2, 1, 0, 1, 2, 1, 2, 2, 3, 2, 1, 1, 2, 3, 2, 1, 0, 1, 2, 3, 3, 4, 3, 2, 2, 3, 4, 3, 2, 1, 0, 1, 2, 2, 3, 4, 3, 3, 2, 3, 2, 1, 2, 1, 0, 1, 1, 2, 5, 4, 4, 3, 2, 1, 2, 3, 2, 1, 0, 1, 2, 5, 4, 4, 3, 2, 1, 2, 3, 2, 1, 1, 0, 1, 6, 5, 5, 4, 3, 2, 3, 4, 3, 2, 2, 1, 0], [0, 1, 2, 2, 3, 4, 3, 2, 3, 4, 5, 5, 6, 1, 0, 1, 1, 2, 3, 2, 1, 2, 3, 4, 4, 5, 2, 1, 0, 1, 2, 3, 2, 1, 2, 3, 4, 4, 5, 2, 1, 1, 0, 1, 2, 1, 2, 3, 2, 3, 3, 4, 3, 2, 2, 1, 0, 1, 2, 3, 4, 3, 2, 2, 3, 4, 3, 3, 2, 1, 0, 1, 2, 3, 2, 1, 1, 2, 3, 2, 2, 1, 2, 1, 0, 1, 2, 1, 2, 2, 3, 2, 1, 1, 2, 3, 2, 1, 0, 1, 2, 3, 3, 4, 3, 2, 2, 3, 4, 3, 2, 1, 0, 1, 2, 2, 3, 4, 3, 3, 2, 3, 2, 1, 2, 1, 0, 1, 1, 2, 5, 4, 4, 3, 2, 1, 2, 3, 2, 1, 0, 1, 2, 5, 4, 4, 3, 2, 1, 2, 3, 2, 1, 1, 0, 1, 6, 5, 5, 4, 3, 2, 3, 4, 3, 2, 2, 1, 0]]
def dS (m k : Nat) : Nat := (dsT.getD m []).getD k 0
theorem dS_0 : ∀ k, k < 169 → (dS 0 k = (if k / 13 = k % 13 then 0 else if bi (neT (k / 13)) (k % 13) = 1 then 1 else 999)) := by decide +kernel
theorem dS_l : ∀ m, m < 14 → ∀ k, k < 169 → dS m k ≤ 999 := by decide +kernel
theorem dS_d : ∀ m, m < 13 → ∀ k, k < 169 → dS (m + 1) k ≤ dS m k := by decide +kernel
theorem dS_m : ∀ m, m < 13 → ∀ k, k < 169 → (dS (m + 1) k = dS m k ∨ dS (m + 1) k = dS m (13 * (k / 13) + m) + dS m (13 * m + k % 13)) := by decide +kernel
theorem dS_e : ∀ k, k < 169 → dS 13 k = stp (k / 13) (k % 13) := by decide +kernel
theorem dS_t : ∀ m, m < 13 → ∀ k, k < 169 → dS 13 k ≤ dS 13 (13 * (k / 13) + m) + dS 13 (13 * m + k % 13) := by decide +kernel
theorem dS_13 (m : Nat) : ∀ n, m + n = 13 → ∀ k, k < 169 → dS 13 k ≤ dS m k := by
  intro n
  induction n generalizing m with
  | zero => intro h k hk; rw [show m = 13 by omega]; exact Nat.le_refl _
  | succ n ih => intro h k hk; exact Nat.le_trans (ih (m + 1) (by omega) k hk) (dS_d m (by omega) k hk)
/-- row 57 in the sweep over m, at k -/
def Fl (g : Nat → Int32) (m k : Nat) : Prop := ∀ j, j < 169 → ∃ v, g j = nI v ∧ dS 13 j ≤ v ∧ v ≤ (if j < k then dS (m + 1) j else dS m j)
theorem Fl_r {g : Nat → Int32} {m k j : Nat} (h : Fl g m k) (hm : m < 13) (hj : j < 169) : ∃ v, g j = nI v ∧ dS 13 j ≤ v ∧ v ≤ dS m j ∧ v ≤ 999 := by
  obtain ⟨v, h1, h2, h3⟩ := h j hj
  have q1 := dS_d m hm j hj
  have q2 := dS_l m (by omega) j hj
  have q : v ≤ dS m j := by
    split at h3 <;> omega
  exact ⟨v, h1, h2, q, by omega⟩
theorem Fl_s {g : Nat → Int32} {m k v a b : Nat} (h : Fl g m k) (hm : m < 13) (hk : k < 169) (ha : dS 13 (13 * (k / 13) + m) ≤ a ∧ a ≤ dS m (13 * (k / 13) + m)) (hb : dS 13 (13 * m + k % 13) ≤ b ∧ b ≤ dS m (13 * m + k % 13)) (hv : dS 13 k ≤ v ∧ v ≤ dS m k) : Fl (upd g k (nI (if a + b < v then a + b else v))) m (k + 1) := by
  intro j hj
  by_cases e : j = k
  · subst e
    have q1 := dS_t m hm j hj
    have q2 := dS_m m hm j hj
    have q3 := dS_d m hm j hj
    by_cases c : a + b < v
    · rw [if_pos c]
      refine ⟨a + b, by unfold upd; rw [if_pos rfl], by omega, ?_⟩
      rw [if_pos (Nat.lt_succ_self j)]
      omega
    · rw [if_neg c]
      refine ⟨v, by unfold upd; rw [if_pos rfl], by omega, ?_⟩
      rw [if_pos (Nat.lt_succ_self j)]
      omega
  · obtain ⟨u, h1, h2, h3⟩ := h j hj
    refine ⟨u, by unfold upd; rw [if_neg e]; exact h1, h2, ?_⟩
    by_cases q : j < k
    · rw [if_pos (by omega)]; rw [if_pos q] at h3; exact h3
    · rw [if_neg (by omega)]; rw [if_neg q] at h3; exact h3
theorem Fl_n {g : Nat → Int32} {m : Nat} (h : Fl g m 169) : Fl g (m + 1) 0 := fun j hj => by
  obtain ⟨u, h1, h2, h3⟩ := h j hj
  rw [if_pos hj] at h3
  exact ⟨u, h1, h2, by rw [if_neg (by omega)]; exact h3⟩
theorem Fl_e {g : Nat → Int32} (h : Fl g 13 0) : ∀ r s, r < 13 → s < 13 → g (13 * r + s) = nI (stp r s) := fun r s hr hs => by
  obtain ⟨u, h1, h2, h3⟩ := h (13 * r + s) (by omega)
  rw [if_neg (by omega)] at h3
  have e := dS_e (13 * r + s) (by omega)
  rw [show (13 * r + s) / 13 = r by omega, show (13 * r + s) % 13 = s by omega] at e
  rw [h1, show u = stp r s by omega]
def q_X7_findSteps : x_K := (1, fun as S M => T56 M ∧ S = SH ∧ as = [.inr (.inl 53)], fun as S M rv_ S' M' => as = [.inr (.inl 53)] → S' = S ∧ (∃ gI, M' = x_row M 57 gI) ∧ T57 M' ∧ rv_ = none, 0, 0)
theorem r_X7_findSteps : ∀ as S M, q_X7_findSteps.2.1 as S M → ∃ (k : Nat) (as' : List x_V) (fs : List (Option Nat)), as = .inr (.inl k) :: as' ∧ S[k]? = some (.inl (5, fs)) := by
  rintro as S M ⟨-, rfl, rfl⟩
  exact ⟨53, _, _, rfl, rfl⟩
def b_X7_findSteps : x_B := [(0, 1, [(.iconst 0, 1), (.istore_n 1, 1)]),
  (2, 2, [(.iload_n 1, 1), (.sipush 169, 3), (.if_icmp .ge 57, 3), (.aload_n 0, 1), (.getfield 19, 3), (.iload_n 1, 1), (.iload_n 1, 1), (.bipush 13, 2), (.idiv, 1), (.iload_n 1, 1), (.bipush 13, 2), (.irem, 1), (.if_icmp .ne 7, 3), (.iconst 0, 1), (.goto 30, 3)]),
  (29, 2, [(.aload_n 0, 1), (.getfield 16, 3), (.iload_n 1, 1), (.bipush 13, 2), (.idiv, 1), (.iaload, 1), (.iload_n 1, 1), (.bipush 13, 2), (.irem, 1), (.ishr, 1), (.iconst 1, 1), (.iand, 1), (.iconst 1, 1), (.if_icmp .ne 7, 3), (.iconst 1, 1), (.goto 6, 3)]),
  (53, 2, [(.sipush 999, 3)]),
  (56, 2, [(.iastore, 1), (.iinc 1 1, 3), (.goto (-58), 3)]),
  (63, 2, [(.iconst 0, 1), (.istore_n 1, 1)]),
  (65, 2, [(.iload_n 1, 1), (.bipush 13, 2), (.if_icmp .ge 80, 3), (.iconst 0, 1), (.istore_n 2, 1)]),
  (73, 3, [(.iload_n 2, 1), (.sipush 169, 3), (.if_icmp .ge 65, 3), (.aload_n 0, 1), (.getfield 19, 3), (.bipush 13, 2), (.iload_n 2, 1), (.bipush 13, 2), (.idiv, 1), (.imul, 1), (.iload_n 1, 1), (.iadd, 1), (.iaload, 1), (.aload_n 0, 1), (.getfield 19, 3), (.bipush 13, 2), (.iload_n 1, 1), (.imul, 1), (.iload_n 2, 1), (.bipush 13, 2), (.irem, 1), (.iadd, 1), (.iaload, 1), (.iadd, 1), (.istore_n 3, 1), (.aload_n 0, 1), (.getfield 19, 3), (.iload_n 2, 1), (.iload_n 3, 1), (.aload_n 0, 1), (.getfield 19, 3), (.iload_n 2, 1), (.iaload, 1), (.if_icmp .ge 7, 3), (.iload_n 3, 1), (.goto 9, 3)]),
  (129, 4, [(.aload_n 0, 1), (.getfield 19, 3), (.iload_n 2, 1), (.iaload, 1)]),
  (135, 4, [(.iastore, 1), (.iinc 2 1, 3), (.goto (-66), 3)]),
  (142, 3, [(.iinc 1 1, 3), (.goto (-80), 3)]),
  (148, 2, [(.return_, 1)])]
theorem b_X7_findSteps_ok : x_okB cX7_findSteps 4 b_X7_findSteps = true := by decide +kernel
def X_X7_findSteps : x_X := ([(19, 5, 3), (16, 5, 2)], [], [], [], [], (0, 0), x_kn, x_kf, 5, false)
theorem X_X7_findSteps_ok : x_okT RX7 X_X7_findSteps = true := by decide +kernel
theorem k_X7_findSteps (l : Launch) : ∀ z ∈ X_X7_findSteps.2.2.2.2.1, x_Cal l (x_rm 1 0 0) cX7_findSteps RX7 4 z.1 z.2 := fun _ h => absurd h List.not_mem_nil
set_option maxHeartbeats 4000000 in
set_option maxRecDepth 100000 in
theorem c_X7_findSteps (l : Launch) : x_CT l yX7_findSteps cX7_findSteps 4 none 1 q_X7_findSteps := by
  refine x_meth (X := X_X7_findSteps) (bl := b_X7_findSteps) (cut := [2, 65, 73]) (own := RX7) 30 (by decide) rfl X_X7_findSteps_ok b_X7_findSteps_ok rfl (Nat.le_of_ble_eq_true rfl) (k_X7_findSteps l) ?_
  rintro as S M - ⟨h56, rfl, rfl⟩
  refine ⟨fun μ pc ls st S' M' cs sl => (∃ (k : Nat) (gI : Nat → Int32), k ≤ 169 ∧ M' = x_row M 57 gI ∧ (∀ j, j < k → gI j = nI (dS 0 j)) ∧ pc = 2 ∧ st = [] ∧ S' = SH ∧ cs = 0 ∧ sl = 0 ∧ ls = [.inr (.inl 53), .inl (nI k)] ∧ μ = 20000 + (169 - k)) ∨ (∃ (m : Nat) (gI : Nat → Int32), m ≤ 13 ∧ M' = x_row M 57 gI ∧ Fl gI m 0 ∧ pc = 65 ∧ st = [] ∧ S' = SH ∧ cs = 0 ∧ sl = 0 ∧ ls = [.inr (.inl 53), .inl (nI m)] ∧ μ = (14 - m) * 1000 + 500) ∨ (∃ (m k : Nat) (gI : Nat → Int32), m < 13 ∧ k ≤ 169 ∧ M' = x_row M 57 gI ∧ Fl gI m k ∧ pc = 73 ∧ st = [] ∧ S' = SH ∧ cs = 0 ∧ sl = 0 ∧ ls = [.inr (.inl 53), .inl (nI m), .inl (nI k)] ∧ μ = (14 - m) * 1000 + (169 - k)), ?_, ?_⟩
  · skip
    refine xt_blk rfl rfl (by dsimp only [List.take]) ?_
    refine xt_ic ?_
    refine xt_isn1 rfl (by dsimp only [x_sto]) ?_
    refine xt_nil (t := 2) rfl ?_
    refine xt_cut rfl rfl (by dsimp only [List.take]) ?_
    exact ⟨_, Or.inl ⟨0, M 57, by omega, by rw [x_row_id], fun j hj => by omega, rfl, rfl, rfl, rfl, rfl, rfl, rfl⟩⟩
  · rintro μ pc ls st S2 M2 cs sl (⟨k, gI, hk, rfl, hF, rfl, rfl, rfl, rfl, rfl, rfl, rfl⟩ | ⟨m, gI, hm, rfl, hF, rfl, rfl, rfl, rfl, rfl, rfl, rfl⟩ | ⟨m, k, gI, hm, hk, rfl, hF, rfl, rfl, rfl, rfl, rfl, rfl, rfl⟩)
    · refine ⟨_, rfl, ?_⟩
      refine xt_iln1 rfl ?_
      refine xt_si ?_
      refine xt_cge (t := 63) rfl (fun hc_6 => ?_) (fun hc_6 => ?_)
      · skip
        refine xt_blk rfl rfl (by dsimp only [List.take]) ?_
        refine xt_ic ?_
        refine xt_isn1 rfl (by dsimp only [x_sto]) ?_
        refine xt_nil (t := 65) rfl ?_
        refine xt_cut rfl rfl (by dsimp only [List.take]) ?_
        have hk9 : k = 169 := by rw [nI_leI (by omega) (by omega)] at hc_6; omega
        subst hk9
        exact ⟨14 * 1000 + 500, by omega, Or.inr (Or.inl ⟨0, gI, by omega, rfl, fun j hj => ⟨dS 0 j, hF j hj, dS_13 0 13 rfl j hj, by rw [if_neg (by omega)]; exact Nat.le_refl _⟩, rfl, rfl, rfl, rfl, rfl, rfl, rfl⟩)⟩
      · skip
        have hk9 : k < 169 := by rw [nI_leI (by omega) (by omega)] at hc_6; omega
        have ed : nI k / nI 13 = nI (k / 13) := pk_div (by omega) (by decide) (by decide)
        have er : nI k - nI k / nI 13 * nI 13 = nI (k % 13) := pk_rem (by omega) (by decide) (by decide)
        have hb := bi_lt (neT (k / 13)) (k % 13)
        have hne := neT_lt (k / 13)
        have e56 : (x_row M 57 gI) 56 (nI k / nI 13).toNatClampNeg = nI (neT (k / 13)) := by rw [ed, nI_clamp (by omega), x_row_ne _ _ (by decide)]; exact h56 _ (by omega)
        have e0 := dS_0 k hk9
        refine xt_aln0 rfl (by first | decide | omega | assumption) ?_
        refine xt_gfr (q := (5, 3)) rfl (by first | rfl | assumption) rfl ?_
        refine xt_iln1 rfl ?_
        refine xt_iln1 rfl ?_
        refine xt_bi ?_
        refine xt_div (by decide) ?_
        refine xt_iln1 rfl ?_
        refine xt_bi ?_
        refine xt_rem (by decide) ?_
        refine xt_cne (t := 29) rfl (fun hc_22 => ?_) (fun hc_22 => ?_)
        · skip
          rw [er, ed, nI_eq (by omega) (by omega)] at hc_22
          refine xt_blk rfl rfl (by dsimp only [List.take]) ?_
          refine xt_aln0 rfl (by first | decide | omega | assumption) ?_
          refine xt_gfr (q := (5, 2)) rfl (by first | rfl | assumption) rfl ?_
          refine xt_iln1 rfl ?_
          refine xt_bi ?_
          refine xt_div (by decide) ?_
          refine xt_ial (by first | rfl | assumption) (show vp_in _ 13 from by rw [ed]; exact vp_in_nI (by omega) (by decide)) ?_
          refine xt_iln1 rfl ?_
          refine xt_bi ?_
          refine xt_rem (by decide) ?_
          refine xt_shr ?_
          refine xt_ic ?_
          refine xt_and ?_
          refine xt_ic ?_
          refine xt_cne (t := 53) rfl (fun hc_46 => ?_) (fun hc_46 => ?_)
          · skip
            rw [e56, er, n_bit (by omega) (by omega), nI_eq (by omega) (by omega)] at hc_46
            refine xt_blk rfl rfl (by dsimp only [List.take]) ?_
            refine xt_si ?_
            refine xt_nil (t := 56) rfl ?_
            refine xt_blk rfl rfl (by dsimp only [List.take]) ?_
            refine xt_ias (by first | rfl | assumption) (show vp_in _ 169 from vp_in_nI hk9 (by decide)) ?_
            refine xt_inc rfl (by dsimp only [x_sto]) ?_
            refine xt_goto (t := 2) rfl ?_
            refine xt_cut rfl rfl (by dsimp only [List.take]) ?_
            rw [if_neg hc_22, if_neg (show ¬ bi (neT (k / 13)) (k % 13) = 1 from hc_46)] at e0
            refine ⟨20000 + (169 - (k + 1)), by omega, Or.inl ⟨k + 1, upd gI k (nI 999), by omega, by rw [x_row_self, x_row_row, nI_clamp (by omega)], fun j hj => ?_, rfl, rfl, rfl, rfl, rfl, by rw [nI_add], rfl⟩⟩
            unfold upd
            by_cases e : j = k
            · subst e; rw [if_pos rfl, e0]
            · rw [if_neg e]; exact hF j (by omega)
          · skip
            rw [e56, er, n_bit (by omega) (by omega), nI_eq (by omega) (by omega)] at hc_46
            refine xt_ic ?_
            refine xt_goto (t := 56) rfl ?_
            refine xt_blk rfl rfl (by dsimp only [List.take]) ?_
            refine xt_ias (by first | rfl | assumption) (show vp_in _ 169 from vp_in_nI hk9 (by decide)) ?_
            refine xt_inc rfl (by dsimp only [x_sto]) ?_
            refine xt_goto (t := 2) rfl ?_
            refine xt_cut rfl rfl (by dsimp only [List.take]) ?_
            rw [if_neg hc_22, if_pos (show bi (neT (k / 13)) (k % 13) = 1 from hc_46)] at e0
            refine ⟨20000 + (169 - (k + 1)), by omega, Or.inl ⟨k + 1, upd gI k (nI 1), by omega, by rw [x_row_self, x_row_row, nI_clamp (by omega)], fun j hj => ?_, rfl, rfl, rfl, rfl, rfl, by rw [nI_add], rfl⟩⟩
            unfold upd
            by_cases e : j = k
            · subst e; rw [if_pos rfl, e0]
            · rw [if_neg e]; exact hF j (by omega)
        · skip
          rw [er, ed, nI_eq (by omega) (by omega)] at hc_22
          refine xt_ic ?_
          refine xt_goto (t := 56) rfl ?_
          refine xt_blk rfl rfl (by dsimp only [List.take]) ?_
          refine xt_ias (by first | rfl | assumption) (show vp_in _ 169 from vp_in_nI hk9 (by decide)) ?_
          refine xt_inc rfl (by dsimp only [x_sto]) ?_
          refine xt_goto (t := 2) rfl ?_
          refine xt_cut rfl rfl (by dsimp only [List.take]) ?_
          rw [if_pos hc_22] at e0
          refine ⟨20000 + (169 - (k + 1)), by omega, Or.inl ⟨k + 1, upd gI k (nI 0), by omega, by rw [x_row_self, x_row_row, nI_clamp (by omega)], fun j hj => ?_, rfl, rfl, rfl, rfl, rfl, by rw [nI_add], rfl⟩⟩
          unfold upd
          by_cases e : j = k
          · subst e; rw [if_pos rfl, e0]
          · rw [if_neg e]; exact hF j (by omega)
    · refine ⟨_, rfl, ?_⟩
      refine xt_iln1 rfl ?_
      refine xt_bi ?_
      refine xt_cge (t := 148) rfl (fun hc_68 => ?_) (fun hc_68 => ?_)
      · skip
        refine xt_blk rfl rfl (by dsimp only [List.take]) ?_
        refine xt_rv rfl (Nat.le_refl _) ?_
        intro e2
        have hm13 : m = 13 := by rw [nI_leI (by omega) (by omega)] at hc_68; omega
        subst hm13
        exact ⟨rfl, ⟨gI, rfl⟩, fun r s hr hs => by rw [x_row_self]; exact Fl_e hF r s hr hs, rfl⟩
      · skip
        have hm13 : m < 13 := by rw [nI_leI (by omega) (by omega)] at hc_68; omega
        refine xt_ic ?_
        refine xt_isn2 rfl (by dsimp only [x_sto]) ?_
        refine xt_nil (t := 73) rfl ?_
        refine xt_cut rfl rfl (by dsimp only [List.take]) ?_
        exact ⟨(14 - m) * 1000 + (169 - 0), by omega, Or.inr (Or.inr ⟨m, 0, gI, hm13, by omega, rfl, hF, rfl, rfl, rfl, rfl, rfl, rfl, rfl⟩)⟩
    · refine ⟨_, rfl, ?_⟩
      refine xt_iln2 rfl ?_
      refine xt_si ?_
      refine xt_cge (t := 142) rfl (fun hc_77 => ?_) (fun hc_77 => ?_)
      · skip
        refine xt_blk rfl rfl (by dsimp only [List.take]) ?_
        refine xt_inc rfl (by dsimp only [x_sto]) ?_
        refine xt_goto (t := 65) rfl ?_
        refine xt_cut rfl rfl (by dsimp only [List.take]) ?_
        have hk9 : k = 169 := by rw [nI_leI (by omega) (by omega)] at hc_77; omega
        subst hk9
        exact ⟨(14 - (m + 1)) * 1000 + 500, by omega, Or.inr (Or.inl ⟨m + 1, gI, by omega, rfl, Fl_n hF, rfl, rfl, rfl, rfl, rfl, by rw [nI_add], rfl⟩)⟩
      · skip
        have hk9 : k < 169 := by rw [nI_leI (by omega) (by omega)] at hc_77; omega
        have ed : nI k / nI 13 = nI (k / 13) := pk_div (by omega) (by decide) (by decide)
        have er : nI k - nI k / nI 13 * nI 13 = nI (k % 13) := pk_rem (by omega) (by decide) (by decide)
        have i1 : nI 13 * (nI k / nI 13) + nI m = nI (13 * (k / 13) + m) := by rw [ed, pk_mul, nI_add]
        have i2 : nI 13 * nI m + (nI k - nI k / nI 13 * nI 13) = nI (13 * m + k % 13) := by rw [er, pk_mul, nI_add]
        obtain ⟨a, ga, a1, a2, a3⟩ := Fl_r hF hm (j := 13 * (k / 13) + m) (by omega)
        obtain ⟨b, gb, b1, b2, b3⟩ := Fl_r hF hm (j := 13 * m + k % 13) (by omega)
        obtain ⟨v, gv, v1, v2, v3⟩ := Fl_r hF hm (j := k) hk9
        have j1 : (x_row M 57 gI) 57 (nI 13 * (nI k / nI 13) + nI m).toNatClampNeg = nI a := by rw [i1, nI_clamp (by omega), x_row_self]; exact ga
        have j2 : (x_row M 57 gI) 57 (nI 13 * nI m + (nI k - nI k / nI 13 * nI 13)).toNatClampNeg = nI b := by rw [i2, nI_clamp (by omega), x_row_self]; exact gb
        have j3 : (x_row M 57 gI) 57 (nI k).toNatClampNeg = nI v := by rw [nI_clamp (by omega), x_row_self]; exact gv
        have hstep := Fl_s hF hm hk9 ⟨a1, a2⟩ ⟨b1, b2⟩ ⟨v1, v2⟩
        refine xt_aln0 rfl (by first | decide | omega | assumption) ?_
        refine xt_gfr (q := (5, 3)) rfl (by first | rfl | assumption) rfl ?_
        refine xt_bi ?_
        refine xt_iln2 rfl ?_
        refine xt_bi ?_
        refine xt_div (by decide) ?_
        refine xt_mul ?_
        refine xt_iln1 rfl ?_
        refine xt_add ?_
        refine xt_ial (by first | rfl | assumption) (show vp_in _ 169 from by rw [i1]; exact vp_in_nI (by omega) (by decide)) ?_
        refine xt_aln0 rfl (by first | decide | omega | assumption) ?_
        refine xt_gfr (q := (5, 3)) rfl (by first | rfl | assumption) rfl ?_
        refine xt_bi ?_
        refine xt_iln1 rfl ?_
        refine xt_mul ?_
        refine xt_iln2 rfl ?_
        refine xt_bi ?_
        refine xt_rem (by decide) ?_
        refine xt_add ?_
        refine xt_ial (by first | rfl | assumption) (show vp_in _ 169 from by rw [i2]; exact vp_in_nI (by omega) (by decide)) ?_
        refine xt_add ?_
        refine xt_isn3 rfl (by dsimp only [x_sto]) ?_
        refine xt_aln0 rfl (by first | decide | omega | assumption) ?_
        refine xt_gfr (q := (5, 3)) rfl (by first | rfl | assumption) rfl ?_
        refine xt_iln2 rfl ?_
        refine xt_iln3 rfl ?_
        refine xt_aln0 rfl (by first | decide | omega | assumption) ?_
        refine xt_gfr (q := (5, 3)) rfl (by first | rfl | assumption) rfl ?_
        refine xt_iln2 rfl ?_
        refine xt_ial (by first | rfl | assumption) (show vp_in _ 169 from vp_in_nI hk9 (by decide)) ?_
        refine xt_cge (t := 129) rfl (fun hc_122 => ?_) (fun hc_122 => ?_)
        · skip
          rw [j1, j2, j3, nI_add, nI_leI (by omega) (by omega)] at hc_122
          refine xt_blk rfl rfl (by dsimp only [List.take]) ?_
          refine xt_aln0 rfl (by first | decide | omega | assumption) ?_
          refine xt_gfr (q := (5, 3)) rfl (by first | rfl | assumption) rfl ?_
          refine xt_iln2 rfl ?_
          refine xt_ial (by first | rfl | assumption) (show vp_in _ 169 from vp_in_nI hk9 (by decide)) ?_
          refine xt_nil (t := 135) rfl ?_
          refine xt_blk rfl rfl (by dsimp only [List.take]) ?_
          refine xt_ias (by first | rfl | assumption) (show vp_in _ 169 from vp_in_nI hk9 (by decide)) ?_
          refine xt_inc rfl (by dsimp only [x_sto]) ?_
          refine xt_goto (t := 73) rfl ?_
          refine xt_cut rfl rfl (by dsimp only [List.take]) ?_
          rw [if_neg (by omega)] at hstep
          exact ⟨(14 - m) * 1000 + (169 - (k + 1)), by omega, Or.inr (Or.inr ⟨m, k + 1, _, hm, by omega, by rw [j3, x_row_self, x_row_row, nI_clamp (by omega)], hstep, rfl, rfl, rfl, rfl, rfl, by rw [nI_add], rfl⟩)⟩
        · skip
          rw [j1, j2, j3, nI_add, nI_leI (by omega) (by omega)] at hc_122
          refine xt_iln3 rfl ?_
          refine xt_goto (t := 135) rfl ?_
          refine xt_blk rfl rfl (by dsimp only [List.take]) ?_
          refine xt_ias (by first | rfl | assumption) (show vp_in _ 169 from vp_in_nI hk9 (by decide)) ?_
          refine xt_inc rfl (by dsimp only [x_sto]) ?_
          refine xt_goto (t := 73) rfl ?_
          refine xt_cut rfl rfl (by dsimp only [List.take]) ?_
          rw [if_pos (by omega)] at hstep
          exact ⟨(14 - m) * 1000 + (169 - (k + 1)), by omega, Or.inr (Or.inr ⟨m, k + 1, _, hm, by omega, by rw [j1, j2, nI_add, x_row_self, x_row_row, nI_clamp (by omega)], hstep, rfl, rfl, rfl, rfl, rfl, by rw [nI_add], rfl⟩)⟩
