/-! THE REFERENCE: draw -/
def T68 (M : x_M) : Prop := ∀ j, j < 15 → M 68 j = nI (fsT j) ∧ M 69 j = nI (scT j)
def Ex (f : Nat → Nat) (d : Nat) (s : Nat → Nat) (t : Nat) : Prop := ∀ P, Str P → Hol P f → (∃ k, k < d ∧ (∀ u, u < k → rl P u = s u) ∧ s k < rl P k) ∨ ((∀ u, u < d → rl P u = s u) ∧ t ≤ rl P d)
def Lv (M : x_M) (f : Nat → Nat) (d : Nat) (s : Nat → Nat) (g : Nat → Nat → Nat) : Prop := (∀ k, k ≤ d → Ar M k (g k)) ∧ (∀ k, k ≤ d → Sy (g k) ∧ Clo (g k) ∧ NE (g k) 0) ∧ (∀ k, k ≤ d → ∀ a, a < 6 → g k (a * 6 + a) ≠ 0) ∧ (∀ k, k ≤ d → ∀ P, Str P → (Hol P (g k) ↔ Hol P f ∧ ∀ q, q < k → rl P q = s q)) ∧ (∀ k, k ≤ d → ∀ q, q < k → s q < 13 ∧ pf (g k) q = 2 ^ s q) ∧ (∀ k, k < d → M 70 k = nI (s k + 1))
theorem Lv.at_ {M : x_M} {f : Nat → Nat} {d : Nat} {s : Nat → Nat} {g : Nat → Nat → Nat} (h : Lv M f d s g) : ∀ k, k ≤ d → Ar M k (g k) := h.1
theorem Lv.cl {M : x_M} {f : Nat → Nat} {d : Nat} {s : Nat → Nat} {g : Nat → Nat → Nat} (h : Lv M f d s g) : ∀ k, k ≤ d → Sy (g k) ∧ Clo (g k) ∧ NE (g k) 0 := h.2.1
theorem Lv.dg {M : x_M} {f : Nat → Nat} {d : Nat} {s : Nat → Nat} {g : Nat → Nat → Nat} (h : Lv M f d s g) : ∀ k, k ≤ d → ∀ a, a < 6 → g k (a * 6 + a) ≠ 0 := h.2.2.1
theorem Lv.hol {M : x_M} {f : Nat → Nat} {d : Nat} {s : Nat → Nat} {g : Nat → Nat → Nat} (h : Lv M f d s g) : ∀ k, k ≤ d → ∀ P, Str P → (Hol P (g k) ↔ Hol P f ∧ ∀ q, q < k → rl P q = s q) := h.2.2.2.1
theorem Lv.pf_ {M : x_M} {f : Nat → Nat} {d : Nat} {s : Nat → Nat} {g : Nat → Nat → Nat} (h : Lv M f d s g) : ∀ k, k ≤ d → ∀ q, q < k → s q < 13 ∧ pf (g k) q = 2 ^ s q := h.2.2.2.2.1
theorem Lv.tr {M : x_M} {f : Nat → Nat} {d : Nat} {s : Nat → Nat} {g : Nat → Nat → Nat} (h : Lv M f d s g) : ∀ k, k < d → M 70 k = nI (s k + 1) := h.2.2.2.2.2
theorem Lv_keep {M M2 : x_M} {f s : Nat → Nat} {g : Nat → Nat → Nat} {d : Nat} (h : Lv M f d s g) (h1 : ∀ j, j < 36 * (d + 1) → M2 67 j = M 67 j) (h2 : ∀ k, k < d → M2 70 k = M 70 k) : Lv M2 f d s g :=
  ⟨fun k hk j hj => ⟨(h.at_ k hk j hj).1, by rw [h1 _ (by have : 36 * k ≤ 36 * d := Nat.mul_le_mul_left _ hk; omega)]; exact (h.at_ k hk j hj).2⟩, h.cl, h.dg, h.hol, h.pf_, fun k hk => by rw [h2 k hk]; exact h.tr k hk⟩
theorem Lv_pop {M : x_M} {f s : Nat → Nat} {g : Nat → Nat → Nat} {d : Nat} (h : Lv M f (d + 1) s g) : Lv M f d s g :=
  ⟨fun k hk => h.at_ k (by omega), fun k hk => h.cl k (by omega), fun k hk => h.dg k (by omega), fun k hk => h.hol k (by omega), fun k hk => h.pf_ k (by omega), fun k hk => h.tr k (by omega)⟩
theorem Lv_push {M M2 : x_M} {f s g' : Nat → Nat} {g : Nat → Nat → Nat} {d r : Nat} (h : Lv M f d s g) (hd : d < 15) (hr : r < 13) (hbit : (pf (g d) d).testBit r = true) (hc : Cn (nw (g d) (fsT d) (scT d) (2 ^ r)) g') (h1 : ∀ j, j < 36 * (d + 1) → M2 67 j = M 67 j) (h2 : ∀ k, k < d → M2 70 k = M 70 k) (h3 : M2 70 d = nI (r + 1)) (h4 : Ar M2 (d + 1) g') : Lv M2 f (d + 1) (ups s d r) (fun k => if k = d + 1 then g' else g k) := by
  obtain ⟨f1, f2, f3, -⟩ := fs_ok d hd
  obtain ⟨hB2, hS2, hC2, hN2, hM2⟩ := hc
  obtain ⟨hS, hC, hN⟩ := h.cl d (Nat.le_refl _)
  have hv : sb (2 ^ r) (g d (fsT d * 6 + scT d)) := sb_tb.mpr (fun i hi => by
    rw [Nat.testBit_two_pow] at hi
    have hi : r = i := by simpa using hi
    rw [← hi]; exact hbit)
  obtain ⟨G, hGe⟩ : ∃ G, G = fun k => if k = d + 1 then g' else g k := ⟨_, rfl⟩
  rw [← hGe]
  have e1 : ∀ k, k ≤ d → G k = g k := fun k hk => by rw [hGe]; exact if_neg (by omega)
  have e2 : G (d + 1) = g' := by rw [hGe]; exact if_pos rfl
  have hL := Lv_keep h h1 h2
  refine ⟨fun k hk => ?_, fun k hk => ?_, fun k hk => ?_, fun k hk => ?_, fun k hk => ?_, fun k hk => ?_⟩
  · by_cases e : k = d + 1
    · subst e; rw [e2]; exact h4
    · rw [e1 k (by omega)]; exact hL.at_ k (by omega)
  · by_cases e : k = d + 1
    · subst e; rw [e2]; exact ⟨hS2, hC2, hN2⟩
    · rw [e1 k (by omega)]; exact h.cl k (by omega)
  · by_cases e : k = d + 1
    · subst e; rw [e2]; intro a ha
      rw [hM2.2.2 a ha, nw_Dg f1 f2 f3 a ha]; exact h.dg d (Nat.le_refl _) a ha
    · rw [e1 k (by omega)]; exact h.dg k (by omega)
  · by_cases e : k = d + 1
    · subst e
      rw [e2]
      intro P hP
      rw [← Hol_mx hP hM2, Hol_fix hS f1 f2 f3 hr hbit hP, h.hol d (Nat.le_refl _) P hP]
      constructor
      · rintro ⟨⟨a1, a2⟩, a3⟩
        refine ⟨a1, fun q hq => ?_⟩
        by_cases e : q = d
        · subst e; rw [ups_p]; exact a3
        · rw [ups_ne e]; exact a2 q (by omega)
      · rintro ⟨a1, a2⟩
        refine ⟨⟨a1, fun q hq => ?_⟩, ?_⟩
        · have := a2 q (by omega)
          rw [ups_ne (by omega)] at this; exact this
        · have := a2 d (by omega)
          rw [ups_p] at this; exact this
    · rw [e1 k (by omega)]
      intro P hP
      rw [h.hol k (by omega) P hP]
      constructor
      · rintro ⟨a1, a2⟩
        exact ⟨a1, fun q hq => by rw [ups_ne (by omega)]; exact a2 q hq⟩
      · rintro ⟨a1, a2⟩
        exact ⟨a1, fun q hq => by have := a2 q hq; rw [ups_ne (by omega)] at this; exact this⟩
  · intro q hq
    by_cases e : k = d + 1
    · subst e
      rw [e2]
      obtain ⟨g1, g4, g3, -⟩ := fs_ok q (by omega)
      by_cases eq : q = d
      · subst eq
        rw [ups_p]
        refine ⟨hr, sb_pow ?_ (NE_0 hN2 f1 f2 f3)⟩
        have := hM2.1 _ _ f1 f2 f3
        rw [nw_ab (g q) _ f1 f2 f3] at this
        exact this
      · rw [ups_ne eq]
        refine ⟨(h.pf_ d (Nat.le_refl _) q (by omega)).1, sb_pow ?_ (NE_0 hN2 g1 g4 g3)⟩
        have := Le_tr hM2.1 (nw_Le hS f1 f2 f3 hv) _ _ g1 g4 g3
        rw [← (h.pf_ d (Nat.le_refl _) q (by omega)).2]
        exact this
    · rw [e1 k (by omega), ups_ne (by omega)]
      exact h.pf_ k (by omega) q hq
  · by_cases e : k = d
    · subst e; rw [ups_p]; exact h3
    · rw [ups_ne e]; exact hL.tr k (by omega)
theorem Ex_skip {M : x_M} {f s : Nat → Nat} {g : Nat → Nat → Nat} {d r : Nat} (hL : Lv M f d s g) (hd : d < 15) (h : Ex f d s r) (hn : ∀ P, Str P → Hol P (g d) → ¬ rl P d = r) : Ex f d s (r + 1) := by
  intro P hP hf
  rcases h P hP hf with a | ⟨a, b⟩
  · exact Or.inl a
  · refine Or.inr ⟨a, ?_⟩
    have hg := (hL.hol d (Nat.le_refl _) P hP).mpr ⟨hf, a⟩
    have := hn P hP hg
    omega
theorem Ex_push {f s : Nat → Nat} {d r : Nat} (h : Ex f d s r) : Ex f (d + 1) (ups s d r) 0 := by
  intro P hP hf
  rcases h P hP hf with ⟨k, hk, a, b⟩ | ⟨a, b⟩
  · exact Or.inl ⟨k, by omega, fun u hu => by rw [ups_ne (by omega)]; exact a u hu, by rw [ups_ne (by omega)]; exact b⟩
  · by_cases e : rl P d = r
    · refine Or.inr ⟨fun u hu => ?_, by omega⟩
      by_cases q : u = d
      · subst q; rw [ups_p]; exact e
      · rw [ups_ne q]; exact a u (by omega)
    · exact Or.inl ⟨d, by omega, fun u hu => by rw [ups_ne (by omega)]; exact a u hu, by rw [ups_p]; omega⟩
theorem Ex_pop {f s : Nat → Nat} {d : Nat} (h : Ex f (d + 1) s 13) : Ex f d s (s d + 1) := by
  intro P hP hf
  rcases h P hP hf with ⟨k, hk, a, b⟩ | ⟨-, b⟩
  · by_cases e : k = d
    · subst e; exact Or.inr ⟨a, by omega⟩
    · exact Or.inl ⟨k, by omega, a, b⟩
  · have := rl_lt P (d + 1); omega
theorem Ex_none {f s : Nat → Nat} (h : Ex f 0 s 13) : ¬ Sat f := by
  rintro ⟨P, hP, hf⟩
  rcases h P hP hf with ⟨k, hk, -⟩ | ⟨-, b⟩
  · omega
  · have := rl_lt P 0; omega
theorem pln_pow {r : Nat} (h : r < 13) : pln (2 ^ r) := fun i hi => pln_1 r h i hi
theorem Ex_end {M : x_M} {f s : Nat → Nat} {g : Nat → Nat → Nat} {t : Nat} (hL : Lv M f 15 s g) (h : Ex f 15 s t) : Fs f s := by
  obtain ⟨hS, hC, hN⟩ := hL.cl 15 (Nat.le_refl _)
  have hsat : Sat (g 15) := plain_sat (fun j hj => (hL.at_ 15 (Nat.le_refl _) j hj).1) hS hC hN (fun a b hab hb => by
    have q := hL.pf_ 15 (Nat.le_refl _) (pr a b) (pr_lt (by omega) hb (by omega))
    obtain ⟨p1, p2⟩ := pr_fs a b hab hb
    have e := q.2
    unfold pf at e
    rw [p1, p2] at e
    rw [e]
    exact pln_pow q.1)
  obtain ⟨P, hP, hg⟩ := hsat
  obtain ⟨hf, ha⟩ := (hL.hol 15 (Nat.le_refl _) P hP).mp hg
  refine ⟨⟨P, hP, hf, ha⟩, fun Q hQ hfQ => ?_⟩
  rcases h Q hQ hfQ with ⟨k, hk, a, b⟩ | ⟨a, -⟩
  · exact Or.inr ⟨k, hk, a, b⟩
  · exact Or.inl a
theorem Fs_cg {f f2 s : Nat → Nat} (h : ∀ j, j < 36 → f j = f2 j) (q : Fs f s) : Fs f2 s := by
  obtain ⟨⟨P, a, b, c⟩, d⟩ := q
  exact ⟨⟨P, a, (Hol_cg h).mp b, c⟩, fun Q hQ hf => d Q hQ ((Hol_cg h).mpr hf)⟩
theorem Fs_mx {f g s : Nat → Nat} (h : Mx f g) (q : Fs g s) : Fs f s := by
  obtain ⟨⟨P, a, b, c⟩, d⟩ := q
  exact ⟨⟨P, a, (Hol_mx a h).mpr b, c⟩, fun Q hQ hf => d Q hQ ((Hol_mx hQ h).mp hf)⟩
def wF (s : Nat → Nat) (k : Nat) : Nat := (12 - s k) * 16 ^ (15 - k)
def Wt (d : Nat) (s : Nat → Nat) (t : Nat) : Nat := sm (wF s) d + (13 - t) * 16 ^ (15 - d) + (d + 1)
theorem sm_cg {F G : Nat → Nat} : ∀ n, (∀ k, k < n → F k = G k) → sm F n = sm G n
  | 0, _ => rfl
  | n + 1, h => by
    show sm F n + F n = sm G n + G n
    rw [sm_cg n (fun k hk => h k (by omega)), h n (by omega)]
theorem Wt_r {d t : Nat} (s : Nat → Nat) (ht : t < 13) : Wt d s (t + 1) + 1 ≤ Wt d s t := by
  unfold Wt
  have h : 0 < 16 ^ (15 - d) := Nat.pow_pos (by decide)
  have e : (13 - t) * 16 ^ (15 - d) = (13 - (t + 1)) * 16 ^ (15 - d) + 16 ^ (15 - d) := by
    rw [← Nat.succ_mul]; congr 1; omega
  omega
theorem Wt_pop {d : Nat} {s : Nat → Nat} : Wt d s (s d + 1) + 1 ≤ Wt (d + 1) s 13 := by
  unfold Wt
  have e : sm (wF s) (d + 1) = sm (wF s) d + wF s d := rfl
  have e2 : wF s d = (13 - (s d + 1)) * 16 ^ (15 - d) := by unfold wF; congr 1; omega
  rw [e, e2]
  omega
theorem Wt_push {d r : Nat} {s : Nat → Nat} (hd : d < 15) (hr : r < 13) : Wt (d + 1) (ups s d r) 0 + 1 ≤ Wt d s r := by
  unfold Wt
  have e : sm (wF (ups s d r)) (d + 1) = sm (wF (ups s d r)) d + wF (ups s d r) d := rfl
  have e1 : sm (wF (ups s d r)) d = sm (wF s) d := sm_cg d (fun k hk => by unfold wF; rw [ups_ne (by omega)])
  have e2 : wF (ups s d r) d = (12 - r) * 16 ^ (15 - d) := by unfold wF; rw [ups_p]
  have e3 : (13 - r) * 16 ^ (15 - d) = (12 - r) * 16 ^ (15 - d) + 16 ^ (15 - d) := by
    rw [← Nat.succ_mul]; congr 1; omega
  have e4 : 16 ^ (15 - d) = 16 * 16 ^ (15 - (d + 1)) := by
    rw [show 15 - d = (15 - (d + 1)) + 1 by omega, Nat.pow_succ, Nat.mul_comm]
  have h : 0 < 16 ^ (15 - (d + 1)) := Nat.pow_pos (by decide)
  rw [e, e1, e2, e3]
  omega
theorem Ar_fix {F : Nat → Int32} {g : Nat → Nat} {d a b r : Nat} {M : x_M} (hg : ∀ j, j < 36 → g j < 8192 ∧ F (36 * d + j) = nI (g j)) (ha : a < 6) (hb : b < 6) (hab : a ≠ b) (hr : r < 13) : Ar (x_row M 67 (upd (upd (cpN F d (d + 1) 36) (36 * (d + 1) + 6 * a + b) (nI (2 ^ r))) (36 * (d + 1) + 6 * b + a) (nI (2 ^ (12 - r))))) (d + 1) (nw g a b (2 ^ r)) := by
  have hp : 2 ^ r < 8192 := Nat.pow_lt_pow_right (by decide) hr
  intro j hj
  refine ⟨nw_Bd (fun j hj => (hg j hj).1) hp j hj, ?_⟩
  rw [x_row_self]
  unfold upd nw
  by_cases e : j = b * 6 + a
  · rw [if_pos e, if_pos (by omega), tn_pow r hr]
  · rw [if_neg e, if_neg (by omega)]
    by_cases e2 : j = a * 6 + b
    · rw [if_pos e2, if_pos (by omega)]
    · rw [if_neg e2, if_neg (by omega)]
      unfold cpN
      rw [if_pos (by omega), show 36 * d + (36 * (d + 1) + j - 36 * (d + 1)) = 36 * d + j by omega]
      exact (hg j hj).2
theorem fix_lo {F : Nat → Int32} {d a b r j : Nat} (hj : j < 36 * (d + 1)) : upd (upd (cpN F d (d + 1) 36) (36 * (d + 1) + 6 * a + b) (nI (2 ^ r))) (36 * (d + 1) + 6 * b + a) (nI (2 ^ (12 - r))) j = F j := by
  unfold upd cpN
  rw [if_neg (by omega), if_neg (by omega), if_neg (by omega)]
def q_X7_draw : x_K := (1, fun as S M => ∃ (f : Nat → Nat), T54 M ∧ T68 M ∧ Ar M 0 f ∧ Sy f ∧ Clo f ∧ NE f 0 ∧ (∀ a, a < 6 → f (a * 6 + a) ≠ 0) ∧ S = SH ∧ as = [.inr (.inl 53)],
  fun as S M rv_ S' M' => ∀ (f : Nat → Nat), Ar M 0 f → as = [.inr (.inl 53)] → S' = S ∧ (∀ k, k ≠ 67 → k ≠ 70 → M' k = M k) ∧ ((rv_ = some (.inl (nI 1)) ∧ ∃ s, Fs f s ∧ (∀ q, q < 15 → s q < 13) ∧ ∀ a b, a < 6 → b < 6 → a ≠ b → M' 67 (540 + (a * 6 + b)) = nI (2 ^ rel s a b)) ∨ (rv_ = some (.inl (nI 0)) ∧ ¬ Sat f)), 0, 0)
theorem r_X7_draw : ∀ as S M, q_X7_draw.2.1 as S M → ∃ (k : Nat) (as' : List x_V) (fs : List (Option Nat)), as = .inr (.inl k) :: as' ∧ S[k]? = some (.inl (5, fs)) := by
  rintro as S M ⟨f, -, -, -, -, -, -, -, rfl, rfl⟩
  exact ⟨53, _, _, rfl, rfl⟩
def b_X7_draw : x_B := [(0, 1, [(.iconst 0, 1), (.istore_n 1, 1), (.aload_n 0, 1), (.getfield 59, 3), (.iconst 0, 1), (.iconst 0, 1), (.iastore, 1)]),
  (9, 2, [(.iload_n 1, 1), (.ifCond .lt 137, 3), (.iload_n 1, 1), (.bipush 15, 2), (.if_icmp .ge 131, 3), (.aload_n 0, 1), (.getfield 53, 3), (.iload_n 1, 1), (.iaload, 1), (.istore_n 2, 1), (.aload_n 0, 1), (.getfield 56, 3), (.iload_n 1, 1), (.iaload, 1), (.istore_n 3, 1), (.aload_n 0, 1), (.getfield 50, 3), (.bipush 36, 2), (.iload_n 1, 1), (.imul, 1), (.bipush 6, 2), (.iload_n 2, 1), (.imul, 1), (.iadd, 1), (.iload_n 3, 1), (.iadd, 1), (.iaload, 1), (.istore 4, 2), (.aload_n 0, 1), (.getfield 59, 3), (.iload_n 1, 1), (.iaload, 1), (.istore 5, 2)]),
  (59, 6, [(.iload 5, 2), (.bipush 13, 2), (.if_icmp .ge 19, 3), (.iload 4, 2), (.iload 5, 2), (.ishr, 1), (.iconst 1, 1), (.iand, 1), (.ifCond .ne 9, 3), (.iinc 5 1, 3), (.goto (-20), 3)]),
  (82, 6, [(.iload 5, 2), (.bipush 13, 2), (.if_icmp .ne 9, 3), (.iinc 1 (-1), 3), (.goto 52, 3)]),
  (95, 6, [(.aload_n 0, 1), (.getfield 59, 3), (.iload_n 1, 1), (.iload 5, 2), (.iconst 1, 1), (.iadd, 1), (.iastore, 1), (.aload_n 0, 1), (.iload_n 1, 1), (.iload_n 1, 1), (.iconst 1, 1), (.iadd, 1), (.invokevirtual 118, 3), (.aload_n 0, 1), (.iload_n 1, 1), (.iconst 1, 1), (.iadd, 1), (.iload_n 2, 1), (.iload_n 3, 1), (.iload 5, 2), (.invokevirtual 122, 3), (.aload_n 0, 1), (.iload_n 1, 1), (.iconst 1, 1), (.iadd, 1), (.invokevirtual 125, 3), (.ifCond .eq 13, 3), (.iinc 1 1, 3), (.aload_n 0, 1), (.getfield 59, 3), (.iload_n 1, 1), (.iconst 0, 1), (.iastore, 1)]),
  (144, 6, [(.goto (-135), 3)]),
  (147, 2, [(.iload_n 1, 1), (.bipush 15, 2), (.if_icmp .ne 7, 3), (.iconst 1, 1), (.goto 4, 3)]),
  (157, 2, [(.iconst 0, 1)]),
  (158, 2, [(.ireturn, 1)])]
theorem b_X7_draw_ok : x_okB cX7_draw 6 b_X7_draw = true := by decide +kernel
def X_X7_draw : x_X := ([(59, 5, 17), (53, 5, 15), (56, 5, 16), (50, 5, 14)], [], [], [], [(355, q_X7_copyNet), (367, q_X7_fix), (376, q_X7_close)], (0, 0), x_kn, x_kf, 5, false)
theorem X_X7_draw_ok : x_okT RX7 X_X7_draw = true := by decide +kernel
theorem k_X7_draw (l : Launch) : ∀ z ∈ X_X7_draw.2.2.2.2.1, x_Cal l (x_rm 3 0 0) cX7_draw RX7 6 z.1 z.2 := List.forall_mem_cons.mpr ⟨x_cal_V (idx := 118) (ci := 5) (n := 2) (c_X7_copyNet l) ⟨by decide, by decide⟩ (by decide +kernel) (by decide +kernel) (by decide +kernel) (by decide +kernel) (by decide +kernel) rfl rfl rfl (by decide +kernel) r_X7_copyNet, List.forall_mem_cons.mpr ⟨x_cal_V (idx := 122) (ci := 5) (n := 4) (c_X7_fix l) ⟨by decide, by decide⟩ (by decide +kernel) (by decide +kernel) (by decide +kernel) (by decide +kernel) (by decide +kernel) rfl rfl rfl (by decide +kernel) r_X7_fix, List.forall_mem_cons.mpr ⟨x_cal_V (idx := 125) (ci := 5) (n := 1) (c_X7_close l) ⟨by decide, by decide⟩ (by decide +kernel) (by decide +kernel) (by decide +kernel) (by decide +kernel) (by decide +kernel) rfl rfl rfl (by decide +kernel) r_X7_close, fun _ h => absurd h List.not_mem_nil⟩⟩⟩
set_option maxHeartbeats 4000000 in
set_option maxRecDepth 100000 in
theorem c_X7_draw (l : Launch) : x_CT l yX7_draw cX7_draw 6 (some .boolean) 3 q_X7_draw := by
  refine x_meth (X := X_X7_draw) (bl := b_X7_draw) (cut := [9, 59]) (own := RX7) 30 (by decide) rfl X_X7_draw_ok b_X7_draw_ok rfl (Nat.le_of_ble_eq_true rfl) (k_X7_draw l) ?_
  rintro as S M - ⟨f, hT54, hT68, hAr, hSy, hCl, hNE, hdg, rfl, rfl⟩
  refine ⟨fun μ pc ls st S' M' cs sl => (∃ (d t : Nat) (s : Nat → Nat) (g : Nat → Nat → Nat), d ≤ 15 ∧ t ≤ 13 ∧ (∀ k, k ≠ 67 → k ≠ 70 → M' k = M k) ∧ Lv M' f d s g ∧ M' 70 d = nI t ∧ Ex f d s t ∧ pc = 9 ∧ st = [] ∧ S' = SH ∧ cs = 0 ∧ sl = 0 ∧ ls = [.inr (.inl 53), .inl (nI d)] ∧ μ = 2 * Wt d s t + 1) ∨ (¬ Sat f ∧ (∀ k, k ≠ 67 → k ≠ 70 → M' k = M k) ∧ pc = 9 ∧ st = [] ∧ S' = SH ∧ cs = 0 ∧ sl = 0 ∧ ls = [.inr (.inl 53), .inl (-(nI 1))] ∧ μ = 0) ∨ (∃ (d r : Nat) (s : Nat → Nat) (g : Nat → Nat → Nat), d < 15 ∧ r ≤ 13 ∧ (∀ k, k ≠ 67 → k ≠ 70 → M' k = M k) ∧ Lv M' f d s g ∧ Ex f d s r ∧ pc = 59 ∧ st = [] ∧ S' = SH ∧ cs = 0 ∧ sl = 0 ∧ ls = [.inr (.inl 53), .inl (nI d), .inl (nI (fsT d)), .inl (nI (scT d)), .inl (nI (pf (g d) d)), .inl (nI r)] ∧ μ = 2 * Wt d s r), ?_, ?_⟩
  · skip
    refine xt_blk rfl rfl (by dsimp only [List.take]) ?_
    refine xt_ic ?_
    refine xt_isn1 rfl (by dsimp only [x_sto]) ?_
    refine xt_aln0 rfl (by first | decide | omega | assumption) ?_
    refine xt_gfr (q := (5, 17)) rfl (by first | rfl | assumption) rfl ?_
    refine xt_ic ?_
    refine xt_ic ?_
    refine xt_ias (by first | rfl | assumption) (show vp_in _ 16 from vp_in_nI (by decide) (by decide)) ?_
    refine xt_nil (t := 9) rfl ?_
    refine xt_cut rfl rfl (by dsimp only [List.take]) ?_
    refine ⟨_, Or.inl ⟨0, 0, fun _ => 0, fun _ => f, by omega, by omega, fun k a b => x_row_ne _ _ b, ⟨fun k hk => ?_, fun k hk => ⟨hSy, hCl, hNE⟩, fun k hk => hdg, fun k hk P hP => ?_, fun k hk q hq => by omega, fun k hk => by omega⟩, ?_, fun P hP hf => Or.inr ⟨fun u hu => by omega, by omega⟩, rfl, rfl, rfl, rfl, rfl, rfl, rfl⟩⟩
    · have : k = 0 := by omega
      subst this
      exact fun j hj => hAr j hj
    · have : k = 0 := by omega
      subst this
      exact ⟨fun h => ⟨h, fun q hq => by omega⟩, fun h => h.1⟩
    · rw [x_row_self]; rfl
  · rintro μ pc ls st S2 M2 cs sl (⟨d, t, s, g, hd, ht, hfr, hL, h70, hE, rfl, rfl, rfl, rfl, rfl, rfl, rfl⟩ | ⟨hns, hfr, rfl, rfl, rfl, rfl, rfl, rfl, rfl⟩ | ⟨d, r, s, g, hd, hr, hfr, hL, hE, rfl, rfl, rfl, rfl, rfl, rfl, rfl⟩)
    · refine ⟨_, rfl, ?_⟩
      refine xt_iln1 rfl ?_
      refine xt_lt (t := 147) rfl (fun hc_10 => ?_) (fun hc_10 => ?_)
      · skip
        refine xt_blk rfl rfl (by dsimp only [List.take]) ?_
        refine xt_iln1 rfl ?_
        refine xt_bi ?_
        refine xt_cne (t := 157) rfl (fun hc_150 => ?_) (fun hc_150 => ?_)
        · skip
          refine xt_blk rfl rfl (by dsimp only [List.take]) ?_
          refine xt_ic ?_
          refine xt_nil (t := 158) rfl ?_
          refine xt_blk rfl rfl (by dsimp only [List.take]) ?_
          refine xt_rz (by decide) rfl (Nat.le_refl _) ?_
          exact absurd hc_10 (nI_pos (by omega))
        · skip
          refine xt_ic ?_
          refine xt_goto (t := 158) rfl ?_
          refine xt_blk rfl rfl (by dsimp only [List.take]) ?_
          refine xt_rz (by decide) rfl (Nat.le_refl _) ?_
          exact absurd hc_10 (nI_pos (by omega))
      · skip
        refine xt_iln1 rfl ?_
        refine xt_bi ?_
        refine xt_cge (t := 147) rfl (fun hc_16 => ?_) (fun hc_16 => ?_)
        · skip
          refine xt_blk rfl rfl (by dsimp only [List.take]) ?_
          refine xt_iln1 rfl ?_
          refine xt_bi ?_
          refine xt_cne (t := 157) rfl (fun hc_150 => ?_) (fun hc_150 => ?_)
          · skip
            refine xt_blk rfl rfl (by dsimp only [List.take]) ?_
            refine xt_ic ?_
            refine xt_nil (t := 158) rfl ?_
            refine xt_blk rfl rfl (by dsimp only [List.take]) ?_
            refine xt_rz (by decide) rfl (Nat.le_refl _) ?_
            exfalso
            rw [nI_leI (by omega) (by omega)] at hc_16
            exact hc_150 (by congr 1; omega)
          · skip
            refine xt_ic ?_
            refine xt_goto (t := 158) rfl ?_
            refine xt_blk rfl rfl (by dsimp only [List.take]) ?_
            refine xt_rz (by decide) rfl (Nat.le_refl _) ?_
            intro f2 hAr2 e2
            have hcg := Ar_u hAr hAr2
            have hd15 : d = 15 := by rw [nI_eq (by omega) (by omega)] at hc_150; exact hc_150
            subst hd15
            refine ⟨rfl, hfr, Or.inl ⟨rfl, s, Fs_cg hcg (Ex_end hL hE), fun q hq => (hL.pf_ 15 (Nat.le_refl _) q hq).1, fun a b ha hb hab => ?_⟩⟩
            rw [← gRel (hL.cl 15 (Nat.le_refl _)).1 (hL.pf_ 15 (Nat.le_refl _)) ha hb hab]
            exact (hL.at_ 15 (Nat.le_refl _) (a * 6 + b) (by omega)).2
        · skip
          have hd15 : d < 15 := by rw [nI_leI (by omega) (by omega)] at hc_16; omega
          obtain ⟨f1, f2, f3, f4⟩ := fs_ok d hd15
          have e68 : M2 68 (nI d).toNatClampNeg = nI (fsT d) := by rw [nI_clamp (by omega), hfr 68 (by decide) (by decide)]; exact (hT68 d hd15).1
          have e69 : M2 69 (nI d).toNatClampNeg = nI (scT d) := by rw [nI_clamp (by omega), hfr 69 (by decide) (by decide)]; exact (hT68 d hd15).2
          have e70 : M2 70 (nI d).toNatClampNeg = nI t := by rw [nI_clamp (by omega)]; exact h70
          have e67 : M2 67 (nI 36 * nI d + nI 6 * nI (fsT d) + nI (scT d)).toNatClampNeg = nI (pf (g d) d) := by rw [ix36a (by omega) f1 f2]; exact (hL.at_ d (Nat.le_refl _) _ (by omega)).2
          refine xt_aln0 rfl (by first | decide | omega | assumption) ?_
          refine xt_gfr (q := (5, 15)) rfl (by first | rfl | assumption) rfl ?_
          refine xt_iln1 rfl ?_
          refine xt_ial (by first | rfl | assumption) (show vp_in _ 15 from vp_in_nI hd15 (by decide)) ?_
          refine xt_isn2 rfl (by dsimp only [x_sto]) ?_
          refine xt_aln0 rfl (by first | decide | omega | assumption) ?_
          refine xt_gfr (q := (5, 16)) rfl (by first | rfl | assumption) rfl ?_
          refine xt_iln1 rfl ?_
          refine xt_ial (by first | rfl | assumption) (show vp_in _ 15 from vp_in_nI hd15 (by decide)) ?_
          refine xt_isn3 rfl (by dsimp only [x_sto]) ?_
          refine xt_aln0 rfl (by first | decide | omega | assumption) ?_
          refine xt_gfr (q := (5, 14)) rfl (by first | rfl | assumption) rfl ?_
          refine xt_bi ?_
          refine xt_iln1 rfl ?_
          refine xt_mul ?_
          refine xt_bi ?_
          refine xt_iln2 rfl ?_
          refine xt_mul ?_
          refine xt_add ?_
          refine xt_iln3 rfl ?_
          refine xt_add ?_
          refine xt_ial (by first | rfl | assumption) (show vp_in (nI 36 * nI d + nI 6 * M2 68 (nI d).toNatClampNeg + M2 69 (nI d).toNatClampNeg) 576 from by rw [e68, e69]; exact vx36a (by omega) f1 f2) ?_
          refine xt_ist rfl (by dsimp only [x_sto]) ?_
          refine xt_aln0 rfl (by first | decide | omega | assumption) ?_
          refine xt_gfr (q := (5, 17)) rfl (by first | rfl | assumption) rfl ?_
          refine xt_iln1 rfl ?_
          refine xt_ial (by first | rfl | assumption) (show vp_in _ 16 from vp_in_nI (by omega) (by decide)) ?_
          refine xt_ist rfl (by dsimp only [x_sto]) ?_
          refine xt_nil (t := 59) rfl ?_
          refine xt_cut rfl rfl (by dsimp only [List.take]) ?_
          exact ⟨2 * Wt d s t, by omega, Or.inr (Or.inr ⟨d, t, s, g, hd15, ht, hfr, hL, hE, rfl, rfl, rfl, rfl, rfl, by rw [e68, e69, e67, e70], rfl⟩)⟩
    · refine ⟨_, rfl, ?_⟩
      refine xt_iln1 rfl ?_
      refine xt_lt (t := 147) rfl (fun hc_10 => ?_) (fun hc_10 => ?_)
      · skip
        refine xt_blk rfl rfl (by dsimp only [List.take]) ?_
        refine xt_iln1 rfl ?_
        refine xt_bi ?_
        refine xt_cne (t := 157) rfl (fun hc_150 => ?_) (fun hc_150 => ?_)
        · skip
          refine xt_blk rfl rfl (by dsimp only [List.take]) ?_
          refine xt_ic ?_
          refine xt_nil (t := 158) rfl ?_
          refine xt_blk rfl rfl (by dsimp only [List.take]) ?_
          refine xt_rz (by decide) rfl (Nat.le_refl _) ?_
          intro f2 hAr2 e2
          have hcg := Ar_u hAr hAr2
          exact ⟨rfl, hfr, Or.inr ⟨rfl, fun q => hns ((Sat_cg hcg).mpr q)⟩⟩
        · skip
          refine xt_ic ?_
          refine xt_goto (t := 158) rfl ?_
          refine xt_blk rfl rfl (by dsimp only [List.take]) ?_
          refine xt_rz (by decide) rfl (Nat.le_refl _) ?_
          exact absurd hc_150 (by decide)
      · skip
        exact absurd (show -(nI 1) < 0 by decide) hc_10
    · refine ⟨_, rfl, ?_⟩
      refine xt_ild rfl ?_
      refine xt_bi ?_
      refine xt_cge (t := 82) rfl (fun hc_63 => ?_) (fun hc_63 => ?_)
      · skip
        refine xt_blk rfl rfl (by dsimp only [List.take]) ?_
        refine xt_ild rfl ?_
        refine xt_bi ?_
        refine xt_cne (t := 95) rfl (fun hc_86 => ?_) (fun hc_86 => ?_)
        · skip
          exact absurd (show nI r = nI 13 by rw [nI_leI (by omega) (by omega)] at hc_63; rw [show r = 13 by omega]) hc_86
        · skip
          refine xt_dec rfl rfl (by dsimp only [x_sto]) ?_
          refine xt_goto (t := 144) rfl ?_
          refine xt_blk rfl rfl (by dsimp only [List.take]) ?_
          refine xt_goto (t := 9) rfl ?_
          refine xt_cut rfl rfl (by dsimp only [List.take]) ?_
          have hr : r = 13 := by rw [nI_eq (by omega) (by omega)] at hc_86; exact hc_86
          subst hr
          cases d with
          | zero => exact ⟨0, by unfold Wt; omega, Or.inr (Or.inl ⟨Ex_none hE, hfr, rfl, rfl, rfl, rfl, rfl, by decide, rfl⟩)⟩
          | succ d =>
            have hs := (hL.pf_ (d + 1) (Nat.le_refl _) d (by omega)).1
            have hW := Wt_pop (d := d) (s := s)
            exact ⟨2 * Wt d s (s d + 1) + 1, by omega, Or.inl ⟨d, s d + 1, s, g, by omega, by omega, hfr, Lv_pop hL, hL.tr d (by omega), Ex_pop hE, rfl, rfl, rfl, rfl, rfl, by rw [← Int32.sub_eq_add_neg, n_s1], rfl⟩⟩
      · skip
        have hr13 : r < 13 := by rw [nI_leI (by omega) (by omega)] at hc_63; omega
        obtain ⟨f1, f2, f3, f4⟩ := fs_ok d hd
        have hgl : pf (g d) d < 8192 := (hL.at_ d (Nat.le_refl _) _ (by omega)).1
        have hbn : nI (pf (g d) d) >>> (nI r &&& 31) &&& nI 1 = nI (bi (pf (g d) d) r) := n_bit (by omega) (by omega)
        have hbl := bi_lt (pf (g d) d) r
        refine xt_ild rfl ?_
        refine xt_ild rfl ?_
        refine xt_shr ?_
        refine xt_ic ?_
        refine xt_and ?_
        refine xt_ne (t := 82) rfl (fun hc_73 => ?_) (fun hc_73 => ?_)
        · skip
          have hbit : (pf (g d) d).testBit r = true := by
            rw [hbn, n_eq0 (by omega)] at hc_73
            rw [← bi_tb]; omega
          refine xt_blk rfl rfl (by dsimp only [List.take]) ?_
          refine xt_ild rfl ?_
          refine xt_bi ?_
          refine xt_cne (t := 95) rfl (fun hc_86 => ?_) (fun hc_86 => ?_)
          · skip
            have ed1 : nI d + nI 1 = nI (d + 1) := nI_add _ _
            have er1 : nI r + nI 1 = nI (r + 1) := nI_add _ _
            have hF : ∀ j, j < 36 → g d j < 8192 ∧ (x_row M2 70 (upd (M2 70) (nI d).toNatClampNeg (nI r + nI 1))) 67 (36 * d + j) = nI (g d j) := fun j hj => hL.at_ d (Nat.le_refl _) j hj
            have hAf := Ar_fix (M := x_row M2 70 (upd (M2 70) (nI d).toNatClampNeg (nI r + nI 1))) hF f1 f2 f3 hr13
            have hpw : 2 ^ r < 8192 := Nat.pow_lt_pow_right (by decide) hr13
            refine xt_blk rfl rfl (by dsimp only [List.take]) ?_
            refine xt_aln0 rfl (by first | decide | omega | assumption) ?_
            refine xt_gfr (q := (5, 17)) rfl (by first | rfl | assumption) rfl ?_
            refine xt_iln1 rfl ?_
            refine xt_ild rfl ?_
            refine xt_ic ?_
            refine xt_add ?_
            refine xt_ias (by first | rfl | assumption) (show vp_in _ 16 from vp_in_nI (by omega) (by decide)) ?_
            refine xt_aln0 rfl (by first | decide | omega | assumption) ?_
            refine xt_iln1 rfl ?_
            refine xt_iln1 rfl ?_
            refine xt_ic ?_
            refine xt_add ?_
            refine xt_v3 (key := 355) (q := q_X7_copyNet) rfl rfl rfl rfl rfl ⟨Nat.le_of_ble_eq_true rfl, Nat.le_of_ble_eq_true rfl⟩ ⟨d, d + 1, by omega, by omega, by omega, rfl, by rw [ed1]⟩ (fun rv_ S1 M1 hq_110 => ?_)
            obtain ⟨eS_, eM_, rfl⟩ := hq_110 d (d + 1) (by omega) (by omega) (by rw [ed1])
            replace eS_ := eS_.symm
            replace eM_ := eM_.symm
            subst eS_ eM_
            try dsimp only [Option.toList, List.cons_append, List.nil_append]
            refine xt_aln0 rfl (by first | decide | omega | assumption) ?_
            refine xt_iln1 rfl ?_
            refine xt_ic ?_
            refine xt_add ?_
            refine xt_iln2 rfl ?_
            refine xt_iln3 rfl ?_
            refine xt_ild rfl ?_
            refine xt_v5 (key := 367) (q := q_X7_fix) rfl rfl rfl rfl rfl ⟨Nat.le_of_ble_eq_true rfl, Nat.le_of_ble_eq_true rfl⟩ ⟨d + 1, fsT d, scT d, r, by omega, f1, f2, hr13, rfl, by rw [ed1]⟩ (fun rv_ S1 M1 hq_121 => ?_)
            obtain ⟨eS_, eM_, rfl⟩ := hq_121 (d + 1) (fsT d) (scT d) r (by omega) f1 f2 hr13 (by rw [ed1])
            replace eS_ := eS_.symm
            replace eM_ := eM_.symm
            subst eS_ eM_
            rw [x_row_self, x_row_row]
            try dsimp only [Option.toList, List.cons_append, List.nil_append]
            refine xt_aln0 rfl (by first | decide | omega | assumption) ?_
            refine xt_iln1 rfl ?_
            refine xt_ic ?_
            refine xt_add ?_
            refine xt_v2 (key := 376) (q := q_X7_close) rfl rfl rfl rfl rfl ⟨Nat.le_of_ble_eq_true rfl, Nat.le_of_ble_eq_true rfl⟩ ⟨d + 1, nw (g d) (fsT d) (scT d) (2 ^ r), by omega, (fun j hj => (congrFun (hfr 54 (by decide) (by decide)) j).trans (hT54 j hj)), hAf, nw_Sy (hL.cl d (Nat.le_refl _)).1 f1 f2 f3 hpw, (fun a ha => by rw [nw_Dg f1 f2 f3 a ha]; exact hL.dg d (Nat.le_refl _) a ha), rfl, by rw [ed1]⟩ (fun rv_ S1 M1 hq_128 => ?_)
            obtain ⟨eS_, gI, eM_, hgf, hcc⟩ := hq_128 (d + 1) (nw (g d) (fsT d) (scT d) (2 ^ r)) (by omega) hAf (by rw [ed1])
            replace eS_ := eS_.symm
            replace eM_ := eM_.symm
            subst eS_ eM_
            rw [x_row_row]
            have hlo : ∀ j, j < 36 * (d + 1) → gI j = M2 67 j := fun j hj => by
              rw [hgf j (Or.inl hj), x_row_self, fix_lo hj]; rfl
            have hex : ∃ v, rv_ = some (.inl v) := by rcases hcc with ⟨e, -⟩ | ⟨e, -⟩ <;> exact ⟨_, e⟩
            obtain ⟨v, rfl⟩ := hex
            try dsimp only [Option.toList, List.cons_append, List.nil_append]
            refine xt_eq (t := 144) rfl (fun hc_131 => ?_) (fun hc_131 => ?_)
            · skip
              refine xt_blk rfl rfl (by dsimp only [List.take]) ?_
              refine xt_goto (t := 9) rfl ?_
              refine xt_cut rfl rfl (by dsimp only [List.take]) ?_
              have hW := Wt_r (d := d) s hr13
              have hFail : Fail (nw (g d) (fsT d) (scT d) (2 ^ r)) := by
                rcases hcc with ⟨e, -⟩ | ⟨-, -, z⟩
                · cases e; exact absurd hc_131 (by decide)
                · exact z
              have hE2 := Ex_skip hL hd hE (fun P hP hg e => Sat_fail hFail ⟨P, hP, (Hol_fix (hL.cl d (Nat.le_refl _)).1 f1 f2 f3 hr13 hbit hP).mpr ⟨hg, e⟩⟩)
              refine ⟨2 * Wt d s (r + 1) + 1, by omega, Or.inl ⟨d, r + 1, s, g, by omega, by omega, fun k a b => by rw [x_row_ne _ _ a, x_row_ne _ _ b]; exact hfr k a b, Lv_keep hL (fun j hj => by rw [x_row_self]; exact hlo j hj) (fun k hk => ?_), ?_, hE2, rfl, rfl, rfl, rfl, rfl, rfl, rfl⟩⟩
              · rw [x_row_ne _ _ (by decide), x_row_self, nI_clamp (by omega)]; unfold upd; rw [if_neg (by omega)]
              · rw [x_row_ne _ _ (by decide), x_row_self, nI_clamp (by omega)]; unfold upd; rw [if_pos rfl, er1]
            · skip
              refine xt_inc rfl (by dsimp only [x_sto]) ?_
              refine xt_aln0 rfl (by first | decide | omega | assumption) ?_
              refine xt_gfr (q := (5, 17)) rfl (by first | rfl | assumption) rfl ?_
              refine xt_iln1 rfl ?_
              refine xt_ic ?_
              refine xt_ias (by first | rfl | assumption) (show vp_in _ 16 from by rw [ed1]; exact vp_in_nI (by omega) (by decide)) ?_
              refine xt_nil (t := 144) rfl ?_
              refine xt_blk rfl rfl (by dsimp only [List.take]) ?_
              refine xt_goto (t := 9) rfl ?_
              refine xt_cut rfl rfl (by dsimp only [List.take]) ?_
              have hW := Wt_push (s := s) hd hr13
              have hok : ∃ g', (∀ j, j < 36 → gI (36 * (d + 1) + j) = nI (g' j)) ∧ Cn (nw (g d) (fsT d) (scT d) (2 ^ r)) g' := by
                rcases hcc with ⟨-, z⟩ | ⟨e, -⟩
                · exact z
                · cases e; exact absurd rfl hc_131
              obtain ⟨g', hg1, hcn⟩ := hok
              rw [ed1, er1, nI_clamp (show d < 2 ^ 31 by omega), nI_clamp (show d + 1 < 2 ^ 31 by omega)]
              refine ⟨2 * Wt (d + 1) (ups s d r) 0 + 1, by omega, Or.inl ⟨d + 1, 0, ups s d r, _, by omega, by omega, fun k a b => by rw [x_row_ne _ _ b, x_row_ne _ _ a, x_row_ne _ _ b]; exact hfr k a b, Lv_push hL hd hr13 hbit hcn (fun j hj => ?_) (fun k hk => ?_) ?_ (fun j hj => ⟨hcn.1 j hj, ?_⟩), ?_, Ex_push hE, rfl, rfl, rfl, rfl, rfl, rfl, rfl⟩⟩
              · rw [x_row_ne _ _ (by decide), x_row_self]; exact hlo j hj
              · rw [x_row_self, x_row_ne _ _ (show 70 ≠ 67 by decide), x_row_self]; unfold upd; rw [if_neg (by omega), if_neg (by omega)]
              · rw [x_row_self, x_row_ne _ _ (show 70 ≠ 67 by decide), x_row_self]; unfold upd; rw [if_neg (by omega), if_pos rfl]
              · rw [x_row_ne _ _ (by decide), x_row_self]; exact hg1 j hj
              · rw [x_row_self]; unfold upd; rw [if_pos rfl]
          · skip
            refine xt_dec rfl rfl (by dsimp only [x_sto]) ?_
            refine xt_goto (t := 144) rfl ?_
            refine xt_blk rfl rfl (by dsimp only [List.take]) ?_
            refine xt_goto (t := 9) rfl ?_
            refine xt_cut rfl rfl (by dsimp only [List.take]) ?_
            have hr : r = 13 := by rw [nI_eq (by omega) (by omega)] at hc_86; exact hc_86
            subst hr
            cases d with
            | zero => exact ⟨0, by unfold Wt; omega, Or.inr (Or.inl ⟨Ex_none hE, hfr, rfl, rfl, rfl, rfl, rfl, by decide, rfl⟩)⟩
            | succ d =>
              have hs := (hL.pf_ (d + 1) (Nat.le_refl _) d (by omega)).1
              have hW := Wt_pop (d := d) (s := s)
              exact ⟨2 * Wt d s (s d + 1) + 1, by omega, Or.inl ⟨d, s d + 1, s, g, by omega, by omega, hfr, Lv_pop hL, hL.tr d (by omega), Ex_pop hE, rfl, rfl, rfl, rfl, rfl, by rw [← Int32.sub_eq_add_neg, n_s1], rfl⟩⟩
        · skip
          have hbit : ¬ (pf (g d) d).testBit r = true := by
            rw [hbn, n_eq0 (by omega)] at hc_73
            rw [← bi_tb]; omega
          refine xt_inc rfl (by dsimp only [x_sto]) ?_
          refine xt_goto (t := 59) rfl ?_
          refine xt_cut rfl rfl (by dsimp only [List.take]) ?_
          have hE2 := Ex_skip hL hd hE (fun P hP hg e => hbit (by have := hg _ _ f1 f2 f3; unfold rl at e; rw [e] at this; exact this))
          have hW := Wt_r (d := d) s hr13
          exact ⟨2 * Wt d s (r + 1), by omega, Or.inr (Or.inr ⟨d, r + 1, s, g, hd, by omega, hfr, hL, hE2, rfl, rfl, rfl, rfl, rfl, by rw [nI_add], rfl⟩)⟩
