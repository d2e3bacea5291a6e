/-! THE REFERENCE: copyNet, fix -/
def cpN (f : Nat → Int32) (d e n : Nat) : Nat → Int32 := fun j => if 36 * e ≤ j ∧ j < 36 * e + n then f (36 * d + (j - 36 * e)) else f j
theorem cpN_0 (f : Nat → Int32) (d e : Nat) : cpN f d e 0 = f := by
  funext j
  unfold cpN
  rw [if_neg (by omega)]
theorem cpN_s (f : Nat → Int32) {d e i : Nat} (hde : d ≠ e) (hi : i < 36) : upd (cpN f d e i) (36 * e + i) (cpN f d e i (36 * d + i)) = cpN f d e (i + 1) := by
  funext j
  unfold upd cpN
  by_cases h : j = 36 * e + i
  · subst h
    rw [if_pos rfl, if_neg (show ¬ (36 * e ≤ 36 * d + i ∧ 36 * d + i < 36 * e + i) by omega), if_pos (show 36 * e ≤ 36 * e + i ∧ 36 * e + i < 36 * e + (i + 1) by omega)]
    congr 1
    omega
  · rw [if_neg h]
    by_cases h2 : 36 * e ≤ j ∧ j < 36 * e + i
    · rw [if_pos h2, if_pos (by omega)]
    · rw [if_neg h2, if_neg (by omega)]
def q_X7_copyNet : x_K := (3, fun as S M => ∃ (d e : Nat), d < 16 ∧ e < 16 ∧ d ≠ e ∧ S = SH ∧ as = [.inr (.inl 53), .inl (nI d), .inl (nI e)], fun as S M rv_ S' M' => ∀ (d e : Nat), d < 16 → e < 16 → as = [.inr (.inl 53), .inl (nI d), .inl (nI e)] → S' = S ∧ M' = x_row M 67 (cpN (M 67) d e 36) ∧ rv_ = none, 0, 0)
theorem r_X7_copyNet : ∀ as S M, q_X7_copyNet.2.1 as S M → ∃ (k : Nat) (as' : List x_V) (fs : List (Option Nat)), as = .inr (.inl k) :: as' ∧ S[k]? = some (.inl (5, fs)) := by
  rintro as S M ⟨d, e, -, -, -, rfl, rfl⟩
  exact ⟨53, _, _, rfl, rfl⟩
def b_X7_copyNet : x_B := [(0, 3, [(.iconst 0, 1), (.istore_n 3, 1)]),
  (2, 4, [(.iload_n 3, 1), (.bipush 36, 2), (.if_icmp .ge 31, 3), (.aload_n 0, 1), (.getfield 50, 3), (.bipush 36, 2), (.iload_n 2, 1), (.imul, 1), (.iload_n 3, 1), (.iadd, 1), (.aload_n 0, 1), (.getfield 50, 3), (.bipush 36, 2), (.iload_n 1, 1), (.imul, 1), (.iload_n 3, 1), (.iadd, 1), (.iaload, 1), (.iastore, 1), (.iinc 3 1, 3), (.goto (-31), 3)]),
  (36, 4, [(.return_, 1)])]
theorem b_X7_copyNet_ok : x_okB cX7_copyNet 4 b_X7_copyNet = true := by decide +kernel
def X_X7_copyNet : x_X := ([(50, 5, 14)], [], [], [], [], (0, 0), x_kn, x_kf, 5, false)
theorem X_X7_copyNet_ok : x_okT RX7 X_X7_copyNet = true := by decide +kernel
theorem k_X7_copyNet (l : Launch) : ∀ z ∈ X_X7_copyNet.2.2.2.2.1, x_Cal l (x_rm 1 0 0) cX7_copyNet RX7 4 z.1 z.2 := fun _ h => absurd h List.not_mem_nil
set_option maxHeartbeats 4000000 in
set_option maxRecDepth 100000 in
theorem c_X7_copyNet (l : Launch) : x_CT l yX7_copyNet cX7_copyNet 4 none 1 q_X7_copyNet := by
  refine x_meth (X := X_X7_copyNet) (bl := b_X7_copyNet) (cut := [2]) (own := RX7) 30 (by decide) rfl X_X7_copyNet_ok b_X7_copyNet_ok rfl (Nat.le_of_ble_eq_true rfl) (k_X7_copyNet l) ?_
  rintro as S M - ⟨d, e, hd, he, hne, rfl, rfl⟩
  refine ⟨fun μ pc ls st S' M' cs sl => ∃ i, i ≤ 36 ∧ M' = x_row M 67 (cpN (M 67) d e i) ∧ pc = 2 ∧ st = [] ∧ S' = SH ∧ cs = 0 ∧ sl = 0 ∧ ls = [.inr (.inl 53), .inl (nI d), .inl (nI e), .inl (nI i)] ∧ μ = 36 - i, ?_, ?_⟩
  · skip
    refine xt_blk rfl rfl (by dsimp only [List.take]) ?_
    refine xt_ic ?_
    refine xt_isn3 rfl (by dsimp only [x_sto]) ?_
    refine xt_nil (t := 2) rfl ?_
    refine xt_cut rfl rfl (by dsimp only [List.take]) ?_
    exact ⟨36, 0, by omega, by rw [cpN_0, x_row_id], rfl, rfl, rfl, rfl, rfl, rfl, rfl⟩
  · rintro μ pc ls st S2 M2 cs sl (⟨i, hi, rfl, rfl, rfl, rfl, rfl, rfl, rfl, rfl⟩)
    · refine ⟨_, rfl, ?_⟩
      refine xt_iln3 rfl ?_
      refine xt_bi ?_
      refine xt_cge (t := 36) rfl (fun hc_5 => ?_) (fun hc_5 => ?_)
      · skip
        refine xt_blk rfl rfl (by dsimp only [List.take]) ?_
        refine xt_rv rfl (Nat.le_refl _) ?_
        have h36 : i = 36 := by rw [nI_leI (by omega) (by omega)] at hc_5; omega
        subst h36
        intro d2 e2 h2d h2e e2
        simp only [List.cons.injEq, Sum.inl.injEq, Sum.inr.injEq, and_true, true_and] at e2
        obtain ⟨e2d, e2e⟩ := e2
        rw [nI_eq (by omega) (by omega)] at e2d
        subst e2d
        rw [nI_eq (by omega) (by omega)] at e2e
        subst e2e
        exact ⟨rfl, rfl, rfl⟩
      · skip
        refine xt_aln0 rfl (by first | decide | omega | assumption) ?_
        refine xt_gfr (q := (5, 14)) rfl (by first | rfl | assumption) rfl ?_
        refine xt_bi ?_
        refine xt_iln2 rfl ?_
        refine xt_mul ?_
        refine xt_iln3 rfl ?_
        refine xt_add ?_
        refine xt_aln0 rfl (by first | decide | omega | assumption) ?_
        refine xt_gfr (q := (5, 14)) rfl (by first | rfl | assumption) rfl ?_
        refine xt_bi ?_
        refine xt_iln1 rfl ?_
        refine xt_mul ?_
        refine xt_iln3 rfl ?_
        refine xt_add ?_
        refine xt_ial (by first | rfl | assumption) (show vp_in _ 576 from by rw [pk_mul, nI_add]; exact vp_in_nI (by rw [nI_leI (by omega) (by omega)] at hc_5; omega) (by decide)) ?_
        refine xt_ias (by first | rfl | assumption) (show vp_in _ 576 from by rw [pk_mul, nI_add]; exact vp_in_nI (by rw [nI_leI (by omega) (by omega)] at hc_5; omega) (by decide)) ?_
        refine xt_inc rfl (by dsimp only [x_sto]) ?_
        refine xt_goto (t := 2) rfl ?_
        refine xt_cut rfl rfl (by dsimp only [List.take]) ?_
        have hlt : i < 36 := by rw [nI_leI (by omega) (by omega)] at hc_5; omega
        exact ⟨36 - (i + 1), by omega, i + 1, by omega, by rw [x_row_self, x_row_row, pk_mul, pk_mul, nI_add, nI_add, nI_clamp (by omega), nI_clamp (by omega), cpN_s _ hne hlt], rfl, rfl, rfl, rfl, rfl, by rw [nI_add], rfl⟩
def q_X7_fix : x_K := (5, fun as S M => ∃ (d : Nat) (a : Nat) (b : Nat) (r : Nat), d < 16 ∧ a < 6 ∧ b < 6 ∧ r < 13 ∧ S = SH ∧ as = [.inr (.inl 53), .inl (nI d), .inl (nI a), .inl (nI b), .inl (nI r)], fun as S M rv_ S' M' => ∀ (d : Nat) (a : Nat) (b : Nat) (r : Nat), d < 16 → a < 6 → b < 6 → r < 13 → as = [.inr (.inl 53), .inl (nI d), .inl (nI a), .inl (nI b), .inl (nI r)] → S' = S ∧ M' = x_row M 67 (upd (upd (M 67) (36 * d + 6 * a + b) (nI (2 ^ r))) (36 * d + 6 * b + a) (nI (2 ^ (12 - r)))) ∧ rv_ = none, 0, 0)
theorem r_X7_fix : ∀ as S M, q_X7_fix.2.1 as S M → ∃ (k : Nat) (as' : List x_V) (fs : List (Option Nat)), as = .inr (.inl k) :: as' ∧ S[k]? = some (.inl (5, fs)) := by
  rintro as S M ⟨d, a, b, r, hd, ha, hb, hr, rfl, rfl⟩
  exact ⟨53, _, _, rfl, rfl⟩
def b_X7_fix : x_B := [(0, 5, [(.aload_n 0, 1), (.getfield 50, 3), (.bipush 36, 2), (.iload_n 1, 1), (.imul, 1), (.bipush 6, 2), (.iload_n 2, 1), (.imul, 1), (.iadd, 1), (.iload_n 3, 1), (.iadd, 1), (.iconst 1, 1), (.iload 4, 2), (.ishl, 1), (.iastore, 1), (.aload_n 0, 1), (.getfield 50, 3), (.bipush 36, 2), (.iload_n 1, 1), (.imul, 1), (.bipush 6, 2), (.iload_n 3, 1), (.imul, 1), (.iadd, 1), (.iload_n 2, 1), (.iadd, 1), (.iconst 1, 1), (.bipush 12, 2), (.iload 4, 2), (.isub, 1), (.ishl, 1), (.iastore, 1), (.return_, 1)])]
theorem b_X7_fix_ok : x_okB cX7_fix 5 b_X7_fix = true := by decide +kernel
def X_X7_fix : x_X := ([(50, 5, 14)], [], [], [], [], (0, 0), x_kn, x_kf, 5, false)
theorem X_X7_fix_ok : x_okT RX7 X_X7_fix = true := by decide +kernel
theorem k_X7_fix (l : Launch) : ∀ z ∈ X_X7_fix.2.2.2.2.1, x_Cal l (x_rm 1 0 0) cX7_fix RX7 5 z.1 z.2 := fun _ h => absurd h List.not_mem_nil
set_option maxHeartbeats 4000000 in
set_option maxRecDepth 100000 in
theorem c_X7_fix (l : Launch) : x_CT l yX7_fix cX7_fix 5 none 1 q_X7_fix := by
  refine x_meth (X := X_X7_fix) (bl := b_X7_fix) (cut := []) (own := RX7) 30 (by decide) rfl X_X7_fix_ok b_X7_fix_ok rfl (Nat.le_of_ble_eq_true rfl) (k_X7_fix l) ?_
  rintro as S M - ⟨d, a, b, r, hd, ha, hb, hr, rfl, rfl⟩
  refine ⟨fun _ _ _ _ _ _ _ _ => False, ?_, ?_⟩
  · skip
    refine xt_blk rfl rfl (by dsimp only [List.take]) ?_
    refine xt_aln0 rfl (by first | decide | omega | assumption) ?_
    refine xt_gfr (q := (5, 14)) rfl (by first | rfl | assumption) rfl ?_
    refine xt_bi ?_
    refine xt_iln1 rfl ?_
    refine xt_mul ?_
    refine xt_bi ?_
    refine xt_iln2 rfl ?_
    refine xt_mul ?_
    refine xt_add ?_
    refine xt_iln3 rfl ?_
    refine xt_add ?_
    refine xt_ic ?_
    refine xt_ild rfl ?_
    refine xt_shl ?_
    refine xt_ias (by first | rfl | assumption) (show vp_in _ 576 from by simp only [pk_mul, nI_add]; exact vp_in_nI (by omega) (by decide)) ?_
    refine xt_aln0 rfl (by first | decide | omega | assumption) ?_
    refine xt_gfr (q := (5, 14)) rfl (by first | rfl | assumption) rfl ?_
    refine xt_bi ?_
    refine xt_iln1 rfl ?_
    refine xt_mul ?_
    refine xt_bi ?_
    refine xt_iln3 rfl ?_
    refine xt_mul ?_
    refine xt_add ?_
    refine xt_iln2 rfl ?_
    refine xt_add ?_
    refine xt_ic ?_
    refine xt_bi ?_
    refine xt_ild rfl ?_
    refine xt_sub ?_
    refine xt_shl ?_
    refine xt_ias (by first | rfl | assumption) (show vp_in _ 576 from by simp only [pk_mul, nI_add]; exact vp_in_nI (by omega) (by decide)) ?_
    refine xt_rv rfl (Nat.le_refl _) ?_
    have p1 : 2 ^ r < 2 ^ 31 := Nat.pow_lt_pow_right (by decide) (by omega)
    have p2 : 2 ^ (12 - r) < 2 ^ 31 := Nat.pow_lt_pow_right (by decide) (by omega)
    intro d2 a2 b2 r2 h2d h2a h2b h2r e2
    simp only [List.cons.injEq, Sum.inl.injEq, Sum.inr.injEq, and_true, true_and] at e2
    obtain ⟨e2d, e2a, e2b, e2r⟩ := e2
    rw [nI_eq (by omega) (by omega)] at e2d
    subst e2d
    rw [nI_eq (by omega) (by omega)] at e2a
    subst e2a
    rw [nI_eq (by omega) (by omega)] at e2b
    subst e2b
    rw [nI_eq (by omega) (by omega)] at e2r
    subst e2r
    refine ⟨rfl, ?_, rfl⟩
    rw [x_row_self, x_row_row, pk_sub (by omega), n_shl (by omega) (by omega), n_shl (by omega) (by omega), Nat.one_mul, Nat.one_mul]
    simp only [pk_mul, nI_add]
    rw [nI_clamp (by omega), nI_clamp (by omega)]
  · intro μ pc ls st S2 M2 cs sl h; exact h.elim
