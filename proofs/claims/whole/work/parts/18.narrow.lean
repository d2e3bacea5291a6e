/-! NETS: narrow; Integer.bitCount of a set -/
/-- what is left of the set of a and b by the path over m -/
def lft (f : Nat → Nat) (a m b : Nat) : Nat := cm (f (a * 6 + m)) (f (m * 6 + b)) &&& f (a * 6 + b)
theorem lft_lt {f : Nat → Nat} (hf : ∀ j, j < 36 → f j < 8192) {a m b : Nat} (ha : a < 6) (hm : m < 6) (hb : b < 6) : lft f a m b < 8192 := Nat.lt_of_le_of_lt Nat.and_le_right (hf _ (by omega))
def q_X1_narrow : x_K := (4, fun as S M => ∃ (k a m b : Nat) (f : Nat → Nat), k < 1000 ∧ a < 6 ∧ m < 6 ∧ b < 6 ∧ a ≠ b ∧ S[k]? = some (.inr (.inl (false, 36))) ∧ (∀ j, j < 36 → f j < 8192 ∧ M k j = nI (f j)) ∧ as = [.inr (.inl k), .inl (nI a), .inl (nI m), .inl (nI b)],
  fun as S M rv_ S' M' => ∀ (k a m b : Nat) (f : Nat → Nat), a < 6 → m < 6 → b < 6 → (∀ j, j < 36 → f j < 8192 ∧ M k j = nI (f j)) → as = [.inr (.inl k), .inl (nI a), .inl (nI m), .inl (nI b)] →
    S' = S ∧ ((lft f a m b = 0 ∧ M' = M ∧ rv_ = some (.inl (nI 32768))) ∨ (lft f a m b ≠ 0 ∧ lft f a m b = f (a * 6 + b) ∧ M' = M ∧ rv_ = some (.inl (nI 0))) ∨ (lft f a m b ≠ 0 ∧ lft f a m b ≠ f (a * 6 + b) ∧ M' = x_row M k (upd (upd (M k) (a * 6 + b) (nI (lft f a m b))) (b * 6 + a) (nI (tn (lft f a m b)))) ∧ rv_ = some (.inl (nI (2 ^ pr a b))))), 0, 0)
def b_X1_narrow : x_B := [(0, 4, [(.aload_n 0, 1), (.iload_n 1, 1), (.bipush 6, 2), (.imul, 1), (.iload_n 3, 1), (.iadd, 1), (.iaload, 1), (.istore 4, 2), (.aload_n 0, 1), (.iload_n 1, 1), (.bipush 6, 2), (.imul, 1), (.iload_n 2, 1), (.iadd, 1), (.iaload, 1), (.aload_n 0, 1), (.iload_n 2, 1), (.bipush 6, 2), (.imul, 1), (.iload_n 3, 1), (.iadd, 1), (.iaload, 1), (.iload 4, 2), (.invokestatic 35, 3), (.istore 5, 2), (.iload 5, 2), (.ifCond .ne 6, 3), (.ldc 34, 2), (.ireturn, 1)]),
  (41, 6, [(.iload 5, 2), (.iload 4, 2), (.if_icmp .ne 5, 3), (.iconst 0, 1), (.ireturn, 1)]),
  (50, 6, [(.aload_n 0, 1), (.iload_n 1, 1), (.bipush 6, 2), (.imul, 1), (.iload_n 3, 1), (.iadd, 1), (.iload 5, 2), (.iastore, 1), (.aload_n 0, 1), (.iload_n 3, 1), (.bipush 6, 2), (.imul, 1), (.iload_n 1, 1), (.iadd, 1), (.iload 5, 2), (.invokestatic 26, 3), (.iastore, 1), (.iconst 1, 1), (.iload_n 1, 1), (.iload_n 3, 1), (.invokestatic 39, 3), (.ishl, 1), (.ireturn, 1)])]
theorem b_X1_narrow_ok : x_okB cX1_narrow 6 b_X1_narrow = true := by decide +kernel
def X_X1_narrow : x_X := ([], [], [(34, 32768)], [], [(105, q_X2_compose), (78, q_X2_turn), (117, q_X1_pairOf)], (0, 0), x_kn, x_kf, 5, false)
theorem X_X1_narrow_ok : x_okT RX1 X_X1_narrow = true := by decide +kernel
theorem k_X1_narrow (l : Launch) : ∀ z ∈ X_X1_narrow.2.2.2.2.1, x_Cal l (x_rm 2 0 0) cX1_narrow RX1 6 z.1 z.2 := List.forall_mem_cons.mpr ⟨x_cal_S (idx := 35) (c_X2_compose l) ⟨by decide, by decide⟩ (by decide +kernel) (by decide +kernel) (by decide +kernel) (by decide +kernel) (by decide +kernel), List.forall_mem_cons.mpr ⟨x_cal_S (idx := 26) (c_X2_turn l) ⟨by decide, by decide⟩ (by decide +kernel) (by decide +kernel) (by decide +kernel) (by decide +kernel) (by decide +kernel), List.forall_mem_cons.mpr ⟨x_cal_S (idx := 39) (c_X1_pairOf l) ⟨by decide, by decide⟩ (by decide +kernel) (by decide +kernel) (by decide +kernel) (by decide +kernel) (by decide +kernel), fun _ h => absurd h List.not_mem_nil⟩⟩⟩
set_option maxHeartbeats 4000000 in
set_option maxRecDepth 100000 in
theorem c_X1_narrow (l : Launch) : x_CT l yX1_narrow cX1_narrow 6 (some .int) 2 q_X1_narrow := by
  refine x_meth (X := X_X1_narrow) (bl := b_X1_narrow) (cut := []) (own := RX1) 30 (by decide) rfl X_X1_narrow_ok b_X1_narrow_ok rfl (by decide) (k_X1_narrow l) ?_
  rintro as S M - ⟨k, a, m, b, f, hk, ha, hm, hb, hne, hsh, hf, rfl⟩
  refine ⟨fun _ _ _ _ _ _ _ _ => False, ?_, ?_⟩
  · skip
    refine xt_blk rfl rfl (by dsimp only [List.take]) ?_
    refine xt_aln0 rfl (by first | decide | omega | assumption) ?_
    refine xt_iln1 rfl ?_
    refine xt_bi ?_
    refine xt_mul ?_
    refine xt_iln3 rfl ?_
    refine xt_add ?_
    refine xt_ial (by first | rfl | assumption) (by first | exact n_ixi ha hb | exact n_ixi ha hm | exact n_ixi hm hb | exact n_ixi hb ha) ?_
    refine xt_ist rfl (by dsimp only [x_sto]) ?_
    refine xt_aln0 rfl (by first | decide | omega | assumption) ?_
    refine xt_iln1 rfl ?_
    refine xt_bi ?_
    refine xt_mul ?_
    refine xt_iln2 rfl ?_
    refine xt_add ?_
    refine xt_ial (by first | rfl | assumption) (by first | exact n_ixi ha hb | exact n_ixi ha hm | exact n_ixi hm hb | exact n_ixi hb ha) ?_
    refine xt_aln0 rfl (by first | decide | omega | assumption) ?_
    refine xt_iln2 rfl ?_
    refine xt_bi ?_
    refine xt_mul ?_
    refine xt_iln3 rfl ?_
    refine xt_add ?_
    refine xt_ial (by first | rfl | assumption) (by first | exact n_ixi ha hb | exact n_ixi ha hm | exact n_ixi hm hb | exact n_ixi hb ha) ?_
    refine xt_ild rfl ?_
    refine xt_v3 (key := 105) (q := q_X2_compose) rfl rfl rfl rfl rfl (by decide) ⟨f (a * 6 + m), f (m * 6 + b), f (a * 6 + b), (hf _ (by omega)).1, (hf _ (by omega)).1, (hf _ (by omega)).1, by rw [n_ixc ha hm, n_ixc hm hb, n_ixc ha hb, (hf _ (by omega)).2, (hf _ (by omega)).2, (hf _ (by omega)).2]⟩ (fun rv_ S1 M1 hq_28 => ?_)
    obtain ⟨eS_, eM_, rfl⟩ := hq_28 (f (a * 6 + m)) (f (m * 6 + b)) (f (a * 6 + b)) (hf _ (by omega)).1 (hf _ (by omega)).1 (hf _ (by omega)).1 (by rw [n_ixc ha hm, n_ixc hm hb, n_ixc ha hb, (hf _ (by omega)).2, (hf _ (by omega)).2, (hf _ (by omega)).2])
    replace eS_ := eS_.symm
    replace eM_ := eM_.symm
    subst eS_ eM_
    change x_wp _ _ _ _ _ _ (.inl (nI (lft f a m b)) :: _) _ _ _ _
    have e1 : M k (nI a * nI 6 + nI b).toNatClampNeg = nI (f (a * 6 + b)) := by rw [n_ixc ha hb]; exact (hf _ (by omega)).2
    have hle := lft_lt (fun j hj => (hf j hj).1) ha hm hb
    have hfe := (hf _ (show a * 6 + b < 36 by omega)).1
    dsimp only [Option.toList, List.cons_append, List.nil_append]
    refine xt_ist rfl (by dsimp only [x_sto]) ?_
    refine xt_ild rfl ?_
    refine xt_ne (t := 41) rfl (fun hc_35 => ?_) (fun hc_35 => ?_)
    · skip
      refine xt_blk rfl rfl (by dsimp only [List.take]) ?_
      refine xt_ild rfl ?_
      refine xt_ild rfl ?_
      refine xt_cne (t := 50) rfl (fun hc_45 => ?_) (fun hc_45 => ?_)
      · skip
        refine xt_blk rfl rfl (by dsimp only [List.take]) ?_
        refine xt_aln0 rfl (by first | decide | omega | assumption) ?_
        refine xt_iln1 rfl ?_
        refine xt_bi ?_
        refine xt_mul ?_
        refine xt_iln3 rfl ?_
        refine xt_add ?_
        refine xt_ild rfl ?_
        refine xt_ias (by first | rfl | assumption) (by first | exact n_ixi ha hb | exact n_ixi ha hm | exact n_ixi hm hb | exact n_ixi hb ha) ?_
        refine xt_aln0 rfl (by first | decide | omega | assumption) ?_
        refine xt_iln3 rfl ?_
        refine xt_bi ?_
        refine xt_mul ?_
        refine xt_iln1 rfl ?_
        refine xt_add ?_
        refine xt_ild rfl ?_
        refine xt_v1 (key := 78) (q := q_X2_turn) rfl rfl rfl rfl rfl (by decide) ⟨lft f a m b, hle, rfl⟩ (fun rv_ S1 M1 hq_69 => ?_)
        obtain ⟨rfl, rfl, rfl⟩ := hq_69 (lft f a m b) hle rfl
        dsimp only [Option.toList, List.cons_append, List.nil_append]
        refine xt_ias (by first | rfl | assumption) (by first | exact n_ixi ha hb | exact n_ixi ha hm | exact n_ixi hm hb | exact n_ixi hb ha) ?_
        refine xt_ic ?_
        refine xt_iln1 rfl ?_
        refine xt_iln3 rfl ?_
        refine xt_v2 (key := 117) (q := q_X1_pairOf) rfl rfl rfl rfl rfl (by decide) ⟨a, b, ha, hb, hne, rfl⟩ (fun rv_ S1 M1 hq_76 => ?_)
        obtain ⟨rfl, rfl, rfl⟩ := hq_76 a b ha hb hne rfl
        dsimp only [Option.toList, List.cons_append, List.nil_append]
        refine xt_shl ?_
        refine xt_ri rfl (Nat.le_refl _) ?_
        intro k2 a2 m2 b2 f2 h2a h2m h2b hf2 e2
        simp only [List.cons.injEq, Sum.inl.injEq, Sum.inr.injEq, and_true] at e2
        obtain ⟨rfl, ea, em, eb⟩ := e2
        rw [nI_eq (by omega) (by omega)] at ea em eb
        subst ea em eb
        have ef : ∀ j, j < 36 → f j = f2 j := fun j hj => by
          have h1 := (hf j hj).2
          rw [(hf2 j hj).2] at h1
          exact ((nI_eq (by have := (hf2 j hj).1; omega) (by have := (hf j hj).1; omega)).mp h1).symm
        have el : lft f a m b = lft f2 a m b := by unfold lft; rw [ef _ (by omega), ef _ (by omega), ef _ (by omega)]
        rw [← el, ← ef _ (show a * 6 + b < 36 by omega)]
        refine ⟨rfl, Or.inr (Or.inr ⟨fun q => hc_35 (by rw [q]; rfl), fun q => hc_45 (by rw [e1, q]), ?_, ?_⟩)⟩
        · rw [x_row_self, x_row_row, n_ixc ha hb, n_ixc hb ha]
        · have hp := pr_lt ha hb hne
          have hpw : 2 ^ pr a b ≤ 2 ^ 15 := Nat.pow_le_pow_right (by decide) (by omega)
          rw [n_shl (by omega) (by omega), Nat.one_mul]
      · skip
        refine xt_ic ?_
        refine xt_ri rfl (Nat.le_refl _) ?_
        intro k2 a2 m2 b2 f2 h2a h2m h2b hf2 e2
        simp only [List.cons.injEq, Sum.inl.injEq, Sum.inr.injEq, and_true] at e2
        obtain ⟨rfl, ea, em, eb⟩ := e2
        rw [nI_eq (by omega) (by omega)] at ea em eb
        subst ea em eb
        have ef : ∀ j, j < 36 → f j = f2 j := fun j hj => by
          have h1 := (hf j hj).2
          rw [(hf2 j hj).2] at h1
          exact ((nI_eq (by have := (hf2 j hj).1; omega) (by have := (hf j hj).1; omega)).mp h1).symm
        have el : lft f a m b = lft f2 a m b := by unfold lft; rw [ef _ (by omega), ef _ (by omega), ef _ (by omega)]
        rw [← el, ← ef _ (show a * 6 + b < 36 by omega)]
        exact ⟨rfl, Or.inr (Or.inl ⟨fun q => hc_35 (by rw [q]; rfl), by rw [e1, nI_eq (by omega) (by omega)] at hc_45; exact hc_45, rfl, rfl⟩)⟩
    · skip
      refine xt_ldc (v := 32768) rfl ?_
      refine xt_ri rfl (Nat.le_refl _) ?_
      intro k2 a2 m2 b2 f2 h2a h2m h2b hf2 e2
      simp only [List.cons.injEq, Sum.inl.injEq, Sum.inr.injEq, and_true] at e2
      obtain ⟨rfl, ea, em, eb⟩ := e2
      rw [nI_eq (by omega) (by omega)] at ea em eb
      subst ea em eb
      have ef : ∀ j, j < 36 → f j = f2 j := fun j hj => by
        have h1 := (hf j hj).2
        rw [(hf2 j hj).2] at h1
        exact ((nI_eq (by have := (hf2 j hj).1; omega) (by have := (hf j hj).1; omega)).mp h1).symm
      have el : lft f a m b = lft f2 a m b := by unfold lft; rw [ef _ (by omega), ef _ (by omega), ef _ (by omega)]
      rw [← el, ← ef _ (show a * 6 + b < 36 by omega)]
      exact ⟨rfl, Or.inl ⟨(n_eq0 (by omega)).mp hc_35, rfl, rfl⟩⟩
  · intro μ pc ls st S2 M2 cs sl h; exact h.elim
