/-! SEARCH: canHold, canHoldWith, keepNet -/
theorem Hol_cg {Q : Nat → Nat → Nat} {f f2 : Nat → Nat} (e : ∀ j, j < 36 → f j = f2 j) : Hol Q f ↔ Hol Q f2 :=
  ⟨fun h x y hx hy hxy => by rw [← e _ (by omega)]; exact h x y hx hy hxy, fun h x y hx hy hxy => by rw [e _ (by omega)]; exact h x y hx hy hxy⟩
theorem Sat_cg {f f2 : Nat → Nat} (e : ∀ j, j < 36 → f j = f2 j) : Sat f ↔ Sat f2 :=
  ⟨fun ⟨Q, h1, h2⟩ => ⟨Q, h1, (Hol_cg e).mp h2⟩, fun ⟨Q, h1, h2⟩ => ⟨Q, h1, (Hol_cg e).mpr h2⟩⟩
theorem nw_cg {f f2 : Nat → Nat} (e : ∀ j, j < 36 → f j = f2 j) (a b v : Nat) : ∀ j, j < 36 → nw f a b v j = nw f2 a b v j := fun j hj => by unfold nw; rw [e j hj]
theorem At_cp {M : x_M} {k : Nat} {f : Nat → Nat} (k2 : Nat) (h : At M k f) : At (x_row M k2 (x_cp (M k) (M k2) 36)) k2 f := fun j hj => ⟨(h j hj).1, by rw [x_row_self]; unfold x_cp; rw [if_pos hj]; exact (h j hj).2⟩
def q_X3_canHold : x_K := (2, fun as S M => ∃ (k : Nat) (f : Nat → Nat), k < 1000 ∧ S = SH ∧ SH[k]? = some (.inr (.inl (false, 36))) ∧ At M k f ∧ Sy f ∧ Clo f ∧ NE f 0 ∧ as = [.inr (.inl 8), .inr (.inl k)], fun as S M rv_ S' M' => ∀ (k : Nat) (f : Nat → Nat), At M k f → as = [.inr (.inl 8), .inr (.inl k)] → S' = S ∧ (∀ j, j < 10 ∨ 25 < j → M' j = M j) ∧ ((rv_ = some (.inl (nI 1)) ∧ Sat f) ∨ (rv_ = some (.inl (nI 0)) ∧ ¬ Sat f)), 0, 0)
theorem r_X3_canHold : ∀ as S M, q_X3_canHold.2.1 as S M → ∃ (k : Nat) (as' : List x_V) (fs : List (Option Nat)), as = .inr (.inl k) :: as' ∧ S[k]? = some (.inl (1, fs)) := by
  rintro as S M ⟨k, f, -, rfl, -, -, -, -, -, rfl⟩
  exact ⟨8, _, _, rfl, rfl⟩
def b_X3_canHold : x_B := [(0, 2, [(.aload_n 1, 1), (.iconst 0, 1), (.aload_n 0, 1), (.getfield 15, 3), (.iconst 0, 1), (.aaload, 1), (.iconst 0, 1), (.bipush 36, 2), (.invokestatic 18, 3), (.aload_n 0, 1), (.getfield 15, 3), (.iconst 0, 1), (.invokestatic 24, 3), (.ireturn, 1)])]
theorem b_X3_canHold_ok : x_okB cX3_canHold 2 b_X3_canHold = true := by decide +kernel
def X_X3_canHold : x_X := ([(15, 1, 0)], [], [], [], [(54, x_qC), (72, q_X3_settles 15)], (0, 0), x_kn, x_kf, 5, false)
theorem X_X3_canHold_ok : x_okT RX3 X_X3_canHold = true := by decide +kernel
theorem k_X3_canHold (l : Launch) : ∀ z ∈ X_X3_canHold.2.2.2.2.1, x_Cal l (x_rm 20 0 0) cX3_canHold RX3 2 z.1 z.2 := List.forall_mem_cons.mpr ⟨x_cal_C (idx := 18) ⟨by decide, by decide⟩ (by decide +kernel) (by decide +kernel) (by decide +kernel) (by decide +kernel), List.forall_mem_cons.mpr ⟨x_cal_S (idx := 24) (c_X3_settles l 15) ⟨by decide, by decide⟩ (by decide +kernel) (by decide +kernel) (by decide +kernel) (by decide +kernel) hd_settles, fun _ h => absurd h List.not_mem_nil⟩⟩
set_option maxHeartbeats 4000000 in
set_option maxRecDepth 100000 in
theorem c_X3_canHold (l : Launch) : x_CT l yX3_canHold cX3_canHold 2 (some .boolean) 20 q_X3_canHold := by
  refine x_meth (X := X_X3_canHold) (bl := b_X3_canHold) (cut := []) (own := RX3) 30 (by decide) rfl X_X3_canHold_ok b_X3_canHold_ok rfl (Nat.le_of_ble_eq_true rfl) (k_X3_canHold l) ?_
  rintro as S M - ⟨k, f, hk, rfl, hsh, hf, hSy, hC, hN, rfl⟩
  refine ⟨fun _ _ _ _ _ _ _ _ => False, ?_, ?_⟩
  · skip
    refine xt_blk rfl rfl (by dsimp only [List.take]) ?_
    refine xt_aln1 rfl (by first | decide | omega | assumption) ?_
    refine xt_ic ?_
    refine xt_aln0 rfl (by first | decide | omega | assumption) ?_
    refine xt_gfr (q := (1, 0)) rfl (by first | rfl | assumption) rfl ?_
    refine xt_ic ?_
    refine xt_ral (r := 10) rfl (show vp_in _ 16 from vp_in_nI (by decide) (by decide)) rfl (by decide) ?_
    refine xt_ic ?_
    refine xt_bi ?_
    refine xt_v5 (key := 54) (q := x_qC) rfl rfl rfl rfl rfl ⟨Nat.le_of_ble_eq_true rfl, Nat.le_of_ble_eq_true rfl⟩ ⟨k, 10, rfl, hsh, rfl⟩ (fun rv_ S1 M1 hq_11 => ?_)
    obtain ⟨er, eS_, eM_⟩ := hq_11
    replace eS_ := eS_.symm
    subst eS_
    have eM1 := eM_ k 10 rfl
    subst er
    subst eM1
    try dsimp only [Option.toList, List.cons_append, List.nil_append]
    refine xt_aln0 rfl (by first | decide | omega | assumption) ?_
    refine xt_gfr (q := (1, 0)) rfl (by first | rfl | assumption) rfl ?_
    refine xt_ic ?_
    refine xt_v2 (key := 72) (q := (q_X3_settles 15)) rfl rfl rfl rfl rfl ⟨Nat.le_of_ble_eq_true rfl, Nat.le_of_ble_eq_true rfl⟩ ⟨0, f, rfl, rfl, At_cp 10 hf, hSy, hC, hN, Nat.zero_le _, rfl⟩ (fun rv_ S1 M1 hq_19 => ?_)
    obtain ⟨eS_, hkk, hss⟩ := hq_19 0 f (by omega) (At_cp 10 hf) rfl
    replace eS_ := eS_.symm
    subst eS_
    have hex : ∃ v, rv_ = some (.inl v) ∧ (v = 0 ∨ v = 1) := by rcases hss with ⟨e, -⟩ | ⟨e, -⟩ <;> exact ⟨_, e, by decide⟩
    obtain ⟨v, rfl, hv⟩ := hex
    try dsimp only [Option.toList, List.cons_append, List.nil_append]
    refine xt_rz hv rfl (Nat.le_refl _) ?_
    intro k2 f2 hf2 e2
    simp only [List.cons.injEq, Sum.inr.injEq, Sum.inl.injEq, and_true, true_and] at e2
    subst e2
    have ef : ∀ j, j < 36 → f j = f2 j := fun j hj => by
      have h1 := (hf j hj).2
      rw [(hf2 j hj).2] at h1
      exact ((nI_eq (by have := (hf2 j hj).1; omega) (by have := (hf j hj).1; omega)).mp h1).symm
    refine ⟨rfl, fun j hj => by rw [hkk j (by omega), x_row_ne _ _ (by omega)], ?_⟩
    rw [← Sat_cg ef]
    exact hss
  · intro μ pc ls st S2 M2 cs sl h; exact h.elim
def q_X3_keepNet : x_K := (2, fun as S M => ∃ (k : Nat), k < 1000 ∧ S = SH ∧ SH[k]? = some (.inr (.inl (false, 36))) ∧ as = [.inr (.inl 8), .inr (.inl k)], fun as S M rv_ S' M' => ∀ (k : Nat), as = [.inr (.inl 8), .inr (.inl k)] → S' = S ∧ M' = x_row M k (x_cp (M 10) (M k) 36) ∧ rv_ = none, 0, 0)
theorem r_X3_keepNet : ∀ as S M, q_X3_keepNet.2.1 as S M → ∃ (k : Nat) (as' : List x_V) (fs : List (Option Nat)), as = .inr (.inl k) :: as' ∧ S[k]? = some (.inl (1, fs)) := by
  rintro as S M ⟨k, -, rfl, -, rfl⟩
  exact ⟨8, _, _, rfl, rfl⟩
def b_X3_keepNet : x_B := [(0, 2, [(.aload_n 0, 1), (.getfield 15, 3), (.iconst 0, 1), (.aaload, 1), (.iconst 0, 1), (.aload_n 1, 1), (.iconst 0, 1), (.bipush 36, 2), (.invokestatic 18, 3), (.return_, 1)])]
theorem b_X3_keepNet_ok : x_okB cX3_keepNet 2 b_X3_keepNet = true := by decide +kernel
def X_X3_keepNet : x_X := ([(15, 1, 0)], [], [], [], [(54, x_qC)], (0, 0), x_kn, x_kf, 5, false)
theorem X_X3_keepNet_ok : x_okT RX3 X_X3_keepNet = true := by decide +kernel
theorem k_X3_keepNet (l : Launch) : ∀ z ∈ X_X3_keepNet.2.2.2.2.1, x_Cal l (x_rm 1 0 0) cX3_keepNet RX3 2 z.1 z.2 := List.forall_mem_cons.mpr ⟨x_cal_C (idx := 18) ⟨by decide, by decide⟩ (by decide +kernel) (by decide +kernel) (by decide +kernel) (by decide +kernel), fun _ h => absurd h List.not_mem_nil⟩
set_option maxHeartbeats 4000000 in
set_option maxRecDepth 100000 in
theorem c_X3_keepNet (l : Launch) : x_CT l yX3_keepNet cX3_keepNet 2 none 1 q_X3_keepNet := by
  refine x_meth (X := X_X3_keepNet) (bl := b_X3_keepNet) (cut := []) (own := RX3) 30 (by decide) rfl X_X3_keepNet_ok b_X3_keepNet_ok rfl (Nat.le_of_ble_eq_true rfl) (k_X3_keepNet l) ?_
  rintro as S M - ⟨k, hk, rfl, hsh, rfl⟩
  refine ⟨fun _ _ _ _ _ _ _ _ => False, ?_, ?_⟩
  · skip
    refine xt_blk rfl rfl (by dsimp only [List.take]) ?_
    refine xt_aln0 rfl (by first | decide | omega | assumption) ?_
    refine xt_gfr (q := (1, 0)) rfl (by first | rfl | assumption) rfl ?_
    refine xt_ic ?_
    refine xt_ral (r := 10) rfl (show vp_in _ 16 from vp_in_nI (by decide) (by decide)) rfl (by decide) ?_
    refine xt_ic ?_
    refine xt_aln1 rfl (by first | decide | omega | assumption) ?_
    refine xt_ic ?_
    refine xt_bi ?_
    refine xt_v5 (key := 54) (q := x_qC) rfl rfl rfl rfl rfl ⟨Nat.le_of_ble_eq_true rfl, Nat.le_of_ble_eq_true rfl⟩ ⟨10, k, rfl, rfl, hsh⟩ (fun rv_ S1 M1 hq_11 => ?_)
    obtain ⟨er, eS_, eM_⟩ := hq_11
    replace eS_ := eS_.symm
    subst eS_
    have eM1 := eM_ 10 k rfl
    subst er
    subst eM1
    try dsimp only [Option.toList, List.cons_append, List.nil_append]
    refine xt_rv rfl (Nat.le_refl _) ?_
    intro k2 e2
    simp only [List.cons.injEq, Sum.inr.injEq, Sum.inl.injEq, and_true, true_and] at e2
    subst e2
    exact ⟨rfl, rfl, rfl⟩
  · intro μ pc ls st S2 M2 cs sl h; exact h.elim
def q_X3_canHoldWith : x_K := (5, fun as S M => ∃ (k a b r : Nat) (f : Nat → Nat), k < 1000 ∧ S = SH ∧ SH[k]? = some (.inr (.inl (false, 36))) ∧ a < 6 ∧ b < 6 ∧ a ≠ b ∧ r < 13 ∧ At M k f ∧ Sy f ∧ Clo f ∧ NE f 0 ∧ (f (a * 6 + b)).testBit r = true ∧ as = [.inr (.inl 8), .inr (.inl k), .inl (nI a), .inl (nI b), .inl (nI r)],
  fun as S M rv_ S' M' => ∀ (k a b r : Nat) (f : Nat → Nat), a < 6 → b < 6 → r < 13 → At M k f → as = [.inr (.inl 8), .inr (.inl k), .inl (nI a), .inl (nI b), .inl (nI r)] → S' = S ∧ (∀ j, j < 10 ∨ 25 < j → M' j = M j) ∧
    ((rv_ = some (.inl (nI 1)) ∧ Sat (nw f a b (2 ^ r)) ∧ ∃ g, At M' 10 g ∧ Sy g ∧ Clo g ∧ NE g 0 ∧ Mx (nw f a b (2 ^ r)) g) ∨ (rv_ = some (.inl (nI 0)) ∧ ¬ Sat (nw f a b (2 ^ r)))), 0, 0)
theorem r_X3_canHoldWith : ∀ as S M, q_X3_canHoldWith.2.1 as S M → ∃ (k : Nat) (as' : List x_V) (fs : List (Option Nat)), as = .inr (.inl k) :: as' ∧ S[k]? = some (.inl (1, fs)) := by
  rintro as S M ⟨k, a, b, r, f, -, rfl, -, -, -, -, -, -, -, -, -, -, rfl⟩
  exact ⟨8, _, _, rfl, rfl⟩
def b_X3_canHoldWith : x_B := [(0, 5, [(.aload_n 0, 1), (.getfield 15, 3), (.iconst 0, 1), (.aaload, 1), (.astore 5, 2), (.aload_n 1, 1), (.iconst 0, 1), (.aload 5, 2), (.iconst 0, 1), (.bipush 36, 2), (.invokestatic 18, 3), (.aload 5, 2), (.iload_n 2, 1), (.iload_n 3, 1), (.iconst 1, 1), (.iload 4, 2), (.ishl, 1), (.invokestatic 28, 3), (.aload 5, 2), (.iconst 1, 1), (.iload_n 2, 1), (.iload_n 3, 1), (.invokestatic 32, 3), (.ishl, 1), (.invokestatic 36, 3), (.ifCond .eq 18, 3), (.aload_n 0, 1), (.getfield 15, 3), (.iconst 0, 1), (.invokestatic 24, 3), (.ifCond .eq 7, 3), (.iconst 1, 1), (.goto 4, 3)]),
  (59, 6, [(.iconst 0, 1)]),
  (60, 6, [(.ireturn, 1)])]
theorem b_X3_canHoldWith_ok : x_okB cX3_canHoldWith 6 b_X3_canHoldWith = true := by decide +kernel
def X_X3_canHoldWith : x_X := ([(15, 1, 0)], [], [], [], [(54, x_qC), (84, q_X1_put), (96, q_X1_pairOf), (108, q_X1_close), (72, q_X3_settles 15)], (0, 0), x_kn, x_kf, 5, false)
theorem X_X3_canHoldWith_ok : x_okT RX3 X_X3_canHoldWith = true := by decide +kernel
theorem k_X3_canHoldWith (l : Launch) : ∀ z ∈ X_X3_canHoldWith.2.2.2.2.1, x_Cal l (x_rm 20 0 0) cX3_canHoldWith RX3 6 z.1 z.2 := List.forall_mem_cons.mpr ⟨x_cal_C (idx := 18) ⟨by decide, by decide⟩ (by decide +kernel) (by decide +kernel) (by decide +kernel) (by decide +kernel), List.forall_mem_cons.mpr ⟨x_cal_S (idx := 28) (c_X1_put l) ⟨by decide, by decide⟩ (by decide +kernel) (by decide +kernel) (by decide +kernel) (by decide +kernel) (by decide +kernel), List.forall_mem_cons.mpr ⟨x_cal_S (idx := 32) (c_X1_pairOf l) ⟨by decide, by decide⟩ (by decide +kernel) (by decide +kernel) (by decide +kernel) (by decide +kernel) (by decide +kernel), List.forall_mem_cons.mpr ⟨x_cal_S (idx := 36) (c_X1_close l) ⟨by decide, by decide⟩ (by decide +kernel) (by decide +kernel) (by decide +kernel) (by decide +kernel) (by decide +kernel), List.forall_mem_cons.mpr ⟨x_cal_S (idx := 24) (c_X3_settles l 15) ⟨by decide, by decide⟩ (by decide +kernel) (by decide +kernel) (by decide +kernel) (by decide +kernel) hd_settles, fun _ h => absurd h List.not_mem_nil⟩⟩⟩⟩⟩
set_option maxHeartbeats 4000000 in
set_option maxRecDepth 100000 in
theorem c_X3_canHoldWith (l : Launch) : x_CT l yX3_canHoldWith cX3_canHoldWith 6 (some .boolean) 20 q_X3_canHoldWith := by
  refine x_meth (X := X_X3_canHoldWith) (bl := b_X3_canHoldWith) (cut := []) (own := RX3) 30 (by decide) rfl X_X3_canHoldWith_ok b_X3_canHoldWith_ok rfl (Nat.le_of_ble_eq_true rfl) (k_X3_canHoldWith l) ?_
  rintro as S M - ⟨k, a, b, r, f, hk, rfl, hsh, ha, hb, hab, hr, hf, hSy, hC, hN, hbit, rfl⟩
  refine ⟨fun _ _ _ _ _ _ _ _ => False, ?_, ?_⟩
  · skip
    refine xt_blk rfl rfl (by dsimp only [List.take]) ?_
    refine xt_aln0 rfl (by first | decide | omega | assumption) ?_
    refine xt_gfr (q := (1, 0)) rfl (by first | rfl | assumption) rfl ?_
    refine xt_ic ?_
    refine xt_ral (r := 10) rfl (show vp_in _ 16 from vp_in_nI (by decide) (by decide)) rfl (by decide) ?_
    refine xt_ast rfl (by first | decide | omega | assumption) (by dsimp only [x_sto]) ?_
    refine xt_aln1 rfl (by first | decide | omega | assumption) ?_
    refine xt_ic ?_
    refine xt_ald rfl (by first | decide | omega | assumption) ?_
    refine xt_ic ?_
    refine xt_bi ?_
    refine xt_v5 (key := 54) (q := x_qC) rfl rfl rfl rfl rfl ⟨Nat.le_of_ble_eq_true rfl, Nat.le_of_ble_eq_true rfl⟩ ⟨k, 10, rfl, hsh, rfl⟩ (fun rv_ S1 M1 hq_15 => ?_)
    obtain ⟨er, eS_, eM_⟩ := hq_15
    replace eS_ := eS_.symm
    subst eS_
    have eM1 := eM_ k 10 rfl
    subst er
    subst eM1
    try dsimp only [Option.toList, List.cons_append, List.nil_append]
    refine xt_ald rfl (by first | decide | omega | assumption) ?_
    refine xt_iln2 rfl ?_
    refine xt_iln3 rfl ?_
    refine xt_ic ?_
    refine xt_ild rfl ?_
    refine xt_shl ?_
    refine xt_v4 (key := 84) (q := q_X1_put) rfl rfl rfl rfl rfl ⟨Nat.le_of_ble_eq_true rfl, Nat.le_of_ble_eq_true rfl⟩ ⟨10, a, b, 2 ^ r, by decide, ha, hb, Nat.pow_lt_pow_right (by decide) hr, rfl, by rw [n_shl (by omega) (by have := Nat.pow_lt_pow_right (show 1 < 2 by decide) hr; omega), Nat.one_mul]⟩ (fun rv_ S1 M1 hq_26 => ?_)
    obtain ⟨eS_, eM_, rfl⟩ := hq_26 10 a b (2 ^ r) ha hb (Nat.pow_lt_pow_right (by decide) hr) (by rw [n_shl (by omega) (by have := Nat.pow_lt_pow_right (show 1 < 2 by decide) hr; omega), Nat.one_mul])
    replace eS_ := eS_.symm
    replace eM_ := eM_.symm
    subst eS_ eM_
    rw [x_row_self, x_row_row]
    obtain ⟨w1, w2, w3, w4, w5⟩ := fix_IV hSy (fun j hj => (hf j hj).1) hC hN ha hb hab hr hbit
    have hupd := upd_nw (gI := x_cp (M k) (M 10) 36) (g := f) (fun j hj => by unfold x_cp; rw [if_pos hj]; exact (hf j hj).2) a b (2 ^ r)
    generalize hgI : upd (upd (x_cp (M k) (M 10) 36) (a * 6 + b) (nI (2 ^ r))) (b * 6 + a) (nI (tn (2 ^ r))) = gI0 at hupd ⊢
    have hat1 : ∀ j, j < 36 → nw f a b (2 ^ r) j < 8192 ∧ (x_row M 10 gI0) 10 j = nI (nw f a b (2 ^ r) j) := fun j hj => ⟨w1 j hj, by rw [x_row_self]; exact hupd j hj⟩
    have hp15 := pr_lt ha hb hab
    have hpw : 2 ^ pr a b < 2 ^ 15 := Nat.pow_lt_pow_right (by decide) hp15
    try dsimp only [Option.toList, List.cons_append, List.nil_append]
    refine xt_ald rfl (by first | decide | omega | assumption) ?_
    refine xt_ic ?_
    refine xt_iln2 rfl ?_
    refine xt_iln3 rfl ?_
    refine xt_v2 (key := 96) (q := q_X1_pairOf) rfl rfl rfl rfl rfl ⟨Nat.le_of_ble_eq_true rfl, Nat.le_of_ble_eq_true rfl⟩ ⟨a, b, ha, hb, hab, rfl⟩ (fun rv_ S1 M1 hq_34 => ?_)
    obtain ⟨eS_, eM_, rfl⟩ := hq_34 a b ha hb hab rfl
    replace eS_ := eS_.symm
    replace eM_ := eM_.symm
    subst eS_ eM_
    try dsimp only [Option.toList, List.cons_append, List.nil_append]
    refine xt_shl ?_
    refine xt_v2 (key := 108) (q := q_X1_close) rfl rfl rfl rfl rfl ⟨Nat.le_of_ble_eq_true rfl, Nat.le_of_ble_eq_true rfl⟩ ⟨10, 2 ^ pr a b, nw f a b (2 ^ r), by decide, hpw, rfl, hat1, w2, w3, w4, by rw [n_shl (by omega) (by omega), Nat.one_mul]⟩ (fun rv_ S1 M1 hq_38 => ?_)
    obtain ⟨eS_, gI, eM_, hcc⟩ := hq_38 10 (2 ^ pr a b) _ hat1 (by rw [n_shl (by omega) (by omega), Nat.one_mul])
    replace eS_ := eS_.symm
    replace eM_ := eM_.symm
    subst eS_ eM_
    rw [x_row_row]
    have hex : ∃ v, rv_ = some (.inl v) := by rcases hcc with ⟨e, -⟩ | ⟨e, -⟩ <;> exact ⟨_, e⟩
    obtain ⟨v, rfl⟩ := hex
    try dsimp only [Option.toList, List.cons_append, List.nil_append]
    refine xt_eq (t := 59) rfl (fun hc_41 => ?_) (fun hc_41 => ?_)
    · skip
      refine xt_blk rfl rfl (by dsimp only [List.take]) ?_
      refine xt_ic ?_
      refine xt_nil (t := 60) rfl ?_
      refine xt_blk rfl rfl (by dsimp only [List.take]) ?_
      refine xt_rz (by decide) rfl (Nat.le_refl _) ?_
      intro k2 a2 b2 r2 f2 h2a h2b h2r hf2 e2
      simp only [List.cons.injEq, Sum.inr.injEq, Sum.inl.injEq, and_true, true_and] at e2
      obtain ⟨rfl, ea, eb, er⟩ := e2
      rw [nI_eq (by omega) (by omega)] at ea eb er
      subst ea eb er
      have ef : ∀ j, j < 36 → f j = f2 j := fun j hj => by
        have h1 := (hf j hj).2
        rw [(hf2 j hj).2] at h1
        exact ((nI_eq (by have := (hf2 j hj).1; omega) (by have := (hf j hj).1; omega)).mp h1).symm
      have en := nw_cg ef a b (2 ^ r)
      rcases hcc with ⟨q, -⟩ | ⟨-, -, hF⟩
      · cases q; exact absurd hc_41 (by decide)
      · exact ⟨rfl, fun j hj => by rw [x_row_ne _ _ (by omega)], Or.inr ⟨rfl, fun z => Sat_fail hF ((Sat_cg en).mpr z)⟩⟩
    · skip
      have hg0 : ∃ g, Bd g ∧ (∀ j, j < 36 → gI j = nI (g j)) ∧ Sy g ∧ Clo g ∧ NE g 0 ∧ Mx (nw f a b (2 ^ r)) g := by
        rcases hcc with ⟨-, q⟩ | ⟨q, -⟩
        · exact q
        · cases q; exact absurd rfl hc_41
      refine xt_aln0 rfl (by first | decide | omega | assumption) ?_
      refine xt_gfr (q := (1, 0)) rfl (by first | rfl | assumption) rfl ?_
      refine xt_ic ?_
      refine xt_v2 (key := 72) (q := (q_X3_settles 15)) rfl rfl rfl rfl rfl ⟨Nat.le_of_ble_eq_true rfl, Nat.le_of_ble_eq_true rfl⟩ (by obtain ⟨g, q1, q2, q3, q4, q5, q6⟩ := hg0; exact ⟨0, g, rfl, rfl, fun j hj => ⟨q1 j hj, by rw [x_row_self]; exact q2 j hj⟩, q3, q4, q5, Nat.zero_le _, rfl⟩) (fun rv_ S1 M1 hq_49 => ?_)
      obtain ⟨g, q1, q2, q3, q4, q5, q6⟩ := hg0
      have hat2 : At (x_row M 10 gI) 10 g := fun j hj => ⟨q1 j hj, by rw [x_row_self]; exact q2 j hj⟩
      obtain ⟨eS_, hkk, hss⟩ := hq_49 0 g (by omega) hat2 rfl
      replace eS_ := eS_.symm
      subst eS_
      have hkeep4 : ∀ j, j < 10 ∨ 25 < j → M1 j = M j := fun j hj => by rw [hkk j (by omega), x_row_ne _ _ (by omega)]
      have hat3 : At M1 10 g := fun j hj => by rw [hkk 10 (Or.inl (Nat.le_refl _))]; exact hat2 j hj
      have hex : ∃ v, rv_ = some (.inl v) := by rcases hss with ⟨e, -⟩ | ⟨e, -⟩ <;> exact ⟨_, e⟩
      obtain ⟨v, rfl⟩ := hex
      try dsimp only [Option.toList, List.cons_append, List.nil_append]
      refine xt_eq (t := 59) rfl (fun hc_52 => ?_) (fun hc_52 => ?_)
      · skip
        refine xt_blk rfl rfl (by dsimp only [List.take]) ?_
        refine xt_ic ?_
        refine xt_nil (t := 60) rfl ?_
        refine xt_blk rfl rfl (by dsimp only [List.take]) ?_
        refine xt_rz (by decide) rfl (Nat.le_refl _) ?_
        intro k2 a2 b2 r2 f2 h2a h2b h2r hf2 e2
        simp only [List.cons.injEq, Sum.inr.injEq, Sum.inl.injEq, and_true, true_and] at e2
        obtain ⟨rfl, ea, eb, er⟩ := e2
        rw [nI_eq (by omega) (by omega)] at ea eb er
        subst ea eb er
        have ef : ∀ j, j < 36 → f j = f2 j := fun j hj => by
          have h1 := (hf j hj).2
          rw [(hf2 j hj).2] at h1
          exact ((nI_eq (by have := (hf2 j hj).1; omega) (by have := (hf j hj).1; omega)).mp h1).symm
        have en := nw_cg ef a b (2 ^ r)
        rcases hss with ⟨q, -⟩ | ⟨-, hF⟩
        · cases q; exact absurd hc_52 (by decide)
        · exact ⟨rfl, hkeep4, Or.inr ⟨rfl, fun z => hF ((Sat_mx q6).mp ((Sat_cg en).mpr z))⟩⟩
      · skip
        refine xt_ic ?_
        refine xt_goto (t := 60) rfl ?_
        refine xt_blk rfl rfl (by dsimp only [List.take]) ?_
        refine xt_rz (by decide) rfl (Nat.le_refl _) ?_
        intro k2 a2 b2 r2 f2 h2a h2b h2r hf2 e2
        simp only [List.cons.injEq, Sum.inr.injEq, Sum.inl.injEq, and_true, true_and] at e2
        obtain ⟨rfl, ea, eb, er⟩ := e2
        rw [nI_eq (by omega) (by omega)] at ea eb er
        subst ea eb er
        have ef : ∀ j, j < 36 → f j = f2 j := fun j hj => by
          have h1 := (hf j hj).2
          rw [(hf2 j hj).2] at h1
          exact ((nI_eq (by have := (hf2 j hj).1; omega) (by have := (hf j hj).1; omega)).mp h1).symm
        have en := nw_cg ef a b (2 ^ r)
        rcases hss with ⟨-, hF⟩ | ⟨q, -⟩
        · exact ⟨rfl, hkeep4, Or.inl ⟨rfl, (Sat_cg en).mp ((Sat_mx q6).mpr hF), g, hat3, q3, q4, q5, Mx_cg en q6⟩⟩
        · cases q; exact absurd rfl hc_52
  · intro μ pc ls st S2 M2 cs sl h; exact h.elim
