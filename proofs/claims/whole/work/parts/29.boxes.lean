/-! STATEMENTS: turnSilent, howManyTold; BOXES -/
def tl (x : Int32) : Int32 := if x = 0 then nI 1 else nI 0
def mSil (M : x_M) (i : Nat) (x : Int32) : x_M := if M 7 i = tl x then M else fun k => if k = 7 then upd (M 7) i (tl x) else if k = 1 then upd (M 1) 5 (M 1 5 + nI 1) else M k
def q_X4_turnSilent : x_K := (3, fun as S M => ∃ (i : Nat) (x : Int32), i < 30 ∧ S = SH ∧ as = [.inr (.inl 1), .inl (nI i), .inl x], fun as S M rv_ S' M' => ∀ (i : Nat) (x : Int32), i < 30 → as = [.inr (.inl 1), .inl (nI i), .inl x] → S' = S ∧ M' = mSil M i x ∧ rv_ = some (.inl (if M 7 i = tl x then nI 0 else nI 1)), 0, 0)
theorem r_X4_turnSilent : ∀ as S M, q_X4_turnSilent.2.1 as S M → ∃ (k : Nat) (as' : List x_V) (fs : List (Option Nat)), as = .inr (.inl k) :: as' ∧ S[k]? = some (.inl (2, fs)) := by
  rintro as S M ⟨i, x, hi, rfl, rfl⟩
  exact ⟨1, _, _, rfl, rfl⟩
def b_X4_turnSilent : x_B := [(0, 3, [(.iload_n 2, 1), (.ifCond .ne 7, 3), (.iconst 1, 1), (.goto 4, 3)]),
  (8, 3, [(.iconst 0, 1)]),
  (9, 3, [(.istore_n 3, 1), (.aload_n 0, 1), (.getfield 23, 3), (.iload_n 1, 1), (.baload, 1), (.iload_n 3, 1), (.if_icmp .ne 5, 3), (.iconst 0, 1), (.ireturn, 1)]),
  (22, 4, [(.aload_n 0, 1), (.getfield 23, 3), (.iload_n 1, 1), (.iload_n 3, 1), (.bastore, 1), (.aload_n 0, 1), (.dup, 1), (.getfield 31, 3), (.iconst 1, 1), (.iadd, 1), (.putfield 31, 3), (.iconst 1, 1), (.ireturn, 1)])]
theorem b_X4_turnSilent_ok : x_okB cX4_turnSilent 4 b_X4_turnSilent = true := by decide +kernel
def X_X4_turnSilent : x_X := ([(23, 2, 3), (31, 2, 5)], [], [], [], [], (0, 0), x_kn, x_kf, 5, false)
theorem X_X4_turnSilent_ok : x_okT RX4 X_X4_turnSilent = true := by decide +kernel
theorem k_X4_turnSilent (l : Launch) : ∀ z ∈ X_X4_turnSilent.2.2.2.2.1, x_Cal l (x_rm 1 0 0) cX4_turnSilent RX4 4 z.1 z.2 := fun _ h => absurd h List.not_mem_nil
set_option maxHeartbeats 4000000 in
set_option maxRecDepth 100000 in
theorem c_X4_turnSilent (l : Launch) : x_CT l yX4_turnSilent cX4_turnSilent 4 (some .boolean) 1 q_X4_turnSilent := by
  refine x_meth (X := X_X4_turnSilent) (bl := b_X4_turnSilent) (cut := []) (own := RX4) 30 (by decide) rfl X_X4_turnSilent_ok b_X4_turnSilent_ok rfl (Nat.le_of_ble_eq_true rfl) (k_X4_turnSilent l) ?_
  rintro as S M - ⟨i, x, hi, rfl, rfl⟩
  refine ⟨fun _ _ _ _ _ _ _ _ => False, ?_, ?_⟩
  · skip
    refine xt_blk rfl rfl (by dsimp only [List.take]) ?_
    refine xt_iln2 rfl ?_
    refine xt_ne (t := 8) rfl (fun hc_1 => ?_) (fun hc_1 => ?_)
    · skip
      refine xt_blk rfl rfl (by dsimp only [List.take]) ?_
      refine xt_ic ?_
      refine xt_nil (t := 9) rfl ?_
      refine xt_blk rfl rfl (by dsimp only [List.take]) ?_
      refine xt_isn3 rfl (by dsimp only [x_sto]) ?_
      refine xt_aln0 rfl (by first | decide | omega | assumption) ?_
      refine xt_gfr (q := (2, 3)) rfl (by first | rfl | assumption) rfl ?_
      refine xt_iln1 rfl ?_
      refine xt_bal (by first | rfl | assumption) (show vp_in _ 30 from vp_in_nI (by omega) (by decide)) ?_
      refine xt_iln3 rfl ?_
      refine xt_cne (t := 22) rfl (fun hc_17 => ?_) (fun hc_17 => ?_)
      · skip
        refine xt_blk rfl rfl (by dsimp only [List.take]) ?_
        refine xt_aln0 rfl (by first | decide | omega | assumption) ?_
        refine xt_gfr (q := (2, 3)) rfl (by first | rfl | assumption) rfl ?_
        refine xt_iln1 rfl ?_
        refine xt_iln3 rfl ?_
        refine xt_bas (by first | rfl | assumption) (show vp_in _ 30 from vp_in_nI (by omega) (by decide)) (by decide) ?_
        refine xt_aln0 rfl (by first | decide | omega | assumption) ?_
        refine xt_dup ?_
        refine xt_gfi (q := (2, 5)) rfl (by first | rfl | assumption) rfl ?_
        refine xt_ic ?_
        refine xt_add ?_
        refine xt_pfi (q := (2, 5)) rfl (by first | rfl | assumption) rfl (by decide) (Or.inl rfl) ?_
        refine xt_ic ?_
        refine xt_rz (by decide) rfl (Nat.le_refl _) ?_
        have etl : tl x = nI 0 := by unfold tl; rw [if_neg hc_1]
        rw [nI_clamp (by omega), ← etl] at hc_17
        intro i2 x2 h2i e2
        simp only [List.cons.injEq, Sum.inl.injEq, Sum.inr.injEq, and_true, true_and] at e2
        obtain ⟨e2i, e2x⟩ := e2
        rw [nI_eq (by omega) (by omega)] at e2i
        subst e2i
        subst e2x
        refine ⟨rfl, ?_, by rw [if_neg hc_17]⟩
        unfold mSil
        rw [if_neg hc_17, etl, nI_clamp (by omega)]
        funext k
        simp only [x_row]
        by_cases k1 : k = 1
        · subst k1; simp
        · by_cases k7 : k = 7
          · subst k7; simp
          · simp [k1, k7]
      · skip
        refine xt_ic ?_
        refine xt_rz (by decide) rfl (Nat.le_refl _) ?_
        have etl : tl x = nI 0 := by unfold tl; rw [if_neg hc_1]
        rw [nI_clamp (by omega), ← etl] at hc_17
        intro i2 x2 h2i e2
        simp only [List.cons.injEq, Sum.inl.injEq, Sum.inr.injEq, and_true, true_and] at e2
        obtain ⟨e2i, e2x⟩ := e2
        rw [nI_eq (by omega) (by omega)] at e2i
        subst e2i
        subst e2x
        exact ⟨rfl, by unfold mSil; rw [if_pos hc_17], by rw [if_pos hc_17]⟩
    · skip
      refine xt_ic ?_
      refine xt_goto (t := 9) rfl ?_
      refine xt_blk rfl rfl (by dsimp only [List.take]) ?_
      refine xt_isn3 rfl (by dsimp only [x_sto]) ?_
      refine xt_aln0 rfl (by first | decide | omega | assumption) ?_
      refine xt_gfr (q := (2, 3)) rfl (by first | rfl | assumption) rfl ?_
      refine xt_iln1 rfl ?_
      refine xt_bal (by first | rfl | assumption) (show vp_in _ 30 from vp_in_nI (by omega) (by decide)) ?_
      refine xt_iln3 rfl ?_
      refine xt_cne (t := 22) rfl (fun hc_17 => ?_) (fun hc_17 => ?_)
      · skip
        refine xt_blk rfl rfl (by dsimp only [List.take]) ?_
        refine xt_aln0 rfl (by first | decide | omega | assumption) ?_
        refine xt_gfr (q := (2, 3)) rfl (by first | rfl | assumption) rfl ?_
        refine xt_iln1 rfl ?_
        refine xt_iln3 rfl ?_
        refine xt_bas (by first | rfl | assumption) (show vp_in _ 30 from vp_in_nI (by omega) (by decide)) (by decide) ?_
        refine xt_aln0 rfl (by first | decide | omega | assumption) ?_
        refine xt_dup ?_
        refine xt_gfi (q := (2, 5)) rfl (by first | rfl | assumption) rfl ?_
        refine xt_ic ?_
        refine xt_add ?_
        refine xt_pfi (q := (2, 5)) rfl (by first | rfl | assumption) rfl (by decide) (Or.inl rfl) ?_
        refine xt_ic ?_
        refine xt_rz (by decide) rfl (Nat.le_refl _) ?_
        have etl : tl x = nI 1 := by unfold tl; rw [if_pos hc_1]
        rw [nI_clamp (by omega), ← etl] at hc_17
        intro i2 x2 h2i e2
        simp only [List.cons.injEq, Sum.inl.injEq, Sum.inr.injEq, and_true, true_and] at e2
        obtain ⟨e2i, e2x⟩ := e2
        rw [nI_eq (by omega) (by omega)] at e2i
        subst e2i
        subst e2x
        refine ⟨rfl, ?_, by rw [if_neg hc_17]⟩
        unfold mSil
        rw [if_neg hc_17, etl, nI_clamp (by omega)]
        funext k
        simp only [x_row]
        by_cases k1 : k = 1
        · subst k1; simp
        · by_cases k7 : k = 7
          · subst k7; simp
          · simp [k1, k7]
      · skip
        refine xt_ic ?_
        refine xt_rz (by decide) rfl (Nat.le_refl _) ?_
        have etl : tl x = nI 1 := by unfold tl; rw [if_pos hc_1]
        rw [nI_clamp (by omega), ← etl] at hc_17
        intro i2 x2 h2i e2
        simp only [List.cons.injEq, Sum.inl.injEq, Sum.inr.injEq, and_true, true_and] at e2
        obtain ⟨e2i, e2x⟩ := e2
        rw [nI_eq (by omega) (by omega)] at e2i
        subst e2i
        subst e2x
        exact ⟨rfl, by unfold mSil; rw [if_pos hc_17], by rw [if_pos hc_17]⟩
  · intro μ pc ls st S2 M2 cs sl h; exact h.elim
def q_X4_howManyTold : x_K := (1, fun as S M => S = SH ∧ (∃ n, n ≤ 30 ∧ M 1 4 = nI n) ∧ as = [.inr (.inl 1)], fun as S M rv_ S' M' => ∀ n, n ≤ 30 → M 1 4 = nI n → as = [.inr (.inl 1)] → S' = S ∧ M' = M ∧ rv_ = some (.inl (bcI (nI (tbf (M 7) n)))), 0, 0)
theorem r_X4_howManyTold : ∀ as S M, q_X4_howManyTold.2.1 as S M → ∃ (k : Nat) (as' : List x_V) (fs : List (Option Nat)), as = .inr (.inl k) :: as' ∧ S[k]? = some (.inl (2, fs)) := by
  rintro as S M ⟨rfl, hpre, rfl⟩
  exact ⟨1, _, _, rfl, rfl⟩
def b_X4_howManyTold : x_B := [(0, 1, [(.aload_n 0, 1), (.invokevirtual 38, 3), (.invokestatic 42, 3), (.ireturn, 1)])]
theorem b_X4_howManyTold_ok : x_okB cX4_howManyTold 1 b_X4_howManyTold = true := by decide +kernel
def X_X4_howManyTold : x_X := ([], [], [], [], [(115, q_X4_toldBits), (126, q_J6_bitCount)], (0, 0), x_kn, x_kf, 5, false)
theorem X_X4_howManyTold_ok : x_okT RX4 X_X4_howManyTold = true := by decide +kernel
theorem k_X4_howManyTold (l : Launch) : ∀ z ∈ X_X4_howManyTold.2.2.2.2.1, x_Cal l (x_rm 2 0 0) cX4_howManyTold RX4 1 z.1 z.2 := List.forall_mem_cons.mpr ⟨x_cal_V (idx := 38) (ci := 2) (n := 0) (c_X4_toldBits l) ⟨by decide, by decide⟩ (by decide +kernel) (by decide +kernel) (by decide +kernel) (by decide +kernel) (by decide +kernel) rfl rfl rfl (by decide +kernel) r_X4_toldBits, List.forall_mem_cons.mpr ⟨x_cal_S (idx := 42) (c_J6_bitCount l) ⟨by decide, by decide⟩ (by decide +kernel) (by decide +kernel) (by decide +kernel) (by decide +kernel) (by decide +kernel), fun _ h => absurd h List.not_mem_nil⟩⟩
set_option maxHeartbeats 4000000 in
set_option maxRecDepth 100000 in
theorem c_X4_howManyTold (l : Launch) : x_CT l yX4_howManyTold cX4_howManyTold 1 (some .int) 2 q_X4_howManyTold := by
  refine x_meth (X := X_X4_howManyTold) (bl := b_X4_howManyTold) (cut := []) (own := RX4) 30 (by decide) rfl X_X4_howManyTold_ok b_X4_howManyTold_ok rfl (Nat.le_of_ble_eq_true rfl) (k_X4_howManyTold l) ?_
  rintro as S M - ⟨rfl, hpre, rfl⟩
  refine ⟨fun _ _ _ _ _ _ _ _ => False, ?_, ?_⟩
  · skip
    refine xt_blk rfl rfl (by dsimp only [List.take]) ?_
    refine xt_aln0 rfl (by first | decide | omega | assumption) ?_
    refine xt_v1 (key := 115) (q := q_X4_toldBits) rfl rfl rfl rfl rfl ⟨Nat.le_of_ble_eq_true rfl, Nat.le_of_ble_eq_true rfl⟩ (by exact ⟨rfl, hpre, rfl⟩) (fun rv_ S1 M1 hq_1 => ?_)
    obtain ⟨n, hn, hsz⟩ := hpre
    obtain ⟨eS_, eM_, rfl⟩ := hq_1 n hn hsz rfl
    replace eS_ := eS_.symm
    replace eM_ := eM_.symm
    subst eS_ eM_
    try dsimp only [Option.toList, List.cons_append, List.nil_append]
    refine xt_v1 (key := 126) (q := q_J6_bitCount) rfl rfl rfl rfl rfl ⟨Nat.le_of_ble_eq_true rfl, Nat.le_of_ble_eq_true rfl⟩ ⟨_, rfl⟩ (fun rv_ S1 M1 hq_4 => ?_)
    obtain ⟨eS_, eM_, rfl⟩ := hq_4 _ rfl
    replace eS_ := eS_.symm
    replace eM_ := eM_.symm
    subst eS_ eM_
    try dsimp only [Option.toList, List.cons_append, List.nil_append]
    refine xt_ri rfl (Nat.le_refl _) ?_
    intro n2 hn2 hsz2 e2
    rw [hsz, nI_eq (by omega) (by omega)] at hsz2
    subst hsz2
    exact ⟨rfl, rfl, rfl⟩
  · intro μ pc ls st S2 M2 cs sl h; exact h.elim
def q_X0_has : x_K := (2, fun as S M => ∃ (t : Nat), t < 6 ∧ S = SH ∧ (∀ j, j < 6 → M 42 j = nI 0 ∨ M 42 j = nI 1) ∧ as = [.inr (.inl 40), .inl (nI t)], fun as S M rv_ S' M' => ∀ (t : Nat), t < 6 → as = [.inr (.inl 40), .inl (nI t)] → S' = S ∧ M' = M ∧ rv_ = some (.inl (M 42 t)), 0, 0)
theorem r_X0_has : ∀ as S M, q_X0_has.2.1 as S M → ∃ (k : Nat) (as' : List x_V) (fs : List (Option Nat)), as = .inr (.inl k) :: as' ∧ S[k]? = some (.inl (0, fs)) := by
  rintro as S M ⟨t, ht, rfl, hpre, rfl⟩
  exact ⟨40, _, _, rfl, rfl⟩
def b_X0_has : x_B := [(0, 2, [(.aload_n 0, 1), (.getfield 15, 3), (.iload_n 1, 1), (.baload, 1), (.ireturn, 1)])]
theorem b_X0_has_ok : x_okB cX0_has 2 b_X0_has = true := by decide +kernel
def X_X0_has : x_X := ([(15, 0, 1)], [], [], [], [], (0, 0), x_kn, x_kf, 5, false)
theorem X_X0_has_ok : x_okT RX0 X_X0_has = true := by decide +kernel
theorem k_X0_has (l : Launch) : ∀ z ∈ X_X0_has.2.2.2.2.1, x_Cal l (x_rm 1 0 0) cX0_has RX0 2 z.1 z.2 := fun _ h => absurd h List.not_mem_nil
set_option maxHeartbeats 4000000 in
set_option maxRecDepth 100000 in
theorem c_X0_has (l : Launch) : x_CT l yX0_has cX0_has 2 (some .boolean) 1 q_X0_has := by
  refine x_meth (X := X_X0_has) (bl := b_X0_has) (cut := []) (own := RX0) 30 (by decide) rfl X_X0_has_ok b_X0_has_ok rfl (Nat.le_of_ble_eq_true rfl) (k_X0_has l) ?_
  rintro as S M - ⟨t, ht, rfl, hpre, rfl⟩
  refine ⟨fun _ _ _ _ _ _ _ _ => False, ?_, ?_⟩
  · skip
    refine xt_blk rfl rfl (by dsimp only [List.take]) ?_
    refine xt_aln0 rfl (by first | decide | omega | assumption) ?_
    refine xt_gfr (q := (0, 1)) rfl (by first | rfl | assumption) rfl ?_
    refine xt_iln1 rfl ?_
    refine xt_bal (by first | rfl | assumption) (show vp_in _ 6 from vp_in_nI (by omega) (by decide)) ?_
    refine xt_rz (by rw [nI_clamp (by omega)]; exact hpre t ht) rfl (Nat.le_refl _) ?_
    intro t2 h2t e2
    simp only [List.cons.injEq, Sum.inl.injEq, Sum.inr.injEq, and_true, true_and] at e2
    have e2t := e2
    rw [nI_eq (by omega) (by omega)] at e2t
    subst e2t
    exact ⟨rfl, rfl, by rw [nI_clamp (by omega)]⟩
  · intro μ pc ls st S2 M2 cs sl h; exact h.elim
def q_X0_haveBoth : x_K := (3, fun as S M => ∃ (a : Nat) (b : Nat), a < 6 ∧ b < 6 ∧ S = SH ∧ as = [.inr (.inl 40), .inl (nI a), .inl (nI b)], fun as S M rv_ S' M' => ∀ (a : Nat) (b : Nat), a < 6 → b < 6 → as = [.inr (.inl 40), .inl (nI a), .inl (nI b)] → S' = S ∧ M' = M ∧ rv_ = some (.inl (if M 42 a ≠ 0 ∧ M 42 b ≠ 0 then nI 1 else nI 0)), 0, 0)
theorem r_X0_haveBoth : ∀ as S M, q_X0_haveBoth.2.1 as S M → ∃ (k : Nat) (as' : List x_V) (fs : List (Option Nat)), as = .inr (.inl k) :: as' ∧ S[k]? = some (.inl (0, fs)) := by
  rintro as S M ⟨a, b, ha, hb, rfl, rfl⟩
  exact ⟨40, _, _, rfl, rfl⟩
def b_X0_haveBoth : x_B := [(0, 3, [(.aload_n 0, 1), (.getfield 15, 3), (.iload_n 1, 1), (.baload, 1), (.ifCond .eq 16, 3), (.aload_n 0, 1), (.getfield 15, 3), (.iload_n 2, 1), (.baload, 1), (.ifCond .eq 7, 3), (.iconst 1, 1), (.goto 4, 3)]),
  (22, 3, [(.iconst 0, 1)]),
  (23, 3, [(.ireturn, 1)])]
theorem b_X0_haveBoth_ok : x_okB cX0_haveBoth 3 b_X0_haveBoth = true := by decide +kernel
def X_X0_haveBoth : x_X := ([(15, 0, 1)], [], [], [], [], (0, 0), x_kn, x_kf, 5, false)
theorem X_X0_haveBoth_ok : x_okT RX0 X_X0_haveBoth = true := by decide +kernel
theorem k_X0_haveBoth (l : Launch) : ∀ z ∈ X_X0_haveBoth.2.2.2.2.1, x_Cal l (x_rm 1 0 0) cX0_haveBoth RX0 3 z.1 z.2 := fun _ h => absurd h List.not_mem_nil
set_option maxHeartbeats 4000000 in
set_option maxRecDepth 100000 in
theorem c_X0_haveBoth (l : Launch) : x_CT l yX0_haveBoth cX0_haveBoth 3 (some .boolean) 1 q_X0_haveBoth := by
  refine x_meth (X := X_X0_haveBoth) (bl := b_X0_haveBoth) (cut := []) (own := RX0) 30 (by decide) rfl X_X0_haveBoth_ok b_X0_haveBoth_ok rfl (Nat.le_of_ble_eq_true rfl) (k_X0_haveBoth l) ?_
  rintro as S M - ⟨a, b, ha, hb, rfl, rfl⟩
  refine ⟨fun _ _ _ _ _ _ _ _ => False, ?_, ?_⟩
  · skip
    refine xt_blk rfl rfl (by dsimp only [List.take]) ?_
    refine xt_aln0 rfl (by first | decide | omega | assumption) ?_
    refine xt_gfr (q := (0, 1)) rfl (by first | rfl | assumption) rfl ?_
    refine xt_iln1 rfl ?_
    refine xt_bal (by first | rfl | assumption) (show vp_in _ 6 from vp_in_nI (by omega) (by decide)) ?_
    refine xt_eq (t := 22) rfl (fun hc_6 => ?_) (fun hc_6 => ?_)
    · skip
      refine xt_blk rfl rfl (by dsimp only [List.take]) ?_
      refine xt_ic ?_
      refine xt_nil (t := 23) rfl ?_
      refine xt_blk rfl rfl (by dsimp only [List.take]) ?_
      refine xt_rz (by decide) rfl (Nat.le_refl _) ?_
      rw [nI_clamp (by omega)] at hc_6
      intro a2 b2 h2a h2b e2
      simp only [List.cons.injEq, Sum.inl.injEq, Sum.inr.injEq, and_true, true_and] at e2
      obtain ⟨e2a, e2b⟩ := e2
      rw [nI_eq (by omega) (by omega)] at e2a
      subst e2a
      rw [nI_eq (by omega) (by omega)] at e2b
      subst e2b
      exact ⟨rfl, rfl, by rw [if_neg (fun q => q.1 hc_6)]⟩
    · skip
      refine xt_aln0 rfl (by first | decide | omega | assumption) ?_
      refine xt_gfr (q := (0, 1)) rfl (by first | rfl | assumption) rfl ?_
      refine xt_iln2 rfl ?_
      refine xt_bal (by first | rfl | assumption) (show vp_in _ 6 from vp_in_nI (by omega) (by decide)) ?_
      refine xt_eq (t := 22) rfl (fun hc_15 => ?_) (fun hc_15 => ?_)
      · skip
        refine xt_blk rfl rfl (by dsimp only [List.take]) ?_
        refine xt_ic ?_
        refine xt_nil (t := 23) rfl ?_
        refine xt_blk rfl rfl (by dsimp only [List.take]) ?_
        refine xt_rz (by decide) rfl (Nat.le_refl _) ?_
        rw [nI_clamp (by omega)] at hc_15
        intro a2 b2 h2a h2b e2
        simp only [List.cons.injEq, Sum.inl.injEq, Sum.inr.injEq, and_true, true_and] at e2
        obtain ⟨e2a, e2b⟩ := e2
        rw [nI_eq (by omega) (by omega)] at e2a
        subst e2a
        rw [nI_eq (by omega) (by omega)] at e2b
        subst e2b
        exact ⟨rfl, rfl, by rw [if_neg (fun q => q.2 hc_15)]⟩
      · skip
        refine xt_ic ?_
        refine xt_goto (t := 23) rfl ?_
        refine xt_blk rfl rfl (by dsimp only [List.take]) ?_
        refine xt_rz (by decide) rfl (Nat.le_refl _) ?_
        rw [nI_clamp (by omega)] at hc_6 hc_15
        intro a2 b2 h2a h2b e2
        simp only [List.cons.injEq, Sum.inl.injEq, Sum.inr.injEq, and_true, true_and] at e2
        obtain ⟨e2a, e2b⟩ := e2
        rw [nI_eq (by omega) (by omega)] at e2a
        subst e2a
        rw [nI_eq (by omega) (by omega)] at e2b
        subst e2b
        exact ⟨rfl, rfl, by rw [if_pos ⟨hc_6, hc_15⟩]⟩
  · intro μ pc ls st S2 M2 cs sl h; exact h.elim
def mDraw (M : x_M) (t : Nat) (a z b y : Int32) : x_M := fun k => if k = 42 then upd (M 42) t (nI 1) else if k = 41 then upd (upd (upd (upd (M 41) (t * 4) a) (t * 4 + 1) z) (t * 4 + 2) b) (t * 4 + 3) y else M k
def q_X0_draw : x_K := (6, fun as S M => ∃ (t : Nat) (a : Int32) (z : Int32) (b : Int32) (y : Int32), t < 6 ∧ S = SH ∧ as = [.inr (.inl 40), .inl (nI t), .inl a, .inl z, .inl b, .inl y], fun as S M rv_ S' M' => ∀ (t : Nat) (a : Int32) (z : Int32) (b : Int32) (y : Int32), t < 6 → as = [.inr (.inl 40), .inl (nI t), .inl a, .inl z, .inl b, .inl y] → S' = S ∧ M' = mDraw M t a z b y ∧ rv_ = none, 0, 0)
theorem r_X0_draw : ∀ as S M, q_X0_draw.2.1 as S M → ∃ (k : Nat) (as' : List x_V) (fs : List (Option Nat)), as = .inr (.inl k) :: as' ∧ S[k]? = some (.inl (0, fs)) := by
  rintro as S M ⟨t, a, z, b, y, ht, rfl, rfl⟩
  exact ⟨40, _, _, rfl, rfl⟩
def b_X0_draw : x_B := [(0, 6, [(.iload_n 1, 1), (.iconst 4, 1), (.imul, 1), (.istore 6, 2), (.aload_n 0, 1), (.getfield 11, 3), (.iload 6, 2), (.iload_n 2, 1), (.iastore, 1), (.aload_n 0, 1), (.getfield 11, 3), (.iload 6, 2), (.iconst 1, 1), (.iadd, 1), (.iload_n 3, 1), (.iastore, 1), (.aload_n 0, 1), (.getfield 11, 3), (.iload 6, 2), (.iconst 2, 1), (.iadd, 1), (.iload 4, 2), (.iastore, 1), (.aload_n 0, 1), (.getfield 11, 3), (.iload 6, 2), (.iconst 3, 1), (.iadd, 1), (.iload 5, 2), (.iastore, 1), (.aload_n 0, 1), (.getfield 15, 3), (.iload_n 1, 1), (.iconst 1, 1), (.bastore, 1), (.return_, 1)])]
theorem b_X0_draw_ok : x_okB cX0_draw 7 b_X0_draw = true := by decide +kernel
def X_X0_draw : x_X := ([(11, 0, 0), (15, 0, 1)], [], [], [], [], (0, 0), x_kn, x_kf, 5, false)
theorem X_X0_draw_ok : x_okT RX0 X_X0_draw = true := by decide +kernel
theorem k_X0_draw (l : Launch) : ∀ z ∈ X_X0_draw.2.2.2.2.1, x_Cal l (x_rm 1 0 0) cX0_draw RX0 7 z.1 z.2 := fun _ h => absurd h List.not_mem_nil
set_option maxHeartbeats 4000000 in
set_option maxRecDepth 100000 in
theorem c_X0_draw (l : Launch) : x_CT l yX0_draw cX0_draw 7 none 1 q_X0_draw := by
  refine x_meth (X := X_X0_draw) (bl := b_X0_draw) (cut := []) (own := RX0) 30 (by decide) rfl X_X0_draw_ok b_X0_draw_ok rfl (Nat.le_of_ble_eq_true rfl) (k_X0_draw l) ?_
  rintro as S M - ⟨t, a, z, b, y, ht, rfl, rfl⟩
  refine ⟨fun _ _ _ _ _ _ _ _ => False, ?_, ?_⟩
  · skip
    refine xt_blk rfl rfl (by dsimp only [List.take]) ?_
    refine xt_iln1 rfl ?_
    refine xt_ic ?_
    refine xt_mul ?_
    refine xt_ist rfl (by dsimp only [x_sto]) ?_
    refine xt_aln0 rfl (by first | decide | omega | assumption) ?_
    refine xt_gfr (q := (0, 0)) rfl (by first | rfl | assumption) rfl ?_
    refine xt_ild rfl ?_
    refine xt_iln2 rfl ?_
    refine xt_ias (by first | rfl | assumption) (show vp_in _ 24 from by simp only [pk_mul, nI_add]; exact vp_in_nI (by omega) (by decide)) ?_
    refine xt_aln0 rfl (by first | decide | omega | assumption) ?_
    refine xt_gfr (q := (0, 0)) rfl (by first | rfl | assumption) rfl ?_
    refine xt_ild rfl ?_
    refine xt_ic ?_
    refine xt_add ?_
    refine xt_iln3 rfl ?_
    refine xt_ias (by first | rfl | assumption) (show vp_in _ 24 from by simp only [pk_mul, nI_add]; exact vp_in_nI (by omega) (by decide)) ?_
    refine xt_aln0 rfl (by first | decide | omega | assumption) ?_
    refine xt_gfr (q := (0, 0)) rfl (by first | rfl | assumption) rfl ?_
    refine xt_ild rfl ?_
    refine xt_ic ?_
    refine xt_add ?_
    refine xt_ild rfl ?_
    refine xt_ias (by first | rfl | assumption) (show vp_in _ 24 from by simp only [pk_mul, nI_add]; exact vp_in_nI (by omega) (by decide)) ?_
    refine xt_aln0 rfl (by first | decide | omega | assumption) ?_
    refine xt_gfr (q := (0, 0)) rfl (by first | rfl | assumption) rfl ?_
    refine xt_ild rfl ?_
    refine xt_ic ?_
    refine xt_add ?_
    refine xt_ild rfl ?_
    refine xt_ias (by first | rfl | assumption) (show vp_in _ 24 from by simp only [pk_mul, nI_add]; exact vp_in_nI (by omega) (by decide)) ?_
    refine xt_aln0 rfl (by first | decide | omega | assumption) ?_
    refine xt_gfr (q := (0, 1)) rfl (by first | rfl | assumption) rfl ?_
    refine xt_iln1 rfl ?_
    refine xt_ic ?_
    refine xt_bas (by first | rfl | assumption) (show vp_in _ 6 from vp_in_nI (by omega) (by decide)) (Or.inr rfl) ?_
    refine xt_rv rfl (Nat.le_refl _) ?_
    intro t2 a2 z2 b2 y2 h2t e2
    simp only [List.cons.injEq, Sum.inl.injEq, Sum.inr.injEq, and_true, true_and] at e2
    obtain ⟨e2t, e2a, e2z, e2b, e2y⟩ := e2
    rw [nI_eq (by omega) (by omega)] at e2t
    subst e2t
    subst e2a
    subst e2z
    subst e2b
    subst e2y
    refine ⟨rfl, ?_, rfl⟩
    simp only [pk_mul, nI_add, nI_clamp (show t * 4 < 2 ^ 31 by omega), nI_clamp (show t * 4 + 1 < 2 ^ 31 by omega), nI_clamp (show t * 4 + 2 < 2 ^ 31 by omega), nI_clamp (show t * 4 + 3 < 2 ^ 31 by omega), nI_clamp (show t < 2 ^ 31 by omega)]
    funext k
    simp only [x_row, mDraw]
    by_cases k1 : k = 42
    · subst k1; simp
    · by_cases k2 : k = 41
      · subst k2; simp
      · simp [k1, k2]
  · intro μ pc ls st S2 M2 cs sl h; exact h.elim
def q_X0_remove : x_K := (2, fun as S M => ∃ (t : Nat), t < 6 ∧ S = SH ∧ as = [.inr (.inl 40), .inl (nI t)], fun as S M rv_ S' M' => ∀ (t : Nat), t < 6 → as = [.inr (.inl 40), .inl (nI t)] → S' = S ∧ M' = x_row M 42 (upd (M 42) t (nI 0)) ∧ rv_ = none, 0, 0)
theorem r_X0_remove : ∀ as S M, q_X0_remove.2.1 as S M → ∃ (k : Nat) (as' : List x_V) (fs : List (Option Nat)), as = .inr (.inl k) :: as' ∧ S[k]? = some (.inl (0, fs)) := by
  rintro as S M ⟨t, ht, rfl, rfl⟩
  exact ⟨40, _, _, rfl, rfl⟩
def b_X0_remove : x_B := [(0, 2, [(.aload_n 0, 1), (.getfield 15, 3), (.iload_n 1, 1), (.iconst 0, 1), (.bastore, 1), (.return_, 1)])]
theorem b_X0_remove_ok : x_okB cX0_remove 2 b_X0_remove = true := by decide +kernel
def X_X0_remove : x_X := ([(15, 0, 1)], [], [], [], [], (0, 0), x_kn, x_kf, 5, false)
theorem X_X0_remove_ok : x_okT RX0 X_X0_remove = true := by decide +kernel
theorem k_X0_remove (l : Launch) : ∀ z ∈ X_X0_remove.2.2.2.2.1, x_Cal l (x_rm 1 0 0) cX0_remove RX0 2 z.1 z.2 := fun _ h => absurd h List.not_mem_nil
set_option maxHeartbeats 4000000 in
set_option maxRecDepth 100000 in
theorem c_X0_remove (l : Launch) : x_CT l yX0_remove cX0_remove 2 none 1 q_X0_remove := by
  refine x_meth (X := X_X0_remove) (bl := b_X0_remove) (cut := []) (own := RX0) 30 (by decide) rfl X_X0_remove_ok b_X0_remove_ok rfl (Nat.le_of_ble_eq_true rfl) (k_X0_remove l) ?_
  rintro as S M - ⟨t, ht, rfl, rfl⟩
  refine ⟨fun _ _ _ _ _ _ _ _ => False, ?_, ?_⟩
  · skip
    refine xt_blk rfl rfl (by dsimp only [List.take]) ?_
    refine xt_aln0 rfl (by first | decide | omega | assumption) ?_
    refine xt_gfr (q := (0, 1)) rfl (by first | rfl | assumption) rfl ?_
    refine xt_iln1 rfl ?_
    refine xt_ic ?_
    refine xt_bas (by first | rfl | assumption) (show vp_in _ 6 from vp_in_nI (by omega) (by decide)) (Or.inl rfl) ?_
    refine xt_rv rfl (Nat.le_refl _) ?_
    intro t2 h2t e2
    simp only [List.cons.injEq, Sum.inl.injEq, Sum.inr.injEq, and_true, true_and] at e2
    have e2t := e2
    rw [nI_eq (by omega) (by omega)] at e2t
    subst e2t
    exact ⟨rfl, by rw [nI_clamp (by omega)], rfl⟩
  · intro μ pc ls st S2 M2 cs sl h; exact h.elim
def cnz (t : Nat → Int32) : Nat → Nat
  | 0 => 0
  | i + 1 => if t i = 0 then cnz t i else cnz t i + 1
theorem cnz_le (t : Nat → Int32) : ∀ i, cnz t i ≤ i
  | 0 => Nat.le_refl _
  | i + 1 => by have := cnz_le t i; unfold cnz; split <;> omega
def q_X0_howMany : x_K := (1, fun as S M => S = SH ∧ as = [.inr (.inl 40)], fun as S M rv_ S' M' => as = [.inr (.inl 40)] → S' = S ∧ M' = M ∧ rv_ = some (.inl (nI (cnz (M 42) 6))), 0, 0)
theorem r_X0_howMany : ∀ as S M, q_X0_howMany.2.1 as S M → ∃ (k : Nat) (as' : List x_V) (fs : List (Option Nat)), as = .inr (.inl k) :: as' ∧ S[k]? = some (.inl (0, fs)) := by
  rintro as S M ⟨rfl, rfl⟩
  exact ⟨40, _, _, rfl, rfl⟩
def b_X0_howMany : x_B := [(0, 1, [(.iconst 0, 1), (.istore_n 1, 1), (.iconst 0, 1), (.istore_n 2, 1)]),
  (4, 3, [(.iload_n 2, 1), (.bipush 6, 2), (.if_icmp .ge 21, 3), (.aload_n 0, 1), (.getfield 15, 3), (.iload_n 2, 1), (.baload, 1), (.ifCond .eq 6, 3), (.iinc 1 1, 3)]),
  (22, 3, [(.iinc 2 1, 3), (.goto (-21), 3)]),
  (28, 3, [(.iload_n 1, 1), (.ireturn, 1)])]
theorem b_X0_howMany_ok : x_okB cX0_howMany 3 b_X0_howMany = true := by decide +kernel
def X_X0_howMany : x_X := ([(15, 0, 1)], [], [], [], [], (0, 0), x_kn, x_kf, 5, false)
theorem X_X0_howMany_ok : x_okT RX0 X_X0_howMany = true := by decide +kernel
theorem k_X0_howMany (l : Launch) : ∀ z ∈ X_X0_howMany.2.2.2.2.1, x_Cal l (x_rm 1 0 0) cX0_howMany RX0 3 z.1 z.2 := fun _ h => absurd h List.not_mem_nil
set_option maxHeartbeats 4000000 in
set_option maxRecDepth 100000 in
theorem c_X0_howMany (l : Launch) : x_CT l yX0_howMany cX0_howMany 3 (some .int) 1 q_X0_howMany := by
  refine x_meth (X := X_X0_howMany) (bl := b_X0_howMany) (cut := [4]) (own := RX0) 30 (by decide) rfl X_X0_howMany_ok b_X0_howMany_ok rfl (Nat.le_of_ble_eq_true rfl) (k_X0_howMany l) ?_
  rintro as S M - ⟨rfl, rfl⟩
  refine ⟨fun μ pc ls st S' M' cs sl => ∃ i, i ≤ 6 ∧ pc = 4 ∧ st = [] ∧ S' = SH ∧ M' = M ∧ cs = 0 ∧ sl = 0 ∧ ls = [.inr (.inl 40), .inl (nI (cnz (M 42) i)), .inl (nI i)] ∧ μ = 6 - i, ?_, ?_⟩
  · skip
    refine xt_blk rfl rfl (by dsimp only [List.take]) ?_
    refine xt_ic ?_
    refine xt_isn1 rfl (by dsimp only [x_sto]) ?_
    refine xt_ic ?_
    refine xt_isn2 rfl (by dsimp only [x_sto]) ?_
    refine xt_nil (t := 4) rfl ?_
    refine xt_cut rfl rfl (by dsimp only [List.take]) ?_
    exact ⟨6, 0, by omega, rfl, rfl, rfl, rfl, rfl, rfl, rfl, rfl⟩
  · rintro μ pc ls st S2 M2 cs sl (⟨i, hi, rfl, rfl, rfl, rfl, rfl, rfl, rfl, rfl⟩)
    · refine ⟨_, rfl, ?_⟩
      refine xt_iln2 rfl ?_
      refine xt_bi ?_
      refine xt_cge (t := 28) rfl (fun hc_7 => ?_) (fun hc_7 => ?_)
      · skip
        refine xt_blk rfl rfl (by dsimp only [List.take]) ?_
        refine xt_iln1 rfl ?_
        refine xt_ri rfl (Nat.le_refl _) ?_
        have h6 : i = 6 := by rw [nI_leI (by omega) (by omega)] at hc_7; omega
        subst h6
        intro e2
        clear e2
        exact ⟨rfl, rfl, rfl⟩
      · skip
        refine xt_aln0 rfl (by first | decide | omega | assumption) ?_
        refine xt_gfr (q := (0, 1)) rfl (by first | rfl | assumption) rfl ?_
        refine xt_iln2 rfl ?_
        refine xt_bal (by first | rfl | assumption) (show vp_in _ 6 from vp_in_nI (by rw [nI_leI (by omega) (by omega)] at hc_7; omega) (by decide)) ?_
        refine xt_eq (t := 22) rfl (fun hc_16 => ?_) (fun hc_16 => ?_)
        · skip
          refine xt_blk rfl rfl (by dsimp only [List.take]) ?_
          refine xt_inc rfl (by dsimp only [x_sto]) ?_
          refine xt_goto (t := 4) rfl ?_
          refine xt_cut rfl rfl (by dsimp only [List.take]) ?_
          have hlt : i < 6 := by rw [nI_leI (by omega) (by omega)] at hc_7; omega
          rw [nI_clamp (by omega)] at hc_16
          exact ⟨6 - (i + 1), by omega, i + 1, by omega, rfl, rfl, rfl, rfl, rfl, rfl, by simp only [nI_add, cnz]; rw [if_pos hc_16], rfl⟩
        · skip
          refine xt_inc rfl (by dsimp only [x_sto]) ?_
          refine xt_nil (t := 22) rfl ?_
          refine xt_blk rfl rfl (by dsimp only [List.take]) ?_
          refine xt_inc rfl (by dsimp only [x_sto]) ?_
          refine xt_goto (t := 4) rfl ?_
          refine xt_cut rfl rfl (by dsimp only [List.take]) ?_
          have hlt : i < 6 := by rw [nI_leI (by omega) (by omega)] at hc_7; omega
          rw [nI_clamp (by omega)] at hc_16
          exact ⟨6 - (i + 1), by omega, i + 1, by omega, rfl, rfl, rfl, rfl, rfl, rfl, by simp only [nI_add, cnz]; rw [if_neg hc_16], rfl⟩
def bxr (M : x_M) (w a b : Nat) : Nat := bw (M 41 (a * 4 + w * 2)) (M 41 (a * 4 + w * 2 + 1)) (M 41 (b * 4 + w * 2)) (M 41 (b * 4 + w * 2 + 1))
def q_X0_relation : x_K := (4, fun as S M => ∃ (w : Nat) (a : Nat) (b : Nat), w < 2 ∧ a < 6 ∧ b < 6 ∧ S = SH ∧ as = [.inr (.inl 40), .inl (nI w), .inl (nI a), .inl (nI b)], fun as S M rv_ S' M' => ∀ (w : Nat) (a : Nat) (b : Nat), w < 2 → a < 6 → b < 6 → as = [.inr (.inl 40), .inl (nI w), .inl (nI a), .inl (nI b)] → S' = S ∧ M' = M ∧ rv_ = some (.inl (nI (bxr M w a b))), 0, 0)
theorem r_X0_relation : ∀ as S M, q_X0_relation.2.1 as S M → ∃ (k : Nat) (as' : List x_V) (fs : List (Option Nat)), as = .inr (.inl k) :: as' ∧ S[k]? = some (.inl (0, fs)) := by
  rintro as S M ⟨w, a, b, hw, ha, hb, rfl, rfl⟩
  exact ⟨40, _, _, rfl, rfl⟩
def b_X0_relation : x_B := [(0, 4, [(.iload_n 2, 1), (.iconst 4, 1), (.imul, 1), (.iload_n 1, 1), (.iconst 2, 1), (.imul, 1), (.iadd, 1), (.istore 4, 2), (.iload_n 3, 1), (.iconst 4, 1), (.imul, 1), (.iload_n 1, 1), (.iconst 2, 1), (.imul, 1), (.iadd, 1), (.istore 5, 2), (.aload_n 0, 1), (.getfield 11, 3), (.iload 4, 2), (.iaload, 1), (.aload_n 0, 1), (.getfield 11, 3), (.iload 4, 2), (.iconst 1, 1), (.iadd, 1), (.iaload, 1), (.aload_n 0, 1), (.getfield 11, 3), (.iload 5, 2), (.iaload, 1), (.aload_n 0, 1), (.getfield 11, 3), (.iload 5, 2), (.iconst 1, 1), (.iadd, 1), (.iaload, 1), (.invokestatic 19, 3), (.ireturn, 1)])]
theorem b_X0_relation_ok : x_okB cX0_relation 6 b_X0_relation = true := by decide +kernel
def X_X0_relation : x_X := ([(11, 0, 0)], [], [], [], [(57, q_X2_between)], (0, 0), x_kn, x_kf, 5, false)
theorem X_X0_relation_ok : x_okT RX0 X_X0_relation = true := by decide +kernel
theorem k_X0_relation (l : Launch) : ∀ z ∈ X_X0_relation.2.2.2.2.1, x_Cal l (x_rm 3 0 0) cX0_relation RX0 6 z.1 z.2 := List.forall_mem_cons.mpr ⟨x_cal_S (idx := 19) (c_X2_between l) ⟨by decide, by decide⟩ (by decide +kernel) (by decide +kernel) (by decide +kernel) (by decide +kernel) (by decide +kernel), fun _ h => absurd h List.not_mem_nil⟩
set_option maxHeartbeats 4000000 in
set_option maxRecDepth 100000 in
theorem c_X0_relation (l : Launch) : x_CT l yX0_relation cX0_relation 6 (some .int) 3 q_X0_relation := by
  refine x_meth (X := X_X0_relation) (bl := b_X0_relation) (cut := []) (own := RX0) 30 (by decide) rfl X_X0_relation_ok b_X0_relation_ok rfl (Nat.le_of_ble_eq_true rfl) (k_X0_relation l) ?_
  rintro as S M - ⟨w, a, b, hw, ha, hb, rfl, rfl⟩
  refine ⟨fun _ _ _ _ _ _ _ _ => False, ?_, ?_⟩
  · skip
    refine xt_blk rfl rfl (by dsimp only [List.take]) ?_
    refine xt_iln2 rfl ?_
    refine xt_ic ?_
    refine xt_mul ?_
    refine xt_iln1 rfl ?_
    refine xt_ic ?_
    refine xt_mul ?_
    refine xt_add ?_
    refine xt_ist rfl (by dsimp only [x_sto]) ?_
    refine xt_iln3 rfl ?_
    refine xt_ic ?_
    refine xt_mul ?_
    refine xt_iln1 rfl ?_
    refine xt_ic ?_
    refine xt_mul ?_
    refine xt_add ?_
    refine xt_ist rfl (by dsimp only [x_sto]) ?_
    refine xt_aln0 rfl (by first | decide | omega | assumption) ?_
    refine xt_gfr (q := (0, 0)) rfl (by first | rfl | assumption) rfl ?_
    refine xt_ild rfl ?_
    refine xt_ial (by first | rfl | assumption) (show vp_in _ 24 from by simp only [pk_mul, nI_add]; exact vp_in_nI (by omega) (by decide)) ?_
    refine xt_aln0 rfl (by first | decide | omega | assumption) ?_
    refine xt_gfr (q := (0, 0)) rfl (by first | rfl | assumption) rfl ?_
    refine xt_ild rfl ?_
    refine xt_ic ?_
    refine xt_add ?_
    refine xt_ial (by first | rfl | assumption) (show vp_in _ 24 from by simp only [pk_mul, nI_add]; exact vp_in_nI (by omega) (by decide)) ?_
    refine xt_aln0 rfl (by first | decide | omega | assumption) ?_
    refine xt_gfr (q := (0, 0)) rfl (by first | rfl | assumption) rfl ?_
    refine xt_ild rfl ?_
    refine xt_ial (by first | rfl | assumption) (show vp_in _ 24 from by simp only [pk_mul, nI_add]; exact vp_in_nI (by omega) (by decide)) ?_
    refine xt_aln0 rfl (by first | decide | omega | assumption) ?_
    refine xt_gfr (q := (0, 0)) rfl (by first | rfl | assumption) rfl ?_
    refine xt_ild rfl ?_
    refine xt_ic ?_
    refine xt_add ?_
    refine xt_ial (by first | rfl | assumption) (show vp_in _ 24 from by simp only [pk_mul, nI_add]; exact vp_in_nI (by omega) (by decide)) ?_
    refine xt_v4 (key := 57) (q := q_X2_between) rfl rfl rfl rfl rfl ⟨Nat.le_of_ble_eq_true rfl, Nat.le_of_ble_eq_true rfl⟩ ⟨_, _, _, _, rfl⟩ (fun rv_ S1 M1 hq_50 => ?_)
    obtain ⟨eS_, eM_, rfl⟩ := hq_50 _ _ _ _ rfl
    replace eS_ := eS_.symm
    replace eM_ := eM_.symm
    subst eS_ eM_
    try dsimp only [Option.toList, List.cons_append, List.nil_append]
    refine xt_ri rfl (Nat.le_refl _) ?_
    intro w2 a2 b2 h2w h2a h2b e2
    simp only [List.cons.injEq, Sum.inl.injEq, Sum.inr.injEq, and_true, true_and] at e2
    obtain ⟨e2w, e2a, e2b⟩ := e2
    rw [nI_eq (by omega) (by omega)] at e2w
    subst e2w
    rw [nI_eq (by omega) (by omega)] at e2a
    subst e2a
    rw [nI_eq (by omega) (by omega)] at e2b
    subst e2b
    refine ⟨rfl, rfl, ?_⟩
    unfold bxr
    simp only [pk_mul, nI_add]
    rw [nI_clamp (by omega), nI_clamp (by omega), nI_clamp (by omega), nI_clamp (by omega)]
  · intro μ pc ls st S2 M2 cs sl h; exact h.elim
theorem bxr_lt (M : x_M) (w a b : Nat) : bxr M w a b < 13 := bw_lt _ _ _ _
def q_X0_agree : x_K := (5, fun as S M => ∃ (a : Nat) (b : Nat) (o : Nat) (u : Nat), a < 6 ∧ b < 6 ∧ o < 8192 ∧ u < 8192 ∧ S = SH ∧ as = [.inr (.inl 40), .inl (nI a), .inl (nI b), .inl (nI o), .inl (nI u)], fun as S M rv_ S' M' => ∀ (a : Nat) (b : Nat) (o : Nat) (u : Nat), a < 6 → b < 6 → o < 8192 → u < 8192 → as = [.inr (.inl 40), .inl (nI a), .inl (nI b), .inl (nI o), .inl (nI u)] → S' = S ∧ M' = M ∧ rv_ = some (.inl (if bi o (bxr M 0 a b) = 1 ∧ bi u (bxr M 1 a b) = 1 then nI 1 else nI 0)), 0, 0)
theorem r_X0_agree : ∀ as S M, q_X0_agree.2.1 as S M → ∃ (k : Nat) (as' : List x_V) (fs : List (Option Nat)), as = .inr (.inl k) :: as' ∧ S[k]? = some (.inl (0, fs)) := by
  rintro as S M ⟨a, b, o, u, ha, hb, ho, hu, rfl, rfl⟩
  exact ⟨40, _, _, rfl, rfl⟩
def b_X0_agree : x_B := [(0, 5, [(.iload_n 3, 1), (.aload_n 0, 1), (.iconst 0, 1), (.iload_n 1, 1), (.iload_n 2, 1), (.invokevirtual 25, 3), (.ishr, 1), (.iconst 1, 1), (.iand, 1), (.ifCond .eq 22, 3), (.iload 4, 2), (.aload_n 0, 1), (.iconst 1, 1), (.iload_n 1, 1), (.iload_n 2, 1), (.invokevirtual 25, 3), (.ishr, 1), (.iconst 1, 1), (.iand, 1), (.ifCond .eq 7, 3), (.iconst 1, 1), (.goto 4, 3)]),
  (33, 5, [(.iconst 0, 1)]),
  (34, 5, [(.ireturn, 1)])]
theorem b_X0_agree_ok : x_okB cX0_agree 5 b_X0_agree = true := by decide +kernel
def X_X0_agree : x_X := ([], [], [], [], [(76, q_X0_relation)], (0, 0), x_kn, x_kf, 5, false)
theorem X_X0_agree_ok : x_okT RX0 X_X0_agree = true := by decide +kernel
theorem k_X0_agree (l : Launch) : ∀ z ∈ X_X0_agree.2.2.2.2.1, x_Cal l (x_rm 4 0 0) cX0_agree RX0 5 z.1 z.2 := List.forall_mem_cons.mpr ⟨x_cal_V (idx := 25) (ci := 0) (n := 3) (c_X0_relation l) ⟨by decide, by decide⟩ (by decide +kernel) (by decide +kernel) (by decide +kernel) (by decide +kernel) (by decide +kernel) rfl rfl rfl (by decide +kernel) r_X0_relation, fun _ h => absurd h List.not_mem_nil⟩
set_option maxHeartbeats 4000000 in
set_option maxRecDepth 100000 in
theorem c_X0_agree (l : Launch) : x_CT l yX0_agree cX0_agree 5 (some .boolean) 4 q_X0_agree := by
  refine x_meth (X := X_X0_agree) (bl := b_X0_agree) (cut := []) (own := RX0) 30 (by decide) rfl X_X0_agree_ok b_X0_agree_ok rfl (Nat.le_of_ble_eq_true rfl) (k_X0_agree l) ?_
  rintro as S M - ⟨a, b, o, u, ha, hb, ho, hu, rfl, rfl⟩
  refine ⟨fun _ _ _ _ _ _ _ _ => False, ?_, ?_⟩
  · skip
    refine xt_blk rfl rfl (by dsimp only [List.take]) ?_
    refine xt_iln3 rfl ?_
    refine xt_aln0 rfl (by first | decide | omega | assumption) ?_
    refine xt_ic ?_
    refine xt_iln1 rfl ?_
    refine xt_iln2 rfl ?_
    refine xt_v4 (key := 76) (q := q_X0_relation) rfl rfl rfl rfl rfl ⟨Nat.le_of_ble_eq_true rfl, Nat.le_of_ble_eq_true rfl⟩ ⟨0, a, b, by decide, ha, hb, rfl, rfl⟩ (fun rv_ S1 M1 hq_5 => ?_)
    obtain ⟨eS_, eM_, rfl⟩ := hq_5 0 a b (by decide) ha hb rfl
    replace eS_ := eS_.symm
    replace eM_ := eM_.symm
    subst eS_ eM_
    try dsimp only [Option.toList, List.cons_append, List.nil_append]
    refine xt_shr ?_
    refine xt_ic ?_
    refine xt_and ?_
    refine xt_eq (t := 33) rfl (fun hc_11 => ?_) (fun hc_11 => ?_)
    · skip
      refine xt_blk rfl rfl (by dsimp only [List.take]) ?_
      refine xt_ic ?_
      refine xt_nil (t := 34) rfl ?_
      refine xt_blk rfl rfl (by dsimp only [List.take]) ?_
      refine xt_rz (by decide) rfl (Nat.le_refl _) ?_
      have hr0 := bxr_lt M 0 a b
      have hb0 := bi_lt o (bxr M 0 a b)
      rw [n_bit (by omega) (by omega), n_eq0 (by unfold bi at hb0; omega)] at hc_11
      intro a2 b2 o2 u2 h2a h2b h2o h2u e2
      simp only [List.cons.injEq, Sum.inl.injEq, Sum.inr.injEq, and_true, true_and] at e2
      obtain ⟨e2a, e2b, e2o, e2u⟩ := e2
      rw [nI_eq (by omega) (by omega)] at e2a
      subst e2a
      rw [nI_eq (by omega) (by omega)] at e2b
      subst e2b
      rw [nI_eq (by omega) (by omega)] at e2o
      subst e2o
      rw [nI_eq (by omega) (by omega)] at e2u
      subst e2u
      exact ⟨rfl, rfl, by rw [if_neg (fun q => by have := q.1; unfold bi at this; omega)]⟩
    · skip
      refine xt_ild rfl ?_
      refine xt_aln0 rfl (by first | decide | omega | assumption) ?_
      refine xt_ic ?_
      refine xt_iln1 rfl ?_
      refine xt_iln2 rfl ?_
      refine xt_v4 (key := 76) (q := q_X0_relation) rfl rfl rfl rfl rfl ⟨Nat.le_of_ble_eq_true rfl, Nat.le_of_ble_eq_true rfl⟩ ⟨1, a, b, by decide, ha, hb, rfl, rfl⟩ (fun rv_ S1 M1 hq_20 => ?_)
      obtain ⟨eS_, eM_, rfl⟩ := hq_20 1 a b (by decide) ha hb rfl
      replace eS_ := eS_.symm
      replace eM_ := eM_.symm
      subst eS_ eM_
      try dsimp only [Option.toList, List.cons_append, List.nil_append]
      refine xt_shr ?_
      refine xt_ic ?_
      refine xt_and ?_
      refine xt_eq (t := 33) rfl (fun hc_26 => ?_) (fun hc_26 => ?_)
      · skip
        refine xt_blk rfl rfl (by dsimp only [List.take]) ?_
        refine xt_ic ?_
        refine xt_nil (t := 34) rfl ?_
        refine xt_blk rfl rfl (by dsimp only [List.take]) ?_
        refine xt_rz (by decide) rfl (Nat.le_refl _) ?_
        have hr1 := bxr_lt M 1 a b
        have hb1 := bi_lt u (bxr M 1 a b)
        rw [n_bit (by omega) (by omega), n_eq0 (by unfold bi at hb1; omega)] at hc_26
        intro a2 b2 o2 u2 h2a h2b h2o h2u e2
        simp only [List.cons.injEq, Sum.inl.injEq, Sum.inr.injEq, and_true, true_and] at e2
        obtain ⟨e2a, e2b, e2o, e2u⟩ := e2
        rw [nI_eq (by omega) (by omega)] at e2a
        subst e2a
        rw [nI_eq (by omega) (by omega)] at e2b
        subst e2b
        rw [nI_eq (by omega) (by omega)] at e2o
        subst e2o
        rw [nI_eq (by omega) (by omega)] at e2u
        subst e2u
        exact ⟨rfl, rfl, by rw [if_neg (fun q => by have := q.2; unfold bi at this; omega)]⟩
      · skip
        refine xt_ic ?_
        refine xt_goto (t := 34) rfl ?_
        refine xt_blk rfl rfl (by dsimp only [List.take]) ?_
        refine xt_rz (by decide) rfl (Nat.le_refl _) ?_
        have hr0 := bxr_lt M 0 a b
        have hb0 := bi_lt o (bxr M 0 a b)
        rw [n_bit (by omega) (by omega), n_eq0 (by unfold bi at hb0; omega)] at hc_11
        have hr1 := bxr_lt M 1 a b
        have hb1 := bi_lt u (bxr M 1 a b)
        rw [n_bit (by omega) (by omega), n_eq0 (by unfold bi at hb1; omega)] at hc_26
        intro a2 b2 o2 u2 h2a h2b h2o h2u e2
        simp only [List.cons.injEq, Sum.inl.injEq, Sum.inr.injEq, and_true, true_and] at e2
        obtain ⟨e2a, e2b, e2o, e2u⟩ := e2
        rw [nI_eq (by omega) (by omega)] at e2a
        subst e2a
        rw [nI_eq (by omega) (by omega)] at e2b
        subst e2b
        rw [nI_eq (by omega) (by omega)] at e2o
        subst e2o
        rw [nI_eq (by omega) (by omega)] at e2u
        subst e2u
        exact ⟨rfl, rfl, by rw [if_pos ⟨by unfold bi at hb0 ⊢; omega, by unfold bi at hb1 ⊢; omega⟩]⟩
  · intro μ pc ls st S2 M2 cs sl h; exact h.elim
