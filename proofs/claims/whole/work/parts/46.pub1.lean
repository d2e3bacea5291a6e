/-! THE CLASS: its public methods, the first half -/
def q_X6_near : x_K := (3, fun as S M => ∃ (x : Int32) (y : Int32) (c : Nat), CI c M ∧ S = SH ∧ as = [.inr (.inl 0), .inl x, .inl y], fun as S M rv_ S' M' => ∀ (x : Int32) (y : Int32), as = [.inr (.inl 0), .inl x, .inl y] → S' = S ∧ CEnd M M' rv_ (spNear (vM M) x y), 0, 0)
theorem r_X6_near : ∀ as S M, q_X6_near.2.1 as S M → ∃ (k : Nat) (as' : List x_V) (fs : List (Option Nat)), as = .inr (.inl k) :: as' ∧ S[k]? = some (.inl (4, fs)) := by
  rintro as S M ⟨x, y, c, -, rfl, rfl⟩
  exact ⟨0, _, _, rfl, rfl⟩
def b_X6_near : x_B := [(0, 3, [(.iload_n 1, 1), (.invokestatic 70, 3), (.ifCond .eq 10, 3), (.iload_n 2, 1), (.invokestatic 70, 3), (.ifCond .ne 9, 3)]),
  (14, 3, [(.aload_n 0, 1), (.iconst (-1), 1), (.invokevirtual 57, 3), (.ireturn, 1)]),
  (20, 3, [(.iload_n 1, 1), (.iload_n 2, 1), (.invokestatic 73, 3), (.ifCond .eq 7, 3), (.iconst 1, 1), (.goto 4, 3)]),
  (32, 3, [(.iconst 0, 1)]),
  (33, 3, [(.ireturn, 1)])]
theorem b_X6_near_ok : x_okB cX6_near 3 b_X6_near = true := by decide +kernel
def X_X6_near : x_X := ([], [], [], [], [(210, q_X6_isRelation), (172, q_X6_refuse), (219, q_X2_areNear)], (0, 0), x_kn, x_kf, 5, false)
theorem X_X6_near_ok : x_okT RX6 X_X6_near = true := by decide +kernel
theorem k_X6_near (l : Launch) : ∀ z ∈ X_X6_near.2.2.2.2.1, x_Cal l (x_rm 2 0 0) cX6_near RX6 3 z.1 z.2 := List.forall_mem_cons.mpr ⟨x_cal_S (idx := 70) (c_X6_isRelation l) ⟨by decide, by decide⟩ (by decide +kernel) (by decide +kernel) (by decide +kernel) (by decide +kernel) (by decide +kernel), List.forall_mem_cons.mpr ⟨x_cal_V (idx := 57) (ci := 4) (n := 1) (c_X6_refuse l) ⟨by decide, by decide⟩ (by decide +kernel) (by decide +kernel) (by decide +kernel) (by decide +kernel) (by decide +kernel) rfl rfl rfl (by decide +kernel) r_X6_refuse, List.forall_mem_cons.mpr ⟨x_cal_S (idx := 73) (c_X2_areNear l) ⟨by decide, by decide⟩ (by decide +kernel) (by decide +kernel) (by decide +kernel) (by decide +kernel) (by decide +kernel), fun _ h => absurd h List.not_mem_nil⟩⟩⟩
set_option maxHeartbeats 4000000 in
set_option maxRecDepth 100000 in
theorem c_X6_near (l : Launch) : x_CT l yX6_near cX6_near 3 (some .int) 2 q_X6_near := by
  refine x_meth (X := X_X6_near) (bl := b_X6_near) (cut := []) (own := RX6) 30 (by decide) rfl X_X6_near_ok b_X6_near_ok rfl (Nat.le_of_ble_eq_true rfl) (k_X6_near l) ?_
  rintro as S M - ⟨x, y, c, hci, rfl, rfl⟩
  have hok := hci.1.1.2.1
  have hV := hci.2
  refine ⟨fun _ _ _ _ _ _ _ _ => False, ?_, ?_⟩
  · skip
    refine xt_blk rfl rfl (by dsimp only [List.take]) ?_
    refine xt_iln1 rfl ?_
    refine xt_v1 (key := 210) (q := q_X6_isRelation) rfl rfl rfl rfl rfl ⟨Nat.le_of_ble_eq_true rfl, Nat.le_of_ble_eq_true rfl⟩ ⟨_, rfl⟩ (fun rv_ S1 M1 hq_1 => ?_)
    obtain ⟨eS_, eM_, h_c1⟩ := hq_1 _ rfl
    replace eS_ := eS_.symm
    replace eM_ := eM_.symm
    subst eS_ eM_
    have hex_c1 : ∃ v, rv_ = some (.inl v) := by rcases h_c1 with ⟨-, e⟩ | ⟨-, e⟩ <;> exact ⟨_, e⟩
    obtain ⟨v_c1, rfl⟩ := hex_c1
    simp only [Option.some.injEq, Sum.inl.injEq] at h_c1
    try dsimp only [Option.toList, List.cons_append, List.nil_append]
    refine xt_eq (t := 14) rfl (fun hc_4 => ?_) (fun hc_4 => ?_)
    · skip
      have k_1 := k_no h_c1 hc_4
      refine xt_blk rfl rfl (by dsimp only [List.take]) ?_
      refine xt_aln0 rfl (by first | decide | omega | assumption | (have := isWy_lt hw; omega)) ?_
      refine xt_icm rfl ?_
      refine xt_v2 (key := 172) (q := q_X6_refuse) rfl rfl rfl rfl rfl ⟨Nat.le_of_ble_eq_true rfl, Nat.le_of_ble_eq_true rfl⟩ ⟨1, by decide, by decide, rfl, rfl⟩ (fun rv_ S1 M1 hq_16 => ?_)
      obtain ⟨eS_, eM_, rfl⟩ := hq_16 1 (by decide) (by decide) rfl
      replace eS_ := eS_.symm
      replace eM_ := eM_.symm
      subst eS_ eM_
      try dsimp only [Option.toList, List.cons_append, List.nil_append]
      refine xt_ri rfl (Nat.le_refl _) ?_
      intro x2 y2 e2
      simp only [List.cons.injEq, Sum.inl.injEq, and_true, true_and] at e2
      obtain ⟨rfl, rfl⟩ := e2
      refine ⟨rfl, CE_R ?_⟩
      unfold spNear
      rw [cif_f k_1]
    · skip
      have k_1 := k_yes h_c1 hc_4
      refine xt_iln2 rfl ?_
      refine xt_v1 (key := 210) (q := q_X6_isRelation) rfl rfl rfl rfl rfl ⟨Nat.le_of_ble_eq_true rfl, Nat.le_of_ble_eq_true rfl⟩ ⟨_, rfl⟩ (fun rv_ S1 M1 hq_8 => ?_)
      obtain ⟨eS_, eM_, h_c8⟩ := hq_8 _ rfl
      replace eS_ := eS_.symm
      replace eM_ := eM_.symm
      subst eS_ eM_
      have hex_c8 : ∃ v, rv_ = some (.inl v) := by rcases h_c8 with ⟨-, e⟩ | ⟨-, e⟩ <;> exact ⟨_, e⟩
      obtain ⟨v_c8, rfl⟩ := hex_c8
      simp only [Option.some.injEq, Sum.inl.injEq] at h_c8
      try dsimp only [Option.toList, List.cons_append, List.nil_append]
      refine xt_ne (t := 20) rfl (fun hc_11 => ?_) (fun hc_11 => ?_)
      · skip
        have k_8 := k_yes h_c8 hc_11
        obtain ⟨xn, hxn, exn⟩ := id k_1
        subst exn
        have vx : nv (nI xn) = xn := nv_nI (by omega)
        obtain ⟨yn, hyn, eyn⟩ := id k_8
        subst eyn
        have vy : nv (nI yn) = yn := nv_nI (by omega)
        refine xt_blk rfl rfl (by dsimp only [List.take]) ?_
        refine xt_iln1 rfl ?_
        refine xt_iln2 rfl ?_
        refine xt_v2 (key := 219) (q := q_X2_areNear) rfl rfl rfl rfl rfl ⟨Nat.le_of_ble_eq_true rfl, Nat.le_of_ble_eq_true rfl⟩ ⟨xn, yn, hxn, hyn, rfl⟩ (fun rv_ S1 M1 hq_22 => ?_)
        obtain ⟨eS_, eM_, rfl⟩ := hq_22 xn yn hxn hyn rfl
        replace eS_ := eS_.symm
        replace eM_ := eM_.symm
        subst eS_ eM_
        try dsimp only [Option.toList, List.cons_append, List.nil_append]
        refine xt_eq (t := 32) rfl (fun hc_25 => ?_) (fun hc_25 => ?_)
        · skip
          refine xt_blk rfl rfl (by dsimp only [List.take]) ?_
          refine xt_ic ?_
          refine xt_nil (t := 33) rfl ?_
          refine xt_blk rfl rfl (by dsimp only [List.take]) ?_
          refine xt_ri rfl (Nat.le_refl _) ?_
          intro x2 y2 e2
          simp only [List.cons.injEq, Sum.inl.injEq, and_true, true_and] at e2
          obtain ⟨rfl, rfl⟩ := e2
          have hb := bi_lt (neT xn) yn
          rw [n_eq0 (by omega)] at hc_25
          have e0 : bi (neT xn) yn = 0 := hc_25
          refine ⟨rfl, CE_M ?_⟩
          unfold spNear
          rw [cif_t k_1, cif_t k_8, vx, vy, e0]
        · skip
          refine xt_ic ?_
          refine xt_goto (t := 33) rfl ?_
          refine xt_blk rfl rfl (by dsimp only [List.take]) ?_
          refine xt_ri rfl (Nat.le_refl _) ?_
          intro x2 y2 e2
          simp only [List.cons.injEq, Sum.inl.injEq, and_true, true_and] at e2
          obtain ⟨rfl, rfl⟩ := e2
          have hb := bi_lt (neT xn) yn
          rw [n_eq0 (by omega)] at hc_25
          have e0 : bi (neT xn) yn = 1 := by omega
          refine ⟨rfl, CE_M ?_⟩
          unfold spNear
          rw [cif_t k_1, cif_t k_8, vx, vy, e0]
      · skip
        have k_8 := k_no h_c8 hc_11
        refine xt_nil (t := 14) rfl ?_
        refine xt_blk rfl rfl (by dsimp only [List.take]) ?_
        refine xt_aln0 rfl (by first | decide | omega | assumption | (have := isWy_lt hw; omega)) ?_
        refine xt_icm rfl ?_
        refine xt_v2 (key := 172) (q := q_X6_refuse) rfl rfl rfl rfl rfl ⟨Nat.le_of_ble_eq_true rfl, Nat.le_of_ble_eq_true rfl⟩ ⟨1, by decide, by decide, rfl, rfl⟩ (fun rv_ S1 M1 hq_16 => ?_)
        obtain ⟨eS_, eM_, rfl⟩ := hq_16 1 (by decide) (by decide) rfl
        replace eS_ := eS_.symm
        replace eM_ := eM_.symm
        subst eS_ eM_
        try dsimp only [Option.toList, List.cons_append, List.nil_append]
        refine xt_ri rfl (Nat.le_refl _) ?_
        intro x2 y2 e2
        simp only [List.cons.injEq, Sum.inl.injEq, and_true, true_and] at e2
        obtain ⟨rfl, rfl⟩ := e2
        refine ⟨rfl, CE_R ?_⟩
        unfold spNear
        rw [cif_t k_1, cif_f k_8]
  · intro μ pc ls st S2 M2 cs sl h; exact h.elim
def q_X6_tell : x_K := (5, fun as S M => ∃ (a : Int32) (b : Int32) (o : Int32) (u : Int32) (c : Nat), CI c M ∧ S = SH ∧ as = [.inr (.inl 0), .inl a, .inl b, .inl o, .inl u], fun as S M rv_ S' M' => ∀ (a : Int32) (b : Int32) (o : Int32) (u : Int32), as = [.inr (.inl 0), .inl a, .inl b, .inl o, .inl u] → S' = S ∧ CEnd M M' rv_ (spTell (vM M) a b o u), 0, 0)
theorem r_X6_tell : ∀ as S M, q_X6_tell.2.1 as S M → ∃ (k : Nat) (as' : List x_V) (fs : List (Option Nat)), as = .inr (.inl k) :: as' ∧ S[k]? = some (.inl (4, fs)) := by
  rintro as S M ⟨a, b, o, u, c, -, rfl, rfl⟩
  exact ⟨0, _, _, rfl, rfl⟩
def b_X6_tell : x_B := [(0, 5, [(.iload_n 1, 1), (.iload_n 2, 1), (.invokestatic 81, 3), (.ifCond .ne 9, 3), (.aload_n 0, 1), (.iconst (-1), 1), (.invokevirtual 57, 3), (.ireturn, 1)]),
  (14, 5, [(.iload_n 3, 1), (.invokestatic 53, 3), (.ifCond .eq 11, 3), (.iload 4, 2), (.invokestatic 53, 3), (.ifCond .ne 10, 3)]),
  (29, 5, [(.aload_n 0, 1), (.bipush (-2), 2), (.invokevirtual 57, 3), (.ireturn, 1)]),
  (36, 5, [(.aload_n 0, 1), (.getfield 10, 3), (.invokevirtual 84, 3), (.ifCond .eq 10, 3), (.aload_n 0, 1), (.bipush (-6), 2), (.invokevirtual 57, 3), (.ireturn, 1)]),
  (53, 5, [(.aload_n 0, 1), (.getfield 10, 3), (.iload_n 1, 1), (.iload_n 2, 1), (.iload_n 3, 1), (.iload 4, 2), (.invokevirtual 88, 3), (.ireturn, 1)])]
theorem b_X6_tell_ok : x_okB cX6_tell 5 b_X6_tell = true := by decide +kernel
def X_X6_tell : x_X := ([(10, 4, 0)], [], [], [], [(243, q_X6_areTwoThings), (172, q_X6_refuse), (159, q_X6_isSet), (253, q_X4_isFull), (265, q_X4_add)], (0, 0), x_kn, x_kf, 5, false)
theorem X_X6_tell_ok : x_okT RX6 X_X6_tell = true := by decide +kernel
theorem k_X6_tell (l : Launch) : ∀ z ∈ X_X6_tell.2.2.2.2.1, x_Cal l (x_rm 3 0 0) cX6_tell RX6 5 z.1 z.2 := List.forall_mem_cons.mpr ⟨x_cal_S (idx := 81) (c_X6_areTwoThings l) ⟨by decide, by decide⟩ (by decide +kernel) (by decide +kernel) (by decide +kernel) (by decide +kernel) (by decide +kernel), List.forall_mem_cons.mpr ⟨x_cal_V (idx := 57) (ci := 4) (n := 1) (c_X6_refuse l) ⟨by decide, by decide⟩ (by decide +kernel) (by decide +kernel) (by decide +kernel) (by decide +kernel) (by decide +kernel) rfl rfl rfl (by decide +kernel) r_X6_refuse, List.forall_mem_cons.mpr ⟨x_cal_S (idx := 53) (c_X6_isSet l) ⟨by decide, by decide⟩ (by decide +kernel) (by decide +kernel) (by decide +kernel) (by decide +kernel) (by decide +kernel), List.forall_mem_cons.mpr ⟨x_cal_V (idx := 84) (ci := 2) (n := 0) (c_X4_isFull l) ⟨by decide, by decide⟩ (by decide +kernel) (by decide +kernel) (by decide +kernel) (by decide +kernel) (by decide +kernel) rfl rfl rfl (by decide +kernel) r_X4_isFull, List.forall_mem_cons.mpr ⟨x_cal_V (idx := 88) (ci := 2) (n := 4) (c_X4_add l) ⟨by decide, by decide⟩ (by decide +kernel) (by decide +kernel) (by decide +kernel) (by decide +kernel) (by decide +kernel) rfl rfl rfl (by decide +kernel) r_X4_add, fun _ h => absurd h List.not_mem_nil⟩⟩⟩⟩⟩
set_option maxHeartbeats 4000000 in
set_option maxRecDepth 100000 in
theorem c_X6_tell (l : Launch) : x_CT l yX6_tell cX6_tell 5 (some .int) 3 q_X6_tell := by
  refine x_meth (X := X_X6_tell) (bl := b_X6_tell) (cut := []) (own := RX6) 30 (by decide) rfl X_X6_tell_ok b_X6_tell_ok rfl (Nat.le_of_ble_eq_true rfl) (k_X6_tell l) ?_
  rintro as S M - ⟨a, b, o, u, c, hci, rfl, rfl⟩
  have hok := hci.1.1.2.1
  have hV := hci.2
  refine ⟨fun _ _ _ _ _ _ _ _ => False, ?_, ?_⟩
  · skip
    refine xt_blk rfl rfl (by dsimp only [List.take]) ?_
    refine xt_iln1 rfl ?_
    refine xt_iln2 rfl ?_
    refine xt_v2 (key := 243) (q := q_X6_areTwoThings) rfl rfl rfl rfl rfl ⟨Nat.le_of_ble_eq_true rfl, Nat.le_of_ble_eq_true rfl⟩ ⟨_, _, rfl⟩ (fun rv_ S1 M1 hq_2 => ?_)
    obtain ⟨eS_, eM_, h_c2⟩ := hq_2 _ _ rfl
    replace eS_ := eS_.symm
    replace eM_ := eM_.symm
    subst eS_ eM_
    have hex_c2 : ∃ v, rv_ = some (.inl v) := by rcases h_c2 with ⟨-, e⟩ | ⟨-, e⟩ <;> exact ⟨_, e⟩
    obtain ⟨v_c2, rfl⟩ := hex_c2
    simp only [Option.some.injEq, Sum.inl.injEq] at h_c2
    try dsimp only [Option.toList, List.cons_append, List.nil_append]
    refine xt_ne (t := 14) rfl (fun hc_5 => ?_) (fun hc_5 => ?_)
    · skip
      have k_2 := k_yes h_c2 hc_5
      refine xt_blk rfl rfl (by dsimp only [List.take]) ?_
      refine xt_iln3 rfl ?_
      refine xt_v1 (key := 159) (q := q_X6_isSet) rfl rfl rfl rfl rfl ⟨Nat.le_of_ble_eq_true rfl, Nat.le_of_ble_eq_true rfl⟩ ⟨_, rfl⟩ (fun rv_ S1 M1 hq_15 => ?_)
      obtain ⟨eS_, eM_, h_c15⟩ := hq_15 _ rfl
      replace eS_ := eS_.symm
      replace eM_ := eM_.symm
      subst eS_ eM_
      have hex_c15 : ∃ v, rv_ = some (.inl v) := by rcases h_c15 with ⟨-, e⟩ | ⟨-, e⟩ <;> exact ⟨_, e⟩
      obtain ⟨v_c15, rfl⟩ := hex_c15
      simp only [Option.some.injEq, Sum.inl.injEq] at h_c15
      try dsimp only [Option.toList, List.cons_append, List.nil_append]
      refine xt_eq (t := 29) rfl (fun hc_18 => ?_) (fun hc_18 => ?_)
      · skip
        have k_15 := k_no h_c15 hc_18
        refine xt_blk rfl rfl (by dsimp only [List.take]) ?_
        refine xt_aln0 rfl (by first | decide | omega | assumption | (have := isWy_lt hw; omega)) ?_
        refine xt_bim rfl ?_
        refine xt_v2 (key := 172) (q := q_X6_refuse) rfl rfl rfl rfl rfl ⟨Nat.le_of_ble_eq_true rfl, Nat.le_of_ble_eq_true rfl⟩ ⟨2, by decide, by decide, rfl, rfl⟩ (fun rv_ S1 M1 hq_32 => ?_)
        obtain ⟨eS_, eM_, rfl⟩ := hq_32 2 (by decide) (by decide) rfl
        replace eS_ := eS_.symm
        replace eM_ := eM_.symm
        subst eS_ eM_
        try dsimp only [Option.toList, List.cons_append, List.nil_append]
        refine xt_ri rfl (Nat.le_refl _) ?_
        intro a2 b2 o2 u2 e2
        simp only [List.cons.injEq, Sum.inl.injEq, and_true, true_and] at e2
        obtain ⟨rfl, rfl, rfl, rfl⟩ := e2
        refine ⟨rfl, CE_R ?_⟩
        unfold spTell
        rw [cif_t k_2, cif_f k_15]
      · skip
        have k_15 := k_yes h_c15 hc_18
        refine xt_ild rfl ?_
        refine xt_v1 (key := 159) (q := q_X6_isSet) rfl rfl rfl rfl rfl ⟨Nat.le_of_ble_eq_true rfl, Nat.le_of_ble_eq_true rfl⟩ ⟨_, rfl⟩ (fun rv_ S1 M1 hq_23 => ?_)
        obtain ⟨eS_, eM_, h_c23⟩ := hq_23 _ rfl
        replace eS_ := eS_.symm
        replace eM_ := eM_.symm
        subst eS_ eM_
        have hex_c23 : ∃ v, rv_ = some (.inl v) := by rcases h_c23 with ⟨-, e⟩ | ⟨-, e⟩ <;> exact ⟨_, e⟩
        obtain ⟨v_c23, rfl⟩ := hex_c23
        simp only [Option.some.injEq, Sum.inl.injEq] at h_c23
        try dsimp only [Option.toList, List.cons_append, List.nil_append]
        refine xt_ne (t := 36) rfl (fun hc_26 => ?_) (fun hc_26 => ?_)
        · skip
          have k_23 := k_yes h_c23 hc_26
          refine xt_blk rfl rfl (by dsimp only [List.take]) ?_
          refine xt_aln0 rfl (by first | decide | omega | assumption | (have := isWy_lt hw; omega)) ?_
          refine xt_gfr (q := (4, 0)) rfl (by first | rfl | assumption) rfl ?_
          refine xt_v1 (key := 253) (q := q_X4_isFull) rfl rfl rfl rfl rfl ⟨Nat.le_of_ble_eq_true rfl, Nat.le_of_ble_eq_true rfl⟩ ⟨rfl, ⟨nN M, hok.1, hok.2.1⟩, rfl⟩ (fun rv_ S1 M1 hq_40 => ?_)
          obtain ⟨eS_, eM_, rfl⟩ := hq_40 (nN M) hok.1 hok.2.1 rfl
          replace eS_ := eS_.symm
          replace eM_ := eM_.symm
          subst eS_ eM_
          have h_c40 := k_full hok.1
          try dsimp only [Option.toList, List.cons_append, List.nil_append]
          refine xt_eq (t := 53) rfl (fun hc_43 => ?_) (fun hc_43 => ?_)
          · skip
            have k_40 := k_no h_c40 hc_43
            refine xt_blk rfl rfl (by dsimp only [List.take]) ?_
            refine xt_aln0 rfl (by first | decide | omega | assumption | (have := isWy_lt hw; omega)) ?_
            refine xt_gfr (q := (4, 0)) rfl (by first | rfl | assumption) rfl ?_
            refine xt_iln1 rfl ?_
            refine xt_iln2 rfl ?_
            refine xt_iln3 rfl ?_
            refine xt_ild rfl ?_
            refine xt_v5 (key := 265) (q := q_X4_add) rfl rfl rfl rfl rfl ⟨Nat.le_of_ble_eq_true rfl, Nat.le_of_ble_eq_true rfl⟩ ⟨a, b, o, u, rfl, ⟨nN M, by have := hok.1; omega, hok.2.1⟩, rfl⟩ (fun rv_ S1 M1 hq_62 => ?_)
            obtain ⟨eS_, eM_, rfl⟩ := hq_62 a b o u (nN M) (by have := hok.1; omega) hok.2.1 rfl
            replace eS_ := eS_.symm
            replace eM_ := eM_.symm
            subst eS_ eM_
            try dsimp only [Option.toList, List.cons_append, List.nil_append]
            refine xt_ri rfl (Nat.le_refl _) ?_
            intro a2 b2 o2 u2 e2
            simp only [List.cons.injEq, Sum.inl.injEq, and_true, true_and] at e2
            obtain ⟨rfl, rfl, rfl, rfl⟩ := e2
            have hn30 : nN M < 30 := by have := hok.1; omega
            refine ⟨rfl, CE_add hok hn30 k_2 k_15 k_23 ?_⟩
            unfold spTell spAdd
            rw [cif_t k_2, cif_t k_15, cif_t k_23]
            exact (cif_f (show ¬ nN (vM M) = 30 from k_40))
          · skip
            have k_40 := k_yes h_c40 hc_43
            refine xt_aln0 rfl (by first | decide | omega | assumption | (have := isWy_lt hw; omega)) ?_
            refine xt_bim rfl ?_
            refine xt_v2 (key := 172) (q := q_X6_refuse) rfl rfl rfl rfl rfl ⟨Nat.le_of_ble_eq_true rfl, Nat.le_of_ble_eq_true rfl⟩ ⟨6, by decide, by decide, rfl, rfl⟩ (fun rv_ S1 M1 hq_49 => ?_)
            obtain ⟨eS_, eM_, rfl⟩ := hq_49 6 (by decide) (by decide) rfl
            replace eS_ := eS_.symm
            replace eM_ := eM_.symm
            subst eS_ eM_
            try dsimp only [Option.toList, List.cons_append, List.nil_append]
            refine xt_ri rfl (Nat.le_refl _) ?_
            intro a2 b2 o2 u2 e2
            simp only [List.cons.injEq, Sum.inl.injEq, and_true, true_and] at e2
            obtain ⟨rfl, rfl, rfl, rfl⟩ := e2
            refine ⟨rfl, CE_R ?_⟩
            unfold spTell spAdd
            rw [cif_t k_2, cif_t k_15, cif_t k_23]
            exact (cif_t (show nN (vM M) = 30 from k_40))
        · skip
          have k_23 := k_no h_c23 hc_26
          refine xt_nil (t := 29) rfl ?_
          refine xt_blk rfl rfl (by dsimp only [List.take]) ?_
          refine xt_aln0 rfl (by first | decide | omega | assumption | (have := isWy_lt hw; omega)) ?_
          refine xt_bim rfl ?_
          refine xt_v2 (key := 172) (q := q_X6_refuse) rfl rfl rfl rfl rfl ⟨Nat.le_of_ble_eq_true rfl, Nat.le_of_ble_eq_true rfl⟩ ⟨2, by decide, by decide, rfl, rfl⟩ (fun rv_ S1 M1 hq_32 => ?_)
          obtain ⟨eS_, eM_, rfl⟩ := hq_32 2 (by decide) (by decide) rfl
          replace eS_ := eS_.symm
          replace eM_ := eM_.symm
          subst eS_ eM_
          try dsimp only [Option.toList, List.cons_append, List.nil_append]
          refine xt_ri rfl (Nat.le_refl _) ?_
          intro a2 b2 o2 u2 e2
          simp only [List.cons.injEq, Sum.inl.injEq, and_true, true_and] at e2
          obtain ⟨rfl, rfl, rfl, rfl⟩ := e2
          refine ⟨rfl, CE_R ?_⟩
          unfold spTell
          rw [cif_t k_2, cif_t k_15, cif_f k_23]
    · skip
      have k_2 := k_no h_c2 hc_5
      refine xt_aln0 rfl (by first | decide | omega | assumption | (have := isWy_lt hw; omega)) ?_
      refine xt_icm rfl ?_
      refine xt_v2 (key := 172) (q := q_X6_refuse) rfl rfl rfl rfl rfl ⟨Nat.le_of_ble_eq_true rfl, Nat.le_of_ble_eq_true rfl⟩ ⟨1, by decide, by decide, rfl, rfl⟩ (fun rv_ S1 M1 hq_10 => ?_)
      obtain ⟨eS_, eM_, rfl⟩ := hq_10 1 (by decide) (by decide) rfl
      replace eS_ := eS_.symm
      replace eM_ := eM_.symm
      subst eS_ eM_
      try dsimp only [Option.toList, List.cons_append, List.nil_append]
      refine xt_ri rfl (Nat.le_refl _) ?_
      intro a2 b2 o2 u2 e2
      simp only [List.cons.injEq, Sum.inl.injEq, and_true, true_and] at e2
      obtain ⟨rfl, rfl, rfl, rfl⟩ := e2
      refine ⟨rfl, CE_R ?_⟩
      unfold spTell
      rw [cif_f k_2]
  · intro μ pc ls st S2 M2 cs sl h; exact h.elim
def q_X6_silent : x_K := (3, fun as S M => ∃ (x : Int32) (y : Int32) (c : Nat), CI c M ∧ S = SH ∧ as = [.inr (.inl 0), .inl x, .inl y], fun as S M rv_ S' M' => ∀ (x : Int32) (y : Int32), as = [.inr (.inl 0), .inl x, .inl y] → S' = S ∧ CEnd M M' rv_ (spSilent (vM M) x y), 0, 0)
theorem r_X6_silent : ∀ as S M, q_X6_silent.2.1 as S M → ∃ (k : Nat) (as' : List x_V) (fs : List (Option Nat)), as = .inr (.inl k) :: as' ∧ S[k]? = some (.inl (4, fs)) := by
  rintro as S M ⟨x, y, c, -, rfl, rfl⟩
  exact ⟨0, _, _, rfl, rfl⟩
def b_X6_silent : x_B := [(0, 3, [(.aload_n 0, 1), (.getfield 10, 3), (.iload_n 1, 1), (.invokevirtual 92, 3), (.ifCond .ne 9, 3), (.aload_n 0, 1), (.iconst (-1), 1), (.invokevirtual 57, 3), (.ireturn, 1)]),
  (17, 3, [(.aload_n 0, 1), (.getfield 10, 3), (.iload_n 1, 1), (.iload_n 2, 1), (.invokevirtual 95, 3), (.ifCond .eq 7, 3), (.iconst 1, 1), (.goto 4, 3)]),
  (33, 3, [(.iconst 0, 1)]),
  (34, 3, [(.ireturn, 1)])]
theorem b_X6_silent_ok : x_okB cX6_silent 3 b_X6_silent = true := by decide +kernel
def X_X6_silent : x_X := ([(10, 4, 0)], [], [], [], [(277, q_X4_has), (172, q_X6_refuse), (286, q_X4_turnSilent)], (0, 0), x_kn, x_kf, 5, false)
theorem X_X6_silent_ok : x_okT RX6 X_X6_silent = true := by decide +kernel
theorem k_X6_silent (l : Launch) : ∀ z ∈ X_X6_silent.2.2.2.2.1, x_Cal l (x_rm 2 0 0) cX6_silent RX6 3 z.1 z.2 := List.forall_mem_cons.mpr ⟨x_cal_V (idx := 92) (ci := 2) (n := 1) (c_X4_has l) ⟨by decide, by decide⟩ (by decide +kernel) (by decide +kernel) (by decide +kernel) (by decide +kernel) (by decide +kernel) rfl rfl rfl (by decide +kernel) r_X4_has, List.forall_mem_cons.mpr ⟨x_cal_V (idx := 57) (ci := 4) (n := 1) (c_X6_refuse l) ⟨by decide, by decide⟩ (by decide +kernel) (by decide +kernel) (by decide +kernel) (by decide +kernel) (by decide +kernel) rfl rfl rfl (by decide +kernel) r_X6_refuse, List.forall_mem_cons.mpr ⟨x_cal_V (idx := 95) (ci := 2) (n := 2) (c_X4_turnSilent l) ⟨by decide, by decide⟩ (by decide +kernel) (by decide +kernel) (by decide +kernel) (by decide +kernel) (by decide +kernel) rfl rfl rfl (by decide +kernel) r_X4_turnSilent, fun _ h => absurd h List.not_mem_nil⟩⟩⟩
set_option maxHeartbeats 4000000 in
set_option maxRecDepth 100000 in
theorem c_X6_silent (l : Launch) : x_CT l yX6_silent cX6_silent 3 (some .int) 2 q_X6_silent := by
  refine x_meth (X := X_X6_silent) (bl := b_X6_silent) (cut := []) (own := RX6) 30 (by decide) rfl X_X6_silent_ok b_X6_silent_ok rfl (Nat.le_of_ble_eq_true rfl) (k_X6_silent l) ?_
  rintro as S M - ⟨x, y, c, hci, rfl, rfl⟩
  have hok := hci.1.1.2.1
  have hV := hci.2
  refine ⟨fun _ _ _ _ _ _ _ _ => False, ?_, ?_⟩
  · skip
    refine xt_blk rfl rfl (by dsimp only [List.take]) ?_
    refine xt_aln0 rfl (by first | decide | omega | assumption | (have := isWy_lt hw; omega)) ?_
    refine xt_gfr (q := (4, 0)) rfl (by first | rfl | assumption) rfl ?_
    refine xt_iln1 rfl ?_
    refine xt_v2 (key := 277) (q := q_X4_has) rfl rfl rfl rfl rfl ⟨Nat.le_of_ble_eq_true rfl, Nat.le_of_ble_eq_true rfl⟩ ⟨_, rfl, ⟨nN M, hok.1, hok.2.1⟩, rfl⟩ (fun rv_ S1 M1 hq_5 => ?_)
    obtain ⟨eS_, eM_, rfl⟩ := hq_5 _ (nN M) hok.1 hok.2.1 rfl
    replace eS_ := eS_.symm
    replace eM_ := eM_.symm
    subst eS_ eM_
    have h_c5 := k_has hok.1 x
    try dsimp only [Option.toList, List.cons_append, List.nil_append]
    refine xt_ne (t := 17) rfl (fun hc_8 => ?_) (fun hc_8 => ?_)
    · skip
      have k_5 := k_yes h_c5 hc_8
      have hn30 := hok.1
      obtain ⟨xn, hxn, exn⟩ := id k_5
      subst exn
      have vx : nv (nI xn) = xn := nv_nI (by omega)
      refine xt_blk rfl rfl (by dsimp only [List.take]) ?_
      refine xt_aln0 rfl (by first | decide | omega | assumption | (have := isWy_lt hw; omega)) ?_
      refine xt_gfr (q := (4, 0)) rfl (by first | rfl | assumption) rfl ?_
      refine xt_iln1 rfl ?_
      refine xt_iln2 rfl ?_
      refine xt_v3 (key := 286) (q := q_X4_turnSilent) rfl rfl rfl rfl rfl ⟨Nat.le_of_ble_eq_true rfl, Nat.le_of_ble_eq_true rfl⟩ ⟨xn, y, by omega, rfl, rfl⟩ (fun rv_ S1 M1 hq_23 => ?_)
      obtain ⟨eS_, eM_, rfl⟩ := hq_23 xn y (by omega) rfl
      replace eS_ := eS_.symm
      replace eM_ := eM_.symm
      subst eS_ eM_
      try dsimp only [Option.toList, List.cons_append, List.nil_append]
      refine xt_eq (t := 33) rfl (fun hc_26 => ?_) (fun hc_26 => ?_)
      · skip
        refine xt_blk rfl rfl (by dsimp only [List.take]) ?_
        refine xt_ic ?_
        refine xt_nil (t := 34) rfl ?_
        refine xt_blk rfl rfl (by dsimp only [List.take]) ?_
        refine xt_ri rfl (Nat.le_refl _) ?_
        intro x2 y2 e2
        simp only [List.cons.injEq, Sum.inl.injEq, and_true, true_and] at e2
        obtain ⟨rfl, rfl⟩ := e2
        have hE := CE_sil (p := (cif (M 7 xn = tl y) (nI 0) (nI 1), vSil (vM M) xn y)) hok xn y rfl
        have e0 : M 7 xn = tl y := by
          by_cases e : M 7 xn = tl y
          · exact e
          · rw [if_neg e] at hc_26; exact absurd hc_26 (by decide)
        rw [if_pos e0] at hE
        refine ⟨rfl, ?_⟩
        unfold spSilent
        rw [cif_t (show Th (nN (vM M)) (nI xn) from k_5), vx]
        exact hE
      · skip
        refine xt_ic ?_
        refine xt_goto (t := 34) rfl ?_
        refine xt_blk rfl rfl (by dsimp only [List.take]) ?_
        refine xt_ri rfl (Nat.le_refl _) ?_
        intro x2 y2 e2
        simp only [List.cons.injEq, Sum.inl.injEq, and_true, true_and] at e2
        obtain ⟨rfl, rfl⟩ := e2
        have hE := CE_sil (p := (cif (M 7 xn = tl y) (nI 0) (nI 1), vSil (vM M) xn y)) hok xn y rfl
        have e0 : ¬ M 7 xn = tl y := fun e => hc_26 (by rw [if_pos e]; rfl)
        rw [if_neg e0] at hE
        refine ⟨rfl, ?_⟩
        unfold spSilent
        rw [cif_t (show Th (nN (vM M)) (nI xn) from k_5), vx]
        exact hE
    · skip
      have k_5 := k_no h_c5 hc_8
      refine xt_aln0 rfl (by first | decide | omega | assumption | (have := isWy_lt hw; omega)) ?_
      refine xt_icm rfl ?_
      refine xt_v2 (key := 172) (q := q_X6_refuse) rfl rfl rfl rfl rfl ⟨Nat.le_of_ble_eq_true rfl, Nat.le_of_ble_eq_true rfl⟩ ⟨1, by decide, by decide, rfl, rfl⟩ (fun rv_ S1 M1 hq_13 => ?_)
      obtain ⟨eS_, eM_, rfl⟩ := hq_13 1 (by decide) (by decide) rfl
      replace eS_ := eS_.symm
      replace eM_ := eM_.symm
      subst eS_ eM_
      try dsimp only [Option.toList, List.cons_append, List.nil_append]
      refine xt_ri rfl (Nat.le_refl _) ?_
      intro x2 y2 e2
      simp only [List.cons.injEq, Sum.inl.injEq, and_true, true_and] at e2
      obtain ⟨rfl, rfl⟩ := e2
      refine ⟨rfl, CE_R ?_⟩
      unfold spSilent
      exact cif_f k_5
  · intro μ pc ls st S2 M2 cs sl h; exact h.elim
def q_X6_statement : x_K := (3, fun as S M => ∃ (x : Int32) (y : Int32) (c : Nat), CI c M ∧ S = SH ∧ as = [.inr (.inl 0), .inl x, .inl y], fun as S M rv_ S' M' => ∀ (x : Int32) (y : Int32), as = [.inr (.inl 0), .inl x, .inl y] → S' = S ∧ CEnd M M' rv_ (spStatement (vM M) x y), 0, 0)
theorem r_X6_statement : ∀ as S M, q_X6_statement.2.1 as S M → ∃ (k : Nat) (as' : List x_V) (fs : List (Option Nat)), as = .inr (.inl k) :: as' ∧ S[k]? = some (.inl (4, fs)) := by
  rintro as S M ⟨x, y, c, -, rfl, rfl⟩
  exact ⟨0, _, _, rfl, rfl⟩
def b_X6_statement : x_B := [(0, 3, [(.aload_n 0, 1), (.getfield 10, 3), (.iload_n 1, 1), (.invokevirtual 92, 3), (.ifCond .ne 9, 3), (.aload_n 0, 1), (.iconst (-1), 1), (.invokevirtual 57, 3), (.ireturn, 1)]),
  (17, 3, [(.iload_n 2, 1), (.tableswitch 89 0 4 #[34, 43, 52, 62, 72], 34)]),
  (52, 3, [(.aload_n 0, 1), (.getfield 10, 3), (.iload_n 1, 1), (.invokevirtual 99, 3), (.ireturn, 1)]),
  (61, 3, [(.aload_n 0, 1), (.getfield 10, 3), (.iload_n 1, 1), (.invokevirtual 102, 3), (.ireturn, 1)]),
  (70, 3, [(.aload_n 0, 1), (.getfield 10, 3), (.iload_n 1, 1), (.iconst 0, 1), (.invokevirtual 105, 3), (.ireturn, 1)]),
  (80, 3, [(.aload_n 0, 1), (.getfield 10, 3), (.iload_n 1, 1), (.iconst 1, 1), (.invokevirtual 105, 3), (.ireturn, 1)]),
  (90, 3, [(.aload_n 0, 1), (.getfield 10, 3), (.iload_n 1, 1), (.invokevirtual 108, 3), (.ifCond .eq 7, 3), (.iconst 1, 1), (.goto 4, 3)]),
  (105, 3, [(.iconst 0, 1)]),
  (106, 3, [(.ireturn, 1)]),
  (107, 3, [(.aload_n 0, 1), (.bipush (-2), 2), (.invokevirtual 57, 3), (.ireturn, 1)])]
theorem b_X6_statement_ok : x_okB cX6_statement 3 b_X6_statement = true := by decide +kernel
def X_X6_statement : x_X := ([(10, 4, 0)], [], [], [], [(277, q_X4_has), (172, q_X6_refuse), (298, q_X4_firstOf), (307, q_X4_secondOf), (316, q_X4_setOf), (325, q_X4_isTold)], (0, 0), x_kn, x_kf, 5, false)
theorem X_X6_statement_ok : x_okT RX6 X_X6_statement = true := by decide +kernel
theorem k_X6_statement (l : Launch) : ∀ z ∈ X_X6_statement.2.2.2.2.1, x_Cal l (x_rm 2 0 0) cX6_statement RX6 3 z.1 z.2 := List.forall_mem_cons.mpr ⟨x_cal_V (idx := 92) (ci := 2) (n := 1) (c_X4_has l) ⟨by decide, by decide⟩ (by decide +kernel) (by decide +kernel) (by decide +kernel) (by decide +kernel) (by decide +kernel) rfl rfl rfl (by decide +kernel) r_X4_has, List.forall_mem_cons.mpr ⟨x_cal_V (idx := 57) (ci := 4) (n := 1) (c_X6_refuse l) ⟨by decide, by decide⟩ (by decide +kernel) (by decide +kernel) (by decide +kernel) (by decide +kernel) (by decide +kernel) rfl rfl rfl (by decide +kernel) r_X6_refuse, List.forall_mem_cons.mpr ⟨x_cal_V (idx := 99) (ci := 2) (n := 1) (c_X4_firstOf l) ⟨by decide, by decide⟩ (by decide +kernel) (by decide +kernel) (by decide +kernel) (by decide +kernel) (by decide +kernel) rfl rfl rfl (by decide +kernel) r_X4_firstOf, List.forall_mem_cons.mpr ⟨x_cal_V (idx := 102) (ci := 2) (n := 1) (c_X4_secondOf l) ⟨by decide, by decide⟩ (by decide +kernel) (by decide +kernel) (by decide +kernel) (by decide +kernel) (by decide +kernel) rfl rfl rfl (by decide +kernel) r_X4_secondOf, List.forall_mem_cons.mpr ⟨x_cal_V (idx := 105) (ci := 2) (n := 2) (c_X4_setOf l) ⟨by decide, by decide⟩ (by decide +kernel) (by decide +kernel) (by decide +kernel) (by decide +kernel) (by decide +kernel) rfl rfl rfl (by decide +kernel) r_X4_setOf, List.forall_mem_cons.mpr ⟨x_cal_V (idx := 108) (ci := 2) (n := 1) (c_X4_isTold l) ⟨by decide, by decide⟩ (by decide +kernel) (by decide +kernel) (by decide +kernel) (by decide +kernel) (by decide +kernel) rfl rfl rfl (by decide +kernel) r_X4_isTold, fun _ h => absurd h List.not_mem_nil⟩⟩⟩⟩⟩⟩
set_option maxHeartbeats 4000000 in
set_option maxRecDepth 100000 in
theorem c_X6_statement (l : Launch) : x_CT l yX6_statement cX6_statement 3 (some .int) 2 q_X6_statement := by
  refine x_meth (X := X_X6_statement) (bl := b_X6_statement) (cut := []) (own := RX6) 30 (by decide) rfl X_X6_statement_ok b_X6_statement_ok rfl (Nat.le_of_ble_eq_true rfl) (k_X6_statement l) ?_
  rintro as S M - ⟨x, y, c, hci, rfl, rfl⟩
  have hok := hci.1.1.2.1
  have hV := hci.2
  refine ⟨fun _ _ _ _ _ _ _ _ => False, ?_, ?_⟩
  · skip
    refine xt_blk rfl rfl (by dsimp only [List.take]) ?_
    refine xt_aln0 rfl (by first | decide | omega | assumption | (have := isWy_lt hw; omega)) ?_
    refine xt_gfr (q := (4, 0)) rfl (by first | rfl | assumption) rfl ?_
    refine xt_iln1 rfl ?_
    refine xt_v2 (key := 277) (q := q_X4_has) rfl rfl rfl rfl rfl ⟨Nat.le_of_ble_eq_true rfl, Nat.le_of_ble_eq_true rfl⟩ ⟨_, rfl, ⟨nN M, hok.1, hok.2.1⟩, rfl⟩ (fun rv_ S1 M1 hq_5 => ?_)
    obtain ⟨eS_, eM_, rfl⟩ := hq_5 _ (nN M) hok.1 hok.2.1 rfl
    replace eS_ := eS_.symm
    replace eM_ := eM_.symm
    subst eS_ eM_
    have h_c5 := k_has hok.1 x
    try dsimp only [Option.toList, List.cons_append, List.nil_append]
    refine xt_ne (t := 17) rfl (fun hc_8 => ?_) (fun hc_8 => ?_)
    · skip
      have k_5 := k_yes h_c5 hc_8
      have hn30 := hok.1
      obtain ⟨xn, hxn, exn⟩ := id k_5
      subst exn
      have vx : nv (nI xn) = xn := nv_nI (by omega)
      refine xt_blk rfl rfl (by dsimp only [List.take]) ?_
      refine xt_iln2 rfl ?_
      refine xt_sw (T0 := 107) (ts := [52, 61, 70, 80, 90]) rfl rfl rfl (by decide) (fun hd_18 => ?_) ⟨fun hx_0 => ?_, fun hx_1 => ?_, fun hx_2 => ?_, fun hx_3 => ?_, fun hx_4 => ?_, trivial⟩
      · skip
        refine xt_blk rfl rfl (by dsimp only [List.take]) ?_
        refine xt_aln0 rfl (by first | decide | omega | assumption | (have := isWy_lt hw; omega)) ?_
        refine xt_bim rfl ?_
        refine xt_v2 (key := 172) (q := q_X6_refuse) rfl rfl rfl rfl rfl ⟨Nat.le_of_ble_eq_true rfl, Nat.le_of_ble_eq_true rfl⟩ ⟨2, by decide, by decide, rfl, rfl⟩ (fun rv_ S1 M1 hq_110 => ?_)
        obtain ⟨eS_, eM_, rfl⟩ := hq_110 2 (by decide) (by decide) rfl
        replace eS_ := eS_.symm
        replace eM_ := eM_.symm
        subst eS_ eM_
        try dsimp only [Option.toList, List.cons_append, List.nil_append]
        refine xt_ri rfl (Nat.le_refl _) ?_
        intro x2 y2 e2
        simp only [List.cons.injEq, Sum.inl.injEq, and_true, true_and] at e2
        obtain ⟨rfl, rfl⟩ := e2
        refine ⟨rfl, CE_R ?_⟩
        unfold spStatement
        rw [cif_t (show Th (nN (vM M)) (nI xn) from k_5), cif_f (hd_18 0 (by decide)), cif_f (hd_18 1 (by decide)), cif_f (hd_18 2 (by decide)), cif_f (hd_18 3 (by decide)), cif_f (hd_18 4 (by decide))]
      · skip
        refine xt_blk rfl rfl (by dsimp only [List.take]) ?_
        refine xt_aln0 rfl (by first | decide | omega | assumption | (have := isWy_lt hw; omega)) ?_
        refine xt_gfr (q := (4, 0)) rfl (by first | rfl | assumption) rfl ?_
        refine xt_iln1 rfl ?_
        refine xt_v2 (key := 298) (q := q_X4_firstOf) rfl rfl rfl rfl rfl ⟨Nat.le_of_ble_eq_true rfl, Nat.le_of_ble_eq_true rfl⟩ ⟨xn, by omega, rfl, rfl⟩ (fun rv_ S1 M1 hq_57 => ?_)
        obtain ⟨eS_, eM_, rfl⟩ := hq_57 xn (by omega) rfl
        replace eS_ := eS_.symm
        replace eM_ := eM_.symm
        subst eS_ eM_
        try dsimp only [Option.toList, List.cons_append, List.nil_append]
        refine xt_ri rfl (Nat.le_refl _) ?_
        intro x2 y2 e2
        simp only [List.cons.injEq, Sum.inl.injEq, and_true, true_and] at e2
        obtain ⟨rfl, rfl⟩ := e2
        subst hx_0
        refine ⟨rfl, CE_M ?_⟩
        unfold spStatement
        rw [cif_t (show Th (nN (vM M)) (nI xn) from k_5), cif_t rfl, vx]
        rfl
      · skip
        refine xt_blk rfl rfl (by dsimp only [List.take]) ?_
        refine xt_aln0 rfl (by first | decide | omega | assumption | (have := isWy_lt hw; omega)) ?_
        refine xt_gfr (q := (4, 0)) rfl (by first | rfl | assumption) rfl ?_
        refine xt_iln1 rfl ?_
        refine xt_v2 (key := 307) (q := q_X4_secondOf) rfl rfl rfl rfl rfl ⟨Nat.le_of_ble_eq_true rfl, Nat.le_of_ble_eq_true rfl⟩ ⟨xn, by omega, rfl, rfl⟩ (fun rv_ S1 M1 hq_66 => ?_)
        obtain ⟨eS_, eM_, rfl⟩ := hq_66 xn (by omega) rfl
        replace eS_ := eS_.symm
        replace eM_ := eM_.symm
        subst eS_ eM_
        try dsimp only [Option.toList, List.cons_append, List.nil_append]
        refine xt_ri rfl (Nat.le_refl _) ?_
        intro x2 y2 e2
        simp only [List.cons.injEq, Sum.inl.injEq, and_true, true_and] at e2
        obtain ⟨rfl, rfl⟩ := e2
        subst hx_1
        refine ⟨rfl, CE_M ?_⟩
        unfold spStatement
        rw [cif_t (show Th (nN (vM M)) (nI xn) from k_5), cif_f (show ¬ (nI 1 = nI 0) by decide), cif_t rfl, vx]
        rfl
      · skip
        refine xt_blk rfl rfl (by dsimp only [List.take]) ?_
        refine xt_aln0 rfl (by first | decide | omega | assumption | (have := isWy_lt hw; omega)) ?_
        refine xt_gfr (q := (4, 0)) rfl (by first | rfl | assumption) rfl ?_
        refine xt_iln1 rfl ?_
        refine xt_ic ?_
        refine xt_v3 (key := 316) (q := q_X4_setOf) rfl rfl rfl rfl rfl ⟨Nat.le_of_ble_eq_true rfl, Nat.le_of_ble_eq_true rfl⟩ ⟨xn, 0, by omega, by decide, rfl, rfl⟩ (fun rv_ S1 M1 hq_76 => ?_)
        obtain ⟨eS_, eM_, rfl⟩ := hq_76 xn 0 (by omega) (by decide) rfl
        replace eS_ := eS_.symm
        replace eM_ := eM_.symm
        subst eS_ eM_
        try dsimp only [Option.toList, List.cons_append, List.nil_append]
        refine xt_ri rfl (Nat.le_refl _) ?_
        intro x2 y2 e2
        simp only [List.cons.injEq, Sum.inl.injEq, and_true, true_and] at e2
        obtain ⟨rfl, rfl⟩ := e2
        subst hx_2
        refine ⟨rfl, CE_M ?_⟩
        unfold spStatement
        rw [cif_t (show Th (nN (vM M)) (nI xn) from k_5), cif_f (show ¬ (nI 2 = nI 0) by decide), cif_f (show ¬ (nI 2 = nI 1) by decide), cif_t rfl, vx]
        rfl
      · skip
        refine xt_blk rfl rfl (by dsimp only [List.take]) ?_
        refine xt_aln0 rfl (by first | decide | omega | assumption | (have := isWy_lt hw; omega)) ?_
        refine xt_gfr (q := (4, 0)) rfl (by first | rfl | assumption) rfl ?_
        refine xt_iln1 rfl ?_
        refine xt_ic ?_
        refine xt_v3 (key := 316) (q := q_X4_setOf) rfl rfl rfl rfl rfl ⟨Nat.le_of_ble_eq_true rfl, Nat.le_of_ble_eq_true rfl⟩ ⟨xn, 1, by omega, by decide, rfl, rfl⟩ (fun rv_ S1 M1 hq_86 => ?_)
        obtain ⟨eS_, eM_, rfl⟩ := hq_86 xn 1 (by omega) (by decide) rfl
        replace eS_ := eS_.symm
        replace eM_ := eM_.symm
        subst eS_ eM_
        try dsimp only [Option.toList, List.cons_append, List.nil_append]
        refine xt_ri rfl (Nat.le_refl _) ?_
        intro x2 y2 e2
        simp only [List.cons.injEq, Sum.inl.injEq, and_true, true_and] at e2
        obtain ⟨rfl, rfl⟩ := e2
        subst hx_3
        refine ⟨rfl, CE_M ?_⟩
        unfold spStatement
        rw [cif_t (show Th (nN (vM M)) (nI xn) from k_5), cif_f (show ¬ (nI 3 = nI 0) by decide), cif_f (show ¬ (nI 3 = nI 1) by decide), cif_f (show ¬ (nI 3 = nI 2) by decide), cif_t rfl, vx]
        rfl
      · skip
        refine xt_blk rfl rfl (by dsimp only [List.take]) ?_
        refine xt_aln0 rfl (by first | decide | omega | assumption | (have := isWy_lt hw; omega)) ?_
        refine xt_gfr (q := (4, 0)) rfl (by first | rfl | assumption) rfl ?_
        refine xt_iln1 rfl ?_
        refine xt_v2 (key := 325) (q := q_X4_isTold) rfl rfl rfl rfl rfl ⟨Nat.le_of_ble_eq_true rfl, Nat.le_of_ble_eq_true rfl⟩ ⟨xn, by omega, rfl, hV.2.1, rfl⟩ (fun rv_ S1 M1 hq_95 => ?_)
        obtain ⟨eS_, eM_, rfl⟩ := hq_95 xn (by omega) rfl
        replace eS_ := eS_.symm
        replace eM_ := eM_.symm
        subst eS_ eM_
        try dsimp only [Option.toList, List.cons_append, List.nil_append]
        refine xt_eq (t := 105) rfl (fun hc_98 => ?_) (fun hc_98 => ?_)
        · skip
          refine xt_blk rfl rfl (by dsimp only [List.take]) ?_
          refine xt_ic ?_
          refine xt_nil (t := 106) rfl ?_
          refine xt_blk rfl rfl (by dsimp only [List.take]) ?_
          refine xt_ri rfl (Nat.le_refl _) ?_
          intro x2 y2 e2
          simp only [List.cons.injEq, Sum.inl.injEq, and_true, true_and] at e2
          obtain ⟨rfl, rfl⟩ := e2
          subst hx_4
          have e0 : M 7 xn = nI 0 := hc_98
          refine ⟨rfl, CE_M ?_⟩
          unfold spStatement
          rw [cif_t (show Th (nN (vM M)) (nI xn) from k_5), cif_f (show ¬ (nI 4 = nI 0) by decide), cif_f (show ¬ (nI 4 = nI 1) by decide), cif_f (show ¬ (nI 4 = nI 2) by decide), cif_f (show ¬ (nI 4 = nI 3) by decide), cif_t rfl, vx, vM_7, e0]
        · skip
          refine xt_ic ?_
          refine xt_goto (t := 106) rfl ?_
          refine xt_blk rfl rfl (by dsimp only [List.take]) ?_
          refine xt_ri rfl (Nat.le_refl _) ?_
          intro x2 y2 e2
          simp only [List.cons.injEq, Sum.inl.injEq, and_true, true_and] at e2
          obtain ⟨rfl, rfl⟩ := e2
          subst hx_4
          have e0 : M 7 xn = nI 1 := by
            rcases hV.2.1 xn (by omega) with e | e
            · exact absurd e hc_98
            · exact e
          refine ⟨rfl, CE_M ?_⟩
          unfold spStatement
          rw [cif_t (show Th (nN (vM M)) (nI xn) from k_5), cif_f (show ¬ (nI 4 = nI 0) by decide), cif_f (show ¬ (nI 4 = nI 1) by decide), cif_f (show ¬ (nI 4 = nI 2) by decide), cif_f (show ¬ (nI 4 = nI 3) by decide), cif_t rfl, vx, vM_7, e0]
    · skip
      have k_5 := k_no h_c5 hc_8
      refine xt_aln0 rfl (by first | decide | omega | assumption | (have := isWy_lt hw; omega)) ?_
      refine xt_icm rfl ?_
      refine xt_v2 (key := 172) (q := q_X6_refuse) rfl rfl rfl rfl rfl ⟨Nat.le_of_ble_eq_true rfl, Nat.le_of_ble_eq_true rfl⟩ ⟨1, by decide, by decide, rfl, rfl⟩ (fun rv_ S1 M1 hq_13 => ?_)
      obtain ⟨eS_, eM_, rfl⟩ := hq_13 1 (by decide) (by decide) rfl
      replace eS_ := eS_.symm
      replace eM_ := eM_.symm
      subst eS_ eM_
      try dsimp only [Option.toList, List.cons_append, List.nil_append]
      refine xt_ri rfl (Nat.le_refl _) ?_
      intro x2 y2 e2
      simp only [List.cons.injEq, Sum.inl.injEq, and_true, true_and] at e2
      obtain ⟨rfl, rfl⟩ := e2
      refine ⟨rfl, CE_R ?_⟩
      unfold spStatement
      exact cif_f k_5
  · intro μ pc ls st S2 M2 cs sl h; exact h.elim
def q_X6_told : x_K := (4, fun as S M => ∃ (w : Int32) (a : Int32) (b : Int32) (c : Nat), CI c M ∧ S = SH ∧ as = [.inr (.inl 0), .inl w, .inl a, .inl b], fun as S M rv_ S' M' => ∀ (w : Int32) (a : Int32) (b : Int32), as = [.inr (.inl 0), .inl w, .inl a, .inl b] → S' = S ∧ CEnd M M' rv_ (spTold (vM M) w a b), 0, 0)
theorem r_X6_told : ∀ as S M, q_X6_told.2.1 as S M → ∃ (k : Nat) (as' : List x_V) (fs : List (Option Nat)), as = .inr (.inl k) :: as' ∧ S[k]? = some (.inl (4, fs)) := by
  rintro as S M ⟨w, a, b, c, -, rfl, rfl⟩
  exact ⟨0, _, _, rfl, rfl⟩
def b_X6_told : x_B := [(0, 4, [(.iload_n 1, 1), (.iload_n 2, 1), (.iload_n 3, 1), (.invokestatic 111, 3), (.istore 4, 2), (.iload 4, 2), (.ifCond .eq 10, 3), (.aload_n 0, 1), (.iload 4, 2), (.invokevirtual 57, 3), (.ireturn, 1)]),
  (20, 5, [(.aload_n 0, 1), (.iload_n 1, 1), (.invokevirtual 114, 3), (.iload_n 2, 1), (.iload_n 3, 1), (.invokevirtual 118, 3), (.ireturn, 1)])]
theorem b_X6_told_ok : x_okB cX6_told 5 b_X6_told = true := by decide +kernel
def X_X6_told : x_X := ([], [], [], [], [(333, q_X6_refusalAlong), (172, q_X6_refuse), (343, q_X6_along), (355, q_X5_toldSet)], (0, 0), x_kn, x_kf, 5, false)
theorem X_X6_told_ok : x_okT RX6 X_X6_told = true := by decide +kernel
theorem k_X6_told (l : Launch) : ∀ z ∈ X_X6_told.2.2.2.2.1, x_Cal l (x_rm 6 0 0) cX6_told RX6 5 z.1 z.2 := List.forall_mem_cons.mpr ⟨x_cal_S (idx := 111) (c_X6_refusalAlong l) ⟨by decide, by decide⟩ (by decide +kernel) (by decide +kernel) (by decide +kernel) (by decide +kernel) (by decide +kernel), List.forall_mem_cons.mpr ⟨x_cal_V (idx := 57) (ci := 4) (n := 1) (c_X6_refuse l) ⟨by decide, by decide⟩ (by decide +kernel) (by decide +kernel) (by decide +kernel) (by decide +kernel) (by decide +kernel) rfl rfl rfl (by decide +kernel) r_X6_refuse, List.forall_mem_cons.mpr ⟨x_cal_V (idx := 114) (ci := 4) (n := 1) (c_X6_along l) ⟨by decide, by decide⟩ (by decide +kernel) (by decide +kernel) (by decide +kernel) (by decide +kernel) (by decide +kernel) rfl rfl rfl (by decide +kernel) r_X6_along, List.forall_mem_cons.mpr ⟨x_cal_V (idx := 118) (ci := 3) (n := 2) (c_X5_toldSet l) ⟨by decide, by decide⟩ (by decide +kernel) (by decide +kernel) (by decide +kernel) (by decide +kernel) (by decide +kernel) rfl rfl rfl (by decide +kernel) r_X5_toldSet, fun _ h => absurd h List.not_mem_nil⟩⟩⟩⟩
set_option maxHeartbeats 4000000 in
set_option maxRecDepth 100000 in
theorem c_X6_told (l : Launch) : x_CT l yX6_told cX6_told 5 (some .int) 6 q_X6_told := by
  refine x_meth (X := X_X6_told) (bl := b_X6_told) (cut := []) (own := RX6) 30 (by decide) rfl X_X6_told_ok b_X6_told_ok rfl (Nat.le_of_ble_eq_true rfl) (k_X6_told l) ?_
  rintro as S M - ⟨w, a, b, c, hci, rfl, rfl⟩
  have hok := hci.1.1.2.1
  have hV := hci.2
  refine ⟨fun _ _ _ _ _ _ _ _ => False, ?_, ?_⟩
  · skip
    refine xt_blk rfl rfl (by dsimp only [List.take]) ?_
    refine xt_iln1 rfl ?_
    refine xt_iln2 rfl ?_
    refine xt_iln3 rfl ?_
    refine xt_v3 (key := 333) (q := q_X6_refusalAlong) rfl rfl rfl rfl rfl ⟨Nat.le_of_ble_eq_true rfl, Nat.le_of_ble_eq_true rfl⟩ ⟨_, _, _, rfl⟩ (fun rv_ S1 M1 hq_3 => ?_)
    obtain ⟨eS_, eM_, h_r⟩ := hq_3 _ _ _ rfl
    replace eS_ := eS_.symm
    replace eM_ := eM_.symm
    subst eS_ eM_
    have hex_r : ∃ v, rv_ = some (.inl v) := by rcases h_r with ⟨-, e⟩ | ⟨-, -, e⟩ | ⟨-, -, e⟩ <;> exact ⟨_, e⟩
    obtain ⟨v_r, rfl⟩ := hex_r
    simp only [Option.some.injEq, Sum.inl.injEq] at h_r
    replace h_r : rfA w a b v_r := h_r
    try dsimp only [Option.toList, List.cons_append, List.nil_append]
    refine xt_ist rfl (by dsimp only [x_sto]) ?_
    refine xt_ild rfl ?_
    refine xt_eq (t := 20) rfl (fun hc_10 => ?_) (fun hc_10 => ?_)
    · skip
      obtain ⟨k_2, k_1⟩ := rfA_ok h_r hc_10
      obtain ⟨wn, hwn, ewn⟩ := id k_1
      subst ewn
      have vw : nv (nI wn) = wn := nv_nI (by omega)
      obtain ⟨⟨an, han, ean⟩, ⟨bn, hbn, ebn⟩, hab⟩ := id k_2
      subst ean ebn
      have va : nv (nI an) = an := nv_nI (by omega)
      have vb : nv (nI bn) = bn := nv_nI (by omega)
      have hne : an ≠ bn := fun e => hab (by rw [e])
      refine xt_blk rfl rfl (by dsimp only [List.take]) ?_
      refine xt_aln0 rfl (by first | decide | omega | assumption | (have := isWy_lt hw; omega)) ?_
      refine xt_iln1 rfl ?_
      refine xt_v2 (key := 343) (q := q_X6_along) rfl rfl rfl rfl rfl ⟨Nat.le_of_ble_eq_true rfl, Nat.le_of_ble_eq_true rfl⟩ ⟨_, rfl, rfl⟩ (fun rv_ S1 M1 hq_22 => ?_)
      obtain ⟨eS_, eM_, rfl⟩ := hq_22 _ rfl
      replace eS_ := eS_.symm
      replace eM_ := eM_.symm
      subst eS_ eM_
      obtain ⟨q, eq, hw, hwo, hp⟩ := al_q hci hwn
      subst hwo
      rw [eq]
      try dsimp only [Option.toList, List.cons_append, List.nil_append]
      refine xt_iln2 rfl ?_
      refine xt_iln3 rfl ?_
      refine xt_v3 (key := 355) (q := q_X5_toldSet) rfl rfl rfl rfl rfl ⟨Nat.le_of_ble_eq_true rfl, Nat.le_of_ble_eq_true rfl⟩ ⟨q, an, bn, hp, rfl, han, hbn, rfl⟩ (fun rv_ S1 M1 hq_27 => ?_)
      obtain ⟨eS_, hEd, rfl⟩ := hq_27 q an bn han hbn rfl
      replace eS_ := eS_.symm
      subst eS_
      try dsimp only [Option.toList, List.cons_append, List.nil_append]
      refine xt_ri rfl (Nat.le_refl _) ?_
      intro w2 a2 b2 e2
      simp only [List.cons.injEq, Sum.inl.injEq, and_true, true_and] at e2
      obtain ⟨rfl, rfl, rfl⟩ := e2
      have hlt := wo_lt q
      have vw : nv (nI (wo q)) = wo q := nv_nI (by omega)
      refine ⟨rfl, CE_Wk (Ed_Wk hw hEd) ?_⟩
      unfold spTold
      rw [spAl_ok k_2 k_1, vw, va, vb, tF_v M hlt]
    · skip
      obtain ⟨p, hp0, hp7, ev, hpp⟩ := rfA_no h_r hc_10
      subst ev
      refine xt_aln0 rfl (by first | decide | omega | assumption | (have := isWy_lt hw; omega)) ?_
      refine xt_ild rfl ?_
      refine xt_v2 (key := 172) (q := q_X6_refuse) rfl rfl rfl rfl rfl ⟨Nat.le_of_ble_eq_true rfl, Nat.le_of_ble_eq_true rfl⟩ ⟨p, hp0, hp7, rfl, rfl⟩ (fun rv_ S1 M1 hq_16 => ?_)
      obtain ⟨eS_, eM_, rfl⟩ := hq_16 p hp0 hp7 rfl
      replace eS_ := eS_.symm
      replace eM_ := eM_.symm
      subst eS_ eM_
      try dsimp only [Option.toList, List.cons_append, List.nil_append]
      refine xt_ri rfl (Nat.le_refl _) ?_
      intro w2 a2 b2 e2
      simp only [List.cons.injEq, Sum.inl.injEq, and_true, true_and] at e2
      obtain ⟨rfl, rfl, rfl⟩ := e2
      exact ⟨rfl, CE_R (rfA_sp hpp)⟩
  · intro μ pc ls st S2 M2 cs sl h; exact h.elim
def q_X6_closed : x_K := (4, fun as S M => ∃ (w : Int32) (a : Int32) (b : Int32) (c : Nat), CI c M ∧ S = SH ∧ as = [.inr (.inl 0), .inl w, .inl a, .inl b], fun as S M rv_ S' M' => ∀ (w : Int32) (a : Int32) (b : Int32), as = [.inr (.inl 0), .inl w, .inl a, .inl b] → S' = S ∧ CEnd M M' rv_ (spClosed (vM M) w a b), 0, 0)
theorem r_X6_closed : ∀ as S M, q_X6_closed.2.1 as S M → ∃ (k : Nat) (as' : List x_V) (fs : List (Option Nat)), as = .inr (.inl k) :: as' ∧ S[k]? = some (.inl (4, fs)) := by
  rintro as S M ⟨w, a, b, c, -, rfl, rfl⟩
  exact ⟨0, _, _, rfl, rfl⟩
def b_X6_closed : x_B := [(0, 4, [(.iload_n 1, 1), (.iload_n 2, 1), (.iload_n 3, 1), (.invokestatic 111, 3), (.istore 4, 2), (.iload 4, 2), (.ifCond .eq 10, 3), (.aload_n 0, 1), (.iload 4, 2), (.invokevirtual 57, 3), (.ireturn, 1)]),
  (20, 5, [(.aload_n 0, 1), (.iload_n 1, 1), (.invokevirtual 114, 3), (.iload_n 2, 1), (.iload_n 3, 1), (.invokevirtual 121, 3), (.ireturn, 1)])]
theorem b_X6_closed_ok : x_okB cX6_closed 5 b_X6_closed = true := by decide +kernel
def X_X6_closed : x_X := ([], [], [], [], [(333, q_X6_refusalAlong), (172, q_X6_refuse), (343, q_X6_along), (364, q_X5_closedSet)], (0, 0), x_kn, x_kf, 5, false)
theorem X_X6_closed_ok : x_okT RX6 X_X6_closed = true := by decide +kernel
theorem k_X6_closed (l : Launch) : ∀ z ∈ X_X6_closed.2.2.2.2.1, x_Cal l (x_rm 6 0 0) cX6_closed RX6 5 z.1 z.2 := List.forall_mem_cons.mpr ⟨x_cal_S (idx := 111) (c_X6_refusalAlong l) ⟨by decide, by decide⟩ (by decide +kernel) (by decide +kernel) (by decide +kernel) (by decide +kernel) (by decide +kernel), List.forall_mem_cons.mpr ⟨x_cal_V (idx := 57) (ci := 4) (n := 1) (c_X6_refuse l) ⟨by decide, by decide⟩ (by decide +kernel) (by decide +kernel) (by decide +kernel) (by decide +kernel) (by decide +kernel) rfl rfl rfl (by decide +kernel) r_X6_refuse, List.forall_mem_cons.mpr ⟨x_cal_V (idx := 114) (ci := 4) (n := 1) (c_X6_along l) ⟨by decide, by decide⟩ (by decide +kernel) (by decide +kernel) (by decide +kernel) (by decide +kernel) (by decide +kernel) rfl rfl rfl (by decide +kernel) r_X6_along, List.forall_mem_cons.mpr ⟨x_cal_V (idx := 121) (ci := 3) (n := 2) (c_X5_closedSet l) ⟨by decide, by decide⟩ (by decide +kernel) (by decide +kernel) (by decide +kernel) (by decide +kernel) (by decide +kernel) rfl rfl rfl (by decide +kernel) r_X5_closedSet, fun _ h => absurd h List.not_mem_nil⟩⟩⟩⟩
set_option maxHeartbeats 4000000 in
set_option maxRecDepth 100000 in
theorem c_X6_closed (l : Launch) : x_CT l yX6_closed cX6_closed 5 (some .int) 6 q_X6_closed := by
  refine x_meth (X := X_X6_closed) (bl := b_X6_closed) (cut := []) (own := RX6) 30 (by decide) rfl X_X6_closed_ok b_X6_closed_ok rfl (Nat.le_of_ble_eq_true rfl) (k_X6_closed l) ?_
  rintro as S M - ⟨w, a, b, c, hci, rfl, rfl⟩
  have hok := hci.1.1.2.1
  have hV := hci.2
  refine ⟨fun _ _ _ _ _ _ _ _ => False, ?_, ?_⟩
  · skip
    refine xt_blk rfl rfl (by dsimp only [List.take]) ?_
    refine xt_iln1 rfl ?_
    refine xt_iln2 rfl ?_
    refine xt_iln3 rfl ?_
    refine xt_v3 (key := 333) (q := q_X6_refusalAlong) rfl rfl rfl rfl rfl ⟨Nat.le_of_ble_eq_true rfl, Nat.le_of_ble_eq_true rfl⟩ ⟨_, _, _, rfl⟩ (fun rv_ S1 M1 hq_3 => ?_)
    obtain ⟨eS_, eM_, h_r⟩ := hq_3 _ _ _ rfl
    replace eS_ := eS_.symm
    replace eM_ := eM_.symm
    subst eS_ eM_
    have hex_r : ∃ v, rv_ = some (.inl v) := by rcases h_r with ⟨-, e⟩ | ⟨-, -, e⟩ | ⟨-, -, e⟩ <;> exact ⟨_, e⟩
    obtain ⟨v_r, rfl⟩ := hex_r
    simp only [Option.some.injEq, Sum.inl.injEq] at h_r
    replace h_r : rfA w a b v_r := h_r
    try dsimp only [Option.toList, List.cons_append, List.nil_append]
    refine xt_ist rfl (by dsimp only [x_sto]) ?_
    refine xt_ild rfl ?_
    refine xt_eq (t := 20) rfl (fun hc_10 => ?_) (fun hc_10 => ?_)
    · skip
      obtain ⟨k_2, k_1⟩ := rfA_ok h_r hc_10
      obtain ⟨wn, hwn, ewn⟩ := id k_1
      subst ewn
      have vw : nv (nI wn) = wn := nv_nI (by omega)
      obtain ⟨⟨an, han, ean⟩, ⟨bn, hbn, ebn⟩, hab⟩ := id k_2
      subst ean ebn
      have va : nv (nI an) = an := nv_nI (by omega)
      have vb : nv (nI bn) = bn := nv_nI (by omega)
      have hne : an ≠ bn := fun e => hab (by rw [e])
      refine xt_blk rfl rfl (by dsimp only [List.take]) ?_
      refine xt_aln0 rfl (by first | decide | omega | assumption | (have := isWy_lt hw; omega)) ?_
      refine xt_iln1 rfl ?_
      refine xt_v2 (key := 343) (q := q_X6_along) rfl rfl rfl rfl rfl ⟨Nat.le_of_ble_eq_true rfl, Nat.le_of_ble_eq_true rfl⟩ ⟨_, rfl, rfl⟩ (fun rv_ S1 M1 hq_22 => ?_)
      obtain ⟨eS_, eM_, rfl⟩ := hq_22 _ rfl
      replace eS_ := eS_.symm
      replace eM_ := eM_.symm
      subst eS_ eM_
      obtain ⟨q, eq, hw, hwo, hp⟩ := al_q hci hwn
      subst hwo
      rw [eq]
      try dsimp only [Option.toList, List.cons_append, List.nil_append]
      refine xt_iln2 rfl ?_
      refine xt_iln3 rfl ?_
      refine xt_v3 (key := 364) (q := q_X5_closedSet) rfl rfl rfl rfl rfl ⟨Nat.le_of_ble_eq_true rfl, Nat.le_of_ble_eq_true rfl⟩ ⟨q, an, bn, hp, rfl, han, hbn, rfl⟩ (fun rv_ S1 M1 hq_27 => ?_)
      obtain ⟨eS_, hEd, ⟨g, -, hg, rfl⟩⟩ := hq_27 q an bn han hbn rfl
      replace eS_ := eS_.symm
      subst eS_
      try dsimp only [Option.toList, List.cons_append, List.nil_append]
      refine xt_ri rfl (Nat.le_refl _) ?_
      intro w2 a2 b2 e2
      simp only [List.cons.injEq, Sum.inl.injEq, and_true, true_and] at e2
      obtain ⟨rfl, rfl, rfl⟩ := e2
      have hlt := wo_lt q
      have vw : nv (nI (wo q)) = wo q := nv_nI (by omega)
      refine ⟨rfl, CE_Wk (Ed_Wk hw hEd) ?_⟩
      unfold spClosed
      rw [spAl_ok k_2 k_1, vw, va, vb, tF_v M hlt, clF_e hg han hbn hne]
    · skip
      obtain ⟨p, hp0, hp7, ev, hpp⟩ := rfA_no h_r hc_10
      subst ev
      refine xt_aln0 rfl (by first | decide | omega | assumption | (have := isWy_lt hw; omega)) ?_
      refine xt_ild rfl ?_
      refine xt_v2 (key := 172) (q := q_X6_refuse) rfl rfl rfl rfl rfl ⟨Nat.le_of_ble_eq_true rfl, Nat.le_of_ble_eq_true rfl⟩ ⟨p, hp0, hp7, rfl, rfl⟩ (fun rv_ S1 M1 hq_16 => ?_)
      obtain ⟨eS_, eM_, rfl⟩ := hq_16 p hp0 hp7 rfl
      replace eS_ := eS_.symm
      replace eM_ := eM_.symm
      subst eS_ eM_
      try dsimp only [Option.toList, List.cons_append, List.nil_append]
      refine xt_ri rfl (Nat.le_refl _) ?_
      intro w2 a2 b2 e2
      simp only [List.cons.injEq, Sum.inl.injEq, and_true, true_and] at e2
      obtain ⟨rfl, rfl, rfl⟩ := e2
      exact ⟨rfl, CE_R (rfA_sp hpp)⟩
  · intro μ pc ls st S2 M2 cs sl h; exact h.elim
def q_X6_can : x_K := (4, fun as S M => ∃ (w : Int32) (a : Int32) (b : Int32) (c : Nat), CI c M ∧ S = SH ∧ as = [.inr (.inl 0), .inl w, .inl a, .inl b], fun as S M rv_ S' M' => ∀ (w : Int32) (a : Int32) (b : Int32), as = [.inr (.inl 0), .inl w, .inl a, .inl b] → S' = S ∧ CEnd M M' rv_ (spCan (vM M) w a b), 0, 0)
theorem r_X6_can : ∀ as S M, q_X6_can.2.1 as S M → ∃ (k : Nat) (as' : List x_V) (fs : List (Option Nat)), as = .inr (.inl k) :: as' ∧ S[k]? = some (.inl (4, fs)) := by
  rintro as S M ⟨w, a, b, c, -, rfl, rfl⟩
  exact ⟨0, _, _, rfl, rfl⟩
def b_X6_can : x_B := [(0, 4, [(.iload_n 1, 1), (.iload_n 2, 1), (.iload_n 3, 1), (.invokestatic 111, 3), (.istore 4, 2), (.iload 4, 2), (.ifCond .eq 10, 3), (.aload_n 0, 1), (.iload 4, 2), (.invokevirtual 57, 3), (.ireturn, 1)]),
  (20, 5, [(.aload_n 0, 1), (.iload_n 1, 1), (.invokevirtual 114, 3), (.iload_n 2, 1), (.iload_n 3, 1), (.invokevirtual 130, 3), (.ireturn, 1)])]
theorem b_X6_can_ok : x_okB cX6_can 5 b_X6_can = true := by decide +kernel
def X_X6_can : x_X := ([], [], [], [], [(333, q_X6_refusalAlong), (172, q_X6_refuse), (343, q_X6_along), (391, q_X5_canSet)], (0, 0), x_kn, x_kf, 5, false)
theorem X_X6_can_ok : x_okT RX6 X_X6_can = true := by decide +kernel
theorem k_X6_can (l : Launch) : ∀ z ∈ X_X6_can.2.2.2.2.1, x_Cal l (x_rm 23 0 0) cX6_can RX6 5 z.1 z.2 := List.forall_mem_cons.mpr ⟨x_cal_S (idx := 111) (c_X6_refusalAlong l) ⟨by decide, by decide⟩ (by decide +kernel) (by decide +kernel) (by decide +kernel) (by decide +kernel) (by decide +kernel), List.forall_mem_cons.mpr ⟨x_cal_V (idx := 57) (ci := 4) (n := 1) (c_X6_refuse l) ⟨by decide, by decide⟩ (by decide +kernel) (by decide +kernel) (by decide +kernel) (by decide +kernel) (by decide +kernel) rfl rfl rfl (by decide +kernel) r_X6_refuse, List.forall_mem_cons.mpr ⟨x_cal_V (idx := 114) (ci := 4) (n := 1) (c_X6_along l) ⟨by decide, by decide⟩ (by decide +kernel) (by decide +kernel) (by decide +kernel) (by decide +kernel) (by decide +kernel) rfl rfl rfl (by decide +kernel) r_X6_along, List.forall_mem_cons.mpr ⟨x_cal_V (idx := 130) (ci := 3) (n := 2) (c_X5_canSet l) ⟨by decide, by decide⟩ (by decide +kernel) (by decide +kernel) (by decide +kernel) (by decide +kernel) (by decide +kernel) rfl rfl rfl (by decide +kernel) r_X5_canSet, fun _ h => absurd h List.not_mem_nil⟩⟩⟩⟩
set_option maxHeartbeats 4000000 in
set_option maxRecDepth 100000 in
theorem c_X6_can (l : Launch) : x_CT l yX6_can cX6_can 5 (some .int) 23 q_X6_can := by
  refine x_meth (X := X_X6_can) (bl := b_X6_can) (cut := []) (own := RX6) 30 (by decide) rfl X_X6_can_ok b_X6_can_ok rfl (Nat.le_of_ble_eq_true rfl) (k_X6_can l) ?_
  rintro as S M - ⟨w, a, b, c, hci, rfl, rfl⟩
  have hok := hci.1.1.2.1
  have hV := hci.2
  refine ⟨fun _ _ _ _ _ _ _ _ => False, ?_, ?_⟩
  · skip
    refine xt_blk rfl rfl (by dsimp only [List.take]) ?_
    refine xt_iln1 rfl ?_
    refine xt_iln2 rfl ?_
    refine xt_iln3 rfl ?_
    refine xt_v3 (key := 333) (q := q_X6_refusalAlong) rfl rfl rfl rfl rfl ⟨Nat.le_of_ble_eq_true rfl, Nat.le_of_ble_eq_true rfl⟩ ⟨_, _, _, rfl⟩ (fun rv_ S1 M1 hq_3 => ?_)
    obtain ⟨eS_, eM_, h_r⟩ := hq_3 _ _ _ rfl
    replace eS_ := eS_.symm
    replace eM_ := eM_.symm
    subst eS_ eM_
    have hex_r : ∃ v, rv_ = some (.inl v) := by rcases h_r with ⟨-, e⟩ | ⟨-, -, e⟩ | ⟨-, -, e⟩ <;> exact ⟨_, e⟩
    obtain ⟨v_r, rfl⟩ := hex_r
    simp only [Option.some.injEq, Sum.inl.injEq] at h_r
    replace h_r : rfA w a b v_r := h_r
    try dsimp only [Option.toList, List.cons_append, List.nil_append]
    refine xt_ist rfl (by dsimp only [x_sto]) ?_
    refine xt_ild rfl ?_
    refine xt_eq (t := 20) rfl (fun hc_10 => ?_) (fun hc_10 => ?_)
    · skip
      obtain ⟨k_2, k_1⟩ := rfA_ok h_r hc_10
      obtain ⟨wn, hwn, ewn⟩ := id k_1
      subst ewn
      have vw : nv (nI wn) = wn := nv_nI (by omega)
      obtain ⟨⟨an, han, ean⟩, ⟨bn, hbn, ebn⟩, hab⟩ := id k_2
      subst ean ebn
      have va : nv (nI an) = an := nv_nI (by omega)
      have vb : nv (nI bn) = bn := nv_nI (by omega)
      have hne : an ≠ bn := fun e => hab (by rw [e])
      refine xt_blk rfl rfl (by dsimp only [List.take]) ?_
      refine xt_aln0 rfl (by first | decide | omega | assumption | (have := isWy_lt hw; omega)) ?_
      refine xt_iln1 rfl ?_
      refine xt_v2 (key := 343) (q := q_X6_along) rfl rfl rfl rfl rfl ⟨Nat.le_of_ble_eq_true rfl, Nat.le_of_ble_eq_true rfl⟩ ⟨_, rfl, rfl⟩ (fun rv_ S1 M1 hq_22 => ?_)
      obtain ⟨eS_, eM_, rfl⟩ := hq_22 _ rfl
      replace eS_ := eS_.symm
      replace eM_ := eM_.symm
      subst eS_ eM_
      obtain ⟨q, eq, hw, hwo, hp⟩ := al_q hci hwn
      subst hwo
      rw [eq]
      try dsimp only [Option.toList, List.cons_append, List.nil_append]
      refine xt_iln2 rfl ?_
      refine xt_iln3 rfl ?_
      refine xt_v3 (key := 391) (q := q_X5_canSet) rfl rfl rfl rfl rfl ⟨Nat.le_of_ble_eq_true rfl, Nat.le_of_ble_eq_true rfl⟩ ⟨q, an, bn, hp, rfl, han, hbn, hne, rfl⟩ (fun rv_ S1 M1 hq_27 => ?_)
      obtain ⟨eS_, hEd, ⟨v, hv, rfl⟩⟩ := hq_27 q an bn han hbn hne rfl
      replace eS_ := eS_.symm
      subst eS_
      try dsimp only [Option.toList, List.cons_append, List.nil_append]
      refine xt_ri rfl (Nat.le_refl _) ?_
      intro w2 a2 b2 e2
      simp only [List.cons.injEq, Sum.inl.injEq, and_true, true_and] at e2
      obtain ⟨rfl, rfl, rfl⟩ := e2
      have hlt := wo_lt q
      have vw : nv (nI (wo q)) = wo q := nv_nI (by omega)
      refine ⟨rfl, CE_Wk (Ed_Wk hw hEd) ?_⟩
      unfold spCan
      rw [spAl_ok k_2 k_1, vw, va, vb, tF_v M hlt, caF_e hv]
    · skip
      obtain ⟨p, hp0, hp7, ev, hpp⟩ := rfA_no h_r hc_10
      subst ev
      refine xt_aln0 rfl (by first | decide | omega | assumption | (have := isWy_lt hw; omega)) ?_
      refine xt_ild rfl ?_
      refine xt_v2 (key := 172) (q := q_X6_refuse) rfl rfl rfl rfl rfl ⟨Nat.le_of_ble_eq_true rfl, Nat.le_of_ble_eq_true rfl⟩ ⟨p, hp0, hp7, rfl, rfl⟩ (fun rv_ S1 M1 hq_16 => ?_)
      obtain ⟨eS_, eM_, rfl⟩ := hq_16 p hp0 hp7 rfl
      replace eS_ := eS_.symm
      replace eM_ := eM_.symm
      subst eS_ eM_
      try dsimp only [Option.toList, List.cons_append, List.nil_append]
      refine xt_ri rfl (Nat.le_refl _) ?_
      intro w2 a2 b2 e2
      simp only [List.cons.injEq, Sum.inl.injEq, and_true, true_and] at e2
      obtain ⟨rfl, rfl, rfl⟩ := e2
      exact ⟨rfl, CE_R (rfA_sp hpp)⟩
  · intro μ pc ls st S2 M2 cs sl h; exact h.elim
def q_X6_canBe : x_K := (2, fun as S M => ∃ (w : Int32) (c : Nat), CI c M ∧ S = SH ∧ as = [.inr (.inl 0), .inl w], fun as S M rv_ S' M' => ∀ (w : Int32), as = [.inr (.inl 0), .inl w] → S' = S ∧ CEnd M M' rv_ (spCanBe (vM M) w), 0, 0)
theorem r_X6_canBe : ∀ as S M, q_X6_canBe.2.1 as S M → ∃ (k : Nat) (as' : List x_V) (fs : List (Option Nat)), as = .inr (.inl k) :: as' ∧ S[k]? = some (.inl (4, fs)) := by
  rintro as S M ⟨w, c, -, rfl, rfl⟩
  exact ⟨0, _, _, rfl, rfl⟩
def b_X6_canBe : x_B := [(0, 2, [(.iload_n 1, 1), (.invokestatic 124, 3), (.ifCond .ne 10, 3), (.aload_n 0, 1), (.bipush (-2), 2), (.invokevirtual 57, 3), (.ireturn, 1)]),
  (14, 2, [(.aload_n 0, 1), (.iload_n 1, 1), (.invokevirtual 114, 3), (.invokevirtual 127, 3), (.ifCond .eq 7, 3), (.iconst 1, 1), (.goto 4, 3)]),
  (29, 2, [(.iconst 0, 1)]),
  (30, 2, [(.ireturn, 1)])]
theorem b_X6_canBe_ok : x_okB cX6_canBe 2 b_X6_canBe = true := by decide +kernel
def X_X6_canBe : x_X := ([], [], [], [], [(372, q_X6_isWay), (172, q_X6_refuse), (343, q_X6_along), (382, q_X5_isPossible)], (0, 0), x_kn, x_kf, 5, false)
theorem X_X6_canBe_ok : x_okT RX6 X_X6_canBe = true := by decide +kernel
theorem k_X6_canBe (l : Launch) : ∀ z ∈ X_X6_canBe.2.2.2.2.1, x_Cal l (x_rm 22 0 0) cX6_canBe RX6 2 z.1 z.2 := List.forall_mem_cons.mpr ⟨x_cal_S (idx := 124) (c_X6_isWay l) ⟨by decide, by decide⟩ (by decide +kernel) (by decide +kernel) (by decide +kernel) (by decide +kernel) (by decide +kernel), List.forall_mem_cons.mpr ⟨x_cal_V (idx := 57) (ci := 4) (n := 1) (c_X6_refuse l) ⟨by decide, by decide⟩ (by decide +kernel) (by decide +kernel) (by decide +kernel) (by decide +kernel) (by decide +kernel) rfl rfl rfl (by decide +kernel) r_X6_refuse, List.forall_mem_cons.mpr ⟨x_cal_V (idx := 114) (ci := 4) (n := 1) (c_X6_along l) ⟨by decide, by decide⟩ (by decide +kernel) (by decide +kernel) (by decide +kernel) (by decide +kernel) (by decide +kernel) rfl rfl rfl (by decide +kernel) r_X6_along, List.forall_mem_cons.mpr ⟨x_cal_V (idx := 127) (ci := 3) (n := 0) (c_X5_isPossible l) ⟨by decide, by decide⟩ (by decide +kernel) (by decide +kernel) (by decide +kernel) (by decide +kernel) (by decide +kernel) rfl rfl rfl (by decide +kernel) r_X5_isPossible, fun _ h => absurd h List.not_mem_nil⟩⟩⟩⟩
set_option maxHeartbeats 4000000 in
set_option maxRecDepth 100000 in
theorem c_X6_canBe (l : Launch) : x_CT l yX6_canBe cX6_canBe 2 (some .int) 22 q_X6_canBe := by
  refine x_meth (X := X_X6_canBe) (bl := b_X6_canBe) (cut := []) (own := RX6) 30 (by decide) rfl X_X6_canBe_ok b_X6_canBe_ok rfl (Nat.le_of_ble_eq_true rfl) (k_X6_canBe l) ?_
  rintro as S M - ⟨w, c, hci, rfl, rfl⟩
  have hok := hci.1.1.2.1
  have hV := hci.2
  refine ⟨fun _ _ _ _ _ _ _ _ => False, ?_, ?_⟩
  · skip
    refine xt_blk rfl rfl (by dsimp only [List.take]) ?_
    refine xt_iln1 rfl ?_
    refine xt_v1 (key := 372) (q := q_X6_isWay) rfl rfl rfl rfl rfl ⟨Nat.le_of_ble_eq_true rfl, Nat.le_of_ble_eq_true rfl⟩ ⟨_, rfl⟩ (fun rv_ S1 M1 hq_1 => ?_)
    obtain ⟨eS_, eM_, h_c1⟩ := hq_1 _ rfl
    replace eS_ := eS_.symm
    replace eM_ := eM_.symm
    subst eS_ eM_
    have hex_c1 : ∃ v, rv_ = some (.inl v) := by rcases h_c1 with ⟨-, e⟩ | ⟨-, e⟩ <;> exact ⟨_, e⟩
    obtain ⟨v_c1, rfl⟩ := hex_c1
    simp only [Option.some.injEq, Sum.inl.injEq] at h_c1
    try dsimp only [Option.toList, List.cons_append, List.nil_append]
    refine xt_ne (t := 14) rfl (fun hc_4 => ?_) (fun hc_4 => ?_)
    · skip
      have k_1 := k_yes h_c1 hc_4
      obtain ⟨wn, hwn, ewn⟩ := id k_1
      subst ewn
      have vw : nv (nI wn) = wn := nv_nI (by omega)
      refine xt_blk rfl rfl (by dsimp only [List.take]) ?_
      refine xt_aln0 rfl (by first | decide | omega | assumption | (have := isWy_lt hw; omega)) ?_
      refine xt_iln1 rfl ?_
      refine xt_v2 (key := 343) (q := q_X6_along) rfl rfl rfl rfl rfl ⟨Nat.le_of_ble_eq_true rfl, Nat.le_of_ble_eq_true rfl⟩ ⟨_, rfl, rfl⟩ (fun rv_ S1 M1 hq_16 => ?_)
      obtain ⟨eS_, eM_, rfl⟩ := hq_16 _ rfl
      replace eS_ := eS_.symm
      replace eM_ := eM_.symm
      subst eS_ eM_
      obtain ⟨q, eq, hw, hwo, hp⟩ := al_q hci hwn
      subst hwo
      rw [eq]
      try dsimp only [Option.toList, List.cons_append, List.nil_append]
      refine xt_v1 (key := 382) (q := q_X5_isPossible) rfl rfl rfl rfl rfl ⟨Nat.le_of_ble_eq_true rfl, Nat.le_of_ble_eq_true rfl⟩ ⟨q, hp, rfl, rfl⟩ (fun rv_ S1 M1 hq_19 => ?_)
      obtain ⟨eS_, hEd, hpos⟩ := hq_19 q rfl
      replace eS_ := eS_.symm
      subst eS_
      have hex : ∃ v, rv_ = some (.inl v) := by rcases hpos with ⟨e, -⟩ | ⟨e, -⟩ <;> exact ⟨_, e⟩
      obtain ⟨v, rfl⟩ := hex
      simp only [Option.some.injEq, Sum.inl.injEq] at hpos
      try dsimp only [Option.toList, List.cons_append, List.nil_append]
      refine xt_eq (t := 29) rfl (fun hc_22 => ?_) (fun hc_22 => ?_)
      · skip
        refine xt_blk rfl rfl (by dsimp only [List.take]) ?_
        refine xt_ic ?_
        refine xt_nil (t := 30) rfl ?_
        refine xt_blk rfl rfl (by dsimp only [List.take]) ?_
        refine xt_ri rfl (Nat.le_refl _) ?_
        intro w2 e2
        simp only [List.cons.injEq, Sum.inl.injEq, and_true, true_and] at e2
        subst e2
        have hlt := wo_lt q
        have vw : nv (nI (wo q)) = wo q := nv_nI (by omega)
        have hsat : ¬ Sat (tF M (wo q)) := by
          rcases hpos with ⟨e, -⟩ | ⟨-, z⟩
          · rw [e] at hc_22; exact absurd hc_22 (by decide)
          · exact z
        refine ⟨rfl, CE_Wk (Ed_Wk hw hEd) ?_⟩
        unfold spCanBe
        rw [cif_t k_1, vw, tF_v M hlt, cif_f hsat]
      · skip
        refine xt_ic ?_
        refine xt_goto (t := 30) rfl ?_
        refine xt_blk rfl rfl (by dsimp only [List.take]) ?_
        refine xt_ri rfl (Nat.le_refl _) ?_
        intro w2 e2
        simp only [List.cons.injEq, Sum.inl.injEq, and_true, true_and] at e2
        subst e2
        have hlt := wo_lt q
        have vw : nv (nI (wo q)) = wo q := nv_nI (by omega)
        have hsat : Sat (tF M (wo q)) := by
          rcases hpos with ⟨-, z, -⟩ | ⟨e, -⟩
          · exact z
          · rw [e] at hc_22; exact absurd rfl hc_22
        refine ⟨rfl, CE_Wk (Ed_Wk hw hEd) ?_⟩
        unfold spCanBe
        rw [cif_t k_1, vw, tF_v M hlt, cif_t hsat]
    · skip
      have k_1 := k_no h_c1 hc_4
      refine xt_aln0 rfl (by first | decide | omega | assumption | (have := isWy_lt hw; omega)) ?_
      refine xt_bim rfl ?_
      refine xt_v2 (key := 172) (q := q_X6_refuse) rfl rfl rfl rfl rfl ⟨Nat.le_of_ble_eq_true rfl, Nat.le_of_ble_eq_true rfl⟩ ⟨2, by decide, by decide, rfl, rfl⟩ (fun rv_ S1 M1 hq_10 => ?_)
      obtain ⟨eS_, eM_, rfl⟩ := hq_10 2 (by decide) (by decide) rfl
      replace eS_ := eS_.symm
      replace eM_ := eM_.symm
      subst eS_ eM_
      try dsimp only [Option.toList, List.cons_append, List.nil_append]
      refine xt_ri rfl (Nat.le_refl _) ?_
      intro w2 e2
      simp only [List.cons.injEq, Sum.inl.injEq, and_true, true_and] at e2
      subst e2
      refine ⟨rfl, CE_R ?_⟩
      unfold spCanBe
      rw [cif_f k_1]
  · intro μ pc ls st S2 M2 cs sl h; exact h.elim
def q_X6_core : x_K := (2, fun as S M => ∃ (w : Int32) (c : Nat), CI c M ∧ S = SH ∧ as = [.inr (.inl 0), .inl w], fun as S M rv_ S' M' => ∀ (w : Int32), as = [.inr (.inl 0), .inl w] → S' = S ∧ CEnd M M' rv_ (spCore (vM M) w), 0, 0)
theorem r_X6_core : ∀ as S M, q_X6_core.2.1 as S M → ∃ (k : Nat) (as' : List x_V) (fs : List (Option Nat)), as = .inr (.inl k) :: as' ∧ S[k]? = some (.inl (4, fs)) := by
  rintro as S M ⟨w, c, -, rfl, rfl⟩
  exact ⟨0, _, _, rfl, rfl⟩
def b_X6_core : x_B := [(0, 2, [(.iload_n 1, 1), (.invokestatic 124, 3), (.ifCond .ne 10, 3), (.aload_n 0, 1), (.bipush (-2), 2), (.invokevirtual 57, 3), (.ireturn, 1)]),
  (14, 2, [(.aload_n 0, 1), (.iload_n 1, 1), (.invokevirtual 114, 3), (.invokevirtual 145, 3), (.ireturn, 1)])]
theorem b_X6_core_ok : x_okB cX6_core 2 b_X6_core = true := by decide +kernel
def X_X6_core : x_X := ([], [], [], [], [(372, q_X6_isWay), (172, q_X6_refuse), (343, q_X6_along), (436, q_X5_coreBits)], (0, 0), x_kn, x_kf, 5, false)
theorem X_X6_core_ok : x_okT RX6 X_X6_core = true := by decide +kernel
theorem k_X6_core (l : Launch) : ∀ z ∈ X_X6_core.2.2.2.2.1, x_Cal l (x_rm 23 0 0) cX6_core RX6 2 z.1 z.2 := List.forall_mem_cons.mpr ⟨x_cal_S (idx := 124) (c_X6_isWay l) ⟨by decide, by decide⟩ (by decide +kernel) (by decide +kernel) (by decide +kernel) (by decide +kernel) (by decide +kernel), List.forall_mem_cons.mpr ⟨x_cal_V (idx := 57) (ci := 4) (n := 1) (c_X6_refuse l) ⟨by decide, by decide⟩ (by decide +kernel) (by decide +kernel) (by decide +kernel) (by decide +kernel) (by decide +kernel) rfl rfl rfl (by decide +kernel) r_X6_refuse, List.forall_mem_cons.mpr ⟨x_cal_V (idx := 114) (ci := 4) (n := 1) (c_X6_along l) ⟨by decide, by decide⟩ (by decide +kernel) (by decide +kernel) (by decide +kernel) (by decide +kernel) (by decide +kernel) rfl rfl rfl (by decide +kernel) r_X6_along, List.forall_mem_cons.mpr ⟨x_cal_V (idx := 145) (ci := 3) (n := 0) (c_X5_coreBits l) ⟨by decide, by decide⟩ (by decide +kernel) (by decide +kernel) (by decide +kernel) (by decide +kernel) (by decide +kernel) rfl rfl rfl (by decide +kernel) r_X5_coreBits, fun _ h => absurd h List.not_mem_nil⟩⟩⟩⟩
set_option maxHeartbeats 4000000 in
set_option maxRecDepth 100000 in
theorem c_X6_core (l : Launch) : x_CT l yX6_core cX6_core 2 (some .int) 23 q_X6_core := by
  refine x_meth (X := X_X6_core) (bl := b_X6_core) (cut := []) (own := RX6) 30 (by decide) rfl X_X6_core_ok b_X6_core_ok rfl (Nat.le_of_ble_eq_true rfl) (k_X6_core l) ?_
  rintro as S M - ⟨w, c, hci, rfl, rfl⟩
  have hok := hci.1.1.2.1
  have hV := hci.2
  refine ⟨fun _ _ _ _ _ _ _ _ => False, ?_, ?_⟩
  · skip
    refine xt_blk rfl rfl (by dsimp only [List.take]) ?_
    refine xt_iln1 rfl ?_
    refine xt_v1 (key := 372) (q := q_X6_isWay) rfl rfl rfl rfl rfl ⟨Nat.le_of_ble_eq_true rfl, Nat.le_of_ble_eq_true rfl⟩ ⟨_, rfl⟩ (fun rv_ S1 M1 hq_1 => ?_)
    obtain ⟨eS_, eM_, h_c1⟩ := hq_1 _ rfl
    replace eS_ := eS_.symm
    replace eM_ := eM_.symm
    subst eS_ eM_
    have hex_c1 : ∃ v, rv_ = some (.inl v) := by rcases h_c1 with ⟨-, e⟩ | ⟨-, e⟩ <;> exact ⟨_, e⟩
    obtain ⟨v_c1, rfl⟩ := hex_c1
    simp only [Option.some.injEq, Sum.inl.injEq] at h_c1
    try dsimp only [Option.toList, List.cons_append, List.nil_append]
    refine xt_ne (t := 14) rfl (fun hc_4 => ?_) (fun hc_4 => ?_)
    · skip
      have k_1 := k_yes h_c1 hc_4
      obtain ⟨wn, hwn, ewn⟩ := id k_1
      subst ewn
      have vw : nv (nI wn) = wn := nv_nI (by omega)
      refine xt_blk rfl rfl (by dsimp only [List.take]) ?_
      refine xt_aln0 rfl (by first | decide | omega | assumption | (have := isWy_lt hw; omega)) ?_
      refine xt_iln1 rfl ?_
      refine xt_v2 (key := 343) (q := q_X6_along) rfl rfl rfl rfl rfl ⟨Nat.le_of_ble_eq_true rfl, Nat.le_of_ble_eq_true rfl⟩ ⟨_, rfl, rfl⟩ (fun rv_ S1 M1 hq_16 => ?_)
      obtain ⟨eS_, eM_, rfl⟩ := hq_16 _ rfl
      replace eS_ := eS_.symm
      replace eM_ := eM_.symm
      subst eS_ eM_
      obtain ⟨q, eq, hw, hwo, hp⟩ := al_q hci hwn
      subst hwo
      rw [eq]
      try dsimp only [Option.toList, List.cons_append, List.nil_append]
      refine xt_v1 (key := 436) (q := q_X5_coreBits) rfl rfl rfl rfl rfl ⟨Nat.le_of_ble_eq_true rfl, Nat.le_of_ble_eq_true rfl⟩ ⟨q, hp, rfl, rfl⟩ (fun rv_ S1 M1 hq_19 => ?_)
      obtain ⟨eS_, hEd, hcore⟩ := hq_19 q rfl
      replace eS_ := eS_.symm
      subst eS_
      have hex : ∃ v, rv_ = some (.inl v) := by rcases hcore with ⟨-, e⟩ | ⟨-, e⟩ <;> exact ⟨_, e⟩
      obtain ⟨v, rfl⟩ := hex
      simp only [Option.some.injEq, Sum.inl.injEq] at hcore
      try dsimp only [Option.toList, List.cons_append, List.nil_append]
      refine xt_ri rfl (Nat.le_refl _) ?_
      intro w2 e2
      simp only [List.cons.injEq, Sum.inl.injEq, and_true, true_and] at e2
      subst e2
      have hlt := wo_lt q
      have vw : nv (nI (wo q)) = wo q := nv_nI (by omega)
      rcases hcore with ⟨hs, e⟩ | ⟨hs, e⟩
      · refine ⟨rfl, CE_Wk (Ed_Wk hw hEd) ?_⟩
        unfold spCore
        rw [cif_t k_1, vw, tF_v M hlt, cif_t hs, e]
      · refine ⟨rfl, CE_Wk (Ed_Wk hw hEd) ?_⟩
        unfold spCore
        rw [cif_t k_1, vw, tF_v M hlt, cif_f hs, coM_v M hlt, e]
    · skip
      have k_1 := k_no h_c1 hc_4
      refine xt_aln0 rfl (by first | decide | omega | assumption | (have := isWy_lt hw; omega)) ?_
      refine xt_bim rfl ?_
      refine xt_v2 (key := 172) (q := q_X6_refuse) rfl rfl rfl rfl rfl ⟨Nat.le_of_ble_eq_true rfl, Nat.le_of_ble_eq_true rfl⟩ ⟨2, by decide, by decide, rfl, rfl⟩ (fun rv_ S1 M1 hq_10 => ?_)
      obtain ⟨eS_, eM_, rfl⟩ := hq_10 2 (by decide) (by decide) rfl
      replace eS_ := eS_.symm
      replace eM_ := eM_.symm
      subst eS_ eM_
      try dsimp only [Option.toList, List.cons_append, List.nil_append]
      refine xt_ri rfl (Nat.le_refl _) ?_
      intro w2 e2
      simp only [List.cons.injEq, Sum.inl.injEq, and_true, true_and] at e2
      subst e2
      refine ⟨rfl, CE_R ?_⟩
      unfold spCore
      rw [cif_f k_1]
  · intro μ pc ls st S2 M2 cs sl h; exact h.elim
