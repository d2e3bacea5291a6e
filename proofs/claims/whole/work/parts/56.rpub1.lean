/-! THE REFERENCE: its public methods, the first half -/
theorem rfA_ge {w a b v : Int32} (h : rfA w a b v) (hc : 0 ≤ v) : Two a b ∧ Th 2 w := by
  rcases h with ⟨-, e⟩ | ⟨a, b, -⟩ | ⟨-, -, e⟩
  · rw [e] at hc; exact absurd hc (by decide)
  · exact ⟨a, b⟩
  · rw [e] at hc; exact absurd hc (by decide)
theorem rfA_lt {w a b v : Int32} (h : rfA w a b v) (hc : ¬ 0 ≤ v) : ∃ p, 0 < p ∧ p < 7 ∧ v = -(nI p) ∧ ((¬ Two a b ∧ p = 1) ∨ (Two a b ∧ ¬ Th 2 w ∧ p = 2)) :=
  rfA_no h (fun e => hc (by rw [e]; decide))
theorem Fs_Sat {f s : Nat → Nat} (h : Fs f s) : Sat f := by
  obtain ⟨⟨P, a, b, -⟩, -⟩ := h
  exact ⟨P, a, b⟩
theorem fs_rel {f s : Nat → Nat} (h : Fs f s) {a b : Nat} (ha : a < 6) (hb : b < 6) : rel s a b = rel (fsF f) a b := rel_cg (fsF_e h) ha hb
theorem fs_rk {f s : Nat → Nat} (h : Fs f s) {e : Nat} (he : e < 12) : rkG s e = rkG (fsF f) e :=
  rkf_cg (fun j hj => by unfold dn; rw [fs_rel h (by omega) (by omega)]) he 12 (Nat.le_refl _)
theorem cM_row61 (M : x_M) (f : Nat → Int32) : cM (x_row M 61 f) = x_row (cM M) 7 f := by
  funext k j
  by_cases h : k = 7
  · subst h; rw [x_row_self]; show x_row M 61 f 61 j = _; rw [x_row_self]
  · rw [x_row_ne _ _ h]
    unfold cM
    rw [x_row_ne _ _ (show 53 ≠ 61 by decide), x_row_ne _ _ (show 58 ≠ 61 by decide), x_row_ne _ _ (show 59 ≠ 61 by decide), x_row_ne _ _ (show 60 ≠ 61 by decide), x_row_ne _ _ (show 62 ≠ 61 by decide), x_row_ne _ _ (show 63 ≠ 61 by decide), x_row_ne _ _ (show 64 ≠ 61 by decide), x_row_ne _ _ (show 65 ≠ 61 by decide), if_neg h, if_neg h]
theorem RE_row {M : x_M} {k : Nat} {f : Nat → Int32} {v : Int32} {V : x_M} {p : Int32 × x_M} (hk : 57 < k) (hk2 : k < 66) (hV : cM (x_row M k f) = V) (hp : p = (v, V)) : REnd M (x_row M k f) (some (.inl v)) p := by
  subst hp
  exact ⟨fun j hj => x_row_ne _ _ (by omega), fun q => Tb_keep q (fun j hj => x_row_ne _ _ (by omega)), rfl, hV⟩
def q_X7_turned : x_K := (2, fun as S M => ∃ (x : Int32) (c : Nat), RI c M ∧ S = SH ∧ as = [.inr (.inl 53), .inl x], fun as S M rv_ S' M' => ∀ (x : Int32), as = [.inr (.inl 53), .inl x] → S' = S ∧ REnd M M' rv_ (spTurned (cM M) x), 0, 0)
theorem r_X7_turned : ∀ as S M, q_X7_turned.2.1 as S M → ∃ (k : Nat) (as' : List x_V) (fs : List (Option Nat)), as = .inr (.inl k) :: as' ∧ S[k]? = some (.inl (5, fs)) := by
  rintro as S M ⟨x, c, -, rfl, rfl⟩
  exact ⟨53, _, _, rfl, rfl⟩
def b_X7_turned : x_B := [(0, 2, [(.iload_n 1, 1), (.iconst 0, 1), (.sipush 8191, 3), (.invokestatic 85, 3), (.ifCond .eq 10, 3), (.iload_n 1, 1), (.invokestatic 89, 3), (.goto 9, 3)]),
  (18, 2, [(.aload_n 0, 1), (.bipush (-2), 2), (.invokevirtual 93, 3)]),
  (24, 2, [(.ireturn, 1)])]
theorem b_X7_turned_ok : x_okB cX7_turned 2 b_X7_turned = true := by decide +kernel
def X_X7_turned : x_X := ([], [], [], [], [(255, q_X7_in), (267, q_X7_turn), (280, q_X7_refuse)], (0, 0), x_kn, x_kf, 5, false)
theorem X_X7_turned_ok : x_okT RX7 X_X7_turned = true := by decide +kernel
theorem k_X7_turned (l : Launch) : ∀ z ∈ X_X7_turned.2.2.2.2.1, x_Cal l (x_rm 2 0 0) cX7_turned RX7 2 z.1 z.2 := List.forall_mem_cons.mpr ⟨x_cal_S (idx := 85) (c_X7_in l) ⟨by decide, by decide⟩ (by decide +kernel) (by decide +kernel) (by decide +kernel) (by decide +kernel) (by decide +kernel), List.forall_mem_cons.mpr ⟨x_cal_S (idx := 89) (c_X7_turn l) ⟨by decide, by decide⟩ (by decide +kernel) (by decide +kernel) (by decide +kernel) (by decide +kernel) (by decide +kernel), List.forall_mem_cons.mpr ⟨x_cal_V (idx := 93) (ci := 5) (n := 1) (c_X7_refuse l) ⟨by decide, by decide⟩ (by decide +kernel) (by decide +kernel) (by decide +kernel) (by decide +kernel) (by decide +kernel) rfl rfl rfl (by decide +kernel) r_X7_refuse, fun _ h => absurd h List.not_mem_nil⟩⟩⟩
set_option maxHeartbeats 4000000 in
set_option maxRecDepth 100000 in
theorem c_X7_turned (l : Launch) : x_CT l yX7_turned cX7_turned 2 (some .int) 2 q_X7_turned := by
  refine x_meth (X := X_X7_turned) (bl := b_X7_turned) (cut := []) (own := RX7) 30 (by decide) rfl X_X7_turned_ok b_X7_turned_ok rfl (Nat.le_of_ble_eq_true rfl) (k_X7_turned l) ?_
  rintro as S M - ⟨x, c, hRI, rfl, rfl⟩
  have hok := hRI.2.1
  have hV := hRI.2
  have hTb := hRI.1
  refine ⟨fun _ _ _ _ _ _ _ _ => False, ?_, ?_⟩
  · skip
    refine xt_blk rfl rfl (by dsimp only [List.take]) ?_
    refine xt_iln1 rfl ?_
    refine xt_ic ?_
    refine xt_si ?_
    refine xt_v3 (key := 255) (q := q_X7_in) rfl rfl rfl rfl rfl ⟨Nat.le_of_ble_eq_true rfl, Nat.le_of_ble_eq_true rfl⟩ ⟨_, _, _, rfl⟩ (fun rv_ S1 M_5 hq_5 => ?_)
    obtain ⟨eS_, eM_, h_c5⟩ := hq_5 _ _ _ rfl
    replace eS_ := eS_.symm
    replace eM_ := eM_.symm
    subst eS_ eM_
    have hex_c5 : ∃ v, rv_ = some (.inl v) := by rcases h_c5 with ⟨-, e⟩ | ⟨-, e⟩ <;> exact ⟨_, e⟩
    obtain ⟨v_c5, rfl⟩ := hex_c5
    simp only [Option.some.injEq, Sum.inl.injEq] at h_c5
    replace h_c5 := in_Th (N := 8191) (by decide) h_c5
    try dsimp only [Option.toList, List.cons_append, List.nil_append]
    refine xt_eq (t := 18) rfl (fun hc_8 => ?_) (fun hc_8 => ?_)
    · skip
      have k_5 := k_no h_c5 hc_8
      refine xt_blk rfl rfl (by dsimp only [List.take]) ?_
      refine xt_aln0 rfl (by first | decide | omega | assumption) ?_
      refine xt_bim rfl ?_
      refine xt_v2 (key := 280) (q := q_X7_refuse) rfl rfl rfl rfl rfl ⟨Nat.le_of_ble_eq_true rfl, Nat.le_of_ble_eq_true rfl⟩ ⟨2, by decide, by decide, rfl, rfl⟩ (fun rv_ S1 M_21 hq_21 => ?_)
      obtain ⟨eS_, eM_, rfl⟩ := hq_21 2 (by decide) (by decide) rfl
      replace eS_ := eS_.symm
      replace eM_ := eM_.symm
      subst eS_ eM_
      try dsimp only [Option.toList, List.cons_append, List.nil_append]
      refine xt_nil (t := 24) rfl ?_
      refine xt_blk rfl rfl (by dsimp only [List.take]) ?_
      refine xt_ri rfl (Nat.le_refl _) ?_
      intro x2 e2
      simp only [List.cons.injEq, Sum.inl.injEq, and_true, true_and] at e2
      subst e2
      refine ⟨rfl, RE_R ?_⟩
      unfold spTurned
      rw [cif_f k_5]
    · skip
      have k_5 := k_yes h_c5 hc_8
      obtain ⟨xn, hxn, exn⟩ := id k_5
      subst exn
      have vx : nv (nI xn) = xn := nv_nI (by omega)
      refine xt_iln1 rfl ?_
      refine xt_v1 (key := 267) (q := q_X7_turn) rfl rfl rfl rfl rfl ⟨Nat.le_of_ble_eq_true rfl, Nat.le_of_ble_eq_true rfl⟩ ⟨xn, hxn, rfl⟩ (fun rv_ S1 M_12 hq_12 => ?_)
      obtain ⟨eS_, eM_, rfl⟩ := hq_12 xn hxn rfl
      replace eS_ := eS_.symm
      replace eM_ := eM_.symm
      subst eS_ eM_
      try dsimp only [Option.toList, List.cons_append, List.nil_append]
      refine xt_goto (t := 24) rfl ?_
      refine xt_blk rfl rfl (by dsimp only [List.take]) ?_
      refine xt_ri rfl (Nat.le_refl _) ?_
      intro x2 e2
      simp only [List.cons.injEq, Sum.inl.injEq, and_true, true_and] at e2
      subst e2
      refine ⟨rfl, RE_M ?_⟩
      unfold spTurned
      rw [cif_t k_5, vx]
  · intro μ pc ls st S2 M2 cs sl h; exact h.elim
def q_X7_composed : x_K := (3, fun as S M => ∃ (x : Int32) (y : Int32) (c : Nat), RI c M ∧ S = SH ∧ as = [.inr (.inl 53), .inl x, .inl y], fun as S M rv_ S' M' => ∀ (x : Int32) (y : Int32), as = [.inr (.inl 53), .inl x, .inl y] → S' = S ∧ REnd M M' rv_ (spComposed (cM M) x y), 0, 0)
theorem r_X7_composed : ∀ as S M, q_X7_composed.2.1 as S M → ∃ (k : Nat) (as' : List x_V) (fs : List (Option Nat)), as = .inr (.inl k) :: as' ∧ S[k]? = some (.inl (5, fs)) := by
  rintro as S M ⟨x, y, c, -, rfl, rfl⟩
  exact ⟨53, _, _, rfl, rfl⟩
def b_X7_composed : x_B := [(0, 3, [(.iload_n 1, 1), (.iconst 0, 1), (.sipush 8191, 3), (.invokestatic 85, 3), (.ifCond .eq 23, 3), (.iload_n 2, 1), (.iconst 0, 1), (.sipush 8191, 3), (.invokestatic 85, 3), (.ifCond .eq 12, 3), (.aload_n 0, 1), (.iload_n 1, 1), (.iload_n 2, 1), (.invokevirtual 96, 3), (.goto 9, 3)]),
  (31, 3, [(.aload_n 0, 1), (.bipush (-2), 2), (.invokevirtual 93, 3)]),
  (37, 3, [(.ireturn, 1)])]
theorem b_X7_composed_ok : x_okB cX7_composed 3 b_X7_composed = true := by decide +kernel
def X_X7_composed : x_X := ([], [], [], [], [(255, q_X7_in), (289, q_X7_compose), (280, q_X7_refuse)], (0, 0), x_kn, x_kf, 5, false)
theorem X_X7_composed_ok : x_okT RX7 X_X7_composed = true := by decide +kernel
theorem k_X7_composed (l : Launch) : ∀ z ∈ X_X7_composed.2.2.2.2.1, x_Cal l (x_rm 2 0 0) cX7_composed RX7 3 z.1 z.2 := List.forall_mem_cons.mpr ⟨x_cal_S (idx := 85) (c_X7_in l) ⟨by decide, by decide⟩ (by decide +kernel) (by decide +kernel) (by decide +kernel) (by decide +kernel) (by decide +kernel), List.forall_mem_cons.mpr ⟨x_cal_V (idx := 96) (ci := 5) (n := 2) (c_X7_compose l) ⟨by decide, by decide⟩ (by decide +kernel) (by decide +kernel) (by decide +kernel) (by decide +kernel) (by decide +kernel) rfl rfl rfl (by decide +kernel) r_X7_compose, List.forall_mem_cons.mpr ⟨x_cal_V (idx := 93) (ci := 5) (n := 1) (c_X7_refuse l) ⟨by decide, by decide⟩ (by decide +kernel) (by decide +kernel) (by decide +kernel) (by decide +kernel) (by decide +kernel) rfl rfl rfl (by decide +kernel) r_X7_refuse, fun _ h => absurd h List.not_mem_nil⟩⟩⟩
set_option maxHeartbeats 4000000 in
set_option maxRecDepth 100000 in
theorem c_X7_composed (l : Launch) : x_CT l yX7_composed cX7_composed 3 (some .int) 2 q_X7_composed := by
  refine x_meth (X := X_X7_composed) (bl := b_X7_composed) (cut := []) (own := RX7) 30 (by decide) rfl X_X7_composed_ok b_X7_composed_ok rfl (Nat.le_of_ble_eq_true rfl) (k_X7_composed l) ?_
  rintro as S M - ⟨x, y, c, hRI, rfl, rfl⟩
  have hok := hRI.2.1
  have hV := hRI.2
  have hTb := hRI.1
  refine ⟨fun _ _ _ _ _ _ _ _ => False, ?_, ?_⟩
  · skip
    refine xt_blk rfl rfl (by dsimp only [List.take]) ?_
    refine xt_iln1 rfl ?_
    refine xt_ic ?_
    refine xt_si ?_
    refine xt_v3 (key := 255) (q := q_X7_in) rfl rfl rfl rfl rfl ⟨Nat.le_of_ble_eq_true rfl, Nat.le_of_ble_eq_true rfl⟩ ⟨_, _, _, rfl⟩ (fun rv_ S1 M_5 hq_5 => ?_)
    obtain ⟨eS_, eM_, h_c5⟩ := hq_5 _ _ _ rfl
    replace eS_ := eS_.symm
    replace eM_ := eM_.symm
    subst eS_ eM_
    have hex_c5 : ∃ v, rv_ = some (.inl v) := by rcases h_c5 with ⟨-, e⟩ | ⟨-, e⟩ <;> exact ⟨_, e⟩
    obtain ⟨v_c5, rfl⟩ := hex_c5
    simp only [Option.some.injEq, Sum.inl.injEq] at h_c5
    replace h_c5 := in_Th (N := 8191) (by decide) h_c5
    try dsimp only [Option.toList, List.cons_append, List.nil_append]
    refine xt_eq (t := 31) rfl (fun hc_8 => ?_) (fun hc_8 => ?_)
    · skip
      have k_5 := k_no h_c5 hc_8
      refine xt_blk rfl rfl (by dsimp only [List.take]) ?_
      refine xt_aln0 rfl (by first | decide | omega | assumption) ?_
      refine xt_bim rfl ?_
      refine xt_v2 (key := 280) (q := q_X7_refuse) rfl rfl rfl rfl rfl ⟨Nat.le_of_ble_eq_true rfl, Nat.le_of_ble_eq_true rfl⟩ ⟨2, by decide, by decide, rfl, rfl⟩ (fun rv_ S1 M_34 hq_34 => ?_)
      obtain ⟨eS_, eM_, rfl⟩ := hq_34 2 (by decide) (by decide) rfl
      replace eS_ := eS_.symm
      replace eM_ := eM_.symm
      subst eS_ eM_
      try dsimp only [Option.toList, List.cons_append, List.nil_append]
      refine xt_nil (t := 37) rfl ?_
      refine xt_blk rfl rfl (by dsimp only [List.take]) ?_
      refine xt_ri rfl (Nat.le_refl _) ?_
      intro x2 y2 e2
      simp only [List.cons.injEq, Sum.inl.injEq, and_true, true_and] at e2
      obtain ⟨rfl, rfl⟩ := e2
      refine ⟨rfl, RE_R ?_⟩
      unfold spComposed
      rw [cif_f k_5]
    · skip
      have k_5 := k_yes h_c5 hc_8
      refine xt_iln2 rfl ?_
      refine xt_ic ?_
      refine xt_si ?_
      refine xt_v3 (key := 255) (q := q_X7_in) rfl rfl rfl rfl rfl ⟨Nat.le_of_ble_eq_true rfl, Nat.le_of_ble_eq_true rfl⟩ ⟨_, _, _, rfl⟩ (fun rv_ S1 M_16 hq_16 => ?_)
      obtain ⟨eS_, eM_, h_c16⟩ := hq_16 _ _ _ rfl
      replace eS_ := eS_.symm
      replace eM_ := eM_.symm
      subst eS_ eM_
      have hex_c16 : ∃ v, rv_ = some (.inl v) := by rcases h_c16 with ⟨-, e⟩ | ⟨-, e⟩ <;> exact ⟨_, e⟩
      obtain ⟨v_c16, rfl⟩ := hex_c16
      simp only [Option.some.injEq, Sum.inl.injEq] at h_c16
      replace h_c16 := in_Th (N := 8191) (by decide) h_c16
      try dsimp only [Option.toList, List.cons_append, List.nil_append]
      refine xt_eq (t := 31) rfl (fun hc_19 => ?_) (fun hc_19 => ?_)
      · skip
        have k_16 := k_no h_c16 hc_19
        refine xt_blk rfl rfl (by dsimp only [List.take]) ?_
        refine xt_aln0 rfl (by first | decide | omega | assumption) ?_
        refine xt_bim rfl ?_
        refine xt_v2 (key := 280) (q := q_X7_refuse) rfl rfl rfl rfl rfl ⟨Nat.le_of_ble_eq_true rfl, Nat.le_of_ble_eq_true rfl⟩ ⟨2, by decide, by decide, rfl, rfl⟩ (fun rv_ S1 M_34 hq_34 => ?_)
        obtain ⟨eS_, eM_, rfl⟩ := hq_34 2 (by decide) (by decide) rfl
        replace eS_ := eS_.symm
        replace eM_ := eM_.symm
        subst eS_ eM_
        try dsimp only [Option.toList, List.cons_append, List.nil_append]
        refine xt_nil (t := 37) rfl ?_
        refine xt_blk rfl rfl (by dsimp only [List.take]) ?_
        refine xt_ri rfl (Nat.le_refl _) ?_
        intro x2 y2 e2
        simp only [List.cons.injEq, Sum.inl.injEq, and_true, true_and] at e2
        obtain ⟨rfl, rfl⟩ := e2
        refine ⟨rfl, RE_R ?_⟩
        unfold spComposed
        rw [cif_t k_5, cif_f k_16]
      · skip
        have k_16 := k_yes h_c16 hc_19
        obtain ⟨xn, hxn, exn⟩ := id k_5
        subst exn
        have vx : nv (nI xn) = xn := nv_nI (by omega)
        obtain ⟨yn, hyn, eyn⟩ := id k_16
        subst eyn
        have vy : nv (nI yn) = yn := nv_nI (by omega)
        refine xt_aln0 rfl (by first | decide | omega | assumption) ?_
        refine xt_iln1 rfl ?_
        refine xt_iln2 rfl ?_
        refine xt_v3 (key := 289) (q := q_X7_compose) rfl rfl rfl rfl rfl ⟨Nat.le_of_ble_eq_true rfl, Nat.le_of_ble_eq_true rfl⟩ ⟨xn, yn, hxn, hyn, rfl, hTb.1, rfl⟩ (fun rv_ S1 M_25 hq_25 => ?_)
        obtain ⟨eS_, eM_, rfl⟩ := hq_25 xn yn hxn hyn rfl
        replace eS_ := eS_.symm
        replace eM_ := eM_.symm
        subst eS_ eM_
        try dsimp only [Option.toList, List.cons_append, List.nil_append]
        refine xt_goto (t := 37) rfl ?_
        refine xt_blk rfl rfl (by dsimp only [List.take]) ?_
        refine xt_ri rfl (Nat.le_refl _) ?_
        intro x2 y2 e2
        simp only [List.cons.injEq, Sum.inl.injEq, and_true, true_and] at e2
        obtain ⟨rfl, rfl⟩ := e2
        refine ⟨rfl, RE_M ?_⟩
        unfold spComposed
        rw [cif_t k_5, cif_t k_16, vx, vy]
  · intro μ pc ls st S2 M2 cs sl h; exact h.elim
def q_X7_near : x_K := (3, fun as S M => ∃ (x : Int32) (y : Int32) (c : Nat), RI c M ∧ S = SH ∧ as = [.inr (.inl 53), .inl x, .inl y], fun as S M rv_ S' M' => ∀ (x : Int32) (y : Int32), as = [.inr (.inl 53), .inl x, .inl y] → S' = S ∧ REnd M M' rv_ (spNear (cM M) x y), 0, 0)
theorem r_X7_near : ∀ as S M, q_X7_near.2.1 as S M → ∃ (k : Nat) (as' : List x_V) (fs : List (Option Nat)), as = .inr (.inl k) :: as' ∧ S[k]? = some (.inl (5, fs)) := by
  rintro as S M ⟨x, y, c, -, rfl, rfl⟩
  exact ⟨53, _, _, rfl, rfl⟩
def b_X7_near : x_B := [(0, 3, [(.iload_n 1, 1), (.iconst 0, 1), (.bipush 12, 2), (.invokestatic 85, 3), (.ifCond .eq 26, 3), (.iload_n 2, 1), (.iconst 0, 1), (.bipush 12, 2), (.invokestatic 85, 3), (.ifCond .eq 16, 3), (.aload_n 0, 1), (.getfield 16, 3), (.iload_n 1, 1), (.iaload, 1), (.iload_n 2, 1), (.ishr, 1), (.iconst 1, 1), (.iand, 1), (.goto 8, 3)]),
  (33, 3, [(.aload_n 0, 1), (.iconst (-1), 1), (.invokevirtual 93, 3)]),
  (38, 3, [(.ireturn, 1)])]
theorem b_X7_near_ok : x_okB cX7_near 3 b_X7_near = true := by decide +kernel
def X_X7_near : x_X := ([(16, 5, 2)], [], [], [], [(255, q_X7_in), (280, q_X7_refuse)], (0, 0), x_kn, x_kf, 5, false)
theorem X_X7_near_ok : x_okT RX7 X_X7_near = true := by decide +kernel
theorem k_X7_near (l : Launch) : ∀ z ∈ X_X7_near.2.2.2.2.1, x_Cal l (x_rm 2 0 0) cX7_near RX7 3 z.1 z.2 := List.forall_mem_cons.mpr ⟨x_cal_S (idx := 85) (c_X7_in l) ⟨by decide, by decide⟩ (by decide +kernel) (by decide +kernel) (by decide +kernel) (by decide +kernel) (by decide +kernel), List.forall_mem_cons.mpr ⟨x_cal_V (idx := 93) (ci := 5) (n := 1) (c_X7_refuse l) ⟨by decide, by decide⟩ (by decide +kernel) (by decide +kernel) (by decide +kernel) (by decide +kernel) (by decide +kernel) rfl rfl rfl (by decide +kernel) r_X7_refuse, fun _ h => absurd h List.not_mem_nil⟩⟩
set_option maxHeartbeats 4000000 in
set_option maxRecDepth 100000 in
theorem c_X7_near (l : Launch) : x_CT l yX7_near cX7_near 3 (some .int) 2 q_X7_near := by
  refine x_meth (X := X_X7_near) (bl := b_X7_near) (cut := []) (own := RX7) 30 (by decide) rfl X_X7_near_ok b_X7_near_ok rfl (Nat.le_of_ble_eq_true rfl) (k_X7_near l) ?_
  rintro as S M - ⟨x, y, c, hRI, rfl, rfl⟩
  have hok := hRI.2.1
  have hV := hRI.2
  have hTb := hRI.1
  refine ⟨fun _ _ _ _ _ _ _ _ => False, ?_, ?_⟩
  · skip
    refine xt_blk rfl rfl (by dsimp only [List.take]) ?_
    refine xt_iln1 rfl ?_
    refine xt_ic ?_
    refine xt_bi ?_
    refine xt_v3 (key := 255) (q := q_X7_in) rfl rfl rfl rfl rfl ⟨Nat.le_of_ble_eq_true rfl, Nat.le_of_ble_eq_true rfl⟩ ⟨_, _, _, rfl⟩ (fun rv_ S1 M_4 hq_4 => ?_)
    obtain ⟨eS_, eM_, h_c4⟩ := hq_4 _ _ _ rfl
    replace eS_ := eS_.symm
    replace eM_ := eM_.symm
    subst eS_ eM_
    have hex_c4 : ∃ v, rv_ = some (.inl v) := by rcases h_c4 with ⟨-, e⟩ | ⟨-, e⟩ <;> exact ⟨_, e⟩
    obtain ⟨v_c4, rfl⟩ := hex_c4
    simp only [Option.some.injEq, Sum.inl.injEq] at h_c4
    replace h_c4 := in_Th (N := 12) (by decide) h_c4
    try dsimp only [Option.toList, List.cons_append, List.nil_append]
    refine xt_eq (t := 33) rfl (fun hc_7 => ?_) (fun hc_7 => ?_)
    · skip
      have k_4 := k_no h_c4 hc_7
      refine xt_blk rfl rfl (by dsimp only [List.take]) ?_
      refine xt_aln0 rfl (by first | decide | omega | assumption) ?_
      refine xt_icm rfl ?_
      refine xt_v2 (key := 280) (q := q_X7_refuse) rfl rfl rfl rfl rfl ⟨Nat.le_of_ble_eq_true rfl, Nat.le_of_ble_eq_true rfl⟩ ⟨1, by decide, by decide, rfl, rfl⟩ (fun rv_ S1 M_35 hq_35 => ?_)
      obtain ⟨eS_, eM_, rfl⟩ := hq_35 1 (by decide) (by decide) rfl
      replace eS_ := eS_.symm
      replace eM_ := eM_.symm
      subst eS_ eM_
      try dsimp only [Option.toList, List.cons_append, List.nil_append]
      refine xt_nil (t := 38) rfl ?_
      refine xt_blk rfl rfl (by dsimp only [List.take]) ?_
      refine xt_ri rfl (Nat.le_refl _) ?_
      intro x2 y2 e2
      simp only [List.cons.injEq, Sum.inl.injEq, and_true, true_and] at e2
      obtain ⟨rfl, rfl⟩ := e2
      refine ⟨rfl, RE_R ?_⟩
      unfold spNear
      rw [cif_f k_4]
    · skip
      have k_4 := k_yes h_c4 hc_7
      refine xt_iln2 rfl ?_
      refine xt_ic ?_
      refine xt_bi ?_
      refine xt_v3 (key := 255) (q := q_X7_in) rfl rfl rfl rfl rfl ⟨Nat.le_of_ble_eq_true rfl, Nat.le_of_ble_eq_true rfl⟩ ⟨_, _, _, rfl⟩ (fun rv_ S1 M_14 hq_14 => ?_)
      obtain ⟨eS_, eM_, h_c14⟩ := hq_14 _ _ _ rfl
      replace eS_ := eS_.symm
      replace eM_ := eM_.symm
      subst eS_ eM_
      have hex_c14 : ∃ v, rv_ = some (.inl v) := by rcases h_c14 with ⟨-, e⟩ | ⟨-, e⟩ <;> exact ⟨_, e⟩
      obtain ⟨v_c14, rfl⟩ := hex_c14
      simp only [Option.some.injEq, Sum.inl.injEq] at h_c14
      replace h_c14 := in_Th (N := 12) (by decide) h_c14
      try dsimp only [Option.toList, List.cons_append, List.nil_append]
      refine xt_eq (t := 33) rfl (fun hc_17 => ?_) (fun hc_17 => ?_)
      · skip
        have k_14 := k_no h_c14 hc_17
        refine xt_blk rfl rfl (by dsimp only [List.take]) ?_
        refine xt_aln0 rfl (by first | decide | omega | assumption) ?_
        refine xt_icm rfl ?_
        refine xt_v2 (key := 280) (q := q_X7_refuse) rfl rfl rfl rfl rfl ⟨Nat.le_of_ble_eq_true rfl, Nat.le_of_ble_eq_true rfl⟩ ⟨1, by decide, by decide, rfl, rfl⟩ (fun rv_ S1 M_35 hq_35 => ?_)
        obtain ⟨eS_, eM_, rfl⟩ := hq_35 1 (by decide) (by decide) rfl
        replace eS_ := eS_.symm
        replace eM_ := eM_.symm
        subst eS_ eM_
        try dsimp only [Option.toList, List.cons_append, List.nil_append]
        refine xt_nil (t := 38) rfl ?_
        refine xt_blk rfl rfl (by dsimp only [List.take]) ?_
        refine xt_ri rfl (Nat.le_refl _) ?_
        intro x2 y2 e2
        simp only [List.cons.injEq, Sum.inl.injEq, and_true, true_and] at e2
        obtain ⟨rfl, rfl⟩ := e2
        refine ⟨rfl, RE_R ?_⟩
        unfold spNear
        rw [cif_t k_4, cif_f k_14]
      · skip
        have k_14 := k_yes h_c14 hc_17
        obtain ⟨xn, hxn, exn⟩ := id k_4
        subst exn
        have vx : nv (nI xn) = xn := nv_nI (by omega)
        obtain ⟨yn, hyn, eyn⟩ := id k_14
        subst eyn
        have vy : nv (nI yn) = yn := nv_nI (by omega)
        refine xt_aln0 rfl (by first | decide | omega | assumption) ?_
        refine xt_gfr (q := (5, 2)) rfl (by first | rfl | assumption) rfl ?_
        refine xt_iln1 rfl ?_
        refine xt_ial (by first | rfl | assumption) (show vp_in _ 13 from vp_in_nI (by omega) (by decide)) ?_
        refine xt_iln2 rfl ?_
        refine xt_shr ?_
        refine xt_ic ?_
        refine xt_and ?_
        refine xt_goto (t := 38) rfl ?_
        refine xt_blk rfl rfl (by dsimp only [List.take]) ?_
        refine xt_ri rfl (Nat.le_refl _) ?_
        intro x2 y2 e2
        simp only [List.cons.injEq, Sum.inl.injEq, and_true, true_and] at e2
        obtain ⟨rfl, rfl⟩ := e2
        refine ⟨rfl, RE_M ?_⟩
        unfold spNear
        rw [cif_t k_4, cif_t k_14, vx, vy, nI_clamp (by omega), hTb.2.2.1 xn hxn, n_bit (by have := neT_lt xn; omega) (by omega)]
        rfl
  · intro μ pc ls st S2 M2 cs sl h; exact h.elim
def q_X7_steps : x_K := (3, fun as S M => ∃ (x : Int32) (y : Int32) (c : Nat), RI c M ∧ S = SH ∧ as = [.inr (.inl 53), .inl x, .inl y], fun as S M rv_ S' M' => ∀ (x : Int32) (y : Int32), as = [.inr (.inl 53), .inl x, .inl y] → S' = S ∧ REnd M M' rv_ (spSteps (cM M) x y), 0, 0)
theorem r_X7_steps : ∀ as S M, q_X7_steps.2.1 as S M → ∃ (k : Nat) (as' : List x_V) (fs : List (Option Nat)), as = .inr (.inl k) :: as' ∧ S[k]? = some (.inl (5, fs)) := by
  rintro as S M ⟨x, y, c, -, rfl, rfl⟩
  exact ⟨53, _, _, rfl, rfl⟩
def b_X7_steps : x_B := [(0, 3, [(.iload_n 1, 1), (.iconst 0, 1), (.bipush 12, 2), (.invokestatic 85, 3), (.ifCond .eq 27, 3), (.iload_n 2, 1), (.iconst 0, 1), (.bipush 12, 2), (.invokestatic 85, 3), (.ifCond .eq 17, 3), (.aload_n 0, 1), (.getfield 19, 3), (.bipush 13, 2), (.iload_n 1, 1), (.imul, 1), (.iload_n 2, 1), (.iadd, 1), (.iaload, 1), (.goto 8, 3)]),
  (34, 3, [(.aload_n 0, 1), (.iconst (-1), 1), (.invokevirtual 93, 3)]),
  (39, 3, [(.ireturn, 1)])]
theorem b_X7_steps_ok : x_okB cX7_steps 3 b_X7_steps = true := by decide +kernel
def X_X7_steps : x_X := ([(19, 5, 3)], [], [], [], [(255, q_X7_in), (280, q_X7_refuse)], (0, 0), x_kn, x_kf, 5, false)
theorem X_X7_steps_ok : x_okT RX7 X_X7_steps = true := by decide +kernel
theorem k_X7_steps (l : Launch) : ∀ z ∈ X_X7_steps.2.2.2.2.1, x_Cal l (x_rm 2 0 0) cX7_steps RX7 3 z.1 z.2 := List.forall_mem_cons.mpr ⟨x_cal_S (idx := 85) (c_X7_in l) ⟨by decide, by decide⟩ (by decide +kernel) (by decide +kernel) (by decide +kernel) (by decide +kernel) (by decide +kernel), List.forall_mem_cons.mpr ⟨x_cal_V (idx := 93) (ci := 5) (n := 1) (c_X7_refuse l) ⟨by decide, by decide⟩ (by decide +kernel) (by decide +kernel) (by decide +kernel) (by decide +kernel) (by decide +kernel) rfl rfl rfl (by decide +kernel) r_X7_refuse, fun _ h => absurd h List.not_mem_nil⟩⟩
set_option maxHeartbeats 4000000 in
set_option maxRecDepth 100000 in
theorem c_X7_steps (l : Launch) : x_CT l yX7_steps cX7_steps 3 (some .int) 2 q_X7_steps := by
  refine x_meth (X := X_X7_steps) (bl := b_X7_steps) (cut := []) (own := RX7) 30 (by decide) rfl X_X7_steps_ok b_X7_steps_ok rfl (Nat.le_of_ble_eq_true rfl) (k_X7_steps l) ?_
  rintro as S M - ⟨x, y, c, hRI, rfl, rfl⟩
  have hok := hRI.2.1
  have hV := hRI.2
  have hTb := hRI.1
  refine ⟨fun _ _ _ _ _ _ _ _ => False, ?_, ?_⟩
  · skip
    refine xt_blk rfl rfl (by dsimp only [List.take]) ?_
    refine xt_iln1 rfl ?_
    refine xt_ic ?_
    refine xt_bi ?_
    refine xt_v3 (key := 255) (q := q_X7_in) rfl rfl rfl rfl rfl ⟨Nat.le_of_ble_eq_true rfl, Nat.le_of_ble_eq_true rfl⟩ ⟨_, _, _, rfl⟩ (fun rv_ S1 M_4 hq_4 => ?_)
    obtain ⟨eS_, eM_, h_c4⟩ := hq_4 _ _ _ rfl
    replace eS_ := eS_.symm
    replace eM_ := eM_.symm
    subst eS_ eM_
    have hex_c4 : ∃ v, rv_ = some (.inl v) := by rcases h_c4 with ⟨-, e⟩ | ⟨-, e⟩ <;> exact ⟨_, e⟩
    obtain ⟨v_c4, rfl⟩ := hex_c4
    simp only [Option.some.injEq, Sum.inl.injEq] at h_c4
    replace h_c4 := in_Th (N := 12) (by decide) h_c4
    try dsimp only [Option.toList, List.cons_append, List.nil_append]
    refine xt_eq (t := 34) rfl (fun hc_7 => ?_) (fun hc_7 => ?_)
    · skip
      have k_4 := k_no h_c4 hc_7
      refine xt_blk rfl rfl (by dsimp only [List.take]) ?_
      refine xt_aln0 rfl (by first | decide | omega | assumption) ?_
      refine xt_icm rfl ?_
      refine xt_v2 (key := 280) (q := q_X7_refuse) rfl rfl rfl rfl rfl ⟨Nat.le_of_ble_eq_true rfl, Nat.le_of_ble_eq_true rfl⟩ ⟨1, by decide, by decide, rfl, rfl⟩ (fun rv_ S1 M_36 hq_36 => ?_)
      obtain ⟨eS_, eM_, rfl⟩ := hq_36 1 (by decide) (by decide) rfl
      replace eS_ := eS_.symm
      replace eM_ := eM_.symm
      subst eS_ eM_
      try dsimp only [Option.toList, List.cons_append, List.nil_append]
      refine xt_nil (t := 39) rfl ?_
      refine xt_blk rfl rfl (by dsimp only [List.take]) ?_
      refine xt_ri rfl (Nat.le_refl _) ?_
      intro x2 y2 e2
      simp only [List.cons.injEq, Sum.inl.injEq, and_true, true_and] at e2
      obtain ⟨rfl, rfl⟩ := e2
      refine ⟨rfl, RE_R ?_⟩
      unfold spSteps
      rw [cif_f k_4]
    · skip
      have k_4 := k_yes h_c4 hc_7
      refine xt_iln2 rfl ?_
      refine xt_ic ?_
      refine xt_bi ?_
      refine xt_v3 (key := 255) (q := q_X7_in) rfl rfl rfl rfl rfl ⟨Nat.le_of_ble_eq_true rfl, Nat.le_of_ble_eq_true rfl⟩ ⟨_, _, _, rfl⟩ (fun rv_ S1 M_14 hq_14 => ?_)
      obtain ⟨eS_, eM_, h_c14⟩ := hq_14 _ _ _ rfl
      replace eS_ := eS_.symm
      replace eM_ := eM_.symm
      subst eS_ eM_
      have hex_c14 : ∃ v, rv_ = some (.inl v) := by rcases h_c14 with ⟨-, e⟩ | ⟨-, e⟩ <;> exact ⟨_, e⟩
      obtain ⟨v_c14, rfl⟩ := hex_c14
      simp only [Option.some.injEq, Sum.inl.injEq] at h_c14
      replace h_c14 := in_Th (N := 12) (by decide) h_c14
      try dsimp only [Option.toList, List.cons_append, List.nil_append]
      refine xt_eq (t := 34) rfl (fun hc_17 => ?_) (fun hc_17 => ?_)
      · skip
        have k_14 := k_no h_c14 hc_17
        refine xt_blk rfl rfl (by dsimp only [List.take]) ?_
        refine xt_aln0 rfl (by first | decide | omega | assumption) ?_
        refine xt_icm rfl ?_
        refine xt_v2 (key := 280) (q := q_X7_refuse) rfl rfl rfl rfl rfl ⟨Nat.le_of_ble_eq_true rfl, Nat.le_of_ble_eq_true rfl⟩ ⟨1, by decide, by decide, rfl, rfl⟩ (fun rv_ S1 M_36 hq_36 => ?_)
        obtain ⟨eS_, eM_, rfl⟩ := hq_36 1 (by decide) (by decide) rfl
        replace eS_ := eS_.symm
        replace eM_ := eM_.symm
        subst eS_ eM_
        try dsimp only [Option.toList, List.cons_append, List.nil_append]
        refine xt_nil (t := 39) rfl ?_
        refine xt_blk rfl rfl (by dsimp only [List.take]) ?_
        refine xt_ri rfl (Nat.le_refl _) ?_
        intro x2 y2 e2
        simp only [List.cons.injEq, Sum.inl.injEq, and_true, true_and] at e2
        obtain ⟨rfl, rfl⟩ := e2
        refine ⟨rfl, RE_R ?_⟩
        unfold spSteps
        rw [cif_t k_4, cif_f k_14]
      · skip
        have k_14 := k_yes h_c14 hc_17
        obtain ⟨xn, hxn, exn⟩ := id k_4
        subst exn
        have vx : nv (nI xn) = xn := nv_nI (by omega)
        obtain ⟨yn, hyn, eyn⟩ := id k_14
        subst eyn
        have vy : nv (nI yn) = yn := nv_nI (by omega)
        refine xt_aln0 rfl (by first | decide | omega | assumption) ?_
        refine xt_gfr (q := (5, 3)) rfl (by first | rfl | assumption) rfl ?_
        refine xt_bi ?_
        refine xt_iln1 rfl ?_
        refine xt_mul ?_
        refine xt_iln2 rfl ?_
        refine xt_add ?_
        refine xt_ial (by first | rfl | assumption) (show vp_in _ 169 from by rw [pk_mul, nI_add]; exact vp_in_nI (by omega) (by decide)) ?_
        refine xt_goto (t := 39) rfl ?_
        refine xt_blk rfl rfl (by dsimp only [List.take]) ?_
        refine xt_ri rfl (Nat.le_refl _) ?_
        intro x2 y2 e2
        simp only [List.cons.injEq, Sum.inl.injEq, and_true, true_and] at e2
        obtain ⟨rfl, rfl⟩ := e2
        refine ⟨rfl, RE_M ?_⟩
        unfold spSteps
        rw [cif_t k_4, cif_t k_14, vx, vy, pk_mul, nI_add, nI_clamp (by omega), hTb.2.2.2.1 xn yn hxn hyn]
  · intro μ pc ls st S2 M2 cs sl h; exact h.elim
def q_X7_tell : x_K := (5, fun as S M => ∃ (a : Int32) (b : Int32) (o : Int32) (u : Int32) (c : Nat), RI c M ∧ S = SH ∧ as = [.inr (.inl 53), .inl a, .inl b, .inl o, .inl u], fun as S M rv_ S' M' => ∀ (a : Int32) (b : Int32) (o : Int32) (u : Int32), as = [.inr (.inl 53), .inl a, .inl b, .inl o, .inl u] → S' = S ∧ REnd M M' rv_ (spTell (cM M) a b o u), 0, 0)
theorem r_X7_tell : ∀ as S M, q_X7_tell.2.1 as S M → ∃ (k : Nat) (as' : List x_V) (fs : List (Option Nat)), as = .inr (.inl k) :: as' ∧ S[k]? = some (.inl (5, fs)) := by
  rintro as S M ⟨a, b, o, u, c, -, rfl, rfl⟩
  exact ⟨53, _, _, rfl, rfl⟩
def b_X7_tell : x_B := [(0, 5, [(.iload_n 1, 1), (.iload_n 2, 1), (.invokestatic 108, 3), (.ifCond .ne 9, 3), (.aload_n 0, 1), (.iconst (-1), 1), (.invokevirtual 93, 3), (.ireturn, 1)]),
  (14, 5, [(.iload_n 3, 1), (.iconst 0, 1), (.sipush 8191, 3), (.invokestatic 85, 3), (.ifCond .eq 15, 3), (.iload 4, 2), (.iconst 0, 1), (.sipush 8191, 3), (.invokestatic 85, 3), (.ifCond .ne 10, 3)]),
  (37, 5, [(.aload_n 0, 1), (.bipush (-2), 2), (.invokevirtual 93, 3), (.ireturn, 1)]),
  (44, 5, [(.aload_n 0, 1), (.iload_n 1, 1), (.iload_n 2, 1), (.iload_n 3, 1), (.iload 4, 2), (.invokevirtual 112, 3), (.ireturn, 1)])]
theorem b_X7_tell_ok : x_okB cX7_tell 5 b_X7_tell = true := by decide +kernel
def X_X7_tell : x_X := ([], [], [], [], [(324, q_X7_areTwo), (280, q_X7_refuse), (255, q_X7_in), (337, q_X7_add)], (0, 0), x_kn, x_kf, 5, false)
theorem X_X7_tell_ok : x_okT RX7 X_X7_tell = true := by decide +kernel
theorem k_X7_tell (l : Launch) : ∀ z ∈ X_X7_tell.2.2.2.2.1, x_Cal l (x_rm 4 0 0) cX7_tell RX7 5 z.1 z.2 := List.forall_mem_cons.mpr ⟨x_cal_S (idx := 108) (c_X7_areTwo l) ⟨by decide, by decide⟩ (by decide +kernel) (by decide +kernel) (by decide +kernel) (by decide +kernel) (by decide +kernel), List.forall_mem_cons.mpr ⟨x_cal_V (idx := 93) (ci := 5) (n := 1) (c_X7_refuse l) ⟨by decide, by decide⟩ (by decide +kernel) (by decide +kernel) (by decide +kernel) (by decide +kernel) (by decide +kernel) rfl rfl rfl (by decide +kernel) r_X7_refuse, List.forall_mem_cons.mpr ⟨x_cal_S (idx := 85) (c_X7_in l) ⟨by decide, by decide⟩ (by decide +kernel) (by decide +kernel) (by decide +kernel) (by decide +kernel) (by decide +kernel), List.forall_mem_cons.mpr ⟨x_cal_V (idx := 112) (ci := 5) (n := 4) (c_X7_add l) ⟨by decide, by decide⟩ (by decide +kernel) (by decide +kernel) (by decide +kernel) (by decide +kernel) (by decide +kernel) rfl rfl rfl (by decide +kernel) r_X7_add, fun _ h => absurd h List.not_mem_nil⟩⟩⟩⟩
set_option maxHeartbeats 4000000 in
set_option maxRecDepth 100000 in
theorem c_X7_tell (l : Launch) : x_CT l yX7_tell cX7_tell 5 (some .int) 4 q_X7_tell := by
  refine x_meth (X := X_X7_tell) (bl := b_X7_tell) (cut := []) (own := RX7) 30 (by decide) rfl X_X7_tell_ok b_X7_tell_ok rfl (Nat.le_of_ble_eq_true rfl) (k_X7_tell l) ?_
  rintro as S M - ⟨a, b, o, u, c, hRI, rfl, rfl⟩
  have hok := hRI.2.1
  have hV := hRI.2
  have hTb := hRI.1
  refine ⟨fun _ _ _ _ _ _ _ _ => False, ?_, ?_⟩
  · skip
    refine xt_blk rfl rfl (by dsimp only [List.take]) ?_
    refine xt_iln1 rfl ?_
    refine xt_iln2 rfl ?_
    refine xt_v2 (key := 324) (q := q_X7_areTwo) rfl rfl rfl rfl rfl ⟨Nat.le_of_ble_eq_true rfl, Nat.le_of_ble_eq_true rfl⟩ ⟨_, _, rfl⟩ (fun rv_ S1 M_2 hq_2 => ?_)
    obtain ⟨eS_, eM_, h_c2⟩ := hq_2 _ _ rfl
    replace eS_ := eS_.symm
    replace eM_ := eM_.symm
    subst eS_ eM_
    have hex_c2 : ∃ v, rv_ = some (.inl v) := by rcases h_c2 with ⟨-, e⟩ | ⟨-, e⟩ <;> exact ⟨_, e⟩
    obtain ⟨v_c2, rfl⟩ := hex_c2
    simp only [Option.some.injEq, Sum.inl.injEq] at h_c2
    try dsimp only [Option.toList, List.cons_append, List.nil_append]
    refine xt_ne (t := 14) rfl (fun hc_5 => ?_) (fun hc_5 => ?_)
    · skip
      have k_2 := k_yes h_c2 hc_5
      refine xt_blk rfl rfl (by dsimp only [List.take]) ?_
      refine xt_iln3 rfl ?_
      refine xt_ic ?_
      refine xt_si ?_
      refine xt_v3 (key := 255) (q := q_X7_in) rfl rfl rfl rfl rfl ⟨Nat.le_of_ble_eq_true rfl, Nat.le_of_ble_eq_true rfl⟩ ⟨_, _, _, rfl⟩ (fun rv_ S1 M_19 hq_19 => ?_)
      obtain ⟨eS_, eM_, h_c19⟩ := hq_19 _ _ _ rfl
      replace eS_ := eS_.symm
      replace eM_ := eM_.symm
      subst eS_ eM_
      have hex_c19 : ∃ v, rv_ = some (.inl v) := by rcases h_c19 with ⟨-, e⟩ | ⟨-, e⟩ <;> exact ⟨_, e⟩
      obtain ⟨v_c19, rfl⟩ := hex_c19
      simp only [Option.some.injEq, Sum.inl.injEq] at h_c19
      replace h_c19 := in_Th (N := 8191) (by decide) h_c19
      try dsimp only [Option.toList, List.cons_append, List.nil_append]
      refine xt_eq (t := 37) rfl (fun hc_22 => ?_) (fun hc_22 => ?_)
      · skip
        have k_19 := k_no h_c19 hc_22
        refine xt_blk rfl rfl (by dsimp only [List.take]) ?_
        refine xt_aln0 rfl (by first | decide | omega | assumption) ?_
        refine xt_bim rfl ?_
        refine xt_v2 (key := 280) (q := q_X7_refuse) rfl rfl rfl rfl rfl ⟨Nat.le_of_ble_eq_true rfl, Nat.le_of_ble_eq_true rfl⟩ ⟨2, by decide, by decide, rfl, rfl⟩ (fun rv_ S1 M_40 hq_40 => ?_)
        obtain ⟨eS_, eM_, rfl⟩ := hq_40 2 (by decide) (by decide) rfl
        replace eS_ := eS_.symm
        replace eM_ := eM_.symm
        subst eS_ eM_
        try dsimp only [Option.toList, List.cons_append, List.nil_append]
        refine xt_ri rfl (Nat.le_refl _) ?_
        intro a2 b2 o2 u2 e2
        simp only [List.cons.injEq, Sum.inl.injEq, and_true, true_and] at e2
        obtain ⟨rfl, rfl, rfl, rfl⟩ := e2
        refine ⟨rfl, RE_R ?_⟩
        unfold spTell
        rw [cif_t k_2, cif_f k_19]
      · skip
        have k_19 := k_yes h_c19 hc_22
        refine xt_ild rfl ?_
        refine xt_ic ?_
        refine xt_si ?_
        refine xt_v3 (key := 255) (q := q_X7_in) rfl rfl rfl rfl rfl ⟨Nat.le_of_ble_eq_true rfl, Nat.le_of_ble_eq_true rfl⟩ ⟨_, _, _, rfl⟩ (fun rv_ S1 M_31 hq_31 => ?_)
        obtain ⟨eS_, eM_, h_c31⟩ := hq_31 _ _ _ rfl
        replace eS_ := eS_.symm
        replace eM_ := eM_.symm
        subst eS_ eM_
        have hex_c31 : ∃ v, rv_ = some (.inl v) := by rcases h_c31 with ⟨-, e⟩ | ⟨-, e⟩ <;> exact ⟨_, e⟩
        obtain ⟨v_c31, rfl⟩ := hex_c31
        simp only [Option.some.injEq, Sum.inl.injEq] at h_c31
        replace h_c31 := in_Th (N := 8191) (by decide) h_c31
        try dsimp only [Option.toList, List.cons_append, List.nil_append]
        refine xt_ne (t := 44) rfl (fun hc_34 => ?_) (fun hc_34 => ?_)
        · skip
          have k_31 := k_yes h_c31 hc_34
          refine xt_blk rfl rfl (by dsimp only [List.take]) ?_
          refine xt_aln0 rfl (by first | decide | omega | assumption) ?_
          refine xt_iln1 rfl ?_
          refine xt_iln2 rfl ?_
          refine xt_iln3 rfl ?_
          refine xt_ild rfl ?_
          refine xt_v5 (key := 337) (q := q_X7_add) rfl rfl rfl rfl rfl ⟨Nat.le_of_ble_eq_true rfl, Nat.le_of_ble_eq_true rfl⟩ ⟨_, _, _, _, c, hRI, rfl, rfl⟩ (fun rv_ S1 M_50 hq_50 => ?_)
          obtain ⟨eS_, hE⟩ := hq_50 _ _ _ _ rfl
          replace eS_ := eS_.symm
          subst eS_
          obtain ⟨v, rfl⟩ : ∃ v, rv_ = some (.inl v) := ⟨_, hE.2.2.1⟩
          try dsimp only [Option.toList, List.cons_append, List.nil_append]
          refine xt_ri rfl (Nat.le_refl _) ?_
          intro a2 b2 o2 u2 e2
          simp only [List.cons.injEq, Sum.inl.injEq, and_true, true_and] at e2
          obtain ⟨rfl, rfl, rfl, rfl⟩ := e2
          refine ⟨rfl, ?_⟩
          unfold spTell
          rw [cif_t k_2, cif_t k_19, cif_t k_31]
          exact hE
        · skip
          have k_31 := k_no h_c31 hc_34
          refine xt_nil (t := 37) rfl ?_
          refine xt_blk rfl rfl (by dsimp only [List.take]) ?_
          refine xt_aln0 rfl (by first | decide | omega | assumption) ?_
          refine xt_bim rfl ?_
          refine xt_v2 (key := 280) (q := q_X7_refuse) rfl rfl rfl rfl rfl ⟨Nat.le_of_ble_eq_true rfl, Nat.le_of_ble_eq_true rfl⟩ ⟨2, by decide, by decide, rfl, rfl⟩ (fun rv_ S1 M_40 hq_40 => ?_)
          obtain ⟨eS_, eM_, rfl⟩ := hq_40 2 (by decide) (by decide) rfl
          replace eS_ := eS_.symm
          replace eM_ := eM_.symm
          subst eS_ eM_
          try dsimp only [Option.toList, List.cons_append, List.nil_append]
          refine xt_ri rfl (Nat.le_refl _) ?_
          intro a2 b2 o2 u2 e2
          simp only [List.cons.injEq, Sum.inl.injEq, and_true, true_and] at e2
          obtain ⟨rfl, rfl, rfl, rfl⟩ := e2
          refine ⟨rfl, RE_R ?_⟩
          unfold spTell
          rw [cif_t k_2, cif_t k_19, cif_f k_31]
    · skip
      have k_2 := k_no h_c2 hc_5
      refine xt_aln0 rfl (by first | decide | omega | assumption) ?_
      refine xt_icm rfl ?_
      refine xt_v2 (key := 280) (q := q_X7_refuse) rfl rfl rfl rfl rfl ⟨Nat.le_of_ble_eq_true rfl, Nat.le_of_ble_eq_true rfl⟩ ⟨1, by decide, by decide, rfl, rfl⟩ (fun rv_ S1 M_10 hq_10 => ?_)
      obtain ⟨eS_, eM_, rfl⟩ := hq_10 1 (by decide) (by decide) rfl
      replace eS_ := eS_.symm
      replace eM_ := eM_.symm
      subst eS_ eM_
      try dsimp only [Option.toList, List.cons_append, List.nil_append]
      refine xt_ri rfl (Nat.le_refl _) ?_
      intro a2 b2 o2 u2 e2
      simp only [List.cons.injEq, Sum.inl.injEq, and_true, true_and] at e2
      obtain ⟨rfl, rfl, rfl, rfl⟩ := e2
      refine ⟨rfl, RE_R ?_⟩
      unfold spTell
      rw [cif_f k_2]
  · intro μ pc ls st S2 M2 cs sl h; exact h.elim
def q_X7_silent : x_K := (3, fun as S M => ∃ (x : Int32) (y : Int32) (c : Nat), RI c M ∧ S = SH ∧ as = [.inr (.inl 53), .inl x, .inl y], fun as S M rv_ S' M' => ∀ (x : Int32) (y : Int32), as = [.inr (.inl 53), .inl x, .inl y] → S' = S ∧ REnd M M' rv_ (spSilent (cM M) x y), 0, 0)
theorem r_X7_silent : ∀ as S M, q_X7_silent.2.1 as S M → ∃ (k : Nat) (as' : List x_V) (fs : List (Option Nat)), as = .inr (.inl k) :: as' ∧ S[k]? = some (.inl (5, fs)) := by
  rintro as S M ⟨x, y, c, -, rfl, rfl⟩
  exact ⟨53, _, _, rfl, rfl⟩
def b_X7_silent : x_B := [(0, 3, [(.aload_n 0, 1), (.iload_n 1, 1), (.invokevirtual 115, 3), (.ifCond .ne 9, 3), (.aload_n 0, 1), (.iconst (-1), 1), (.invokevirtual 93, 3), (.ireturn, 1)]),
  (14, 3, [(.aload_n 0, 1), (.getfield 31, 3), (.iload_n 1, 1), (.baload, 1), (.istore_n 3, 1), (.aload_n 0, 1), (.getfield 31, 3), (.iload_n 1, 1), (.iload_n 2, 1), (.ifCond .ne 7, 3), (.iconst 1, 1), (.goto 4, 3)]),
  (34, 4, [(.iconst 0, 1)]),
  (35, 4, [(.bastore, 1), (.iload_n 3, 1), (.aload_n 0, 1), (.getfield 31, 3), (.iload_n 1, 1), (.baload, 1), (.if_icmp .ne 7, 3), (.iconst 0, 1), (.goto 4, 3)]),
  (50, 4, [(.iconst 1, 1)]),
  (51, 4, [(.ireturn, 1)])]
theorem b_X7_silent_ok : x_okB cX7_silent 4 b_X7_silent = true := by decide +kernel
def X_X7_silent : x_X := ([(31, 5, 8)], [], [], [], [(346, q_X7_isStatement), (280, q_X7_refuse)], (0, 0), x_kn, x_kf, 5, false)
theorem X_X7_silent_ok : x_okT RX7 X_X7_silent = true := by decide +kernel
theorem k_X7_silent (l : Launch) : ∀ z ∈ X_X7_silent.2.2.2.2.1, x_Cal l (x_rm 3 0 0) cX7_silent RX7 4 z.1 z.2 := List.forall_mem_cons.mpr ⟨x_cal_V (idx := 115) (ci := 5) (n := 1) (c_X7_isStatement l) ⟨by decide, by decide⟩ (by decide +kernel) (by decide +kernel) (by decide +kernel) (by decide +kernel) (by decide +kernel) rfl rfl rfl (by decide +kernel) r_X7_isStatement, List.forall_mem_cons.mpr ⟨x_cal_V (idx := 93) (ci := 5) (n := 1) (c_X7_refuse l) ⟨by decide, by decide⟩ (by decide +kernel) (by decide +kernel) (by decide +kernel) (by decide +kernel) (by decide +kernel) rfl rfl rfl (by decide +kernel) r_X7_refuse, fun _ h => absurd h List.not_mem_nil⟩⟩
set_option maxHeartbeats 4000000 in
set_option maxRecDepth 100000 in
theorem c_X7_silent (l : Launch) : x_CT l yX7_silent cX7_silent 4 (some .int) 3 q_X7_silent := by
  refine x_meth (X := X_X7_silent) (bl := b_X7_silent) (cut := []) (own := RX7) 30 (by decide) rfl X_X7_silent_ok b_X7_silent_ok rfl (Nat.le_of_ble_eq_true rfl) (k_X7_silent l) ?_
  rintro as S M - ⟨x, y, c, hRI, rfl, rfl⟩
  have hok := hRI.2.1
  have hV := hRI.2
  have hTb := hRI.1
  refine ⟨fun _ _ _ _ _ _ _ _ => False, ?_, ?_⟩
  · skip
    refine xt_blk rfl rfl (by dsimp only [List.take]) ?_
    refine xt_aln0 rfl (by first | decide | omega | assumption) ?_
    refine xt_iln1 rfl ?_
    refine xt_v2 (key := 346) (q := q_X7_isStatement) rfl rfl rfl rfl rfl ⟨Nat.le_of_ble_eq_true rfl, Nat.le_of_ble_eq_true rfl⟩ ⟨_, hok, rfl, rfl⟩ (fun rv_ S1 M_2 hq_2 => ?_)
    obtain ⟨eS_, eM_, h_c2⟩ := hq_2 _ rfl
    replace eS_ := eS_.symm
    replace eM_ := eM_.symm
    subst eS_ eM_
    have hex_c2 : ∃ v, rv_ = some (.inl v) := by rcases h_c2 with ⟨-, e⟩ | ⟨-, e⟩ <;> exact ⟨_, e⟩
    obtain ⟨v_c2, rfl⟩ := hex_c2
    simp only [Option.some.injEq, Sum.inl.injEq] at h_c2
    try dsimp only [Option.toList, List.cons_append, List.nil_append]
    refine xt_ne (t := 14) rfl (fun hc_5 => ?_) (fun hc_5 => ?_)
    · skip
      have k_2 := k_yes h_c2 hc_5
      have hn30 := hok.1
      obtain ⟨xn, hxn, exn⟩ := id k_2
      subst exn
      have vx : nv (nI xn) = xn := nv_nI (by omega)
      refine xt_blk rfl rfl (by dsimp only [List.take]) ?_
      refine xt_aln0 rfl (by first | decide | omega | assumption) ?_
      refine xt_gfr (q := (5, 8)) rfl (by first | rfl | assumption) rfl ?_
      refine xt_iln1 rfl ?_
      refine xt_bal (by first | rfl | assumption) (show vp_in _ 30 from vp_in_nI (by omega) (by decide)) ?_
      refine xt_isn3 rfl (by dsimp only [x_sto]) ?_
      refine xt_aln0 rfl (by first | decide | omega | assumption) ?_
      refine xt_gfr (q := (5, 8)) rfl (by first | rfl | assumption) rfl ?_
      refine xt_iln1 rfl ?_
      refine xt_iln2 rfl ?_
      refine xt_ne (t := 34) rfl (fun hc_27 => ?_) (fun hc_27 => ?_)
      · skip
        refine xt_blk rfl rfl (by dsimp only [List.take]) ?_
        refine xt_ic ?_
        refine xt_nil (t := 35) rfl ?_
        refine xt_blk rfl rfl (by dsimp only [List.take]) ?_
        refine xt_bas (by first | rfl | assumption) (show vp_in _ 30 from vp_in_nI (by omega) (by decide)) (by first | exact Or.inl rfl | exact Or.inr rfl) ?_
        refine xt_iln3 rfl ?_
        refine xt_aln0 rfl (by first | decide | omega | assumption) ?_
        refine xt_gfr (q := (5, 8)) rfl (by first | rfl | assumption) rfl ?_
        refine xt_iln1 rfl ?_
        refine xt_bal (by first | rfl | assumption) (show vp_in _ 30 from vp_in_nI (by omega) (by decide)) ?_
        refine xt_cne (t := 50) rfl (fun hc_43 => ?_) (fun hc_43 => ?_)
        · skip
          refine xt_blk rfl rfl (by dsimp only [List.take]) ?_
          refine xt_ic ?_
          refine xt_nil (t := 51) rfl ?_
          refine xt_blk rfl rfl (by dsimp only [List.take]) ?_
          refine xt_ri rfl (Nat.le_refl _) ?_
          intro x2 y2 e2
          simp only [List.cons.injEq, Sum.inl.injEq, and_true, true_and] at e2
          obtain ⟨rfl, rfl⟩ := e2
          have ht : tl y = nI 0 := if_neg hc_27
          rw [nI_clamp (by omega)] at hc_43 ⊢
          rw [x_row_self] at hc_43
          unfold upd at hc_43
          rw [if_pos rfl] at hc_43
          refine ⟨rfl, RE_row (by decide) (by decide) (cM_row61 M _) ?_⟩
          unfold spSilent vSil
          rw [cif_t k_2, vx, ht, cM_7, cif_f hc_43]
        · skip
          refine xt_ic ?_
          refine xt_goto (t := 51) rfl ?_
          refine xt_blk rfl rfl (by dsimp only [List.take]) ?_
          refine xt_ri rfl (Nat.le_refl _) ?_
          intro x2 y2 e2
          simp only [List.cons.injEq, Sum.inl.injEq, and_true, true_and] at e2
          obtain ⟨rfl, rfl⟩ := e2
          have ht : tl y = nI 0 := if_neg hc_27
          rw [nI_clamp (by omega)] at hc_43 ⊢
          rw [x_row_self] at hc_43
          unfold upd at hc_43
          rw [if_pos rfl] at hc_43
          refine ⟨rfl, RE_row (by decide) (by decide) (cM_row61 M _) ?_⟩
          unfold spSilent vSil
          rw [cif_t k_2, vx, ht, cM_7, cif_t hc_43]
      · skip
        refine xt_ic ?_
        refine xt_goto (t := 35) rfl ?_
        refine xt_blk rfl rfl (by dsimp only [List.take]) ?_
        refine xt_bas (by first | rfl | assumption) (show vp_in _ 30 from vp_in_nI (by omega) (by decide)) (by first | exact Or.inl rfl | exact Or.inr rfl) ?_
        refine xt_iln3 rfl ?_
        refine xt_aln0 rfl (by first | decide | omega | assumption) ?_
        refine xt_gfr (q := (5, 8)) rfl (by first | rfl | assumption) rfl ?_
        refine xt_iln1 rfl ?_
        refine xt_bal (by first | rfl | assumption) (show vp_in _ 30 from vp_in_nI (by omega) (by decide)) ?_
        refine xt_cne (t := 50) rfl (fun hc_43 => ?_) (fun hc_43 => ?_)
        · skip
          refine xt_blk rfl rfl (by dsimp only [List.take]) ?_
          refine xt_ic ?_
          refine xt_nil (t := 51) rfl ?_
          refine xt_blk rfl rfl (by dsimp only [List.take]) ?_
          refine xt_ri rfl (Nat.le_refl _) ?_
          intro x2 y2 e2
          simp only [List.cons.injEq, Sum.inl.injEq, and_true, true_and] at e2
          obtain ⟨rfl, rfl⟩ := e2
          have ht : tl y = nI 1 := if_pos hc_27
          rw [nI_clamp (by omega)] at hc_43 ⊢
          rw [x_row_self] at hc_43
          unfold upd at hc_43
          rw [if_pos rfl] at hc_43
          refine ⟨rfl, RE_row (by decide) (by decide) (cM_row61 M _) ?_⟩
          unfold spSilent vSil
          rw [cif_t k_2, vx, ht, cM_7, cif_f hc_43]
        · skip
          refine xt_ic ?_
          refine xt_goto (t := 51) rfl ?_
          refine xt_blk rfl rfl (by dsimp only [List.take]) ?_
          refine xt_ri rfl (Nat.le_refl _) ?_
          intro x2 y2 e2
          simp only [List.cons.injEq, Sum.inl.injEq, and_true, true_and] at e2
          obtain ⟨rfl, rfl⟩ := e2
          have ht : tl y = nI 1 := if_pos hc_27
          rw [nI_clamp (by omega)] at hc_43 ⊢
          rw [x_row_self] at hc_43
          unfold upd at hc_43
          rw [if_pos rfl] at hc_43
          refine ⟨rfl, RE_row (by decide) (by decide) (cM_row61 M _) ?_⟩
          unfold spSilent vSil
          rw [cif_t k_2, vx, ht, cM_7, cif_t hc_43]
    · skip
      have k_2 := k_no h_c2 hc_5
      refine xt_aln0 rfl (by first | decide | omega | assumption) ?_
      refine xt_icm rfl ?_
      refine xt_v2 (key := 280) (q := q_X7_refuse) rfl rfl rfl rfl rfl ⟨Nat.le_of_ble_eq_true rfl, Nat.le_of_ble_eq_true rfl⟩ ⟨1, by decide, by decide, rfl, rfl⟩ (fun rv_ S1 M_10 hq_10 => ?_)
      obtain ⟨eS_, eM_, rfl⟩ := hq_10 1 (by decide) (by decide) rfl
      replace eS_ := eS_.symm
      replace eM_ := eM_.symm
      subst eS_ eM_
      try dsimp only [Option.toList, List.cons_append, List.nil_append]
      refine xt_ri rfl (Nat.le_refl _) ?_
      intro x2 y2 e2
      simp only [List.cons.injEq, Sum.inl.injEq, and_true, true_and] at e2
      obtain ⟨rfl, rfl⟩ := e2
      refine ⟨rfl, RE_R ?_⟩
      unfold spSilent
      exact cif_f k_2
  · intro μ pc ls st S2 M2 cs sl h; exact h.elim
def q_X7_statement : x_K := (3, fun as S M => ∃ (x : Int32) (y : Int32) (c : Nat), RI c M ∧ S = SH ∧ as = [.inr (.inl 53), .inl x, .inl y], fun as S M rv_ S' M' => ∀ (x : Int32) (y : Int32), as = [.inr (.inl 53), .inl x, .inl y] → S' = S ∧ REnd M M' rv_ (spStatement (cM M) x y), 0, 0)
theorem r_X7_statement : ∀ as S M, q_X7_statement.2.1 as S M → ∃ (k : Nat) (as' : List x_V) (fs : List (Option Nat)), as = .inr (.inl k) :: as' ∧ S[k]? = some (.inl (5, fs)) := by
  rintro as S M ⟨x, y, c, -, rfl, rfl⟩
  exact ⟨53, _, _, rfl, rfl⟩
def b_X7_statement : x_B := [(0, 3, [(.aload_n 0, 1), (.iload_n 1, 1), (.invokevirtual 115, 3), (.ifCond .ne 9, 3), (.aload_n 0, 1), (.iconst (-1), 1), (.invokevirtual 93, 3), (.ireturn, 1)]),
  (14, 3, [(.iload_n 2, 1), (.iconst 0, 1), (.iconst 4, 1), (.invokestatic 85, 3), (.ifCond .ne 10, 3), (.aload_n 0, 1), (.bipush (-2), 2), (.invokevirtual 93, 3), (.ireturn, 1)]),
  (30, 3, [(.iload_n 2, 1), (.ifCond .ne 12, 3), (.aload_n 0, 1), (.getfield 22, 3), (.iload_n 1, 1), (.iaload, 1), (.goto 51, 3)]),
  (43, 3, [(.iload_n 2, 1), (.iconst 1, 1), (.if_icmp .ne 12, 3), (.aload_n 0, 1), (.getfield 25, 3), (.iload_n 1, 1), (.iaload, 1), (.goto 37, 3)]),
  (57, 3, [(.iload_n 2, 1), (.iconst 4, 1), (.if_icmp .ne 20, 3), (.aload_n 0, 1), (.getfield 31, 3), (.iload_n 1, 1), (.baload, 1), (.ifCond .eq 7, 3), (.iconst 1, 1), (.goto 19, 3)]),
  (75, 3, [(.iconst 0, 1), (.goto 15, 3)]),
  (79, 3, [(.aload_n 0, 1), (.getfield 28, 3), (.iconst 2, 1), (.iload_n 1, 1), (.imul, 1), (.iload_n 2, 1), (.iadd, 1), (.iconst 2, 1), (.isub, 1), (.iaload, 1)]),
  (91, 3, [(.ireturn, 1)])]
theorem b_X7_statement_ok : x_okB cX7_statement 3 b_X7_statement = true := by decide +kernel
def X_X7_statement : x_X := ([(22, 5, 5), (25, 5, 6), (31, 5, 8), (28, 5, 7)], [], [], [], [(346, q_X7_isStatement), (280, q_X7_refuse), (255, q_X7_in)], (0, 0), x_kn, x_kf, 5, false)
theorem X_X7_statement_ok : x_okT RX7 X_X7_statement = true := by decide +kernel
theorem k_X7_statement (l : Launch) : ∀ z ∈ X_X7_statement.2.2.2.2.1, x_Cal l (x_rm 3 0 0) cX7_statement RX7 3 z.1 z.2 := List.forall_mem_cons.mpr ⟨x_cal_V (idx := 115) (ci := 5) (n := 1) (c_X7_isStatement l) ⟨by decide, by decide⟩ (by decide +kernel) (by decide +kernel) (by decide +kernel) (by decide +kernel) (by decide +kernel) rfl rfl rfl (by decide +kernel) r_X7_isStatement, List.forall_mem_cons.mpr ⟨x_cal_V (idx := 93) (ci := 5) (n := 1) (c_X7_refuse l) ⟨by decide, by decide⟩ (by decide +kernel) (by decide +kernel) (by decide +kernel) (by decide +kernel) (by decide +kernel) rfl rfl rfl (by decide +kernel) r_X7_refuse, List.forall_mem_cons.mpr ⟨x_cal_S (idx := 85) (c_X7_in l) ⟨by decide, by decide⟩ (by decide +kernel) (by decide +kernel) (by decide +kernel) (by decide +kernel) (by decide +kernel), fun _ h => absurd h List.not_mem_nil⟩⟩⟩
set_option maxHeartbeats 4000000 in
set_option maxRecDepth 100000 in
theorem c_X7_statement (l : Launch) : x_CT l yX7_statement cX7_statement 3 (some .int) 3 q_X7_statement := by
  refine x_meth (X := X_X7_statement) (bl := b_X7_statement) (cut := []) (own := RX7) 30 (by decide) rfl X_X7_statement_ok b_X7_statement_ok rfl (Nat.le_of_ble_eq_true rfl) (k_X7_statement l) ?_
  rintro as S M - ⟨x, y, c, hRI, rfl, rfl⟩
  have hok := hRI.2.1
  have hV := hRI.2
  have hTb := hRI.1
  refine ⟨fun _ _ _ _ _ _ _ _ => False, ?_, ?_⟩
  · skip
    refine xt_blk rfl rfl (by dsimp only [List.take]) ?_
    refine xt_aln0 rfl (by first | decide | omega | assumption) ?_
    refine xt_iln1 rfl ?_
    refine xt_v2 (key := 346) (q := q_X7_isStatement) rfl rfl rfl rfl rfl ⟨Nat.le_of_ble_eq_true rfl, Nat.le_of_ble_eq_true rfl⟩ ⟨_, hok, rfl, rfl⟩ (fun rv_ S1 M_2 hq_2 => ?_)
    obtain ⟨eS_, eM_, h_c2⟩ := hq_2 _ rfl
    replace eS_ := eS_.symm
    replace eM_ := eM_.symm
    subst eS_ eM_
    have hex_c2 : ∃ v, rv_ = some (.inl v) := by rcases h_c2 with ⟨-, e⟩ | ⟨-, e⟩ <;> exact ⟨_, e⟩
    obtain ⟨v_c2, rfl⟩ := hex_c2
    simp only [Option.some.injEq, Sum.inl.injEq] at h_c2
    try dsimp only [Option.toList, List.cons_append, List.nil_append]
    refine xt_ne (t := 14) rfl (fun hc_5 => ?_) (fun hc_5 => ?_)
    · skip
      have k_2 := k_yes h_c2 hc_5
      refine xt_blk rfl rfl (by dsimp only [List.take]) ?_
      refine xt_iln2 rfl ?_
      refine xt_ic ?_
      refine xt_ic ?_
      refine xt_v3 (key := 255) (q := q_X7_in) rfl rfl rfl rfl rfl ⟨Nat.le_of_ble_eq_true rfl, Nat.le_of_ble_eq_true rfl⟩ ⟨_, _, _, rfl⟩ (fun rv_ S1 M_17 hq_17 => ?_)
      obtain ⟨eS_, eM_, h_c17⟩ := hq_17 _ _ _ rfl
      replace eS_ := eS_.symm
      replace eM_ := eM_.symm
      subst eS_ eM_
      have hex_c17 : ∃ v, rv_ = some (.inl v) := by rcases h_c17 with ⟨-, e⟩ | ⟨-, e⟩ <;> exact ⟨_, e⟩
      obtain ⟨v_c17, rfl⟩ := hex_c17
      simp only [Option.some.injEq, Sum.inl.injEq] at h_c17
      replace h_c17 := in_Th (N := 4) (by decide) h_c17
      try dsimp only [Option.toList, List.cons_append, List.nil_append]
      refine xt_ne (t := 30) rfl (fun hc_20 => ?_) (fun hc_20 => ?_)
      · skip
        have k_17 := k_yes h_c17 hc_20
        have hn30 := hok.1
        obtain ⟨xn, hxn, exn⟩ := id k_2
        subst exn
        have vx : nv (nI xn) = xn := nv_nI (by omega)
        refine xt_blk rfl rfl (by dsimp only [List.take]) ?_
        refine xt_iln2 rfl ?_
        refine xt_ne (t := 43) rfl (fun hc_31 => ?_) (fun hc_31 => ?_)
        · skip
          refine xt_blk rfl rfl (by dsimp only [List.take]) ?_
          refine xt_iln2 rfl ?_
          refine xt_ic ?_
          refine xt_cne (t := 57) rfl (fun hc_45 => ?_) (fun hc_45 => ?_)
          · skip
            refine xt_blk rfl rfl (by dsimp only [List.take]) ?_
            refine xt_iln2 rfl ?_
            refine xt_ic ?_
            refine xt_cne (t := 79) rfl (fun hc_59 => ?_) (fun hc_59 => ?_)
            · skip
              have hy23 : y = nI 2 ∨ y = nI 3 := by
                obtain ⟨n, hn, e⟩ := k_17
                subst e
                rw [n_eq0 (by omega)] at hc_31
                rw [nI_eq (by omega) (by omega)] at hc_45 hc_59
                rcases (show n = 2 ∨ n = 3 by omega) with e | e
                · exact Or.inl (by rw [e])
                · exact Or.inr (by rw [e])
              have hix : ∃ w, w < 2 ∧ nI 2 * nI xn + y - nI 2 = nI (2 * xn + w) ∧ y = nI (2 + w) := by
                rcases hy23 with e | e
                · exact ⟨0, by decide, by rw [e, pk_mul, nI_add, n_subN (by omega)]; rfl, e⟩
                · exact ⟨1, by decide, by rw [e, pk_mul, nI_add, n_subN (by omega)]; rfl, e⟩
              obtain ⟨wn, hwn, hix, ey⟩ := hix
              refine xt_blk rfl rfl (by dsimp only [List.take]) ?_
              refine xt_aln0 rfl (by first | decide | omega | assumption) ?_
              refine xt_gfr (q := (5, 7)) rfl (by first | rfl | assumption) rfl ?_
              refine xt_ic ?_
              refine xt_iln1 rfl ?_
              refine xt_mul ?_
              refine xt_iln2 rfl ?_
              refine xt_add ?_
              refine xt_ic ?_
              refine xt_sub ?_
              refine xt_ial (by first | rfl | assumption) (show vp_in _ 60 from by rw [hix]; exact vp_in_nI (by omega) (by decide)) ?_
              refine xt_nil (t := 91) rfl ?_
              refine xt_blk rfl rfl (by dsimp only [List.take]) ?_
              refine xt_ri rfl (Nat.le_refl _) ?_
              intro x2 y2 e2
              simp only [List.cons.injEq, Sum.inl.injEq, and_true, true_and] at e2
              obtain ⟨rfl, rfl⟩ := e2
              rw [hix, nI_clamp (by omega)]
              refine ⟨rfl, RE_M ?_⟩
              rcases (show wn = 0 ∨ wn = 1 by omega) with q | q
              · subst q
                subst ey
                unfold spStatement
                rw [cif_t k_2, vx, cif_f (show ¬ nI 2 = nI 0 by decide), cif_f (show ¬ nI 2 = nI 1 by decide), cif_t rfl]
                rfl
              · subst q
                subst ey
                unfold spStatement
                rw [cif_t k_2, vx, cif_f (show ¬ nI 3 = nI 0 by decide), cif_f (show ¬ nI 3 = nI 1 by decide), cif_f (show ¬ nI 3 = nI 2 by decide), cif_t rfl]
                rfl
            · skip
              refine xt_aln0 rfl (by first | decide | omega | assumption) ?_
              refine xt_gfr (q := (5, 8)) rfl (by first | rfl | assumption) rfl ?_
              refine xt_iln1 rfl ?_
              refine xt_bal (by first | rfl | assumption) (show vp_in _ 30 from vp_in_nI (by omega) (by decide)) ?_
              refine xt_eq (t := 75) rfl (fun hc_68 => ?_) (fun hc_68 => ?_)
              · skip
                refine xt_blk rfl rfl (by dsimp only [List.take]) ?_
                refine xt_ic ?_
                refine xt_goto (t := 91) rfl ?_
                refine xt_blk rfl rfl (by dsimp only [List.take]) ?_
                refine xt_ri rfl (Nat.le_refl _) ?_
                intro x2 y2 e2
                simp only [List.cons.injEq, Sum.inl.injEq, and_true, true_and] at e2
                obtain ⟨rfl, rfl⟩ := e2
                have e0 : M 61 xn = nI 0 := by rw [nI_clamp (by omega)] at hc_68; exact hc_68
                subst hc_59
                refine ⟨rfl, RE_M ?_⟩
                unfold spStatement
                rw [cif_t k_2, vx, cif_f (show ¬ nI 4 = nI 0 by decide), cif_f (show ¬ nI 4 = nI 1 by decide), cif_f (show ¬ nI 4 = nI 2 by decide), cif_f (show ¬ nI 4 = nI 3 by decide), cif_t rfl, cM_7, e0]
              · skip
                refine xt_ic ?_
                refine xt_goto (t := 91) rfl ?_
                refine xt_blk rfl rfl (by dsimp only [List.take]) ?_
                refine xt_ri rfl (Nat.le_refl _) ?_
                intro x2 y2 e2
                simp only [List.cons.injEq, Sum.inl.injEq, and_true, true_and] at e2
                obtain ⟨rfl, rfl⟩ := e2
                have e0 : M 61 xn = nI 1 := by
                  rw [nI_clamp (by omega)] at hc_68
                  rcases hV.2.1 xn (by omega) with e | e
                  · exact absurd e hc_68
                  · exact e
                subst hc_59
                refine ⟨rfl, RE_M ?_⟩
                unfold spStatement
                rw [cif_t k_2, vx, cif_f (show ¬ nI 4 = nI 0 by decide), cif_f (show ¬ nI 4 = nI 1 by decide), cif_f (show ¬ nI 4 = nI 2 by decide), cif_f (show ¬ nI 4 = nI 3 by decide), cif_t rfl, cM_7, e0]
          · skip
            refine xt_aln0 rfl (by first | decide | omega | assumption) ?_
            refine xt_gfr (q := (5, 6)) rfl (by first | rfl | assumption) rfl ?_
            refine xt_iln1 rfl ?_
            refine xt_ial (by first | rfl | assumption) (show vp_in _ 30 from vp_in_nI (by omega) (by decide)) ?_
            refine xt_goto (t := 91) rfl ?_
            refine xt_blk rfl rfl (by dsimp only [List.take]) ?_
            refine xt_ri rfl (Nat.le_refl _) ?_
            intro x2 y2 e2
            simp only [List.cons.injEq, Sum.inl.injEq, and_true, true_and] at e2
            obtain ⟨rfl, rfl⟩ := e2
            rw [nI_clamp (by omega)]
            refine ⟨rfl, RE_M ?_⟩
            unfold spStatement
            rw [cif_t k_2, vx, cif_f (show ¬ y = nI 0 from hc_31), cif_t hc_45]
            rfl
        · skip
          refine xt_aln0 rfl (by first | decide | omega | assumption) ?_
          refine xt_gfr (q := (5, 5)) rfl (by first | rfl | assumption) rfl ?_
          refine xt_iln1 rfl ?_
          refine xt_ial (by first | rfl | assumption) (show vp_in _ 30 from vp_in_nI (by omega) (by decide)) ?_
          refine xt_goto (t := 91) rfl ?_
          refine xt_blk rfl rfl (by dsimp only [List.take]) ?_
          refine xt_ri rfl (Nat.le_refl _) ?_
          intro x2 y2 e2
          simp only [List.cons.injEq, Sum.inl.injEq, and_true, true_and] at e2
          obtain ⟨rfl, rfl⟩ := e2
          rw [nI_clamp (by omega)]
          refine ⟨rfl, RE_M ?_⟩
          unfold spStatement
          rw [cif_t k_2, vx, cif_t (show y = nI 0 from hc_31)]
          rfl
      · skip
        have k_17 := k_no h_c17 hc_20
        refine xt_aln0 rfl (by first | decide | omega | assumption) ?_
        refine xt_bim rfl ?_
        refine xt_v2 (key := 280) (q := q_X7_refuse) rfl rfl rfl rfl rfl ⟨Nat.le_of_ble_eq_true rfl, Nat.le_of_ble_eq_true rfl⟩ ⟨2, by decide, by decide, rfl, rfl⟩ (fun rv_ S1 M_26 hq_26 => ?_)
        obtain ⟨eS_, eM_, rfl⟩ := hq_26 2 (by decide) (by decide) rfl
        replace eS_ := eS_.symm
        replace eM_ := eM_.symm
        subst eS_ eM_
        try dsimp only [Option.toList, List.cons_append, List.nil_append]
        refine xt_ri rfl (Nat.le_refl _) ?_
        intro x2 y2 e2
        simp only [List.cons.injEq, Sum.inl.injEq, and_true, true_and] at e2
        obtain ⟨rfl, rfl⟩ := e2
        have hno : ∀ j, j < 5 → ¬ y = nI j := fun j hj e => k_17 ⟨j, hj, e⟩
        refine ⟨rfl, RE_R ?_⟩
        unfold spStatement
        rw [cif_t k_2, cif_f (hno 0 (by decide)), cif_f (hno 1 (by decide)), cif_f (hno 2 (by decide)), cif_f (hno 3 (by decide)), cif_f (hno 4 (by decide))]
    · skip
      have k_2 := k_no h_c2 hc_5
      refine xt_aln0 rfl (by first | decide | omega | assumption) ?_
      refine xt_icm rfl ?_
      refine xt_v2 (key := 280) (q := q_X7_refuse) rfl rfl rfl rfl rfl ⟨Nat.le_of_ble_eq_true rfl, Nat.le_of_ble_eq_true rfl⟩ ⟨1, by decide, by decide, rfl, rfl⟩ (fun rv_ S1 M_10 hq_10 => ?_)
      obtain ⟨eS_, eM_, rfl⟩ := hq_10 1 (by decide) (by decide) rfl
      replace eS_ := eS_.symm
      replace eM_ := eM_.symm
      subst eS_ eM_
      try dsimp only [Option.toList, List.cons_append, List.nil_append]
      refine xt_ri rfl (Nat.le_refl _) ?_
      intro x2 y2 e2
      simp only [List.cons.injEq, Sum.inl.injEq, and_true, true_and] at e2
      obtain ⟨rfl, rfl⟩ := e2
      refine ⟨rfl, RE_R ?_⟩
      unfold spStatement
      exact cif_f k_2
  · intro μ pc ls st S2 M2 cs sl h; exact h.elim
def q_X7_told : x_K := (4, fun as S M => ∃ (w : Int32) (a : Int32) (b : Int32) (c : Nat), RI c M ∧ S = SH ∧ as = [.inr (.inl 53), .inl w, .inl a, .inl b], fun as S M rv_ S' M' => ∀ (w : Int32) (a : Int32) (b : Int32), as = [.inr (.inl 53), .inl w, .inl a, .inl b] → S' = S ∧ REnd M M' rv_ (spTold (cM M) w a b), 0, 0)
theorem r_X7_told : ∀ as S M, q_X7_told.2.1 as S M → ∃ (k : Nat) (as' : List x_V) (fs : List (Option Nat)), as = .inr (.inl k) :: as' ∧ S[k]? = some (.inl (5, fs)) := by
  rintro as S M ⟨w, a, b, c, -, rfl, rfl⟩
  exact ⟨53, _, _, rfl, rfl⟩
def b_X7_told : x_B := [(0, 4, [(.iload_n 1, 1), (.iload_n 2, 1), (.iload_n 3, 1), (.invokestatic 138, 3), (.istore 4, 2), (.iload 4, 2), (.ifCond .ge 10, 3), (.aload_n 0, 1), (.iload 4, 2), (.invokevirtual 93, 3), (.ireturn, 1)]),
  (20, 5, [(.aload_n 0, 1), (.iload_n 1, 1), (.iconst 0, 1), (.invokevirtual 128, 3), (.aload_n 0, 1), (.getfield 50, 3), (.bipush 6, 2), (.iload_n 2, 1), (.imul, 1), (.iload_n 3, 1), (.iadd, 1), (.iaload, 1), (.ireturn, 1)])]
theorem b_X7_told_ok : x_okB cX7_told 5 b_X7_told = true := by decide +kernel
def X_X7_told : x_X := ([(50, 5, 14)], [], [], [], [(414, q_X7_wrong), (280, q_X7_refuse), (385, q_X7_tellAll)], (0, 0), x_kn, x_kf, 5, false)
theorem X_X7_told_ok : x_okT RX7 X_X7_told = true := by decide +kernel
theorem k_X7_told (l : Launch) : ∀ z ∈ X_X7_told.2.2.2.2.1, x_Cal l (x_rm 5 0 0) cX7_told RX7 5 z.1 z.2 := List.forall_mem_cons.mpr ⟨x_cal_S (idx := 138) (c_X7_wrong l) ⟨by decide, by decide⟩ (by decide +kernel) (by decide +kernel) (by decide +kernel) (by decide +kernel) (by decide +kernel), List.forall_mem_cons.mpr ⟨x_cal_V (idx := 93) (ci := 5) (n := 1) (c_X7_refuse l) ⟨by decide, by decide⟩ (by decide +kernel) (by decide +kernel) (by decide +kernel) (by decide +kernel) (by decide +kernel) rfl rfl rfl (by decide +kernel) r_X7_refuse, List.forall_mem_cons.mpr ⟨x_cal_V (idx := 128) (ci := 5) (n := 2) (c_X7_tellAll l) ⟨by decide, by decide⟩ (by decide +kernel) (by decide +kernel) (by decide +kernel) (by decide +kernel) (by decide +kernel) rfl rfl rfl (by decide +kernel) r_X7_tellAll, fun _ h => absurd h List.not_mem_nil⟩⟩⟩
set_option maxHeartbeats 4000000 in
set_option maxRecDepth 100000 in
theorem c_X7_told (l : Launch) : x_CT l yX7_told cX7_told 5 (some .int) 5 q_X7_told := by
  refine x_meth (X := X_X7_told) (bl := b_X7_told) (cut := []) (own := RX7) 30 (by decide) rfl X_X7_told_ok b_X7_told_ok rfl (Nat.le_of_ble_eq_true rfl) (k_X7_told l) ?_
  rintro as S M - ⟨w, a, b, c, hRI, rfl, rfl⟩
  have hok := hRI.2.1
  have hV := hRI.2
  have hTb := hRI.1
  refine ⟨fun _ _ _ _ _ _ _ _ => False, ?_, ?_⟩
  · skip
    refine xt_blk rfl rfl (by dsimp only [List.take]) ?_
    refine xt_iln1 rfl ?_
    refine xt_iln2 rfl ?_
    refine xt_iln3 rfl ?_
    refine xt_v3 (key := 414) (q := q_X7_wrong) rfl rfl rfl rfl rfl ⟨Nat.le_of_ble_eq_true rfl, Nat.le_of_ble_eq_true rfl⟩ ⟨_, _, _, rfl⟩ (fun rv_ S1 M_3 hq_3 => ?_)
    obtain ⟨eS_, eM_, h_r⟩ := hq_3 _ _ _ rfl
    replace eS_ := eS_.symm
    replace eM_ := eM_.symm
    subst eS_ eM_
    have hex_r : ∃ v, rv_ = some (.inl v) := by rcases h_r with ⟨-, e⟩ | ⟨-, -, e⟩ | ⟨-, -, e⟩ <;> exact ⟨_, e⟩
    obtain ⟨v_r, rfl⟩ := hex_r
    simp only [Option.some.injEq, Sum.inl.injEq] at h_r
    replace h_r : rfA w a b v_r := h_r
    try dsimp only [Option.toList, List.cons_append, List.nil_append]
    refine xt_ist rfl (by dsimp only [x_sto]) ?_
    refine xt_ild rfl ?_
    refine xt_ge (t := 20) rfl (fun hc_10 => ?_) (fun hc_10 => ?_)
    · skip
      obtain ⟨k_2, k_1⟩ := rfA_ge h_r hc_10
      obtain ⟨wn, hwn, ewn⟩ := id k_1
      subst ewn
      have vw : nv (nI wn) = wn := nv_nI (by omega)
      obtain ⟨⟨an, han, ean⟩, ⟨bn, hbn, ebn⟩, hab⟩ := id k_2
      subst ean ebn
      have va : nv (nI an) = an := nv_nI (by omega)
      have vb : nv (nI bn) = bn := nv_nI (by omega)
      have hne : an ≠ bn := fun e => hab (by rw [e])
      refine xt_blk rfl rfl (by dsimp only [List.take]) ?_
      refine xt_aln0 rfl (by first | decide | omega | assumption) ?_
      refine xt_iln1 rfl ?_
      refine xt_ic ?_
      refine xt_v3 (key := 385) (q := q_X7_tellAll) rfl rfl rfl rfl rfl ⟨Nat.le_of_ble_eq_true rfl, Nat.le_of_ble_eq_true rfl⟩ ⟨wn, 0, hwn, by decide, hok, hV.2.1, rfl, rfl⟩ (fun rv_ S1 M_23 hq_23 => ?_)
      obtain ⟨eS_, ⟨gI, eM_, hg⟩, rfl⟩ := hq_23 wn 0 hwn (by decide) rfl
      replace eS_ := eS_.symm
      replace eM_ := eM_.symm
      subst eS_ eM_
      rw [tN_0 hok wn] at hg
      have hfo := tF_ok hok hwn
      try dsimp only [Option.toList, List.cons_append, List.nil_append]
      refine xt_aln0 rfl (by first | decide | omega | assumption) ?_
      refine xt_gfr (q := (5, 14)) rfl (by first | rfl | assumption) rfl ?_
      refine xt_bi ?_
      refine xt_iln2 rfl ?_
      refine xt_mul ?_
      refine xt_iln3 rfl ?_
      refine xt_add ?_
      refine xt_ial (by first | rfl | assumption) (v_6 han hbn) ?_
      refine xt_ri rfl (Nat.le_refl _) ?_
      intro w2 a2 b2 e2
      simp only [List.cons.injEq, Sum.inl.injEq, and_true, true_and] at e2
      obtain ⟨rfl, rfl, rfl⟩ := e2
      rw [x_row_self, n_6 han hbn, hg _ (by omega)]
      refine ⟨rfl, RE_k (Rk_67 M gI) ?_⟩
      unfold spTold
      rw [spAl_ok k_2 k_1, vw, va, vb]
    · skip
      obtain ⟨p, hp0, hp7, ev, hpp⟩ := rfA_lt h_r hc_10
      subst ev
      refine xt_aln0 rfl (by first | decide | omega | assumption) ?_
      refine xt_ild rfl ?_
      refine xt_v2 (key := 280) (q := q_X7_refuse) rfl rfl rfl rfl rfl ⟨Nat.le_of_ble_eq_true rfl, Nat.le_of_ble_eq_true rfl⟩ ⟨p, hp0, hp7, rfl, rfl⟩ (fun rv_ S1 M_16 hq_16 => ?_)
      obtain ⟨eS_, eM_, rfl⟩ := hq_16 p hp0 hp7 rfl
      replace eS_ := eS_.symm
      replace eM_ := eM_.symm
      subst eS_ eM_
      try dsimp only [Option.toList, List.cons_append, List.nil_append]
      refine xt_ri rfl (Nat.le_refl _) ?_
      intro w2 a2 b2 e2
      simp only [List.cons.injEq, Sum.inl.injEq, and_true, true_and] at e2
      obtain ⟨rfl, rfl, rfl⟩ := e2
      exact ⟨rfl, RE_R (rfA_sp hpp)⟩
  · intro μ pc ls st S2 M2 cs sl h; exact h.elim
def q_X7_closed : x_K := (4, fun as S M => ∃ (w : Int32) (a : Int32) (b : Int32) (c : Nat), RI c M ∧ S = SH ∧ as = [.inr (.inl 53), .inl w, .inl a, .inl b], fun as S M rv_ S' M' => ∀ (w : Int32) (a : Int32) (b : Int32), as = [.inr (.inl 53), .inl w, .inl a, .inl b] → S' = S ∧ REnd M M' rv_ (spClosed (cM M) w a b), 0, 0)
theorem r_X7_closed : ∀ as S M, q_X7_closed.2.1 as S M → ∃ (k : Nat) (as' : List x_V) (fs : List (Option Nat)), as = .inr (.inl k) :: as' ∧ S[k]? = some (.inl (5, fs)) := by
  rintro as S M ⟨w, a, b, c, -, rfl, rfl⟩
  exact ⟨53, _, _, rfl, rfl⟩
def b_X7_closed : x_B := [(0, 4, [(.iload_n 1, 1), (.iload_n 2, 1), (.iload_n 3, 1), (.invokestatic 138, 3), (.istore 4, 2), (.iload 4, 2), (.ifCond .ge 10, 3), (.aload_n 0, 1), (.iload 4, 2), (.invokevirtual 93, 3), (.ireturn, 1)]),
  (20, 5, [(.aload_n 0, 1), (.iload_n 1, 1), (.iconst 0, 1), (.invokevirtual 128, 3), (.aload_n 0, 1), (.iconst 0, 1), (.invokevirtual 125, 3), (.istore 5, 2), (.aload_n 0, 1), (.getfield 50, 3), (.bipush 6, 2), (.iload_n 2, 1), (.imul, 1), (.iload_n 3, 1), (.iadd, 1), (.iaload, 1), (.ireturn, 1)])]
theorem b_X7_closed_ok : x_okB cX7_closed 6 b_X7_closed = true := by decide +kernel
def X_X7_closed : x_X := ([(50, 5, 14)], [], [], [], [(414, q_X7_wrong), (280, q_X7_refuse), (385, q_X7_tellAll), (376, q_X7_close)], (0, 0), x_kn, x_kf, 5, false)
theorem X_X7_closed_ok : x_okT RX7 X_X7_closed = true := by decide +kernel
theorem k_X7_closed (l : Launch) : ∀ z ∈ X_X7_closed.2.2.2.2.1, x_Cal l (x_rm 5 0 0) cX7_closed RX7 6 z.1 z.2 := List.forall_mem_cons.mpr ⟨x_cal_S (idx := 138) (c_X7_wrong l) ⟨by decide, by decide⟩ (by decide +kernel) (by decide +kernel) (by decide +kernel) (by decide +kernel) (by decide +kernel), List.forall_mem_cons.mpr ⟨x_cal_V (idx := 93) (ci := 5) (n := 1) (c_X7_refuse l) ⟨by decide, by decide⟩ (by decide +kernel) (by decide +kernel) (by decide +kernel) (by decide +kernel) (by decide +kernel) rfl rfl rfl (by decide +kernel) r_X7_refuse, List.forall_mem_cons.mpr ⟨x_cal_V (idx := 128) (ci := 5) (n := 2) (c_X7_tellAll l) ⟨by decide, by decide⟩ (by decide +kernel) (by decide +kernel) (by decide +kernel) (by decide +kernel) (by decide +kernel) rfl rfl rfl (by decide +kernel) r_X7_tellAll, List.forall_mem_cons.mpr ⟨x_cal_V (idx := 125) (ci := 5) (n := 1) (c_X7_close l) ⟨by decide, by decide⟩ (by decide +kernel) (by decide +kernel) (by decide +kernel) (by decide +kernel) (by decide +kernel) rfl rfl rfl (by decide +kernel) r_X7_close, fun _ h => absurd h List.not_mem_nil⟩⟩⟩⟩
set_option maxHeartbeats 4000000 in
set_option maxRecDepth 100000 in
theorem c_X7_closed (l : Launch) : x_CT l yX7_closed cX7_closed 6 (some .int) 5 q_X7_closed := by
  refine x_meth (X := X_X7_closed) (bl := b_X7_closed) (cut := []) (own := RX7) 30 (by decide) rfl X_X7_closed_ok b_X7_closed_ok rfl (Nat.le_of_ble_eq_true rfl) (k_X7_closed l) ?_
  rintro as S M - ⟨w, a, b, c, hRI, rfl, rfl⟩
  have hok := hRI.2.1
  have hV := hRI.2
  have hTb := hRI.1
  refine ⟨fun _ _ _ _ _ _ _ _ => False, ?_, ?_⟩
  · skip
    refine xt_blk rfl rfl (by dsimp only [List.take]) ?_
    refine xt_iln1 rfl ?_
    refine xt_iln2 rfl ?_
    refine xt_iln3 rfl ?_
    refine xt_v3 (key := 414) (q := q_X7_wrong) rfl rfl rfl rfl rfl ⟨Nat.le_of_ble_eq_true rfl, Nat.le_of_ble_eq_true rfl⟩ ⟨_, _, _, rfl⟩ (fun rv_ S1 M_3 hq_3 => ?_)
    obtain ⟨eS_, eM_, h_r⟩ := hq_3 _ _ _ rfl
    replace eS_ := eS_.symm
    replace eM_ := eM_.symm
    subst eS_ eM_
    have hex_r : ∃ v, rv_ = some (.inl v) := by rcases h_r with ⟨-, e⟩ | ⟨-, -, e⟩ | ⟨-, -, e⟩ <;> exact ⟨_, e⟩
    obtain ⟨v_r, rfl⟩ := hex_r
    simp only [Option.some.injEq, Sum.inl.injEq] at h_r
    replace h_r : rfA w a b v_r := h_r
    try dsimp only [Option.toList, List.cons_append, List.nil_append]
    refine xt_ist rfl (by dsimp only [x_sto]) ?_
    refine xt_ild rfl ?_
    refine xt_ge (t := 20) rfl (fun hc_10 => ?_) (fun hc_10 => ?_)
    · skip
      obtain ⟨k_2, k_1⟩ := rfA_ge h_r hc_10
      obtain ⟨wn, hwn, ewn⟩ := id k_1
      subst ewn
      have vw : nv (nI wn) = wn := nv_nI (by omega)
      obtain ⟨⟨an, han, ean⟩, ⟨bn, hbn, ebn⟩, hab⟩ := id k_2
      subst ean ebn
      have va : nv (nI an) = an := nv_nI (by omega)
      have vb : nv (nI bn) = bn := nv_nI (by omega)
      have hne : an ≠ bn := fun e => hab (by rw [e])
      refine xt_blk rfl rfl (by dsimp only [List.take]) ?_
      refine xt_aln0 rfl (by first | decide | omega | assumption) ?_
      refine xt_iln1 rfl ?_
      refine xt_ic ?_
      refine xt_v3 (key := 385) (q := q_X7_tellAll) rfl rfl rfl rfl rfl ⟨Nat.le_of_ble_eq_true rfl, Nat.le_of_ble_eq_true rfl⟩ ⟨wn, 0, hwn, by decide, hok, hV.2.1, rfl, rfl⟩ (fun rv_ S1 M_23 hq_23 => ?_)
      obtain ⟨eS_, ⟨gI, eM_, hg⟩, rfl⟩ := hq_23 wn 0 hwn (by decide) rfl
      replace eS_ := eS_.symm
      replace eM_ := eM_.symm
      subst eS_ eM_
      rw [tN_0 hok wn] at hg
      have hfo := tF_ok hok hwn
      try dsimp only [Option.toList, List.cons_append, List.nil_append]
      refine xt_aln0 rfl (by first | decide | omega | assumption) ?_
      refine xt_ic ?_
      refine xt_v2 (key := 376) (q := q_X7_close) rfl rfl rfl rfl rfl ⟨Nat.le_of_ble_eq_true rfl, Nat.le_of_ble_eq_true rfl⟩ ⟨0, tF (cM M) wn, by decide, hTb.1, Ar_0 hfo.1 hg, hfo.2.1, d64 hfo.2.2, rfl, rfl⟩ (fun rv_ S1 M_28 hq_28 => ?_)
      obtain ⟨eS_, gJ, eM_, -, hcc⟩ := hq_28 0 (tF (cM M) wn) (by decide) (Ar_0 hfo.1 hg) rfl
      replace eS_ := eS_.symm
      replace eM_ := eM_.symm
      subst eS_ eM_
      rw [x_row_row]
      simp only [Nat.mul_zero, Nat.zero_add] at hcc
      have hex : ∃ v, rv_ = some (.inl v) := by rcases hcc with ⟨e, -⟩ | ⟨e, -⟩ <;> exact ⟨_, e⟩
      obtain ⟨v, rfl⟩ := hex
      try dsimp only [Option.toList, List.cons_append, List.nil_append]
      refine xt_ist rfl (by dsimp only [x_sto]) ?_
      refine xt_aln0 rfl (by first | decide | omega | assumption) ?_
      refine xt_gfr (q := (5, 14)) rfl (by first | rfl | assumption) rfl ?_
      refine xt_bi ?_
      refine xt_iln2 rfl ?_
      refine xt_mul ?_
      refine xt_iln3 rfl ?_
      refine xt_add ?_
      refine xt_ial (by first | rfl | assumption) (v_6 han hbn) ?_
      refine xt_ri rfl (Nat.le_refl _) ?_
      intro w2 a2 b2 e2
      simp only [List.cons.injEq, Sum.inl.injEq, and_true, true_and] at e2
      obtain ⟨rfl, rfl, rfl⟩ := e2
      rw [x_row_self, n_6 han hbn]
      have hcl : ∃ g, (∀ j, j < 36 → gJ j = nI (g j)) ∧ Cl (tF (cM M) wn) g := by
        rcases hcc with ⟨-, g, z1, z2⟩ | ⟨-, z1, z2⟩
        · exact ⟨g, z1, Or.inl z2⟩
        · exact ⟨fun _ => 0, z1, Or.inr ⟨z2, fun _ _ => rfl⟩⟩
      obtain ⟨g, g1, g2⟩ := hcl
      rw [g1 _ (by omega)]
      refine ⟨rfl, RE_k (Rk_67 M gJ) ?_⟩
      unfold spClosed
      rw [spAl_ok k_2 k_1, vw, va, vb, clF_e g2 han hbn hne]
    · skip
      obtain ⟨p, hp0, hp7, ev, hpp⟩ := rfA_lt h_r hc_10
      subst ev
      refine xt_aln0 rfl (by first | decide | omega | assumption) ?_
      refine xt_ild rfl ?_
      refine xt_v2 (key := 280) (q := q_X7_refuse) rfl rfl rfl rfl rfl ⟨Nat.le_of_ble_eq_true rfl, Nat.le_of_ble_eq_true rfl⟩ ⟨p, hp0, hp7, rfl, rfl⟩ (fun rv_ S1 M_16 hq_16 => ?_)
      obtain ⟨eS_, eM_, rfl⟩ := hq_16 p hp0 hp7 rfl
      replace eS_ := eS_.symm
      replace eM_ := eM_.symm
      subst eS_ eM_
      try dsimp only [Option.toList, List.cons_append, List.nil_append]
      refine xt_ri rfl (Nat.le_refl _) ?_
      intro w2 a2 b2 e2
      simp only [List.cons.injEq, Sum.inl.injEq, and_true, true_and] at e2
      obtain ⟨rfl, rfl, rfl⟩ := e2
      exact ⟨rfl, RE_R (rfA_sp hpp)⟩
  · intro μ pc ls st S2 M2 cs sl h; exact h.elim
def q_X7_canBe : x_K := (2, fun as S M => ∃ (w : Int32) (c : Nat), RI c M ∧ S = SH ∧ as = [.inr (.inl 53), .inl w], fun as S M rv_ S' M' => ∀ (w : Int32), as = [.inr (.inl 53), .inl w] → S' = S ∧ REnd M M' rv_ (spCanBe (cM M) w), 0, 0)
theorem r_X7_canBe : ∀ as S M, q_X7_canBe.2.1 as S M → ∃ (k : Nat) (as' : List x_V) (fs : List (Option Nat)), as = .inr (.inl k) :: as' ∧ S[k]? = some (.inl (5, fs)) := by
  rintro as S M ⟨w, c, -, rfl, rfl⟩
  exact ⟨53, _, _, rfl, rfl⟩
def b_X7_canBe : x_B := [(0, 2, [(.iload_n 1, 1), (.invokestatic 135, 3), (.ifCond .eq 20, 3), (.aload_n 0, 1), (.iload_n 1, 1), (.iconst 0, 1), (.invokevirtual 142, 3), (.ifCond .eq 7, 3), (.iconst 1, 1), (.goto 13, 3)]),
  (20, 2, [(.iconst 0, 1), (.goto 9, 3)]),
  (24, 2, [(.aload_n 0, 1), (.bipush (-2), 2), (.invokevirtual 93, 3)]),
  (30, 2, [(.ireturn, 1)])]
theorem b_X7_canBe_ok : x_okB cX7_canBe 2 b_X7_canBe = true := by decide +kernel
def X_X7_canBe : x_X := ([], [], [], [], [(405, q_X7_isWay), (427, q_X7_canBeWithout), (280, q_X7_refuse)], (0, 0), x_kn, x_kf, 5, false)
theorem X_X7_canBe_ok : x_okT RX7 X_X7_canBe = true := by decide +kernel
theorem k_X7_canBe (l : Launch) : ∀ z ∈ X_X7_canBe.2.2.2.2.1, x_Cal l (x_rm 5 0 0) cX7_canBe RX7 2 z.1 z.2 := List.forall_mem_cons.mpr ⟨x_cal_S (idx := 135) (c_X7_isWay l) ⟨by decide, by decide⟩ (by decide +kernel) (by decide +kernel) (by decide +kernel) (by decide +kernel) (by decide +kernel), List.forall_mem_cons.mpr ⟨x_cal_V (idx := 142) (ci := 5) (n := 2) (c_X7_canBeWithout l) ⟨by decide, by decide⟩ (by decide +kernel) (by decide +kernel) (by decide +kernel) (by decide +kernel) (by decide +kernel) rfl rfl rfl (by decide +kernel) r_X7_canBeWithout, List.forall_mem_cons.mpr ⟨x_cal_V (idx := 93) (ci := 5) (n := 1) (c_X7_refuse l) ⟨by decide, by decide⟩ (by decide +kernel) (by decide +kernel) (by decide +kernel) (by decide +kernel) (by decide +kernel) rfl rfl rfl (by decide +kernel) r_X7_refuse, fun _ h => absurd h List.not_mem_nil⟩⟩⟩
set_option maxHeartbeats 4000000 in
set_option maxRecDepth 100000 in
theorem c_X7_canBe (l : Launch) : x_CT l yX7_canBe cX7_canBe 2 (some .int) 5 q_X7_canBe := by
  refine x_meth (X := X_X7_canBe) (bl := b_X7_canBe) (cut := []) (own := RX7) 30 (by decide) rfl X_X7_canBe_ok b_X7_canBe_ok rfl (Nat.le_of_ble_eq_true rfl) (k_X7_canBe l) ?_
  rintro as S M - ⟨w, c, hRI, rfl, rfl⟩
  have hok := hRI.2.1
  have hV := hRI.2
  have hTb := hRI.1
  refine ⟨fun _ _ _ _ _ _ _ _ => False, ?_, ?_⟩
  · skip
    refine xt_blk rfl rfl (by dsimp only [List.take]) ?_
    refine xt_iln1 rfl ?_
    refine xt_v1 (key := 405) (q := q_X7_isWay) rfl rfl rfl rfl rfl ⟨Nat.le_of_ble_eq_true rfl, Nat.le_of_ble_eq_true rfl⟩ ⟨_, rfl⟩ (fun rv_ S1 M_1 hq_1 => ?_)
    obtain ⟨eS_, eM_, h_c1⟩ := hq_1 _ rfl
    replace eS_ := eS_.symm
    replace eM_ := eM_.symm
    subst eS_ eM_
    have hex_c1 : ∃ v, rv_ = some (.inl v) := by rcases h_c1 with ⟨-, e⟩ | ⟨-, e⟩ <;> exact ⟨_, e⟩
    obtain ⟨v_c1, rfl⟩ := hex_c1
    simp only [Option.some.injEq, Sum.inl.injEq] at h_c1
    try dsimp only [Option.toList, List.cons_append, List.nil_append]
    refine xt_eq (t := 24) rfl (fun hc_4 => ?_) (fun hc_4 => ?_)
    · skip
      have k_1 := k_no h_c1 hc_4
      refine xt_blk rfl rfl (by dsimp only [List.take]) ?_
      refine xt_aln0 rfl (by first | decide | omega | assumption) ?_
      refine xt_bim rfl ?_
      refine xt_v2 (key := 280) (q := q_X7_refuse) rfl rfl rfl rfl rfl ⟨Nat.le_of_ble_eq_true rfl, Nat.le_of_ble_eq_true rfl⟩ ⟨2, by decide, by decide, rfl, rfl⟩ (fun rv_ S1 M_27 hq_27 => ?_)
      obtain ⟨eS_, eM_, rfl⟩ := hq_27 2 (by decide) (by decide) rfl
      replace eS_ := eS_.symm
      replace eM_ := eM_.symm
      subst eS_ eM_
      try dsimp only [Option.toList, List.cons_append, List.nil_append]
      refine xt_nil (t := 30) rfl ?_
      refine xt_blk rfl rfl (by dsimp only [List.take]) ?_
      refine xt_ri rfl (Nat.le_refl _) ?_
      intro w2 e2
      simp only [List.cons.injEq, Sum.inl.injEq, and_true, true_and] at e2
      subst e2
      refine ⟨rfl, RE_R ?_⟩
      unfold spCanBe
      rw [cif_f k_1]
    · skip
      have k_1 := k_yes h_c1 hc_4
      obtain ⟨wn, hwn, ewn⟩ := id k_1
      subst ewn
      have vw : nv (nI wn) = wn := nv_nI (by omega)
      refine xt_aln0 rfl (by first | decide | omega | assumption) ?_
      refine xt_iln1 rfl ?_
      refine xt_ic ?_
      refine xt_v3 (key := 427) (q := q_X7_canBeWithout) rfl rfl rfl rfl rfl ⟨Nat.le_of_ble_eq_true rfl, Nat.le_of_ble_eq_true rfl⟩ ⟨wn, 0, c, hwn, by decide, hRI, rfl, rfl⟩ (fun rv_ S1 M_10 hq_10 => ?_)
      obtain ⟨eS_, hRk, hpos⟩ := hq_10 wn 0 hwn (by decide) rfl
      replace eS_ := eS_.symm
      subst eS_
      rw [tN_0 hok wn] at hpos
      have hex : ∃ v, rv_ = some (.inl v) := by rcases hpos with ⟨e, -⟩ | ⟨e, -⟩ <;> exact ⟨_, e⟩
      obtain ⟨v, rfl⟩ := hex
      simp only [Option.some.injEq, Sum.inl.injEq] at hpos
      try dsimp only [Option.toList, List.cons_append, List.nil_append]
      refine xt_eq (t := 20) rfl (fun hc_13 => ?_) (fun hc_13 => ?_)
      · skip
        have hsat : ¬ Sat (tF (cM M) wn) := by
          rcases hpos with ⟨e, -⟩ | ⟨-, z⟩
          · rw [e] at hc_13; exact absurd hc_13 (by decide)
          · exact z
        refine xt_blk rfl rfl (by dsimp only [List.take]) ?_
        refine xt_ic ?_
        refine xt_goto (t := 30) rfl ?_
        refine xt_blk rfl rfl (by dsimp only [List.take]) ?_
        refine xt_ri rfl (Nat.le_refl _) ?_
        intro w2 e2
        simp only [List.cons.injEq, Sum.inl.injEq, and_true, true_and] at e2
        subst e2
        refine ⟨rfl, RE_k hRk ?_⟩
        unfold spCanBe
        rw [cif_t k_1, vw, cif_f hsat]
      · skip
        have hfs : ∃ s, Fs (tF (cM M) wn) s ∧ R540 M_10 s := by
          rcases hpos with ⟨-, z⟩ | ⟨e, -⟩
          · exact z
          · rw [e] at hc_13; exact absurd rfl hc_13
        obtain ⟨s, hFs, hR⟩ := hfs
        have hsat := Fs_Sat hFs
        refine xt_ic ?_
        refine xt_goto (t := 30) rfl ?_
        refine xt_blk rfl rfl (by dsimp only [List.take]) ?_
        refine xt_ri rfl (Nat.le_refl _) ?_
        intro w2 e2
        simp only [List.cons.injEq, Sum.inl.injEq, and_true, true_and] at e2
        subst e2
        refine ⟨rfl, RE_k hRk ?_⟩
        unfold spCanBe
        rw [cif_t k_1, vw, cif_t hsat]
  · intro μ pc ls st S2 M2 cs sl h; exact h.elim
def q_X7_can : x_K := (4, fun as S M => ∃ (w : Int32) (a : Int32) (b : Int32) (c : Nat), RI c M ∧ S = SH ∧ as = [.inr (.inl 53), .inl w, .inl a, .inl b], fun as S M rv_ S' M' => ∀ (w : Int32) (a : Int32) (b : Int32), as = [.inr (.inl 53), .inl w, .inl a, .inl b] → S' = S ∧ REnd M M' rv_ (spCan (cM M) w a b), 0, 0)
theorem r_X7_can : ∀ as S M, q_X7_can.2.1 as S M → ∃ (k : Nat) (as' : List x_V) (fs : List (Option Nat)), as = .inr (.inl k) :: as' ∧ S[k]? = some (.inl (5, fs)) := by
  rintro as S M ⟨w, a, b, c, -, rfl, rfl⟩
  exact ⟨53, _, _, rfl, rfl⟩
def b_X7_can : x_B := [(0, 4, [(.iload_n 1, 1), (.iload_n 2, 1), (.iload_n 3, 1), (.invokestatic 138, 3), (.istore 4, 2), (.iload 4, 2), (.ifCond .ge 12, 3), (.aload_n 0, 1), (.iload 4, 2), (.invokevirtual 93, 3), (.goto 10, 3)]),
  (22, 5, [(.aload_n 0, 1), (.iload_n 1, 1), (.iload_n 2, 1), (.iload_n 3, 1), (.invokevirtual 145, 3)]),
  (29, 5, [(.ireturn, 1)])]
theorem b_X7_can_ok : x_okB cX7_can 5 b_X7_can = true := by decide +kernel
def X_X7_can : x_X := ([], [], [], [], [(414, q_X7_wrong), (280, q_X7_refuse), (436, q_X7_canSet)], (0, 0), x_kn, x_kf, 5, false)
theorem X_X7_can_ok : x_okT RX7 X_X7_can = true := by decide +kernel
theorem k_X7_can (l : Launch) : ∀ z ∈ X_X7_can.2.2.2.2.1, x_Cal l (x_rm 5 0 0) cX7_can RX7 5 z.1 z.2 := List.forall_mem_cons.mpr ⟨x_cal_S (idx := 138) (c_X7_wrong l) ⟨by decide, by decide⟩ (by decide +kernel) (by decide +kernel) (by decide +kernel) (by decide +kernel) (by decide +kernel), List.forall_mem_cons.mpr ⟨x_cal_V (idx := 93) (ci := 5) (n := 1) (c_X7_refuse l) ⟨by decide, by decide⟩ (by decide +kernel) (by decide +kernel) (by decide +kernel) (by decide +kernel) (by decide +kernel) rfl rfl rfl (by decide +kernel) r_X7_refuse, List.forall_mem_cons.mpr ⟨x_cal_V (idx := 145) (ci := 5) (n := 3) (c_X7_canSet l) ⟨by decide, by decide⟩ (by decide +kernel) (by decide +kernel) (by decide +kernel) (by decide +kernel) (by decide +kernel) rfl rfl rfl (by decide +kernel) r_X7_canSet, fun _ h => absurd h List.not_mem_nil⟩⟩⟩
set_option maxHeartbeats 4000000 in
set_option maxRecDepth 100000 in
theorem c_X7_can (l : Launch) : x_CT l yX7_can cX7_can 5 (some .int) 5 q_X7_can := by
  refine x_meth (X := X_X7_can) (bl := b_X7_can) (cut := []) (own := RX7) 30 (by decide) rfl X_X7_can_ok b_X7_can_ok rfl (Nat.le_of_ble_eq_true rfl) (k_X7_can l) ?_
  rintro as S M - ⟨w, a, b, c, hRI, rfl, rfl⟩
  have hok := hRI.2.1
  have hV := hRI.2
  have hTb := hRI.1
  refine ⟨fun _ _ _ _ _ _ _ _ => False, ?_, ?_⟩
  · skip
    refine xt_blk rfl rfl (by dsimp only [List.take]) ?_
    refine xt_iln1 rfl ?_
    refine xt_iln2 rfl ?_
    refine xt_iln3 rfl ?_
    refine xt_v3 (key := 414) (q := q_X7_wrong) rfl rfl rfl rfl rfl ⟨Nat.le_of_ble_eq_true rfl, Nat.le_of_ble_eq_true rfl⟩ ⟨_, _, _, rfl⟩ (fun rv_ S1 M_3 hq_3 => ?_)
    obtain ⟨eS_, eM_, h_r⟩ := hq_3 _ _ _ rfl
    replace eS_ := eS_.symm
    replace eM_ := eM_.symm
    subst eS_ eM_
    have hex_r : ∃ v, rv_ = some (.inl v) := by rcases h_r with ⟨-, e⟩ | ⟨-, -, e⟩ | ⟨-, -, e⟩ <;> exact ⟨_, e⟩
    obtain ⟨v_r, rfl⟩ := hex_r
    simp only [Option.some.injEq, Sum.inl.injEq] at h_r
    replace h_r : rfA w a b v_r := h_r
    try dsimp only [Option.toList, List.cons_append, List.nil_append]
    refine xt_ist rfl (by dsimp only [x_sto]) ?_
    refine xt_ild rfl ?_
    refine xt_ge (t := 22) rfl (fun hc_10 => ?_) (fun hc_10 => ?_)
    · skip
      obtain ⟨k_2, k_1⟩ := rfA_ge h_r hc_10
      obtain ⟨wn, hwn, ewn⟩ := id k_1
      subst ewn
      have vw : nv (nI wn) = wn := nv_nI (by omega)
      obtain ⟨⟨an, han, ean⟩, ⟨bn, hbn, ebn⟩, hab⟩ := id k_2
      subst ean ebn
      have va : nv (nI an) = an := nv_nI (by omega)
      have vb : nv (nI bn) = bn := nv_nI (by omega)
      have hne : an ≠ bn := fun e => hab (by rw [e])
      refine xt_blk rfl rfl (by dsimp only [List.take]) ?_
      refine xt_aln0 rfl (by first | decide | omega | assumption) ?_
      refine xt_iln1 rfl ?_
      refine xt_iln2 rfl ?_
      refine xt_iln3 rfl ?_
      refine xt_v4 (key := 436) (q := q_X7_canSet) rfl rfl rfl rfl rfl ⟨Nat.le_of_ble_eq_true rfl, Nat.le_of_ble_eq_true rfl⟩ ⟨wn, an, bn, c, hwn, han, hbn, hne, hRI, rfl, rfl⟩ (fun rv_ S1 M_26 hq_26 => ?_)
      obtain ⟨eS_, hRk, v, hv, rfl⟩ := hq_26 wn an bn hwn han hbn rfl
      replace eS_ := eS_.symm
      subst eS_
      try dsimp only [Option.toList, List.cons_append, List.nil_append]
      refine xt_nil (t := 29) rfl ?_
      refine xt_blk rfl rfl (by dsimp only [List.take]) ?_
      refine xt_ri rfl (Nat.le_refl _) ?_
      intro w2 a2 b2 e2
      simp only [List.cons.injEq, Sum.inl.injEq, and_true, true_and] at e2
      obtain ⟨rfl, rfl, rfl⟩ := e2
      refine ⟨rfl, RE_k hRk ?_⟩
      unfold spCan
      rw [spAl_ok k_2 k_1, vw, va, vb, caF_e hv]
    · skip
      obtain ⟨p, hp0, hp7, ev, hpp⟩ := rfA_lt h_r hc_10
      subst ev
      refine xt_aln0 rfl (by first | decide | omega | assumption) ?_
      refine xt_ild rfl ?_
      refine xt_v2 (key := 280) (q := q_X7_refuse) rfl rfl rfl rfl rfl ⟨Nat.le_of_ble_eq_true rfl, Nat.le_of_ble_eq_true rfl⟩ ⟨p, hp0, hp7, rfl, rfl⟩ (fun rv_ S1 M_16 hq_16 => ?_)
      obtain ⟨eS_, eM_, rfl⟩ := hq_16 p hp0 hp7 rfl
      replace eS_ := eS_.symm
      replace eM_ := eM_.symm
      subst eS_ eM_
      try dsimp only [Option.toList, List.cons_append, List.nil_append]
      refine xt_goto (t := 29) rfl ?_
      refine xt_blk rfl rfl (by dsimp only [List.take]) ?_
      refine xt_ri rfl (Nat.le_refl _) ?_
      intro w2 a2 b2 e2
      simp only [List.cons.injEq, Sum.inl.injEq, and_true, true_and] at e2
      obtain ⟨rfl, rfl, rfl⟩ := e2
      exact ⟨rfl, RE_R (rfA_sp hpp)⟩
  · intro μ pc ls st S2 M2 cs sl h; exact h.elim
def q_X7_drawing : x_K := (4, fun as S M => ∃ (w : Int32) (t : Int32) (e : Int32) (c : Nat), RI c M ∧ S = SH ∧ as = [.inr (.inl 53), .inl w, .inl t, .inl e], fun as S M rv_ S' M' => ∀ (w : Int32) (t : Int32) (e : Int32), as = [.inr (.inl 53), .inl w, .inl t, .inl e] → S' = S ∧ REnd M M' rv_ (spDrawing (cM M) w t e), 0, 0)
theorem r_X7_drawing : ∀ as S M, q_X7_drawing.2.1 as S M → ∃ (k : Nat) (as' : List x_V) (fs : List (Option Nat)), as = .inr (.inl k) :: as' ∧ S[k]? = some (.inl (5, fs)) := by
  rintro as S M ⟨w, t, e, c, -, rfl, rfl⟩
  exact ⟨53, _, _, rfl, rfl⟩
def b_X7_drawing : x_B := [(0, 4, [(.iload_n 2, 1), (.invokestatic 100, 3), (.ifCond .ne 9, 3), (.aload_n 0, 1), (.iconst (-1), 1), (.invokevirtual 93, 3), (.ireturn, 1)]),
  (13, 4, [(.iload_n 1, 1), (.invokestatic 135, 3), (.ifCond .eq 12, 3), (.iload_n 3, 1), (.iconst 0, 1), (.iconst 1, 1), (.invokestatic 85, 3), (.ifCond .ne 10, 3)]),
  (29, 4, [(.aload_n 0, 1), (.bipush (-2), 2), (.invokevirtual 93, 3), (.ireturn, 1)]),
  (36, 4, [(.aload_n 0, 1), (.iload_n 1, 1), (.iconst 0, 1), (.invokevirtual 142, 3), (.ifCond .eq 15, 3), (.aload_n 0, 1), (.iconst 2, 1), (.iload_n 2, 1), (.imul, 1), (.iload_n 3, 1), (.iadd, 1), (.invokevirtual 154, 3), (.goto 5, 3)]),
  (57, 4, [(.bipush (-9), 2)]),
  (59, 4, [(.ireturn, 1)])]
theorem b_X7_drawing_ok : x_okB cX7_drawing 4 b_X7_drawing = true := by decide +kernel
def X_X7_drawing : x_X := ([], [], [], [], [(300, q_X7_isThing), (280, q_X7_refuse), (405, q_X7_isWay), (255, q_X7_in), (427, q_X7_canBeWithout), (463, q_X7_rankOf)], (0, 0), x_kn, x_kf, 5, false)
theorem X_X7_drawing_ok : x_okT RX7 X_X7_drawing = true := by decide +kernel
theorem k_X7_drawing (l : Launch) : ∀ z ∈ X_X7_drawing.2.2.2.2.1, x_Cal l (x_rm 5 0 0) cX7_drawing RX7 4 z.1 z.2 := List.forall_mem_cons.mpr ⟨x_cal_S (idx := 100) (c_X7_isThing l) ⟨by decide, by decide⟩ (by decide +kernel) (by decide +kernel) (by decide +kernel) (by decide +kernel) (by decide +kernel), List.forall_mem_cons.mpr ⟨x_cal_V (idx := 93) (ci := 5) (n := 1) (c_X7_refuse l) ⟨by decide, by decide⟩ (by decide +kernel) (by decide +kernel) (by decide +kernel) (by decide +kernel) (by decide +kernel) rfl rfl rfl (by decide +kernel) r_X7_refuse, List.forall_mem_cons.mpr ⟨x_cal_S (idx := 135) (c_X7_isWay l) ⟨by decide, by decide⟩ (by decide +kernel) (by decide +kernel) (by decide +kernel) (by decide +kernel) (by decide +kernel), List.forall_mem_cons.mpr ⟨x_cal_S (idx := 85) (c_X7_in l) ⟨by decide, by decide⟩ (by decide +kernel) (by decide +kernel) (by decide +kernel) (by decide +kernel) (by decide +kernel), List.forall_mem_cons.mpr ⟨x_cal_V (idx := 142) (ci := 5) (n := 2) (c_X7_canBeWithout l) ⟨by decide, by decide⟩ (by decide +kernel) (by decide +kernel) (by decide +kernel) (by decide +kernel) (by decide +kernel) rfl rfl rfl (by decide +kernel) r_X7_canBeWithout, List.forall_mem_cons.mpr ⟨x_cal_V (idx := 154) (ci := 5) (n := 1) (c_X7_rankOf l) ⟨by decide, by decide⟩ (by decide +kernel) (by decide +kernel) (by decide +kernel) (by decide +kernel) (by decide +kernel) rfl rfl rfl (by decide +kernel) r_X7_rankOf, fun _ h => absurd h List.not_mem_nil⟩⟩⟩⟩⟩⟩
set_option maxHeartbeats 4000000 in
set_option maxRecDepth 100000 in
theorem c_X7_drawing (l : Launch) : x_CT l yX7_drawing cX7_drawing 4 (some .int) 5 q_X7_drawing := by
  refine x_meth (X := X_X7_drawing) (bl := b_X7_drawing) (cut := []) (own := RX7) 30 (by decide) rfl X_X7_drawing_ok b_X7_drawing_ok rfl (Nat.le_of_ble_eq_true rfl) (k_X7_drawing l) ?_
  rintro as S M - ⟨w, t, e, c, hRI, rfl, rfl⟩
  have hok := hRI.2.1
  have hV := hRI.2
  have hTb := hRI.1
  refine ⟨fun _ _ _ _ _ _ _ _ => False, ?_, ?_⟩
  · skip
    refine xt_blk rfl rfl (by dsimp only [List.take]) ?_
    refine xt_iln2 rfl ?_
    refine xt_v1 (key := 300) (q := q_X7_isThing) rfl rfl rfl rfl rfl ⟨Nat.le_of_ble_eq_true rfl, Nat.le_of_ble_eq_true rfl⟩ ⟨_, rfl⟩ (fun rv_ S1 M_1 hq_1 => ?_)
    obtain ⟨eS_, eM_, h_c1⟩ := hq_1 _ rfl
    replace eS_ := eS_.symm
    replace eM_ := eM_.symm
    subst eS_ eM_
    have hex_c1 : ∃ v, rv_ = some (.inl v) := by rcases h_c1 with ⟨-, e⟩ | ⟨-, e⟩ <;> exact ⟨_, e⟩
    obtain ⟨v_c1, rfl⟩ := hex_c1
    simp only [Option.some.injEq, Sum.inl.injEq] at h_c1
    try dsimp only [Option.toList, List.cons_append, List.nil_append]
    refine xt_ne (t := 13) rfl (fun hc_4 => ?_) (fun hc_4 => ?_)
    · skip
      have k_1 := k_yes h_c1 hc_4
      refine xt_blk rfl rfl (by dsimp only [List.take]) ?_
      refine xt_iln1 rfl ?_
      refine xt_v1 (key := 405) (q := q_X7_isWay) rfl rfl rfl rfl rfl ⟨Nat.le_of_ble_eq_true rfl, Nat.le_of_ble_eq_true rfl⟩ ⟨_, rfl⟩ (fun rv_ S1 M_14 hq_14 => ?_)
      obtain ⟨eS_, eM_, h_c14⟩ := hq_14 _ rfl
      replace eS_ := eS_.symm
      replace eM_ := eM_.symm
      subst eS_ eM_
      have hex_c14 : ∃ v, rv_ = some (.inl v) := by rcases h_c14 with ⟨-, e⟩ | ⟨-, e⟩ <;> exact ⟨_, e⟩
      obtain ⟨v_c14, rfl⟩ := hex_c14
      simp only [Option.some.injEq, Sum.inl.injEq] at h_c14
      try dsimp only [Option.toList, List.cons_append, List.nil_append]
      refine xt_eq (t := 29) rfl (fun hc_17 => ?_) (fun hc_17 => ?_)
      · skip
        have k_14 := k_no h_c14 hc_17
        refine xt_blk rfl rfl (by dsimp only [List.take]) ?_
        refine xt_aln0 rfl (by first | decide | omega | assumption) ?_
        refine xt_bim rfl ?_
        refine xt_v2 (key := 280) (q := q_X7_refuse) rfl rfl rfl rfl rfl ⟨Nat.le_of_ble_eq_true rfl, Nat.le_of_ble_eq_true rfl⟩ ⟨2, by decide, by decide, rfl, rfl⟩ (fun rv_ S1 M_32 hq_32 => ?_)
        obtain ⟨eS_, eM_, rfl⟩ := hq_32 2 (by decide) (by decide) rfl
        replace eS_ := eS_.symm
        replace eM_ := eM_.symm
        subst eS_ eM_
        try dsimp only [Option.toList, List.cons_append, List.nil_append]
        refine xt_ri rfl (Nat.le_refl _) ?_
        intro w2 t2 e2 e2
        simp only [List.cons.injEq, Sum.inl.injEq, and_true, true_and] at e2
        obtain ⟨rfl, rfl, rfl⟩ := e2
        refine ⟨rfl, RE_R ?_⟩
        unfold spDrawing
        rw [cif_t k_1, cif_f k_14]
      · skip
        have k_14 := k_yes h_c14 hc_17
        refine xt_iln3 rfl ?_
        refine xt_ic ?_
        refine xt_ic ?_
        refine xt_v3 (key := 255) (q := q_X7_in) rfl rfl rfl rfl rfl ⟨Nat.le_of_ble_eq_true rfl, Nat.le_of_ble_eq_true rfl⟩ ⟨_, _, _, rfl⟩ (fun rv_ S1 M_23 hq_23 => ?_)
        obtain ⟨eS_, eM_, h_c23⟩ := hq_23 _ _ _ rfl
        replace eS_ := eS_.symm
        replace eM_ := eM_.symm
        subst eS_ eM_
        have hex_c23 : ∃ v, rv_ = some (.inl v) := by rcases h_c23 with ⟨-, e⟩ | ⟨-, e⟩ <;> exact ⟨_, e⟩
        obtain ⟨v_c23, rfl⟩ := hex_c23
        simp only [Option.some.injEq, Sum.inl.injEq] at h_c23
        replace h_c23 := in_Th (N := 1) (by decide) h_c23
        try dsimp only [Option.toList, List.cons_append, List.nil_append]
        refine xt_ne (t := 36) rfl (fun hc_26 => ?_) (fun hc_26 => ?_)
        · skip
          have k_23 := k_yes h_c23 hc_26
          obtain ⟨tn, htn, etn⟩ := id k_1
          subst etn
          have vt : nv (nI tn) = tn := nv_nI (by omega)
          obtain ⟨wn, hwn, ewn⟩ := id k_14
          subst ewn
          have vw : nv (nI wn) = wn := nv_nI (by omega)
          obtain ⟨en, hen, een⟩ := id k_23
          subst een
          have ve : nv (nI en) = en := nv_nI (by omega)
          refine xt_blk rfl rfl (by dsimp only [List.take]) ?_
          refine xt_aln0 rfl (by first | decide | omega | assumption) ?_
          refine xt_iln1 rfl ?_
          refine xt_ic ?_
          refine xt_v3 (key := 427) (q := q_X7_canBeWithout) rfl rfl rfl rfl rfl ⟨Nat.le_of_ble_eq_true rfl, Nat.le_of_ble_eq_true rfl⟩ ⟨wn, 0, c, hwn, by decide, hRI, rfl, rfl⟩ (fun rv_ S1 M_39 hq_39 => ?_)
          obtain ⟨eS_, hRk, hpos⟩ := hq_39 wn 0 hwn (by decide) rfl
          replace eS_ := eS_.symm
          subst eS_
          rw [tN_0 hok wn] at hpos
          have hex : ∃ v, rv_ = some (.inl v) := by rcases hpos with ⟨e, -⟩ | ⟨e, -⟩ <;> exact ⟨_, e⟩
          obtain ⟨v, rfl⟩ := hex
          simp only [Option.some.injEq, Sum.inl.injEq] at hpos
          try dsimp only [Option.toList, List.cons_append, List.nil_append]
          refine xt_eq (t := 57) rfl (fun hc_42 => ?_) (fun hc_42 => ?_)
          · skip
            have hsat : ¬ Sat (tF (cM M) wn) := by
              rcases hpos with ⟨e, -⟩ | ⟨-, z⟩
              · rw [e] at hc_42; exact absurd hc_42 (by decide)
              · exact z
            refine xt_blk rfl rfl (by dsimp only [List.take]) ?_
            refine xt_bim rfl ?_
            refine xt_nil (t := 59) rfl ?_
            refine xt_blk rfl rfl (by dsimp only [List.take]) ?_
            refine xt_ri rfl (Nat.le_refl _) ?_
            intro w2 t2 e2 e2
            simp only [List.cons.injEq, Sum.inl.injEq, and_true, true_and] at e2
            obtain ⟨rfl, rfl, rfl⟩ := e2
            refine ⟨rfl, RE_k hRk ?_⟩
            unfold spDrawing
            rw [cif_t k_1, cif_t k_14, cif_t k_23, vw, cif_f hsat]
          · skip
            have hfs : ∃ s, Fs (tF (cM M) wn) s ∧ R540 M_39 s := by
              rcases hpos with ⟨-, z⟩ | ⟨e, -⟩
              · exact z
              · rw [e] at hc_42; exact absurd rfl hc_42
            obtain ⟨s, hFs, hR⟩ := hfs
            have hsat := Fs_Sat hFs
            have ei : nI 2 * nI tn + nI en = nI (tn * 2 + en) := by rw [pk_mul, nI_add]; congr 1; omega
            refine xt_aln0 rfl (by first | decide | omega | assumption) ?_
            refine xt_ic ?_
            refine xt_iln2 rfl ?_
            refine xt_mul ?_
            refine xt_iln3 rfl ?_
            refine xt_add ?_
            refine xt_v2 (key := 463) (q := q_X7_rankOf) rfl rfl rfl rfl rfl ⟨Nat.le_of_ble_eq_true rfl, Nat.le_of_ble_eq_true rfl⟩ ⟨tn * 2 + en, s, by omega, (Rk_Tb hRk hTb).2.1, hR, rfl, by rw [ei]⟩ (fun rv_ S1 M_51 hq_51 => ?_)
            obtain ⟨eS_, eM_, rfl⟩ := hq_51 (tn * 2 + en) s (by omega) hR (by rw [ei])
            replace eS_ := eS_.symm
            replace eM_ := eM_.symm
            subst eS_ eM_
            try dsimp only [Option.toList, List.cons_append, List.nil_append]
            refine xt_goto (t := 59) rfl ?_
            refine xt_blk rfl rfl (by dsimp only [List.take]) ?_
            refine xt_ri rfl (Nat.le_refl _) ?_
            intro w2 t2 e2 e2
            simp only [List.cons.injEq, Sum.inl.injEq, and_true, true_and] at e2
            obtain ⟨rfl, rfl, rfl⟩ := e2
            refine ⟨rfl, RE_k hRk ?_⟩
            unfold spDrawing
            rw [cif_t k_1, cif_t k_14, cif_t k_23, vw, cif_t hsat, vt, ve, fs_rk hFs (by omega)]
        · skip
          have k_23 := k_no h_c23 hc_26
          refine xt_nil (t := 29) rfl ?_
          refine xt_blk rfl rfl (by dsimp only [List.take]) ?_
          refine xt_aln0 rfl (by first | decide | omega | assumption) ?_
          refine xt_bim rfl ?_
          refine xt_v2 (key := 280) (q := q_X7_refuse) rfl rfl rfl rfl rfl ⟨Nat.le_of_ble_eq_true rfl, Nat.le_of_ble_eq_true rfl⟩ ⟨2, by decide, by decide, rfl, rfl⟩ (fun rv_ S1 M_32 hq_32 => ?_)
          obtain ⟨eS_, eM_, rfl⟩ := hq_32 2 (by decide) (by decide) rfl
          replace eS_ := eS_.symm
          replace eM_ := eM_.symm
          subst eS_ eM_
          try dsimp only [Option.toList, List.cons_append, List.nil_append]
          refine xt_ri rfl (Nat.le_refl _) ?_
          intro w2 t2 e2 e2
          simp only [List.cons.injEq, Sum.inl.injEq, and_true, true_and] at e2
          obtain ⟨rfl, rfl, rfl⟩ := e2
          refine ⟨rfl, RE_R ?_⟩
          unfold spDrawing
          rw [cif_t k_1, cif_t k_14, cif_f k_23]
    · skip
      have k_1 := k_no h_c1 hc_4
      refine xt_aln0 rfl (by first | decide | omega | assumption) ?_
      refine xt_icm rfl ?_
      refine xt_v2 (key := 280) (q := q_X7_refuse) rfl rfl rfl rfl rfl ⟨Nat.le_of_ble_eq_true rfl, Nat.le_of_ble_eq_true rfl⟩ ⟨1, by decide, by decide, rfl, rfl⟩ (fun rv_ S1 M_9 hq_9 => ?_)
      obtain ⟨eS_, eM_, rfl⟩ := hq_9 1 (by decide) (by decide) rfl
      replace eS_ := eS_.symm
      replace eM_ := eM_.symm
      subst eS_ eM_
      try dsimp only [Option.toList, List.cons_append, List.nil_append]
      refine xt_ri rfl (Nat.le_refl _) ?_
      intro w2 t2 e2 e2
      simp only [List.cons.injEq, Sum.inl.injEq, and_true, true_and] at e2
      obtain ⟨rfl, rfl, rfl⟩ := e2
      refine ⟨rfl, RE_R ?_⟩
      unfold spDrawing
      rw [cif_f k_1]
  · intro μ pc ls st S2 M2 cs sl h; exact h.elim
def q_X7_drawn : x_K := (4, fun as S M => ∃ (w : Int32) (a : Int32) (b : Int32) (c : Nat), RI c M ∧ S = SH ∧ as = [.inr (.inl 53), .inl w, .inl a, .inl b], fun as S M rv_ S' M' => ∀ (w : Int32) (a : Int32) (b : Int32), as = [.inr (.inl 53), .inl w, .inl a, .inl b] → S' = S ∧ REnd M M' rv_ (spDrawn (cM M) w a b), 0, 0)
theorem r_X7_drawn : ∀ as S M, q_X7_drawn.2.1 as S M → ∃ (k : Nat) (as' : List x_V) (fs : List (Option Nat)), as = .inr (.inl k) :: as' ∧ S[k]? = some (.inl (5, fs)) := by
  rintro as S M ⟨w, a, b, c, -, rfl, rfl⟩
  exact ⟨53, _, _, rfl, rfl⟩
def b_X7_drawn : x_B := [(0, 4, [(.iload_n 1, 1), (.iload_n 2, 1), (.iload_n 3, 1), (.invokestatic 138, 3), (.istore 4, 2), (.iload 4, 2), (.ifCond .ge 10, 3), (.aload_n 0, 1), (.iload 4, 2), (.invokevirtual 93, 3), (.ireturn, 1)]),
  (20, 5, [(.aload_n 0, 1), (.iload_n 1, 1), (.iconst 0, 1), (.invokevirtual 142, 3), (.ifCond .eq 24, 3), (.aload_n 0, 1), (.getfield 50, 3), (.sipush 540, 3), (.bipush 6, 2), (.iload_n 2, 1), (.imul, 1), (.iadd, 1), (.iload_n 3, 1), (.iadd, 1), (.iaload, 1), (.invokestatic 148, 3), (.goto 5, 3)]),
  (50, 5, [(.bipush (-9), 2)]),
  (52, 5, [(.ireturn, 1)])]
theorem b_X7_drawn_ok : x_okB cX7_drawn 5 b_X7_drawn = true := by decide +kernel
def X_X7_drawn : x_X := ([(50, 5, 14)], [], [], [], [(414, q_X7_wrong), (280, q_X7_refuse), (427, q_X7_canBeWithout), (444, q_X7_bitOf)], (0, 0), x_kn, x_kf, 5, false)
theorem X_X7_drawn_ok : x_okT RX7 X_X7_drawn = true := by decide +kernel
theorem k_X7_drawn (l : Launch) : ∀ z ∈ X_X7_drawn.2.2.2.2.1, x_Cal l (x_rm 5 0 0) cX7_drawn RX7 5 z.1 z.2 := List.forall_mem_cons.mpr ⟨x_cal_S (idx := 138) (c_X7_wrong l) ⟨by decide, by decide⟩ (by decide +kernel) (by decide +kernel) (by decide +kernel) (by decide +kernel) (by decide +kernel), List.forall_mem_cons.mpr ⟨x_cal_V (idx := 93) (ci := 5) (n := 1) (c_X7_refuse l) ⟨by decide, by decide⟩ (by decide +kernel) (by decide +kernel) (by decide +kernel) (by decide +kernel) (by decide +kernel) rfl rfl rfl (by decide +kernel) r_X7_refuse, List.forall_mem_cons.mpr ⟨x_cal_V (idx := 142) (ci := 5) (n := 2) (c_X7_canBeWithout l) ⟨by decide, by decide⟩ (by decide +kernel) (by decide +kernel) (by decide +kernel) (by decide +kernel) (by decide +kernel) rfl rfl rfl (by decide +kernel) r_X7_canBeWithout, List.forall_mem_cons.mpr ⟨x_cal_S (idx := 148) (c_X7_bitOf l) ⟨by decide, by decide⟩ (by decide +kernel) (by decide +kernel) (by decide +kernel) (by decide +kernel) (by decide +kernel), fun _ h => absurd h List.not_mem_nil⟩⟩⟩⟩
set_option maxHeartbeats 4000000 in
set_option maxRecDepth 100000 in
theorem c_X7_drawn (l : Launch) : x_CT l yX7_drawn cX7_drawn 5 (some .int) 5 q_X7_drawn := by
  refine x_meth (X := X_X7_drawn) (bl := b_X7_drawn) (cut := []) (own := RX7) 30 (by decide) rfl X_X7_drawn_ok b_X7_drawn_ok rfl (Nat.le_of_ble_eq_true rfl) (k_X7_drawn l) ?_
  rintro as S M - ⟨w, a, b, c, hRI, rfl, rfl⟩
  have hok := hRI.2.1
  have hV := hRI.2
  have hTb := hRI.1
  refine ⟨fun _ _ _ _ _ _ _ _ => False, ?_, ?_⟩
  · skip
    refine xt_blk rfl rfl (by dsimp only [List.take]) ?_
    refine xt_iln1 rfl ?_
    refine xt_iln2 rfl ?_
    refine xt_iln3 rfl ?_
    refine xt_v3 (key := 414) (q := q_X7_wrong) rfl rfl rfl rfl rfl ⟨Nat.le_of_ble_eq_true rfl, Nat.le_of_ble_eq_true rfl⟩ ⟨_, _, _, rfl⟩ (fun rv_ S1 M_3 hq_3 => ?_)
    obtain ⟨eS_, eM_, h_r⟩ := hq_3 _ _ _ rfl
    replace eS_ := eS_.symm
    replace eM_ := eM_.symm
    subst eS_ eM_
    have hex_r : ∃ v, rv_ = some (.inl v) := by rcases h_r with ⟨-, e⟩ | ⟨-, -, e⟩ | ⟨-, -, e⟩ <;> exact ⟨_, e⟩
    obtain ⟨v_r, rfl⟩ := hex_r
    simp only [Option.some.injEq, Sum.inl.injEq] at h_r
    replace h_r : rfA w a b v_r := h_r
    try dsimp only [Option.toList, List.cons_append, List.nil_append]
    refine xt_ist rfl (by dsimp only [x_sto]) ?_
    refine xt_ild rfl ?_
    refine xt_ge (t := 20) rfl (fun hc_10 => ?_) (fun hc_10 => ?_)
    · skip
      obtain ⟨k_2, k_1⟩ := rfA_ge h_r hc_10
      obtain ⟨wn, hwn, ewn⟩ := id k_1
      subst ewn
      have vw : nv (nI wn) = wn := nv_nI (by omega)
      obtain ⟨⟨an, han, ean⟩, ⟨bn, hbn, ebn⟩, hab⟩ := id k_2
      subst ean ebn
      have va : nv (nI an) = an := nv_nI (by omega)
      have vb : nv (nI bn) = bn := nv_nI (by omega)
      have hne : an ≠ bn := fun e => hab (by rw [e])
      refine xt_blk rfl rfl (by dsimp only [List.take]) ?_
      refine xt_aln0 rfl (by first | decide | omega | assumption) ?_
      refine xt_iln1 rfl ?_
      refine xt_ic ?_
      refine xt_v3 (key := 427) (q := q_X7_canBeWithout) rfl rfl rfl rfl rfl ⟨Nat.le_of_ble_eq_true rfl, Nat.le_of_ble_eq_true rfl⟩ ⟨wn, 0, c, hwn, by decide, hRI, rfl, rfl⟩ (fun rv_ S1 M_23 hq_23 => ?_)
      obtain ⟨eS_, hRk, hpos⟩ := hq_23 wn 0 hwn (by decide) rfl
      replace eS_ := eS_.symm
      subst eS_
      rw [tN_0 hok wn] at hpos
      have hex : ∃ v, rv_ = some (.inl v) := by rcases hpos with ⟨e, -⟩ | ⟨e, -⟩ <;> exact ⟨_, e⟩
      obtain ⟨v, rfl⟩ := hex
      simp only [Option.some.injEq, Sum.inl.injEq] at hpos
      try dsimp only [Option.toList, List.cons_append, List.nil_append]
      refine xt_eq (t := 50) rfl (fun hc_26 => ?_) (fun hc_26 => ?_)
      · skip
        have hsat : ¬ Sat (tF (cM M) wn) := by
          rcases hpos with ⟨e, -⟩ | ⟨-, z⟩
          · rw [e] at hc_26; exact absurd hc_26 (by decide)
          · exact z
        refine xt_blk rfl rfl (by dsimp only [List.take]) ?_
        refine xt_bim rfl ?_
        refine xt_nil (t := 52) rfl ?_
        refine xt_blk rfl rfl (by dsimp only [List.take]) ?_
        refine xt_ri rfl (Nat.le_refl _) ?_
        intro w2 a2 b2 e2
        simp only [List.cons.injEq, Sum.inl.injEq, and_true, true_and] at e2
        obtain ⟨rfl, rfl, rfl⟩ := e2
        refine ⟨rfl, RE_k hRk ?_⟩
        unfold spDrawn
        rw [spAl_ok k_2 k_1, vw, cif_f hsat]
      · skip
        have hfs : ∃ s, Fs (tF (cM M) wn) s ∧ R540 M_23 s := by
          rcases hpos with ⟨-, z⟩ | ⟨e, -⟩
          · exact z
          · rw [e] at hc_26; exact absurd rfl hc_26
        obtain ⟨s, hFs, hR⟩ := hfs
        have hsat := Fs_Sat hFs
        have hrl := rel_lt hR.1 han hbn
        have e67 : M_23 67 (nI 540 + nI 6 * nI an + nI bn).toNatClampNeg = nI (2 ^ rel s an bn) := by rw [ix540 han hbn]; exact hR.2 _ _ han hbn hne
        refine xt_aln0 rfl (by first | decide | omega | assumption) ?_
        refine xt_gfr (q := (5, 14)) rfl (by first | rfl | assumption) rfl ?_
        refine xt_si ?_
        refine xt_bi ?_
        refine xt_iln2 rfl ?_
        refine xt_mul ?_
        refine xt_add ?_
        refine xt_iln3 rfl ?_
        refine xt_add ?_
        refine xt_ial (by first | rfl | assumption) (vx540 han hbn) ?_
        refine xt_v1 (key := 444) (q := q_X7_bitOf) rfl rfl rfl rfl rfl ⟨Nat.le_of_ble_eq_true rfl, Nat.le_of_ble_eq_true rfl⟩ ⟨rel s an bn, hrl, by rw [e67]⟩ (fun rv_ S1 M_44 hq_44 => ?_)
        obtain ⟨eS_, eM_, rfl⟩ := hq_44 (rel s an bn) hrl (by rw [e67])
        replace eS_ := eS_.symm
        replace eM_ := eM_.symm
        subst eS_ eM_
        try dsimp only [Option.toList, List.cons_append, List.nil_append]
        refine xt_goto (t := 52) rfl ?_
        refine xt_blk rfl rfl (by dsimp only [List.take]) ?_
        refine xt_ri rfl (Nat.le_refl _) ?_
        intro w2 a2 b2 e2
        simp only [List.cons.injEq, Sum.inl.injEq, and_true, true_and] at e2
        obtain ⟨rfl, rfl, rfl⟩ := e2
        refine ⟨rfl, RE_k hRk ?_⟩
        unfold spDrawn
        rw [spAl_ok k_2 k_1, vw, cif_t hsat, va, vb, fs_rel hFs han hbn]
    · skip
      obtain ⟨p, hp0, hp7, ev, hpp⟩ := rfA_lt h_r hc_10
      subst ev
      refine xt_aln0 rfl (by first | decide | omega | assumption) ?_
      refine xt_ild rfl ?_
      refine xt_v2 (key := 280) (q := q_X7_refuse) rfl rfl rfl rfl rfl ⟨Nat.le_of_ble_eq_true rfl, Nat.le_of_ble_eq_true rfl⟩ ⟨p, hp0, hp7, rfl, rfl⟩ (fun rv_ S1 M_16 hq_16 => ?_)
      obtain ⟨eS_, eM_, rfl⟩ := hq_16 p hp0 hp7 rfl
      replace eS_ := eS_.symm
      replace eM_ := eM_.symm
      subst eS_ eM_
      try dsimp only [Option.toList, List.cons_append, List.nil_append]
      refine xt_ri rfl (Nat.le_refl _) ?_
      intro w2 a2 b2 e2
      simp only [List.cons.injEq, Sum.inl.injEq, and_true, true_and] at e2
      obtain ⟨rfl, rfl, rfl⟩ := e2
      exact ⟨rfl, RE_R (rfA_sp hpp)⟩
  · intro μ pc ls st S2 M2 cs sl h; exact h.elim
