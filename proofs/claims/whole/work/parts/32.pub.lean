/-! REFUSALS; the class: turned, composed, near, steps -/
def mRef (M : x_M) (p : Nat) : x_M := x_row M 52 (upd (M 52) p (M 52 p + nI 1))
def nRef (M : x_M) (p : Nat) : x_M := x_row M 65 (upd (M 65) p (M 65 p + nI 1))
def q_X6_refuse : x_K := (2, fun as S M => ∃ p, 0 < p ∧ p < 7 ∧ S = SH ∧ as = [.inr (.inl 0), .inl (-(nI p))], fun as S M rv_ S' M' => ∀ p, 0 < p → p < 7 → as = [.inr (.inl 0), .inl (-(nI p))] → S' = S ∧ M' = mRef M p ∧ rv_ = some (.inl (-(nI p))), 0, 0)
theorem r_X6_refuse : ∀ as S M, q_X6_refuse.2.1 as S M → ∃ (k : Nat) (as' : List x_V) (fs : List (Option Nat)), as = .inr (.inl k) :: as' ∧ S[k]? = some (.inl (4, fs)) := by
  rintro as S M ⟨p, -, -, rfl, rfl⟩
  exact ⟨0, _, _, rfl, rfl⟩
def b_X6_refuse : x_B := [(0, 2, [(.iload_n 1, 1), (.ineg, 1), (.istore_n 2, 1), (.iload_n 2, 1), (.ifCond .lt 22, 3), (.iload_n 2, 1), (.aload_n 0, 1), (.getfield 49, 3), (.arraylength, 1), (.if_icmp .ge 13, 3), (.aload_n 0, 1), (.getfield 49, 3), (.iload_n 2, 1), (.dup2, 1), (.iaload, 1), (.iconst 1, 1), (.iadd, 1), (.iastore, 1)]),
  (26, 3, [(.iload_n 1, 1), (.ireturn, 1)])]
theorem b_X6_refuse_ok : x_okB cX6_refuse 3 b_X6_refuse = true := by decide +kernel
def X_X6_refuse : x_X := ([(49, 4, 5)], [], [], [], [], (0, 0), x_kn, x_kf, 5, false)
theorem X_X6_refuse_ok : x_okT RX6 X_X6_refuse = true := by decide +kernel
theorem k_X6_refuse (l : Launch) : ∀ z ∈ X_X6_refuse.2.2.2.2.1, x_Cal l (x_rm 1 0 0) cX6_refuse RX6 3 z.1 z.2 := fun _ h => absurd h List.not_mem_nil
set_option maxHeartbeats 4000000 in
set_option maxRecDepth 100000 in
theorem c_X6_refuse (l : Launch) : x_CT l yX6_refuse cX6_refuse 3 (some .int) 1 q_X6_refuse := by
  refine x_meth (X := X_X6_refuse) (bl := b_X6_refuse) (cut := []) (own := RX6) 30 (by decide) rfl X_X6_refuse_ok b_X6_refuse_ok rfl (Nat.le_of_ble_eq_true rfl) (k_X6_refuse l) ?_
  rintro as S M - ⟨p, hp0, hp7, rfl, rfl⟩
  refine ⟨fun _ _ _ _ _ _ _ _ => False, ?_, ?_⟩
  · skip
    refine xt_blk rfl rfl (by dsimp only [List.take]) ?_
    refine xt_iln1 rfl ?_
    refine xt_neg ?_
    refine xt_isn2 rfl (by dsimp only [x_sto]) ?_
    refine xt_iln2 rfl ?_
    refine xt_lt (t := 26) rfl (fun hc_4 => ?_) (fun hc_4 => ?_)
    · skip
      refine xt_blk rfl rfl (by dsimp only [List.take]) ?_
      refine xt_iln1 rfl ?_
      refine xt_ri rfl (Nat.le_refl _) ?_
      exfalso
      rw [Int32.neg_neg] at hc_4
      exact nI_pos (by omega) hc_4
    · skip
      refine xt_iln2 rfl ?_
      refine xt_aln0 rfl (by first | decide | omega | assumption) ?_
      refine xt_gfr (q := (4, 5)) rfl (by first | rfl | assumption) rfl ?_
      refine xt_len (by first | rfl | assumption) ?_
      refine xt_cge (t := 26) rfl (fun hc_13 => ?_) (fun hc_13 => ?_)
      · skip
        refine xt_blk rfl rfl (by dsimp only [List.take]) ?_
        refine xt_iln1 rfl ?_
        refine xt_ri rfl (Nat.le_refl _) ?_
        exfalso
        rw [Int32.neg_neg, nI_leI (by omega) (by omega)] at hc_13
        omega
      · skip
        refine xt_aln0 rfl (by first | decide | omega | assumption) ?_
        refine xt_gfr (q := (4, 5)) rfl (by first | rfl | assumption) rfl ?_
        refine xt_iln2 rfl ?_
        refine xt_dup2 ?_
        refine xt_ial (by first | rfl | assumption) (show vp_in _ 7 from by rw [Int32.neg_neg]; exact vp_in_nI (by omega) (by decide)) ?_
        refine xt_ic ?_
        refine xt_add ?_
        refine xt_ias (by first | rfl | assumption) (show vp_in _ 7 from by rw [Int32.neg_neg]; exact vp_in_nI (by omega) (by decide)) ?_
        refine xt_nil (t := 26) rfl ?_
        refine xt_blk rfl rfl (by dsimp only [List.take]) ?_
        refine xt_iln1 rfl ?_
        refine xt_ri rfl (Nat.le_refl _) ?_
        intro p2 hp2 hq2 e2
        simp only [List.cons.injEq, Sum.inl.injEq, and_true, true_and] at e2
        have e3 := congrArg (fun z => -z) e2
        simp only [Int32.neg_neg] at e3
        rw [nI_eq (by omega) (by omega)] at e3
        subst e3
        exact ⟨rfl, by unfold mRef; rw [Int32.neg_neg, nI_clamp (by omega)], rfl⟩
  · intro μ pc ls st S2 M2 cs sl h; exact h.elim
def q_X7_refuse : x_K := (2, fun as S M => ∃ p, 0 < p ∧ p < 7 ∧ S = SH ∧ as = [.inr (.inl 53), .inl (-(nI p))], fun as S M rv_ S' M' => ∀ p, 0 < p → p < 7 → as = [.inr (.inl 53), .inl (-(nI p))] → S' = S ∧ M' = nRef M p ∧ rv_ = some (.inl (-(nI p))), 0, 0)
theorem r_X7_refuse : ∀ as S M, q_X7_refuse.2.1 as S M → ∃ (k : Nat) (as' : List x_V) (fs : List (Option Nat)), as = .inr (.inl k) :: as' ∧ S[k]? = some (.inl (5, fs)) := by
  rintro as S M ⟨p, -, -, rfl, rfl⟩
  exact ⟨53, _, _, rfl, rfl⟩
def b_X7_refuse : x_B := [(0, 2, [(.aload_n 0, 1), (.getfield 44, 3), (.iload_n 1, 1), (.ineg, 1), (.dup2, 1), (.iaload, 1), (.iconst 1, 1), (.iadd, 1), (.iastore, 1), (.iload_n 1, 1), (.ireturn, 1)])]
theorem b_X7_refuse_ok : x_okB cX7_refuse 2 b_X7_refuse = true := by decide +kernel
def X_X7_refuse : x_X := ([(44, 5, 12)], [], [], [], [], (0, 0), x_kn, x_kf, 5, false)
theorem X_X7_refuse_ok : x_okT RX7 X_X7_refuse = true := by decide +kernel
theorem k_X7_refuse (l : Launch) : ∀ z ∈ X_X7_refuse.2.2.2.2.1, x_Cal l (x_rm 1 0 0) cX7_refuse RX7 2 z.1 z.2 := fun _ h => absurd h List.not_mem_nil
set_option maxHeartbeats 4000000 in
set_option maxRecDepth 100000 in
theorem c_X7_refuse (l : Launch) : x_CT l yX7_refuse cX7_refuse 2 (some .int) 1 q_X7_refuse := by
  refine x_meth (X := X_X7_refuse) (bl := b_X7_refuse) (cut := []) (own := RX7) 30 (by decide) rfl X_X7_refuse_ok b_X7_refuse_ok rfl (Nat.le_of_ble_eq_true rfl) (k_X7_refuse l) ?_
  rintro as S M - ⟨p, hp0, hp7, rfl, rfl⟩
  refine ⟨fun _ _ _ _ _ _ _ _ => False, ?_, ?_⟩
  · skip
    refine xt_blk rfl rfl (by dsimp only [List.take]) ?_
    refine xt_aln0 rfl (by first | decide | omega | assumption) ?_
    refine xt_gfr (q := (5, 12)) rfl (by first | rfl | assumption) rfl ?_
    refine xt_iln1 rfl ?_
    refine xt_neg ?_
    refine xt_dup2 ?_
    refine xt_ial (by first | rfl | assumption) (show vp_in _ 7 from by rw [Int32.neg_neg]; exact vp_in_nI (by omega) (by decide)) ?_
    refine xt_ic ?_
    refine xt_add ?_
    refine xt_ias (by first | rfl | assumption) (show vp_in _ 7 from by rw [Int32.neg_neg]; exact vp_in_nI (by omega) (by decide)) ?_
    refine xt_iln1 rfl ?_
    refine xt_ri rfl (Nat.le_refl _) ?_
    intro p2 hp2 hq2 e2
    simp only [List.cons.injEq, Sum.inl.injEq, and_true, true_and] at e2
    have e3 := congrArg (fun z => -z) e2
    simp only [Int32.neg_neg] at e3
    rw [nI_eq (by omega) (by omega)] at e3
    subst e3
    exact ⟨rfl, by unfold nRef; rw [Int32.neg_neg, nI_clamp (by omega)], rfl⟩
  · intro μ pc ls st S2 M2 cs sl h; exact h.elim
def q_X6_along : x_K := (2, fun as S M => ∃ w : Int32, S = SH ∧ as = [.inr (.inl 0), .inl w], fun as S M rv_ S' M' => ∀ w : Int32, as = [.inr (.inl 0), .inl w] → S' = S ∧ M' = M ∧ rv_ = some (.inr (.inl (if w = 0 then 26 else 33))), 0, 0)
theorem r_X6_along : ∀ as S M, q_X6_along.2.1 as S M → ∃ (k : Nat) (as' : List x_V) (fs : List (Option Nat)), as = .inr (.inl k) :: as' ∧ S[k]? = some (.inl (4, fs)) := by
  rintro as S M ⟨w, rfl, rfl⟩
  exact ⟨0, _, _, rfl, rfl⟩
def b_X6_along : x_B := [(0, 2, [(.iload_n 1, 1), (.ifCond .ne 10, 3), (.aload_n 0, 1), (.getfield 24, 3), (.goto 7, 3)]),
  (11, 2, [(.aload_n 0, 1), (.getfield 28, 3)]),
  (15, 2, [(.areturn, 1)])]
theorem b_X6_along_ok : x_okB cX6_along 2 b_X6_along = true := by decide +kernel
def X_X6_along : x_X := ([(24, 4, 1), (28, 4, 2)], [], [], [], [], (0, 0), x_kn, x_kf, 5, false)
theorem X_X6_along_ok : x_okT RX6 X_X6_along = true := by decide +kernel
theorem k_X6_along (l : Launch) : ∀ z ∈ X_X6_along.2.2.2.2.1, x_Cal l (x_rm 1 0 0) cX6_along RX6 2 z.1 z.2 := fun _ h => absurd h List.not_mem_nil
set_option maxHeartbeats 4000000 in
set_option maxRecDepth 100000 in
theorem c_X6_along (l : Launch) : x_CT l yX6_along cX6_along 2 (some (.object "SpaceWords$Way")) 1 q_X6_along := by
  refine x_meth (X := X_X6_along) (bl := b_X6_along) (cut := []) (own := RX6) 30 (by decide) rfl X_X6_along_ok b_X6_along_ok rfl (Nat.le_of_ble_eq_true rfl) (k_X6_along l) ?_
  rintro as S M - ⟨w, rfl, rfl⟩
  refine ⟨fun _ _ _ _ _ _ _ _ => False, ?_, ?_⟩
  · skip
    refine xt_blk rfl rfl (by dsimp only [List.take]) ?_
    refine xt_iln1 rfl ?_
    refine xt_ne (t := 11) rfl (fun hc_1 => ?_) (fun hc_1 => ?_)
    · skip
      refine xt_blk rfl rfl (by dsimp only [List.take]) ?_
      refine xt_aln0 rfl (by first | decide | omega | assumption) ?_
      refine xt_gfr (q := (4, 2)) rfl (by first | rfl | assumption) rfl ?_
      refine xt_nil (t := 15) rfl ?_
      refine xt_blk rfl rfl (by dsimp only [List.take]) ?_
      refine xt_ra (by first | decide | omega | assumption) rfl (Nat.le_refl _) ?_
      intro w2 e2
      simp only [List.cons.injEq, Sum.inl.injEq, and_true, true_and] at e2
      subst e2
      exact ⟨rfl, rfl, by rw [if_neg hc_1]⟩
    · skip
      refine xt_aln0 rfl (by first | decide | omega | assumption) ?_
      refine xt_gfr (q := (4, 1)) rfl (by first | rfl | assumption) rfl ?_
      refine xt_goto (t := 15) rfl ?_
      refine xt_blk rfl rfl (by dsimp only [List.take]) ?_
      refine xt_ra (by first | decide | omega | assumption) rfl (Nat.le_refl _) ?_
      intro w2 e2
      simp only [List.cons.injEq, Sum.inl.injEq, and_true, true_and] at e2
      subst e2
      exact ⟨rfl, rfl, by rw [if_pos hc_1]⟩
  · intro μ pc ls st S2 M2 cs sl h; exact h.elim
def q_X6_turned : x_K := (2, fun as S M => ∃ (x : Int32), S = SH ∧ as = [.inr (.inl 0), .inl x], fun as S M rv_ S' M' => ∀ (x : Int32), as = [.inr (.inl 0), .inl x] → S' = S ∧ ((∃ xn, xn < 8192 ∧ x = nI xn ∧ M' = M ∧ rv_ = some (.inl (nI (tn xn)))) ∨ (¬ (Th 8192 x) ∧ M' = mRef M 2 ∧ rv_ = some (.inl (-(nI 2))))), 0, 0)
theorem r_X6_turned : ∀ as S M, q_X6_turned.2.1 as S M → ∃ (k : Nat) (as' : List x_V) (fs : List (Option Nat)), as = .inr (.inl k) :: as' ∧ S[k]? = some (.inl (4, fs)) := by
  rintro as S M ⟨x, rfl, rfl⟩
  exact ⟨0, _, _, rfl, rfl⟩
def b_X6_turned : x_B := [(0, 2, [(.iload_n 1, 1), (.invokestatic 53, 3), (.ifCond .ne 10, 3), (.aload_n 0, 1), (.bipush (-2), 2), (.invokevirtual 57, 3), (.ireturn, 1)]),
  (14, 2, [(.iload_n 1, 1), (.invokestatic 61, 3), (.ireturn, 1)])]
theorem b_X6_turned_ok : x_okB cX6_turned 2 b_X6_turned = true := by decide +kernel
def X_X6_turned : x_X := ([], [], [], [], [(159, q_X6_isSet), (172, q_X6_refuse), (183, q_X2_turn)], (0, 0), x_kn, x_kf, 5, false)
theorem X_X6_turned_ok : x_okT RX6 X_X6_turned = true := by decide +kernel
theorem k_X6_turned (l : Launch) : ∀ z ∈ X_X6_turned.2.2.2.2.1, x_Cal l (x_rm 2 0 0) cX6_turned RX6 2 z.1 z.2 := List.forall_mem_cons.mpr ⟨x_cal_S (idx := 53) (c_X6_isSet l) ⟨by decide, by decide⟩ (by decide +kernel) (by decide +kernel) (by decide +kernel) (by decide +kernel) (by decide +kernel), List.forall_mem_cons.mpr ⟨x_cal_V (idx := 57) (ci := 4) (n := 1) (c_X6_refuse l) ⟨by decide, by decide⟩ (by decide +kernel) (by decide +kernel) (by decide +kernel) (by decide +kernel) (by decide +kernel) rfl rfl rfl (by decide +kernel) r_X6_refuse, List.forall_mem_cons.mpr ⟨x_cal_S (idx := 61) (c_X2_turn l) ⟨by decide, by decide⟩ (by decide +kernel) (by decide +kernel) (by decide +kernel) (by decide +kernel) (by decide +kernel), fun _ h => absurd h List.not_mem_nil⟩⟩⟩
set_option maxHeartbeats 4000000 in
set_option maxRecDepth 100000 in
theorem c_X6_turned (l : Launch) : x_CT l yX6_turned cX6_turned 2 (some .int) 2 q_X6_turned := by
  refine x_meth (X := X_X6_turned) (bl := b_X6_turned) (cut := []) (own := RX6) 30 (by decide) rfl X_X6_turned_ok b_X6_turned_ok rfl (Nat.le_of_ble_eq_true rfl) (k_X6_turned l) ?_
  rintro as S M - ⟨x, rfl, rfl⟩
  refine ⟨fun _ _ _ _ _ _ _ _ => False, ?_, ?_⟩
  · skip
    refine xt_blk rfl rfl (by dsimp only [List.take]) ?_
    refine xt_iln1 rfl ?_
    refine xt_v1 (key := 159) (q := q_X6_isSet) rfl rfl rfl rfl rfl ⟨Nat.le_of_ble_eq_true rfl, Nat.le_of_ble_eq_true rfl⟩ ⟨_, rfl⟩ (fun rv_ S1 M1 hq_1 => ?_)
    obtain ⟨eS_, eM_, h_x⟩ := hq_1 _ rfl
    replace eS_ := eS_.symm
    replace eM_ := eM_.symm
    subst eS_ eM_
    have hex_x : ∃ v, rv_ = some (.inl v) := by rcases h_x with ⟨-, e⟩ | ⟨-, e⟩ <;> exact ⟨_, e⟩
    obtain ⟨v_x, rfl⟩ := hex_x
    simp only [Option.some.injEq, Sum.inl.injEq] at h_x
    try dsimp only [Option.toList, List.cons_append, List.nil_append]
    refine xt_ne (t := 14) rfl (fun hc_4 => ?_) (fun hc_4 => ?_)
    · skip
      obtain ⟨xn, hxn, exn⟩ : Th 8192 x := by
        rcases h_x with ⟨y, -⟩ | ⟨-, e⟩
        · exact y
        · first | exact absurd (by rw [e]; rfl) hc_4 | (rw [e] at hc_4; exact absurd hc_4 (by decide))
      subst exn
      refine xt_blk rfl rfl (by dsimp only [List.take]) ?_
      refine xt_iln1 rfl ?_
      refine xt_v1 (key := 183) (q := q_X2_turn) rfl rfl rfl rfl rfl ⟨Nat.le_of_ble_eq_true rfl, Nat.le_of_ble_eq_true rfl⟩ ⟨xn, hxn, rfl⟩ (fun rv_ S1 M1 hq_15 => ?_)
      obtain ⟨eS_, eM_, rfl⟩ := hq_15 xn hxn rfl
      replace eS_ := eS_.symm
      replace eM_ := eM_.symm
      subst eS_ eM_
      try dsimp only [Option.toList, List.cons_append, List.nil_append]
      refine xt_ri rfl (Nat.le_refl _) ?_
      intro x2 e2
      simp only [List.cons.injEq, Sum.inl.injEq, and_true, true_and] at e2
      subst e2
      exact ⟨rfl, Or.inl ⟨xn, hxn, rfl, rfl, rfl⟩⟩
    · skip
      refine xt_aln0 rfl (by first | decide | omega | assumption) ?_
      refine xt_bim rfl ?_
      refine xt_v2 (key := 172) (q := q_X6_refuse) rfl rfl rfl rfl rfl ⟨Nat.le_of_ble_eq_true rfl, Nat.le_of_ble_eq_true rfl⟩ ⟨2, by decide, by decide, rfl, rfl⟩ (fun rv_ S1 M1 hq_10 => ?_)
      obtain ⟨eS_, eM_, rfl⟩ := hq_10 2 (by decide) (by decide) rfl
      replace eS_ := eS_.symm
      replace eM_ := eM_.symm
      subst eS_ eM_
      try dsimp only [Option.toList, List.cons_append, List.nil_append]
      refine xt_ri rfl (Nat.le_refl _) ?_
      intro x2 e2
      simp only [List.cons.injEq, Sum.inl.injEq, and_true, true_and] at e2
      subst e2
      refine ⟨rfl, Or.inr ⟨fun q => ?_, rfl, rfl⟩⟩
      rcases h_x with ⟨-, e⟩ | ⟨n, -⟩
      · first | (rw [e] at hc_4; exact absurd hc_4 (by decide)) | exact absurd (by rw [e]; rfl) hc_4
      · exact n q
  · intro μ pc ls st S2 M2 cs sl h; exact h.elim
theorem and_8191 {n : Nat} (h : n < 2 ^ 13) : n &&& 8191 = n := by rw [Nat.and_comm]; exact and_all h
def q_X6_composed : x_K := (3, fun as S M => ∃ (x : Int32) (y : Int32), S = SH ∧ as = [.inr (.inl 0), .inl x, .inl y], fun as S M rv_ S' M' => ∀ (x : Int32) (y : Int32), as = [.inr (.inl 0), .inl x, .inl y] → S' = S ∧ ((∃ xn yn, xn < 8192 ∧ x = nI xn ∧ yn < 8192 ∧ y = nI yn ∧ M' = M ∧ rv_ = some (.inl (nI (cm xn yn)))) ∨ (¬ (Th 8192 x ∧ Th 8192 y) ∧ M' = mRef M 2 ∧ rv_ = some (.inl (-(nI 2))))), 0, 0)
theorem r_X6_composed : ∀ as S M, q_X6_composed.2.1 as S M → ∃ (k : Nat) (as' : List x_V) (fs : List (Option Nat)), as = .inr (.inl k) :: as' ∧ S[k]? = some (.inl (4, fs)) := by
  rintro as S M ⟨x, y, rfl, rfl⟩
  exact ⟨0, _, _, rfl, rfl⟩
def b_X6_composed : x_B := [(0, 3, [(.iload_n 1, 1), (.invokestatic 53, 3), (.ifCond .eq 10, 3), (.iload_n 2, 1), (.invokestatic 53, 3), (.ifCond .ne 10, 3)]),
  (14, 3, [(.aload_n 0, 1), (.bipush (-2), 2), (.invokevirtual 57, 3), (.ireturn, 1)]),
  (21, 3, [(.iload_n 1, 1), (.iload_n 2, 1), (.sipush 8191, 3), (.invokestatic 66, 3), (.ireturn, 1)])]
theorem b_X6_composed_ok : x_okB cX6_composed 3 b_X6_composed = true := by decide +kernel
def X_X6_composed : x_X := ([], [], [], [], [(159, q_X6_isSet), (172, q_X6_refuse), (198, q_X2_compose)], (0, 0), x_kn, x_kf, 5, false)
theorem X_X6_composed_ok : x_okT RX6 X_X6_composed = true := by decide +kernel
theorem k_X6_composed (l : Launch) : ∀ z ∈ X_X6_composed.2.2.2.2.1, x_Cal l (x_rm 2 0 0) cX6_composed RX6 3 z.1 z.2 := List.forall_mem_cons.mpr ⟨x_cal_S (idx := 53) (c_X6_isSet l) ⟨by decide, by decide⟩ (by decide +kernel) (by decide +kernel) (by decide +kernel) (by decide +kernel) (by decide +kernel), List.forall_mem_cons.mpr ⟨x_cal_V (idx := 57) (ci := 4) (n := 1) (c_X6_refuse l) ⟨by decide, by decide⟩ (by decide +kernel) (by decide +kernel) (by decide +kernel) (by decide +kernel) (by decide +kernel) rfl rfl rfl (by decide +kernel) r_X6_refuse, List.forall_mem_cons.mpr ⟨x_cal_S (idx := 66) (c_X2_compose l) ⟨by decide, by decide⟩ (by decide +kernel) (by decide +kernel) (by decide +kernel) (by decide +kernel) (by decide +kernel), fun _ h => absurd h List.not_mem_nil⟩⟩⟩
set_option maxHeartbeats 4000000 in
set_option maxRecDepth 100000 in
theorem c_X6_composed (l : Launch) : x_CT l yX6_composed cX6_composed 3 (some .int) 2 q_X6_composed := by
  refine x_meth (X := X_X6_composed) (bl := b_X6_composed) (cut := []) (own := RX6) 30 (by decide) rfl X_X6_composed_ok b_X6_composed_ok rfl (Nat.le_of_ble_eq_true rfl) (k_X6_composed l) ?_
  rintro as S M - ⟨x, y, rfl, rfl⟩
  refine ⟨fun _ _ _ _ _ _ _ _ => False, ?_, ?_⟩
  · skip
    refine xt_blk rfl rfl (by dsimp only [List.take]) ?_
    refine xt_iln1 rfl ?_
    refine xt_v1 (key := 159) (q := q_X6_isSet) rfl rfl rfl rfl rfl ⟨Nat.le_of_ble_eq_true rfl, Nat.le_of_ble_eq_true rfl⟩ ⟨_, rfl⟩ (fun rv_ S1 M1 hq_1 => ?_)
    obtain ⟨eS_, eM_, h_x⟩ := hq_1 _ rfl
    replace eS_ := eS_.symm
    replace eM_ := eM_.symm
    subst eS_ eM_
    have hex_x : ∃ v, rv_ = some (.inl v) := by rcases h_x with ⟨-, e⟩ | ⟨-, e⟩ <;> exact ⟨_, e⟩
    obtain ⟨v_x, rfl⟩ := hex_x
    simp only [Option.some.injEq, Sum.inl.injEq] at h_x
    try dsimp only [Option.toList, List.cons_append, List.nil_append]
    refine xt_eq (t := 14) rfl (fun hc_4 => ?_) (fun hc_4 => ?_)
    · skip
      refine xt_blk rfl rfl (by dsimp only [List.take]) ?_
      refine xt_aln0 rfl (by first | decide | omega | assumption) ?_
      refine xt_bim rfl ?_
      refine xt_v2 (key := 172) (q := q_X6_refuse) rfl rfl rfl rfl rfl ⟨Nat.le_of_ble_eq_true rfl, Nat.le_of_ble_eq_true rfl⟩ ⟨2, by decide, by decide, rfl, rfl⟩ (fun rv_ S1 M1 hq_17 => ?_)
      obtain ⟨eS_, eM_, rfl⟩ := hq_17 2 (by decide) (by decide) rfl
      replace eS_ := eS_.symm
      replace eM_ := eM_.symm
      subst eS_ eM_
      try dsimp only [Option.toList, List.cons_append, List.nil_append]
      refine xt_ri rfl (Nat.le_refl _) ?_
      intro x2 y2 e2
      simp only [List.cons.injEq, Sum.inl.injEq, and_true, true_and] at e2
      obtain ⟨rfl, rfl⟩ := e2
      refine ⟨rfl, Or.inr ⟨fun q => ?_, rfl, rfl⟩⟩
      rcases h_x with ⟨-, e⟩ | ⟨n, -⟩
      · first | (rw [e] at hc_4; exact absurd hc_4 (by decide)) | exact absurd (by rw [e]; rfl) hc_4
      · exact n q.1
    · skip
      refine xt_iln2 rfl ?_
      refine xt_v1 (key := 159) (q := q_X6_isSet) rfl rfl rfl rfl rfl ⟨Nat.le_of_ble_eq_true rfl, Nat.le_of_ble_eq_true rfl⟩ ⟨_, rfl⟩ (fun rv_ S1 M1 hq_8 => ?_)
      obtain ⟨eS_, eM_, h_y⟩ := hq_8 _ rfl
      replace eS_ := eS_.symm
      replace eM_ := eM_.symm
      subst eS_ eM_
      have hex_y : ∃ v, rv_ = some (.inl v) := by rcases h_y with ⟨-, e⟩ | ⟨-, e⟩ <;> exact ⟨_, e⟩
      obtain ⟨v_y, rfl⟩ := hex_y
      simp only [Option.some.injEq, Sum.inl.injEq] at h_y
      try dsimp only [Option.toList, List.cons_append, List.nil_append]
      refine xt_ne (t := 21) rfl (fun hc_11 => ?_) (fun hc_11 => ?_)
      · skip
        obtain ⟨xn, hxn, exn⟩ : Th 8192 x := by
          rcases h_x with ⟨y, -⟩ | ⟨-, e⟩
          · exact y
          · first | exact absurd (by rw [e]; rfl) hc_4 | (rw [e] at hc_4; exact absurd hc_4 (by decide))
        subst exn
        obtain ⟨yn, hyn, eyn⟩ : Th 8192 y := by
          rcases h_y with ⟨y, -⟩ | ⟨-, e⟩
          · exact y
          · first | exact absurd (by rw [e]; rfl) hc_11 | (rw [e] at hc_11; exact absurd hc_11 (by decide))
        subst eyn
        refine xt_blk rfl rfl (by dsimp only [List.take]) ?_
        refine xt_iln1 rfl ?_
        refine xt_iln2 rfl ?_
        refine xt_si ?_
        refine xt_v3 (key := 198) (q := q_X2_compose) rfl rfl rfl rfl rfl ⟨Nat.le_of_ble_eq_true rfl, Nat.le_of_ble_eq_true rfl⟩ ⟨xn, yn, 8191, hxn, hyn, by decide, rfl⟩ (fun rv_ S1 M1 hq_26 => ?_)
        obtain ⟨eS_, eM_, rfl⟩ := hq_26 xn yn 8191 hxn hyn (by decide) rfl
        replace eS_ := eS_.symm
        replace eM_ := eM_.symm
        subst eS_ eM_
        try dsimp only [Option.toList, List.cons_append, List.nil_append]
        refine xt_ri rfl (Nat.le_refl _) ?_
        intro x2 y2 e2
        simp only [List.cons.injEq, Sum.inl.injEq, and_true, true_and] at e2
        obtain ⟨rfl, rfl⟩ := e2
        exact ⟨rfl, Or.inl ⟨xn, yn, ⟨hxn, rfl, hyn, rfl, rfl, by rw [and_8191 (cm_lt _ _)]⟩⟩⟩
      · skip
        refine xt_nil (t := 14) rfl ?_
        refine xt_blk rfl rfl (by dsimp only [List.take]) ?_
        refine xt_aln0 rfl (by first | decide | omega | assumption) ?_
        refine xt_bim rfl ?_
        refine xt_v2 (key := 172) (q := q_X6_refuse) rfl rfl rfl rfl rfl ⟨Nat.le_of_ble_eq_true rfl, Nat.le_of_ble_eq_true rfl⟩ ⟨2, by decide, by decide, rfl, rfl⟩ (fun rv_ S1 M1 hq_17 => ?_)
        obtain ⟨eS_, eM_, rfl⟩ := hq_17 2 (by decide) (by decide) rfl
        replace eS_ := eS_.symm
        replace eM_ := eM_.symm
        subst eS_ eM_
        try dsimp only [Option.toList, List.cons_append, List.nil_append]
        refine xt_ri rfl (Nat.le_refl _) ?_
        intro x2 y2 e2
        simp only [List.cons.injEq, Sum.inl.injEq, and_true, true_and] at e2
        obtain ⟨rfl, rfl⟩ := e2
        refine ⟨rfl, Or.inr ⟨fun q => ?_, rfl, rfl⟩⟩
        rcases h_y with ⟨-, e⟩ | ⟨n, -⟩
        · first | (rw [e] at hc_11; exact absurd hc_11 (by decide)) | exact absurd (by rw [e]; rfl) hc_11
        · exact n q.2
  · intro μ pc ls st S2 M2 cs sl h; exact h.elim
def q_X6_steps : x_K := (3, fun as S M => ∃ (x : Int32) (y : Int32), S = SH ∧ as = [.inr (.inl 0), .inl x, .inl y], fun as S M rv_ S' M' => ∀ (x : Int32) (y : Int32), as = [.inr (.inl 0), .inl x, .inl y] → S' = S ∧ ((∃ xn yn, xn < 13 ∧ x = nI xn ∧ yn < 13 ∧ y = nI yn ∧ M' = M ∧ rv_ = some (.inl (nI (stp xn yn)))) ∨ (¬ (Th 13 x ∧ Th 13 y) ∧ M' = mRef M 1 ∧ rv_ = some (.inl (-(nI 1))))), 0, 0)
theorem r_X6_steps : ∀ as S M, q_X6_steps.2.1 as S M → ∃ (k : Nat) (as' : List x_V) (fs : List (Option Nat)), as = .inr (.inl k) :: as' ∧ S[k]? = some (.inl (4, fs)) := by
  rintro as S M ⟨x, y, rfl, rfl⟩
  exact ⟨0, _, _, rfl, rfl⟩
def b_X6_steps : x_B := [(0, 3, [(.iload_n 1, 1), (.invokestatic 70, 3), (.ifCond .eq 10, 3), (.iload_n 2, 1), (.invokestatic 70, 3), (.ifCond .ne 9, 3)]),
  (14, 3, [(.aload_n 0, 1), (.iconst (-1), 1), (.invokevirtual 57, 3), (.ireturn, 1)]),
  (20, 3, [(.iload_n 1, 1), (.iload_n 2, 1), (.invokestatic 77, 3), (.ireturn, 1)])]
theorem b_X6_steps_ok : x_okB cX6_steps 3 b_X6_steps = true := by decide +kernel
def X_X6_steps : x_X := ([], [], [], [], [(210, q_X6_isRelation), (172, q_X6_refuse), (231, q_X2_stepsBetween)], (0, 0), x_kn, x_kf, 5, false)
theorem X_X6_steps_ok : x_okT RX6 X_X6_steps = true := by decide +kernel
theorem k_X6_steps (l : Launch) : ∀ z ∈ X_X6_steps.2.2.2.2.1, x_Cal l (x_rm 3 0 0) cX6_steps RX6 3 z.1 z.2 := List.forall_mem_cons.mpr ⟨x_cal_S (idx := 70) (c_X6_isRelation l) ⟨by decide, by decide⟩ (by decide +kernel) (by decide +kernel) (by decide +kernel) (by decide +kernel) (by decide +kernel), List.forall_mem_cons.mpr ⟨x_cal_V (idx := 57) (ci := 4) (n := 1) (c_X6_refuse l) ⟨by decide, by decide⟩ (by decide +kernel) (by decide +kernel) (by decide +kernel) (by decide +kernel) (by decide +kernel) rfl rfl rfl (by decide +kernel) r_X6_refuse, List.forall_mem_cons.mpr ⟨x_cal_S (idx := 77) (c_X2_stepsBetween l) ⟨by decide, by decide⟩ (by decide +kernel) (by decide +kernel) (by decide +kernel) (by decide +kernel) (by decide +kernel), fun _ h => absurd h List.not_mem_nil⟩⟩⟩
set_option maxHeartbeats 4000000 in
set_option maxRecDepth 100000 in
theorem c_X6_steps (l : Launch) : x_CT l yX6_steps cX6_steps 3 (some .int) 3 q_X6_steps := by
  refine x_meth (X := X_X6_steps) (bl := b_X6_steps) (cut := []) (own := RX6) 30 (by decide) rfl X_X6_steps_ok b_X6_steps_ok rfl (Nat.le_of_ble_eq_true rfl) (k_X6_steps l) ?_
  rintro as S M - ⟨x, y, rfl, rfl⟩
  refine ⟨fun _ _ _ _ _ _ _ _ => False, ?_, ?_⟩
  · skip
    refine xt_blk rfl rfl (by dsimp only [List.take]) ?_
    refine xt_iln1 rfl ?_
    refine xt_v1 (key := 210) (q := q_X6_isRelation) rfl rfl rfl rfl rfl ⟨Nat.le_of_ble_eq_true rfl, Nat.le_of_ble_eq_true rfl⟩ ⟨_, rfl⟩ (fun rv_ S1 M1 hq_1 => ?_)
    obtain ⟨eS_, eM_, h_x⟩ := hq_1 _ rfl
    replace eS_ := eS_.symm
    replace eM_ := eM_.symm
    subst eS_ eM_
    have hex_x : ∃ v, rv_ = some (.inl v) := by rcases h_x with ⟨-, e⟩ | ⟨-, e⟩ <;> exact ⟨_, e⟩
    obtain ⟨v_x, rfl⟩ := hex_x
    simp only [Option.some.injEq, Sum.inl.injEq] at h_x
    try dsimp only [Option.toList, List.cons_append, List.nil_append]
    refine xt_eq (t := 14) rfl (fun hc_4 => ?_) (fun hc_4 => ?_)
    · skip
      refine xt_blk rfl rfl (by dsimp only [List.take]) ?_
      refine xt_aln0 rfl (by first | decide | omega | assumption) ?_
      refine xt_icm rfl ?_
      refine xt_v2 (key := 172) (q := q_X6_refuse) rfl rfl rfl rfl rfl ⟨Nat.le_of_ble_eq_true rfl, Nat.le_of_ble_eq_true rfl⟩ ⟨1, by decide, by decide, rfl, rfl⟩ (fun rv_ S1 M1 hq_16 => ?_)
      obtain ⟨eS_, eM_, rfl⟩ := hq_16 1 (by decide) (by decide) rfl
      replace eS_ := eS_.symm
      replace eM_ := eM_.symm
      subst eS_ eM_
      try dsimp only [Option.toList, List.cons_append, List.nil_append]
      refine xt_ri rfl (Nat.le_refl _) ?_
      intro x2 y2 e2
      simp only [List.cons.injEq, Sum.inl.injEq, and_true, true_and] at e2
      obtain ⟨rfl, rfl⟩ := e2
      refine ⟨rfl, Or.inr ⟨fun q => ?_, rfl, rfl⟩⟩
      rcases h_x with ⟨-, e⟩ | ⟨n, -⟩
      · first | (rw [e] at hc_4; exact absurd hc_4 (by decide)) | exact absurd (by rw [e]; rfl) hc_4
      · exact n q.1
    · skip
      refine xt_iln2 rfl ?_
      refine xt_v1 (key := 210) (q := q_X6_isRelation) rfl rfl rfl rfl rfl ⟨Nat.le_of_ble_eq_true rfl, Nat.le_of_ble_eq_true rfl⟩ ⟨_, rfl⟩ (fun rv_ S1 M1 hq_8 => ?_)
      obtain ⟨eS_, eM_, h_y⟩ := hq_8 _ rfl
      replace eS_ := eS_.symm
      replace eM_ := eM_.symm
      subst eS_ eM_
      have hex_y : ∃ v, rv_ = some (.inl v) := by rcases h_y with ⟨-, e⟩ | ⟨-, e⟩ <;> exact ⟨_, e⟩
      obtain ⟨v_y, rfl⟩ := hex_y
      simp only [Option.some.injEq, Sum.inl.injEq] at h_y
      try dsimp only [Option.toList, List.cons_append, List.nil_append]
      refine xt_ne (t := 20) rfl (fun hc_11 => ?_) (fun hc_11 => ?_)
      · skip
        obtain ⟨xn, hxn, exn⟩ : Th 13 x := by
          rcases h_x with ⟨y, -⟩ | ⟨-, e⟩
          · exact y
          · first | exact absurd (by rw [e]; rfl) hc_4 | (rw [e] at hc_4; exact absurd hc_4 (by decide))
        subst exn
        obtain ⟨yn, hyn, eyn⟩ : Th 13 y := by
          rcases h_y with ⟨y, -⟩ | ⟨-, e⟩
          · exact y
          · first | exact absurd (by rw [e]; rfl) hc_11 | (rw [e] at hc_11; exact absurd hc_11 (by decide))
        subst eyn
        refine xt_blk rfl rfl (by dsimp only [List.take]) ?_
        refine xt_iln1 rfl ?_
        refine xt_iln2 rfl ?_
        refine xt_v2 (key := 231) (q := q_X2_stepsBetween) rfl rfl rfl rfl rfl ⟨Nat.le_of_ble_eq_true rfl, Nat.le_of_ble_eq_true rfl⟩ ⟨xn, yn, hxn, hyn, rfl⟩ (fun rv_ S1 M1 hq_22 => ?_)
        obtain ⟨eS_, eM_, rfl⟩ := hq_22 xn yn hxn hyn rfl
        replace eS_ := eS_.symm
        replace eM_ := eM_.symm
        subst eS_ eM_
        try dsimp only [Option.toList, List.cons_append, List.nil_append]
        refine xt_ri rfl (Nat.le_refl _) ?_
        intro x2 y2 e2
        simp only [List.cons.injEq, Sum.inl.injEq, and_true, true_and] at e2
        obtain ⟨rfl, rfl⟩ := e2
        exact ⟨rfl, Or.inl ⟨xn, yn, ⟨hxn, rfl, hyn, rfl, rfl, rfl⟩⟩⟩
      · skip
        refine xt_nil (t := 14) rfl ?_
        refine xt_blk rfl rfl (by dsimp only [List.take]) ?_
        refine xt_aln0 rfl (by first | decide | omega | assumption) ?_
        refine xt_icm rfl ?_
        refine xt_v2 (key := 172) (q := q_X6_refuse) rfl rfl rfl rfl rfl ⟨Nat.le_of_ble_eq_true rfl, Nat.le_of_ble_eq_true rfl⟩ ⟨1, by decide, by decide, rfl, rfl⟩ (fun rv_ S1 M1 hq_16 => ?_)
        obtain ⟨eS_, eM_, rfl⟩ := hq_16 1 (by decide) (by decide) rfl
        replace eS_ := eS_.symm
        replace eM_ := eM_.symm
        subst eS_ eM_
        try dsimp only [Option.toList, List.cons_append, List.nil_append]
        refine xt_ri rfl (Nat.le_refl _) ?_
        intro x2 y2 e2
        simp only [List.cons.injEq, Sum.inl.injEq, and_true, true_and] at e2
        obtain ⟨rfl, rfl⟩ := e2
        refine ⟨rfl, Or.inr ⟨fun q => ?_, rfl, rfl⟩⟩
        rcases h_y with ⟨-, e⟩ | ⟨n, -⟩
        · first | (rw [e] at hc_11; exact absurd hc_11 (by decide)) | exact absurd (by rw [e]; rfl) hc_11
        · exact n q.2
  · intro μ pc ls st S2 M2 cs sl h; exact h.elim
