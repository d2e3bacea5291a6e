/-! THE CLASS: its public methods, the second half -/
theorem k_bth {M : x_M} {an bn : Nat} (va : nv (nI an) = an) (vb : nv (nI bn) = bn) : (Bth (vM M) (nI an) (nI bn) ∧ (if M 42 an ≠ 0 ∧ M 42 bn ≠ 0 then nI 1 else nI 0) = nI 1) ∨ (¬ Bth (vM M) (nI an) (nI bn) ∧ (if M 42 an ≠ 0 ∧ M 42 bn ≠ 0 then nI 1 else nI 0) = nI 0) := by
  unfold Bth
  rw [va, vb]
  exact k_ite (P := M 42 an ≠ 0 ∧ M 42 bn ≠ 0)
def q_X6_drawing : x_K := (4, fun as S M => ∃ (w : Int32) (t : Int32) (e : Int32) (c : Nat), CI c M ∧ S = SH ∧ as = [.inr (.inl 0), .inl w, .inl t, .inl e], fun as S M rv_ S' M' => ∀ (w : Int32) (t : Int32) (e : Int32), as = [.inr (.inl 0), .inl w, .inl t, .inl e] → S' = S ∧ CEnd M M' rv_ (spDrawing (vM M) w t e), 0, 0)
theorem r_X6_drawing : ∀ as S M, q_X6_drawing.2.1 as S M → ∃ (k : Nat) (as' : List x_V) (fs : List (Option Nat)), as = .inr (.inl k) :: as' ∧ S[k]? = some (.inl (4, fs)) := by
  rintro as S M ⟨w, t, e, c, -, rfl, rfl⟩
  exact ⟨0, _, _, rfl, rfl⟩
def b_X6_drawing : x_B := [(0, 4, [(.iload_n 2, 1), (.invokestatic 133, 3), (.ifCond .ne 9, 3), (.aload_n 0, 1), (.iconst (-1), 1), (.invokevirtual 57, 3), (.ireturn, 1)]),
  (13, 4, [(.iload_n 1, 1), (.invokestatic 124, 3), (.ifCond .eq 12, 3), (.iload_n 3, 1), (.ifCond .lt 8, 3), (.iload_n 3, 1), (.iconst 1, 1), (.if_icmp .le 10, 3)]),
  (29, 4, [(.aload_n 0, 1), (.bipush (-2), 2), (.invokevirtual 57, 3), (.ireturn, 1)]),
  (36, 4, [(.aload_n 0, 1), (.iload_n 1, 1), (.invokevirtual 114, 3), (.astore 4, 2), (.aload 4, 2), (.invokevirtual 136, 3), (.ifCond .eq 13, 3), (.aload 4, 2), (.iload_n 2, 1), (.iload_n 3, 1), (.invokevirtual 139, 3), (.goto 5, 3)]),
  (61, 5, [(.bipush (-9), 2)]),
  (63, 5, [(.ireturn, 1)])]
theorem b_X6_drawing_ok : x_okB cX6_drawing 5 b_X6_drawing = true := by decide +kernel
def X_X6_drawing : x_X := ([], [], [], [], [(399, q_X6_isThing), (172, q_X6_refuse), (372, q_X6_isWay), (343, q_X6_along), (409, q_X5_isFirstDrawn), (418, q_X5_firstNumber)], (0, 0), x_kn, x_kf, 5, false)
theorem X_X6_drawing_ok : x_okT RX6 X_X6_drawing = true := by decide +kernel
theorem k_X6_drawing (l : Launch) : ∀ z ∈ X_X6_drawing.2.2.2.2.1, x_Cal l (x_rm 23 0 0) cX6_drawing RX6 5 z.1 z.2 := List.forall_mem_cons.mpr ⟨x_cal_S (idx := 133) (c_X6_isThing l) ⟨by decide, by decide⟩ (by decide +kernel) (by decide +kernel) (by decide +kernel) (by decide +kernel) (by decide +kernel), List.forall_mem_cons.mpr ⟨x_cal_V (idx := 57) (ci := 4) (n := 1) (c_X6_refuse l) ⟨by decide, by decide⟩ (by decide +kernel) (by decide +kernel) (by decide +kernel) (by decide +kernel) (by decide +kernel) rfl rfl rfl (by decide +kernel) r_X6_refuse, List.forall_mem_cons.mpr ⟨x_cal_S (idx := 124) (c_X6_isWay l) ⟨by decide, by decide⟩ (by decide +kernel) (by decide +kernel) (by decide +kernel) (by decide +kernel) (by decide +kernel), List.forall_mem_cons.mpr ⟨x_cal_V (idx := 114) (ci := 4) (n := 1) (c_X6_along l) ⟨by decide, by decide⟩ (by decide +kernel) (by decide +kernel) (by decide +kernel) (by decide +kernel) (by decide +kernel) rfl rfl rfl (by decide +kernel) r_X6_along, List.forall_mem_cons.mpr ⟨x_cal_V (idx := 136) (ci := 3) (n := 0) (c_X5_isFirstDrawn l) ⟨by decide, by decide⟩ (by decide +kernel) (by decide +kernel) (by decide +kernel) (by decide +kernel) (by decide +kernel) rfl rfl rfl (by decide +kernel) r_X5_isFirstDrawn, List.forall_mem_cons.mpr ⟨x_cal_V (idx := 139) (ci := 3) (n := 2) (c_X5_firstNumber l) ⟨by decide, by decide⟩ (by decide +kernel) (by decide +kernel) (by decide +kernel) (by decide +kernel) (by decide +kernel) rfl rfl rfl (by decide +kernel) r_X5_firstNumber, fun _ h => absurd h List.not_mem_nil⟩⟩⟩⟩⟩⟩
set_option maxHeartbeats 4000000 in
set_option maxRecDepth 100000 in
theorem c_X6_drawing (l : Launch) : x_CT l yX6_drawing cX6_drawing 5 (some .int) 23 q_X6_drawing := by
  refine x_meth (X := X_X6_drawing) (bl := b_X6_drawing) (cut := []) (own := RX6) 30 (by decide) rfl X_X6_drawing_ok b_X6_drawing_ok rfl (Nat.le_of_ble_eq_true rfl) (k_X6_drawing l) ?_
  rintro as S M - ⟨w, t, e, c, hci, rfl, rfl⟩
  have hok := hci.1.1.2.1
  have hV := hci.2
  refine ⟨fun _ _ _ _ _ _ _ _ => False, ?_, ?_⟩
  · skip
    refine xt_blk rfl rfl (by dsimp only [List.take]) ?_
    refine xt_iln2 rfl ?_
    refine xt_v1 (key := 399) (q := q_X6_isThing) rfl rfl rfl rfl rfl ⟨Nat.le_of_ble_eq_true rfl, Nat.le_of_ble_eq_true rfl⟩ ⟨_, rfl⟩ (fun rv_ S1 M_1 hq_1 => ?_)
    obtain ⟨eS_, eM_, h_c1⟩ := hq_1 _ rfl
    replace eS_ := eS_.symm
    replace eM_ := eM_.symm
    subst eS_ eM_
    have hex_c1 : ∃ v, rv_ = some (.inl v) := by rcases h_c1 with ⟨-, e⟩ | ⟨-, e⟩ <;> exact ⟨_, e⟩
    obtain ⟨v_c1, rfl⟩ := hex_c1
    simp only [Option.some.injEq, Sum.inl.injEq] at h_c1
    try dsimp only [Option.toList, List.cons_append, List.nil_append]
    refine xt_ne (t := 13) rfl (fun hc_4 => ?_) (fun hc_4 => ?_)
    · skip
      have k_1 := k_yes h_c1 hc_4
      refine xt_blk rfl rfl (by dsimp only [List.take]) ?_
      refine xt_iln1 rfl ?_
      refine xt_v1 (key := 372) (q := q_X6_isWay) rfl rfl rfl rfl rfl ⟨Nat.le_of_ble_eq_true rfl, Nat.le_of_ble_eq_true rfl⟩ ⟨_, rfl⟩ (fun rv_ S1 M_14 hq_14 => ?_)
      obtain ⟨eS_, eM_, h_c14⟩ := hq_14 _ rfl
      replace eS_ := eS_.symm
      replace eM_ := eM_.symm
      subst eS_ eM_
      have hex_c14 : ∃ v, rv_ = some (.inl v) := by rcases h_c14 with ⟨-, e⟩ | ⟨-, e⟩ <;> exact ⟨_, e⟩
      obtain ⟨v_c14, rfl⟩ := hex_c14
      simp only [Option.some.injEq, Sum.inl.injEq] at h_c14
      try dsimp only [Option.toList, List.cons_append, List.nil_append]
      refine xt_eq (t := 29) rfl (fun hc_17 => ?_) (fun hc_17 => ?_)
      · skip
        have k_14 := k_no h_c14 hc_17
        refine xt_blk rfl rfl (by dsimp only [List.take]) ?_
        refine xt_aln0 rfl (by first | decide | omega | assumption | (have := isWy_lt hw; omega)) ?_
        refine xt_bim rfl ?_
        refine xt_v2 (key := 172) (q := q_X6_refuse) rfl rfl rfl rfl rfl ⟨Nat.le_of_ble_eq_true rfl, Nat.le_of_ble_eq_true rfl⟩ ⟨2, by decide, by decide, rfl, rfl⟩ (fun rv_ S1 M_32 hq_32 => ?_)
        obtain ⟨eS_, eM_, rfl⟩ := hq_32 2 (by decide) (by decide) rfl
        replace eS_ := eS_.symm
        replace eM_ := eM_.symm
        subst eS_ eM_
        try dsimp only [Option.toList, List.cons_append, List.nil_append]
        refine xt_ri rfl (Nat.le_refl _) ?_
        intro w2 t2 e2 e2
        simp only [List.cons.injEq, Sum.inl.injEq, and_true, true_and] at e2
        obtain ⟨rfl, rfl, rfl⟩ := e2
        refine ⟨rfl, CE_R ?_⟩
        unfold spDrawing
        rw [cif_t k_1, cif_f k_14]
      · skip
        have k_14 := k_yes h_c14 hc_17
        refine xt_iln3 rfl ?_
        refine xt_lt (t := 29) rfl (fun hc_21 => ?_) (fun hc_21 => ?_)
        · skip
          have k_e : ¬ Th 2 e := fun q => Int32.not_lt.mpr ((Th_lt (by decide)).mp q).1 hc_21
          refine xt_blk rfl rfl (by dsimp only [List.take]) ?_
          refine xt_aln0 rfl (by first | decide | omega | assumption | (have := isWy_lt hw; omega)) ?_
          refine xt_bim rfl ?_
          refine xt_v2 (key := 172) (q := q_X6_refuse) rfl rfl rfl rfl rfl ⟨Nat.le_of_ble_eq_true rfl, Nat.le_of_ble_eq_true rfl⟩ ⟨2, by decide, by decide, rfl, rfl⟩ (fun rv_ S1 M_32 hq_32 => ?_)
          obtain ⟨eS_, eM_, rfl⟩ := hq_32 2 (by decide) (by decide) rfl
          replace eS_ := eS_.symm
          replace eM_ := eM_.symm
          subst eS_ eM_
          try dsimp only [Option.toList, List.cons_append, List.nil_append]
          refine xt_ri rfl (Nat.le_refl _) ?_
          intro w2 t2 e2 e2
          simp only [List.cons.injEq, Sum.inl.injEq, and_true, true_and] at e2
          obtain ⟨rfl, rfl, rfl⟩ := e2
          refine ⟨rfl, CE_R ?_⟩
          unfold spDrawing
          rw [cif_t k_1, cif_t k_14, cif_f k_e]
        · skip
          refine xt_iln3 rfl ?_
          refine xt_ic ?_
          refine xt_cle (t := 36) rfl (fun hc_26 => ?_) (fun hc_26 => ?_)
          · skip
            have k_e : Th 2 e := (Th_le (N := 1) (by decide)).mpr ⟨Int32.not_lt.mp hc_21, hc_26⟩
            obtain ⟨tn, htn, etn⟩ := id k_1
            subst etn
            have vt : nv (nI tn) = tn := nv_nI (by omega)
            obtain ⟨wn, hwn, ewn⟩ := id k_14
            subst ewn
            have vw : nv (nI wn) = wn := nv_nI (by omega)
            obtain ⟨en, hen, een⟩ := id k_e
            subst een
            have ve : nv (nI en) = en := nv_nI (by omega)
            refine xt_blk rfl rfl (by dsimp only [List.take]) ?_
            refine xt_aln0 rfl (by first | decide | omega | assumption | (have := isWy_lt hw; omega)) ?_
            refine xt_iln1 rfl ?_
            refine xt_v2 (key := 343) (q := q_X6_along) rfl rfl rfl rfl rfl ⟨Nat.le_of_ble_eq_true rfl, Nat.le_of_ble_eq_true rfl⟩ ⟨_, rfl, rfl⟩ (fun rv_ S1 M_38 hq_38 => ?_)
            obtain ⟨eS_, eM_, rfl⟩ := hq_38 _ rfl
            replace eS_ := eS_.symm
            replace eM_ := eM_.symm
            subst eS_ eM_
            obtain ⟨q, eq, hw, hwo, hp⟩ := al_q hci hwn
            subst hwo
            rw [eq]
            try dsimp only [Option.toList, List.cons_append, List.nil_append]
            refine xt_ast rfl (by first | decide | omega | assumption | (have := isWy_lt hw; omega)) (by dsimp only [x_sto]) ?_
            refine xt_ald rfl (by first | decide | omega | assumption | (have := isWy_lt hw; omega)) ?_
            refine xt_v1 (key := 409) (q := q_X5_isFirstDrawn) rfl rfl rfl rfl rfl ⟨Nat.le_of_ble_eq_true rfl, Nat.le_of_ble_eq_true rfl⟩ ⟨q, hp, rfl, rfl⟩ (fun rv_ S1 M_45 hq_45 => ?_)
            obtain ⟨eS_, hEd, hpos⟩ := hq_45 q rfl
            replace eS_ := eS_.symm
            subst eS_
            have hex : ∃ v, rv_ = some (.inl v) := by rcases hpos with ⟨e, -⟩ | ⟨e, -⟩ <;> exact ⟨_, e⟩
            obtain ⟨v, rfl⟩ := hex
            simp only [Option.some.injEq, Sum.inl.injEq] at hpos
            try dsimp only [Option.toList, List.cons_append, List.nil_append]
            refine xt_eq (t := 61) rfl (fun hc_48 => ?_) (fun hc_48 => ?_)
            · skip
              refine xt_blk rfl rfl (by dsimp only [List.take]) ?_
              refine xt_bim rfl ?_
              refine xt_nil (t := 63) rfl ?_
              refine xt_blk rfl rfl (by dsimp only [List.take]) ?_
              refine xt_ri rfl (Nat.le_refl _) ?_
              intro w2 t2 e2 e2
              simp only [List.cons.injEq, Sum.inl.injEq, and_true, true_and] at e2
              obtain ⟨rfl, rfl, rfl⟩ := e2
              have hlt := wo_lt q
              have vw : nv (nI (wo q)) = wo q := nv_nI (by omega)
              have hsat : ¬ Sat (tF M (wo q)) := by
                rcases hpos with ⟨e, -⟩ | ⟨-, z⟩
                · rw [e] at hc_48; exact absurd hc_48 (by decide)
                · exact z
              refine ⟨rfl, CE_Wk (Ed_Wk hw hEd) ?_⟩
              unfold spDrawing
              rw [cif_t k_1, cif_t k_14, cif_t k_e, vw, tF_v M hlt, cif_f hsat]
            · skip
              have hsat : Sat (tF M (wo q)) ∧ M_45 q 12 = nI 1 := by
                rcases hpos with ⟨-, z, z2⟩ | ⟨e, -⟩
                · exact ⟨z, z2⟩
                · rw [e] at hc_48; exact absurd rfl hc_48
              have hfi : ∃ s g, At M_45 (q + 3) g ∧ FI (tF M (wo q)) 15 s g ∧ ∀ e, e < 12 → M_45 (q + 6) e = nI (rkf g e 12) := by
                rcases hEd.2.2.2.2.2.2.2 with e | ⟨-, z⟩
                · rw [hsat.2] at e; exact absurd e (by decide)
                · exact z
              obtain ⟨s, g, hg, hF, hnum⟩ := hfi
              refine xt_ald rfl (by first | decide | omega | assumption | (have := isWy_lt hw; omega)) ?_
              refine xt_iln2 rfl ?_
              refine xt_iln3 rfl ?_
              refine xt_v3 (key := 418) (q := q_X5_firstNumber) rfl rfl rfl rfl rfl ⟨Nat.le_of_ble_eq_true rfl, Nat.le_of_ble_eq_true rfl⟩ ⟨q, tn, en, hw, rfl, htn, hen, rfl⟩ (fun rv_ S1 M_55 hq_55 => ?_)
              obtain ⟨eS_, eM_, rfl⟩ := hq_55 q tn en htn hen rfl
              replace eS_ := eS_.symm
              replace eM_ := eM_.symm
              subst eS_ eM_
              try dsimp only [Option.toList, List.cons_append, List.nil_append]
              refine xt_goto (t := 63) rfl ?_
              refine xt_blk rfl rfl (by dsimp only [List.take]) ?_
              refine xt_ri rfl (Nat.le_refl _) ?_
              intro w2 t2 e2 e2
              simp only [List.cons.injEq, Sum.inl.injEq, and_true, true_and] at e2
              obtain ⟨rfl, rfl, rfl⟩ := e2
              have hlt := wo_lt q
              have vw : nv (nI (wo q)) = wo q := nv_nI (by omega)
              refine ⟨rfl, CE_Wk (Ed_Wk hw hEd) ?_⟩
              unfold spDrawing
              rw [cif_t k_1, cif_t k_14, cif_t k_e, vw, tF_v M hlt, cif_t hsat.1, vt, ve, hnum _ (by omega), fi_rk hF (by omega)]
          · skip
            have k_e : ¬ Th 2 e := fun q => hc_26 ((Th_le (N := 1) (by decide)).mp q).2
            refine xt_nil (t := 29) rfl ?_
            refine xt_blk rfl rfl (by dsimp only [List.take]) ?_
            refine xt_aln0 rfl (by first | decide | omega | assumption | (have := isWy_lt hw; omega)) ?_
            refine xt_bim rfl ?_
            refine xt_v2 (key := 172) (q := q_X6_refuse) rfl rfl rfl rfl rfl ⟨Nat.le_of_ble_eq_true rfl, Nat.le_of_ble_eq_true rfl⟩ ⟨2, by decide, by decide, rfl, rfl⟩ (fun rv_ S1 M_32 hq_32 => ?_)
            obtain ⟨eS_, eM_, rfl⟩ := hq_32 2 (by decide) (by decide) rfl
            replace eS_ := eS_.symm
            replace eM_ := eM_.symm
            subst eS_ eM_
            try dsimp only [Option.toList, List.cons_append, List.nil_append]
            refine xt_ri rfl (Nat.le_refl _) ?_
            intro w2 t2 e2 e2
            simp only [List.cons.injEq, Sum.inl.injEq, and_true, true_and] at e2
            obtain ⟨rfl, rfl, rfl⟩ := e2
            refine ⟨rfl, CE_R ?_⟩
            unfold spDrawing
            rw [cif_t k_1, cif_t k_14, cif_f k_e]
    · skip
      have k_1 := k_no h_c1 hc_4
      refine xt_aln0 rfl (by first | decide | omega | assumption | (have := isWy_lt hw; omega)) ?_
      refine xt_icm rfl ?_
      refine xt_v2 (key := 172) (q := q_X6_refuse) rfl rfl rfl rfl rfl ⟨Nat.le_of_ble_eq_true rfl, Nat.le_of_ble_eq_true rfl⟩ ⟨1, by decide, by decide, rfl, rfl⟩ (fun rv_ S1 M_9 hq_9 => ?_)
      obtain ⟨eS_, eM_, rfl⟩ := hq_9 1 (by decide) (by decide) rfl
      replace eS_ := eS_.symm
      replace eM_ := eM_.symm
      subst eS_ eM_
      try dsimp only [Option.toList, List.cons_append, List.nil_append]
      refine xt_ri rfl (Nat.le_refl _) ?_
      intro w2 t2 e2 e2
      simp only [List.cons.injEq, Sum.inl.injEq, and_true, true_and] at e2
      obtain ⟨rfl, rfl, rfl⟩ := e2
      refine ⟨rfl, CE_R ?_⟩
      unfold spDrawing
      rw [cif_f k_1]
  · intro μ pc ls st S2 M2 cs sl h; exact h.elim
def q_X6_drawn : x_K := (4, fun as S M => ∃ (w : Int32) (a : Int32) (b : Int32) (c : Nat), CI c M ∧ S = SH ∧ as = [.inr (.inl 0), .inl w, .inl a, .inl b], fun as S M rv_ S' M' => ∀ (w : Int32) (a : Int32) (b : Int32), as = [.inr (.inl 0), .inl w, .inl a, .inl b] → S' = S ∧ CEnd M M' rv_ (spDrawn (vM M) w a b), 0, 0)
theorem r_X6_drawn : ∀ as S M, q_X6_drawn.2.1 as S M → ∃ (k : Nat) (as' : List x_V) (fs : List (Option Nat)), as = .inr (.inl k) :: as' ∧ S[k]? = some (.inl (4, fs)) := by
  rintro as S M ⟨w, a, b, c, -, rfl, rfl⟩
  exact ⟨0, _, _, rfl, rfl⟩
def b_X6_drawn : x_B := [(0, 4, [(.iload_n 1, 1), (.iload_n 2, 1), (.iload_n 3, 1), (.invokestatic 111, 3), (.istore 4, 2), (.iload 4, 2), (.ifCond .eq 10, 3), (.aload_n 0, 1), (.iload 4, 2), (.invokevirtual 57, 3), (.ireturn, 1)]),
  (20, 5, [(.aload_n 0, 1), (.iload_n 1, 1), (.invokevirtual 114, 3), (.astore 5, 2), (.aload 5, 2), (.invokevirtual 136, 3), (.ifCond .eq 13, 3), (.aload 5, 2), (.iload_n 2, 1), (.iload_n 3, 1), (.invokevirtual 142, 3), (.goto 5, 3)]),
  (45, 6, [(.bipush (-9), 2)]),
  (47, 6, [(.ireturn, 1)])]
theorem b_X6_drawn_ok : x_okB cX6_drawn 6 b_X6_drawn = true := by decide +kernel
def X_X6_drawn : x_X := ([], [], [], [], [(333, q_X6_refusalAlong), (172, q_X6_refuse), (343, q_X6_along), (409, q_X5_isFirstDrawn), (427, q_X5_firstRelation)], (0, 0), x_kn, x_kf, 5, false)
theorem X_X6_drawn_ok : x_okT RX6 X_X6_drawn = true := by decide +kernel
theorem k_X6_drawn (l : Launch) : ∀ z ∈ X_X6_drawn.2.2.2.2.1, x_Cal l (x_rm 23 0 0) cX6_drawn RX6 6 z.1 z.2 := List.forall_mem_cons.mpr ⟨x_cal_S (idx := 111) (c_X6_refusalAlong l) ⟨by decide, by decide⟩ (by decide +kernel) (by decide +kernel) (by decide +kernel) (by decide +kernel) (by decide +kernel), List.forall_mem_cons.mpr ⟨x_cal_V (idx := 57) (ci := 4) (n := 1) (c_X6_refuse l) ⟨by decide, by decide⟩ (by decide +kernel) (by decide +kernel) (by decide +kernel) (by decide +kernel) (by decide +kernel) rfl rfl rfl (by decide +kernel) r_X6_refuse, List.forall_mem_cons.mpr ⟨x_cal_V (idx := 114) (ci := 4) (n := 1) (c_X6_along l) ⟨by decide, by decide⟩ (by decide +kernel) (by decide +kernel) (by decide +kernel) (by decide +kernel) (by decide +kernel) rfl rfl rfl (by decide +kernel) r_X6_along, List.forall_mem_cons.mpr ⟨x_cal_V (idx := 136) (ci := 3) (n := 0) (c_X5_isFirstDrawn l) ⟨by decide, by decide⟩ (by decide +kernel) (by decide +kernel) (by decide +kernel) (by decide +kernel) (by decide +kernel) rfl rfl rfl (by decide +kernel) r_X5_isFirstDrawn, List.forall_mem_cons.mpr ⟨x_cal_V (idx := 142) (ci := 3) (n := 2) (c_X5_firstRelation l) ⟨by decide, by decide⟩ (by decide +kernel) (by decide +kernel) (by decide +kernel) (by decide +kernel) (by decide +kernel) rfl rfl rfl (by decide +kernel) r_X5_firstRelation, fun _ h => absurd h List.not_mem_nil⟩⟩⟩⟩⟩
set_option maxHeartbeats 4000000 in
set_option maxRecDepth 100000 in
theorem c_X6_drawn (l : Launch) : x_CT l yX6_drawn cX6_drawn 6 (some .int) 23 q_X6_drawn := by
  refine x_meth (X := X_X6_drawn) (bl := b_X6_drawn) (cut := []) (own := RX6) 30 (by decide) rfl X_X6_drawn_ok b_X6_drawn_ok rfl (Nat.le_of_ble_eq_true rfl) (k_X6_drawn l) ?_
  rintro as S M - ⟨w, a, b, c, hci, rfl, rfl⟩
  have hok := hci.1.1.2.1
  have hV := hci.2
  refine ⟨fun _ _ _ _ _ _ _ _ => False, ?_, ?_⟩
  · skip
    refine xt_blk rfl rfl (by dsimp only [List.take]) ?_
    refine xt_iln1 rfl ?_
    refine xt_iln2 rfl ?_
    refine xt_iln3 rfl ?_
    refine xt_v3 (key := 333) (q := q_X6_refusalAlong) rfl rfl rfl rfl rfl ⟨Nat.le_of_ble_eq_true rfl, Nat.le_of_ble_eq_true rfl⟩ ⟨_, _, _, rfl⟩ (fun rv_ S1 M_3 hq_3 => ?_)
    obtain ⟨eS_, eM_, h_r⟩ := hq_3 _ _ _ rfl
    replace eS_ := eS_.symm
    replace eM_ := eM_.symm
    subst eS_ eM_
    have hex_r : ∃ v, rv_ = some (.inl v) := by rcases h_r with ⟨-, e⟩ | ⟨-, -, e⟩ | ⟨-, -, e⟩ <;> exact ⟨_, e⟩
    obtain ⟨v_r, rfl⟩ := hex_r
    simp only [Option.some.injEq, Sum.inl.injEq] at h_r
    replace h_r : rfA w a b v_r := h_r
    try dsimp only [Option.toList, List.cons_append, List.nil_append]
    refine xt_ist rfl (by dsimp only [x_sto]) ?_
    refine xt_ild rfl ?_
    refine xt_eq (t := 20) rfl (fun hc_10 => ?_) (fun hc_10 => ?_)
    · skip
      obtain ⟨k_2, k_1⟩ := rfA_ok h_r hc_10
      obtain ⟨wn, hwn, ewn⟩ := id k_1
      subst ewn
      have vw : nv (nI wn) = wn := nv_nI (by omega)
      obtain ⟨⟨an, han, ean⟩, ⟨bn, hbn, ebn⟩, hab⟩ := id k_2
      subst ean ebn
      have va : nv (nI an) = an := nv_nI (by omega)
      have vb : nv (nI bn) = bn := nv_nI (by omega)
      have hne : an ≠ bn := fun e => hab (by rw [e])
      refine xt_blk rfl rfl (by dsimp only [List.take]) ?_
      refine xt_aln0 rfl (by first | decide | omega | assumption | (have := isWy_lt hw; omega)) ?_
      refine xt_iln1 rfl ?_
      refine xt_v2 (key := 343) (q := q_X6_along) rfl rfl rfl rfl rfl ⟨Nat.le_of_ble_eq_true rfl, Nat.le_of_ble_eq_true rfl⟩ ⟨_, rfl, rfl⟩ (fun rv_ S1 M_22 hq_22 => ?_)
      obtain ⟨eS_, eM_, rfl⟩ := hq_22 _ rfl
      replace eS_ := eS_.symm
      replace eM_ := eM_.symm
      subst eS_ eM_
      obtain ⟨q, eq, hw, hwo, hp⟩ := al_q hci hwn
      subst hwo
      rw [eq]
      try dsimp only [Option.toList, List.cons_append, List.nil_append]
      refine xt_ast rfl (by first | decide | omega | assumption | (have := isWy_lt hw; omega)) (by dsimp only [x_sto]) ?_
      refine xt_ald rfl (by first | decide | omega | assumption | (have := isWy_lt hw; omega)) ?_
      refine xt_v1 (key := 409) (q := q_X5_isFirstDrawn) rfl rfl rfl rfl rfl ⟨Nat.le_of_ble_eq_true rfl, Nat.le_of_ble_eq_true rfl⟩ ⟨q, hp, rfl, rfl⟩ (fun rv_ S1 M_29 hq_29 => ?_)
      obtain ⟨eS_, hEd, hpos⟩ := hq_29 q rfl
      replace eS_ := eS_.symm
      subst eS_
      have hex : ∃ v, rv_ = some (.inl v) := by rcases hpos with ⟨e, -⟩ | ⟨e, -⟩ <;> exact ⟨_, e⟩
      obtain ⟨v, rfl⟩ := hex
      simp only [Option.some.injEq, Sum.inl.injEq] at hpos
      try dsimp only [Option.toList, List.cons_append, List.nil_append]
      refine xt_eq (t := 45) rfl (fun hc_32 => ?_) (fun hc_32 => ?_)
      · skip
        refine xt_blk rfl rfl (by dsimp only [List.take]) ?_
        refine xt_bim rfl ?_
        refine xt_nil (t := 47) rfl ?_
        refine xt_blk rfl rfl (by dsimp only [List.take]) ?_
        refine xt_ri rfl (Nat.le_refl _) ?_
        intro w2 a2 b2 e2
        simp only [List.cons.injEq, Sum.inl.injEq, and_true, true_and] at e2
        obtain ⟨rfl, rfl, rfl⟩ := e2
        have hlt := wo_lt q
        have vw : nv (nI (wo q)) = wo q := nv_nI (by omega)
        have hsat : ¬ Sat (tF M (wo q)) := by
          rcases hpos with ⟨e, -⟩ | ⟨-, z⟩
          · rw [e] at hc_32; exact absurd hc_32 (by decide)
          · exact z
        refine ⟨rfl, CE_Wk (Ed_Wk hw hEd) ?_⟩
        unfold spDrawn
        rw [spAl_ok k_2 k_1, vw, tF_v M hlt, cif_f hsat]
      · skip
        have hsat : Sat (tF M (wo q)) ∧ M_29 q 12 = nI 1 := by
          rcases hpos with ⟨-, z, z2⟩ | ⟨e, -⟩
          · exact ⟨z, z2⟩
          · rw [e] at hc_32; exact absurd rfl hc_32
        have hfi : ∃ s g, At M_29 (q + 3) g ∧ FI (tF M (wo q)) 15 s g ∧ ∀ e, e < 12 → M_29 (q + 6) e = nI (rkf g e 12) := by
          rcases hEd.2.2.2.2.2.2.2 with e | ⟨-, z⟩
          · rw [hsat.2] at e; exact absurd e (by decide)
          · exact z
        obtain ⟨s, g, hg, hF, hnum⟩ := hfi
        refine xt_ald rfl (by first | decide | omega | assumption | (have := isWy_lt hw; omega)) ?_
        refine xt_iln2 rfl ?_
        refine xt_iln3 rfl ?_
        refine xt_v3 (key := 427) (q := q_X5_firstRelation) rfl rfl rfl rfl rfl ⟨Nat.le_of_ble_eq_true rfl, Nat.le_of_ble_eq_true rfl⟩ ⟨q, an, bn, _, hw, rfl, han, hbn, (show g (an * 6 + bn) < 8192 ∧ M_29 (q + 3) (an * 6 + bn) = nI (g (an * 6 + bn)) from hg _ (by omega)), rfl⟩ (fun rv_ S1 M_39 hq_39 => ?_)
        obtain ⟨eS_, eM_, rfl⟩ := hq_39 q an bn _ hw han hbn (show g (an * 6 + bn) < 8192 ∧ M_29 (q + 3) (an * 6 + bn) = nI (g (an * 6 + bn)) from hg _ (by omega)) rfl
        replace eS_ := eS_.symm
        replace eM_ := eM_.symm
        subst eS_ eM_
        try dsimp only [Option.toList, List.cons_append, List.nil_append]
        refine xt_goto (t := 47) rfl ?_
        refine xt_blk rfl rfl (by dsimp only [List.take]) ?_
        refine xt_ri rfl (Nat.le_refl _) ?_
        intro w2 a2 b2 e2
        simp only [List.cons.injEq, Sum.inl.injEq, and_true, true_and] at e2
        obtain ⟨rfl, rfl, rfl⟩ := e2
        have hlt := wo_lt q
        have vw : nv (nI (wo q)) = wo q := nv_nI (by omega)
        refine ⟨rfl, CE_Wk (Ed_Wk hw hEd) ?_⟩
        unfold spDrawn
        rw [spAl_ok k_2 k_1, vw, tF_v M hlt, cif_t hsat.1, va, vb, fi_rel hF han hbn hne]
    · skip
      obtain ⟨p, hp0, hp7, ev, hpp⟩ := rfA_no h_r hc_10
      subst ev
      refine xt_aln0 rfl (by first | decide | omega | assumption | (have := isWy_lt hw; omega)) ?_
      refine xt_ild rfl ?_
      refine xt_v2 (key := 172) (q := q_X6_refuse) rfl rfl rfl rfl rfl ⟨Nat.le_of_ble_eq_true rfl, Nat.le_of_ble_eq_true rfl⟩ ⟨p, hp0, hp7, rfl, rfl⟩ (fun rv_ S1 M_16 hq_16 => ?_)
      obtain ⟨eS_, eM_, rfl⟩ := hq_16 p hp0 hp7 rfl
      replace eS_ := eS_.symm
      replace eM_ := eM_.symm
      subst eS_ eM_
      try dsimp only [Option.toList, List.cons_append, List.nil_append]
      refine xt_ri rfl (Nat.le_refl _) ?_
      intro w2 a2 b2 e2
      simp only [List.cons.injEq, Sum.inl.injEq, and_true, true_and] at e2
      obtain ⟨rfl, rfl, rfl⟩ := e2
      exact ⟨rfl, CE_R (rfA_sp hpp)⟩
  · intro μ pc ls st S2 M2 cs sl h; exact h.elim
def q_X6_word : x_K := (4, fun as S M => ∃ (w : Int32) (y : Int32) (s : Int32) (c : Nat), CI c M ∧ S = SH ∧ as = [.inr (.inl 0), .inl w, .inl y, .inl s], fun as S M rv_ S' M' => ∀ (w : Int32) (y : Int32) (s : Int32), as = [.inr (.inl 0), .inl w, .inl y, .inl s] → S' = S ∧ CEnd M M' rv_ (spWord (vM M) w y s), 0, 0)
theorem r_X6_word : ∀ as S M, q_X6_word.2.1 as S M → ∃ (k : Nat) (as' : List x_V) (fs : List (Option Nat)), as = .inr (.inl k) :: as' ∧ S[k]? = some (.inl (4, fs)) := by
  rintro as S M ⟨w, y, s, c, -, rfl, rfl⟩
  exact ⟨0, _, _, rfl, rfl⟩
def b_X6_word : x_B := [(0, 4, [(.iload_n 1, 1), (.invokestatic 149, 3), (.ifCond .ne 9, 3), (.aload_n 0, 1), (.iconst (-1), 1), (.invokevirtual 57, 3), (.ireturn, 1)]),
  (13, 4, [(.iload_n 2, 1), (.invokestatic 124, 3), (.ifCond .eq 10, 3), (.iload_n 3, 1), (.invokestatic 53, 3), (.ifCond .ne 10, 3)]),
  (27, 4, [(.aload_n 0, 1), (.bipush (-2), 2), (.invokevirtual 57, 3), (.ireturn, 1)]),
  (34, 4, [(.aload_n 0, 1), (.getfield 40, 3), (.iload_n 1, 1), (.aaload, 1), (.iload_n 2, 1), (.iaload, 1), (.istore 4, 2), (.aload_n 0, 1), (.getfield 40, 3), (.iload_n 1, 1), (.aaload, 1), (.iload_n 2, 1), (.iload_n 3, 1), (.iastore, 1), (.iload 4, 2), (.ireturn, 1)])]
theorem b_X6_word_ok : x_okB cX6_word 5 b_X6_word = true := by decide +kernel
def X_X6_word : x_X := ([(40, 4, 4)], [], [], [], [(447, q_X6_isWord), (172, q_X6_refuse), (372, q_X6_isWay), (159, q_X6_isSet)], (0, 0), x_kn, x_kf, 5, false)
theorem X_X6_word_ok : x_okT RX6 X_X6_word = true := by decide +kernel
theorem k_X6_word (l : Launch) : ∀ z ∈ X_X6_word.2.2.2.2.1, x_Cal l (x_rm 2 0 0) cX6_word RX6 5 z.1 z.2 := List.forall_mem_cons.mpr ⟨x_cal_S (idx := 149) (c_X6_isWord l) ⟨by decide, by decide⟩ (by decide +kernel) (by decide +kernel) (by decide +kernel) (by decide +kernel) (by decide +kernel), List.forall_mem_cons.mpr ⟨x_cal_V (idx := 57) (ci := 4) (n := 1) (c_X6_refuse l) ⟨by decide, by decide⟩ (by decide +kernel) (by decide +kernel) (by decide +kernel) (by decide +kernel) (by decide +kernel) rfl rfl rfl (by decide +kernel) r_X6_refuse, List.forall_mem_cons.mpr ⟨x_cal_S (idx := 124) (c_X6_isWay l) ⟨by decide, by decide⟩ (by decide +kernel) (by decide +kernel) (by decide +kernel) (by decide +kernel) (by decide +kernel), List.forall_mem_cons.mpr ⟨x_cal_S (idx := 53) (c_X6_isSet l) ⟨by decide, by decide⟩ (by decide +kernel) (by decide +kernel) (by decide +kernel) (by decide +kernel) (by decide +kernel), fun _ h => absurd h List.not_mem_nil⟩⟩⟩⟩
set_option maxHeartbeats 4000000 in
set_option maxRecDepth 100000 in
theorem c_X6_word (l : Launch) : x_CT l yX6_word cX6_word 5 (some .int) 2 q_X6_word := by
  refine x_meth (X := X_X6_word) (bl := b_X6_word) (cut := []) (own := RX6) 30 (by decide) rfl X_X6_word_ok b_X6_word_ok rfl (Nat.le_of_ble_eq_true rfl) (k_X6_word l) ?_
  rintro as S M - ⟨w, y, s, c, hci, rfl, rfl⟩
  have hok := hci.1.1.2.1
  have hV := hci.2
  refine ⟨fun _ _ _ _ _ _ _ _ => False, ?_, ?_⟩
  · skip
    refine xt_blk rfl rfl (by dsimp only [List.take]) ?_
    refine xt_iln1 rfl ?_
    refine xt_v1 (key := 447) (q := q_X6_isWord) rfl rfl rfl rfl rfl ⟨Nat.le_of_ble_eq_true rfl, Nat.le_of_ble_eq_true rfl⟩ ⟨_, rfl⟩ (fun rv_ S1 M_1 hq_1 => ?_)
    obtain ⟨eS_, eM_, h_c1⟩ := hq_1 _ rfl
    replace eS_ := eS_.symm
    replace eM_ := eM_.symm
    subst eS_ eM_
    have hex_c1 : ∃ v, rv_ = some (.inl v) := by rcases h_c1 with ⟨-, e⟩ | ⟨-, e⟩ <;> exact ⟨_, e⟩
    obtain ⟨v_c1, rfl⟩ := hex_c1
    simp only [Option.some.injEq, Sum.inl.injEq] at h_c1
    try dsimp only [Option.toList, List.cons_append, List.nil_append]
    refine xt_ne (t := 13) rfl (fun hc_4 => ?_) (fun hc_4 => ?_)
    · skip
      have k_1 := k_yes h_c1 hc_4
      refine xt_blk rfl rfl (by dsimp only [List.take]) ?_
      refine xt_iln2 rfl ?_
      refine xt_v1 (key := 372) (q := q_X6_isWay) rfl rfl rfl rfl rfl ⟨Nat.le_of_ble_eq_true rfl, Nat.le_of_ble_eq_true rfl⟩ ⟨_, rfl⟩ (fun rv_ S1 M_14 hq_14 => ?_)
      obtain ⟨eS_, eM_, h_c14⟩ := hq_14 _ rfl
      replace eS_ := eS_.symm
      replace eM_ := eM_.symm
      subst eS_ eM_
      have hex_c14 : ∃ v, rv_ = some (.inl v) := by rcases h_c14 with ⟨-, e⟩ | ⟨-, e⟩ <;> exact ⟨_, e⟩
      obtain ⟨v_c14, rfl⟩ := hex_c14
      simp only [Option.some.injEq, Sum.inl.injEq] at h_c14
      try dsimp only [Option.toList, List.cons_append, List.nil_append]
      refine xt_eq (t := 27) rfl (fun hc_17 => ?_) (fun hc_17 => ?_)
      · skip
        have k_14 := k_no h_c14 hc_17
        refine xt_blk rfl rfl (by dsimp only [List.take]) ?_
        refine xt_aln0 rfl (by first | decide | omega | assumption | (have := isWy_lt hw; omega)) ?_
        refine xt_bim rfl ?_
        refine xt_v2 (key := 172) (q := q_X6_refuse) rfl rfl rfl rfl rfl ⟨Nat.le_of_ble_eq_true rfl, Nat.le_of_ble_eq_true rfl⟩ ⟨2, by decide, by decide, rfl, rfl⟩ (fun rv_ S1 M_30 hq_30 => ?_)
        obtain ⟨eS_, eM_, rfl⟩ := hq_30 2 (by decide) (by decide) rfl
        replace eS_ := eS_.symm
        replace eM_ := eM_.symm
        subst eS_ eM_
        try dsimp only [Option.toList, List.cons_append, List.nil_append]
        refine xt_ri rfl (Nat.le_refl _) ?_
        intro w2 y2 s2 e2
        simp only [List.cons.injEq, Sum.inl.injEq, and_true, true_and] at e2
        obtain ⟨rfl, rfl, rfl⟩ := e2
        refine ⟨rfl, CE_R ?_⟩
        unfold spWord
        rw [cif_t k_1, cif_f k_14]
      · skip
        have k_14 := k_yes h_c14 hc_17
        refine xt_iln3 rfl ?_
        refine xt_v1 (key := 159) (q := q_X6_isSet) rfl rfl rfl rfl rfl ⟨Nat.le_of_ble_eq_true rfl, Nat.le_of_ble_eq_true rfl⟩ ⟨_, rfl⟩ (fun rv_ S1 M_21 hq_21 => ?_)
        obtain ⟨eS_, eM_, h_c21⟩ := hq_21 _ rfl
        replace eS_ := eS_.symm
        replace eM_ := eM_.symm
        subst eS_ eM_
        have hex_c21 : ∃ v, rv_ = some (.inl v) := by rcases h_c21 with ⟨-, e⟩ | ⟨-, e⟩ <;> exact ⟨_, e⟩
        obtain ⟨v_c21, rfl⟩ := hex_c21
        simp only [Option.some.injEq, Sum.inl.injEq] at h_c21
        try dsimp only [Option.toList, List.cons_append, List.nil_append]
        refine xt_ne (t := 34) rfl (fun hc_24 => ?_) (fun hc_24 => ?_)
        · skip
          have k_21 := k_yes h_c21 hc_24
          obtain ⟨wn, hwn, ewn⟩ := id k_1
          subst ewn
          have vw : nv (nI wn) = wn := nv_nI (by omega)
          obtain ⟨yn, hyn, eyn⟩ := id k_14
          subst eyn
          have vy : nv (nI yn) = yn := nv_nI (by omega)
          refine xt_blk rfl rfl (by dsimp only [List.take]) ?_
          refine xt_aln0 rfl (by first | decide | omega | assumption | (have := isWy_lt hw; omega)) ?_
          refine xt_gfr (q := (4, 4)) rfl (by first | exact SHwd wn hwn | rfl) rfl ?_
          refine xt_iln1 rfl ?_
          refine xt_ral (r := 44 + wn) rfl (show vp_in _ 8 from vp_in_nI (by omega) (by decide)) (by rw [nI_clamp (by omega)]; exact stw wn hwn) (by omega) ?_
          refine xt_iln2 rfl ?_
          refine xt_ial (by first | exact SHwd wn hwn | rfl) (show vp_in _ 2 from vp_in_nI (by omega) (by decide)) ?_
          refine xt_ist rfl (by dsimp only [x_sto]) ?_
          refine xt_aln0 rfl (by first | decide | omega | assumption | (have := isWy_lt hw; omega)) ?_
          refine xt_gfr (q := (4, 4)) rfl (by first | exact SHwd wn hwn | rfl) rfl ?_
          refine xt_iln1 rfl ?_
          refine xt_ral (r := 44 + wn) rfl (show vp_in _ 8 from vp_in_nI (by omega) (by decide)) (by rw [nI_clamp (by omega)]; exact stw wn hwn) (by omega) ?_
          refine xt_iln2 rfl ?_
          refine xt_iln3 rfl ?_
          refine xt_ias (by first | exact SHwd wn hwn | rfl) (show vp_in _ 2 from vp_in_nI (by omega) (by decide)) ?_
          refine xt_ild rfl ?_
          refine xt_ri rfl (Nat.le_refl _) ?_
          intro w2 y2 s2 e2
          simp only [List.cons.injEq, Sum.inl.injEq, and_true, true_and] at e2
          obtain ⟨rfl, rfl, rfl⟩ := e2
          rw [nI_clamp (by omega)]
          refine ⟨rfl, CE_row (by omega) (by omega) (vM_wrd M hwn hyn s) ?_⟩
          unfold spWord
          rw [cif_t k_1, cif_t k_14, cif_t k_21, vw, vy, vM_w M hwn hyn]
        · skip
          have k_21 := k_no h_c21 hc_24
          refine xt_nil (t := 27) rfl ?_
          refine xt_blk rfl rfl (by dsimp only [List.take]) ?_
          refine xt_aln0 rfl (by first | decide | omega | assumption | (have := isWy_lt hw; omega)) ?_
          refine xt_bim rfl ?_
          refine xt_v2 (key := 172) (q := q_X6_refuse) rfl rfl rfl rfl rfl ⟨Nat.le_of_ble_eq_true rfl, Nat.le_of_ble_eq_true rfl⟩ ⟨2, by decide, by decide, rfl, rfl⟩ (fun rv_ S1 M_30 hq_30 => ?_)
          obtain ⟨eS_, eM_, rfl⟩ := hq_30 2 (by decide) (by decide) rfl
          replace eS_ := eS_.symm
          replace eM_ := eM_.symm
          subst eS_ eM_
          try dsimp only [Option.toList, List.cons_append, List.nil_append]
          refine xt_ri rfl (Nat.le_refl _) ?_
          intro w2 y2 s2 e2
          simp only [List.cons.injEq, Sum.inl.injEq, and_true, true_and] at e2
          obtain ⟨rfl, rfl, rfl⟩ := e2
          refine ⟨rfl, CE_R ?_⟩
          unfold spWord
          rw [cif_t k_1, cif_t k_14, cif_f k_21]
    · skip
      have k_1 := k_no h_c1 hc_4
      refine xt_aln0 rfl (by first | decide | omega | assumption | (have := isWy_lt hw; omega)) ?_
      refine xt_icm rfl ?_
      refine xt_v2 (key := 172) (q := q_X6_refuse) rfl rfl rfl rfl rfl ⟨Nat.le_of_ble_eq_true rfl, Nat.le_of_ble_eq_true rfl⟩ ⟨1, by decide, by decide, rfl, rfl⟩ (fun rv_ S1 M_9 hq_9 => ?_)
      obtain ⟨eS_, eM_, rfl⟩ := hq_9 1 (by decide) (by decide) rfl
      replace eS_ := eS_.symm
      replace eM_ := eM_.symm
      subst eS_ eM_
      try dsimp only [Option.toList, List.cons_append, List.nil_append]
      refine xt_ri rfl (Nat.le_refl _) ?_
      intro w2 y2 s2 e2
      simp only [List.cons.injEq, Sum.inl.injEq, and_true, true_and] at e2
      obtain ⟨rfl, rfl, rfl⟩ := e2
      refine ⟨rfl, CE_R ?_⟩
      unfold spWord
      rw [cif_f k_1]
  · intro μ pc ls st S2 M2 cs sl h; exact h.elim
def q_X6_say : x_K := (4, fun as S M => ∃ (w : Int32) (a : Int32) (b : Int32) (c : Nat), CI c M ∧ S = SH ∧ as = [.inr (.inl 0), .inl w, .inl a, .inl b], fun as S M rv_ S' M' => ∀ (w : Int32) (a : Int32) (b : Int32), as = [.inr (.inl 0), .inl w, .inl a, .inl b] → S' = S ∧ CEnd M M' rv_ (spSay (vM M) w a b), 0, 0)
theorem r_X6_say : ∀ as S M, q_X6_say.2.1 as S M → ∃ (k : Nat) (as' : List x_V) (fs : List (Option Nat)), as = .inr (.inl k) :: as' ∧ S[k]? = some (.inl (4, fs)) := by
  rintro as S M ⟨w, a, b, c, -, rfl, rfl⟩
  exact ⟨0, _, _, rfl, rfl⟩
def b_X6_say : x_B := [(0, 4, [(.iload_n 1, 1), (.invokestatic 149, 3), (.ifCond .eq 11, 3), (.iload_n 2, 1), (.iload_n 3, 1), (.invokestatic 81, 3), (.ifCond .ne 9, 3)]),
  (15, 4, [(.aload_n 0, 1), (.iconst (-1), 1), (.invokevirtual 57, 3), (.ireturn, 1)]),
  (21, 4, [(.aload_n 0, 1), (.getfield 10, 3), (.invokevirtual 84, 3), (.ifCond .eq 10, 3), (.aload_n 0, 1), (.bipush (-6), 2), (.invokevirtual 57, 3), (.ireturn, 1)]),
  (38, 4, [(.aload_n 0, 1), (.getfield 10, 3), (.iload_n 2, 1), (.iload_n 3, 1), (.aload_n 0, 1), (.getfield 40, 3), (.iload_n 1, 1), (.aaload, 1), (.iconst 0, 1), (.iaload, 1), (.aload_n 0, 1), (.getfield 40, 3), (.iload_n 1, 1), (.aaload, 1), (.iconst 1, 1), (.iaload, 1), (.invokevirtual 88, 3), (.ireturn, 1)])]
theorem b_X6_say_ok : x_okB cX6_say 4 b_X6_say = true := by decide +kernel
def X_X6_say : x_X := ([(10, 4, 0), (40, 4, 4)], [], [], [], [(447, q_X6_isWord), (243, q_X6_areTwoThings), (172, q_X6_refuse), (253, q_X4_isFull), (265, q_X4_add)], (0, 0), x_kn, x_kf, 5, false)
theorem X_X6_say_ok : x_okT RX6 X_X6_say = true := by decide +kernel
theorem k_X6_say (l : Launch) : ∀ z ∈ X_X6_say.2.2.2.2.1, x_Cal l (x_rm 3 0 0) cX6_say RX6 4 z.1 z.2 := List.forall_mem_cons.mpr ⟨x_cal_S (idx := 149) (c_X6_isWord l) ⟨by decide, by decide⟩ (by decide +kernel) (by decide +kernel) (by decide +kernel) (by decide +kernel) (by decide +kernel), List.forall_mem_cons.mpr ⟨x_cal_S (idx := 81) (c_X6_areTwoThings l) ⟨by decide, by decide⟩ (by decide +kernel) (by decide +kernel) (by decide +kernel) (by decide +kernel) (by decide +kernel), List.forall_mem_cons.mpr ⟨x_cal_V (idx := 57) (ci := 4) (n := 1) (c_X6_refuse l) ⟨by decide, by decide⟩ (by decide +kernel) (by decide +kernel) (by decide +kernel) (by decide +kernel) (by decide +kernel) rfl rfl rfl (by decide +kernel) r_X6_refuse, List.forall_mem_cons.mpr ⟨x_cal_V (idx := 84) (ci := 2) (n := 0) (c_X4_isFull l) ⟨by decide, by decide⟩ (by decide +kernel) (by decide +kernel) (by decide +kernel) (by decide +kernel) (by decide +kernel) rfl rfl rfl (by decide +kernel) r_X4_isFull, List.forall_mem_cons.mpr ⟨x_cal_V (idx := 88) (ci := 2) (n := 4) (c_X4_add l) ⟨by decide, by decide⟩ (by decide +kernel) (by decide +kernel) (by decide +kernel) (by decide +kernel) (by decide +kernel) rfl rfl rfl (by decide +kernel) r_X4_add, fun _ h => absurd h List.not_mem_nil⟩⟩⟩⟩⟩
set_option maxHeartbeats 4000000 in
set_option maxRecDepth 100000 in
theorem c_X6_say (l : Launch) : x_CT l yX6_say cX6_say 4 (some .int) 3 q_X6_say := by
  refine x_meth (X := X_X6_say) (bl := b_X6_say) (cut := []) (own := RX6) 30 (by decide) rfl X_X6_say_ok b_X6_say_ok rfl (Nat.le_of_ble_eq_true rfl) (k_X6_say l) ?_
  rintro as S M - ⟨w, a, b, c, hci, rfl, rfl⟩
  have hok := hci.1.1.2.1
  have hV := hci.2
  refine ⟨fun _ _ _ _ _ _ _ _ => False, ?_, ?_⟩
  · skip
    refine xt_blk rfl rfl (by dsimp only [List.take]) ?_
    refine xt_iln1 rfl ?_
    refine xt_v1 (key := 447) (q := q_X6_isWord) rfl rfl rfl rfl rfl ⟨Nat.le_of_ble_eq_true rfl, Nat.le_of_ble_eq_true rfl⟩ ⟨_, rfl⟩ (fun rv_ S1 M_1 hq_1 => ?_)
    obtain ⟨eS_, eM_, h_c1⟩ := hq_1 _ rfl
    replace eS_ := eS_.symm
    replace eM_ := eM_.symm
    subst eS_ eM_
    have hex_c1 : ∃ v, rv_ = some (.inl v) := by rcases h_c1 with ⟨-, e⟩ | ⟨-, e⟩ <;> exact ⟨_, e⟩
    obtain ⟨v_c1, rfl⟩ := hex_c1
    simp only [Option.some.injEq, Sum.inl.injEq] at h_c1
    try dsimp only [Option.toList, List.cons_append, List.nil_append]
    refine xt_eq (t := 15) rfl (fun hc_4 => ?_) (fun hc_4 => ?_)
    · skip
      have k_1 := k_no h_c1 hc_4
      refine xt_blk rfl rfl (by dsimp only [List.take]) ?_
      refine xt_aln0 rfl (by first | decide | omega | assumption | (have := isWy_lt hw; omega)) ?_
      refine xt_icm rfl ?_
      refine xt_v2 (key := 172) (q := q_X6_refuse) rfl rfl rfl rfl rfl ⟨Nat.le_of_ble_eq_true rfl, Nat.le_of_ble_eq_true rfl⟩ ⟨1, by decide, by decide, rfl, rfl⟩ (fun rv_ S1 M_17 hq_17 => ?_)
      obtain ⟨eS_, eM_, rfl⟩ := hq_17 1 (by decide) (by decide) rfl
      replace eS_ := eS_.symm
      replace eM_ := eM_.symm
      subst eS_ eM_
      try dsimp only [Option.toList, List.cons_append, List.nil_append]
      refine xt_ri rfl (Nat.le_refl _) ?_
      intro w2 a2 b2 e2
      simp only [List.cons.injEq, Sum.inl.injEq, and_true, true_and] at e2
      obtain ⟨rfl, rfl, rfl⟩ := e2
      refine ⟨rfl, CE_R ?_⟩
      unfold spSay
      rw [cif_f k_1]
    · skip
      have k_1 := k_yes h_c1 hc_4
      refine xt_iln2 rfl ?_
      refine xt_iln3 rfl ?_
      refine xt_v2 (key := 243) (q := q_X6_areTwoThings) rfl rfl rfl rfl rfl ⟨Nat.le_of_ble_eq_true rfl, Nat.le_of_ble_eq_true rfl⟩ ⟨_, _, rfl⟩ (fun rv_ S1 M_9 hq_9 => ?_)
      obtain ⟨eS_, eM_, h_c9⟩ := hq_9 _ _ rfl
      replace eS_ := eS_.symm
      replace eM_ := eM_.symm
      subst eS_ eM_
      have hex_c9 : ∃ v, rv_ = some (.inl v) := by rcases h_c9 with ⟨-, e⟩ | ⟨-, e⟩ <;> exact ⟨_, e⟩
      obtain ⟨v_c9, rfl⟩ := hex_c9
      simp only [Option.some.injEq, Sum.inl.injEq] at h_c9
      try dsimp only [Option.toList, List.cons_append, List.nil_append]
      refine xt_ne (t := 21) rfl (fun hc_12 => ?_) (fun hc_12 => ?_)
      · skip
        have k_9 := k_yes h_c9 hc_12
        obtain ⟨wn, hwn, ewn⟩ := id k_1
        subst ewn
        have vw : nv (nI wn) = wn := nv_nI (by omega)
        have ho := hV.2.2.2.1 wn 0 hwn (by decide)
        have hu := hV.2.2.2.1 wn 1 hwn (by decide)
        rw [vM_w M hwn (by decide)] at ho hu
        refine xt_blk rfl rfl (by dsimp only [List.take]) ?_
        refine xt_aln0 rfl (by first | decide | omega | assumption | (have := isWy_lt hw; omega)) ?_
        refine xt_gfr (q := (4, 0)) rfl (by first | exact SHwd wn hwn | rfl) rfl ?_
        refine xt_v1 (key := 253) (q := q_X4_isFull) rfl rfl rfl rfl rfl ⟨Nat.le_of_ble_eq_true rfl, Nat.le_of_ble_eq_true rfl⟩ ⟨rfl, ⟨nN M, hok.1, hok.2.1⟩, rfl⟩ (fun rv_ S1 M_25 hq_25 => ?_)
        obtain ⟨eS_, eM_, rfl⟩ := hq_25 (nN M) hok.1 hok.2.1 rfl
        replace eS_ := eS_.symm
        replace eM_ := eM_.symm
        subst eS_ eM_
        have h_c25 := k_full hok.1
        try dsimp only [Option.toList, List.cons_append, List.nil_append]
        refine xt_eq (t := 38) rfl (fun hc_28 => ?_) (fun hc_28 => ?_)
        · skip
          have k_25 := k_no h_c25 hc_28
          refine xt_blk rfl rfl (by dsimp only [List.take]) ?_
          refine xt_aln0 rfl (by first | decide | omega | assumption | (have := isWy_lt hw; omega)) ?_
          refine xt_gfr (q := (4, 0)) rfl (by first | exact SHwd wn hwn | rfl) rfl ?_
          refine xt_iln2 rfl ?_
          refine xt_iln3 rfl ?_
          refine xt_aln0 rfl (by first | decide | omega | assumption | (have := isWy_lt hw; omega)) ?_
          refine xt_gfr (q := (4, 4)) rfl (by first | exact SHwd wn hwn | rfl) rfl ?_
          refine xt_iln1 rfl ?_
          refine xt_ral (r := 44 + wn) rfl (show vp_in _ 8 from vp_in_nI (by omega) (by decide)) (by rw [nI_clamp (by omega)]; exact stw wn hwn) (by omega) ?_
          refine xt_ic ?_
          refine xt_ial (by first | exact SHwd wn hwn | rfl) (show vp_in _ 2 from vp_in_nI (by omega) (by decide)) ?_
          refine xt_aln0 rfl (by first | decide | omega | assumption | (have := isWy_lt hw; omega)) ?_
          refine xt_gfr (q := (4, 4)) rfl (by first | exact SHwd wn hwn | rfl) rfl ?_
          refine xt_iln1 rfl ?_
          refine xt_ral (r := 44 + wn) rfl (show vp_in _ 8 from vp_in_nI (by omega) (by decide)) (by rw [nI_clamp (by omega)]; exact stw wn hwn) (by omega) ?_
          refine xt_ic ?_
          refine xt_ial (by first | exact SHwd wn hwn | rfl) (show vp_in _ 2 from vp_in_nI (by omega) (by decide)) ?_
          refine xt_v5 (key := 265) (q := q_X4_add) rfl rfl rfl rfl rfl ⟨Nat.le_of_ble_eq_true rfl, Nat.le_of_ble_eq_true rfl⟩ ⟨a, b, _, _, rfl, ⟨nN M, by have := hok.1; omega, hok.2.1⟩, rfl⟩ (fun rv_ S1 M_60 hq_60 => ?_)
          obtain ⟨eS_, eM_, rfl⟩ := hq_60 a b _ _ (nN M) (by have := hok.1; omega) hok.2.1 rfl
          replace eS_ := eS_.symm
          replace eM_ := eM_.symm
          subst eS_ eM_
          try dsimp only [Option.toList, List.cons_append, List.nil_append]
          refine xt_ri rfl (Nat.le_refl _) ?_
          intro w2 a2 b2 e2
          simp only [List.cons.injEq, Sum.inl.injEq, and_true, true_and] at e2
          obtain ⟨rfl, rfl, rfl⟩ := e2
          have c0 : (nI 0).toNatClampNeg = 0 := nI_clamp (by decide)
          have c1 : (nI 1).toNatClampNeg = 1 := nI_clamp (by decide)
          rw [c0, c1]
          have hn30 : nN M < 30 := by have := hok.1; omega
          refine ⟨rfl, CE_add hok hn30 k_9 ho hu ?_⟩
          unfold spSay spAdd
          rw [cif_t k_1, cif_t k_9, vw, vM_w M hwn (by decide), vM_w M hwn (by decide)]
          exact cif_f (show ¬ nN (vM M) = 30 from k_25)
        · skip
          have k_25 := k_yes h_c25 hc_28
          refine xt_aln0 rfl (by first | decide | omega | assumption | (have := isWy_lt hw; omega)) ?_
          refine xt_bim rfl ?_
          refine xt_v2 (key := 172) (q := q_X6_refuse) rfl rfl rfl rfl rfl ⟨Nat.le_of_ble_eq_true rfl, Nat.le_of_ble_eq_true rfl⟩ ⟨6, by decide, by decide, rfl, rfl⟩ (fun rv_ S1 M_34 hq_34 => ?_)
          obtain ⟨eS_, eM_, rfl⟩ := hq_34 6 (by decide) (by decide) rfl
          replace eS_ := eS_.symm
          replace eM_ := eM_.symm
          subst eS_ eM_
          try dsimp only [Option.toList, List.cons_append, List.nil_append]
          refine xt_ri rfl (Nat.le_refl _) ?_
          intro w2 a2 b2 e2
          simp only [List.cons.injEq, Sum.inl.injEq, and_true, true_and] at e2
          obtain ⟨rfl, rfl, rfl⟩ := e2
          refine ⟨rfl, CE_R ?_⟩
          unfold spSay spAdd
          rw [cif_t k_1, cif_t k_9]
          exact cif_t (show nN (vM M) = 30 from k_25)
      · skip
        have k_9 := k_no h_c9 hc_12
        refine xt_nil (t := 15) rfl ?_
        refine xt_blk rfl rfl (by dsimp only [List.take]) ?_
        refine xt_aln0 rfl (by first | decide | omega | assumption | (have := isWy_lt hw; omega)) ?_
        refine xt_icm rfl ?_
        refine xt_v2 (key := 172) (q := q_X6_refuse) rfl rfl rfl rfl rfl ⟨Nat.le_of_ble_eq_true rfl, Nat.le_of_ble_eq_true rfl⟩ ⟨1, by decide, by decide, rfl, rfl⟩ (fun rv_ S1 M_17 hq_17 => ?_)
        obtain ⟨eS_, eM_, rfl⟩ := hq_17 1 (by decide) (by decide) rfl
        replace eS_ := eS_.symm
        replace eM_ := eM_.symm
        subst eS_ eM_
        try dsimp only [Option.toList, List.cons_append, List.nil_append]
        refine xt_ri rfl (Nat.le_refl _) ?_
        intro w2 a2 b2 e2
        simp only [List.cons.injEq, Sum.inl.injEq, and_true, true_and] at e2
        obtain ⟨rfl, rfl, rfl⟩ := e2
        refine ⟨rfl, CE_R ?_⟩
        unfold spSay
        rw [cif_t k_1, cif_f k_9]
  · intro μ pc ls st S2 M2 cs sl h; exact h.elim
def q_X6_box : x_K := (6, fun as S M => ∃ (t : Int32) (a : Int32) (z : Int32) (b : Int32) (y : Int32) (c : Nat), CI c M ∧ S = SH ∧ as = [.inr (.inl 0), .inl t, .inl a, .inl z, .inl b, .inl y], fun as S M rv_ S' M' => ∀ (t : Int32) (a : Int32) (z : Int32) (b : Int32) (y : Int32), as = [.inr (.inl 0), .inl t, .inl a, .inl z, .inl b, .inl y] → S' = S ∧ CEnd M M' rv_ (spBox (vM M) t a z b y), 0, 0)
theorem r_X6_box : ∀ as S M, q_X6_box.2.1 as S M → ∃ (k : Nat) (as' : List x_V) (fs : List (Option Nat)), as = .inr (.inl k) :: as' ∧ S[k]? = some (.inl (4, fs)) := by
  rintro as S M ⟨t, a, z, b, y, c, -, rfl, rfl⟩
  exact ⟨0, _, _, rfl, rfl⟩
def b_X6_box : x_B := [(0, 6, [(.iload_n 1, 1), (.invokestatic 133, 3), (.ifCond .ne 9, 3), (.aload_n 0, 1), (.iconst (-1), 1), (.invokevirtual 57, 3), (.ireturn, 1)]),
  (13, 6, [(.iload_n 2, 1), (.ifCond .lt 20, 3), (.iload 4, 2), (.ifCond .lt 15, 3), (.iload_n 3, 1), (.iload_n 2, 1), (.if_icmp .le 10, 3), (.iload 5, 2), (.iload 4, 2), (.if_icmp .gt 10, 3)]),
  (34, 6, [(.aload_n 0, 1), (.bipush (-4), 2), (.invokevirtual 57, 3), (.ireturn, 1)]),
  (41, 6, [(.iload_n 3, 1), (.bipush 99, 2), (.if_icmp .gt 10, 3), (.iload 5, 2), (.bipush 99, 2), (.if_icmp .le 10, 3)]),
  (54, 6, [(.aload_n 0, 1), (.bipush (-6), 2), (.invokevirtual 57, 3), (.ireturn, 1)]),
  (61, 6, [(.aload_n 0, 1), (.getfield 34, 3), (.iload_n 1, 1), (.invokevirtual 155, 3), (.istore 6, 2), (.aload_n 0, 1), (.getfield 34, 3), (.iload_n 1, 1), (.iload_n 2, 1), (.iload_n 3, 1), (.iload 4, 2), (.iload 5, 2), (.invokevirtual 156, 3), (.iload 6, 2), (.ifCond .eq 7, 3), (.iconst 0, 1), (.goto 4, 3)]),
  (94, 7, [(.iconst 1, 1)]),
  (95, 7, [(.ireturn, 1)])]
theorem b_X6_box_ok : x_okB cX6_box 7 b_X6_box = true := by decide +kernel
def X_X6_box : x_X := ([(34, 4, 3)], [], [], [], [(399, q_X6_isThing), (172, q_X6_refuse), (466, q_X0_has), (469, q_X0_draw)], (0, 0), x_kn, x_kf, 5, false)
theorem X_X6_box_ok : x_okT RX6 X_X6_box = true := by decide +kernel
theorem k_X6_box (l : Launch) : ∀ z ∈ X_X6_box.2.2.2.2.1, x_Cal l (x_rm 2 0 0) cX6_box RX6 7 z.1 z.2 := List.forall_mem_cons.mpr ⟨x_cal_S (idx := 133) (c_X6_isThing l) ⟨by decide, by decide⟩ (by decide +kernel) (by decide +kernel) (by decide +kernel) (by decide +kernel) (by decide +kernel), List.forall_mem_cons.mpr ⟨x_cal_V (idx := 57) (ci := 4) (n := 1) (c_X6_refuse l) ⟨by decide, by decide⟩ (by decide +kernel) (by decide +kernel) (by decide +kernel) (by decide +kernel) (by decide +kernel) rfl rfl rfl (by decide +kernel) r_X6_refuse, List.forall_mem_cons.mpr ⟨x_cal_V (idx := 155) (ci := 0) (n := 1) (c_X0_has l) ⟨by decide, by decide⟩ (by decide +kernel) (by decide +kernel) (by decide +kernel) (by decide +kernel) (by decide +kernel) rfl rfl rfl (by decide +kernel) r_X0_has, List.forall_mem_cons.mpr ⟨x_cal_V (idx := 156) (ci := 0) (n := 5) (c_X0_draw l) ⟨by decide, by decide⟩ (by decide +kernel) (by decide +kernel) (by decide +kernel) (by decide +kernel) (by decide +kernel) rfl rfl rfl (by decide +kernel) r_X0_draw, fun _ h => absurd h List.not_mem_nil⟩⟩⟩⟩
set_option maxHeartbeats 4000000 in
set_option maxRecDepth 100000 in
theorem c_X6_box (l : Launch) : x_CT l yX6_box cX6_box 7 (some .int) 2 q_X6_box := by
  refine x_meth (X := X_X6_box) (bl := b_X6_box) (cut := []) (own := RX6) 30 (by decide) rfl X_X6_box_ok b_X6_box_ok rfl (Nat.le_of_ble_eq_true rfl) (k_X6_box l) ?_
  rintro as S M - ⟨t, a, z, b, y, c, hci, rfl, rfl⟩
  have hok := hci.1.1.2.1
  have hV := hci.2
  refine ⟨fun _ _ _ _ _ _ _ _ => False, ?_, ?_⟩
  · skip
    refine xt_blk rfl rfl (by dsimp only [List.take]) ?_
    refine xt_iln1 rfl ?_
    refine xt_v1 (key := 399) (q := q_X6_isThing) rfl rfl rfl rfl rfl ⟨Nat.le_of_ble_eq_true rfl, Nat.le_of_ble_eq_true rfl⟩ ⟨_, rfl⟩ (fun rv_ S1 M_1 hq_1 => ?_)
    obtain ⟨eS_, eM_, h_c1⟩ := hq_1 _ rfl
    replace eS_ := eS_.symm
    replace eM_ := eM_.symm
    subst eS_ eM_
    have hex_c1 : ∃ v, rv_ = some (.inl v) := by rcases h_c1 with ⟨-, e⟩ | ⟨-, e⟩ <;> exact ⟨_, e⟩
    obtain ⟨v_c1, rfl⟩ := hex_c1
    simp only [Option.some.injEq, Sum.inl.injEq] at h_c1
    try dsimp only [Option.toList, List.cons_append, List.nil_append]
    refine xt_ne (t := 13) rfl (fun hc_4 => ?_) (fun hc_4 => ?_)
    · skip
      have k_1 := k_yes h_c1 hc_4
      refine xt_blk rfl rfl (by dsimp only [List.take]) ?_
      refine xt_iln2 rfl ?_
      refine xt_lt (t := 34) rfl (fun hc_14 => ?_) (fun hc_14 => ?_)
      · skip
        have k_4 : a < nI 0 ∨ b < nI 0 ∨ z ≤ a ∨ y ≤ b := Or.inl hc_14
        refine xt_blk rfl rfl (by dsimp only [List.take]) ?_
        refine xt_aln0 rfl (by first | decide | omega | assumption | (have := isWy_lt hw; omega)) ?_
        refine xt_bim rfl ?_
        refine xt_v2 (key := 172) (q := q_X6_refuse) rfl rfl rfl rfl rfl ⟨Nat.le_of_ble_eq_true rfl, Nat.le_of_ble_eq_true rfl⟩ ⟨4, by decide, by decide, rfl, rfl⟩ (fun rv_ S1 M_37 hq_37 => ?_)
        obtain ⟨eS_, eM_, rfl⟩ := hq_37 4 (by decide) (by decide) rfl
        replace eS_ := eS_.symm
        replace eM_ := eM_.symm
        subst eS_ eM_
        try dsimp only [Option.toList, List.cons_append, List.nil_append]
        refine xt_ri rfl (Nat.le_refl _) ?_
        intro t2 a2 z2 b2 y2 e2
        simp only [List.cons.injEq, Sum.inl.injEq, and_true, true_and] at e2
        obtain ⟨rfl, rfl, rfl, rfl, rfl⟩ := e2
        refine ⟨rfl, CE_R ?_⟩
        unfold spBox
        rw [cif_t k_1, cif_t k_4]
      · skip
        refine xt_ild rfl ?_
        refine xt_lt (t := 34) rfl (fun hc_19 => ?_) (fun hc_19 => ?_)
        · skip
          have k_4 : a < nI 0 ∨ b < nI 0 ∨ z ≤ a ∨ y ≤ b := Or.inr (Or.inl hc_19)
          refine xt_blk rfl rfl (by dsimp only [List.take]) ?_
          refine xt_aln0 rfl (by first | decide | omega | assumption | (have := isWy_lt hw; omega)) ?_
          refine xt_bim rfl ?_
          refine xt_v2 (key := 172) (q := q_X6_refuse) rfl rfl rfl rfl rfl ⟨Nat.le_of_ble_eq_true rfl, Nat.le_of_ble_eq_true rfl⟩ ⟨4, by decide, by decide, rfl, rfl⟩ (fun rv_ S1 M_37 hq_37 => ?_)
          obtain ⟨eS_, eM_, rfl⟩ := hq_37 4 (by decide) (by decide) rfl
          replace eS_ := eS_.symm
          replace eM_ := eM_.symm
          subst eS_ eM_
          try dsimp only [Option.toList, List.cons_append, List.nil_append]
          refine xt_ri rfl (Nat.le_refl _) ?_
          intro t2 a2 z2 b2 y2 e2
          simp only [List.cons.injEq, Sum.inl.injEq, and_true, true_and] at e2
          obtain ⟨rfl, rfl, rfl, rfl, rfl⟩ := e2
          refine ⟨rfl, CE_R ?_⟩
          unfold spBox
          rw [cif_t k_1, cif_t k_4]
        · skip
          refine xt_iln3 rfl ?_
          refine xt_iln2 rfl ?_
          refine xt_cle (t := 34) rfl (fun hc_24 => ?_) (fun hc_24 => ?_)
          · skip
            have k_4 : a < nI 0 ∨ b < nI 0 ∨ z ≤ a ∨ y ≤ b := Or.inr (Or.inr (Or.inl hc_24))
            refine xt_blk rfl rfl (by dsimp only [List.take]) ?_
            refine xt_aln0 rfl (by first | decide | omega | assumption | (have := isWy_lt hw; omega)) ?_
            refine xt_bim rfl ?_
            refine xt_v2 (key := 172) (q := q_X6_refuse) rfl rfl rfl rfl rfl ⟨Nat.le_of_ble_eq_true rfl, Nat.le_of_ble_eq_true rfl⟩ ⟨4, by decide, by decide, rfl, rfl⟩ (fun rv_ S1 M_37 hq_37 => ?_)
            obtain ⟨eS_, eM_, rfl⟩ := hq_37 4 (by decide) (by decide) rfl
            replace eS_ := eS_.symm
            replace eM_ := eM_.symm
            subst eS_ eM_
            try dsimp only [Option.toList, List.cons_append, List.nil_append]
            refine xt_ri rfl (Nat.le_refl _) ?_
            intro t2 a2 z2 b2 y2 e2
            simp only [List.cons.injEq, Sum.inl.injEq, and_true, true_and] at e2
            obtain ⟨rfl, rfl, rfl, rfl, rfl⟩ := e2
            refine ⟨rfl, CE_R ?_⟩
            unfold spBox
            rw [cif_t k_1, cif_t k_4]
          · skip
            refine xt_ild rfl ?_
            refine xt_ild rfl ?_
            refine xt_cgt (t := 41) rfl (fun hc_31 => ?_) (fun hc_31 => ?_)
            · skip
              have k_4 : ¬ (a < nI 0 ∨ b < nI 0 ∨ z ≤ a ∨ y ≤ b) := by
                rintro (q | q | q | q)
                · exact hc_14 q
                · exact hc_19 q
                · exact hc_24 q
                · exact Int32.not_lt.mpr q hc_31
              refine xt_blk rfl rfl (by dsimp only [List.take]) ?_
              refine xt_iln3 rfl ?_
              refine xt_bi ?_
              refine xt_cgt (t := 54) rfl (fun hc_44 => ?_) (fun hc_44 => ?_)
              · skip
                have k_6 : nI 99 < z ∨ nI 99 < y := Or.inl hc_44
                refine xt_blk rfl rfl (by dsimp only [List.take]) ?_
                refine xt_aln0 rfl (by first | decide | omega | assumption | (have := isWy_lt hw; omega)) ?_
                refine xt_bim rfl ?_
                refine xt_v2 (key := 172) (q := q_X6_refuse) rfl rfl rfl rfl rfl ⟨Nat.le_of_ble_eq_true rfl, Nat.le_of_ble_eq_true rfl⟩ ⟨6, by decide, by decide, rfl, rfl⟩ (fun rv_ S1 M_57 hq_57 => ?_)
                obtain ⟨eS_, eM_, rfl⟩ := hq_57 6 (by decide) (by decide) rfl
                replace eS_ := eS_.symm
                replace eM_ := eM_.symm
                subst eS_ eM_
                try dsimp only [Option.toList, List.cons_append, List.nil_append]
                refine xt_ri rfl (Nat.le_refl _) ?_
                intro t2 a2 z2 b2 y2 e2
                simp only [List.cons.injEq, Sum.inl.injEq, and_true, true_and] at e2
                obtain ⟨rfl, rfl, rfl, rfl, rfl⟩ := e2
                refine ⟨rfl, CE_R ?_⟩
                unfold spBox
                rw [cif_t k_1, cif_f k_4, cif_t k_6]
              · skip
                refine xt_ild rfl ?_
                refine xt_bi ?_
                refine xt_cle (t := 61) rfl (fun hc_51 => ?_) (fun hc_51 => ?_)
                · skip
                  have k_6 : ¬ (nI 99 < z ∨ nI 99 < y) := by
                    rintro (q | q)
                    · exact hc_44 q
                    · exact Int32.not_le.mpr q hc_51
                  obtain ⟨tn, htn, etn⟩ := id k_1
                  subst etn
                  have vt : nv (nI tn) = tn := nv_nI (by omega)
                  refine xt_blk rfl rfl (by dsimp only [List.take]) ?_
                  refine xt_aln0 rfl (by first | decide | omega | assumption | (have := isWy_lt hw; omega)) ?_
                  refine xt_gfr (q := (4, 3)) rfl (by first | rfl | assumption) rfl ?_
                  refine xt_iln1 rfl ?_
                  refine xt_v2 (key := 466) (q := q_X0_has) rfl rfl rfl rfl rfl ⟨Nat.le_of_ble_eq_true rfl, Nat.le_of_ble_eq_true rfl⟩ ⟨tn, htn, rfl, hV.2.2.1, rfl⟩ (fun rv_ S1 M_66 hq_66 => ?_)
                  obtain ⟨eS_, eM_, rfl⟩ := hq_66 tn htn rfl
                  replace eS_ := eS_.symm
                  replace eM_ := eM_.symm
                  subst eS_ eM_
                  try dsimp only [Option.toList, List.cons_append, List.nil_append]
                  refine xt_ist rfl (by dsimp only [x_sto]) ?_
                  refine xt_aln0 rfl (by first | decide | omega | assumption | (have := isWy_lt hw; omega)) ?_
                  refine xt_gfr (q := (4, 3)) rfl (by first | rfl | assumption) rfl ?_
                  refine xt_iln1 rfl ?_
                  refine xt_iln2 rfl ?_
                  refine xt_iln3 rfl ?_
                  refine xt_ild rfl ?_
                  refine xt_ild rfl ?_
                  refine xt_v6 (key := 469) (q := q_X0_draw) rfl rfl rfl rfl rfl ⟨Nat.le_of_ble_eq_true rfl, Nat.le_of_ble_eq_true rfl⟩ ⟨tn, a, z, b, y, htn, rfl, rfl⟩ (fun rv_ S1 M_82 hq_82 => ?_)
                  obtain ⟨eS_, eM_, rfl⟩ := hq_82 tn a z b y htn rfl
                  replace eS_ := eS_.symm
                  replace eM_ := eM_.symm
                  subst eS_ eM_
                  try dsimp only [Option.toList, List.cons_append, List.nil_append]
                  refine xt_ild rfl ?_
                  refine xt_eq (t := 94) rfl (fun hc_87 => ?_) (fun hc_87 => ?_)
                  · skip
                    refine xt_blk rfl rfl (by dsimp only [List.take]) ?_
                    refine xt_ic ?_
                    refine xt_nil (t := 95) rfl ?_
                    refine xt_blk rfl rfl (by dsimp only [List.take]) ?_
                    refine xt_ri rfl (Nat.le_refl _) ?_
                    intro t2 a2 z2 b2 y2 e2
                    simp only [List.cons.injEq, Sum.inl.injEq, and_true, true_and] at e2
                    obtain ⟨rfl, rfl, rfl, rfl, rfl⟩ := e2
                    refine ⟨rfl, CE_draw ?_⟩
                    unfold spBox
                    rw [cif_t k_1, cif_f k_4, cif_f k_6, vt, vM_42, cif_t hc_87]
                  · skip
                    refine xt_ic ?_
                    refine xt_goto (t := 95) rfl ?_
                    refine xt_blk rfl rfl (by dsimp only [List.take]) ?_
                    refine xt_ri rfl (Nat.le_refl _) ?_
                    intro t2 a2 z2 b2 y2 e2
                    simp only [List.cons.injEq, Sum.inl.injEq, and_true, true_and] at e2
                    obtain ⟨rfl, rfl, rfl, rfl, rfl⟩ := e2
                    refine ⟨rfl, CE_draw ?_⟩
                    unfold spBox
                    rw [cif_t k_1, cif_f k_4, cif_f k_6, vt, vM_42, cif_f hc_87]
                · skip
                  have k_6 : nI 99 < z ∨ nI 99 < y := Or.inr (Int32.not_le.mp hc_51)
                  refine xt_nil (t := 54) rfl ?_
                  refine xt_blk rfl rfl (by dsimp only [List.take]) ?_
                  refine xt_aln0 rfl (by first | decide | omega | assumption | (have := isWy_lt hw; omega)) ?_
                  refine xt_bim rfl ?_
                  refine xt_v2 (key := 172) (q := q_X6_refuse) rfl rfl rfl rfl rfl ⟨Nat.le_of_ble_eq_true rfl, Nat.le_of_ble_eq_true rfl⟩ ⟨6, by decide, by decide, rfl, rfl⟩ (fun rv_ S1 M_57 hq_57 => ?_)
                  obtain ⟨eS_, eM_, rfl⟩ := hq_57 6 (by decide) (by decide) rfl
                  replace eS_ := eS_.symm
                  replace eM_ := eM_.symm
                  subst eS_ eM_
                  try dsimp only [Option.toList, List.cons_append, List.nil_append]
                  refine xt_ri rfl (Nat.le_refl _) ?_
                  intro t2 a2 z2 b2 y2 e2
                  simp only [List.cons.injEq, Sum.inl.injEq, and_true, true_and] at e2
                  obtain ⟨rfl, rfl, rfl, rfl, rfl⟩ := e2
                  refine ⟨rfl, CE_R ?_⟩
                  unfold spBox
                  rw [cif_t k_1, cif_f k_4, cif_t k_6]
            · skip
              have k_4 : a < nI 0 ∨ b < nI 0 ∨ z ≤ a ∨ y ≤ b := Or.inr (Or.inr (Or.inr (Int32.not_lt.mp hc_31)))
              refine xt_nil (t := 34) rfl ?_
              refine xt_blk rfl rfl (by dsimp only [List.take]) ?_
              refine xt_aln0 rfl (by first | decide | omega | assumption | (have := isWy_lt hw; omega)) ?_
              refine xt_bim rfl ?_
              refine xt_v2 (key := 172) (q := q_X6_refuse) rfl rfl rfl rfl rfl ⟨Nat.le_of_ble_eq_true rfl, Nat.le_of_ble_eq_true rfl⟩ ⟨4, by decide, by decide, rfl, rfl⟩ (fun rv_ S1 M_37 hq_37 => ?_)
              obtain ⟨eS_, eM_, rfl⟩ := hq_37 4 (by decide) (by decide) rfl
              replace eS_ := eS_.symm
              replace eM_ := eM_.symm
              subst eS_ eM_
              try dsimp only [Option.toList, List.cons_append, List.nil_append]
              refine xt_ri rfl (Nat.le_refl _) ?_
              intro t2 a2 z2 b2 y2 e2
              simp only [List.cons.injEq, Sum.inl.injEq, and_true, true_and] at e2
              obtain ⟨rfl, rfl, rfl, rfl, rfl⟩ := e2
              refine ⟨rfl, CE_R ?_⟩
              unfold spBox
              rw [cif_t k_1, cif_t k_4]
    · skip
      have k_1 := k_no h_c1 hc_4
      refine xt_aln0 rfl (by first | decide | omega | assumption | (have := isWy_lt hw; omega)) ?_
      refine xt_icm rfl ?_
      refine xt_v2 (key := 172) (q := q_X6_refuse) rfl rfl rfl rfl rfl ⟨Nat.le_of_ble_eq_true rfl, Nat.le_of_ble_eq_true rfl⟩ ⟨1, by decide, by decide, rfl, rfl⟩ (fun rv_ S1 M_9 hq_9 => ?_)
      obtain ⟨eS_, eM_, rfl⟩ := hq_9 1 (by decide) (by decide) rfl
      replace eS_ := eS_.symm
      replace eM_ := eM_.symm
      subst eS_ eM_
      try dsimp only [Option.toList, List.cons_append, List.nil_append]
      refine xt_ri rfl (Nat.le_refl _) ?_
      intro t2 a2 z2 b2 y2 e2
      simp only [List.cons.injEq, Sum.inl.injEq, and_true, true_and] at e2
      obtain ⟨rfl, rfl, rfl, rfl, rfl⟩ := e2
      refine ⟨rfl, CE_R ?_⟩
      unfold spBox
      rw [cif_f k_1]
  · intro μ pc ls st S2 M2 cs sl h; exact h.elim
def q_X6_rub : x_K := (2, fun as S M => ∃ (t : Int32) (c : Nat), CI c M ∧ S = SH ∧ as = [.inr (.inl 0), .inl t], fun as S M rv_ S' M' => ∀ (t : Int32), as = [.inr (.inl 0), .inl t] → S' = S ∧ CEnd M M' rv_ (spRub (vM M) t), 0, 0)
theorem r_X6_rub : ∀ as S M, q_X6_rub.2.1 as S M → ∃ (k : Nat) (as' : List x_V) (fs : List (Option Nat)), as = .inr (.inl k) :: as' ∧ S[k]? = some (.inl (4, fs)) := by
  rintro as S M ⟨t, c, -, rfl, rfl⟩
  exact ⟨0, _, _, rfl, rfl⟩
def b_X6_rub : x_B := [(0, 2, [(.iload_n 1, 1), (.invokestatic 133, 3), (.ifCond .ne 9, 3), (.aload_n 0, 1), (.iconst (-1), 1), (.invokevirtual 57, 3), (.ireturn, 1)]),
  (13, 2, [(.aload_n 0, 1), (.getfield 34, 3), (.iload_n 1, 1), (.invokevirtual 155, 3), (.ifCond .ne 10, 3), (.aload_n 0, 1), (.bipush (-3), 2), (.invokevirtual 57, 3), (.ireturn, 1)]),
  (31, 2, [(.aload_n 0, 1), (.getfield 34, 3), (.iload_n 1, 1), (.invokevirtual 160, 3), (.iconst 1, 1), (.ireturn, 1)])]
theorem b_X6_rub_ok : x_okB cX6_rub 2 b_X6_rub = true := by decide +kernel
def X_X6_rub : x_X := ([(34, 4, 3)], [], [], [], [(399, q_X6_isThing), (172, q_X6_refuse), (466, q_X0_has), (481, q_X0_remove)], (0, 0), x_kn, x_kf, 5, false)
theorem X_X6_rub_ok : x_okT RX6 X_X6_rub = true := by decide +kernel
theorem k_X6_rub (l : Launch) : ∀ z ∈ X_X6_rub.2.2.2.2.1, x_Cal l (x_rm 2 0 0) cX6_rub RX6 2 z.1 z.2 := List.forall_mem_cons.mpr ⟨x_cal_S (idx := 133) (c_X6_isThing l) ⟨by decide, by decide⟩ (by decide +kernel) (by decide +kernel) (by decide +kernel) (by decide +kernel) (by decide +kernel), List.forall_mem_cons.mpr ⟨x_cal_V (idx := 57) (ci := 4) (n := 1) (c_X6_refuse l) ⟨by decide, by decide⟩ (by decide +kernel) (by decide +kernel) (by decide +kernel) (by decide +kernel) (by decide +kernel) rfl rfl rfl (by decide +kernel) r_X6_refuse, List.forall_mem_cons.mpr ⟨x_cal_V (idx := 155) (ci := 0) (n := 1) (c_X0_has l) ⟨by decide, by decide⟩ (by decide +kernel) (by decide +kernel) (by decide +kernel) (by decide +kernel) (by decide +kernel) rfl rfl rfl (by decide +kernel) r_X0_has, List.forall_mem_cons.mpr ⟨x_cal_V (idx := 160) (ci := 0) (n := 1) (c_X0_remove l) ⟨by decide, by decide⟩ (by decide +kernel) (by decide +kernel) (by decide +kernel) (by decide +kernel) (by decide +kernel) rfl rfl rfl (by decide +kernel) r_X0_remove, fun _ h => absurd h List.not_mem_nil⟩⟩⟩⟩
set_option maxHeartbeats 4000000 in
set_option maxRecDepth 100000 in
theorem c_X6_rub (l : Launch) : x_CT l yX6_rub cX6_rub 2 (some .int) 2 q_X6_rub := by
  refine x_meth (X := X_X6_rub) (bl := b_X6_rub) (cut := []) (own := RX6) 30 (by decide) rfl X_X6_rub_ok b_X6_rub_ok rfl (Nat.le_of_ble_eq_true rfl) (k_X6_rub l) ?_
  rintro as S M - ⟨t, c, hci, rfl, rfl⟩
  have hok := hci.1.1.2.1
  have hV := hci.2
  refine ⟨fun _ _ _ _ _ _ _ _ => False, ?_, ?_⟩
  · skip
    refine xt_blk rfl rfl (by dsimp only [List.take]) ?_
    refine xt_iln1 rfl ?_
    refine xt_v1 (key := 399) (q := q_X6_isThing) rfl rfl rfl rfl rfl ⟨Nat.le_of_ble_eq_true rfl, Nat.le_of_ble_eq_true rfl⟩ ⟨_, rfl⟩ (fun rv_ S1 M_1 hq_1 => ?_)
    obtain ⟨eS_, eM_, h_c1⟩ := hq_1 _ rfl
    replace eS_ := eS_.symm
    replace eM_ := eM_.symm
    subst eS_ eM_
    have hex_c1 : ∃ v, rv_ = some (.inl v) := by rcases h_c1 with ⟨-, e⟩ | ⟨-, e⟩ <;> exact ⟨_, e⟩
    obtain ⟨v_c1, rfl⟩ := hex_c1
    simp only [Option.some.injEq, Sum.inl.injEq] at h_c1
    try dsimp only [Option.toList, List.cons_append, List.nil_append]
    refine xt_ne (t := 13) rfl (fun hc_4 => ?_) (fun hc_4 => ?_)
    · skip
      have k_1 := k_yes h_c1 hc_4
      obtain ⟨tn, htn, etn⟩ := id k_1
      subst etn
      have vt : nv (nI tn) = tn := nv_nI (by omega)
      refine xt_blk rfl rfl (by dsimp only [List.take]) ?_
      refine xt_aln0 rfl (by first | decide | omega | assumption | (have := isWy_lt hw; omega)) ?_
      refine xt_gfr (q := (4, 3)) rfl (by first | rfl | assumption) rfl ?_
      refine xt_iln1 rfl ?_
      refine xt_v2 (key := 466) (q := q_X0_has) rfl rfl rfl rfl rfl ⟨Nat.le_of_ble_eq_true rfl, Nat.le_of_ble_eq_true rfl⟩ ⟨tn, htn, rfl, hV.2.2.1, rfl⟩ (fun rv_ S1 M_18 hq_18 => ?_)
      obtain ⟨eS_, eM_, rfl⟩ := hq_18 tn htn rfl
      replace eS_ := eS_.symm
      replace eM_ := eM_.symm
      subst eS_ eM_
      try dsimp only [Option.toList, List.cons_append, List.nil_append]
      refine xt_ne (t := 31) rfl (fun hc_21 => ?_) (fun hc_21 => ?_)
      · skip
        refine xt_blk rfl rfl (by dsimp only [List.take]) ?_
        refine xt_aln0 rfl (by first | decide | omega | assumption | (have := isWy_lt hw; omega)) ?_
        refine xt_gfr (q := (4, 3)) rfl (by first | rfl | assumption) rfl ?_
        refine xt_iln1 rfl ?_
        refine xt_v2 (key := 481) (q := q_X0_remove) rfl rfl rfl rfl rfl ⟨Nat.le_of_ble_eq_true rfl, Nat.le_of_ble_eq_true rfl⟩ ⟨tn, htn, rfl, rfl⟩ (fun rv_ S1 M_36 hq_36 => ?_)
        obtain ⟨eS_, eM_, rfl⟩ := hq_36 tn htn rfl
        replace eS_ := eS_.symm
        replace eM_ := eM_.symm
        subst eS_ eM_
        try dsimp only [Option.toList, List.cons_append, List.nil_append]
        refine xt_ic ?_
        refine xt_ri rfl (Nat.le_refl _) ?_
        intro t2 e2
        simp only [List.cons.injEq, Sum.inl.injEq, and_true, true_and] at e2
        subst e2
        refine ⟨rfl, CE_row (by omega) (by omega) (vM_row42 M _) ?_⟩
        unfold spRub
        rw [cif_t k_1, vt, vM_42, cif_f hc_21]
      · skip
        refine xt_aln0 rfl (by first | decide | omega | assumption | (have := isWy_lt hw; omega)) ?_
        refine xt_bim rfl ?_
        refine xt_v2 (key := 172) (q := q_X6_refuse) rfl rfl rfl rfl rfl ⟨Nat.le_of_ble_eq_true rfl, Nat.le_of_ble_eq_true rfl⟩ ⟨3, by decide, by decide, rfl, rfl⟩ (fun rv_ S1 M_27 hq_27 => ?_)
        obtain ⟨eS_, eM_, rfl⟩ := hq_27 3 (by decide) (by decide) rfl
        replace eS_ := eS_.symm
        replace eM_ := eM_.symm
        subst eS_ eM_
        try dsimp only [Option.toList, List.cons_append, List.nil_append]
        refine xt_ri rfl (Nat.le_refl _) ?_
        intro t2 e2
        simp only [List.cons.injEq, Sum.inl.injEq, and_true, true_and] at e2
        subst e2
        refine ⟨rfl, CE_R ?_⟩
        unfold spRub
        rw [cif_t k_1, vt, vM_42, cif_t hc_21]
    · skip
      have k_1 := k_no h_c1 hc_4
      refine xt_aln0 rfl (by first | decide | omega | assumption | (have := isWy_lt hw; omega)) ?_
      refine xt_icm rfl ?_
      refine xt_v2 (key := 172) (q := q_X6_refuse) rfl rfl rfl rfl rfl ⟨Nat.le_of_ble_eq_true rfl, Nat.le_of_ble_eq_true rfl⟩ ⟨1, by decide, by decide, rfl, rfl⟩ (fun rv_ S1 M_9 hq_9 => ?_)
      obtain ⟨eS_, eM_, rfl⟩ := hq_9 1 (by decide) (by decide) rfl
      replace eS_ := eS_.symm
      replace eM_ := eM_.symm
      subst eS_ eM_
      try dsimp only [Option.toList, List.cons_append, List.nil_append]
      refine xt_ri rfl (Nat.le_refl _) ?_
      intro t2 e2
      simp only [List.cons.injEq, Sum.inl.injEq, and_true, true_and] at e2
      subst e2
      refine ⟨rfl, CE_R ?_⟩
      unfold spRub
      rw [cif_f k_1]
  · intro μ pc ls st S2 M2 cs sl h; exact h.elim
def q_X6_read : x_K := (4, fun as S M => ∃ (w : Int32) (a : Int32) (b : Int32) (c : Nat), CI c M ∧ S = SH ∧ as = [.inr (.inl 0), .inl w, .inl a, .inl b], fun as S M rv_ S' M' => ∀ (w : Int32) (a : Int32) (b : Int32), as = [.inr (.inl 0), .inl w, .inl a, .inl b] → S' = S ∧ CEnd M M' rv_ (spRead (vM M) w a b), 0, 0)
theorem r_X6_read : ∀ as S M, q_X6_read.2.1 as S M → ∃ (k : Nat) (as' : List x_V) (fs : List (Option Nat)), as = .inr (.inl k) :: as' ∧ S[k]? = some (.inl (4, fs)) := by
  rintro as S M ⟨w, a, b, c, -, rfl, rfl⟩
  exact ⟨0, _, _, rfl, rfl⟩
def b_X6_read : x_B := [(0, 4, [(.iload_n 1, 1), (.iload_n 2, 1), (.iload_n 3, 1), (.invokestatic 111, 3), (.istore 4, 2), (.iload 4, 2), (.ifCond .eq 10, 3), (.aload_n 0, 1), (.iload 4, 2), (.invokevirtual 57, 3), (.ireturn, 1)]),
  (20, 5, [(.aload_n 0, 1), (.getfield 34, 3), (.iload_n 2, 1), (.iload_n 3, 1), (.invokevirtual 164, 3), (.ifCond .ne 10, 3), (.aload_n 0, 1), (.bipush (-3), 2), (.invokevirtual 57, 3), (.ireturn, 1)]),
  (39, 5, [(.aload_n 0, 1), (.getfield 34, 3), (.iload_n 1, 1), (.iload_n 2, 1), (.iload_n 3, 1), (.invokevirtual 167, 3), (.ireturn, 1)])]
theorem b_X6_read_ok : x_okB cX6_read 5 b_X6_read = true := by decide +kernel
def X_X6_read : x_X := ([(34, 4, 3)], [], [], [], [(333, q_X6_refusalAlong), (172, q_X6_refuse), (493, q_X0_haveBoth), (502, q_X0_relation)], (0, 0), x_kn, x_kf, 5, false)
theorem X_X6_read_ok : x_okT RX6 X_X6_read = true := by decide +kernel
theorem k_X6_read (l : Launch) : ∀ z ∈ X_X6_read.2.2.2.2.1, x_Cal l (x_rm 4 0 0) cX6_read RX6 5 z.1 z.2 := List.forall_mem_cons.mpr ⟨x_cal_S (idx := 111) (c_X6_refusalAlong l) ⟨by decide, by decide⟩ (by decide +kernel) (by decide +kernel) (by decide +kernel) (by decide +kernel) (by decide +kernel), List.forall_mem_cons.mpr ⟨x_cal_V (idx := 57) (ci := 4) (n := 1) (c_X6_refuse l) ⟨by decide, by decide⟩ (by decide +kernel) (by decide +kernel) (by decide +kernel) (by decide +kernel) (by decide +kernel) rfl rfl rfl (by decide +kernel) r_X6_refuse, List.forall_mem_cons.mpr ⟨x_cal_V (idx := 164) (ci := 0) (n := 2) (c_X0_haveBoth l) ⟨by decide, by decide⟩ (by decide +kernel) (by decide +kernel) (by decide +kernel) (by decide +kernel) (by decide +kernel) rfl rfl rfl (by decide +kernel) r_X0_haveBoth, List.forall_mem_cons.mpr ⟨x_cal_V (idx := 167) (ci := 0) (n := 3) (c_X0_relation l) ⟨by decide, by decide⟩ (by decide +kernel) (by decide +kernel) (by decide +kernel) (by decide +kernel) (by decide +kernel) rfl rfl rfl (by decide +kernel) r_X0_relation, fun _ h => absurd h List.not_mem_nil⟩⟩⟩⟩
set_option maxHeartbeats 4000000 in
set_option maxRecDepth 100000 in
theorem c_X6_read (l : Launch) : x_CT l yX6_read cX6_read 5 (some .int) 4 q_X6_read := by
  refine x_meth (X := X_X6_read) (bl := b_X6_read) (cut := []) (own := RX6) 30 (by decide) rfl X_X6_read_ok b_X6_read_ok rfl (Nat.le_of_ble_eq_true rfl) (k_X6_read l) ?_
  rintro as S M - ⟨w, a, b, c, hci, rfl, rfl⟩
  have hok := hci.1.1.2.1
  have hV := hci.2
  refine ⟨fun _ _ _ _ _ _ _ _ => False, ?_, ?_⟩
  · skip
    refine xt_blk rfl rfl (by dsimp only [List.take]) ?_
    refine xt_iln1 rfl ?_
    refine xt_iln2 rfl ?_
    refine xt_iln3 rfl ?_
    refine xt_v3 (key := 333) (q := q_X6_refusalAlong) rfl rfl rfl rfl rfl ⟨Nat.le_of_ble_eq_true rfl, Nat.le_of_ble_eq_true rfl⟩ ⟨_, _, _, rfl⟩ (fun rv_ S1 M_3 hq_3 => ?_)
    obtain ⟨eS_, eM_, h_r⟩ := hq_3 _ _ _ rfl
    replace eS_ := eS_.symm
    replace eM_ := eM_.symm
    subst eS_ eM_
    have hex_r : ∃ v, rv_ = some (.inl v) := by rcases h_r with ⟨-, e⟩ | ⟨-, -, e⟩ | ⟨-, -, e⟩ <;> exact ⟨_, e⟩
    obtain ⟨v_r, rfl⟩ := hex_r
    simp only [Option.some.injEq, Sum.inl.injEq] at h_r
    replace h_r : rfA w a b v_r := h_r
    try dsimp only [Option.toList, List.cons_append, List.nil_append]
    refine xt_ist rfl (by dsimp only [x_sto]) ?_
    refine xt_ild rfl ?_
    refine xt_eq (t := 20) rfl (fun hc_10 => ?_) (fun hc_10 => ?_)
    · skip
      obtain ⟨k_2, k_1⟩ := rfA_ok h_r hc_10
      obtain ⟨wn, hwn, ewn⟩ := id k_1
      subst ewn
      have vw : nv (nI wn) = wn := nv_nI (by omega)
      obtain ⟨⟨an, han, ean⟩, ⟨bn, hbn, ebn⟩, hab⟩ := id k_2
      subst ean ebn
      have va : nv (nI an) = an := nv_nI (by omega)
      have vb : nv (nI bn) = bn := nv_nI (by omega)
      have hne : an ≠ bn := fun e => hab (by rw [e])
      refine xt_blk rfl rfl (by dsimp only [List.take]) ?_
      refine xt_aln0 rfl (by first | decide | omega | assumption | (have := isWy_lt hw; omega)) ?_
      refine xt_gfr (q := (4, 3)) rfl (by first | rfl | assumption) rfl ?_
      refine xt_iln2 rfl ?_
      refine xt_iln3 rfl ?_
      refine xt_v3 (key := 493) (q := q_X0_haveBoth) rfl rfl rfl rfl rfl ⟨Nat.le_of_ble_eq_true rfl, Nat.le_of_ble_eq_true rfl⟩ ⟨an, bn, han, hbn, rfl, rfl⟩ (fun rv_ S1 M_26 hq_26 => ?_)
      obtain ⟨eS_, eM_, rfl⟩ := hq_26 an bn han hbn rfl
      replace eS_ := eS_.symm
      replace eM_ := eM_.symm
      subst eS_ eM_
      have h_c26 := k_bth (M := M) va vb
      try dsimp only [Option.toList, List.cons_append, List.nil_append]
      refine xt_ne (t := 39) rfl (fun hc_29 => ?_) (fun hc_29 => ?_)
      · skip
        have k_26 := k_yes h_c26 hc_29
        refine xt_blk rfl rfl (by dsimp only [List.take]) ?_
        refine xt_aln0 rfl (by first | decide | omega | assumption | (have := isWy_lt hw; omega)) ?_
        refine xt_gfr (q := (4, 3)) rfl (by first | rfl | assumption) rfl ?_
        refine xt_iln1 rfl ?_
        refine xt_iln2 rfl ?_
        refine xt_iln3 rfl ?_
        refine xt_v4 (key := 502) (q := q_X0_relation) rfl rfl rfl rfl rfl ⟨Nat.le_of_ble_eq_true rfl, Nat.le_of_ble_eq_true rfl⟩ ⟨wn, an, bn, hwn, han, hbn, rfl, rfl⟩ (fun rv_ S1 M_46 hq_46 => ?_)
        obtain ⟨eS_, eM_, rfl⟩ := hq_46 wn an bn hwn han hbn rfl
        replace eS_ := eS_.symm
        replace eM_ := eM_.symm
        subst eS_ eM_
        try dsimp only [Option.toList, List.cons_append, List.nil_append]
        refine xt_ri rfl (Nat.le_refl _) ?_
        intro w2 a2 b2 e2
        simp only [List.cons.injEq, Sum.inl.injEq, and_true, true_and] at e2
        obtain ⟨rfl, rfl, rfl⟩ := e2
        refine ⟨rfl, CE_M ?_⟩
        unfold spRead
        rw [cif_t k_2, cif_t k_1, cif_t k_26, vw, va, vb, bxr_v]
      · skip
        have k_26 := k_no h_c26 hc_29
        refine xt_aln0 rfl (by first | decide | omega | assumption | (have := isWy_lt hw; omega)) ?_
        refine xt_bim rfl ?_
        refine xt_v2 (key := 172) (q := q_X6_refuse) rfl rfl rfl rfl rfl ⟨Nat.le_of_ble_eq_true rfl, Nat.le_of_ble_eq_true rfl⟩ ⟨3, by decide, by decide, rfl, rfl⟩ (fun rv_ S1 M_35 hq_35 => ?_)
        obtain ⟨eS_, eM_, rfl⟩ := hq_35 3 (by decide) (by decide) rfl
        replace eS_ := eS_.symm
        replace eM_ := eM_.symm
        subst eS_ eM_
        try dsimp only [Option.toList, List.cons_append, List.nil_append]
        refine xt_ri rfl (Nat.le_refl _) ?_
        intro w2 a2 b2 e2
        simp only [List.cons.injEq, Sum.inl.injEq, and_true, true_and] at e2
        obtain ⟨rfl, rfl, rfl⟩ := e2
        refine ⟨rfl, CE_R ?_⟩
        unfold spRead
        rw [cif_t k_2, cif_t k_1, cif_f k_26]
    · skip
      obtain ⟨p, hp0, hp7, ev, hpp⟩ := rfA_no h_r hc_10
      subst ev
      refine xt_aln0 rfl (by first | decide | omega | assumption | (have := isWy_lt hw; omega)) ?_
      refine xt_ild rfl ?_
      refine xt_v2 (key := 172) (q := q_X6_refuse) rfl rfl rfl rfl rfl ⟨Nat.le_of_ble_eq_true rfl, Nat.le_of_ble_eq_true rfl⟩ ⟨p, hp0, hp7, rfl, rfl⟩ (fun rv_ S1 M_16 hq_16 => ?_)
      obtain ⟨eS_, eM_, rfl⟩ := hq_16 p hp0 hp7 rfl
      replace eS_ := eS_.symm
      replace eM_ := eM_.symm
      subst eS_ eM_
      try dsimp only [Option.toList, List.cons_append, List.nil_append]
      refine xt_ri rfl (Nat.le_refl _) ?_
      intro w2 a2 b2 e2
      simp only [List.cons.injEq, Sum.inl.injEq, and_true, true_and] at e2
      obtain ⟨rfl, rfl, rfl⟩ := e2
      exact ⟨rfl, CE_R (rfA_sp2 hpp)⟩
  · intro μ pc ls st S2 M2 cs sl h; exact h.elim
def q_X6_holds : x_K := (4, fun as S M => ∃ (w : Int32) (a : Int32) (b : Int32) (c : Nat), CI c M ∧ S = SH ∧ as = [.inr (.inl 0), .inl w, .inl a, .inl b], fun as S M rv_ S' M' => ∀ (w : Int32) (a : Int32) (b : Int32), as = [.inr (.inl 0), .inl w, .inl a, .inl b] → S' = S ∧ CEnd M M' rv_ (spHolds (vM M) w a b), 0, 0)
theorem r_X6_holds : ∀ as S M, q_X6_holds.2.1 as S M → ∃ (k : Nat) (as' : List x_V) (fs : List (Option Nat)), as = .inr (.inl k) :: as' ∧ S[k]? = some (.inl (4, fs)) := by
  rintro as S M ⟨w, a, b, c, -, rfl, rfl⟩
  exact ⟨0, _, _, rfl, rfl⟩
def b_X6_holds : x_B := [(0, 4, [(.iload_n 1, 1), (.invokestatic 149, 3), (.ifCond .eq 11, 3), (.iload_n 2, 1), (.iload_n 3, 1), (.invokestatic 81, 3), (.ifCond .ne 9, 3)]),
  (15, 4, [(.aload_n 0, 1), (.iconst (-1), 1), (.invokevirtual 57, 3), (.ireturn, 1)]),
  (21, 4, [(.aload_n 0, 1), (.getfield 34, 3), (.iload_n 2, 1), (.iload_n 3, 1), (.invokevirtual 164, 3), (.ifCond .ne 10, 3), (.aload_n 0, 1), (.bipush (-3), 2), (.invokevirtual 57, 3), (.ireturn, 1)]),
  (40, 4, [(.aload_n 0, 1), (.getfield 34, 3), (.iload_n 2, 1), (.iload_n 3, 1), (.aload_n 0, 1), (.getfield 40, 3), (.iload_n 1, 1), (.aaload, 1), (.iconst 0, 1), (.iaload, 1), (.aload_n 0, 1), (.getfield 40, 3), (.iload_n 1, 1), (.aaload, 1), (.iconst 1, 1), (.iaload, 1), (.invokevirtual 170, 3), (.ifCond .eq 7, 3), (.iconst 1, 1), (.goto 4, 3)]),
  (72, 4, [(.iconst 0, 1)]),
  (73, 4, [(.ireturn, 1)])]
theorem b_X6_holds_ok : x_okB cX6_holds 4 b_X6_holds = true := by decide +kernel
def X_X6_holds : x_X := ([(34, 4, 3), (40, 4, 4)], [], [], [], [(447, q_X6_isWord), (243, q_X6_areTwoThings), (172, q_X6_refuse), (493, q_X0_haveBoth), (511, q_X0_agree)], (0, 0), x_kn, x_kf, 5, false)
theorem X_X6_holds_ok : x_okT RX6 X_X6_holds = true := by decide +kernel
theorem k_X6_holds (l : Launch) : ∀ z ∈ X_X6_holds.2.2.2.2.1, x_Cal l (x_rm 5 0 0) cX6_holds RX6 4 z.1 z.2 := List.forall_mem_cons.mpr ⟨x_cal_S (idx := 149) (c_X6_isWord l) ⟨by decide, by decide⟩ (by decide +kernel) (by decide +kernel) (by decide +kernel) (by decide +kernel) (by decide +kernel), List.forall_mem_cons.mpr ⟨x_cal_S (idx := 81) (c_X6_areTwoThings l) ⟨by decide, by decide⟩ (by decide +kernel) (by decide +kernel) (by decide +kernel) (by decide +kernel) (by decide +kernel), List.forall_mem_cons.mpr ⟨x_cal_V (idx := 57) (ci := 4) (n := 1) (c_X6_refuse l) ⟨by decide, by decide⟩ (by decide +kernel) (by decide +kernel) (by decide +kernel) (by decide +kernel) (by decide +kernel) rfl rfl rfl (by decide +kernel) r_X6_refuse, List.forall_mem_cons.mpr ⟨x_cal_V (idx := 164) (ci := 0) (n := 2) (c_X0_haveBoth l) ⟨by decide, by decide⟩ (by decide +kernel) (by decide +kernel) (by decide +kernel) (by decide +kernel) (by decide +kernel) rfl rfl rfl (by decide +kernel) r_X0_haveBoth, List.forall_mem_cons.mpr ⟨x_cal_V (idx := 170) (ci := 0) (n := 4) (c_X0_agree l) ⟨by decide, by decide⟩ (by decide +kernel) (by decide +kernel) (by decide +kernel) (by decide +kernel) (by decide +kernel) rfl rfl rfl (by decide +kernel) r_X0_agree, fun _ h => absurd h List.not_mem_nil⟩⟩⟩⟩⟩
set_option maxHeartbeats 4000000 in
set_option maxRecDepth 100000 in
theorem c_X6_holds (l : Launch) : x_CT l yX6_holds cX6_holds 4 (some .int) 5 q_X6_holds := by
  refine x_meth (X := X_X6_holds) (bl := b_X6_holds) (cut := []) (own := RX6) 30 (by decide) rfl X_X6_holds_ok b_X6_holds_ok rfl (Nat.le_of_ble_eq_true rfl) (k_X6_holds l) ?_
  rintro as S M - ⟨w, a, b, c, hci, rfl, rfl⟩
  have hok := hci.1.1.2.1
  have hV := hci.2
  refine ⟨fun _ _ _ _ _ _ _ _ => False, ?_, ?_⟩
  · skip
    refine xt_blk rfl rfl (by dsimp only [List.take]) ?_
    refine xt_iln1 rfl ?_
    refine xt_v1 (key := 447) (q := q_X6_isWord) rfl rfl rfl rfl rfl ⟨Nat.le_of_ble_eq_true rfl, Nat.le_of_ble_eq_true rfl⟩ ⟨_, rfl⟩ (fun rv_ S1 M_1 hq_1 => ?_)
    obtain ⟨eS_, eM_, h_c1⟩ := hq_1 _ rfl
    replace eS_ := eS_.symm
    replace eM_ := eM_.symm
    subst eS_ eM_
    have hex_c1 : ∃ v, rv_ = some (.inl v) := by rcases h_c1 with ⟨-, e⟩ | ⟨-, e⟩ <;> exact ⟨_, e⟩
    obtain ⟨v_c1, rfl⟩ := hex_c1
    simp only [Option.some.injEq, Sum.inl.injEq] at h_c1
    try dsimp only [Option.toList, List.cons_append, List.nil_append]
    refine xt_eq (t := 15) rfl (fun hc_4 => ?_) (fun hc_4 => ?_)
    · skip
      have k_1 := k_no h_c1 hc_4
      refine xt_blk rfl rfl (by dsimp only [List.take]) ?_
      refine xt_aln0 rfl (by first | decide | omega | assumption | (have := isWy_lt hw; omega)) ?_
      refine xt_icm rfl ?_
      refine xt_v2 (key := 172) (q := q_X6_refuse) rfl rfl rfl rfl rfl ⟨Nat.le_of_ble_eq_true rfl, Nat.le_of_ble_eq_true rfl⟩ ⟨1, by decide, by decide, rfl, rfl⟩ (fun rv_ S1 M_17 hq_17 => ?_)
      obtain ⟨eS_, eM_, rfl⟩ := hq_17 1 (by decide) (by decide) rfl
      replace eS_ := eS_.symm
      replace eM_ := eM_.symm
      subst eS_ eM_
      try dsimp only [Option.toList, List.cons_append, List.nil_append]
      refine xt_ri rfl (Nat.le_refl _) ?_
      intro w2 a2 b2 e2
      simp only [List.cons.injEq, Sum.inl.injEq, and_true, true_and] at e2
      obtain ⟨rfl, rfl, rfl⟩ := e2
      refine ⟨rfl, CE_R ?_⟩
      unfold spHolds
      rw [cif_f k_1]
    · skip
      have k_1 := k_yes h_c1 hc_4
      refine xt_iln2 rfl ?_
      refine xt_iln3 rfl ?_
      refine xt_v2 (key := 243) (q := q_X6_areTwoThings) rfl rfl rfl rfl rfl ⟨Nat.le_of_ble_eq_true rfl, Nat.le_of_ble_eq_true rfl⟩ ⟨_, _, rfl⟩ (fun rv_ S1 M_9 hq_9 => ?_)
      obtain ⟨eS_, eM_, h_c9⟩ := hq_9 _ _ rfl
      replace eS_ := eS_.symm
      replace eM_ := eM_.symm
      subst eS_ eM_
      have hex_c9 : ∃ v, rv_ = some (.inl v) := by rcases h_c9 with ⟨-, e⟩ | ⟨-, e⟩ <;> exact ⟨_, e⟩
      obtain ⟨v_c9, rfl⟩ := hex_c9
      simp only [Option.some.injEq, Sum.inl.injEq] at h_c9
      try dsimp only [Option.toList, List.cons_append, List.nil_append]
      refine xt_ne (t := 21) rfl (fun hc_12 => ?_) (fun hc_12 => ?_)
      · skip
        have k_9 := k_yes h_c9 hc_12
        obtain ⟨wn, hwn, ewn⟩ := id k_1
        subst ewn
        have vw : nv (nI wn) = wn := nv_nI (by omega)
        obtain ⟨⟨an, han, ean⟩, ⟨bn, hbn, ebn⟩, hab⟩ := id k_9
        subst ean ebn
        have va : nv (nI an) = an := nv_nI (by omega)
        have vb : nv (nI bn) = bn := nv_nI (by omega)
        have hne : an ≠ bn := fun e => hab (by rw [e])
        have ho := hV.2.2.2.1 wn 0 hwn (by decide)
        have hu := hV.2.2.2.1 wn 1 hwn (by decide)
        rw [vM_w M hwn (by decide)] at ho hu
        obtain ⟨on, hon, eo⟩ := ho
        obtain ⟨un, hun, eu⟩ := hu
        have eo2 : M (44 + wn) (nI 0).toNatClampNeg = nI on := eo
        have eu2 : M (44 + wn) (nI 1).toNatClampNeg = nI un := eu
        refine xt_blk rfl rfl (by dsimp only [List.take]) ?_
        refine xt_aln0 rfl (by first | decide | omega | assumption | (have := isWy_lt hw; omega)) ?_
        refine xt_gfr (q := (4, 3)) rfl (by first | exact SHwd wn hwn | rfl) rfl ?_
        refine xt_iln2 rfl ?_
        refine xt_iln3 rfl ?_
        refine xt_v3 (key := 493) (q := q_X0_haveBoth) rfl rfl rfl rfl rfl ⟨Nat.le_of_ble_eq_true rfl, Nat.le_of_ble_eq_true rfl⟩ ⟨an, bn, han, hbn, rfl, rfl⟩ (fun rv_ S1 M_27 hq_27 => ?_)
        obtain ⟨eS_, eM_, rfl⟩ := hq_27 an bn han hbn rfl
        replace eS_ := eS_.symm
        replace eM_ := eM_.symm
        subst eS_ eM_
        have h_c27 := k_bth (M := M) va vb
        try dsimp only [Option.toList, List.cons_append, List.nil_append]
        refine xt_ne (t := 40) rfl (fun hc_30 => ?_) (fun hc_30 => ?_)
        · skip
          have k_27 := k_yes h_c27 hc_30
          refine xt_blk rfl rfl (by dsimp only [List.take]) ?_
          refine xt_aln0 rfl (by first | decide | omega | assumption | (have := isWy_lt hw; omega)) ?_
          refine xt_gfr (q := (4, 3)) rfl (by first | exact SHwd wn hwn | rfl) rfl ?_
          refine xt_iln2 rfl ?_
          refine xt_iln3 rfl ?_
          refine xt_aln0 rfl (by first | decide | omega | assumption | (have := isWy_lt hw; omega)) ?_
          refine xt_gfr (q := (4, 4)) rfl (by first | exact SHwd wn hwn | rfl) rfl ?_
          refine xt_iln1 rfl ?_
          refine xt_ral (r := 44 + wn) rfl (show vp_in _ 8 from vp_in_nI (by omega) (by decide)) (by rw [nI_clamp (by omega)]; exact stw wn hwn) (by omega) ?_
          refine xt_ic ?_
          refine xt_ial (by first | exact SHwd wn hwn | rfl) (show vp_in _ 2 from vp_in_nI (by omega) (by decide)) ?_
          refine xt_aln0 rfl (by first | decide | omega | assumption | (have := isWy_lt hw; omega)) ?_
          refine xt_gfr (q := (4, 4)) rfl (by first | exact SHwd wn hwn | rfl) rfl ?_
          refine xt_iln1 rfl ?_
          refine xt_ral (r := 44 + wn) rfl (show vp_in _ 8 from vp_in_nI (by omega) (by decide)) (by rw [nI_clamp (by omega)]; exact stw wn hwn) (by omega) ?_
          refine xt_ic ?_
          refine xt_ial (by first | exact SHwd wn hwn | rfl) (show vp_in _ 2 from vp_in_nI (by omega) (by decide)) ?_
          refine xt_v5 (key := 511) (q := q_X0_agree) rfl rfl rfl rfl rfl ⟨Nat.le_of_ble_eq_true rfl, Nat.le_of_ble_eq_true rfl⟩ ⟨an, bn, on, un, han, hbn, hon, hun, rfl, by rw [eo2, eu2]⟩ (fun rv_ S1 M_62 hq_62 => ?_)
          obtain ⟨eS_, eM_, rfl⟩ := hq_62 an bn on un han hbn hon hun (by rw [eo2, eu2])
          replace eS_ := eS_.symm
          replace eM_ := eM_.symm
          subst eS_ eM_
          try dsimp only [Option.toList, List.cons_append, List.nil_append]
          refine xt_eq (t := 72) rfl (fun hc_65 => ?_) (fun hc_65 => ?_)
          · skip
            refine xt_blk rfl rfl (by dsimp only [List.take]) ?_
            refine xt_ic ?_
            refine xt_nil (t := 73) rfl ?_
            refine xt_blk rfl rfl (by dsimp only [List.take]) ?_
            refine xt_ri rfl (Nat.le_refl _) ?_
            intro w2 a2 b2 e2
            simp only [List.cons.injEq, Sum.inl.injEq, and_true, true_and] at e2
            obtain ⟨rfl, rfl, rfl⟩ := e2
            have hag : ¬ agr (vM M) an bn on un := fun q => by
              rw [if_pos (show bi on (bxr M 0 an bn) = 1 ∧ bi un (bxr M 1 an bn) = 1 from q)] at hc_65; exact absurd hc_65 (by decide)
            refine ⟨rfl, CE_M ?_⟩
            unfold spHolds
            rw [cif_t k_1, cif_t k_9, cif_t k_27, vw, va, vb, vM_w M hwn (by decide), vM_w M hwn (by decide), eo, eu, nv_nI (by omega), nv_nI (by omega), cif_f hag]
          · skip
            refine xt_ic ?_
            refine xt_goto (t := 73) rfl ?_
            refine xt_blk rfl rfl (by dsimp only [List.take]) ?_
            refine xt_ri rfl (Nat.le_refl _) ?_
            intro w2 a2 b2 e2
            simp only [List.cons.injEq, Sum.inl.injEq, and_true, true_and] at e2
            obtain ⟨rfl, rfl, rfl⟩ := e2
            have hag : agr (vM M) an bn on un := by
              by_cases q : bi on (bxr M 0 an bn) = 1 ∧ bi un (bxr M 1 an bn) = 1
              · exact q
              · rw [if_neg q] at hc_65; exact absurd rfl hc_65
            refine ⟨rfl, CE_M ?_⟩
            unfold spHolds
            rw [cif_t k_1, cif_t k_9, cif_t k_27, vw, va, vb, vM_w M hwn (by decide), vM_w M hwn (by decide), eo, eu, nv_nI (by omega), nv_nI (by omega), cif_t hag]
        · skip
          have k_27 := k_no h_c27 hc_30
          refine xt_aln0 rfl (by first | decide | omega | assumption | (have := isWy_lt hw; omega)) ?_
          refine xt_bim rfl ?_
          refine xt_v2 (key := 172) (q := q_X6_refuse) rfl rfl rfl rfl rfl ⟨Nat.le_of_ble_eq_true rfl, Nat.le_of_ble_eq_true rfl⟩ ⟨3, by decide, by decide, rfl, rfl⟩ (fun rv_ S1 M_36 hq_36 => ?_)
          obtain ⟨eS_, eM_, rfl⟩ := hq_36 3 (by decide) (by decide) rfl
          replace eS_ := eS_.symm
          replace eM_ := eM_.symm
          subst eS_ eM_
          try dsimp only [Option.toList, List.cons_append, List.nil_append]
          refine xt_ri rfl (Nat.le_refl _) ?_
          intro w2 a2 b2 e2
          simp only [List.cons.injEq, Sum.inl.injEq, and_true, true_and] at e2
          obtain ⟨rfl, rfl, rfl⟩ := e2
          refine ⟨rfl, CE_R ?_⟩
          unfold spHolds
          rw [cif_t k_1, cif_t k_9, cif_f k_27]
      · skip
        have k_9 := k_no h_c9 hc_12
        refine xt_nil (t := 15) rfl ?_
        refine xt_blk rfl rfl (by dsimp only [List.take]) ?_
        refine xt_aln0 rfl (by first | decide | omega | assumption | (have := isWy_lt hw; omega)) ?_
        refine xt_icm rfl ?_
        refine xt_v2 (key := 172) (q := q_X6_refuse) rfl rfl rfl rfl rfl ⟨Nat.le_of_ble_eq_true rfl, Nat.le_of_ble_eq_true rfl⟩ ⟨1, by decide, by decide, rfl, rfl⟩ (fun rv_ S1 M_17 hq_17 => ?_)
        obtain ⟨eS_, eM_, rfl⟩ := hq_17 1 (by decide) (by decide) rfl
        replace eS_ := eS_.symm
        replace eM_ := eM_.symm
        subst eS_ eM_
        try dsimp only [Option.toList, List.cons_append, List.nil_append]
        refine xt_ri rfl (Nat.le_refl _) ?_
        intro w2 a2 b2 e2
        simp only [List.cons.injEq, Sum.inl.injEq, and_true, true_and] at e2
        obtain ⟨rfl, rfl, rfl⟩ := e2
        refine ⟨rfl, CE_R ?_⟩
        unfold spHolds
        rw [cif_t k_1, cif_f k_9]
  · intro μ pc ls st S2 M2 cs sl h; exact h.elim
def q_X6_moved : x_K := (4, fun as S M => ∃ (w : Int32) (a : Int32) (b : Int32) (c : Nat), CI c M ∧ S = SH ∧ as = [.inr (.inl 0), .inl w, .inl a, .inl b], fun as S M rv_ S' M' => ∀ (w : Int32) (a : Int32) (b : Int32), as = [.inr (.inl 0), .inl w, .inl a, .inl b] → S' = S ∧ CEnd M M' rv_ (spMoved (vM M) w a b), 0, 0)
theorem r_X6_moved : ∀ as S M, q_X6_moved.2.1 as S M → ∃ (k : Nat) (as' : List x_V) (fs : List (Option Nat)), as = .inr (.inl k) :: as' ∧ S[k]? = some (.inl (4, fs)) := by
  rintro as S M ⟨w, a, b, c, -, rfl, rfl⟩
  exact ⟨0, _, _, rfl, rfl⟩
def b_X6_moved : x_B := [(0, 4, [(.iload_n 1, 1), (.iload_n 2, 1), (.iload_n 3, 1), (.invokestatic 111, 3), (.istore 4, 2), (.iload 4, 2), (.ifCond .eq 10, 3), (.aload_n 0, 1), (.iload 4, 2), (.invokevirtual 57, 3), (.ireturn, 1)]),
  (20, 5, [(.aload_n 0, 1), (.getfield 34, 3), (.iload_n 2, 1), (.iload_n 3, 1), (.invokevirtual 164, 3), (.ifCond .ne 10, 3), (.aload_n 0, 1), (.bipush (-3), 2), (.invokevirtual 57, 3), (.ireturn, 1)]),
  (39, 5, [(.aload_n 0, 1), (.iload_n 1, 1), (.invokevirtual 114, 3), (.astore 5, 2), (.aload 5, 2), (.invokevirtual 136, 3), (.ifCond .ne 6, 3), (.bipush (-9), 2), (.ireturn, 1)]),
  (57, 6, [(.aload_n 0, 1), (.getfield 34, 3), (.iload_n 1, 1), (.iload_n 2, 1), (.iload_n 3, 1), (.invokevirtual 167, 3), (.aload 5, 2), (.iload_n 2, 1), (.iload_n 3, 1), (.invokevirtual 142, 3), (.invokestatic 77, 3), (.ireturn, 1)])]
theorem b_X6_moved_ok : x_okB cX6_moved 6 b_X6_moved = true := by decide +kernel
def X_X6_moved : x_X := ([(34, 4, 3)], [], [], [], [(333, q_X6_refusalAlong), (172, q_X6_refuse), (493, q_X0_haveBoth), (343, q_X6_along), (409, q_X5_isFirstDrawn), (502, q_X0_relation), (427, q_X5_firstRelation), (231, q_X2_stepsBetween)], (0, 0), x_kn, x_kf, 5, false)
theorem X_X6_moved_ok : x_okT RX6 X_X6_moved = true := by decide +kernel
theorem k_X6_moved (l : Launch) : ∀ z ∈ X_X6_moved.2.2.2.2.1, x_Cal l (x_rm 23 0 0) cX6_moved RX6 6 z.1 z.2 := List.forall_mem_cons.mpr ⟨x_cal_S (idx := 111) (c_X6_refusalAlong l) ⟨by decide, by decide⟩ (by decide +kernel) (by decide +kernel) (by decide +kernel) (by decide +kernel) (by decide +kernel), List.forall_mem_cons.mpr ⟨x_cal_V (idx := 57) (ci := 4) (n := 1) (c_X6_refuse l) ⟨by decide, by decide⟩ (by decide +kernel) (by decide +kernel) (by decide +kernel) (by decide +kernel) (by decide +kernel) rfl rfl rfl (by decide +kernel) r_X6_refuse, List.forall_mem_cons.mpr ⟨x_cal_V (idx := 164) (ci := 0) (n := 2) (c_X0_haveBoth l) ⟨by decide, by decide⟩ (by decide +kernel) (by decide +kernel) (by decide +kernel) (by decide +kernel) (by decide +kernel) rfl rfl rfl (by decide +kernel) r_X0_haveBoth, List.forall_mem_cons.mpr ⟨x_cal_V (idx := 114) (ci := 4) (n := 1) (c_X6_along l) ⟨by decide, by decide⟩ (by decide +kernel) (by decide +kernel) (by decide +kernel) (by decide +kernel) (by decide +kernel) rfl rfl rfl (by decide +kernel) r_X6_along, List.forall_mem_cons.mpr ⟨x_cal_V (idx := 136) (ci := 3) (n := 0) (c_X5_isFirstDrawn l) ⟨by decide, by decide⟩ (by decide +kernel) (by decide +kernel) (by decide +kernel) (by decide +kernel) (by decide +kernel) rfl rfl rfl (by decide +kernel) r_X5_isFirstDrawn, List.forall_mem_cons.mpr ⟨x_cal_V (idx := 167) (ci := 0) (n := 3) (c_X0_relation l) ⟨by decide, by decide⟩ (by decide +kernel) (by decide +kernel) (by decide +kernel) (by decide +kernel) (by decide +kernel) rfl rfl rfl (by decide +kernel) r_X0_relation, List.forall_mem_cons.mpr ⟨x_cal_V (idx := 142) (ci := 3) (n := 2) (c_X5_firstRelation l) ⟨by decide, by decide⟩ (by decide +kernel) (by decide +kernel) (by decide +kernel) (by decide +kernel) (by decide +kernel) rfl rfl rfl (by decide +kernel) r_X5_firstRelation, List.forall_mem_cons.mpr ⟨x_cal_S (idx := 77) (c_X2_stepsBetween l) ⟨by decide, by decide⟩ (by decide +kernel) (by decide +kernel) (by decide +kernel) (by decide +kernel) (by decide +kernel), fun _ h => absurd h List.not_mem_nil⟩⟩⟩⟩⟩⟩⟩⟩
set_option maxHeartbeats 4000000 in
set_option maxRecDepth 100000 in
theorem c_X6_moved (l : Launch) : x_CT l yX6_moved cX6_moved 6 (some .int) 23 q_X6_moved := by
  refine x_meth (X := X_X6_moved) (bl := b_X6_moved) (cut := []) (own := RX6) 30 (by decide) rfl X_X6_moved_ok b_X6_moved_ok rfl (Nat.le_of_ble_eq_true rfl) (k_X6_moved l) ?_
  rintro as S M - ⟨w, a, b, c, hci, rfl, rfl⟩
  have hok := hci.1.1.2.1
  have hV := hci.2
  refine ⟨fun _ _ _ _ _ _ _ _ => False, ?_, ?_⟩
  · skip
    refine xt_blk rfl rfl (by dsimp only [List.take]) ?_
    refine xt_iln1 rfl ?_
    refine xt_iln2 rfl ?_
    refine xt_iln3 rfl ?_
    refine xt_v3 (key := 333) (q := q_X6_refusalAlong) rfl rfl rfl rfl rfl ⟨Nat.le_of_ble_eq_true rfl, Nat.le_of_ble_eq_true rfl⟩ ⟨_, _, _, rfl⟩ (fun rv_ S1 M_3 hq_3 => ?_)
    obtain ⟨eS_, eM_, h_r⟩ := hq_3 _ _ _ rfl
    replace eS_ := eS_.symm
    replace eM_ := eM_.symm
    subst eS_ eM_
    have hex_r : ∃ v, rv_ = some (.inl v) := by rcases h_r with ⟨-, e⟩ | ⟨-, -, e⟩ | ⟨-, -, e⟩ <;> exact ⟨_, e⟩
    obtain ⟨v_r, rfl⟩ := hex_r
    simp only [Option.some.injEq, Sum.inl.injEq] at h_r
    replace h_r : rfA w a b v_r := h_r
    try dsimp only [Option.toList, List.cons_append, List.nil_append]
    refine xt_ist rfl (by dsimp only [x_sto]) ?_
    refine xt_ild rfl ?_
    refine xt_eq (t := 20) rfl (fun hc_10 => ?_) (fun hc_10 => ?_)
    · skip
      obtain ⟨k_2, k_1⟩ := rfA_ok h_r hc_10
      obtain ⟨wn, hwn, ewn⟩ := id k_1
      subst ewn
      have vw : nv (nI wn) = wn := nv_nI (by omega)
      obtain ⟨⟨an, han, ean⟩, ⟨bn, hbn, ebn⟩, hab⟩ := id k_2
      subst ean ebn
      have va : nv (nI an) = an := nv_nI (by omega)
      have vb : nv (nI bn) = bn := nv_nI (by omega)
      have hne : an ≠ bn := fun e => hab (by rw [e])
      refine xt_blk rfl rfl (by dsimp only [List.take]) ?_
      refine xt_aln0 rfl (by first | decide | omega | assumption | (have := isWy_lt hw; omega)) ?_
      refine xt_gfr (q := (4, 3)) rfl (by first | rfl | assumption) rfl ?_
      refine xt_iln2 rfl ?_
      refine xt_iln3 rfl ?_
      refine xt_v3 (key := 493) (q := q_X0_haveBoth) rfl rfl rfl rfl rfl ⟨Nat.le_of_ble_eq_true rfl, Nat.le_of_ble_eq_true rfl⟩ ⟨an, bn, han, hbn, rfl, rfl⟩ (fun rv_ S1 M_26 hq_26 => ?_)
      obtain ⟨eS_, eM_, rfl⟩ := hq_26 an bn han hbn rfl
      replace eS_ := eS_.symm
      replace eM_ := eM_.symm
      subst eS_ eM_
      have h_c26 := k_bth (M := M) va vb
      try dsimp only [Option.toList, List.cons_append, List.nil_append]
      refine xt_ne (t := 39) rfl (fun hc_29 => ?_) (fun hc_29 => ?_)
      · skip
        have k_26 := k_yes h_c26 hc_29
        refine xt_blk rfl rfl (by dsimp only [List.take]) ?_
        refine xt_aln0 rfl (by first | decide | omega | assumption | (have := isWy_lt hw; omega)) ?_
        refine xt_iln1 rfl ?_
        refine xt_v2 (key := 343) (q := q_X6_along) rfl rfl rfl rfl rfl ⟨Nat.le_of_ble_eq_true rfl, Nat.le_of_ble_eq_true rfl⟩ ⟨_, rfl, rfl⟩ (fun rv_ S1 M_41 hq_41 => ?_)
        obtain ⟨eS_, eM_, rfl⟩ := hq_41 _ rfl
        replace eS_ := eS_.symm
        replace eM_ := eM_.symm
        subst eS_ eM_
        obtain ⟨q, eq, hw, hwo, hp⟩ := al_q hci hwn
        subst hwo
        rw [eq]
        try dsimp only [Option.toList, List.cons_append, List.nil_append]
        refine xt_ast rfl (by first | decide | omega | assumption | (have := isWy_lt hw; omega)) (by dsimp only [x_sto]) ?_
        refine xt_ald rfl (by first | decide | omega | assumption | (have := isWy_lt hw; omega)) ?_
        refine xt_v1 (key := 409) (q := q_X5_isFirstDrawn) rfl rfl rfl rfl rfl ⟨Nat.le_of_ble_eq_true rfl, Nat.le_of_ble_eq_true rfl⟩ ⟨q, hp, rfl, rfl⟩ (fun rv_ S1 M_48 hq_48 => ?_)
        obtain ⟨eS_, hEd, hpos⟩ := hq_48 q rfl
        replace eS_ := eS_.symm
        subst eS_
        have hex : ∃ v, rv_ = some (.inl v) := by rcases hpos with ⟨e, -⟩ | ⟨e, -⟩ <;> exact ⟨_, e⟩
        obtain ⟨v, rfl⟩ := hex
        simp only [Option.some.injEq, Sum.inl.injEq] at hpos
        try dsimp only [Option.toList, List.cons_append, List.nil_append]
        refine xt_ne (t := 57) rfl (fun hc_51 => ?_) (fun hc_51 => ?_)
        · skip
          have hsat : Sat (tF M (wo q)) ∧ M_48 q 12 = nI 1 := by
            rcases hpos with ⟨-, z, z2⟩ | ⟨e, -⟩
            · exact ⟨z, z2⟩
            · rw [e] at hc_51; exact absurd rfl hc_51
          have hfi : ∃ s g, At M_48 (q + 3) g ∧ FI (tF M (wo q)) 15 s g ∧ ∀ e, e < 12 → M_48 (q + 6) e = nI (rkf g e 12) := by
            rcases hEd.2.2.2.2.2.2.2 with e | ⟨-, z⟩
            · rw [hsat.2] at e; exact absurd e (by decide)
            · exact z
          obtain ⟨s, g, hg, hF, hnum⟩ := hfi
          have hb41 : ∀ x y z, bxr M_48 x y z = bxr M x y z := fun x y z => by unfold bxr; rw [(Ed_Wk hw hEd).1 41 (by omega)]
          have hbl : bxr M (wo q) an bn < 13 := bwf_lt _ 13 (by omega)
          have hls : ls13 (g (an * 6 + bn)) < 13 := by rw [fi_rel hF han hbn hne]; exact rel_lt (fsF_lt (FI_end hF)) han hbn
          refine xt_blk rfl rfl (by dsimp only [List.take]) ?_
          refine xt_aln0 rfl (by first | decide | omega | assumption | (have := isWy_lt hw; omega)) ?_
          refine xt_gfr (q := (4, 3)) rfl (by first | rfl | assumption) rfl ?_
          refine xt_iln1 rfl ?_
          refine xt_iln2 rfl ?_
          refine xt_iln3 rfl ?_
          refine xt_v4 (key := 502) (q := q_X0_relation) rfl rfl rfl rfl rfl ⟨Nat.le_of_ble_eq_true rfl, Nat.le_of_ble_eq_true rfl⟩ ⟨wo q, an, bn, wo_lt q, han, hbn, rfl, rfl⟩ (fun rv_ S1 M_64 hq_64 => ?_)
          obtain ⟨eS_, eM_, rfl⟩ := hq_64 (wo q) an bn (wo_lt q) han hbn rfl
          replace eS_ := eS_.symm
          replace eM_ := eM_.symm
          subst eS_ eM_
          rw [hb41]
          try dsimp only [Option.toList, List.cons_append, List.nil_append]
          refine xt_ald rfl (by first | decide | omega | assumption | (have := isWy_lt hw; omega)) ?_
          refine xt_iln2 rfl ?_
          refine xt_iln3 rfl ?_
          refine xt_v3 (key := 427) (q := q_X5_firstRelation) rfl rfl rfl rfl rfl ⟨Nat.le_of_ble_eq_true rfl, Nat.le_of_ble_eq_true rfl⟩ ⟨q, an, bn, _, hw, rfl, han, hbn, (show g (an * 6 + bn) < 8192 ∧ M_48 (q + 3) (an * 6 + bn) = nI (g (an * 6 + bn)) from hg _ (by omega)), rfl⟩ (fun rv_ S1 M_71 hq_71 => ?_)
          obtain ⟨eS_, eM_, rfl⟩ := hq_71 q an bn _ hw han hbn (show g (an * 6 + bn) < 8192 ∧ M_48 (q + 3) (an * 6 + bn) = nI (g (an * 6 + bn)) from hg _ (by omega)) rfl
          replace eS_ := eS_.symm
          replace eM_ := eM_.symm
          subst eS_ eM_
          try dsimp only [Option.toList, List.cons_append, List.nil_append]
          refine xt_v2 (key := 231) (q := q_X2_stepsBetween) rfl rfl rfl rfl rfl ⟨Nat.le_of_ble_eq_true rfl, Nat.le_of_ble_eq_true rfl⟩ ⟨_, _, hbl, hls, rfl⟩ (fun rv_ S1 M_74 hq_74 => ?_)
          obtain ⟨eS_, eM_, rfl⟩ := hq_74 _ _ hbl hls rfl
          replace eS_ := eS_.symm
          replace eM_ := eM_.symm
          subst eS_ eM_
          try dsimp only [Option.toList, List.cons_append, List.nil_append]
          refine xt_ri rfl (Nat.le_refl _) ?_
          intro w2 a2 b2 e2
          simp only [List.cons.injEq, Sum.inl.injEq, and_true, true_and] at e2
          obtain ⟨rfl, rfl, rfl⟩ := e2
          have hlt := wo_lt q
          have vw : nv (nI (wo q)) = wo q := nv_nI (by omega)
          refine ⟨rfl, CE_Wk (Ed_Wk hw hEd) ?_⟩
          unfold spMoved
          rw [cif_t k_2, cif_t k_1, cif_t k_26, vw, tF_v M hlt, cif_t hsat.1, va, vb, bxr_v, fi_rel hF han hbn hne]
        · skip
          refine xt_bim rfl ?_
          refine xt_ri rfl (Nat.le_refl _) ?_
          intro w2 a2 b2 e2
          simp only [List.cons.injEq, Sum.inl.injEq, and_true, true_and] at e2
          obtain ⟨rfl, rfl, rfl⟩ := e2
          have hlt := wo_lt q
          have vw : nv (nI (wo q)) = wo q := nv_nI (by omega)
          have hsat : ¬ Sat (tF M (wo q)) := by
            rcases hpos with ⟨e, -⟩ | ⟨-, z⟩
            · rw [e] at hc_51; exact absurd hc_51 (by decide)
            · exact z
          refine ⟨rfl, CE_Wk (Ed_Wk hw hEd) ?_⟩
          unfold spMoved
          rw [cif_t k_2, cif_t k_1, cif_t k_26, vw, tF_v M hlt, cif_f hsat]
      · skip
        have k_26 := k_no h_c26 hc_29
        refine xt_aln0 rfl (by first | decide | omega | assumption | (have := isWy_lt hw; omega)) ?_
        refine xt_bim rfl ?_
        refine xt_v2 (key := 172) (q := q_X6_refuse) rfl rfl rfl rfl rfl ⟨Nat.le_of_ble_eq_true rfl, Nat.le_of_ble_eq_true rfl⟩ ⟨3, by decide, by decide, rfl, rfl⟩ (fun rv_ S1 M_35 hq_35 => ?_)
        obtain ⟨eS_, eM_, rfl⟩ := hq_35 3 (by decide) (by decide) rfl
        replace eS_ := eS_.symm
        replace eM_ := eM_.symm
        subst eS_ eM_
        try dsimp only [Option.toList, List.cons_append, List.nil_append]
        refine xt_ri rfl (Nat.le_refl _) ?_
        intro w2 a2 b2 e2
        simp only [List.cons.injEq, Sum.inl.injEq, and_true, true_and] at e2
        obtain ⟨rfl, rfl, rfl⟩ := e2
        refine ⟨rfl, CE_R ?_⟩
        unfold spMoved
        rw [cif_t k_2, cif_t k_1, cif_f k_26]
    · skip
      obtain ⟨p, hp0, hp7, ev, hpp⟩ := rfA_no h_r hc_10
      subst ev
      refine xt_aln0 rfl (by first | decide | omega | assumption | (have := isWy_lt hw; omega)) ?_
      refine xt_ild rfl ?_
      refine xt_v2 (key := 172) (q := q_X6_refuse) rfl rfl rfl rfl rfl ⟨Nat.le_of_ble_eq_true rfl, Nat.le_of_ble_eq_true rfl⟩ ⟨p, hp0, hp7, rfl, rfl⟩ (fun rv_ S1 M_16 hq_16 => ?_)
      obtain ⟨eS_, eM_, rfl⟩ := hq_16 p hp0 hp7 rfl
      replace eS_ := eS_.symm
      replace eM_ := eM_.symm
      subst eS_ eM_
      try dsimp only [Option.toList, List.cons_append, List.nil_append]
      refine xt_ri rfl (Nat.le_refl _) ?_
      intro w2 a2 b2 e2
      simp only [List.cons.injEq, Sum.inl.injEq, and_true, true_and] at e2
      obtain ⟨rfl, rfl, rfl⟩ := e2
      exact ⟨rfl, CE_R (rfA_sp2 hpp)⟩
  · intro μ pc ls st S2 M2 cs sl h; exact h.elim
def q_X6_count : x_K := (2, fun as S M => ∃ (w : Int32) (c : Nat), CI c M ∧ S = SH ∧ as = [.inr (.inl 0), .inl w], fun as S M rv_ S' M' => ∀ (w : Int32), as = [.inr (.inl 0), .inl w] → S' = S ∧ CEnd M M' rv_ (spCount (vM M) w), 0, 0)
theorem r_X6_count : ∀ as S M, q_X6_count.2.1 as S M → ∃ (k : Nat) (as' : List x_V) (fs : List (Option Nat)), as = .inr (.inl k) :: as' ∧ S[k]? = some (.inl (4, fs)) := by
  rintro as S M ⟨w, c, -, rfl, rfl⟩
  exact ⟨0, _, _, rfl, rfl⟩
def b_X6_count : x_B := [(0, 2, [(.iload_n 1, 1), (.tableswitch 51 0 2 #[27, 35, 43], 27)]),
  (28, 2, [(.aload_n 0, 1), (.getfield 10, 3), (.invokevirtual 174, 3), (.ireturn, 1)]),
  (36, 2, [(.aload_n 0, 1), (.getfield 10, 3), (.invokevirtual 180, 3), (.ireturn, 1)]),
  (44, 2, [(.aload_n 0, 1), (.getfield 34, 3), (.invokevirtual 183, 3), (.ireturn, 1)]),
  (52, 2, [(.iload_n 1, 1), (.bipush 11, 2), (.if_icmp .lt 21, 3), (.iload_n 1, 1), (.bipush 16, 2), (.if_icmp .gt 15, 3), (.aload_n 0, 1), (.getfield 49, 3), (.iload_n 1, 1), (.bipush 10, 2), (.isub, 1), (.iaload, 1), (.goto 5, 3)]),
  (76, 2, [(.bipush (-9), 2)]),
  (78, 2, [(.ireturn, 1)])]
theorem b_X6_count_ok : x_okB cX6_count 2 b_X6_count = true := by decide +kernel
def X_X6_count : x_X := ([(10, 4, 0), (34, 4, 3), (49, 4, 5)], [], [], [], [(523, q_X4_size), (541, q_X4_howManyTold), (550, q_X0_howMany)], (0, 0), x_kn, x_kf, 5, false)
theorem X_X6_count_ok : x_okT RX6 X_X6_count = true := by decide +kernel
theorem k_X6_count (l : Launch) : ∀ z ∈ X_X6_count.2.2.2.2.1, x_Cal l (x_rm 3 0 0) cX6_count RX6 2 z.1 z.2 := List.forall_mem_cons.mpr ⟨x_cal_V (idx := 174) (ci := 2) (n := 0) (c_X4_size l) ⟨by decide, by decide⟩ (by decide +kernel) (by decide +kernel) (by decide +kernel) (by decide +kernel) (by decide +kernel) rfl rfl rfl (by decide +kernel) r_X4_size, List.forall_mem_cons.mpr ⟨x_cal_V (idx := 180) (ci := 2) (n := 0) (c_X4_howManyTold l) ⟨by decide, by decide⟩ (by decide +kernel) (by decide +kernel) (by decide +kernel) (by decide +kernel) (by decide +kernel) rfl rfl rfl (by decide +kernel) r_X4_howManyTold, List.forall_mem_cons.mpr ⟨x_cal_V (idx := 183) (ci := 0) (n := 0) (c_X0_howMany l) ⟨by decide, by decide⟩ (by decide +kernel) (by decide +kernel) (by decide +kernel) (by decide +kernel) (by decide +kernel) rfl rfl rfl (by decide +kernel) r_X0_howMany, fun _ h => absurd h List.not_mem_nil⟩⟩⟩
set_option maxHeartbeats 4000000 in
set_option maxRecDepth 100000 in
theorem c_X6_count (l : Launch) : x_CT l yX6_count cX6_count 2 (some .int) 3 q_X6_count := by
  refine x_meth (X := X_X6_count) (bl := b_X6_count) (cut := []) (own := RX6) 30 (by decide) rfl X_X6_count_ok b_X6_count_ok rfl (Nat.le_of_ble_eq_true rfl) (k_X6_count l) ?_
  rintro as S M - ⟨w, c, hci, rfl, rfl⟩
  have hok := hci.1.1.2.1
  have hV := hci.2
  refine ⟨fun _ _ _ _ _ _ _ _ => False, ?_, ?_⟩
  · skip
    refine xt_blk rfl rfl (by dsimp only [List.take]) ?_
    refine xt_iln1 rfl ?_
    refine xt_sw (T0 := 52) (ts := [28, 36, 44]) rfl rfl rfl (by decide) (fun hd_1 => ?_) ⟨fun hx_0 => ?_, fun hx_1 => ?_, fun hx_2 => ?_, trivial⟩
    · skip
      refine xt_blk rfl rfl (by dsimp only [List.take]) ?_
      refine xt_iln1 rfl ?_
      refine xt_bi ?_
      refine xt_clt (t := 76) rfl (fun hc_55 => ?_) (fun hc_55 => ?_)
      · skip
        refine xt_blk rfl rfl (by dsimp only [List.take]) ?_
        refine xt_bim rfl ?_
        refine xt_nil (t := 78) rfl ?_
        refine xt_blk rfl rfl (by dsimp only [List.take]) ?_
        refine xt_ri rfl (Nat.le_refl _) ?_
        intro w2 e2
        simp only [List.cons.injEq, Sum.inl.injEq, and_true, true_and] at e2
        subst e2
        have k_d : ∀ j, j < 3 → ¬ w = nI j := hd_1
        refine ⟨rfl, CE_M ?_⟩
        unfold spCount
        rw [cif_f (k_d 0 (by decide)), cif_f (k_d 1 (by decide)), cif_f (k_d 2 (by decide)), cif_f (fun q => Int32.not_lt.mpr q.1 hc_55)]
      · skip
        refine xt_iln1 rfl ?_
        refine xt_bi ?_
        refine xt_cgt (t := 76) rfl (fun hc_61 => ?_) (fun hc_61 => ?_)
        · skip
          refine xt_blk rfl rfl (by dsimp only [List.take]) ?_
          refine xt_bim rfl ?_
          refine xt_nil (t := 78) rfl ?_
          refine xt_blk rfl rfl (by dsimp only [List.take]) ?_
          refine xt_ri rfl (Nat.le_refl _) ?_
          intro w2 e2
          simp only [List.cons.injEq, Sum.inl.injEq, and_true, true_and] at e2
          subst e2
          have k_d : ∀ j, j < 3 → ¬ w = nI j := hd_1
          refine ⟨rfl, CE_M ?_⟩
          unfold spCount
          rw [cif_f (k_d 0 (by decide)), cif_f (k_d 1 (by decide)), cif_f (k_d 2 (by decide)), cif_f (fun q => Int32.not_lt.mpr q.2 hc_61)]
        · skip
          have k_r : nI 11 ≤ w ∧ w ≤ nI 16 := ⟨Int32.not_lt.mp hc_55, Int32.not_lt.mp hc_61⟩
          have hw17 : ∃ wn, wn < 17 ∧ 11 ≤ wn ∧ w = nI wn := by
            obtain ⟨wn, h1, e⟩ := (Th_le (N := 16) (by decide)).mpr ⟨Int32.le_trans (by decide) k_r.1, k_r.2⟩
            subst e
            exact ⟨wn, h1, (nI_leI (by omega) (by omega)).mp k_r.1, rfl⟩
          obtain ⟨wn, hw1, hw2, ew⟩ := hw17
          subst ew
          have vw : nv (nI wn) = wn := nv_nI (by omega)
          have ei : nI wn - nI 10 = nI (wn - 10) := n_subN (by omega)
          refine xt_aln0 rfl (by first | decide | omega | assumption | (have := isWy_lt hw; omega)) ?_
          refine xt_gfr (q := (4, 5)) rfl (by first | rfl | assumption) rfl ?_
          refine xt_iln1 rfl ?_
          refine xt_bi ?_
          refine xt_sub ?_
          refine xt_ial (by first | rfl | assumption) (show vp_in _ 7 from by rw [ei]; exact vp_in_nI (by omega) (by decide)) ?_
          refine xt_goto (t := 78) rfl ?_
          refine xt_blk rfl rfl (by dsimp only [List.take]) ?_
          refine xt_ri rfl (Nat.le_refl _) ?_
          intro w2 e2
          simp only [List.cons.injEq, Sum.inl.injEq, and_true, true_and] at e2
          subst e2
          have k_d : ∀ j, j < 3 → ¬ nI wn = nI j := hd_1
          refine ⟨rfl, CE_M ?_⟩
          unfold spCount
          rw [cif_f (k_d 0 (by decide)), cif_f (k_d 1 (by decide)), cif_f (k_d 2 (by decide)), cif_t k_r, vw, ei, nI_clamp (by omega)]
          rfl
    · skip
      refine xt_blk rfl rfl (by dsimp only [List.take]) ?_
      refine xt_aln0 rfl (by first | decide | omega | assumption | (have := isWy_lt hw; omega)) ?_
      refine xt_gfr (q := (4, 0)) rfl (by first | rfl | assumption) rfl ?_
      refine xt_v1 (key := 523) (q := q_X4_size) rfl rfl rfl rfl rfl ⟨Nat.le_of_ble_eq_true rfl, Nat.le_of_ble_eq_true rfl⟩ ⟨rfl, rfl⟩ (fun rv_ S1 M_32 hq_32 => ?_)
      obtain ⟨eS_, eM_, rfl⟩ := hq_32 rfl
      replace eS_ := eS_.symm
      replace eM_ := eM_.symm
      subst eS_ eM_
      try dsimp only [Option.toList, List.cons_append, List.nil_append]
      refine xt_ri rfl (Nat.le_refl _) ?_
      intro w2 e2
      simp only [List.cons.injEq, Sum.inl.injEq, and_true, true_and] at e2
      subst e2
      subst hx_0
      refine ⟨rfl, CE_M ?_⟩
      unfold spCount
      rw [cif_t rfl]
      rfl
    · skip
      refine xt_blk rfl rfl (by dsimp only [List.take]) ?_
      refine xt_aln0 rfl (by first | decide | omega | assumption | (have := isWy_lt hw; omega)) ?_
      refine xt_gfr (q := (4, 0)) rfl (by first | rfl | assumption) rfl ?_
      refine xt_v1 (key := 541) (q := q_X4_howManyTold) rfl rfl rfl rfl rfl ⟨Nat.le_of_ble_eq_true rfl, Nat.le_of_ble_eq_true rfl⟩ ⟨rfl, ⟨nN M, hok.1, hok.2.1⟩, rfl⟩ (fun rv_ S1 M_40 hq_40 => ?_)
      obtain ⟨eS_, eM_, rfl⟩ := hq_40 (nN M) hok.1 hok.2.1 rfl
      replace eS_ := eS_.symm
      replace eM_ := eM_.symm
      subst eS_ eM_
      try dsimp only [Option.toList, List.cons_append, List.nil_append]
      refine xt_ri rfl (Nat.le_refl _) ?_
      intro w2 e2
      simp only [List.cons.injEq, Sum.inl.injEq, and_true, true_and] at e2
      subst e2
      subst hx_1
      refine ⟨rfl, CE_M ?_⟩
      unfold spCount
      rw [cif_f (show ¬ (nI 1 = nI 0) by decide), cif_t rfl, bc_told _ hok.1]
      rfl
    · skip
      refine xt_blk rfl rfl (by dsimp only [List.take]) ?_
      refine xt_aln0 rfl (by first | decide | omega | assumption | (have := isWy_lt hw; omega)) ?_
      refine xt_gfr (q := (4, 3)) rfl (by first | rfl | assumption) rfl ?_
      refine xt_v1 (key := 550) (q := q_X0_howMany) rfl rfl rfl rfl rfl ⟨Nat.le_of_ble_eq_true rfl, Nat.le_of_ble_eq_true rfl⟩ ⟨rfl, rfl⟩ (fun rv_ S1 M_48 hq_48 => ?_)
      obtain ⟨eS_, eM_, rfl⟩ := hq_48 rfl
      replace eS_ := eS_.symm
      replace eM_ := eM_.symm
      subst eS_ eM_
      try dsimp only [Option.toList, List.cons_append, List.nil_append]
      refine xt_ri rfl (Nat.le_refl _) ?_
      intro w2 e2
      simp only [List.cons.injEq, Sum.inl.injEq, and_true, true_and] at e2
      subst e2
      subst hx_2
      refine ⟨rfl, CE_M ?_⟩
      unfold spCount
      rw [cif_f (show ¬ (nI 2 = nI 0) by decide), cif_f (show ¬ (nI 2 = nI 1) by decide), cif_t rfl]
      rfl
  · intro μ pc ls st S2 M2 cs sl h; exact h.elim
