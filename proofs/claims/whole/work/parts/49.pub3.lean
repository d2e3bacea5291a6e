/-! THE CLASS: ask, fits -/
theorem Wk_tF {M M' : x_M} (h : Wk M M') {w : Nat} (hw : w < 2) : tF M' w = tF M w := (St7_w (Wk_7 h) hw).2.2.2.2.1
theorem fit_le (V : x_M) : ∀ i, fit V i ≤ i
  | 0 => Nat.le_refl _
  | i + 1 => by
    have := fit_le V i
    show cif (msf V i) (fit V i + 1) (fit V i) ≤ i + 1
    by_cases h : msf V i
    · rw [cif_t h]; omega
    · rw [cif_f h]; omega
def q_X6_ask : x_K := (4, fun as S M => ∃ (w : Int32) (a : Int32) (b : Int32) (c : Nat), CI c M ∧ S = SH ∧ as = [.inr (.inl 0), .inl w, .inl a, .inl b], fun as S M rv_ S' M' => ∀ (w : Int32) (a : Int32) (b : Int32), as = [.inr (.inl 0), .inl w, .inl a, .inl b] → S' = S ∧ CEnd M M' rv_ (spAsk (vM M) w a b), 0, 0)
theorem r_X6_ask : ∀ as S M, q_X6_ask.2.1 as S M → ∃ (k : Nat) (as' : List x_V) (fs : List (Option Nat)), as = .inr (.inl k) :: as' ∧ S[k]? = some (.inl (4, fs)) := by
  rintro as S M ⟨w, a, b, c, -, rfl, rfl⟩
  exact ⟨0, _, _, rfl, rfl⟩
def b_X6_ask : x_B := [(0, 4, [(.iload_n 1, 1), (.invokestatic 149, 3), (.ifCond .eq 11, 3), (.iload_n 2, 1), (.iload_n 3, 1), (.invokestatic 81, 3), (.ifCond .ne 9, 3)]),
  (15, 4, [(.aload_n 0, 1), (.iconst (-1), 1), (.invokevirtual 57, 3), (.ireturn, 1)]),
  (21, 4, [(.aload_n 0, 1), (.getfield 24, 3), (.invokevirtual 127, 3), (.ifCond .eq 13, 3), (.aload_n 0, 1), (.getfield 28, 3), (.invokevirtual 127, 3), (.ifCond .ne 6, 3)]),
  (41, 4, [(.bipush (-9), 2), (.ireturn, 1)]),
  (44, 4, [(.aload_n 0, 1), (.getfield 24, 3), (.iload_n 2, 1), (.iload_n 3, 1), (.invokevirtual 130, 3), (.istore 4, 2), (.aload_n 0, 1), (.getfield 28, 3), (.iload_n 2, 1), (.iload_n 3, 1), (.invokevirtual 130, 3), (.istore 5, 2), (.aload_n 0, 1), (.getfield 40, 3), (.iload_n 1, 1), (.aaload, 1), (.iconst 0, 1), (.iaload, 1), (.istore 6, 2), (.aload_n 0, 1), (.getfield 40, 3), (.iload_n 1, 1), (.aaload, 1), (.iconst 1, 1), (.iaload, 1), (.istore 7, 2), (.iload 4, 2), (.iload 6, 2), (.iand, 1), (.ifCond .eq 11, 3), (.iload 5, 2), (.iload 7, 2), (.iand, 1), (.ifCond .ne 5, 3)]),
  (102, 8, [(.iconst 0, 1), (.ireturn, 1)]),
  (104, 8, [(.iload 4, 2), (.iload 6, 2), (.invokestatic 152, 3), (.ifCond .eq 17, 3), (.iload 5, 2), (.iload 7, 2), (.invokestatic 152, 3), (.ifCond .eq 7, 3), (.iconst 1, 1), (.goto 4, 3)]),
  (128, 8, [(.iconst 2, 1)]),
  (129, 8, [(.ireturn, 1)])]
theorem b_X6_ask_ok : x_okB cX6_ask 8 b_X6_ask = true := by decide +kernel
def X_X6_ask : x_X := ([(24, 4, 1), (28, 4, 2), (40, 4, 4)], [], [], [], [(447, q_X6_isWord), (243, q_X6_areTwoThings), (172, q_X6_refuse), (382, q_X5_isPossible), (391, q_X5_canSet), (456, q_X2_isWithin)], (0, 0), x_kn, x_kf, 5, false)
theorem X_X6_ask_ok : x_okT RX6 X_X6_ask = true := by decide +kernel
theorem k_X6_ask (l : Launch) : ∀ z ∈ X_X6_ask.2.2.2.2.1, x_Cal l (x_rm 23 0 0) cX6_ask RX6 8 z.1 z.2 := List.forall_mem_cons.mpr ⟨x_cal_S (idx := 149) (c_X6_isWord l) ⟨by decide, by decide⟩ (by decide +kernel) (by decide +kernel) (by decide +kernel) (by decide +kernel) (by decide +kernel), List.forall_mem_cons.mpr ⟨x_cal_S (idx := 81) (c_X6_areTwoThings l) ⟨by decide, by decide⟩ (by decide +kernel) (by decide +kernel) (by decide +kernel) (by decide +kernel) (by decide +kernel), List.forall_mem_cons.mpr ⟨x_cal_V (idx := 57) (ci := 4) (n := 1) (c_X6_refuse l) ⟨by decide, by decide⟩ (by decide +kernel) (by decide +kernel) (by decide +kernel) (by decide +kernel) (by decide +kernel) rfl rfl rfl (by decide +kernel) r_X6_refuse, List.forall_mem_cons.mpr ⟨x_cal_V (idx := 127) (ci := 3) (n := 0) (c_X5_isPossible l) ⟨by decide, by decide⟩ (by decide +kernel) (by decide +kernel) (by decide +kernel) (by decide +kernel) (by decide +kernel) rfl rfl rfl (by decide +kernel) r_X5_isPossible, List.forall_mem_cons.mpr ⟨x_cal_V (idx := 130) (ci := 3) (n := 2) (c_X5_canSet l) ⟨by decide, by decide⟩ (by decide +kernel) (by decide +kernel) (by decide +kernel) (by decide +kernel) (by decide +kernel) rfl rfl rfl (by decide +kernel) r_X5_canSet, List.forall_mem_cons.mpr ⟨x_cal_S (idx := 152) (c_X2_isWithin l) ⟨by decide, by decide⟩ (by decide +kernel) (by decide +kernel) (by decide +kernel) (by decide +kernel) (by decide +kernel), fun _ h => absurd h List.not_mem_nil⟩⟩⟩⟩⟩⟩
set_option maxHeartbeats 4000000 in
set_option maxRecDepth 100000 in
theorem c_X6_ask (l : Launch) : x_CT l yX6_ask cX6_ask 8 (some .int) 23 q_X6_ask := by
  refine x_meth (X := X_X6_ask) (bl := b_X6_ask) (cut := []) (own := RX6) 30 (by decide) rfl X_X6_ask_ok b_X6_ask_ok rfl (Nat.le_of_ble_eq_true rfl) (k_X6_ask l) ?_
  rintro as S M - ⟨w, a, b, c, hci, rfl, rfl⟩
  have hok := hci.1.1.2.1
  have hV := hci.2
  refine ⟨fun _ _ _ _ _ _ _ _ => False, ?_, ?_⟩
  · skip
    refine xt_blk rfl rfl (by dsimp only [List.take]) ?_
    refine xt_iln1 rfl ?_
    refine xt_v1 (key := 447) (q := q_X6_isWord) rfl rfl rfl rfl rfl ⟨Nat.le_of_ble_eq_true rfl, Nat.le_of_ble_eq_true rfl⟩ ⟨_, rfl⟩ (fun rv_ S1 M_1 hq_1 => ?_)
    obtain ⟨eS_, eM_, h_c1⟩ := hq_1 _ rfl
    replace eS_ := eS_.symm
    replace eM_ := eM_.symm
    subst eS_ eM_
    have hex_c1 : ∃ v, rv_ = some (.inl v) := by rcases h_c1 with ⟨-, e⟩ | ⟨-, e⟩ <;> exact ⟨_, e⟩
    obtain ⟨v_c1, rfl⟩ := hex_c1
    simp only [Option.some.injEq, Sum.inl.injEq] at h_c1
    try dsimp only [Option.toList, List.cons_append, List.nil_append]
    refine xt_eq (t := 15) rfl (fun hc_4 => ?_) (fun hc_4 => ?_)
    · skip
      have k_1 := k_no h_c1 hc_4
      refine xt_blk rfl rfl (by dsimp only [List.take]) ?_
      refine xt_aln0 rfl (by first | decide | omega | assumption | (have := isWy_lt hw; omega)) ?_
      refine xt_icm rfl ?_
      refine xt_v2 (key := 172) (q := q_X6_refuse) rfl rfl rfl rfl rfl ⟨Nat.le_of_ble_eq_true rfl, Nat.le_of_ble_eq_true rfl⟩ ⟨1, by decide, by decide, rfl, rfl⟩ (fun rv_ S1 M_17 hq_17 => ?_)
      obtain ⟨eS_, eM_, rfl⟩ := hq_17 1 (by decide) (by decide) rfl
      replace eS_ := eS_.symm
      replace eM_ := eM_.symm
      subst eS_ eM_
      try dsimp only [Option.toList, List.cons_append, List.nil_append]
      refine xt_ri rfl (Nat.le_refl _) ?_
      intro w2 a2 b2 e2
      simp only [List.cons.injEq, Sum.inl.injEq, and_true, true_and] at e2
      obtain ⟨rfl, rfl, rfl⟩ := e2
      refine ⟨rfl, CE_R ?_⟩
      unfold spAsk
      rw [cif_f k_1]
    · skip
      have k_1 := k_yes h_c1 hc_4
      refine xt_iln2 rfl ?_
      refine xt_iln3 rfl ?_
      refine xt_v2 (key := 243) (q := q_X6_areTwoThings) rfl rfl rfl rfl rfl ⟨Nat.le_of_ble_eq_true rfl, Nat.le_of_ble_eq_true rfl⟩ ⟨_, _, rfl⟩ (fun rv_ S1 M_9 hq_9 => ?_)
      obtain ⟨eS_, eM_, h_c9⟩ := hq_9 _ _ rfl
      replace eS_ := eS_.symm
      replace eM_ := eM_.symm
      subst eS_ eM_
      have hex_c9 : ∃ v, rv_ = some (.inl v) := by rcases h_c9 with ⟨-, e⟩ | ⟨-, e⟩ <;> exact ⟨_, e⟩
      obtain ⟨v_c9, rfl⟩ := hex_c9
      simp only [Option.some.injEq, Sum.inl.injEq] at h_c9
      try dsimp only [Option.toList, List.cons_append, List.nil_append]
      refine xt_ne (t := 21) rfl (fun hc_12 => ?_) (fun hc_12 => ?_)
      · skip
        have k_9 := k_yes h_c9 hc_12
        obtain ⟨wn, hwn, ewn⟩ := id k_1
        subst ewn
        have vw : nv (nI wn) = wn := nv_nI (by omega)
        obtain ⟨⟨an, han, ean⟩, ⟨bn, hbn, ebn⟩, hab⟩ := id k_9
        subst ean ebn
        have va : nv (nI an) = an := nv_nI (by omega)
        have vb : nv (nI bn) = bn := nv_nI (by omega)
        have hne : an ≠ bn := fun e => hab (by rw [e])
        have ho := hV.2.2.2.1 wn 0 hwn (by decide)
        have hu := hV.2.2.2.1 wn 1 hwn (by decide)
        rw [vM_w M hwn (by decide)] at ho hu
        obtain ⟨on, hon, eo⟩ := ho
        obtain ⟨un, hun, eu⟩ := hu
        refine xt_blk rfl rfl (by dsimp only [List.take]) ?_
        refine xt_aln0 rfl (by first | decide | omega | assumption | (have := isWy_lt hw; omega)) ?_
        refine xt_gfr (q := (4, 1)) rfl (by first | exact SHwd wn hwn | rfl) rfl ?_
        refine xt_v1 (key := 382) (q := q_X5_isPossible) rfl rfl rfl rfl rfl ⟨Nat.le_of_ble_eq_true rfl, Nat.le_of_ble_eq_true rfl⟩ ⟨26, hci.1.1, rfl, rfl⟩ (fun rv_ S1 M_25 hq_25 => ?_)
        obtain ⟨eS_, hEd1, hpos1⟩ := hq_25 26 rfl
        replace eS_ := eS_.symm
        subst eS_
        have hK1 : Wk M M_25 := Ed_Wk w26 hEd1
        have hex : ∃ v, rv_ = some (.inl v) := by rcases hpos1 with ⟨e, -⟩ | ⟨e, -⟩ <;> exact ⟨_, e⟩
        obtain ⟨v1, rfl⟩ := hex
        simp only [Option.some.injEq, Sum.inl.injEq] at hpos1
        try dsimp only [Option.toList, List.cons_append, List.nil_append]
        refine xt_eq (t := 41) rfl (fun hc_28 => ?_) (fun hc_28 => ?_)
        · skip
          have hs1 : ¬ Sat (tF M 0) := by
            rcases hpos1 with ⟨e, -⟩ | ⟨-, z⟩
            · rw [e] at hc_28; exact absurd hc_28 (by decide)
            · exact z
          refine xt_blk rfl rfl (by dsimp only [List.take]) ?_
          refine xt_bim rfl ?_
          refine xt_ri rfl (Nat.le_refl _) ?_
          intro w2 a2 b2 e2
          simp only [List.cons.injEq, Sum.inl.injEq, and_true, true_and] at e2
          obtain ⟨rfl, rfl, rfl⟩ := e2
          refine ⟨rfl, CE_Wk hK1 ?_⟩
          unfold spAsk
          rw [cif_t k_1, cif_t k_9, tF_v M (by decide), tF_v M (by decide), cif_f (fun q => hs1 q.1)]
        · skip
          have hs1 : Sat (tF M 0) := by
            rcases hpos1 with ⟨-, z, -⟩ | ⟨e, -⟩
            · exact z
            · rw [e] at hc_28; exact absurd rfl hc_28
          refine xt_aln0 rfl (by first | decide | omega | assumption | (have := isWy_lt hw; omega)) ?_
          refine xt_gfr (q := (4, 2)) rfl (by first | exact SHwd wn hwn | rfl) rfl ?_
          refine xt_v1 (key := 382) (q := q_X5_isPossible) rfl rfl rfl rfl rfl ⟨Nat.le_of_ble_eq_true rfl, Nat.le_of_ble_eq_true rfl⟩ ⟨33, (hK1.2 c hci.1).2.1, rfl, rfl⟩ (fun rv_ S1 M_35 hq_35 => ?_)
          obtain ⟨eS_, hEd2, hpos2⟩ := hq_35 33 rfl
          replace eS_ := eS_.symm
          subst eS_
          have hK2 : Wk M M_35 := Wk_tr hK1 (Ed_Wk w33 hEd2)
          have hex : ∃ v, rv_ = some (.inl v) := by rcases hpos2 with ⟨e, -⟩ | ⟨e, -⟩ <;> exact ⟨_, e⟩
          obtain ⟨v2, rfl⟩ := hex
          simp only [Option.some.injEq, Sum.inl.injEq] at hpos2
          try dsimp only [Option.toList, List.cons_append, List.nil_append]
          refine xt_ne (t := 44) rfl (fun hc_38 => ?_) (fun hc_38 => ?_)
          · skip
            have hs2 : Sat (tF M 1) := by
              rcases hpos2 with ⟨-, z, -⟩ | ⟨e, -⟩
              · rw [show wo 33 = 1 from rfl, Wk_tF hK1 (by decide)] at z; exact z
              · rw [e] at hc_38; exact absurd rfl hc_38
            refine xt_blk rfl rfl (by dsimp only [List.take]) ?_
            refine xt_aln0 rfl (by first | decide | omega | assumption | (have := isWy_lt hw; omega)) ?_
            refine xt_gfr (q := (4, 1)) rfl (by first | exact SHwd wn hwn | rfl) rfl ?_
            refine xt_iln2 rfl ?_
            refine xt_iln3 rfl ?_
            refine xt_v3 (key := 391) (q := q_X5_canSet) rfl rfl rfl rfl rfl ⟨Nat.le_of_ble_eq_true rfl, Nat.le_of_ble_eq_true rfl⟩ ⟨26, an, bn, (hK2.2 c hci.1).1, rfl, han, hbn, hne, rfl⟩ (fun rv_ S1 M_50 hq_50 => ?_)
            obtain ⟨eS_, hEd3, z3, hv3, rfl⟩ := hq_50 26 an bn han hbn hne rfl
            replace eS_ := eS_.symm
            subst eS_
            have hK3 : Wk M M_50 := Wk_tr hK2 (Ed_Wk w26 hEd3)
            rw [show wo 26 = 0 from rfl, Wk_tF hK2 (by decide)] at hv3
            have hz3 := hv3.1
            try dsimp only [Option.toList, List.cons_append, List.nil_append]
            refine xt_ist rfl (by dsimp only [x_sto]) ?_
            refine xt_aln0 rfl (by first | decide | omega | assumption | (have := isWy_lt hw; omega)) ?_
            refine xt_gfr (q := (4, 2)) rfl (by first | exact SHwd wn hwn | rfl) rfl ?_
            refine xt_iln2 rfl ?_
            refine xt_iln3 rfl ?_
            refine xt_v3 (key := 391) (q := q_X5_canSet) rfl rfl rfl rfl rfl ⟨Nat.le_of_ble_eq_true rfl, Nat.le_of_ble_eq_true rfl⟩ ⟨33, an, bn, (hK3.2 c hci.1).2.1, rfl, han, hbn, hne, rfl⟩ (fun rv_ S1 M_61 hq_61 => ?_)
            obtain ⟨eS_, hEd4, z4, hv4, rfl⟩ := hq_61 33 an bn han hbn hne rfl
            replace eS_ := eS_.symm
            subst eS_
            have hK4 : Wk M M_61 := Wk_tr hK3 (Ed_Wk w33 hEd4)
            rw [show wo 33 = 1 from rfl, Wk_tF hK3 (by decide)] at hv4
            have hz4 := hv4.1
            have eo2 : M_61 (44 + wn) (nI 0).toNatClampNeg = nI on := by rw [hK4.1 _ (by omega)]; exact eo
            have eu2 : M_61 (44 + wn) (nI 1).toNatClampNeg = nI un := by rw [hK4.1 _ (by omega)]; exact eu
            have ez : nI z3 &&& nI on = nI (z3 &&& on) := n_and _ _
            have ey : nI z4 &&& nI un = nI (z4 &&& un) := n_and _ _
            have hzl : z3 &&& on < 8192 := Nat.lt_of_le_of_lt Nat.and_le_left hz3
            have hyl : z4 &&& un < 8192 := Nat.lt_of_le_of_lt Nat.and_le_left hz4
            try dsimp only [Option.toList, List.cons_append, List.nil_append]
            refine xt_ist rfl (by dsimp only [x_sto]) ?_
            refine xt_aln0 rfl (by first | decide | omega | assumption | (have := isWy_lt hw; omega)) ?_
            refine xt_gfr (q := (4, 4)) rfl (by first | exact SHwd wn hwn | rfl) rfl ?_
            refine xt_iln1 rfl ?_
            refine xt_ral (r := 44 + wn) rfl (show vp_in _ 8 from vp_in_nI (by omega) (by decide)) (by rw [nI_clamp (by omega)]; exact stw wn hwn) (by omega) ?_
            refine xt_ic ?_
            refine xt_ial (by first | exact SHwd wn hwn | rfl) (show vp_in _ 2 from vp_in_nI (by omega) (by decide)) ?_
            refine xt_ist rfl (by dsimp only [x_sto]) ?_
            refine xt_aln0 rfl (by first | decide | omega | assumption | (have := isWy_lt hw; omega)) ?_
            refine xt_gfr (q := (4, 4)) rfl (by first | exact SHwd wn hwn | rfl) rfl ?_
            refine xt_iln1 rfl ?_
            refine xt_ral (r := 44 + wn) rfl (show vp_in _ 8 from vp_in_nI (by omega) (by decide)) (by rw [nI_clamp (by omega)]; exact stw wn hwn) (by omega) ?_
            refine xt_ic ?_
            refine xt_ial (by first | exact SHwd wn hwn | rfl) (show vp_in _ 2 from vp_in_nI (by omega) (by decide)) ?_
            refine xt_ist rfl (by dsimp only [x_sto]) ?_
            refine xt_ild rfl ?_
            refine xt_ild rfl ?_
            refine xt_and ?_
            refine xt_eq (t := 102) rfl (fun hc_91 => ?_) (fun hc_91 => ?_)
            · skip
              refine xt_blk rfl rfl (by dsimp only [List.take]) ?_
              refine xt_ic ?_
              refine xt_ri rfl (Nat.le_refl _) ?_
              intro w2 a2 b2 e2
              simp only [List.cons.injEq, Sum.inl.injEq, and_true, true_and] at e2
              obtain ⟨rfl, rfl, rfl⟩ := e2
              rw [eo2, ez, n_eq0 (by omega)] at hc_91
              have ea : aska (vM M) wn an bn = nI 0 := by
                unfold aska
                rw [tF_v M (by decide), tF_v M (by decide), ← caF_e hv3, ← caF_e hv4, vM_w M hwn (by decide), vM_w M hwn (by decide), eo, eu, nv_nI (by omega), nv_nI (by omega)]
                rw [cif_t (Or.inl hc_91)]
              refine ⟨rfl, CE_Wk hK4 ?_⟩
              unfold spAsk
              rw [cif_t k_1, cif_t k_9, tF_v M (by decide), tF_v M (by decide), cif_t ⟨hs1, hs2⟩, vw, va, vb, ea]
            · skip
              refine xt_ild rfl ?_
              refine xt_ild rfl ?_
              refine xt_and ?_
              refine xt_ne (t := 104) rfl (fun hc_99 => ?_) (fun hc_99 => ?_)
              · skip
                refine xt_blk rfl rfl (by dsimp only [List.take]) ?_
                refine xt_ild rfl ?_
                refine xt_ild rfl ?_
                refine xt_v2 (key := 456) (q := q_X2_isWithin) rfl rfl rfl rfl rfl ⟨Nat.le_of_ble_eq_true rfl, Nat.le_of_ble_eq_true rfl⟩ ⟨z3, on, hz3, hon, by rw [eo2]⟩ (fun rv_ S1 M_108 hq_108 => ?_)
                obtain ⟨eS_, eM_, rfl⟩ := hq_108 z3 on hz3 hon (by rw [eo2])
                replace eS_ := eS_.symm
                replace eM_ := eM_.symm
                subst eS_ eM_
                try dsimp only [Option.toList, List.cons_append, List.nil_append]
                refine xt_eq (t := 128) rfl (fun hc_111 => ?_) (fun hc_111 => ?_)
                · skip
                  refine xt_blk rfl rfl (by dsimp only [List.take]) ?_
                  refine xt_ic ?_
                  refine xt_nil (t := 129) rfl ?_
                  refine xt_blk rfl rfl (by dsimp only [List.take]) ?_
                  refine xt_ri rfl (Nat.le_refl _) ?_
                  intro w2 a2 b2 e2
                  simp only [List.cons.injEq, Sum.inl.injEq, and_true, true_and] at e2
                  obtain ⟨rfl, rfl, rfl⟩ := e2
                  rw [eo2, ez, n_eq0 (by omega)] at hc_91
                  rw [eu2, ey, n_eq0 (by omega)] at hc_99
                  have hno : ¬ (z3 &&& on = 0 ∨ z4 &&& un = 0) := by
                    rintro (q | q)
                    · exact hc_91 q
                    · exact hc_99 q
                  have w1 : ¬ z3 &&& on = z3 := fun q => by
                    rw [if_pos q] at hc_111; exact absurd hc_111 (by decide)
                  have ea : aska (vM M) wn an bn = nI 2 := by
                    unfold aska
                    rw [tF_v M (by decide), tF_v M (by decide), ← caF_e hv3, ← caF_e hv4, vM_w M hwn (by decide), vM_w M hwn (by decide), eo, eu, nv_nI (by omega), nv_nI (by omega)]
                    rw [cif_f hno, cif_f (fun q => w1 q.1)]
                  refine ⟨rfl, CE_Wk hK4 ?_⟩
                  unfold spAsk
                  rw [cif_t k_1, cif_t k_9, tF_v M (by decide), tF_v M (by decide), cif_t ⟨hs1, hs2⟩, vw, va, vb, ea]
                · skip
                  refine xt_ild rfl ?_
                  refine xt_ild rfl ?_
                  refine xt_v2 (key := 456) (q := q_X2_isWithin) rfl rfl rfl rfl rfl ⟨Nat.le_of_ble_eq_true rfl, Nat.le_of_ble_eq_true rfl⟩ ⟨z4, un, hz4, hun, by rw [eu2]⟩ (fun rv_ S1 M_118 hq_118 => ?_)
                  obtain ⟨eS_, eM_, rfl⟩ := hq_118 z4 un hz4 hun (by rw [eu2])
                  replace eS_ := eS_.symm
                  replace eM_ := eM_.symm
                  subst eS_ eM_
                  try dsimp only [Option.toList, List.cons_append, List.nil_append]
                  refine xt_eq (t := 128) rfl (fun hc_121 => ?_) (fun hc_121 => ?_)
                  · skip
                    refine xt_blk rfl rfl (by dsimp only [List.take]) ?_
                    refine xt_ic ?_
                    refine xt_nil (t := 129) rfl ?_
                    refine xt_blk rfl rfl (by dsimp only [List.take]) ?_
                    refine xt_ri rfl (Nat.le_refl _) ?_
                    intro w2 a2 b2 e2
                    simp only [List.cons.injEq, Sum.inl.injEq, and_true, true_and] at e2
                    obtain ⟨rfl, rfl, rfl⟩ := e2
                    rw [eo2, ez, n_eq0 (by omega)] at hc_91
                    rw [eu2, ey, n_eq0 (by omega)] at hc_99
                    have hno : ¬ (z3 &&& on = 0 ∨ z4 &&& un = 0) := by
                      rintro (q | q)
                      · exact hc_91 q
                      · exact hc_99 q
                    have w1 : z3 &&& on = z3 := by
                      by_cases q : z3 &&& on = z3
                      · exact q
                      · rw [if_neg q] at hc_111; exact absurd rfl hc_111
                    have w2 : ¬ z4 &&& un = z4 := fun q => by
                      rw [if_pos q] at hc_121; exact absurd hc_121 (by decide)
                    have ea : aska (vM M) wn an bn = nI 2 := by
                      unfold aska
                      rw [tF_v M (by decide), tF_v M (by decide), ← caF_e hv3, ← caF_e hv4, vM_w M hwn (by decide), vM_w M hwn (by decide), eo, eu, nv_nI (by omega), nv_nI (by omega)]
                      rw [cif_f hno, cif_f (fun q => w2 q.2)]
                    refine ⟨rfl, CE_Wk hK4 ?_⟩
                    unfold spAsk
                    rw [cif_t k_1, cif_t k_9, tF_v M (by decide), tF_v M (by decide), cif_t ⟨hs1, hs2⟩, vw, va, vb, ea]
                  · skip
                    refine xt_ic ?_
                    refine xt_goto (t := 129) rfl ?_
                    refine xt_blk rfl rfl (by dsimp only [List.take]) ?_
                    refine xt_ri rfl (Nat.le_refl _) ?_
                    intro w2 a2 b2 e2
                    simp only [List.cons.injEq, Sum.inl.injEq, and_true, true_and] at e2
                    obtain ⟨rfl, rfl, rfl⟩ := e2
                    rw [eo2, ez, n_eq0 (by omega)] at hc_91
                    rw [eu2, ey, n_eq0 (by omega)] at hc_99
                    have hno : ¬ (z3 &&& on = 0 ∨ z4 &&& un = 0) := by
                      rintro (q | q)
                      · exact hc_91 q
                      · exact hc_99 q
                    have w1 : z3 &&& on = z3 := by
                      by_cases q : z3 &&& on = z3
                      · exact q
                      · rw [if_neg q] at hc_111; exact absurd rfl hc_111
                    have w2 : z4 &&& un = z4 := by
                      by_cases q : z4 &&& un = z4
                      · exact q
                      · rw [if_neg q] at hc_121; exact absurd rfl hc_121
                    have ea : aska (vM M) wn an bn = nI 1 := by
                      unfold aska
                      rw [tF_v M (by decide), tF_v M (by decide), ← caF_e hv3, ← caF_e hv4, vM_w M hwn (by decide), vM_w M hwn (by decide), eo, eu, nv_nI (by omega), nv_nI (by omega)]
                      rw [cif_f hno, cif_t ⟨w1, w2⟩]
                    refine ⟨rfl, CE_Wk hK4 ?_⟩
                    unfold spAsk
                    rw [cif_t k_1, cif_t k_9, tF_v M (by decide), tF_v M (by decide), cif_t ⟨hs1, hs2⟩, vw, va, vb, ea]
              · skip
                refine xt_nil (t := 102) rfl ?_
                refine xt_blk rfl rfl (by dsimp only [List.take]) ?_
                refine xt_ic ?_
                refine xt_ri rfl (Nat.le_refl _) ?_
                intro w2 a2 b2 e2
                simp only [List.cons.injEq, Sum.inl.injEq, and_true, true_and] at e2
                obtain ⟨rfl, rfl, rfl⟩ := e2
                rw [eo2, ez, n_eq0 (by omega)] at hc_91
                rw [eu2, ey, n_eq0 (by omega)] at hc_99
                have ea : aska (vM M) wn an bn = nI 0 := by
                  unfold aska
                  rw [tF_v M (by decide), tF_v M (by decide), ← caF_e hv3, ← caF_e hv4, vM_w M hwn (by decide), vM_w M hwn (by decide), eo, eu, nv_nI (by omega), nv_nI (by omega)]
                  rw [cif_t (Or.inr hc_99)]
                refine ⟨rfl, CE_Wk hK4 ?_⟩
                unfold spAsk
                rw [cif_t k_1, cif_t k_9, tF_v M (by decide), tF_v M (by decide), cif_t ⟨hs1, hs2⟩, vw, va, vb, ea]
          · skip
            have hs2 : ¬ Sat (tF M 1) := by
              rcases hpos2 with ⟨e, -⟩ | ⟨-, z⟩
              · rw [e] at hc_38; exact absurd hc_38 (by decide)
              · rw [show wo 33 = 1 from rfl, Wk_tF hK1 (by decide)] at z; exact z
            refine xt_nil (t := 41) rfl ?_
            refine xt_blk rfl rfl (by dsimp only [List.take]) ?_
            refine xt_bim rfl ?_
            refine xt_ri rfl (Nat.le_refl _) ?_
            intro w2 a2 b2 e2
            simp only [List.cons.injEq, Sum.inl.injEq, and_true, true_and] at e2
            obtain ⟨rfl, rfl, rfl⟩ := e2
            refine ⟨rfl, CE_Wk hK2 ?_⟩
            unfold spAsk
            rw [cif_t k_1, cif_t k_9, tF_v M (by decide), tF_v M (by decide), cif_f (fun q => hs2 q.2)]
      · skip
        have k_9 := k_no h_c9 hc_12
        refine xt_nil (t := 15) rfl ?_
        refine xt_blk rfl rfl (by dsimp only [List.take]) ?_
        refine xt_aln0 rfl (by first | decide | omega | assumption | (have := isWy_lt hw; omega)) ?_
        refine xt_icm rfl ?_
        refine xt_v2 (key := 172) (q := q_X6_refuse) rfl rfl rfl rfl rfl ⟨Nat.le_of_ble_eq_true rfl, Nat.le_of_ble_eq_true rfl⟩ ⟨1, by decide, by decide, rfl, rfl⟩ (fun rv_ S1 M_17 hq_17 => ?_)
        obtain ⟨eS_, eM_, rfl⟩ := hq_17 1 (by decide) (by decide) rfl
        replace eS_ := eS_.symm
        replace eM_ := eM_.symm
        subst eS_ eM_
        try dsimp only [Option.toList, List.cons_append, List.nil_append]
        refine xt_ri rfl (Nat.le_refl _) ?_
        intro w2 a2 b2 e2
        simp only [List.cons.injEq, Sum.inl.injEq, and_true, true_and] at e2
        obtain ⟨rfl, rfl, rfl⟩ := e2
        refine ⟨rfl, CE_R ?_⟩
        unfold spAsk
        rw [cif_t k_1, cif_f k_9]
  · intro μ pc ls st S2 M2 cs sl h; exact h.elim
def q_X6_isMisfit : x_K := (2, fun as S M => ∃ (i c : Nat), i < nN M ∧ CI c M ∧ S = SH ∧ as = [.inr (.inl 0), .inl (nI i)], fun as S M rv_ S' M' => ∀ (i : Nat), i < nN M → nN M ≤ 30 → as = [.inr (.inl 0), .inl (nI i)] → S' = S ∧ M' = M ∧ ((msf (vM M) i ∧ rv_ = some (.inl (nI 1))) ∨ (¬ msf (vM M) i ∧ rv_ = some (.inl (nI 0)))), 0, 0)
theorem r_X6_isMisfit : ∀ as S M, q_X6_isMisfit.2.1 as S M → ∃ (k : Nat) (as' : List x_V) (fs : List (Option Nat)), as = .inr (.inl k) :: as' ∧ S[k]? = some (.inl (4, fs)) := by
  rintro as S M ⟨i, c, -, -, rfl, rfl⟩
  exact ⟨0, _, _, rfl, rfl⟩
def b_X6_isMisfit : x_B := [(0, 2, [(.aload_n 0, 1), (.getfield 10, 3), (.iload_n 1, 1), (.invokevirtual 99, 3), (.istore_n 2, 1), (.aload_n 0, 1), (.getfield 10, 3), (.iload_n 1, 1), (.invokevirtual 102, 3), (.istore_n 3, 1), (.aload_n 0, 1), (.getfield 10, 3), (.iload_n 1, 1), (.invokevirtual 108, 3), (.ifCond .eq 15, 3), (.aload_n 0, 1), (.getfield 34, 3), (.iload_n 2, 1), (.iload_n 3, 1), (.invokevirtual 164, 3), (.ifCond .ne 5, 3)]),
  (41, 4, [(.iconst 0, 1), (.ireturn, 1)]),
  (43, 4, [(.aload_n 0, 1), (.getfield 34, 3), (.iload_n 2, 1), (.iload_n 3, 1), (.aload_n 0, 1), (.getfield 10, 3), (.iload_n 1, 1), (.iconst 0, 1), (.invokevirtual 105, 3), (.aload_n 0, 1), (.getfield 10, 3), (.iload_n 1, 1), (.iconst 1, 1), (.invokevirtual 105, 3), (.invokevirtual 170, 3), (.ifCond .ne 7, 3), (.iconst 1, 1), (.goto 4, 3)]),
  (77, 4, [(.iconst 0, 1)]),
  (78, 4, [(.ireturn, 1)])]
theorem b_X6_isMisfit_ok : x_okB cX6_isMisfit 4 b_X6_isMisfit = true := by decide +kernel
def X_X6_isMisfit : x_X := ([(10, 4, 0), (34, 4, 3)], [], [], [], [(298, q_X4_firstOf), (307, q_X4_secondOf), (325, q_X4_isTold), (493, q_X0_haveBoth), (316, q_X4_setOf), (511, q_X0_agree)], (0, 0), x_kn, x_kf, 5, false)
theorem X_X6_isMisfit_ok : x_okT RX6 X_X6_isMisfit = true := by decide +kernel
theorem k_X6_isMisfit (l : Launch) : ∀ z ∈ X_X6_isMisfit.2.2.2.2.1, x_Cal l (x_rm 5 0 0) cX6_isMisfit RX6 4 z.1 z.2 := List.forall_mem_cons.mpr ⟨x_cal_V (idx := 99) (ci := 2) (n := 1) (c_X4_firstOf l) ⟨by decide, by decide⟩ (by decide +kernel) (by decide +kernel) (by decide +kernel) (by decide +kernel) (by decide +kernel) rfl rfl rfl (by decide +kernel) r_X4_firstOf, List.forall_mem_cons.mpr ⟨x_cal_V (idx := 102) (ci := 2) (n := 1) (c_X4_secondOf l) ⟨by decide, by decide⟩ (by decide +kernel) (by decide +kernel) (by decide +kernel) (by decide +kernel) (by decide +kernel) rfl rfl rfl (by decide +kernel) r_X4_secondOf, List.forall_mem_cons.mpr ⟨x_cal_V (idx := 108) (ci := 2) (n := 1) (c_X4_isTold l) ⟨by decide, by decide⟩ (by decide +kernel) (by decide +kernel) (by decide +kernel) (by decide +kernel) (by decide +kernel) rfl rfl rfl (by decide +kernel) r_X4_isTold, List.forall_mem_cons.mpr ⟨x_cal_V (idx := 164) (ci := 0) (n := 2) (c_X0_haveBoth l) ⟨by decide, by decide⟩ (by decide +kernel) (by decide +kernel) (by decide +kernel) (by decide +kernel) (by decide +kernel) rfl rfl rfl (by decide +kernel) r_X0_haveBoth, List.forall_mem_cons.mpr ⟨x_cal_V (idx := 105) (ci := 2) (n := 2) (c_X4_setOf l) ⟨by decide, by decide⟩ (by decide +kernel) (by decide +kernel) (by decide +kernel) (by decide +kernel) (by decide +kernel) rfl rfl rfl (by decide +kernel) r_X4_setOf, List.forall_mem_cons.mpr ⟨x_cal_V (idx := 170) (ci := 0) (n := 4) (c_X0_agree l) ⟨by decide, by decide⟩ (by decide +kernel) (by decide +kernel) (by decide +kernel) (by decide +kernel) (by decide +kernel) rfl rfl rfl (by decide +kernel) r_X0_agree, fun _ h => absurd h List.not_mem_nil⟩⟩⟩⟩⟩⟩
set_option maxHeartbeats 4000000 in
set_option maxRecDepth 100000 in
theorem c_X6_isMisfit (l : Launch) : x_CT l yX6_isMisfit cX6_isMisfit 4 (some .boolean) 5 q_X6_isMisfit := by
  refine x_meth (X := X_X6_isMisfit) (bl := b_X6_isMisfit) (cut := []) (own := RX6) 30 (by decide) rfl X_X6_isMisfit_ok b_X6_isMisfit_ok rfl (Nat.le_of_ble_eq_true rfl) (k_X6_isMisfit l) ?_
  rintro as S M - ⟨i, c, hi, hci, rfl, rfl⟩
  have hok := hci.1.1.2.1
  have hV := hci.2
  have hn30 := hok.1
  obtain ⟨hA, hB, hAB, hS0, eA, eB, eS0⟩ := hok.2.2 0 (by decide) i hi
  obtain ⟨-, -, -, hS1, -, -, eS1⟩ := hok.2.2 1 (by decide) i hi
  refine ⟨fun _ _ _ _ _ _ _ _ => False, ?_, ?_⟩
  · skip
    refine xt_blk rfl rfl (by dsimp only [List.take]) ?_
    refine xt_aln0 rfl (by first | decide | omega | assumption | (have := isWy_lt hw; omega)) ?_
    refine xt_gfr (q := (4, 0)) rfl (by first | rfl | assumption) rfl ?_
    refine xt_iln1 rfl ?_
    refine xt_v2 (key := 298) (q := q_X4_firstOf) rfl rfl rfl rfl rfl ⟨Nat.le_of_ble_eq_true rfl, Nat.le_of_ble_eq_true rfl⟩ ⟨i, by omega, rfl, rfl⟩ (fun rv_ S1 M_5 hq_5 => ?_)
    obtain ⟨eS_, eM_, rfl⟩ := hq_5 i (by omega) rfl
    replace eS_ := eS_.symm
    replace eM_ := eM_.symm
    subst eS_ eM_
    rw [eA]
    try dsimp only [Option.toList, List.cons_append, List.nil_append]
    refine xt_isn2 rfl (by dsimp only [x_sto]) ?_
    refine xt_aln0 rfl (by first | decide | omega | assumption | (have := isWy_lt hw; omega)) ?_
    refine xt_gfr (q := (4, 0)) rfl (by first | rfl | assumption) rfl ?_
    refine xt_iln1 rfl ?_
    refine xt_v2 (key := 307) (q := q_X4_secondOf) rfl rfl rfl rfl rfl ⟨Nat.le_of_ble_eq_true rfl, Nat.le_of_ble_eq_true rfl⟩ ⟨i, by omega, rfl, rfl⟩ (fun rv_ S1 M_14 hq_14 => ?_)
    obtain ⟨eS_, eM_, rfl⟩ := hq_14 i (by omega) rfl
    replace eS_ := eS_.symm
    replace eM_ := eM_.symm
    subst eS_ eM_
    rw [eB]
    try dsimp only [Option.toList, List.cons_append, List.nil_append]
    refine xt_isn3 rfl (by dsimp only [x_sto]) ?_
    refine xt_aln0 rfl (by first | decide | omega | assumption | (have := isWy_lt hw; omega)) ?_
    refine xt_gfr (q := (4, 0)) rfl (by first | rfl | assumption) rfl ?_
    refine xt_iln1 rfl ?_
    refine xt_v2 (key := 325) (q := q_X4_isTold) rfl rfl rfl rfl rfl ⟨Nat.le_of_ble_eq_true rfl, Nat.le_of_ble_eq_true rfl⟩ ⟨i, by omega, rfl, hV.2.1, rfl⟩ (fun rv_ S1 M_23 hq_23 => ?_)
    obtain ⟨eS_, eM_, rfl⟩ := hq_23 i (by omega) rfl
    replace eS_ := eS_.symm
    replace eM_ := eM_.symm
    subst eS_ eM_
    try dsimp only [Option.toList, List.cons_append, List.nil_append]
    refine xt_eq (t := 41) rfl (fun hc_26 => ?_) (fun hc_26 => ?_)
    · skip
      refine xt_blk rfl rfl (by dsimp only [List.take]) ?_
      refine xt_ic ?_
      refine xt_rz (by decide) rfl (Nat.le_refl _) ?_
      intro i2 hi2 hn2 e2
      simp only [List.cons.injEq, Sum.inl.injEq, and_true, true_and] at e2
      rw [nI_eq (by omega) (by omega)] at e2
      subst e2
      exact ⟨rfl, rfl, Or.inr ⟨fun q => q.1 hc_26, rfl⟩⟩
    · skip
      refine xt_aln0 rfl (by first | decide | omega | assumption | (have := isWy_lt hw; omega)) ?_
      refine xt_gfr (q := (4, 3)) rfl (by first | rfl | assumption) rfl ?_
      refine xt_iln2 rfl ?_
      refine xt_iln3 rfl ?_
      refine xt_v3 (key := 493) (q := q_X0_haveBoth) rfl rfl rfl rfl rfl ⟨Nat.le_of_ble_eq_true rfl, Nat.le_of_ble_eq_true rfl⟩ ⟨nA M i, nB M i, hA, hB, rfl, rfl⟩ (fun rv_ S1 M_35 hq_35 => ?_)
      obtain ⟨eS_, eM_, rfl⟩ := hq_35 (nA M i) (nB M i) hA hB rfl
      replace eS_ := eS_.symm
      replace eM_ := eM_.symm
      subst eS_ eM_
      try dsimp only [Option.toList, List.cons_append, List.nil_append]
      refine xt_ne (t := 43) rfl (fun hc_38 => ?_) (fun hc_38 => ?_)
      · skip
        refine xt_blk rfl rfl (by dsimp only [List.take]) ?_
        refine xt_aln0 rfl (by first | decide | omega | assumption | (have := isWy_lt hw; omega)) ?_
        refine xt_gfr (q := (4, 3)) rfl (by first | rfl | assumption) rfl ?_
        refine xt_iln2 rfl ?_
        refine xt_iln3 rfl ?_
        refine xt_aln0 rfl (by first | decide | omega | assumption | (have := isWy_lt hw; omega)) ?_
        refine xt_gfr (q := (4, 0)) rfl (by first | rfl | assumption) rfl ?_
        refine xt_iln1 rfl ?_
        refine xt_ic ?_
        refine xt_v3 (key := 316) (q := q_X4_setOf) rfl rfl rfl rfl rfl ⟨Nat.le_of_ble_eq_true rfl, Nat.le_of_ble_eq_true rfl⟩ ⟨i, 0, by omega, by decide, rfl, rfl⟩ (fun rv_ S1 M_55 hq_55 => ?_)
        obtain ⟨eS_, eM_, rfl⟩ := hq_55 i 0 (by omega) (by decide) rfl
        replace eS_ := eS_.symm
        replace eM_ := eM_.symm
        subst eS_ eM_
        rw [eS0]
        try dsimp only [Option.toList, List.cons_append, List.nil_append]
        refine xt_aln0 rfl (by first | decide | omega | assumption | (have := isWy_lt hw; omega)) ?_
        refine xt_gfr (q := (4, 0)) rfl (by first | rfl | assumption) rfl ?_
        refine xt_iln1 rfl ?_
        refine xt_ic ?_
        refine xt_v3 (key := 316) (q := q_X4_setOf) rfl rfl rfl rfl rfl ⟨Nat.le_of_ble_eq_true rfl, Nat.le_of_ble_eq_true rfl⟩ ⟨i, 1, by omega, by decide, rfl, rfl⟩ (fun rv_ S1 M_64 hq_64 => ?_)
        obtain ⟨eS_, eM_, rfl⟩ := hq_64 i 1 (by omega) (by decide) rfl
        replace eS_ := eS_.symm
        replace eM_ := eM_.symm
        subst eS_ eM_
        rw [eS1]
        try dsimp only [Option.toList, List.cons_append, List.nil_append]
        refine xt_v5 (key := 511) (q := q_X0_agree) rfl rfl rfl rfl rfl ⟨Nat.le_of_ble_eq_true rfl, Nat.le_of_ble_eq_true rfl⟩ ⟨nA M i, nB M i, nS M 0 i, nS M 1 i, hA, hB, hS0, hS1, rfl, rfl⟩ (fun rv_ S1 M_67 hq_67 => ?_)
        obtain ⟨eS_, eM_, rfl⟩ := hq_67 (nA M i) (nB M i) (nS M 0 i) (nS M 1 i) hA hB hS0 hS1 rfl
        replace eS_ := eS_.symm
        replace eM_ := eM_.symm
        subst eS_ eM_
        try dsimp only [Option.toList, List.cons_append, List.nil_append]
        refine xt_ne (t := 77) rfl (fun hc_70 => ?_) (fun hc_70 => ?_)
        · skip
          refine xt_blk rfl rfl (by dsimp only [List.take]) ?_
          refine xt_ic ?_
          refine xt_nil (t := 78) rfl ?_
          refine xt_blk rfl rfl (by dsimp only [List.take]) ?_
          refine xt_rz (by decide) rfl (Nat.le_refl _) ?_
          intro i2 hi2 hn2 e2
          simp only [List.cons.injEq, Sum.inl.injEq, and_true, true_and] at e2
          rw [nI_eq (by omega) (by omega)] at e2
          subst e2
          have hbo : M 42 (nA M i) ≠ 0 ∧ M 42 (nB M i) ≠ 0 := by
            by_cases q : M 42 (nA M i) ≠ 0 ∧ M 42 (nB M i) ≠ 0
            · exact q
            · rw [if_neg q] at hc_38; exact absurd rfl hc_38
          refine ⟨rfl, rfl, Or.inr ⟨fun q => q.2.2.2 ?_, rfl⟩⟩
          by_cases q2 : bi (nS M 0 i) (bxr M 0 (nA M i) (nB M i)) = 1 ∧ bi (nS M 1 i) (bxr M 1 (nA M i) (nB M i)) = 1
          · exact q2
          · rw [if_neg q2] at hc_70; exact absurd rfl hc_70
        · skip
          refine xt_ic ?_
          refine xt_goto (t := 78) rfl ?_
          refine xt_blk rfl rfl (by dsimp only [List.take]) ?_
          refine xt_rz (by decide) rfl (Nat.le_refl _) ?_
          intro i2 hi2 hn2 e2
          simp only [List.cons.injEq, Sum.inl.injEq, and_true, true_and] at e2
          rw [nI_eq (by omega) (by omega)] at e2
          subst e2
          have hbo : M 42 (nA M i) ≠ 0 ∧ M 42 (nB M i) ≠ 0 := by
            by_cases q : M 42 (nA M i) ≠ 0 ∧ M 42 (nB M i) ≠ 0
            · exact q
            · rw [if_neg q] at hc_38; exact absurd rfl hc_38
          refine ⟨rfl, rfl, Or.inl ⟨⟨hc_26, hbo.1, hbo.2, fun q2 => ?_⟩, rfl⟩⟩
          rw [if_pos (show bi (nS M 0 i) (bxr M 0 (nA M i) (nB M i)) = 1 ∧ bi (nS M 1 i) (bxr M 1 (nA M i) (nB M i)) = 1 from q2)] at hc_70
          exact absurd hc_70 (by decide)
      · skip
        refine xt_nil (t := 41) rfl ?_
        refine xt_blk rfl rfl (by dsimp only [List.take]) ?_
        refine xt_ic ?_
        refine xt_rz (by decide) rfl (Nat.le_refl _) ?_
        intro i2 hi2 hn2 e2
        simp only [List.cons.injEq, Sum.inl.injEq, and_true, true_and] at e2
        rw [nI_eq (by omega) (by omega)] at e2
        subst e2
        refine ⟨rfl, rfl, Or.inr ⟨fun q => ?_, rfl⟩⟩
        rw [if_pos (show M 42 (nA M i) ≠ 0 ∧ M 42 (nB M i) ≠ 0 from ⟨q.2.1, q.2.2.1⟩)] at hc_38
        exact absurd hc_38 (by decide)
  · intro μ pc ls st S2 M2 cs sl h; exact h.elim
def q_X6_fits : x_K := (1, fun as S M => ∃  (c : Nat), CI c M ∧ S = SH ∧ as = [.inr (.inl 0)], fun as S M rv_ S' M' => as = [.inr (.inl 0)] → S' = S ∧ CEnd M M' rv_ (spFits (vM M)), 0, 0)
theorem r_X6_fits : ∀ as S M, q_X6_fits.2.1 as S M → ∃ (k : Nat) (as' : List x_V) (fs : List (Option Nat)), as = .inr (.inl k) :: as' ∧ S[k]? = some (.inl (4, fs)) := by
  rintro as S M ⟨c, -, rfl, rfl⟩
  exact ⟨0, _, _, rfl, rfl⟩
def b_X6_fits : x_B := [(0, 1, [(.iconst 0, 1), (.istore_n 1, 1), (.iconst 0, 1), (.istore_n 2, 1)]),
  (4, 3, [(.iload_n 2, 1), (.aload_n 0, 1), (.getfield 10, 3), (.invokevirtual 174, 3), (.if_icmp .ge 20, 3), (.aload_n 0, 1), (.iload_n 2, 1), (.invokevirtual 177, 3), (.ifCond .eq 6, 3), (.iinc 1 1, 3)]),
  (26, 3, [(.iinc 2 1, 3), (.goto (-25), 3)]),
  (32, 3, [(.iload_n 1, 1), (.ireturn, 1)])]
theorem b_X6_fits_ok : x_okB cX6_fits 3 b_X6_fits = true := by decide +kernel
def X_X6_fits : x_X := ([(10, 4, 0)], [], [], [], [(523, q_X4_size), (532, q_X6_isMisfit)], (0, 0), x_kn, x_kf, 5, false)
theorem X_X6_fits_ok : x_okT RX6 X_X6_fits = true := by decide +kernel
theorem k_X6_fits (l : Launch) : ∀ z ∈ X_X6_fits.2.2.2.2.1, x_Cal l (x_rm 6 0 0) cX6_fits RX6 3 z.1 z.2 := List.forall_mem_cons.mpr ⟨x_cal_V (idx := 174) (ci := 2) (n := 0) (c_X4_size l) ⟨by decide, by decide⟩ (by decide +kernel) (by decide +kernel) (by decide +kernel) (by decide +kernel) (by decide +kernel) rfl rfl rfl (by decide +kernel) r_X4_size, List.forall_mem_cons.mpr ⟨x_cal_V (idx := 177) (ci := 4) (n := 1) (c_X6_isMisfit l) ⟨by decide, by decide⟩ (by decide +kernel) (by decide +kernel) (by decide +kernel) (by decide +kernel) (by decide +kernel) rfl rfl rfl (by decide +kernel) r_X6_isMisfit, fun _ h => absurd h List.not_mem_nil⟩⟩
set_option maxHeartbeats 4000000 in
set_option maxRecDepth 100000 in
theorem c_X6_fits (l : Launch) : x_CT l yX6_fits cX6_fits 3 (some .int) 6 q_X6_fits := by
  refine x_meth (X := X_X6_fits) (bl := b_X6_fits) (cut := [4]) (own := RX6) 30 (by decide) rfl X_X6_fits_ok b_X6_fits_ok rfl (Nat.le_of_ble_eq_true rfl) (k_X6_fits l) ?_
  rintro as S M - ⟨c, hci, rfl, rfl⟩
  have hok := hci.1.1.2.1
  have hV := hci.2
  refine ⟨fun μ pc ls st S' M' cs sl => ∃ (i : Nat), i ≤ nN M ∧ pc = 4 ∧ st = [] ∧ S' = SH ∧ M' = M ∧ cs = 0 ∧ sl = 0 ∧ ls = [.inr (.inl 0), .inl (nI (fit (vM M) i)), .inl (nI i)] ∧ μ = nN M - i, ?_, ?_⟩
  · skip
    refine xt_blk rfl rfl (by dsimp only [List.take]) ?_
    refine xt_ic ?_
    refine xt_isn1 rfl (by dsimp only [x_sto]) ?_
    refine xt_ic ?_
    refine xt_isn2 rfl (by dsimp only [x_sto]) ?_
    refine xt_nil (t := 4) rfl ?_
    refine xt_cut rfl rfl (by dsimp only [List.take]) ?_
    exact ⟨nN M - 0, 0, by omega, rfl, rfl, rfl, rfl, rfl, rfl, rfl, rfl⟩
  · rintro μ pc ls st S2 M2 cs sl (⟨i, hi0, rfl, rfl, rfl, rfl, rfl, rfl, rfl, rfl⟩)
    · refine ⟨_, rfl, ?_⟩
      refine xt_iln2 rfl ?_
      refine xt_aln0 rfl (by first | decide | omega | assumption | (have := isWy_lt hw; omega)) ?_
      refine xt_gfr (q := (4, 0)) rfl (by first | rfl | assumption) rfl ?_
      refine xt_v1 (key := 523) (q := q_X4_size) rfl rfl rfl rfl rfl ⟨Nat.le_of_ble_eq_true rfl, Nat.le_of_ble_eq_true rfl⟩ ⟨rfl, rfl⟩ (fun rv_ S1 M_9 hq_9 => ?_)
      obtain ⟨eS_, eM_, rfl⟩ := hq_9 rfl
      replace eS_ := eS_.symm
      replace eM_ := eM_.symm
      subst eS_ eM_
      try dsimp only [Option.toList, List.cons_append, List.nil_append]
      refine xt_cge (t := 32) rfl (fun hc_12 => ?_) (fun hc_12 => ?_)
      · skip
        refine xt_blk rfl rfl (by dsimp only [List.take]) ?_
        refine xt_iln1 rfl ?_
        refine xt_ri rfl (Nat.le_refl _) ?_
        intro e2
        have hi : i = nN M2 := by rw [hok.2.1, nI_leI (by have := hok.1; omega) (by have := hok.1; omega)] at hc_12; omega
        subst hi
        exact ⟨rfl, CE_M rfl⟩
      · skip
        have hi : i < nN M2 := by rw [hok.2.1, nI_leI (by have := hok.1; omega) (by have := hok.1; omega)] at hc_12; omega
        refine xt_aln0 rfl (by first | decide | omega | assumption | (have := isWy_lt hw; omega)) ?_
        refine xt_iln2 rfl ?_
        refine xt_v2 (key := 532) (q := q_X6_isMisfit) rfl rfl rfl rfl rfl ⟨Nat.le_of_ble_eq_true rfl, Nat.le_of_ble_eq_true rfl⟩ ⟨i, c, hi, hci, rfl, rfl⟩ (fun rv_ S1 M_17 hq_17 => ?_)
        obtain ⟨eS_, eM_, h_m⟩ := hq_17 i hi hok.1 rfl
        replace eS_ := eS_.symm
        replace eM_ := eM_.symm
        subst eS_ eM_
        have hex_m : ∃ v, rv_ = some (.inl v) := by rcases h_m with ⟨-, e⟩ | ⟨-, e⟩ <;> exact ⟨_, e⟩
        obtain ⟨v_m, rfl⟩ := hex_m
        simp only [Option.some.injEq, Sum.inl.injEq] at h_m
        try dsimp only [Option.toList, List.cons_append, List.nil_append]
        refine xt_eq (t := 26) rfl (fun hc_20 => ?_) (fun hc_20 => ?_)
        · skip
          refine xt_blk rfl rfl (by dsimp only [List.take]) ?_
          refine xt_inc rfl (by dsimp only [x_sto]) ?_
          refine xt_goto (t := 4) rfl ?_
          refine xt_cut rfl rfl (by dsimp only [List.take]) ?_
          have hm := k_no h_m hc_20
          exact ⟨nN M2 - (i + 1), by omega, i + 1, by omega, rfl, rfl, rfl, rfl, rfl, rfl, by rw [show fit (vM M2) (i + 1) = fit (vM M2) i from cif_f hm, nI_add], rfl⟩
        · skip
          refine xt_inc rfl (by dsimp only [x_sto]) ?_
          refine xt_nil (t := 26) rfl ?_
          refine xt_blk rfl rfl (by dsimp only [List.take]) ?_
          refine xt_inc rfl (by dsimp only [x_sto]) ?_
          refine xt_goto (t := 4) rfl ?_
          refine xt_cut rfl rfl (by dsimp only [List.take]) ?_
          have hm := k_yes h_m hc_20
          exact ⟨nN M2 - (i + 1), by omega, i + 1, by omega, rfl, rfl, rfl, rfl, rfl, rfl, by rw [show fit (vM M2) (i + 1) = fit (vM M2) i + 1 from cif_t hm, nI_add, nI_add], rfl⟩
