/-! THE REFERENCE: ask, fits, count -/
theorem CanV_sat {f : Nat → Nat} {a b v : Nat} (h : CanV f a b v) (h0 : v ≠ 0) : Sat f := by
  obtain ⟨r, hr, hb⟩ := tb_ex h.1 h0
  exact Rl_sat ((h.2 r hr).mp hb)
def WA (V : x_M) (wn v : Nat) : Nat := nv (V (44 + wn) v)
theorem aska_eq (V : x_M) (w a b : Nat) : aska V w a b = cif (caF (tF V 0) a b &&& WA V w 0 = 0 ∨ caF (tF V 1) a b &&& WA V w 1 = 0) (nI 0) (cif (caF (tF V 0) a b &&& WA V w 0 = caF (tF V 0) a b ∧ caF (tF V 1) a b &&& WA V w 1 = caF (tF V 1) a b) (nI 1) (nI 2)) := rfl
def foP (V : x_M) (wn an bn n : Nat) : Prop := ∀ v, v < n → caF (tF V v) an bn &&& WA V wn v = caF (tF V v) an bn
def maP (V : x_M) (wn an bn n : Nat) : Prop := ∀ v, v < n → ¬ caF (tF V v) an bn &&& WA V wn v = 0
theorem fo_s {V : x_M} {wn an bn n : Nat} : foP V wn an bn (n + 1) ↔ foP V wn an bn n ∧ caF (tF V n) an bn &&& WA V wn n = caF (tF V n) an bn :=
  ⟨fun h => ⟨fun v hv => h v (by omega), h n (by omega)⟩, fun h v hv => by
    by_cases e : v = n
    · subst e; exact h.2
    · exact h.1 v (by omega)⟩
theorem ma_s {V : x_M} {wn an bn n : Nat} : maP V wn an bn (n + 1) ↔ maP V wn an bn n ∧ ¬ caF (tF V n) an bn &&& WA V wn n = 0 :=
  ⟨fun h => ⟨fun v hv => h v (by omega), h n (by omega)⟩, fun h v hv => by
    by_cases e : v = n
    · subst e; exact h.2
    · exact h.1 v (by omega)⟩
def q_X7_ask : x_K := (4, fun as S M => ∃ (w : Int32) (a : Int32) (b : Int32) (c : Nat), RI c M ∧ S = SH ∧ as = [.inr (.inl 53), .inl w, .inl a, .inl b], fun as S M rv_ S' M' => ∀ (w : Int32) (a : Int32) (b : Int32), as = [.inr (.inl 53), .inl w, .inl a, .inl b] → S' = S ∧ REnd M M' rv_ (spAsk (cM M) w a b), 0, 0)
theorem r_X7_ask : ∀ as S M, q_X7_ask.2.1 as S M → ∃ (k : Nat) (as' : List x_V) (fs : List (Option Nat)), as = .inr (.inl k) :: as' ∧ S[k]? = some (.inl (5, fs)) := by
  rintro as S M ⟨w, a, b, c, -, rfl, rfl⟩
  exact ⟨53, _, _, rfl, rfl⟩
def b_X7_ask : x_B := [(0, 4, [(.iload_n 1, 1), (.invokestatic 157, 3), (.ifCond .eq 11, 3), (.iload_n 2, 1), (.iload_n 3, 1), (.invokestatic 108, 3), (.ifCond .ne 9, 3)]),
  (15, 4, [(.aload_n 0, 1), (.iconst (-1), 1), (.invokevirtual 93, 3), (.ireturn, 1)]),
  (21, 4, [(.iconst 1, 1), (.istore 4, 2), (.iconst 1, 1), (.istore 5, 2), (.iconst 0, 1), (.istore 6, 2)]),
  (30, 7, [(.iload 6, 2), (.iconst 2, 1), (.if_icmp .ge 87, 3), (.aload_n 0, 1), (.iload 6, 2), (.iload_n 2, 1), (.iload_n 3, 1), (.invokevirtual 145, 3), (.istore 7, 2), (.iload 7, 2), (.ifCond .ne 6, 3), (.bipush (-9), 2), (.ireturn, 1)]),
  (54, 8, [(.iload 4, 2), (.ifCond .eq 26, 3), (.iload 7, 2), (.aload_n 0, 1), (.getfield 35, 3), (.iconst 2, 1), (.iload_n 1, 1), (.imul, 1), (.iload 6, 2), (.iadd, 1), (.iaload, 1), (.iand, 1), (.iload 7, 2), (.if_icmp .ne 7, 3), (.iconst 1, 1), (.goto 4, 3)]),
  (82, 8, [(.iconst 0, 1)]),
  (83, 8, [(.istore 4, 2), (.iload 5, 2), (.ifCond .eq 24, 3), (.iload 7, 2), (.aload_n 0, 1), (.getfield 35, 3), (.iconst 2, 1), (.iload_n 1, 1), (.imul, 1), (.iload 6, 2), (.iadd, 1), (.iaload, 1), (.iand, 1), (.ifCond .eq 7, 3), (.iconst 1, 1), (.goto 4, 3)]),
  (111, 8, [(.iconst 0, 1)]),
  (112, 8, [(.istore 5, 2), (.iinc 6 1, 3), (.goto (-87), 3)]),
  (120, 7, [(.iload 4, 2), (.ifCond .eq 7, 3), (.iconst 1, 1), (.goto 13, 3)]),
  (129, 7, [(.iload 5, 2), (.ifCond .eq 7, 3), (.iconst 2, 1), (.goto 4, 3)]),
  (138, 7, [(.iconst 0, 1)]),
  (139, 7, [(.ireturn, 1)])]
theorem b_X7_ask_ok : x_okB cX7_ask 8 b_X7_ask = true := by decide +kernel
def X_X7_ask : x_X := ([(35, 5, 9)], [], [], [], [(471, q_X7_isWord), (324, q_X7_areTwo), (280, q_X7_refuse), (436, q_X7_canSet)], (0, 0), x_kn, x_kf, 5, false)
theorem X_X7_ask_ok : x_okT RX7 X_X7_ask = true := by decide +kernel
theorem k_X7_ask (l : Launch) : ∀ z ∈ X_X7_ask.2.2.2.2.1, x_Cal l (x_rm 5 0 0) cX7_ask RX7 8 z.1 z.2 := List.forall_mem_cons.mpr ⟨x_cal_S (idx := 157) (c_X7_isWord l) ⟨by decide, by decide⟩ (by decide +kernel) (by decide +kernel) (by decide +kernel) (by decide +kernel) (by decide +kernel), List.forall_mem_cons.mpr ⟨x_cal_S (idx := 108) (c_X7_areTwo l) ⟨by decide, by decide⟩ (by decide +kernel) (by decide +kernel) (by decide +kernel) (by decide +kernel) (by decide +kernel), List.forall_mem_cons.mpr ⟨x_cal_V (idx := 93) (ci := 5) (n := 1) (c_X7_refuse l) ⟨by decide, by decide⟩ (by decide +kernel) (by decide +kernel) (by decide +kernel) (by decide +kernel) (by decide +kernel) rfl rfl rfl (by decide +kernel) r_X7_refuse, List.forall_mem_cons.mpr ⟨x_cal_V (idx := 145) (ci := 5) (n := 3) (c_X7_canSet l) ⟨by decide, by decide⟩ (by decide +kernel) (by decide +kernel) (by decide +kernel) (by decide +kernel) (by decide +kernel) rfl rfl rfl (by decide +kernel) r_X7_canSet, fun _ h => absurd h List.not_mem_nil⟩⟩⟩⟩
/-- the relations that can be, as a set -/
theorem Can_ex (f : Nat → Nat) (a b : Nat) : ∃ v, CanV f a b v := by
  have h : ∀ n, n ≤ 13 → ∃ v, v < 2 ^ n ∧ ∀ r, r < n → (v.testBit r = true ↔ Rl f a b r) := by
    intro n
    induction n with
    | zero => exact fun _ => ⟨0, by decide, fun r hr => by omega⟩
    | succ n ih =>
      intro hn
      obtain ⟨v, hv, hb⟩ := ih (by omega)
      have hp : 2 ^ n < 2 ^ (n + 1) := Nat.pow_lt_pow_right (by decide) (by omega)
      have h0 : v.testBit n = false := Nat.testBit_lt_two_pow hv
      by_cases q : Rl f a b n
      · refine ⟨v ||| 2 ^ n, Nat.or_lt_two_pow (by omega) hp, fun r hr => ?_⟩
        rw [Nat.testBit_or, Nat.testBit_two_pow]
        by_cases e : r = n
        · subst e; simp [q]
        · have e2 : ¬ n = r := fun x => e x.symm
          simp only [e2, decide_false, Bool.or_false]
          exact hb r (by omega)
      · refine ⟨v, by omega, fun r hr => ?_⟩
        by_cases e : r = n
        · subst e; rw [h0]; exact ⟨fun x => (by cases x), fun x => absurd x q⟩
        · exact hb r (by omega)
  obtain ⟨v, hv, hb⟩ := h 13 (Nat.le_refl _)
  exact ⟨v, hv, hb⟩
theorem caF_ne {f : Nat → Nat} {a b : Nat} (h : Sat f) : caF f a b ≠ 0 := by
  obtain ⟨v, hv⟩ := Can_ex f a b
  rw [← caF_e hv]
  exact CanV_ne h hv
set_option maxHeartbeats 4000000 in
set_option maxRecDepth 100000 in
theorem c_X7_ask (l : Launch) : x_CT l yX7_ask cX7_ask 8 (some .int) 5 q_X7_ask := by
  refine x_meth (X := X_X7_ask) (bl := b_X7_ask) (cut := [30]) (own := RX7) 30 (by decide) rfl X_X7_ask_ok b_X7_ask_ok rfl (Nat.le_of_ble_eq_true rfl) (k_X7_ask l) ?_
  rintro as S M - ⟨w, a, b, c, hRI, rfl, rfl⟩
  have hok := hRI.2.1
  have hV := hRI.2
  have hTb := hRI.1
  refine ⟨fun μ pc ls st S' M' cs sl => ∃ (wn an bn wy fo ma : Nat), wn < 8 ∧ an < 6 ∧ bn < 6 ∧ an ≠ bn ∧ w = nI wn ∧ a = nI an ∧ b = nI bn ∧ wy ≤ 2 ∧ fo < 2 ∧ ma < 2 ∧ Rk M M' ∧ (∀ v, v < wy → Sat (tF (cM M) v)) ∧ (fo = 1 ↔ foP (cM M) wn an bn wy) ∧ (ma = 1 ↔ maP (cM M) wn an bn wy) ∧ pc = 30 ∧ st = [] ∧ S' = SH ∧ cs = 0 ∧ sl = 0 ∧ ls = [.inr (.inl 53), .inl (nI wn), .inl (nI an), .inl (nI bn), .inl (nI fo), .inl (nI ma), .inl (nI wy)] ∧ μ = 2 - wy, ?_, ?_⟩
  · skip
    refine xt_blk rfl rfl (by dsimp only [List.take]) ?_
    refine xt_iln1 rfl ?_
    refine xt_v1 (key := 471) (q := q_X7_isWord) rfl rfl rfl rfl rfl ⟨Nat.le_of_ble_eq_true rfl, Nat.le_of_ble_eq_true rfl⟩ ⟨_, rfl⟩ (fun rv_ S1 M_1 hq_1 => ?_)
    obtain ⟨eS_, eM_, h_c1⟩ := hq_1 _ rfl
    replace eS_ := eS_.symm
    replace eM_ := eM_.symm
    subst eS_ eM_
    have hex_c1 : ∃ v, rv_ = some (.inl v) := by rcases h_c1 with ⟨-, e⟩ | ⟨-, e⟩ <;> exact ⟨_, e⟩
    obtain ⟨v_c1, rfl⟩ := hex_c1
    simp only [Option.some.injEq, Sum.inl.injEq] at h_c1
    try dsimp only [Option.toList, List.cons_append, List.nil_append]
    refine xt_eq (t := 15) rfl (fun hc_4 => ?_) (fun hc_4 => ?_)
    · skip
      have k_1 := k_no h_c1 hc_4
      refine xt_blk rfl rfl (by dsimp only [List.take]) ?_
      refine xt_aln0 rfl (by first | decide | omega | assumption) ?_
      refine xt_icm rfl ?_
      refine xt_v2 (key := 280) (q := q_X7_refuse) rfl rfl rfl rfl rfl ⟨Nat.le_of_ble_eq_true rfl, Nat.le_of_ble_eq_true rfl⟩ ⟨1, by decide, by decide, rfl, rfl⟩ (fun rv_ S1 M_17 hq_17 => ?_)
      obtain ⟨eS_, eM_, rfl⟩ := hq_17 1 (by decide) (by decide) rfl
      replace eS_ := eS_.symm
      replace eM_ := eM_.symm
      subst eS_ eM_
      try dsimp only [Option.toList, List.cons_append, List.nil_append]
      refine xt_ri rfl (Nat.le_refl _) ?_
      intro w2 a2 b2 e2
      simp only [List.cons.injEq, Sum.inl.injEq, and_true, true_and] at e2
      obtain ⟨rfl, rfl, rfl⟩ := e2
      refine ⟨rfl, RE_R ?_⟩
      unfold spAsk
      rw [cif_f k_1]
    · skip
      have k_1 := k_yes h_c1 hc_4
      refine xt_iln2 rfl ?_
      refine xt_iln3 rfl ?_
      refine xt_v2 (key := 324) (q := q_X7_areTwo) rfl rfl rfl rfl rfl ⟨Nat.le_of_ble_eq_true rfl, Nat.le_of_ble_eq_true rfl⟩ ⟨_, _, rfl⟩ (fun rv_ S1 M_9 hq_9 => ?_)
      obtain ⟨eS_, eM_, h_c9⟩ := hq_9 _ _ rfl
      replace eS_ := eS_.symm
      replace eM_ := eM_.symm
      subst eS_ eM_
      have hex_c9 : ∃ v, rv_ = some (.inl v) := by rcases h_c9 with ⟨-, e⟩ | ⟨-, e⟩ <;> exact ⟨_, e⟩
      obtain ⟨v_c9, rfl⟩ := hex_c9
      simp only [Option.some.injEq, Sum.inl.injEq] at h_c9
      try dsimp only [Option.toList, List.cons_append, List.nil_append]
      refine xt_ne (t := 21) rfl (fun hc_12 => ?_) (fun hc_12 => ?_)
      · skip
        have k_9 := k_yes h_c9 hc_12
        obtain ⟨wn, hwn, ewn⟩ := id k_1
        subst ewn
        have vw : nv (nI wn) = wn := nv_nI (by omega)
        obtain ⟨⟨an, han, ean⟩, ⟨bn, hbn, ebn⟩, hab⟩ := id k_9
        subst ean ebn
        have va : nv (nI an) = an := nv_nI (by omega)
        have vb : nv (nI bn) = bn := nv_nI (by omega)
        have hne : an ≠ bn := fun e => hab (by rw [e])
        refine xt_blk rfl rfl (by dsimp only [List.take]) ?_
        refine xt_ic ?_
        refine xt_ist rfl (by dsimp only [x_sto]) ?_
        refine xt_ic ?_
        refine xt_ist rfl (by dsimp only [x_sto]) ?_
        refine xt_ic ?_
        refine xt_ist rfl (by dsimp only [x_sto]) ?_
        refine xt_nil (t := 30) rfl ?_
        refine xt_cut rfl rfl (by dsimp only [List.take]) ?_
        exact ⟨2, wn, an, bn, 0, 1, 1, hwn, han, hbn, hne, rfl, rfl, rfl, by omega, by omega, by omega, Rk_rf M, fun v hv => by omega, ⟨fun _ v hv => by omega, fun _ => rfl⟩, ⟨fun _ v hv => by omega, fun _ => rfl⟩, rfl, rfl, rfl, rfl, rfl, rfl, rfl⟩
      · skip
        have k_9 := k_no h_c9 hc_12
        refine xt_nil (t := 15) rfl ?_
        refine xt_blk rfl rfl (by dsimp only [List.take]) ?_
        refine xt_aln0 rfl (by first | decide | omega | assumption) ?_
        refine xt_icm rfl ?_
        refine xt_v2 (key := 280) (q := q_X7_refuse) rfl rfl rfl rfl rfl ⟨Nat.le_of_ble_eq_true rfl, Nat.le_of_ble_eq_true rfl⟩ ⟨1, by decide, by decide, rfl, rfl⟩ (fun rv_ S1 M_17 hq_17 => ?_)
        obtain ⟨eS_, eM_, rfl⟩ := hq_17 1 (by decide) (by decide) rfl
        replace eS_ := eS_.symm
        replace eM_ := eM_.symm
        subst eS_ eM_
        try dsimp only [Option.toList, List.cons_append, List.nil_append]
        refine xt_ri rfl (Nat.le_refl _) ?_
        intro w2 a2 b2 e2
        simp only [List.cons.injEq, Sum.inl.injEq, and_true, true_and] at e2
        obtain ⟨rfl, rfl, rfl⟩ := e2
        refine ⟨rfl, RE_R ?_⟩
        unfold spAsk
        rw [cif_t k_1, cif_f k_9]
  · rintro μ pc ls st S2 M2 cs sl (⟨wn, an, bn, wy, fo, ma, hwn, han, hbn, hne, rfl, rfl, rfl, hwy, hfo, hma, hRk, hs, hfp, hmp, rfl, rfl, rfl, rfl, rfl, rfl, rfl⟩)
    · refine ⟨_, rfl, ?_⟩
      refine xt_ild rfl ?_
      refine xt_ic ?_
      refine xt_cge (t := 120) rfl (fun hc_33 => ?_) (fun hc_33 => ?_)
      · skip
        refine xt_blk rfl rfl (by dsimp only [List.take]) ?_
        refine xt_ild rfl ?_
        refine xt_eq (t := 129) rfl (fun hc_122 => ?_) (fun hc_122 => ?_)
        · skip
          refine xt_blk rfl rfl (by dsimp only [List.take]) ?_
          refine xt_ild rfl ?_
          refine xt_eq (t := 138) rfl (fun hc_131 => ?_) (fun hc_131 => ?_)
          · skip
            refine xt_blk rfl rfl (by dsimp only [List.take]) ?_
            refine xt_ic ?_
            refine xt_nil (t := 139) rfl ?_
            refine xt_blk rfl rfl (by dsimp only [List.take]) ?_
            refine xt_ri rfl (Nat.le_refl _) ?_
            intro w2 a2 b2 e2
            simp only [List.cons.injEq, Sum.inl.injEq, and_true, true_and] at e2
            obtain ⟨rfl, rfl, rfl⟩ := e2
            have k_w : Th 8 (nI wn) := ⟨wn, hwn, rfl⟩
            have k_t : Two (nI an) (nI bn) := ⟨⟨an, han, rfl⟩, ⟨bn, hbn, rfl⟩, fun e => hne (by rw [nI_eq (by omega) (by omega)] at e; exact e)⟩
            have vw : nv (nI wn) = wn := nv_nI (by omega)
            have va : nv (nI an) = an := nv_nI (by omega)
            have vb : nv (nI bn) = bn := nv_nI (by omega)
            have hy2 : wy = 2 := by rw [nI_leI (by omega) (by omega)] at hc_33; omega
            subst hy2
            have s0 := hs 0 (by decide)
            have s1 := hs 1 (by decide)
            refine ⟨rfl, RE_k hRk ?_⟩
            unfold spAsk
            rw [cif_t k_w, cif_t k_t, cif_t ⟨s0, s1⟩, vw, va, vb]
            have hfo0 : fo = 0 := by rw [n_eq0 (by omega)] at hc_122; exact hc_122
            have hf : ¬ (caF (tF (cM M) 0) an bn &&& WA (cM M) wn 0 = caF (tF (cM M) 0) an bn ∧ caF (tF (cM M) 1) an bn &&& WA (cM M) wn 1 = caF (tF (cM M) 1) an bn) := fun q => by
              have : fo = 1 := hfp.mpr (fun v hv => by
                rcases (show v = 0 ∨ v = 1 by omega) with e | e
                · subst e; exact q.1
                · subst e; exact q.2)
              omega
            have hma0 : ma = 0 := by rw [n_eq0 (by omega)] at hc_131; exact hc_131
            have hm : caF (tF (cM M) 0) an bn &&& WA (cM M) wn 0 = 0 ∨ caF (tF (cM M) 1) an bn &&& WA (cM M) wn 1 = 0 := by
              by_cases q0 : caF (tF (cM M) 0) an bn &&& WA (cM M) wn 0 = 0
              · exact Or.inl q0
              · by_cases q1 : caF (tF (cM M) 1) an bn &&& WA (cM M) wn 1 = 0
                · exact Or.inr q1
                · exfalso
                  have : ma = 1 := hmp.mpr (fun v hv => by
                    rcases (show v = 0 ∨ v = 1 by omega) with e | e
                    · subst e; exact q0
                    · subst e; exact q1)
                  omega
            have ea : aska (cM M) wn an bn = nI 0 := by
              rw [aska_eq]
              rw [cif_t hm]
            rw [ea]
          · skip
            refine xt_ic ?_
            refine xt_goto (t := 139) rfl ?_
            refine xt_blk rfl rfl (by dsimp only [List.take]) ?_
            refine xt_ri rfl (Nat.le_refl _) ?_
            intro w2 a2 b2 e2
            simp only [List.cons.injEq, Sum.inl.injEq, and_true, true_and] at e2
            obtain ⟨rfl, rfl, rfl⟩ := e2
            have k_w : Th 8 (nI wn) := ⟨wn, hwn, rfl⟩
            have k_t : Two (nI an) (nI bn) := ⟨⟨an, han, rfl⟩, ⟨bn, hbn, rfl⟩, fun e => hne (by rw [nI_eq (by omega) (by omega)] at e; exact e)⟩
            have vw : nv (nI wn) = wn := nv_nI (by omega)
            have va : nv (nI an) = an := nv_nI (by omega)
            have vb : nv (nI bn) = bn := nv_nI (by omega)
            have hy2 : wy = 2 := by rw [nI_leI (by omega) (by omega)] at hc_33; omega
            subst hy2
            have s0 := hs 0 (by decide)
            have s1 := hs 1 (by decide)
            refine ⟨rfl, RE_k hRk ?_⟩
            unfold spAsk
            rw [cif_t k_w, cif_t k_t, cif_t ⟨s0, s1⟩, vw, va, vb]
            have hfo0 : fo = 0 := by rw [n_eq0 (by omega)] at hc_122; exact hc_122
            have hf : ¬ (caF (tF (cM M) 0) an bn &&& WA (cM M) wn 0 = caF (tF (cM M) 0) an bn ∧ caF (tF (cM M) 1) an bn &&& WA (cM M) wn 1 = caF (tF (cM M) 1) an bn) := fun q => by
              have : fo = 1 := hfp.mpr (fun v hv => by
                rcases (show v = 0 ∨ v = 1 by omega) with e | e
                · subst e; exact q.1
                · subst e; exact q.2)
              omega
            have hma1 : ma = 1 := by rw [n_eq0 (by omega)] at hc_131; omega
            have hm := hmp.mp hma1
            have ea : aska (cM M) wn an bn = nI 2 := by
              rw [aska_eq]
              rw [cif_f (fun q => by rcases q with q | q; exact hm 0 (by decide) q; exact hm 1 (by decide) q), cif_f hf]
            rw [ea]
        · skip
          refine xt_ic ?_
          refine xt_goto (t := 139) rfl ?_
          refine xt_blk rfl rfl (by dsimp only [List.take]) ?_
          refine xt_ri rfl (Nat.le_refl _) ?_
          intro w2 a2 b2 e2
          simp only [List.cons.injEq, Sum.inl.injEq, and_true, true_and] at e2
          obtain ⟨rfl, rfl, rfl⟩ := e2
          have k_w : Th 8 (nI wn) := ⟨wn, hwn, rfl⟩
          have k_t : Two (nI an) (nI bn) := ⟨⟨an, han, rfl⟩, ⟨bn, hbn, rfl⟩, fun e => hne (by rw [nI_eq (by omega) (by omega)] at e; exact e)⟩
          have vw : nv (nI wn) = wn := nv_nI (by omega)
          have va : nv (nI an) = an := nv_nI (by omega)
          have vb : nv (nI bn) = bn := nv_nI (by omega)
          have hy2 : wy = 2 := by rw [nI_leI (by omega) (by omega)] at hc_33; omega
          subst hy2
          have s0 := hs 0 (by decide)
          have s1 := hs 1 (by decide)
          refine ⟨rfl, RE_k hRk ?_⟩
          unfold spAsk
          rw [cif_t k_w, cif_t k_t, cif_t ⟨s0, s1⟩, vw, va, vb]
          have hfo1 : fo = 1 := by rw [n_eq0 (by omega)] at hc_122; omega
          have hf := hfp.mp hfo1
          have hm : ¬ (caF (tF (cM M) 0) an bn &&& WA (cM M) wn 0 = 0 ∨ caF (tF (cM M) 1) an bn &&& WA (cM M) wn 1 = 0) := by
            rintro (q | q)
            · rw [hf 0 (by decide)] at q
              exact caF_ne s0 q
            · rw [hf 1 (by decide)] at q
              exact caF_ne s1 q
          have ea : aska (cM M) wn an bn = nI 1 := by
            rw [aska_eq]
            rw [cif_f hm, cif_t ⟨hf 0 (by decide), hf 1 (by decide)⟩]
          rw [ea]
      · skip
        have hy2 : wy < 2 := by rw [nI_leI (by omega) (by omega)] at hc_33; omega
        have hRI2 : RI c M2 := ⟨Rk_Tb hRk hTb, by rw [Rk_c hRk]; exact hV⟩
        obtain ⟨on, hon, eo⟩ := hV.2.2.2.1 wn wy hwn hy2
        have eo1 : WA (cM M) wn wy = on := by unfold WA; rw [eo]; exact nv_nI (by omega)
        rw [cM_w M hwn hy2] at eo
        refine xt_aln0 rfl (by first | decide | omega | assumption) ?_
        refine xt_ild rfl ?_
        refine xt_iln2 rfl ?_
        refine xt_iln3 rfl ?_
        refine xt_v4 (key := 436) (q := q_X7_canSet) rfl rfl rfl rfl rfl ⟨Nat.le_of_ble_eq_true rfl, Nat.le_of_ble_eq_true rfl⟩ ⟨wy, an, bn, c, hy2, han, hbn, hne, hRI2, rfl, rfl⟩ (fun rv_ S1 M_41 hq_41 => ?_)
        obtain ⟨eS_, hRk2, z, hz, rfl⟩ := hq_41 wy an bn hy2 han hbn rfl
        replace eS_ := eS_.symm
        subst eS_
        have hRk3 := Rk_tr hRk hRk2
        rw [Rk_c hRk] at hz
        have ez := caF_e hz
        have hzl := hz.1
        have eo2 : M_41 62 (nI 2 * nI wn + nI wy).toNatClampNeg = nI on := by rw [ix2w hwn hy2, hRk3 62 (by decide) (by decide)]; exact eo
        have ezo : nI z &&& nI on = nI (z &&& on) := n_and _ _
        have hzo : z &&& on < 8192 := Nat.lt_of_le_of_lt Nat.and_le_left hzl
        try dsimp only [Option.toList, List.cons_append, List.nil_append]
        refine xt_ist rfl (by dsimp only [x_sto]) ?_
        refine xt_ild rfl ?_
        refine xt_ne (t := 54) rfl (fun hc_48 => ?_) (fun hc_48 => ?_)
        · skip
          refine xt_blk rfl rfl (by dsimp only [List.take]) ?_
          refine xt_ild rfl ?_
          refine xt_eq (t := 82) rfl (fun hc_56 => ?_) (fun hc_56 => ?_)
          · skip
            refine xt_blk rfl rfl (by dsimp only [List.take]) ?_
            refine xt_ic ?_
            refine xt_nil (t := 83) rfl ?_
            refine xt_blk rfl rfl (by dsimp only [List.take]) ?_
            refine xt_ist rfl (by dsimp only [x_sto]) ?_
            refine xt_ild rfl ?_
            refine xt_eq (t := 111) rfl (fun hc_87 => ?_) (fun hc_87 => ?_)
            · skip
              refine xt_blk rfl rfl (by dsimp only [List.take]) ?_
              refine xt_ic ?_
              refine xt_nil (t := 112) rfl ?_
              refine xt_blk rfl rfl (by dsimp only [List.take]) ?_
              refine xt_ist rfl (by dsimp only [x_sto]) ?_
              refine xt_inc rfl (by dsimp only [x_sto]) ?_
              refine xt_goto (t := 30) rfl ?_
              refine xt_cut rfl rfl (by dsimp only [List.take]) ?_
              have hz0 : z ≠ 0 := by rw [n_eq0 (by omega)] at hc_48; exact hc_48
              have hs1 : ∀ v, v < wy + 1 → Sat (tF (cM M) v) := fun v hv => by
                by_cases e : v = wy
                · subst e; exact CanV_sat hz hz0
                · exact hs v (by omega)
              have hfo0 : fo = 0 := by rw [n_eq0 (by omega)] at hc_56; exact hc_56
              have hF : (0 : Nat) = 1 ↔ foP (cM M) wn an bn (wy + 1) := ⟨fun h => by omega, fun h => by have := hfp.mpr (fo_s.mp h).1; omega⟩
              have hma0 : ma = 0 := by rw [n_eq0 (by omega)] at hc_87; exact hc_87
              have hA : (0 : Nat) = 1 ↔ maP (cM M) wn an bn (wy + 1) := ⟨fun h => by omega, fun h => by have := hmp.mpr (ma_s.mp h).1; omega⟩
              exact ⟨2 - (wy + 1), by omega, wn, an, bn, wy + 1, 0, 0, hwn, han, hbn, hne, rfl, rfl, rfl, by omega, by omega, by omega, hRk3, hs1, hF, hA, rfl, rfl, rfl, rfl, rfl, by rw [nI_add], rfl⟩
            · skip
              refine xt_ild rfl ?_
              refine xt_aln0 rfl (by first | decide | omega | assumption) ?_
              refine xt_gfr (q := (5, 9)) rfl (by first | rfl | assumption) rfl ?_
              refine xt_ic ?_
              refine xt_iln1 rfl ?_
              refine xt_mul ?_
              refine xt_ild rfl ?_
              refine xt_add ?_
              refine xt_ial (by first | rfl | assumption) (vx2w hwn hy2) ?_
              refine xt_and ?_
              refine xt_eq (t := 111) rfl (fun hc_104 => ?_) (fun hc_104 => ?_)
              · skip
                refine xt_blk rfl rfl (by dsimp only [List.take]) ?_
                refine xt_ic ?_
                refine xt_nil (t := 112) rfl ?_
                refine xt_blk rfl rfl (by dsimp only [List.take]) ?_
                refine xt_ist rfl (by dsimp only [x_sto]) ?_
                refine xt_inc rfl (by dsimp only [x_sto]) ?_
                refine xt_goto (t := 30) rfl ?_
                refine xt_cut rfl rfl (by dsimp only [List.take]) ?_
                have hz0 : z ≠ 0 := by rw [n_eq0 (by omega)] at hc_48; exact hc_48
                have hs1 : ∀ v, v < wy + 1 → Sat (tF (cM M) v) := fun v hv => by
                  by_cases e : v = wy
                  · subst e; exact CanV_sat hz hz0
                  · exact hs v (by omega)
                have hfo0 : fo = 0 := by rw [n_eq0 (by omega)] at hc_56; exact hc_56
                have hF : (0 : Nat) = 1 ↔ foP (cM M) wn an bn (wy + 1) := ⟨fun h => by omega, fun h => by have := hfp.mpr (fo_s.mp h).1; omega⟩
                have hma1 : ma = 1 := by rw [n_eq0 (by omega)] at hc_87; omega
                rw [eo2, ezo, n_eq0 (by omega)] at hc_104
                have hA : (0 : Nat) = 1 ↔ maP (cM M) wn an bn (wy + 1) := ⟨fun h => by omega, fun h => by have := (ma_s.mp h).2; rw [← ez, eo1] at this; exact absurd hc_104 this⟩
                exact ⟨2 - (wy + 1), by omega, wn, an, bn, wy + 1, 0, 0, hwn, han, hbn, hne, rfl, rfl, rfl, by omega, by omega, by omega, hRk3, hs1, hF, hA, rfl, rfl, rfl, rfl, rfl, by rw [nI_add], rfl⟩
              · skip
                refine xt_ic ?_
                refine xt_goto (t := 112) rfl ?_
                refine xt_blk rfl rfl (by dsimp only [List.take]) ?_
                refine xt_ist rfl (by dsimp only [x_sto]) ?_
                refine xt_inc rfl (by dsimp only [x_sto]) ?_
                refine xt_goto (t := 30) rfl ?_
                refine xt_cut rfl rfl (by dsimp only [List.take]) ?_
                have hz0 : z ≠ 0 := by rw [n_eq0 (by omega)] at hc_48; exact hc_48
                have hs1 : ∀ v, v < wy + 1 → Sat (tF (cM M) v) := fun v hv => by
                  by_cases e : v = wy
                  · subst e; exact CanV_sat hz hz0
                  · exact hs v (by omega)
                have hfo0 : fo = 0 := by rw [n_eq0 (by omega)] at hc_56; exact hc_56
                have hF : (0 : Nat) = 1 ↔ foP (cM M) wn an bn (wy + 1) := ⟨fun h => by omega, fun h => by have := hfp.mpr (fo_s.mp h).1; omega⟩
                have hma1 : ma = 1 := by rw [n_eq0 (by omega)] at hc_87; omega
                rw [eo2, ezo, n_eq0 (by omega)] at hc_104
                have hA : (1 : Nat) = 1 ↔ maP (cM M) wn an bn (wy + 1) := ⟨fun _ => ma_s.mpr ⟨hmp.mp hma1, by rw [← ez, eo1]; exact hc_104⟩, fun _ => rfl⟩
                exact ⟨2 - (wy + 1), by omega, wn, an, bn, wy + 1, 0, 1, hwn, han, hbn, hne, rfl, rfl, rfl, by omega, by omega, by omega, hRk3, hs1, hF, hA, rfl, rfl, rfl, rfl, rfl, by rw [nI_add], rfl⟩
          · skip
            refine xt_ild rfl ?_
            refine xt_aln0 rfl (by first | decide | omega | assumption) ?_
            refine xt_gfr (q := (5, 9)) rfl (by first | rfl | assumption) rfl ?_
            refine xt_ic ?_
            refine xt_iln1 rfl ?_
            refine xt_mul ?_
            refine xt_ild rfl ?_
            refine xt_add ?_
            refine xt_ial (by first | rfl | assumption) (vx2w hwn hy2) ?_
            refine xt_and ?_
            refine xt_ild rfl ?_
            refine xt_cne (t := 82) rfl (fun hc_75 => ?_) (fun hc_75 => ?_)
            · skip
              refine xt_blk rfl rfl (by dsimp only [List.take]) ?_
              refine xt_ic ?_
              refine xt_nil (t := 83) rfl ?_
              refine xt_blk rfl rfl (by dsimp only [List.take]) ?_
              refine xt_ist rfl (by dsimp only [x_sto]) ?_
              refine xt_ild rfl ?_
              refine xt_eq (t := 111) rfl (fun hc_87 => ?_) (fun hc_87 => ?_)
              · skip
                refine xt_blk rfl rfl (by dsimp only [List.take]) ?_
                refine xt_ic ?_
                refine xt_nil (t := 112) rfl ?_
                refine xt_blk rfl rfl (by dsimp only [List.take]) ?_
                refine xt_ist rfl (by dsimp only [x_sto]) ?_
                refine xt_inc rfl (by dsimp only [x_sto]) ?_
                refine xt_goto (t := 30) rfl ?_
                refine xt_cut rfl rfl (by dsimp only [List.take]) ?_
                have hz0 : z ≠ 0 := by rw [n_eq0 (by omega)] at hc_48; exact hc_48
                have hs1 : ∀ v, v < wy + 1 → Sat (tF (cM M) v) := fun v hv => by
                  by_cases e : v = wy
                  · subst e; exact CanV_sat hz hz0
                  · exact hs v (by omega)
                have hfo1 : fo = 1 := by rw [n_eq0 (by omega)] at hc_56; omega
                rw [eo2, ezo, nI_eq (by omega) (by omega)] at hc_75
                have hF : (0 : Nat) = 1 ↔ foP (cM M) wn an bn (wy + 1) := ⟨fun h => by omega, fun h => by have := (fo_s.mp h).2; rw [← ez, eo1] at this; exact absurd this hc_75⟩
                have hma0 : ma = 0 := by rw [n_eq0 (by omega)] at hc_87; exact hc_87
                have hA : (0 : Nat) = 1 ↔ maP (cM M) wn an bn (wy + 1) := ⟨fun h => by omega, fun h => by have := hmp.mpr (ma_s.mp h).1; omega⟩
                exact ⟨2 - (wy + 1), by omega, wn, an, bn, wy + 1, 0, 0, hwn, han, hbn, hne, rfl, rfl, rfl, by omega, by omega, by omega, hRk3, hs1, hF, hA, rfl, rfl, rfl, rfl, rfl, by rw [nI_add], rfl⟩
              · skip
                refine xt_ild rfl ?_
                refine xt_aln0 rfl (by first | decide | omega | assumption) ?_
                refine xt_gfr (q := (5, 9)) rfl (by first | rfl | assumption) rfl ?_
                refine xt_ic ?_
                refine xt_iln1 rfl ?_
                refine xt_mul ?_
                refine xt_ild rfl ?_
                refine xt_add ?_
                refine xt_ial (by first | rfl | assumption) (vx2w hwn hy2) ?_
                refine xt_and ?_
                refine xt_eq (t := 111) rfl (fun hc_104 => ?_) (fun hc_104 => ?_)
                · skip
                  refine xt_blk rfl rfl (by dsimp only [List.take]) ?_
                  refine xt_ic ?_
                  refine xt_nil (t := 112) rfl ?_
                  refine xt_blk rfl rfl (by dsimp only [List.take]) ?_
                  refine xt_ist rfl (by dsimp only [x_sto]) ?_
                  refine xt_inc rfl (by dsimp only [x_sto]) ?_
                  refine xt_goto (t := 30) rfl ?_
                  refine xt_cut rfl rfl (by dsimp only [List.take]) ?_
                  have hz0 : z ≠ 0 := by rw [n_eq0 (by omega)] at hc_48; exact hc_48
                  have hs1 : ∀ v, v < wy + 1 → Sat (tF (cM M) v) := fun v hv => by
                    by_cases e : v = wy
                    · subst e; exact CanV_sat hz hz0
                    · exact hs v (by omega)
                  have hfo1 : fo = 1 := by rw [n_eq0 (by omega)] at hc_56; omega
                  rw [eo2, ezo, nI_eq (by omega) (by omega)] at hc_75
                  have hF : (0 : Nat) = 1 ↔ foP (cM M) wn an bn (wy + 1) := ⟨fun h => by omega, fun h => by have := (fo_s.mp h).2; rw [← ez, eo1] at this; exact absurd this hc_75⟩
                  have hma1 : ma = 1 := by rw [n_eq0 (by omega)] at hc_87; omega
                  rw [eo2, ezo, n_eq0 (by omega)] at hc_104
                  have hA : (0 : Nat) = 1 ↔ maP (cM M) wn an bn (wy + 1) := ⟨fun h => by omega, fun h => by have := (ma_s.mp h).2; rw [← ez, eo1] at this; exact absurd hc_104 this⟩
                  exact ⟨2 - (wy + 1), by omega, wn, an, bn, wy + 1, 0, 0, hwn, han, hbn, hne, rfl, rfl, rfl, by omega, by omega, by omega, hRk3, hs1, hF, hA, rfl, rfl, rfl, rfl, rfl, by rw [nI_add], rfl⟩
                · skip
                  refine xt_ic ?_
                  refine xt_goto (t := 112) rfl ?_
                  refine xt_blk rfl rfl (by dsimp only [List.take]) ?_
                  refine xt_ist rfl (by dsimp only [x_sto]) ?_
                  refine xt_inc rfl (by dsimp only [x_sto]) ?_
                  refine xt_goto (t := 30) rfl ?_
                  refine xt_cut rfl rfl (by dsimp only [List.take]) ?_
                  have hz0 : z ≠ 0 := by rw [n_eq0 (by omega)] at hc_48; exact hc_48
                  have hs1 : ∀ v, v < wy + 1 → Sat (tF (cM M) v) := fun v hv => by
                    by_cases e : v = wy
                    · subst e; exact CanV_sat hz hz0
                    · exact hs v (by omega)
                  have hfo1 : fo = 1 := by rw [n_eq0 (by omega)] at hc_56; omega
                  rw [eo2, ezo, nI_eq (by omega) (by omega)] at hc_75
                  have hF : (0 : Nat) = 1 ↔ foP (cM M) wn an bn (wy + 1) := ⟨fun h => by omega, fun h => by have := (fo_s.mp h).2; rw [← ez, eo1] at this; exact absurd this hc_75⟩
                  have hma1 : ma = 1 := by rw [n_eq0 (by omega)] at hc_87; omega
                  rw [eo2, ezo, n_eq0 (by omega)] at hc_104
                  have hA : (1 : Nat) = 1 ↔ maP (cM M) wn an bn (wy + 1) := ⟨fun _ => ma_s.mpr ⟨hmp.mp hma1, by rw [← ez, eo1]; exact hc_104⟩, fun _ => rfl⟩
                  exact ⟨2 - (wy + 1), by omega, wn, an, bn, wy + 1, 0, 1, hwn, han, hbn, hne, rfl, rfl, rfl, by omega, by omega, by omega, hRk3, hs1, hF, hA, rfl, rfl, rfl, rfl, rfl, by rw [nI_add], rfl⟩
            · skip
              refine xt_ic ?_
              refine xt_goto (t := 83) rfl ?_
              refine xt_blk rfl rfl (by dsimp only [List.take]) ?_
              refine xt_ist rfl (by dsimp only [x_sto]) ?_
              refine xt_ild rfl ?_
              refine xt_eq (t := 111) rfl (fun hc_87 => ?_) (fun hc_87 => ?_)
              · skip
                refine xt_blk rfl rfl (by dsimp only [List.take]) ?_
                refine xt_ic ?_
                refine xt_nil (t := 112) rfl ?_
                refine xt_blk rfl rfl (by dsimp only [List.take]) ?_
                refine xt_ist rfl (by dsimp only [x_sto]) ?_
                refine xt_inc rfl (by dsimp only [x_sto]) ?_
                refine xt_goto (t := 30) rfl ?_
                refine xt_cut rfl rfl (by dsimp only [List.take]) ?_
                have hz0 : z ≠ 0 := by rw [n_eq0 (by omega)] at hc_48; exact hc_48
                have hs1 : ∀ v, v < wy + 1 → Sat (tF (cM M) v) := fun v hv => by
                  by_cases e : v = wy
                  · subst e; exact CanV_sat hz hz0
                  · exact hs v (by omega)
                have hfo1 : fo = 1 := by rw [n_eq0 (by omega)] at hc_56; omega
                rw [eo2, ezo, nI_eq (by omega) (by omega)] at hc_75
                have hF : (1 : Nat) = 1 ↔ foP (cM M) wn an bn (wy + 1) := ⟨fun _ => fo_s.mpr ⟨hfp.mp hfo1, by rw [← ez, eo1]; exact hc_75⟩, fun _ => rfl⟩
                have hma0 : ma = 0 := by rw [n_eq0 (by omega)] at hc_87; exact hc_87
                have hA : (0 : Nat) = 1 ↔ maP (cM M) wn an bn (wy + 1) := ⟨fun h => by omega, fun h => by have := hmp.mpr (ma_s.mp h).1; omega⟩
                exact ⟨2 - (wy + 1), by omega, wn, an, bn, wy + 1, 1, 0, hwn, han, hbn, hne, rfl, rfl, rfl, by omega, by omega, by omega, hRk3, hs1, hF, hA, rfl, rfl, rfl, rfl, rfl, by rw [nI_add], rfl⟩
              · skip
                refine xt_ild rfl ?_
                refine xt_aln0 rfl (by first | decide | omega | assumption) ?_
                refine xt_gfr (q := (5, 9)) rfl (by first | rfl | assumption) rfl ?_
                refine xt_ic ?_
                refine xt_iln1 rfl ?_
                refine xt_mul ?_
                refine xt_ild rfl ?_
                refine xt_add ?_
                refine xt_ial (by first | rfl | assumption) (vx2w hwn hy2) ?_
                refine xt_and ?_
                refine xt_eq (t := 111) rfl (fun hc_104 => ?_) (fun hc_104 => ?_)
                · skip
                  refine xt_blk rfl rfl (by dsimp only [List.take]) ?_
                  refine xt_ic ?_
                  refine xt_nil (t := 112) rfl ?_
                  refine xt_blk rfl rfl (by dsimp only [List.take]) ?_
                  refine xt_ist rfl (by dsimp only [x_sto]) ?_
                  refine xt_inc rfl (by dsimp only [x_sto]) ?_
                  refine xt_goto (t := 30) rfl ?_
                  refine xt_cut rfl rfl (by dsimp only [List.take]) ?_
                  have hz0 : z ≠ 0 := by rw [n_eq0 (by omega)] at hc_48; exact hc_48
                  have hs1 : ∀ v, v < wy + 1 → Sat (tF (cM M) v) := fun v hv => by
                    by_cases e : v = wy
                    · subst e; exact CanV_sat hz hz0
                    · exact hs v (by omega)
                  have hfo1 : fo = 1 := by rw [n_eq0 (by omega)] at hc_56; omega
                  rw [eo2, ezo, nI_eq (by omega) (by omega)] at hc_75
                  have hF : (1 : Nat) = 1 ↔ foP (cM M) wn an bn (wy + 1) := ⟨fun _ => fo_s.mpr ⟨hfp.mp hfo1, by rw [← ez, eo1]; exact hc_75⟩, fun _ => rfl⟩
                  have hma1 : ma = 1 := by rw [n_eq0 (by omega)] at hc_87; omega
                  rw [eo2, ezo, n_eq0 (by omega)] at hc_104
                  have hA : (0 : Nat) = 1 ↔ maP (cM M) wn an bn (wy + 1) := ⟨fun h => by omega, fun h => by have := (ma_s.mp h).2; rw [← ez, eo1] at this; exact absurd hc_104 this⟩
                  exact ⟨2 - (wy + 1), by omega, wn, an, bn, wy + 1, 1, 0, hwn, han, hbn, hne, rfl, rfl, rfl, by omega, by omega, by omega, hRk3, hs1, hF, hA, rfl, rfl, rfl, rfl, rfl, by rw [nI_add], rfl⟩
                · skip
                  refine xt_ic ?_
                  refine xt_goto (t := 112) rfl ?_
                  refine xt_blk rfl rfl (by dsimp only [List.take]) ?_
                  refine xt_ist rfl (by dsimp only [x_sto]) ?_
                  refine xt_inc rfl (by dsimp only [x_sto]) ?_
                  refine xt_goto (t := 30) rfl ?_
                  refine xt_cut rfl rfl (by dsimp only [List.take]) ?_
                  have hz0 : z ≠ 0 := by rw [n_eq0 (by omega)] at hc_48; exact hc_48
                  have hs1 : ∀ v, v < wy + 1 → Sat (tF (cM M) v) := fun v hv => by
                    by_cases e : v = wy
                    · subst e; exact CanV_sat hz hz0
                    · exact hs v (by omega)
                  have hfo1 : fo = 1 := by rw [n_eq0 (by omega)] at hc_56; omega
                  rw [eo2, ezo, nI_eq (by omega) (by omega)] at hc_75
                  have hF : (1 : Nat) = 1 ↔ foP (cM M) wn an bn (wy + 1) := ⟨fun _ => fo_s.mpr ⟨hfp.mp hfo1, by rw [← ez, eo1]; exact hc_75⟩, fun _ => rfl⟩
                  have hma1 : ma = 1 := by rw [n_eq0 (by omega)] at hc_87; omega
                  rw [eo2, ezo, n_eq0 (by omega)] at hc_104
                  have hA : (1 : Nat) = 1 ↔ maP (cM M) wn an bn (wy + 1) := ⟨fun _ => ma_s.mpr ⟨hmp.mp hma1, by rw [← ez, eo1]; exact hc_104⟩, fun _ => rfl⟩
                  exact ⟨2 - (wy + 1), by omega, wn, an, bn, wy + 1, 1, 1, hwn, han, hbn, hne, rfl, rfl, rfl, by omega, by omega, by omega, hRk3, hs1, hF, hA, rfl, rfl, rfl, rfl, rfl, by rw [nI_add], rfl⟩
        · skip
          refine xt_bim rfl ?_
          refine xt_ri rfl (Nat.le_refl _) ?_
          intro w2 a2 b2 e2
          simp only [List.cons.injEq, Sum.inl.injEq, and_true, true_and] at e2
          obtain ⟨rfl, rfl, rfl⟩ := e2
          have k_w : Th 8 (nI wn) := ⟨wn, hwn, rfl⟩
          have k_t : Two (nI an) (nI bn) := ⟨⟨an, han, rfl⟩, ⟨bn, hbn, rfl⟩, fun e => hne (by rw [nI_eq (by omega) (by omega)] at e; exact e)⟩
          have vw : nv (nI wn) = wn := nv_nI (by omega)
          have va : nv (nI an) = an := nv_nI (by omega)
          have vb : nv (nI bn) = bn := nv_nI (by omega)
          have hz0 : z = 0 := by rw [n_eq0 (by omega)] at hc_48; exact hc_48
          have hno : ¬ (Sat (tF (cM M) 0) ∧ Sat (tF (cM M) 1)) := by
            rintro ⟨q1, q2⟩
            rcases (show wy = 0 ∨ wy = 1 by omega) with e | e
            · subst e; exact CanV_ne q1 hz hz0
            · subst e; exact CanV_ne q2 hz hz0
          refine ⟨rfl, RE_k hRk3 ?_⟩
          unfold spAsk
          rw [cif_t k_w, cif_t k_t, cif_f hno]
def q_X7_fits : x_K := (1, fun as S M => ∃  (c : Nat), RI c M ∧ S = SH ∧ as = [.inr (.inl 53)], fun as S M rv_ S' M' => as = [.inr (.inl 53)] → S' = S ∧ REnd M M' rv_ (spFits (cM M)), 0, 0)
theorem r_X7_fits : ∀ as S M, q_X7_fits.2.1 as S M → ∃ (k : Nat) (as' : List x_V) (fs : List (Option Nat)), as = .inr (.inl k) :: as' ∧ S[k]? = some (.inl (5, fs)) := by
  rintro as S M ⟨c, -, rfl, rfl⟩
  exact ⟨53, _, _, rfl, rfl⟩
def b_X7_fits : x_B := [(0, 1, [(.iconst 0, 1), (.istore_n 1, 1), (.iconst 0, 1), (.istore_n 2, 1)]),
  (4, 3, [(.iload_n 2, 1), (.aload_n 0, 1), (.getfield 104, 3), (.if_icmp .ge 103, 3), (.aload_n 0, 1), (.getfield 22, 3), (.iload_n 2, 1), (.iaload, 1), (.istore_n 3, 1), (.aload_n 0, 1), (.getfield 25, 3), (.iload_n 2, 1), (.iaload, 1), (.istore 4, 2), (.aload_n 0, 1), (.getfield 31, 3), (.iload_n 2, 1), (.baload, 1), (.ifCond .eq 73, 3), (.aload_n 0, 1), (.getfield 38, 3), (.iload_n 3, 1), (.baload, 1), (.ifCond .eq 64, 3), (.aload_n 0, 1), (.getfield 38, 3), (.iload 4, 2), (.baload, 1), (.ifCond .eq 54, 3), (.iload_n 1, 1), (.aload_n 0, 1), (.getfield 28, 3), (.iconst 2, 1), (.iload_n 2, 1), (.imul, 1), (.iaload, 1), (.aload_n 0, 1), (.iconst 0, 1), (.iload_n 3, 1), (.iload 4, 2), (.invokevirtual 160, 3), (.ishr, 1), (.aload_n 0, 1), (.getfield 28, 3), (.iconst 2, 1), (.iload_n 2, 1), (.imul, 1), (.iconst 1, 1), (.iadd, 1), (.iaload, 1), (.aload_n 0, 1), (.iconst 1, 1), (.iload_n 3, 1), (.iload 4, 2), (.invokevirtual 160, 3), (.ishr, 1), (.iand, 1), (.iconst 1, 1), (.iand, 1), (.iconst 1, 1), (.if_icmp .ne 7, 3), (.iconst 0, 1), (.goto 4, 3)]),
  (103, 5, [(.iconst 1, 1)]),
  (104, 5, [(.iadd, 1), (.istore_n 1, 1)]),
  (106, 5, [(.iinc 2 1, 3), (.goto (-105), 3)]),
  (112, 3, [(.iload_n 1, 1), (.ireturn, 1)])]
theorem b_X7_fits_ok : x_okB cX7_fits 5 b_X7_fits = true := by decide +kernel
def X_X7_fits : x_X := ([(104, 5, 4), (22, 5, 5), (25, 5, 6), (31, 5, 8), (38, 5, 10), (28, 5, 7)], [], [], [], [(481, q_X7_ofBoxes)], (0, 0), x_kn, x_kf, 5, false)
theorem X_X7_fits_ok : x_okT RX7 X_X7_fits = true := by decide +kernel
theorem k_X7_fits (l : Launch) : ∀ z ∈ X_X7_fits.2.2.2.2.1, x_Cal l (x_rm 4 0 0) cX7_fits RX7 5 z.1 z.2 := List.forall_mem_cons.mpr ⟨x_cal_V (idx := 160) (ci := 5) (n := 3) (c_X7_ofBoxes l) ⟨by decide, by decide⟩ (by decide +kernel) (by decide +kernel) (by decide +kernel) (by decide +kernel) (by decide +kernel) rfl rfl rfl (by decide +kernel) r_X7_ofBoxes, fun _ h => absurd h List.not_mem_nil⟩
set_option maxHeartbeats 4000000 in
set_option maxRecDepth 100000 in
theorem c_X7_fits (l : Launch) : x_CT l yX7_fits cX7_fits 5 (some .int) 4 q_X7_fits := by
  refine x_meth (X := X_X7_fits) (bl := b_X7_fits) (cut := [4]) (own := RX7) 30 (by decide) rfl X_X7_fits_ok b_X7_fits_ok rfl (Nat.le_of_ble_eq_true rfl) (k_X7_fits l) ?_
  rintro as S M - ⟨c, hRI, rfl, rfl⟩
  have hok := hRI.2.1
  have hV := hRI.2
  have hTb := hRI.1
  refine ⟨fun μ pc ls st S' M' cs sl => ∃ (i : Nat), i ≤ nN (cM M) ∧ pc = 4 ∧ st = [] ∧ S' = SH ∧ M' = M ∧ cs = 0 ∧ sl = 0 ∧ ls = [.inr (.inl 53), .inl (nI (fit (cM M) i)), .inl (nI i)] ∧ μ = nN (cM M) - i, ?_, ?_⟩
  · skip
    refine xt_blk rfl rfl (by dsimp only [List.take]) ?_
    refine xt_ic ?_
    refine xt_isn1 rfl (by dsimp only [x_sto]) ?_
    refine xt_ic ?_
    refine xt_isn2 rfl (by dsimp only [x_sto]) ?_
    refine xt_nil (t := 4) rfl ?_
    refine xt_cut rfl rfl (by dsimp only [List.take]) ?_
    exact ⟨nN (cM M) - 0, 0, by omega, rfl, rfl, rfl, rfl, rfl, rfl, rfl, rfl⟩
  · rintro μ pc ls st S2 M2 cs sl (⟨i, hi0, rfl, rfl, rfl, rfl, rfl, rfl, rfl, rfl⟩)
    · refine ⟨_, rfl, ?_⟩
      refine xt_iln2 rfl ?_
      refine xt_aln0 rfl (by first | decide | omega | assumption) ?_
      refine xt_gfi (q := (5, 4)) rfl (by first | rfl | assumption) rfl ?_
      refine xt_cge (t := 112) rfl (fun hc_9 => ?_) (fun hc_9 => ?_)
      · skip
        refine xt_blk rfl rfl (by dsimp only [List.take]) ?_
        refine xt_iln1 rfl ?_
        refine xt_ri rfl (Nat.le_refl _) ?_
        intro e2
        have hsz : M2 53 4 = nI (nN (cM M2)) := hok.2.1
        have hn30 := hok.1
        have hc' : nI (nN (cM M2)) ≤ nI i := by rw [← hsz]; exact hc_9
        have hi : i = nN (cM M2) := by rw [nI_leI (by omega) (by omega)] at hc'; omega
        subst hi
        exact ⟨rfl, RE_M rfl⟩
      · skip
        have hsz : M2 53 4 = nI (nN (cM M2)) := hok.2.1
        have hn30 := hok.1
        have hc' : ¬ nI (nN (cM M2)) ≤ nI i := by rw [← hsz]; exact hc_9
        have hi : i < nN (cM M2) := by rw [nI_leI (by omega) (by omega)] at hc'; omega
        obtain ⟨hA, hB, hAB, hS0, eA, eB, eS0⟩ := hok.2.2 0 (by decide) i hi
        obtain ⟨-, -, -, hS1, -, -, eS1⟩ := hok.2.2 1 (by decide) i hi
        have eA2 : M2 58 (nI i).toNatClampNeg = nI (nA (cM M2) i) := by rw [nI_clamp (by omega)]; exact eA
        have eB2 : M2 59 (nI i).toNatClampNeg = nI (nB (cM M2) i) := by rw [nI_clamp (by omega)]; exact eB
        have eS02 : M2 60 (nI 2 * nI i).toNatClampNeg = nI (nS (cM M2) 0 i) := by rw [pk_mul, nI_clamp (by omega)]; exact eS0
        have eS12 : M2 60 (nI 2 * nI i + nI 1).toNatClampNeg = nI (nS (cM M2) 1 i) := by rw [pk_mul, nI_add, nI_clamp (by omega)]; exact eS1
        refine xt_aln0 rfl (by first | decide | omega | assumption) ?_
        refine xt_gfr (q := (5, 5)) rfl (by first | rfl | assumption) rfl ?_
        refine xt_iln2 rfl ?_
        refine xt_ial (by first | rfl | assumption) (show vp_in _ 30 from vp_in_nI (by omega) (by decide)) ?_
        refine xt_isn3 rfl (by dsimp only [x_sto]) ?_
        refine xt_aln0 rfl (by first | decide | omega | assumption) ?_
        refine xt_gfr (q := (5, 6)) rfl (by first | rfl | assumption) rfl ?_
        refine xt_iln2 rfl ?_
        refine xt_ial (by first | rfl | assumption) (show vp_in _ 30 from vp_in_nI (by omega) (by decide)) ?_
        refine xt_ist rfl (by dsimp only [x_sto]) ?_
        refine xt_aln0 rfl (by first | decide | omega | assumption) ?_
        refine xt_gfr (q := (5, 8)) rfl (by first | rfl | assumption) rfl ?_
        refine xt_iln2 rfl ?_
        refine xt_bal (by first | rfl | assumption) (show vp_in _ 30 from vp_in_nI (by omega) (by decide)) ?_
        refine xt_eq (t := 106) rfl (fun hc_33 => ?_) (fun hc_33 => ?_)
        · skip
          refine xt_blk rfl rfl (by dsimp only [List.take]) ?_
          refine xt_inc rfl (by dsimp only [x_sto]) ?_
          refine xt_goto (t := 4) rfl ?_
          refine xt_cut rfl rfl (by dsimp only [List.take]) ?_
          have hm : ¬ msf (cM M2) i := fun q => by rw [nI_clamp (by omega)] at hc_33; exact q.1 hc_33
          exact ⟨nN (cM M2) - (i + 1), by omega, i + 1, by omega, rfl, rfl, rfl, rfl, rfl, rfl, by rw [show fit (cM M2) (i + 1) = fit (cM M2) i from cif_f hm, nI_add], rfl⟩
        · skip
          rw [eA2, eB2]
          have kT : M2 61 i ≠ 0 := by rw [nI_clamp (by omega)] at hc_33; exact hc_33
          refine xt_aln0 rfl (by first | decide | omega | assumption) ?_
          refine xt_gfr (q := (5, 10)) rfl (by first | rfl | assumption) rfl ?_
          refine xt_iln3 rfl ?_
          refine xt_bal (by first | rfl | assumption) (show vp_in _ 6 from vp_in_nI hA (by decide)) ?_
          refine xt_eq (t := 106) rfl (fun hc_42 => ?_) (fun hc_42 => ?_)
          · skip
            refine xt_blk rfl rfl (by dsimp only [List.take]) ?_
            refine xt_inc rfl (by dsimp only [x_sto]) ?_
            refine xt_goto (t := 4) rfl ?_
            refine xt_cut rfl rfl (by dsimp only [List.take]) ?_
            have hm : ¬ msf (cM M2) i := fun q => by rw [nI_clamp (by omega)] at hc_42; exact q.2.1 hc_42
            exact ⟨nN (cM M2) - (i + 1), by omega, i + 1, by omega, rfl, rfl, rfl, rfl, rfl, rfl, by rw [show fit (cM M2) (i + 1) = fit (cM M2) i from cif_f hm, nI_add], rfl⟩
          · skip
            have kA : M2 63 (nA (cM M2) i) ≠ 0 := by rw [nI_clamp (by omega)] at hc_42; exact hc_42
            refine xt_aln0 rfl (by first | decide | omega | assumption) ?_
            refine xt_gfr (q := (5, 10)) rfl (by first | rfl | assumption) rfl ?_
            refine xt_ild rfl ?_
            refine xt_bal (by first | rfl | assumption) (show vp_in _ 6 from vp_in_nI hB (by decide)) ?_
            refine xt_eq (t := 106) rfl (fun hc_52 => ?_) (fun hc_52 => ?_)
            · skip
              refine xt_blk rfl rfl (by dsimp only [List.take]) ?_
              refine xt_inc rfl (by dsimp only [x_sto]) ?_
              refine xt_goto (t := 4) rfl ?_
              refine xt_cut rfl rfl (by dsimp only [List.take]) ?_
              have hm : ¬ msf (cM M2) i := fun q => by rw [nI_clamp (by omega)] at hc_52; exact q.2.2.1 hc_52
              exact ⟨nN (cM M2) - (i + 1), by omega, i + 1, by omega, rfl, rfl, rfl, rfl, rfl, rfl, by rw [show fit (cM M2) (i + 1) = fit (cM M2) i from cif_f hm, nI_add], rfl⟩
            · skip
              have kB : M2 63 (nB (cM M2) i) ≠ 0 := by rw [nI_clamp (by omega)] at hc_52; exact hc_52
              refine xt_iln1 rfl ?_
              refine xt_aln0 rfl (by first | decide | omega | assumption) ?_
              refine xt_gfr (q := (5, 7)) rfl (by first | rfl | assumption) rfl ?_
              refine xt_ic ?_
              refine xt_iln2 rfl ?_
              refine xt_mul ?_
              refine xt_ial (by first | rfl | assumption) (show vp_in _ 60 from by rw [pk_mul]; exact vp_in_nI (by omega) (by decide)) ?_
              refine xt_aln0 rfl (by first | decide | omega | assumption) ?_
              refine xt_ic ?_
              refine xt_iln3 rfl ?_
              refine xt_ild rfl ?_
              refine xt_v4 (key := 481) (q := q_X7_ofBoxes) rfl rfl rfl rfl rfl ⟨Nat.le_of_ble_eq_true rfl, Nat.le_of_ble_eq_true rfl⟩ ⟨0, nA (cM M2) i, nB (cM M2) i, by decide, hA, hB, hV, kA, kB, rfl, rfl⟩ (fun rv_ S1 M_69 hq_69 => ?_)
              obtain ⟨eS_, eM_, rfl⟩ := hq_69 0 (nA (cM M2) i) (nB (cM M2) i) (by decide) hA hB rfl
              replace eS_ := eS_.symm
              replace eM_ := eM_.symm
              subst eS_ eM_
              try dsimp only [Option.toList, List.cons_append, List.nil_append]
              refine xt_shr ?_
              refine xt_aln0 rfl (by first | decide | omega | assumption) ?_
              refine xt_gfr (q := (5, 7)) rfl (by first | rfl | assumption) rfl ?_
              refine xt_ic ?_
              refine xt_iln2 rfl ?_
              refine xt_mul ?_
              refine xt_ic ?_
              refine xt_add ?_
              refine xt_ial (by first | rfl | assumption) (show vp_in _ 60 from by rw [pk_mul, nI_add]; exact vp_in_nI (by omega) (by decide)) ?_
              refine xt_aln0 rfl (by first | decide | omega | assumption) ?_
              refine xt_ic ?_
              refine xt_iln3 rfl ?_
              refine xt_ild rfl ?_
              refine xt_v4 (key := 481) (q := q_X7_ofBoxes) rfl rfl rfl rfl rfl ⟨Nat.le_of_ble_eq_true rfl, Nat.le_of_ble_eq_true rfl⟩ ⟨1, nA (cM M2) i, nB (cM M2) i, by decide, hA, hB, hV, kA, kB, rfl, rfl⟩ (fun rv_ S1 M_88 hq_88 => ?_)
              obtain ⟨eS_, eM_, rfl⟩ := hq_88 1 (nA (cM M2) i) (nB (cM M2) i) (by decide) hA hB rfl
              replace eS_ := eS_.symm
              replace eM_ := eM_.symm
              subst eS_ eM_
              try dsimp only [Option.toList, List.cons_append, List.nil_append]
              refine xt_shr ?_
              refine xt_and ?_
              refine xt_ic ?_
              refine xt_and ?_
              refine xt_ic ?_
              refine xt_cne (t := 103) rfl (fun hc_96 => ?_) (fun hc_96 => ?_)
              · skip
                refine xt_blk rfl rfl (by dsimp only [List.take]) ?_
                refine xt_ic ?_
                refine xt_nil (t := 104) rfl ?_
                refine xt_blk rfl rfl (by dsimp only [List.take]) ?_
                refine xt_add ?_
                refine xt_isn1 rfl (by dsimp only [x_sto]) ?_
                refine xt_nil (t := 106) rfl ?_
                refine xt_blk rfl rfl (by dsimp only [List.take]) ?_
                refine xt_inc rfl (by dsimp only [x_sto]) ?_
                refine xt_goto (t := 4) rfl ?_
                refine xt_cut rfl rfl (by dsimp only [List.take]) ?_
                rw [eS02, eS12, hol2 hS0 hS1 (by have := bwf_lt (sgs (cM M2 41 (nA (cM M2) i * 4 + 0 * 2)) (cM M2 41 (nA (cM M2) i * 4 + 0 * 2 + 1)) (cM M2 41 (nB (cM M2) i * 4 + 0 * 2)) (cM M2 41 (nB (cM M2) i * 4 + 0 * 2 + 1))) 13 (by omega); exact Nat.lt_of_lt_of_le this (by decide)) (by have := bwf_lt (sgs (cM M2 41 (nA (cM M2) i * 4 + 1 * 2)) (cM M2 41 (nA (cM M2) i * 4 + 1 * 2 + 1)) (cM M2 41 (nB (cM M2) i * 4 + 1 * 2)) (cM M2 41 (nB (cM M2) i * 4 + 1 * 2 + 1))) 13 (by omega); exact Nat.lt_of_lt_of_le this (by decide))] at hc_96
                have hm : msf (cM M2) i := ⟨kT, kA, kB, fun q => hc_96 (cif_t q)⟩
                exact ⟨nN (cM M2) - (i + 1), by omega, i + 1, by omega, rfl, rfl, rfl, rfl, rfl, rfl, by rw [show fit (cM M2) (i + 1) = fit (cM M2) i + 1 from cif_t hm, nI_add, nI_add], rfl⟩
              · skip
                refine xt_ic ?_
                refine xt_goto (t := 104) rfl ?_
                refine xt_blk rfl rfl (by dsimp only [List.take]) ?_
                refine xt_add ?_
                refine xt_isn1 rfl (by dsimp only [x_sto]) ?_
                refine xt_nil (t := 106) rfl ?_
                refine xt_blk rfl rfl (by dsimp only [List.take]) ?_
                refine xt_inc rfl (by dsimp only [x_sto]) ?_
                refine xt_goto (t := 4) rfl ?_
                refine xt_cut rfl rfl (by dsimp only [List.take]) ?_
                rw [eS02, eS12, hol2 hS0 hS1 (by have := bwf_lt (sgs (cM M2 41 (nA (cM M2) i * 4 + 0 * 2)) (cM M2 41 (nA (cM M2) i * 4 + 0 * 2 + 1)) (cM M2 41 (nB (cM M2) i * 4 + 0 * 2)) (cM M2 41 (nB (cM M2) i * 4 + 0 * 2 + 1))) 13 (by omega); exact Nat.lt_of_lt_of_le this (by decide)) (by have := bwf_lt (sgs (cM M2 41 (nA (cM M2) i * 4 + 1 * 2)) (cM M2 41 (nA (cM M2) i * 4 + 1 * 2 + 1)) (cM M2 41 (nB (cM M2) i * 4 + 1 * 2)) (cM M2 41 (nB (cM M2) i * 4 + 1 * 2 + 1))) 13 (by omega); exact Nat.lt_of_lt_of_le this (by decide))] at hc_96
                have hm : ¬ msf (cM M2) i := fun q => by rw [cif_f (show ¬ (bi (nS (cM M2) 0 i) (bxr (cM M2) 0 (nA (cM M2) i) (nB (cM M2) i)) = 1 ∧ bi (nS (cM M2) 1 i) (bxr (cM M2) 1 (nA (cM M2) i) (nB (cM M2) i)) = 1) from q.2.2.2)] at hc_96; exact absurd hc_96 (by decide)
                exact ⟨nN (cM M2) - (i + 1), by omega, i + 1, by omega, rfl, rfl, rfl, rfl, rfl, rfl, by rw [show fit (cM M2) (i + 1) = fit (cM M2) i from cif_f hm, nI_add, nI_add, Nat.add_zero], rfl⟩
def q_X7_count : x_K := (2, fun as S M => ∃ (w : Int32) (c : Nat), RI c M ∧ S = SH ∧ as = [.inr (.inl 53), .inl w], fun as S M rv_ S' M' => ∀ (w : Int32), as = [.inr (.inl 53), .inl w] → S' = S ∧ REnd M M' rv_ (spCount (cM M) w), 0, 0)
theorem r_X7_count : ∀ as S M, q_X7_count.2.1 as S M → ∃ (k : Nat) (as' : List x_V) (fs : List (Option Nat)), as = .inr (.inl k) :: as' ∧ S[k]? = some (.inl (5, fs)) := by
  rintro as S M ⟨w, c, -, rfl, rfl⟩
  exact ⟨53, _, _, rfl, rfl⟩
def b_X7_count : x_B := [(0, 2, [(.iconst 0, 1), (.istore_n 2, 1), (.iload_n 1, 1), (.tableswitch 98 0 2 #[25, 30, 65], 25)]),
  (28, 3, [(.aload_n 0, 1), (.getfield 104, 3), (.ireturn, 1)]),
  (33, 3, [(.iconst 0, 1), (.istore_n 3, 1)]),
  (35, 4, [(.iload_n 3, 1), (.aload_n 0, 1), (.getfield 104, 3), (.if_icmp .ge 26, 3), (.iload_n 2, 1), (.aload_n 0, 1), (.getfield 31, 3), (.iload_n 3, 1), (.baload, 1), (.ifCond .eq 7, 3), (.iconst 1, 1), (.goto 4, 3)]),
  (57, 4, [(.iconst 0, 1)]),
  (58, 4, [(.iadd, 1), (.istore_n 2, 1), (.iinc 3 1, 3), (.goto (-28), 3)]),
  (66, 4, [(.iload_n 2, 1), (.ireturn, 1)]),
  (68, 3, [(.iconst 0, 1), (.istore_n 3, 1)]),
  (70, 4, [(.iload_n 3, 1), (.bipush 6, 2), (.if_icmp .ge 26, 3), (.iload_n 2, 1), (.aload_n 0, 1), (.getfield 38, 3), (.iload_n 3, 1), (.baload, 1), (.ifCond .eq 7, 3), (.iconst 1, 1), (.goto 4, 3)]),
  (90, 4, [(.iconst 0, 1)]),
  (91, 4, [(.iadd, 1), (.istore_n 2, 1), (.iinc 3 1, 3), (.goto (-26), 3)]),
  (99, 4, [(.iload_n 2, 1), (.ireturn, 1)]),
  (101, 3, [(.iload_n 1, 1), (.bipush 11, 2), (.bipush 16, 2), (.invokestatic 85, 3), (.ifCond .eq 15, 3), (.aload_n 0, 1), (.getfield 44, 3), (.iload_n 1, 1), (.bipush 10, 2), (.isub, 1), (.iaload, 1), (.goto 5, 3)]),
  (124, 3, [(.bipush (-9), 2)]),
  (126, 3, [(.ireturn, 1)])]
theorem b_X7_count_ok : x_okB cX7_count 4 b_X7_count = true := by decide +kernel
def X_X7_count : x_X := ([(104, 5, 4), (31, 5, 8), (38, 5, 10), (44, 5, 12)], [], [], [], [(255, q_X7_in)], (0, 0), x_kn, x_kf, 5, false)
theorem X_X7_count_ok : x_okT RX7 X_X7_count = true := by decide +kernel
theorem k_X7_count (l : Launch) : ∀ z ∈ X_X7_count.2.2.2.2.1, x_Cal l (x_rm 2 0 0) cX7_count RX7 4 z.1 z.2 := List.forall_mem_cons.mpr ⟨x_cal_S (idx := 85) (c_X7_in l) ⟨by decide, by decide⟩ (by decide +kernel) (by decide +kernel) (by decide +kernel) (by decide +kernel) (by decide +kernel), fun _ h => absurd h List.not_mem_nil⟩
set_option maxHeartbeats 4000000 in
set_option maxRecDepth 100000 in
theorem c_X7_count (l : Launch) : x_CT l yX7_count cX7_count 4 (some .int) 2 q_X7_count := by
  refine x_meth (X := X_X7_count) (bl := b_X7_count) (cut := [35, 70]) (own := RX7) 30 (by decide) rfl X_X7_count_ok b_X7_count_ok rfl (Nat.le_of_ble_eq_true rfl) (k_X7_count l) ?_
  rintro as S M - ⟨w, c, hRI, rfl, rfl⟩
  have hok := hRI.2.1
  have hV := hRI.2
  have hTb := hRI.1
  refine ⟨fun μ pc ls st S' M' cs sl => (∃ (i : Nat), i ≤ nN (cM M) ∧ w = nI 1 ∧ pc = 35 ∧ st = [] ∧ S' = SH ∧ M' = M ∧ cs = 0 ∧ sl = 0 ∧ ls = [.inr (.inl 53), .inl w, .inl (nI (cnz (M 61) i)), .inl (nI i)] ∧ μ = nN (cM M) - i) ∨ (∃ (i : Nat), i ≤ 6 ∧ w = nI 2 ∧ pc = 70 ∧ st = [] ∧ S' = SH ∧ M' = M ∧ cs = 0 ∧ sl = 0 ∧ ls = [.inr (.inl 53), .inl w, .inl (nI (cnz (M 63) i)), .inl (nI i)] ∧ μ = 6 - i), ?_, ?_⟩
  · skip
    refine xt_blk rfl rfl (by dsimp only [List.take]) ?_
    refine xt_ic ?_
    refine xt_isn2 rfl (by dsimp only [x_sto]) ?_
    refine xt_iln1 rfl ?_
    refine xt_sw (T0 := 101) (ts := [28, 33, 68]) rfl rfl rfl (by decide) (fun hd_3 => ?_) ⟨fun hx_0 => ?_, fun hx_1 => ?_, fun hx_2 => ?_, trivial⟩
    · skip
      refine xt_blk rfl rfl (by dsimp only [List.take]) ?_
      refine xt_iln1 rfl ?_
      refine xt_bi ?_
      refine xt_bi ?_
      refine xt_v3 (key := 255) (q := q_X7_in) rfl rfl rfl rfl rfl ⟨Nat.le_of_ble_eq_true rfl, Nat.le_of_ble_eq_true rfl⟩ ⟨_, _, _, rfl⟩ (fun rv_ S1 M_106 hq_106 => ?_)
      obtain ⟨eS_, eM_, h_c106⟩ := hq_106 _ _ _ rfl
      replace eS_ := eS_.symm
      replace eM_ := eM_.symm
      subst eS_ eM_
      have hex_c106 : ∃ v, rv_ = some (.inl v) := by rcases h_c106 with ⟨-, e⟩ | ⟨-, e⟩ <;> exact ⟨_, e⟩
      obtain ⟨v_c106, rfl⟩ := hex_c106
      simp only [Option.some.injEq, Sum.inl.injEq] at h_c106
      try dsimp only [Option.toList, List.cons_append, List.nil_append]
      refine xt_eq (t := 124) rfl (fun hc_109 => ?_) (fun hc_109 => ?_)
      · skip
        have k_106 := k_no h_c106 hc_109
        refine xt_blk rfl rfl (by dsimp only [List.take]) ?_
        refine xt_bim rfl ?_
        refine xt_nil (t := 126) rfl ?_
        refine xt_blk rfl rfl (by dsimp only [List.take]) ?_
        refine xt_ri rfl (Nat.le_refl _) ?_
        intro w2 e2
        simp only [List.cons.injEq, Sum.inl.injEq, and_true, true_and] at e2
        subst e2
        have k_d : ∀ j, j < 3 → ¬ w = nI j := hd_3
        refine ⟨rfl, RE_M ?_⟩
        unfold spCount
        rw [cif_f (k_d 0 (by decide)), cif_f (k_d 1 (by decide)), cif_f (k_d 2 (by decide)), cif_f k_106]
      · skip
        have k_106 := k_yes h_c106 hc_109
        obtain ⟨wn, hw1, hw2, ew⟩ : ∃ wn, wn < 17 ∧ 11 ≤ wn ∧ w = nI wn := by
          obtain ⟨wn, h1, e⟩ := (Th_le (N := 16) (by decide)).mpr ⟨Int32.le_trans (by decide) k_106.1, k_106.2⟩
          subst e
          exact ⟨wn, h1, (nI_leI (by omega) (by omega)).mp k_106.1, rfl⟩
        subst ew
        have vw : nv (nI wn) = wn := nv_nI (by omega)
        have ei : nI wn - nI 10 = nI (wn - 10) := n_subN (by omega)
        refine xt_aln0 rfl (by first | decide | omega | assumption) ?_
        refine xt_gfr (q := (5, 12)) rfl (by first | rfl | assumption) rfl ?_
        refine xt_iln1 rfl ?_
        refine xt_bi ?_
        refine xt_sub ?_
        refine xt_ial (by first | rfl | assumption) (show vp_in _ 7 from by rw [ei]; exact vp_in_nI (by omega) (by decide)) ?_
        refine xt_goto (t := 126) rfl ?_
        refine xt_blk rfl rfl (by dsimp only [List.take]) ?_
        refine xt_ri rfl (Nat.le_refl _) ?_
        intro w2 e2
        simp only [List.cons.injEq, Sum.inl.injEq, and_true, true_and] at e2
        subst e2
        have k_d : ∀ j, j < 3 → ¬ nI wn = nI j := hd_3
        refine ⟨rfl, RE_M ?_⟩
        unfold spCount
        rw [cif_f (k_d 0 (by decide)), cif_f (k_d 1 (by decide)), cif_f (k_d 2 (by decide)), cif_t k_106, vw, ei, nI_clamp (by omega)]
        rfl
    · skip
      refine xt_blk rfl rfl (by dsimp only [List.take]) ?_
      refine xt_aln0 rfl (by first | decide | omega | assumption) ?_
      refine xt_gfi (q := (5, 4)) rfl (by first | rfl | assumption) rfl ?_
      refine xt_ri rfl (Nat.le_refl _) ?_
      intro w2 e2
      simp only [List.cons.injEq, Sum.inl.injEq, and_true, true_and] at e2
      subst e2
      subst hx_0
      refine ⟨rfl, RE_M ?_⟩
      unfold spCount
      rw [cif_t rfl]
      rfl
    · skip
      refine xt_blk rfl rfl (by dsimp only [List.take]) ?_
      refine xt_ic ?_
      refine xt_isn3 rfl (by dsimp only [x_sto]) ?_
      refine xt_nil (t := 35) rfl ?_
      refine xt_cut rfl rfl (by dsimp only [List.take]) ?_
      exact ⟨nN (cM M) - 0, Or.inl ⟨0, by omega, hx_1, rfl, rfl, rfl, rfl, rfl, rfl, rfl, rfl⟩⟩
    · skip
      refine xt_blk rfl rfl (by dsimp only [List.take]) ?_
      refine xt_ic ?_
      refine xt_isn3 rfl (by dsimp only [x_sto]) ?_
      refine xt_nil (t := 70) rfl ?_
      refine xt_cut rfl rfl (by dsimp only [List.take]) ?_
      exact ⟨6 - 0, Or.inr ⟨0, by omega, hx_2, rfl, rfl, rfl, rfl, rfl, rfl, rfl, rfl⟩⟩
  · rintro μ pc ls st S2 M2 cs sl (⟨i, hi0, hw1, rfl, rfl, rfl, rfl, rfl, rfl, rfl, rfl⟩ | ⟨i, hi0, hw2, rfl, rfl, rfl, rfl, rfl, rfl, rfl, rfl⟩)
    · refine ⟨_, rfl, ?_⟩
      refine xt_iln3 rfl ?_
      refine xt_aln0 rfl (by first | decide | omega | assumption) ?_
      refine xt_gfi (q := (5, 4)) rfl (by first | rfl | assumption) rfl ?_
      refine xt_cge (t := 66) rfl (fun hc_40 => ?_) (fun hc_40 => ?_)
      · skip
        refine xt_blk rfl rfl (by dsimp only [List.take]) ?_
        refine xt_iln2 rfl ?_
        refine xt_ri rfl (Nat.le_refl _) ?_
        intro w2 e2
        simp only [List.cons.injEq, Sum.inl.injEq, and_true, true_and] at e2
        subst e2
        subst hw1
        have hsz : M2 53 4 = nI (nN (cM M2)) := hok.2.1
        have hn30 := hok.1
        have hc' : nI (nN (cM M2)) ≤ nI i := by rw [← hsz]; exact hc_40
        have hi : i = nN (cM M2) := by rw [nI_leI (by omega) (by omega)] at hc'; omega
        subst hi
        refine ⟨rfl, RE_M ?_⟩
        unfold spCount
        rw [cif_f (show ¬ nI 1 = nI 0 by decide), cif_t rfl]
        rfl
      · skip
        have hsz : M2 53 4 = nI (nN (cM M2)) := hok.2.1
        have hn30 := hok.1
        have hc' : ¬ nI (nN (cM M2)) ≤ nI i := by rw [← hsz]; exact hc_40
        have hi : i < nN (cM M2) := by rw [nI_leI (by omega) (by omega)] at hc'; omega
        refine xt_iln2 rfl ?_
        refine xt_aln0 rfl (by first | decide | omega | assumption) ?_
        refine xt_gfr (q := (5, 8)) rfl (by first | rfl | assumption) rfl ?_
        refine xt_iln3 rfl ?_
        refine xt_bal (by first | rfl | assumption) (show vp_in _ 30 from vp_in_nI (by omega) (by decide)) ?_
        refine xt_eq (t := 57) rfl (fun hc_50 => ?_) (fun hc_50 => ?_)
        · skip
          refine xt_blk rfl rfl (by dsimp only [List.take]) ?_
          refine xt_ic ?_
          refine xt_nil (t := 58) rfl ?_
          refine xt_blk rfl rfl (by dsimp only [List.take]) ?_
          refine xt_add ?_
          refine xt_isn2 rfl (by dsimp only [x_sto]) ?_
          refine xt_inc rfl (by dsimp only [x_sto]) ?_
          refine xt_goto (t := 35) rfl ?_
          refine xt_cut rfl rfl (by dsimp only [List.take]) ?_
          have hz : cnz (M2 61) (i + 1) = cnz (M2 61) i := if_pos (by rw [nI_clamp (by omega)] at hc_50; exact hc_50)
          exact ⟨nN (cM M2) - (i + 1), by omega, Or.inl ⟨i + 1, by omega, hw1, rfl, rfl, rfl, rfl, rfl, rfl, by rw [hz, nI_add, nI_add, Nat.add_zero], rfl⟩⟩
        · skip
          refine xt_ic ?_
          refine xt_goto (t := 58) rfl ?_
          refine xt_blk rfl rfl (by dsimp only [List.take]) ?_
          refine xt_add ?_
          refine xt_isn2 rfl (by dsimp only [x_sto]) ?_
          refine xt_inc rfl (by dsimp only [x_sto]) ?_
          refine xt_goto (t := 35) rfl ?_
          refine xt_cut rfl rfl (by dsimp only [List.take]) ?_
          have hz : cnz (M2 61) (i + 1) = cnz (M2 61) i + 1 := if_neg (by rw [nI_clamp (by omega)] at hc_50; exact hc_50)
          exact ⟨nN (cM M2) - (i + 1), by omega, Or.inl ⟨i + 1, by omega, hw1, rfl, rfl, rfl, rfl, rfl, rfl, by rw [hz, nI_add, nI_add], rfl⟩⟩
    · refine ⟨_, rfl, ?_⟩
      refine xt_iln3 rfl ?_
      refine xt_bi ?_
      refine xt_cge (t := 99) rfl (fun hc_73 => ?_) (fun hc_73 => ?_)
      · skip
        refine xt_blk rfl rfl (by dsimp only [List.take]) ?_
        refine xt_iln2 rfl ?_
        refine xt_ri rfl (Nat.le_refl _) ?_
        intro w2 e2
        simp only [List.cons.injEq, Sum.inl.injEq, and_true, true_and] at e2
        subst e2
        subst hw2
        have hi : i = 6 := by rw [nI_leI (by omega) (by omega)] at hc_73; omega
        subst hi
        refine ⟨rfl, RE_M ?_⟩
        unfold spCount
        rw [cif_f (show ¬ nI 2 = nI 0 by decide), cif_f (show ¬ nI 2 = nI 1 by decide), cif_t rfl]
        rfl
      · skip
        have hi : i < 6 := by rw [nI_leI (by omega) (by omega)] at hc_73; omega
        refine xt_iln2 rfl ?_
        refine xt_aln0 rfl (by first | decide | omega | assumption) ?_
        refine xt_gfr (q := (5, 10)) rfl (by first | rfl | assumption) rfl ?_
        refine xt_iln3 rfl ?_
        refine xt_bal (by first | rfl | assumption) (show vp_in _ 6 from vp_in_nI hi (by decide)) ?_
        refine xt_eq (t := 90) rfl (fun hc_83 => ?_) (fun hc_83 => ?_)
        · skip
          refine xt_blk rfl rfl (by dsimp only [List.take]) ?_
          refine xt_ic ?_
          refine xt_nil (t := 91) rfl ?_
          refine xt_blk rfl rfl (by dsimp only [List.take]) ?_
          refine xt_add ?_
          refine xt_isn2 rfl (by dsimp only [x_sto]) ?_
          refine xt_inc rfl (by dsimp only [x_sto]) ?_
          refine xt_goto (t := 70) rfl ?_
          refine xt_cut rfl rfl (by dsimp only [List.take]) ?_
          have hz : cnz (M2 63) (i + 1) = cnz (M2 63) i := if_pos (by rw [nI_clamp (by omega)] at hc_83; exact hc_83)
          exact ⟨6 - (i + 1), by omega, Or.inr ⟨i + 1, by omega, hw2, rfl, rfl, rfl, rfl, rfl, rfl, by rw [hz, nI_add, nI_add, Nat.add_zero], rfl⟩⟩
        · skip
          refine xt_ic ?_
          refine xt_goto (t := 91) rfl ?_
          refine xt_blk rfl rfl (by dsimp only [List.take]) ?_
          refine xt_add ?_
          refine xt_isn2 rfl (by dsimp only [x_sto]) ?_
          refine xt_inc rfl (by dsimp only [x_sto]) ?_
          refine xt_goto (t := 70) rfl ?_
          refine xt_cut rfl rfl (by dsimp only [List.take]) ?_
          have hz : cnz (M2 63) (i + 1) = cnz (M2 63) i + 1 := if_neg (by rw [nI_clamp (by omega)] at hc_83; exact hc_83)
          exact ⟨6 - (i + 1), by omega, Or.inr ⟨i + 1, by omega, hw2, rfl, rfl, rfl, rfl, rfl, rfl, by rw [hz, nI_add, nI_add], rfl⟩⟩
