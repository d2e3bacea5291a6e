/-! THE REFERENCE: its public methods, the second half -/
theorem rmv_or {x o i : Nat} (hx : x < 2 ^ 30) (hi : i < 30) : rmv x (o ||| 2 ^ i) = clr (rmv x o) i := by
  apply Nat.eq_of_testBit_eq
  intro j
  by_cases hj : j < 32
  · rw [rmv_tb hj, clr_tb hj, rmv_tb hj, Nat.testBit_or, Nat.testBit_two_pow]
    cases x.testBit j <;> cases o.testBit j <;> simp
  · rw [Nat.testBit_lt_two_pow (Nat.lt_of_le_of_lt (rmv_le _ _) (Nat.lt_of_lt_of_le hx (Nat.pow_le_pow_right (by decide) (by omega)))), Nat.testBit_lt_two_pow (Nat.lt_of_le_of_lt (clr_le _ _) (Nat.lt_of_le_of_lt (rmv_le _ _) (Nat.lt_of_lt_of_le hx (Nat.pow_le_pow_right (by decide) (by omega)))))]
theorem hol2 {r s i j : Nat} (hr : r < 8192) (hs : s < 8192) (hi : i < 32) (hj : j < 32) : nI r >>> (nI i &&& 31) &&& nI s >>> (nI j &&& 31) &&& nI 1 = cif (bi r i = 1 ∧ bi s j = 1) (nI 1) (nI 0) := by
  by_cases h : bi r i = 1 ∧ bi s j = 1
  · rw [cif_t h]; exact (n_2bit hr hs hi hj).mpr h
  · rw [cif_f h]
    have q : ¬ _ := fun e => h ((n_2bit hr hs hi hj).mp e)
    rw [n_shr (by omega) hi, n_shr (by omega) hj, n_and] at q ⊢
    have hl : r / 2 ^ i &&& s / 2 ^ j < 2 ^ 32 := Nat.lt_of_le_of_lt Nat.and_le_left (Nat.lt_of_le_of_lt (Nat.div_le_self _ _) (by omega))
    rw [n_and1 hl] at q ⊢
    have h2 := Nat.mod_lt (r / 2 ^ i &&& s / 2 ^ j) (show 0 < 2 by decide)
    rw [nI_eq (by omega) (by omega)] at q
    rw [show (r / 2 ^ i &&& s / 2 ^ j) % 2 = 0 by omega]
theorem cM_row63 (M : x_M) (f : Nat → Int32) : cM (x_row M 63 f) = x_row (cM M) 42 f := by
  funext k j
  by_cases h : k = 42
  · subst h; rw [x_row_self]; show x_row M 63 f 63 j = _; rw [x_row_self]
  · rw [x_row_ne _ _ h]
    unfold cM
    rw [x_row_ne _ _ (show 53 ≠ 63 by decide), x_row_ne _ _ (show 58 ≠ 63 by decide), x_row_ne _ _ (show 59 ≠ 63 by decide), x_row_ne _ _ (show 60 ≠ 63 by decide), x_row_ne _ _ (show 61 ≠ 63 by decide), x_row_ne _ _ (show 62 ≠ 63 by decide), x_row_ne _ _ (show 64 ≠ 63 by decide), x_row_ne _ _ (show 65 ≠ 63 by decide), if_neg h, if_neg h]
theorem cM_row64 (M : x_M) (f : Nat → Int32) : cM (x_row M 64 f) = x_row (cM M) 41 f := by
  funext k j
  by_cases h : k = 41
  · subst h; rw [x_row_self]; show x_row M 64 f 64 j = _; rw [x_row_self]
  · rw [x_row_ne _ _ h]
    unfold cM
    rw [x_row_ne _ _ (show 53 ≠ 64 by decide), x_row_ne _ _ (show 58 ≠ 64 by decide), x_row_ne _ _ (show 59 ≠ 64 by decide), x_row_ne _ _ (show 60 ≠ 64 by decide), x_row_ne _ _ (show 61 ≠ 64 by decide), x_row_ne _ _ (show 62 ≠ 64 by decide), x_row_ne _ _ (show 63 ≠ 64 by decide), x_row_ne _ _ (show 65 ≠ 64 by decide), if_neg h, if_neg h]
theorem cM_row62 (M : x_M) {w i : Nat} (hw : w < 8) (hi : i < 2) (x : Int32) : cM (x_row M 62 (upd (M 62) (2 * w + i) x)) = vWrd (cM M) w i x := by
  funext k j
  have e : ∀ q, q ≠ 62 → x_row M 62 (upd (M 62) (2 * w + i) x) q = M q := fun q hq => x_row_ne _ _ hq
  unfold vWrd
  by_cases h : k = 44 + w
  · subst h
    rw [x_row_self]
    unfold upd
    by_cases hj : j < 2
    · rw [cM_w _ hw hj, cM_w _ hw hj, x_row_self]
      by_cases q : j = i
      · subst q; rw [if_pos rfl, if_pos rfl]
      · rw [if_neg q, if_neg (by omega)]
    · rw [if_neg (by omega)]
      unfold cM
      rw [if_neg (show ¬ 44 + w = 1 by omega), if_neg (show ¬ 44 + w = 2 by omega), if_neg (show ¬ 44 + w = 3 by omega), if_neg (show ¬ 44 + w = 5 by omega), if_neg (show ¬ 44 + w = 6 by omega), if_neg (show ¬ 44 + w = 7 by omega), if_neg (show ¬ 44 + w = 41 by omega), if_neg (show ¬ 44 + w = 42 by omega), if_neg (show ¬ 44 + w = 52 by omega), if_neg (by omega), if_neg (show ¬ 44 + w = 1 by omega), if_neg (show ¬ 44 + w = 2 by omega), if_neg (show ¬ 44 + w = 3 by omega), if_neg (show ¬ 44 + w = 5 by omega), if_neg (show ¬ 44 + w = 6 by omega), if_neg (show ¬ 44 + w = 7 by omega), if_neg (show ¬ 44 + w = 41 by omega), if_neg (show ¬ 44 + w = 42 by omega), if_neg (show ¬ 44 + w = 52 by omega), if_neg (by omega)]
  · rw [x_row_ne _ _ h]
    unfold cM
    rw [e 53 (by decide), e 58 (by decide), e 59 (by decide), e 60 (by decide), e 61 (by decide), e 63 (by decide), e 64 (by decide), e 65 (by decide), x_row_self]
    by_cases hq : 43 < k ∧ k < 52 ∧ j < 2
    · unfold upd; rw [if_neg (show ¬ 2 * (k - 44) + j = 2 * w + i by omega)]
    · rw [if_neg hq, if_neg hq]
theorem ix2w {w j : Nat} (hw : w < 8) (hj : j < 2) : (nI 2 * nI w + nI j).toNatClampNeg = 2 * w + j := by rw [pk_mul, nI_add, nI_clamp (by omega)]
theorem vx2w {w j : Nat} (hw : w < 8) (hj : j < 2) : vp_in (nI 2 * nI w + nI j) 16 := by rw [pk_mul, nI_add]; exact vp_in_nI (by omega) (by decide)
theorem ix2z {w : Nat} (hw : w < 8) : (nI 2 * nI w).toNatClampNeg = 2 * w := by rw [pk_mul, nI_clamp (by omega)]
theorem vx2z {w : Nat} (hw : w < 8) : vp_in (nI 2 * nI w) 16 := by rw [pk_mul]; exact vp_in_nI (by omega) (by decide)
def q_X7_core : x_K := (2, fun as S M => ∃ (w : Int32) (c : Nat), RI c M ∧ S = SH ∧ as = [.inr (.inl 53), .inl w], fun as S M rv_ S' M' => ∀ (w : Int32), as = [.inr (.inl 53), .inl w] → S' = S ∧ REnd M M' rv_ (spCore (cM M) w), 0, 0)
theorem r_X7_core : ∀ as S M, q_X7_core.2.1 as S M → ∃ (k : Nat) (as' : List x_V) (fs : List (Option Nat)), as = .inr (.inl k) :: as' ∧ S[k]? = some (.inl (5, fs)) := by
  rintro as S M ⟨w, c, -, rfl, rfl⟩
  exact ⟨53, _, _, rfl, rfl⟩
def b_X7_core : x_B := [(0, 2, [(.iload_n 1, 1), (.invokestatic 135, 3), (.ifCond .ne 10, 3), (.aload_n 0, 1), (.bipush (-2), 2), (.invokevirtual 93, 3), (.ireturn, 1)]),
  (14, 2, [(.aload_n 0, 1), (.iload_n 1, 1), (.iconst 0, 1), (.invokevirtual 142, 3), (.ifCond .eq 5, 3), (.iconst 0, 1), (.ireturn, 1)]),
  (25, 2, [(.iconst 0, 1), (.istore_n 2, 1), (.iconst 0, 1), (.istore_n 3, 1), (.aload_n 0, 1), (.getfield 104, 3), (.iconst 1, 1), (.isub, 1), (.istore 4, 2)]),
  (37, 5, [(.iload 4, 2), (.ifCond .lt 50, 3), (.aload_n 0, 1), (.getfield 31, 3), (.iload 4, 2), (.baload, 1), (.ifCond .eq 34, 3), (.aload_n 0, 1), (.iload_n 1, 1), (.iload_n 2, 1), (.iconst 1, 1), (.iload 4, 2), (.ishl, 1), (.ior, 1), (.invokevirtual 142, 3), (.ifCond .eq 13, 3), (.iload_n 3, 1), (.iconst 1, 1), (.iload 4, 2), (.ishl, 1), (.ior, 1), (.istore_n 3, 1), (.goto 10, 3)]),
  (76, 5, [(.iload_n 2, 1), (.iconst 1, 1), (.iload 4, 2), (.ishl, 1), (.ior, 1), (.istore_n 2, 1)]),
  (83, 5, [(.iinc 4 (-1), 3), (.goto (-49), 3)]),
  (89, 5, [(.iload_n 3, 1), (.ireturn, 1)])]
theorem b_X7_core_ok : x_okB cX7_core 5 b_X7_core = true := by decide +kernel
def X_X7_core : x_X := ([(104, 5, 4), (31, 5, 8)], [], [], [], [(405, q_X7_isWay), (280, q_X7_refuse), (427, q_X7_canBeWithout)], (0, 0), x_kn, x_kf, 5, false)
theorem X_X7_core_ok : x_okT RX7 X_X7_core = true := by decide +kernel
theorem k_X7_core (l : Launch) : ∀ z ∈ X_X7_core.2.2.2.2.1, x_Cal l (x_rm 5 0 0) cX7_core RX7 5 z.1 z.2 := List.forall_mem_cons.mpr ⟨x_cal_S (idx := 135) (c_X7_isWay l) ⟨by decide, by decide⟩ (by decide +kernel) (by decide +kernel) (by decide +kernel) (by decide +kernel) (by decide +kernel), List.forall_mem_cons.mpr ⟨x_cal_V (idx := 93) (ci := 5) (n := 1) (c_X7_refuse l) ⟨by decide, by decide⟩ (by decide +kernel) (by decide +kernel) (by decide +kernel) (by decide +kernel) (by decide +kernel) rfl rfl rfl (by decide +kernel) r_X7_refuse, List.forall_mem_cons.mpr ⟨x_cal_V (idx := 142) (ci := 5) (n := 2) (c_X7_canBeWithout l) ⟨by decide, by decide⟩ (by decide +kernel) (by decide +kernel) (by decide +kernel) (by decide +kernel) (by decide +kernel) rfl rfl rfl (by decide +kernel) r_X7_canBeWithout, fun _ h => absurd h List.not_mem_nil⟩⟩⟩
set_option maxHeartbeats 4000000 in
set_option maxRecDepth 100000 in
theorem c_X7_core (l : Launch) : x_CT l yX7_core cX7_core 5 (some .int) 5 q_X7_core := by
  refine x_meth (X := X_X7_core) (bl := b_X7_core) (cut := [37]) (own := RX7) 30 (by decide) rfl X_X7_core_ok b_X7_core_ok rfl (Nat.le_of_ble_eq_true rfl) (k_X7_core l) ?_
  rintro as S M - ⟨w, c, hRI, rfl, rfl⟩
  have hok := hRI.2.1
  have hV := hRI.2
  have hTb := hRI.1
  refine ⟨fun μ pc ls st S' M' cs sl => ∃ (wn j wi sy : Nat), wn < 2 ∧ w = nI wn ∧ ¬ Sat (tF (cM M) wn) ∧ j ≤ nN (cM M) ∧ wi < 2 ^ 30 ∧ sy < 2 ^ 30 ∧ Rk M M' ∧ ckF (nA (cM M)) (nB (cM M)) (nS (cM M) wn) (nN (cM M)) (rmv (tbf (cM M 7) (nN (cM M))) wi) j = coM (cM M) wn ∧ (∀ i, i < j → wi.testBit i = false) ∧ (∀ t, t < 32 → (sy.testBit t = true ↔ j ≤ t ∧ (rmv (tbf (cM M 7) (nN (cM M))) wi).testBit t = true)) ∧ pc = 37 ∧ st = [] ∧ S' = SH ∧ cs = 0 ∧ sl = 0 ∧ ls = [.inr (.inl 53), .inl (nI wn), .inl (nI wi), .inl (nI sy), .inl (nI j - nI 1)] ∧ μ = j + 1, ?_, ?_⟩
  · skip
    refine xt_blk rfl rfl (by dsimp only [List.take]) ?_
    refine xt_iln1 rfl ?_
    refine xt_v1 (key := 405) (q := q_X7_isWay) rfl rfl rfl rfl rfl ⟨Nat.le_of_ble_eq_true rfl, Nat.le_of_ble_eq_true rfl⟩ ⟨_, rfl⟩ (fun rv_ S1 M_1 hq_1 => ?_)
    obtain ⟨eS_, eM_, h_c1⟩ := hq_1 _ rfl
    replace eS_ := eS_.symm
    replace eM_ := eM_.symm
    subst eS_ eM_
    have hex_c1 : ∃ v, rv_ = some (.inl v) := by rcases h_c1 with ⟨-, e⟩ | ⟨-, e⟩ <;> exact ⟨_, e⟩
    obtain ⟨v_c1, rfl⟩ := hex_c1
    simp only [Option.some.injEq, Sum.inl.injEq] at h_c1
    try dsimp only [Option.toList, List.cons_append, List.nil_append]
    refine xt_ne (t := 14) rfl (fun hc_4 => ?_) (fun hc_4 => ?_)
    · skip
      have k_1 := k_yes h_c1 hc_4
      obtain ⟨wn, hwn, ewn⟩ := id k_1
      subst ewn
      have vw : nv (nI wn) = wn := nv_nI (by omega)
      refine xt_blk rfl rfl (by dsimp only [List.take]) ?_
      refine xt_aln0 rfl (by first | decide | omega | assumption) ?_
      refine xt_iln1 rfl ?_
      refine xt_ic ?_
      refine xt_v3 (key := 427) (q := q_X7_canBeWithout) rfl rfl rfl rfl rfl ⟨Nat.le_of_ble_eq_true rfl, Nat.le_of_ble_eq_true rfl⟩ ⟨wn, 0, c, hwn, by decide, hRI, rfl, rfl⟩ (fun rv_ S1 M_17 hq_17 => ?_)
      obtain ⟨eS_, hRk, hpos⟩ := hq_17 wn 0 hwn (by decide) rfl
      replace eS_ := eS_.symm
      subst eS_
      rw [tN_0 hok wn] at hpos
      have hex : ∃ v, rv_ = some (.inl v) := by rcases hpos with ⟨e, -⟩ | ⟨e, -⟩ <;> exact ⟨_, e⟩
      obtain ⟨v, rfl⟩ := hex
      simp only [Option.some.injEq, Sum.inl.injEq] at hpos
      try dsimp only [Option.toList, List.cons_append, List.nil_append]
      refine xt_eq (t := 25) rfl (fun hc_20 => ?_) (fun hc_20 => ?_)
      · skip
        have hsat : ¬ Sat (tF (cM M) wn) := by
          rcases hpos with ⟨e, -⟩ | ⟨-, z⟩
          · rw [e] at hc_20; exact absurd hc_20 (by decide)
          · exact z
        have hsz : M 53 4 = nI (nN (cM M)) := hok.2.1
        have hsz2 : M_17 53 4 = nI (nN (cM M)) := by rw [hRk 53 (by decide) (by decide)]; exact hsz
        refine xt_blk rfl rfl (by dsimp only [List.take]) ?_
        refine xt_ic ?_
        refine xt_isn2 rfl (by dsimp only [x_sto]) ?_
        refine xt_ic ?_
        refine xt_isn3 rfl (by dsimp only [x_sto]) ?_
        refine xt_aln0 rfl (by first | decide | omega | assumption) ?_
        refine xt_gfi (q := (5, 4)) rfl (by first | rfl | assumption) rfl ?_
        refine xt_ic ?_
        refine xt_sub ?_
        refine xt_ist rfl (by dsimp only [x_sto]) ?_
        refine xt_nil (t := 37) rfl ?_
        refine xt_cut rfl rfl (by dsimp only [List.take]) ?_
        rw [hsz2]
        refine ⟨_, wn, nN (cM M), 0, 0, hwn, rfl, hsat, Nat.le_refl _, by decide, by decide, hRk, ?_, fun i hi => by simp, fun t ht => ?_, rfl, rfl, rfl, rfl, rfl, rfl, rfl⟩
        · rw [rmv_0 (Nat.lt_of_lt_of_le (tbf_30 _ hok.1) (by decide))]; rfl
        · rw [rmv_0 (Nat.lt_of_lt_of_le (tbf_30 _ hok.1) (by decide))]
          simp only [Nat.zero_testBit, Bool.false_eq_true, false_iff, not_and]
          intro h1 h2
          rw [tbf_tb] at h2
          simp at h2
          omega
      · skip
        have hfs : ∃ s, Fs (tF (cM M) wn) s ∧ R540 M_17 s := by
          rcases hpos with ⟨-, z⟩ | ⟨e, -⟩
          · exact z
          · rw [e] at hc_20; exact absurd rfl hc_20
        obtain ⟨s, hFs, hR⟩ := hfs
        have hsat := Fs_Sat hFs
        refine xt_ic ?_
        refine xt_ri rfl (Nat.le_refl _) ?_
        intro w2 e2
        simp only [List.cons.injEq, Sum.inl.injEq, and_true, true_and] at e2
        subst e2
        refine ⟨rfl, RE_k hRk ?_⟩
        unfold spCore
        rw [cif_t k_1, vw, cif_t hsat]
    · skip
      have k_1 := k_no h_c1 hc_4
      refine xt_aln0 rfl (by first | decide | omega | assumption) ?_
      refine xt_bim rfl ?_
      refine xt_v2 (key := 280) (q := q_X7_refuse) rfl rfl rfl rfl rfl ⟨Nat.le_of_ble_eq_true rfl, Nat.le_of_ble_eq_true rfl⟩ ⟨2, by decide, by decide, rfl, rfl⟩ (fun rv_ S1 M_10 hq_10 => ?_)
      obtain ⟨eS_, eM_, rfl⟩ := hq_10 2 (by decide) (by decide) rfl
      replace eS_ := eS_.symm
      replace eM_ := eM_.symm
      subst eS_ eM_
      try dsimp only [Option.toList, List.cons_append, List.nil_append]
      refine xt_ri rfl (Nat.le_refl _) ?_
      intro w2 e2
      simp only [List.cons.injEq, Sum.inl.injEq, and_true, true_and] at e2
      subst e2
      refine ⟨rfl, RE_R ?_⟩
      unfold spCore
      rw [cif_f k_1]
  · rintro μ pc ls st S2 M2 cs sl (⟨wn, j, wi, sy, hwn, rfl, hsat, hj, hwi, hsy, hRk, hck, hW, hst, rfl, rfl, rfl, rfl, rfl, rfl, rfl⟩)
    · refine ⟨_, rfl, ?_⟩
      refine xt_ild rfl ?_
      refine xt_lt (t := 89) rfl (fun hc_39 => ?_) (fun hc_39 => ?_)
      · skip
        refine xt_blk rfl rfl (by dsimp only [List.take]) ?_
        refine xt_iln3 rfl ?_
        refine xt_ri rfl (Nat.le_refl _) ?_
        intro w2 e2
        simp only [List.cons.injEq, Sum.inl.injEq, and_true, true_and] at e2
        subst e2
        have k_1 : Th 2 (nI wn) := ⟨wn, hwn, rfl⟩
        have vw : nv (nI wn) = wn := nv_nI (by omega)
        have hj0 : j = 0 := (n_m1 (by have := hok.1; omega)).mp hc_39
        subst hj0
        have hfin : sy = coM (cM M) wn := by
          rw [← hck]
          show sy = rmv (tbf (cM M 7) (nN (cM M))) wi
          apply Nat.eq_of_testBit_eq
          intro t
          by_cases ht : t < 32
          · rw [Bool.eq_iff_iff, hst t ht]; exact ⟨fun h => h.2, fun h => ⟨by omega, h⟩⟩
          · rw [Nat.testBit_lt_two_pow (Nat.lt_of_lt_of_le hsy (Nat.pow_le_pow_right (by decide) (by omega))), Nat.testBit_lt_two_pow (Nat.lt_of_le_of_lt (rmv_le _ _) (Nat.lt_of_lt_of_le (tbf_30 _ hok.1) (Nat.pow_le_pow_right (by decide) (by omega))))]
        refine ⟨rfl, RE_k hRk ?_⟩
        unfold spCore
        rw [cif_t k_1, vw, cif_f hsat, hfin]
      · skip
        have hn30 := hok.1
        have hj0 : j ≠ 0 := fun e => hc_39 ((n_m1 (by omega)).mpr e)
        obtain ⟨i, rfl⟩ : ∃ i, j = i + 1 := ⟨j - 1, by omega⟩
        rw [n_s1 i]
        have hi30 : i < 30 := by omega
        have hpw : 2 ^ i < 2 ^ 30 := Nat.pow_lt_pow_right (by decide) hi30
        have esh : nI 1 <<< (nI i &&& 31) = nI (2 ^ i) := by rw [n_shl (by omega) (by omega), Nat.one_mul]
        have e61 : M2 61 (nI i).toNatClampNeg = M 61 i := by rw [nI_clamp (by omega), hRk 61 (by decide) (by decide)]
        have htb : (tbf (cM M 7) (nN (cM M))).testBit i = decide (M 61 i ≠ 0) := by
          rw [tbf_tb, cM_7]; simp; omega
        have hkb : (rmv (tbf (cM M 7) (nN (cM M))) wi).testBit i = decide (M 61 i ≠ 0) := by
          rw [rmv_tb (by omega), hW i (by omega), htb]; simp
        refine xt_aln0 rfl (by first | decide | omega | assumption) ?_
        refine xt_gfr (q := (5, 8)) rfl (by first | rfl | assumption) rfl ?_
        refine xt_ild rfl ?_
        refine xt_bal (by first | rfl | assumption) (show vp_in _ 30 from vp_in_nI (by omega) (by decide)) ?_
        refine xt_eq (t := 83) rfl (fun hc_49 => ?_) (fun hc_49 => ?_)
        · skip
          refine xt_blk rfl rfl (by dsimp only [List.take]) ?_
          refine xt_dec rfl rfl (by dsimp only [x_sto]) ?_
          refine xt_goto (t := 37) rfl ?_
          refine xt_cut rfl rfl (by dsimp only [List.take]) ?_
          rw [e61] at hc_49
          have hkf : ¬ (rmv (tbf (cM M 7) (nN (cM M))) wi).testBit i = true := by rw [hkb, hc_49]; decide
          refine ⟨i + 1, by omega, wn, i, wi, sy, hwn, rfl, hsat, by omega, hwi, hsy, hRk, ?_, ?_, ?_, rfl, rfl, rfl, rfl, rfl, by rw [Int32.sub_eq_add_neg], rfl⟩
          · rw [← hck]; exact (ckF_n (fun q => absurd q hkf)).symm
          · exact fun t ht => hW t (by omega)
          · intro t ht
            rw [hst t ht]
            refine ⟨fun h => ⟨by omega, h.2⟩, fun h => ⟨?_, h.2⟩⟩
            by_cases e : t = i
            · subst e; exact absurd h.2 hkf
            · omega
        · skip
          refine xt_aln0 rfl (by first | decide | omega | assumption) ?_
          refine xt_iln1 rfl ?_
          refine xt_iln2 rfl ?_
          refine xt_ic ?_
          refine xt_ild rfl ?_
          refine xt_shl ?_
          refine xt_or ?_
          refine xt_v3 (key := 427) (q := q_X7_canBeWithout) rfl rfl rfl rfl rfl ⟨Nat.le_of_ble_eq_true rfl, Nat.le_of_ble_eq_true rfl⟩ ⟨wn, wi ||| 2 ^ i, c, hwn, Nat.lt_of_lt_of_le (n_lt_or (k := 30) hwi hpw) (by decide), ⟨Rk_Tb hRk hTb, by rw [Rk_c hRk]; exact hV⟩, rfl, by rw [esh, n_or]⟩ (fun rv_ S1 M_60 hq_60 => ?_)
          obtain ⟨eS_, hRk2, hpos⟩ := hq_60 wn (wi ||| 2 ^ i) hwn (Nat.lt_of_lt_of_le (n_lt_or (k := 30) hwi hpw) (by decide)) (by rw [esh, n_or])
          replace eS_ := eS_.symm
          subst eS_
          rw [Rk_c hRk] at hpos
          have hRk3 := Rk_tr hRk hRk2
          have hex : ∃ v, rv_ = some (.inl v) := by rcases hpos with ⟨e, -⟩ | ⟨e, -⟩ <;> exact ⟨_, e⟩
          obtain ⟨v, rfl⟩ := hex
          simp only [Option.some.injEq, Sum.inl.injEq] at hpos
          have hclr : tN (cM M) wn (wi ||| 2 ^ i) = wnF (nA (cM M)) (nB (cM M)) (nS (cM M) wn) (clr (rmv (tbf (cM M 7) (nN (cM M))) wi) i) (nN (cM M)) := by
            unfold tN; rw [rmv_or (tbf_30 _ hok.1) hi30]
          rw [hclr] at hpos
          try dsimp only [Option.toList, List.cons_append, List.nil_append]
          refine xt_eq (t := 76) rfl (fun hc_63 => ?_) (fun hc_63 => ?_)
          · skip
            refine xt_blk rfl rfl (by dsimp only [List.take]) ?_
            refine xt_iln2 rfl ?_
            refine xt_ic ?_
            refine xt_ild rfl ?_
            refine xt_shl ?_
            refine xt_or ?_
            refine xt_isn2 rfl (by dsimp only [x_sto]) ?_
            refine xt_nil (t := 83) rfl ?_
            refine xt_blk rfl rfl (by dsimp only [List.take]) ?_
            refine xt_dec rfl rfl (by dsimp only [x_sto]) ?_
            refine xt_goto (t := 37) rfl ?_
            refine xt_cut rfl rfl (by dsimp only [List.take]) ?_
            rw [e61] at hc_49
            have hkt : (rmv (tbf (cM M 7) (nN (cM M))) wi).testBit i = true := by rw [hkb]; simpa using hc_49
            have hsa : ¬ Sat (wnF (nA (cM M)) (nB (cM M)) (nS (cM M) wn) (clr (rmv (tbf (cM M 7) (nN (cM M))) wi) i) (nN (cM M))) := by
              rcases hpos with ⟨e, -⟩ | ⟨-, z⟩
              · rw [e] at hc_63; exact absurd hc_63 (by decide)
              · exact z
            refine ⟨i + 1, by omega, wn, i, wi ||| 2 ^ i, sy, hwn, rfl, hsat, by omega, n_lt_or (k := 30) hwi hpw, hsy, hRk3, ?_, ?_, ?_, rfl, rfl, rfl, rfl, rfl, by rw [esh, n_or, Int32.sub_eq_add_neg], rfl⟩
            · rw [rmv_or (tbf_30 _ hok.1) hi30, ← hck]; exact (ckF_y hkt hsa).symm
            · intro t ht
              rw [Nat.testBit_or, hW t (by omega), Nat.testBit_two_pow]; simp; omega
            · intro t ht
              rw [rmv_or (tbf_30 _ hok.1) hi30, clr_tb (by omega), hst t ht]
              refine ⟨fun h => ⟨by omega, by rw [h.2]; simp; omega⟩, fun h => ?_⟩
              have h2 := h.2
              rw [Bool.and_eq_true] at h2
              refine ⟨?_, h2.1⟩
              have : ¬ i = t := by simpa using h2.2
              omega
          · skip
            refine xt_iln3 rfl ?_
            refine xt_ic ?_
            refine xt_ild rfl ?_
            refine xt_shl ?_
            refine xt_or ?_
            refine xt_isn3 rfl (by dsimp only [x_sto]) ?_
            refine xt_goto (t := 83) rfl ?_
            refine xt_blk rfl rfl (by dsimp only [List.take]) ?_
            refine xt_dec rfl rfl (by dsimp only [x_sto]) ?_
            refine xt_goto (t := 37) rfl ?_
            refine xt_cut rfl rfl (by dsimp only [List.take]) ?_
            rw [e61] at hc_49
            have hkt : (rmv (tbf (cM M 7) (nN (cM M))) wi).testBit i = true := by rw [hkb]; simpa using hc_49
            have hsa : Sat (wnF (nA (cM M)) (nB (cM M)) (nS (cM M) wn) (clr (rmv (tbf (cM M 7) (nN (cM M))) wi) i) (nN (cM M))) := by
              rcases hpos with ⟨-, s, z, -⟩ | ⟨e, -⟩
              · exact Fs_Sat z
              · rw [e] at hc_63; exact absurd rfl hc_63
            refine ⟨i + 1, by omega, wn, i, wi, sy ||| 2 ^ i, hwn, rfl, hsat, by omega, hwi, n_lt_or (k := 30) hsy hpw, hRk3, ?_, ?_, ?_, rfl, rfl, rfl, rfl, rfl, by rw [esh, n_or, Int32.sub_eq_add_neg], rfl⟩
            · rw [← hck]; exact (ckF_n (fun _ => hsa)).symm
            · exact fun t ht => hW t (by omega)
            · intro t ht
              rw [Nat.testBit_or, Nat.testBit_two_pow, Bool.or_eq_true, decide_eq_true_iff, hst t ht]
              refine ⟨fun h => ?_, fun h => ?_⟩
              · rcases h with h | h
                · exact ⟨by omega, h.2⟩
                · subst h; exact ⟨by omega, hkt⟩
              · by_cases e : t = i
                · exact Or.inr e.symm
                · exact Or.inl ⟨by omega, h.2⟩
def q_X7_word : x_K := (4, fun as S M => ∃ (w : Int32) (y : Int32) (s : Int32) (c : Nat), RI c M ∧ S = SH ∧ as = [.inr (.inl 53), .inl w, .inl y, .inl s], fun as S M rv_ S' M' => ∀ (w : Int32) (y : Int32) (s : Int32), as = [.inr (.inl 53), .inl w, .inl y, .inl s] → S' = S ∧ REnd M M' rv_ (spWord (cM M) w y s), 0, 0)
theorem r_X7_word : ∀ as S M, q_X7_word.2.1 as S M → ∃ (k : Nat) (as' : List x_V) (fs : List (Option Nat)), as = .inr (.inl k) :: as' ∧ S[k]? = some (.inl (5, fs)) := by
  rintro as S M ⟨w, y, s, c, -, rfl, rfl⟩
  exact ⟨53, _, _, rfl, rfl⟩
def b_X7_word : x_B := [(0, 4, [(.iload_n 1, 1), (.invokestatic 157, 3), (.ifCond .ne 9, 3), (.aload_n 0, 1), (.iconst (-1), 1), (.invokevirtual 93, 3), (.ireturn, 1)]),
  (13, 4, [(.iload_n 2, 1), (.invokestatic 135, 3), (.ifCond .eq 14, 3), (.iload_n 3, 1), (.iconst 0, 1), (.sipush 8191, 3), (.invokestatic 85, 3), (.ifCond .ne 10, 3)]),
  (31, 4, [(.aload_n 0, 1), (.bipush (-2), 2), (.invokevirtual 93, 3), (.ireturn, 1)]),
  (38, 4, [(.aload_n 0, 1), (.getfield 35, 3), (.iconst 2, 1), (.iload_n 1, 1), (.imul, 1), (.iload_n 2, 1), (.iadd, 1), (.iaload, 1), (.istore 4, 2), (.aload_n 0, 1), (.getfield 35, 3), (.iconst 2, 1), (.iload_n 1, 1), (.imul, 1), (.iload_n 2, 1), (.iadd, 1), (.iload_n 3, 1), (.iastore, 1), (.iload 4, 2), (.ireturn, 1)])]
theorem b_X7_word_ok : x_okB cX7_word 5 b_X7_word = true := by decide +kernel
def X_X7_word : x_X := ([(35, 5, 9)], [], [], [], [(471, q_X7_isWord), (280, q_X7_refuse), (405, q_X7_isWay), (255, q_X7_in)], (0, 0), x_kn, x_kf, 5, false)
theorem X_X7_word_ok : x_okT RX7 X_X7_word = true := by decide +kernel
theorem k_X7_word (l : Launch) : ∀ z ∈ X_X7_word.2.2.2.2.1, x_Cal l (x_rm 3 0 0) cX7_word RX7 5 z.1 z.2 := List.forall_mem_cons.mpr ⟨x_cal_S (idx := 157) (c_X7_isWord l) ⟨by decide, by decide⟩ (by decide +kernel) (by decide +kernel) (by decide +kernel) (by decide +kernel) (by decide +kernel), List.forall_mem_cons.mpr ⟨x_cal_V (idx := 93) (ci := 5) (n := 1) (c_X7_refuse l) ⟨by decide, by decide⟩ (by decide +kernel) (by decide +kernel) (by decide +kernel) (by decide +kernel) (by decide +kernel) rfl rfl rfl (by decide +kernel) r_X7_refuse, List.forall_mem_cons.mpr ⟨x_cal_S (idx := 135) (c_X7_isWay l) ⟨by decide, by decide⟩ (by decide +kernel) (by decide +kernel) (by decide +kernel) (by decide +kernel) (by decide +kernel), List.forall_mem_cons.mpr ⟨x_cal_S (idx := 85) (c_X7_in l) ⟨by decide, by decide⟩ (by decide +kernel) (by decide +kernel) (by decide +kernel) (by decide +kernel) (by decide +kernel), fun _ h => absurd h List.not_mem_nil⟩⟩⟩⟩
set_option maxHeartbeats 4000000 in
set_option maxRecDepth 100000 in
theorem c_X7_word (l : Launch) : x_CT l yX7_word cX7_word 5 (some .int) 3 q_X7_word := by
  refine x_meth (X := X_X7_word) (bl := b_X7_word) (cut := []) (own := RX7) 30 (by decide) rfl X_X7_word_ok b_X7_word_ok rfl (Nat.le_of_ble_eq_true rfl) (k_X7_word l) ?_
  rintro as S M - ⟨w, y, s, c, hRI, rfl, rfl⟩
  have hok := hRI.2.1
  have hV := hRI.2
  have hTb := hRI.1
  refine ⟨fun _ _ _ _ _ _ _ _ => False, ?_, ?_⟩
  · skip
    refine xt_blk rfl rfl (by dsimp only [List.take]) ?_
    refine xt_iln1 rfl ?_
    refine xt_v1 (key := 471) (q := q_X7_isWord) rfl rfl rfl rfl rfl ⟨Nat.le_of_ble_eq_true rfl, Nat.le_of_ble_eq_true rfl⟩ ⟨_, rfl⟩ (fun rv_ S1 M_1 hq_1 => ?_)
    obtain ⟨eS_, eM_, h_c1⟩ := hq_1 _ rfl
    replace eS_ := eS_.symm
    replace eM_ := eM_.symm
    subst eS_ eM_
    have hex_c1 : ∃ v, rv_ = some (.inl v) := by rcases h_c1 with ⟨-, e⟩ | ⟨-, e⟩ <;> exact ⟨_, e⟩
    obtain ⟨v_c1, rfl⟩ := hex_c1
    simp only [Option.some.injEq, Sum.inl.injEq] at h_c1
    try dsimp only [Option.toList, List.cons_append, List.nil_append]
    refine xt_ne (t := 13) rfl (fun hc_4 => ?_) (fun hc_4 => ?_)
    · skip
      have k_1 := k_yes h_c1 hc_4
      refine xt_blk rfl rfl (by dsimp only [List.take]) ?_
      refine xt_iln2 rfl ?_
      refine xt_v1 (key := 405) (q := q_X7_isWay) rfl rfl rfl rfl rfl ⟨Nat.le_of_ble_eq_true rfl, Nat.le_of_ble_eq_true rfl⟩ ⟨_, rfl⟩ (fun rv_ S1 M_14 hq_14 => ?_)
      obtain ⟨eS_, eM_, h_c14⟩ := hq_14 _ rfl
      replace eS_ := eS_.symm
      replace eM_ := eM_.symm
      subst eS_ eM_
      have hex_c14 : ∃ v, rv_ = some (.inl v) := by rcases h_c14 with ⟨-, e⟩ | ⟨-, e⟩ <;> exact ⟨_, e⟩
      obtain ⟨v_c14, rfl⟩ := hex_c14
      simp only [Option.some.injEq, Sum.inl.injEq] at h_c14
      try dsimp only [Option.toList, List.cons_append, List.nil_append]
      refine xt_eq (t := 31) rfl (fun hc_17 => ?_) (fun hc_17 => ?_)
      · skip
        have k_14 := k_no h_c14 hc_17
        refine xt_blk rfl rfl (by dsimp only [List.take]) ?_
        refine xt_aln0 rfl (by first | decide | omega | assumption) ?_
        refine xt_bim rfl ?_
        refine xt_v2 (key := 280) (q := q_X7_refuse) rfl rfl rfl rfl rfl ⟨Nat.le_of_ble_eq_true rfl, Nat.le_of_ble_eq_true rfl⟩ ⟨2, by decide, by decide, rfl, rfl⟩ (fun rv_ S1 M_34 hq_34 => ?_)
        obtain ⟨eS_, eM_, rfl⟩ := hq_34 2 (by decide) (by decide) rfl
        replace eS_ := eS_.symm
        replace eM_ := eM_.symm
        subst eS_ eM_
        try dsimp only [Option.toList, List.cons_append, List.nil_append]
        refine xt_ri rfl (Nat.le_refl _) ?_
        intro w2 y2 s2 e2
        simp only [List.cons.injEq, Sum.inl.injEq, and_true, true_and] at e2
        obtain ⟨rfl, rfl, rfl⟩ := e2
        refine ⟨rfl, RE_R ?_⟩
        unfold spWord
        rw [cif_t k_1, cif_f k_14]
      · skip
        have k_14 := k_yes h_c14 hc_17
        refine xt_iln3 rfl ?_
        refine xt_ic ?_
        refine xt_si ?_
        refine xt_v3 (key := 255) (q := q_X7_in) rfl rfl rfl rfl rfl ⟨Nat.le_of_ble_eq_true rfl, Nat.le_of_ble_eq_true rfl⟩ ⟨_, _, _, rfl⟩ (fun rv_ S1 M_25 hq_25 => ?_)
        obtain ⟨eS_, eM_, h_c25⟩ := hq_25 _ _ _ rfl
        replace eS_ := eS_.symm
        replace eM_ := eM_.symm
        subst eS_ eM_
        have hex_c25 : ∃ v, rv_ = some (.inl v) := by rcases h_c25 with ⟨-, e⟩ | ⟨-, e⟩ <;> exact ⟨_, e⟩
        obtain ⟨v_c25, rfl⟩ := hex_c25
        simp only [Option.some.injEq, Sum.inl.injEq] at h_c25
        replace h_c25 := in_Th (N := 8191) (by decide) h_c25
        try dsimp only [Option.toList, List.cons_append, List.nil_append]
        refine xt_ne (t := 38) rfl (fun hc_28 => ?_) (fun hc_28 => ?_)
        · skip
          have k_25 := k_yes h_c25 hc_28
          obtain ⟨wn, hwn, ewn⟩ := id k_1
          subst ewn
          have vw : nv (nI wn) = wn := nv_nI (by omega)
          obtain ⟨yn, hyn, eyn⟩ := id k_14
          subst eyn
          have vy : nv (nI yn) = yn := nv_nI (by omega)
          refine xt_blk rfl rfl (by dsimp only [List.take]) ?_
          refine xt_aln0 rfl (by first | decide | omega | assumption) ?_
          refine xt_gfr (q := (5, 9)) rfl (by first | rfl | assumption) rfl ?_
          refine xt_ic ?_
          refine xt_iln1 rfl ?_
          refine xt_mul ?_
          refine xt_iln2 rfl ?_
          refine xt_add ?_
          refine xt_ial (by first | rfl | assumption) (vx2w hwn hyn) ?_
          refine xt_ist rfl (by dsimp only [x_sto]) ?_
          refine xt_aln0 rfl (by first | decide | omega | assumption) ?_
          refine xt_gfr (q := (5, 9)) rfl (by first | rfl | assumption) rfl ?_
          refine xt_ic ?_
          refine xt_iln1 rfl ?_
          refine xt_mul ?_
          refine xt_iln2 rfl ?_
          refine xt_add ?_
          refine xt_iln3 rfl ?_
          refine xt_ias (by first | rfl | assumption) (vx2w hwn hyn) ?_
          refine xt_ild rfl ?_
          refine xt_ri rfl (Nat.le_refl _) ?_
          intro w2 y2 s2 e2
          simp only [List.cons.injEq, Sum.inl.injEq, and_true, true_and] at e2
          obtain ⟨rfl, rfl, rfl⟩ := e2
          rw [ix2w hwn hyn]
          refine ⟨rfl, RE_row (by decide) (by decide) (cM_row62 M hwn hyn s) ?_⟩
          unfold spWord
          rw [cif_t k_1, cif_t k_14, cif_t k_25, vw, vy, cM_w M hwn hyn]
        · skip
          have k_25 := k_no h_c25 hc_28
          refine xt_nil (t := 31) rfl ?_
          refine xt_blk rfl rfl (by dsimp only [List.take]) ?_
          refine xt_aln0 rfl (by first | decide | omega | assumption) ?_
          refine xt_bim rfl ?_
          refine xt_v2 (key := 280) (q := q_X7_refuse) rfl rfl rfl rfl rfl ⟨Nat.le_of_ble_eq_true rfl, Nat.le_of_ble_eq_true rfl⟩ ⟨2, by decide, by decide, rfl, rfl⟩ (fun rv_ S1 M_34 hq_34 => ?_)
          obtain ⟨eS_, eM_, rfl⟩ := hq_34 2 (by decide) (by decide) rfl
          replace eS_ := eS_.symm
          replace eM_ := eM_.symm
          subst eS_ eM_
          try dsimp only [Option.toList, List.cons_append, List.nil_append]
          refine xt_ri rfl (Nat.le_refl _) ?_
          intro w2 y2 s2 e2
          simp only [List.cons.injEq, Sum.inl.injEq, and_true, true_and] at e2
          obtain ⟨rfl, rfl, rfl⟩ := e2
          refine ⟨rfl, RE_R ?_⟩
          unfold spWord
          rw [cif_t k_1, cif_t k_14, cif_f k_25]
    · skip
      have k_1 := k_no h_c1 hc_4
      refine xt_aln0 rfl (by first | decide | omega | assumption) ?_
      refine xt_icm rfl ?_
      refine xt_v2 (key := 280) (q := q_X7_refuse) rfl rfl rfl rfl rfl ⟨Nat.le_of_ble_eq_true rfl, Nat.le_of_ble_eq_true rfl⟩ ⟨1, by decide, by decide, rfl, rfl⟩ (fun rv_ S1 M_9 hq_9 => ?_)
      obtain ⟨eS_, eM_, rfl⟩ := hq_9 1 (by decide) (by decide) rfl
      replace eS_ := eS_.symm
      replace eM_ := eM_.symm
      subst eS_ eM_
      try dsimp only [Option.toList, List.cons_append, List.nil_append]
      refine xt_ri rfl (Nat.le_refl _) ?_
      intro w2 y2 s2 e2
      simp only [List.cons.injEq, Sum.inl.injEq, and_true, true_and] at e2
      obtain ⟨rfl, rfl, rfl⟩ := e2
      refine ⟨rfl, RE_R ?_⟩
      unfold spWord
      rw [cif_f k_1]
  · intro μ pc ls st S2 M2 cs sl h; exact h.elim
def q_X7_say : x_K := (4, fun as S M => ∃ (w : Int32) (a : Int32) (b : Int32) (c : Nat), RI c M ∧ S = SH ∧ as = [.inr (.inl 53), .inl w, .inl a, .inl b], fun as S M rv_ S' M' => ∀ (w : Int32) (a : Int32) (b : Int32), as = [.inr (.inl 53), .inl w, .inl a, .inl b] → S' = S ∧ REnd M M' rv_ (spSay (cM M) w a b), 0, 0)
theorem r_X7_say : ∀ as S M, q_X7_say.2.1 as S M → ∃ (k : Nat) (as' : List x_V) (fs : List (Option Nat)), as = .inr (.inl k) :: as' ∧ S[k]? = some (.inl (5, fs)) := by
  rintro as S M ⟨w, a, b, c, -, rfl, rfl⟩
  exact ⟨53, _, _, rfl, rfl⟩
def b_X7_say : x_B := [(0, 4, [(.iload_n 1, 1), (.invokestatic 157, 3), (.ifCond .eq 11, 3), (.iload_n 2, 1), (.iload_n 3, 1), (.invokestatic 108, 3), (.ifCond .ne 9, 3)]),
  (15, 4, [(.aload_n 0, 1), (.iconst (-1), 1), (.invokevirtual 93, 3), (.ireturn, 1)]),
  (21, 4, [(.aload_n 0, 1), (.iload_n 2, 1), (.iload_n 3, 1), (.aload_n 0, 1), (.getfield 35, 3), (.iconst 2, 1), (.iload_n 1, 1), (.imul, 1), (.iaload, 1), (.aload_n 0, 1), (.getfield 35, 3), (.iconst 2, 1), (.iload_n 1, 1), (.imul, 1), (.iconst 1, 1), (.iadd, 1), (.iaload, 1), (.invokevirtual 112, 3), (.ireturn, 1)])]
theorem b_X7_say_ok : x_okB cX7_say 4 b_X7_say = true := by decide +kernel
def X_X7_say : x_X := ([(35, 5, 9)], [], [], [], [(471, q_X7_isWord), (324, q_X7_areTwo), (280, q_X7_refuse), (337, q_X7_add)], (0, 0), x_kn, x_kf, 5, false)
theorem X_X7_say_ok : x_okT RX7 X_X7_say = true := by decide +kernel
theorem k_X7_say (l : Launch) : ∀ z ∈ X_X7_say.2.2.2.2.1, x_Cal l (x_rm 4 0 0) cX7_say RX7 4 z.1 z.2 := List.forall_mem_cons.mpr ⟨x_cal_S (idx := 157) (c_X7_isWord l) ⟨by decide, by decide⟩ (by decide +kernel) (by decide +kernel) (by decide +kernel) (by decide +kernel) (by decide +kernel), List.forall_mem_cons.mpr ⟨x_cal_S (idx := 108) (c_X7_areTwo l) ⟨by decide, by decide⟩ (by decide +kernel) (by decide +kernel) (by decide +kernel) (by decide +kernel) (by decide +kernel), List.forall_mem_cons.mpr ⟨x_cal_V (idx := 93) (ci := 5) (n := 1) (c_X7_refuse l) ⟨by decide, by decide⟩ (by decide +kernel) (by decide +kernel) (by decide +kernel) (by decide +kernel) (by decide +kernel) rfl rfl rfl (by decide +kernel) r_X7_refuse, List.forall_mem_cons.mpr ⟨x_cal_V (idx := 112) (ci := 5) (n := 4) (c_X7_add l) ⟨by decide, by decide⟩ (by decide +kernel) (by decide +kernel) (by decide +kernel) (by decide +kernel) (by decide +kernel) rfl rfl rfl (by decide +kernel) r_X7_add, fun _ h => absurd h List.not_mem_nil⟩⟩⟩⟩
set_option maxHeartbeats 4000000 in
set_option maxRecDepth 100000 in
theorem c_X7_say (l : Launch) : x_CT l yX7_say cX7_say 4 (some .int) 4 q_X7_say := by
  refine x_meth (X := X_X7_say) (bl := b_X7_say) (cut := []) (own := RX7) 30 (by decide) rfl X_X7_say_ok b_X7_say_ok rfl (Nat.le_of_ble_eq_true rfl) (k_X7_say l) ?_
  rintro as S M - ⟨w, a, b, c, hRI, rfl, rfl⟩
  have hok := hRI.2.1
  have hV := hRI.2
  have hTb := hRI.1
  refine ⟨fun _ _ _ _ _ _ _ _ => False, ?_, ?_⟩
  · skip
    refine xt_blk rfl rfl (by dsimp only [List.take]) ?_
    refine xt_iln1 rfl ?_
    refine xt_v1 (key := 471) (q := q_X7_isWord) rfl rfl rfl rfl rfl ⟨Nat.le_of_ble_eq_true rfl, Nat.le_of_ble_eq_true rfl⟩ ⟨_, rfl⟩ (fun rv_ S1 M_1 hq_1 => ?_)
    obtain ⟨eS_, eM_, h_c1⟩ := hq_1 _ rfl
    replace eS_ := eS_.symm
    replace eM_ := eM_.symm
    subst eS_ eM_
    have hex_c1 : ∃ v, rv_ = some (.inl v) := by rcases h_c1 with ⟨-, e⟩ | ⟨-, e⟩ <;> exact ⟨_, e⟩
    obtain ⟨v_c1, rfl⟩ := hex_c1
    simp only [Option.some.injEq, Sum.inl.injEq] at h_c1
    try dsimp only [Option.toList, List.cons_append, List.nil_append]
    refine xt_eq (t := 15) rfl (fun hc_4 => ?_) (fun hc_4 => ?_)
    · skip
      have k_1 := k_no h_c1 hc_4
      refine xt_blk rfl rfl (by dsimp only [List.take]) ?_
      refine xt_aln0 rfl (by first | decide | omega | assumption) ?_
      refine xt_icm rfl ?_
      refine xt_v2 (key := 280) (q := q_X7_refuse) rfl rfl rfl rfl rfl ⟨Nat.le_of_ble_eq_true rfl, Nat.le_of_ble_eq_true rfl⟩ ⟨1, by decide, by decide, rfl, rfl⟩ (fun rv_ S1 M_17 hq_17 => ?_)
      obtain ⟨eS_, eM_, rfl⟩ := hq_17 1 (by decide) (by decide) rfl
      replace eS_ := eS_.symm
      replace eM_ := eM_.symm
      subst eS_ eM_
      try dsimp only [Option.toList, List.cons_append, List.nil_append]
      refine xt_ri rfl (Nat.le_refl _) ?_
      intro w2 a2 b2 e2
      simp only [List.cons.injEq, Sum.inl.injEq, and_true, true_and] at e2
      obtain ⟨rfl, rfl, rfl⟩ := e2
      refine ⟨rfl, RE_R ?_⟩
      unfold spSay
      rw [cif_f k_1]
    · skip
      have k_1 := k_yes h_c1 hc_4
      refine xt_iln2 rfl ?_
      refine xt_iln3 rfl ?_
      refine xt_v2 (key := 324) (q := q_X7_areTwo) rfl rfl rfl rfl rfl ⟨Nat.le_of_ble_eq_true rfl, Nat.le_of_ble_eq_true rfl⟩ ⟨_, _, rfl⟩ (fun rv_ S1 M_9 hq_9 => ?_)
      obtain ⟨eS_, eM_, h_c9⟩ := hq_9 _ _ rfl
      replace eS_ := eS_.symm
      replace eM_ := eM_.symm
      subst eS_ eM_
      have hex_c9 : ∃ v, rv_ = some (.inl v) := by rcases h_c9 with ⟨-, e⟩ | ⟨-, e⟩ <;> exact ⟨_, e⟩
      obtain ⟨v_c9, rfl⟩ := hex_c9
      simp only [Option.some.injEq, Sum.inl.injEq] at h_c9
      try dsimp only [Option.toList, List.cons_append, List.nil_append]
      refine xt_ne (t := 21) rfl (fun hc_12 => ?_) (fun hc_12 => ?_)
      · skip
        have k_9 := k_yes h_c9 hc_12
        obtain ⟨wn, hwn, ewn⟩ := id k_1
        subst ewn
        have vw : nv (nI wn) = wn := nv_nI (by omega)
        refine xt_blk rfl rfl (by dsimp only [List.take]) ?_
        refine xt_aln0 rfl (by first | decide | omega | assumption) ?_
        refine xt_iln2 rfl ?_
        refine xt_iln3 rfl ?_
        refine xt_aln0 rfl (by first | decide | omega | assumption) ?_
        refine xt_gfr (q := (5, 9)) rfl (by first | rfl | assumption) rfl ?_
        refine xt_ic ?_
        refine xt_iln1 rfl ?_
        refine xt_mul ?_
        refine xt_ial (by first | rfl | assumption) (vx2z hwn) ?_
        refine xt_aln0 rfl (by first | decide | omega | assumption) ?_
        refine xt_gfr (q := (5, 9)) rfl (by first | rfl | assumption) rfl ?_
        refine xt_ic ?_
        refine xt_iln1 rfl ?_
        refine xt_mul ?_
        refine xt_ic ?_
        refine xt_add ?_
        refine xt_ial (by first | rfl | assumption) (vx2w hwn (by decide)) ?_
        refine xt_v5 (key := 337) (q := q_X7_add) rfl rfl rfl rfl rfl ⟨Nat.le_of_ble_eq_true rfl, Nat.le_of_ble_eq_true rfl⟩ ⟨_, _, _, _, c, hRI, rfl, rfl⟩ (fun rv_ S1 M_42 hq_42 => ?_)
        obtain ⟨eS_, hE⟩ := hq_42 _ _ _ _ rfl
        replace eS_ := eS_.symm
        subst eS_
        obtain ⟨v, rfl⟩ : ∃ v, rv_ = some (.inl v) := ⟨_, hE.2.2.1⟩
        try dsimp only [Option.toList, List.cons_append, List.nil_append]
        refine xt_ri rfl (Nat.le_refl _) ?_
        intro w2 a2 b2 e2
        simp only [List.cons.injEq, Sum.inl.injEq, and_true, true_and] at e2
        obtain ⟨rfl, rfl, rfl⟩ := e2
        rw [ix2z hwn, show (nI 2 * nI wn + nI 1).toNatClampNeg = 2 * wn + 1 from ix2w hwn (by decide)] at hE
        refine ⟨rfl, ?_⟩
        unfold spSay
        rw [cif_t k_1, cif_t k_9, vw, cM_w M hwn (by decide), cM_w M hwn (by decide)]
        exact hE
      · skip
        have k_9 := k_no h_c9 hc_12
        refine xt_nil (t := 15) rfl ?_
        refine xt_blk rfl rfl (by dsimp only [List.take]) ?_
        refine xt_aln0 rfl (by first | decide | omega | assumption) ?_
        refine xt_icm rfl ?_
        refine xt_v2 (key := 280) (q := q_X7_refuse) rfl rfl rfl rfl rfl ⟨Nat.le_of_ble_eq_true rfl, Nat.le_of_ble_eq_true rfl⟩ ⟨1, by decide, by decide, rfl, rfl⟩ (fun rv_ S1 M_17 hq_17 => ?_)
        obtain ⟨eS_, eM_, rfl⟩ := hq_17 1 (by decide) (by decide) rfl
        replace eS_ := eS_.symm
        replace eM_ := eM_.symm
        subst eS_ eM_
        try dsimp only [Option.toList, List.cons_append, List.nil_append]
        refine xt_ri rfl (Nat.le_refl _) ?_
        intro w2 a2 b2 e2
        simp only [List.cons.injEq, Sum.inl.injEq, and_true, true_and] at e2
        obtain ⟨rfl, rfl, rfl⟩ := e2
        refine ⟨rfl, RE_R ?_⟩
        unfold spSay
        rw [cif_t k_1, cif_f k_9]
  · intro μ pc ls st S2 M2 cs sl h; exact h.elim
def q_X7_box : x_K := (6, fun as S M => ∃ (t : Int32) (a : Int32) (z : Int32) (b : Int32) (y : Int32) (c : Nat), RI c M ∧ S = SH ∧ as = [.inr (.inl 53), .inl t, .inl a, .inl z, .inl b, .inl y], fun as S M rv_ S' M' => ∀ (t : Int32) (a : Int32) (z : Int32) (b : Int32) (y : Int32), as = [.inr (.inl 53), .inl t, .inl a, .inl z, .inl b, .inl y] → S' = S ∧ REnd M M' rv_ (spBox (cM M) t a z b y), 0, 0)
theorem r_X7_box : ∀ as S M, q_X7_box.2.1 as S M → ∃ (k : Nat) (as' : List x_V) (fs : List (Option Nat)), as = .inr (.inl k) :: as' ∧ S[k]? = some (.inl (5, fs)) := by
  rintro as S M ⟨t, a, z, b, y, c, -, rfl, rfl⟩
  exact ⟨53, _, _, rfl, rfl⟩
def b_X7_box : x_B := [(0, 6, [(.iload_n 1, 1), (.invokestatic 100, 3), (.ifCond .ne 9, 3), (.aload_n 0, 1), (.iconst (-1), 1), (.invokevirtual 93, 3), (.ireturn, 1)]),
  (13, 6, [(.iload_n 2, 1), (.ifCond .lt 20, 3), (.iload 4, 2), (.ifCond .lt 15, 3), (.iload_n 3, 1), (.iload_n 2, 1), (.if_icmp .le 10, 3), (.iload 5, 2), (.iload 4, 2), (.if_icmp .gt 10, 3)]),
  (34, 6, [(.aload_n 0, 1), (.bipush (-4), 2), (.invokevirtual 93, 3), (.ireturn, 1)]),
  (41, 6, [(.iload_n 3, 1), (.bipush 99, 2), (.if_icmp .gt 10, 3), (.iload 5, 2), (.bipush 99, 2), (.if_icmp .le 10, 3)]),
  (54, 6, [(.aload_n 0, 1), (.bipush (-6), 2), (.invokevirtual 93, 3), (.ireturn, 1)]),
  (61, 6, [(.aload_n 0, 1), (.getfield 38, 3), (.iload_n 1, 1), (.baload, 1), (.istore 6, 2), (.aload_n 0, 1), (.getfield 38, 3), (.iload_n 1, 1), (.iconst 1, 1), (.bastore, 1), (.aload_n 0, 1), (.getfield 41, 3), (.iconst 4, 1), (.iload_n 1, 1), (.imul, 1), (.iload_n 2, 1), (.iastore, 1), (.aload_n 0, 1), (.getfield 41, 3), (.iconst 4, 1), (.iload_n 1, 1), (.imul, 1), (.iconst 1, 1), (.iadd, 1), (.iload_n 3, 1), (.iastore, 1), (.aload_n 0, 1), (.getfield 41, 3), (.iconst 4, 1), (.iload_n 1, 1), (.imul, 1), (.iconst 2, 1), (.iadd, 1), (.iload 4, 2), (.iastore, 1), (.aload_n 0, 1), (.getfield 41, 3), (.iconst 4, 1), (.iload_n 1, 1), (.imul, 1), (.iconst 3, 1), (.iadd, 1), (.iload 5, 2), (.iastore, 1), (.iload 6, 2), (.ifCond .eq 7, 3), (.iconst 0, 1), (.goto 4, 3)]),
  (129, 7, [(.iconst 1, 1)]),
  (130, 7, [(.ireturn, 1)])]
theorem b_X7_box_ok : x_okB cX7_box 7 b_X7_box = true := by decide +kernel
def X_X7_box : x_X := ([(38, 5, 10), (41, 5, 11)], [], [], [], [(300, q_X7_isThing), (280, q_X7_refuse)], (0, 0), x_kn, x_kf, 5, false)
theorem X_X7_box_ok : x_okT RX7 X_X7_box = true := by decide +kernel
theorem k_X7_box (l : Launch) : ∀ z ∈ X_X7_box.2.2.2.2.1, x_Cal l (x_rm 3 0 0) cX7_box RX7 7 z.1 z.2 := List.forall_mem_cons.mpr ⟨x_cal_S (idx := 100) (c_X7_isThing l) ⟨by decide, by decide⟩ (by decide +kernel) (by decide +kernel) (by decide +kernel) (by decide +kernel) (by decide +kernel), List.forall_mem_cons.mpr ⟨x_cal_V (idx := 93) (ci := 5) (n := 1) (c_X7_refuse l) ⟨by decide, by decide⟩ (by decide +kernel) (by decide +kernel) (by decide +kernel) (by decide +kernel) (by decide +kernel) rfl rfl rfl (by decide +kernel) r_X7_refuse, fun _ h => absurd h List.not_mem_nil⟩⟩
theorem RE_draw {M : x_M} {t : Nat} (ht : t < 6) {a z b y v : Int32} {p : Int32 × x_M} (hp : p = (v, mDraw (cM M) t a z b y)) : REnd M (x_row (x_row M 63 (upd (M 63) t (nI 1))) 64 (upd (upd (upd (upd (M 64) (4 * t) a) (4 * t + 1) z) (4 * t + 2) b) (4 * t + 3) y)) (some (.inl v)) p := by
  subst hp
  refine ⟨fun k hk => by rw [x_row_ne _ _ (by omega), x_row_ne _ _ (by omega)], fun q => Tb_keep q (fun k hk => by rw [x_row_ne _ _ (by omega), x_row_ne _ _ (by omega)]), rfl, ?_⟩
  rw [cM_row64, cM_row63]
  funext k
  show _ = mDraw (cM M) t a z b y k
  unfold mDraw
  rw [Nat.mul_comm t 4]
  by_cases h : k = 42
  · subst h; rfl
  · rw [if_neg h]
    by_cases h2 : k = 41
    · subst h2; rfl
    · rw [if_neg h2, x_row_ne _ _ h2, x_row_ne _ _ h]
theorem n41 {t : Nat} (ht : t < 6) : (nI 4 * nI t).toNatClampNeg = 4 * t := by rw [pk_mul, nI_clamp (by omega)]
theorem n42 {t i : Nat} (ht : t < 6) (hi : i < 4) : (nI 4 * nI t + nI i).toNatClampNeg = 4 * t + i := by rw [pk_mul, nI_add, nI_clamp (by omega)]
theorem v41 {t : Nat} (ht : t < 6) : vp_in (nI 4 * nI t) 24 := by rw [pk_mul]; exact vp_in_nI (by omega) (by decide)
theorem v42 {t i : Nat} (ht : t < 6) (hi : i < 4) : vp_in (nI 4 * nI t + nI i) 24 := by rw [pk_mul, nI_add]; exact vp_in_nI (by omega) (by decide)
set_option maxHeartbeats 4000000 in
set_option maxRecDepth 100000 in
theorem c_X7_box (l : Launch) : x_CT l yX7_box cX7_box 7 (some .int) 3 q_X7_box := by
  refine x_meth (X := X_X7_box) (bl := b_X7_box) (cut := []) (own := RX7) 30 (by decide) rfl X_X7_box_ok b_X7_box_ok rfl (Nat.le_of_ble_eq_true rfl) (k_X7_box l) ?_
  rintro as S M - ⟨t, a, z, b, y, c, hRI, rfl, rfl⟩
  have hok := hRI.2.1
  have hV := hRI.2
  have hTb := hRI.1
  refine ⟨fun _ _ _ _ _ _ _ _ => False, ?_, ?_⟩
  · skip
    refine xt_blk rfl rfl (by dsimp only [List.take]) ?_
    refine xt_iln1 rfl ?_
    refine xt_v1 (key := 300) (q := q_X7_isThing) rfl rfl rfl rfl rfl ⟨Nat.le_of_ble_eq_true rfl, Nat.le_of_ble_eq_true rfl⟩ ⟨_, rfl⟩ (fun rv_ S1 M_1 hq_1 => ?_)
    obtain ⟨eS_, eM_, h_c1⟩ := hq_1 _ rfl
    replace eS_ := eS_.symm
    replace eM_ := eM_.symm
    subst eS_ eM_
    have hex_c1 : ∃ v, rv_ = some (.inl v) := by rcases h_c1 with ⟨-, e⟩ | ⟨-, e⟩ <;> exact ⟨_, e⟩
    obtain ⟨v_c1, rfl⟩ := hex_c1
    simp only [Option.some.injEq, Sum.inl.injEq] at h_c1
    try dsimp only [Option.toList, List.cons_append, List.nil_append]
    refine xt_ne (t := 13) rfl (fun hc_4 => ?_) (fun hc_4 => ?_)
    · skip
      have k_1 := k_yes h_c1 hc_4
      refine xt_blk rfl rfl (by dsimp only [List.take]) ?_
      refine xt_iln2 rfl ?_
      refine xt_lt (t := 34) rfl (fun hc_14 => ?_) (fun hc_14 => ?_)
      · skip
        have k_4 : a < nI 0 ∨ b < nI 0 ∨ z ≤ a ∨ y ≤ b := Or.inl hc_14
        refine xt_blk rfl rfl (by dsimp only [List.take]) ?_
        refine xt_aln0 rfl (by first | decide | omega | assumption) ?_
        refine xt_bim rfl ?_
        refine xt_v2 (key := 280) (q := q_X7_refuse) rfl rfl rfl rfl rfl ⟨Nat.le_of_ble_eq_true rfl, Nat.le_of_ble_eq_true rfl⟩ ⟨4, by decide, by decide, rfl, rfl⟩ (fun rv_ S1 M_37 hq_37 => ?_)
        obtain ⟨eS_, eM_, rfl⟩ := hq_37 4 (by decide) (by decide) rfl
        replace eS_ := eS_.symm
        replace eM_ := eM_.symm
        subst eS_ eM_
        try dsimp only [Option.toList, List.cons_append, List.nil_append]
        refine xt_ri rfl (Nat.le_refl _) ?_
        intro t2 a2 z2 b2 y2 e2
        simp only [List.cons.injEq, Sum.inl.injEq, and_true, true_and] at e2
        obtain ⟨rfl, rfl, rfl, rfl, rfl⟩ := e2
        refine ⟨rfl, RE_R ?_⟩
        unfold spBox
        rw [cif_t k_1, cif_t k_4]
      · skip
        refine xt_ild rfl ?_
        refine xt_lt (t := 34) rfl (fun hc_19 => ?_) (fun hc_19 => ?_)
        · skip
          have k_4 : a < nI 0 ∨ b < nI 0 ∨ z ≤ a ∨ y ≤ b := Or.inr (Or.inl hc_19)
          refine xt_blk rfl rfl (by dsimp only [List.take]) ?_
          refine xt_aln0 rfl (by first | decide | omega | assumption) ?_
          refine xt_bim rfl ?_
          refine xt_v2 (key := 280) (q := q_X7_refuse) rfl rfl rfl rfl rfl ⟨Nat.le_of_ble_eq_true rfl, Nat.le_of_ble_eq_true rfl⟩ ⟨4, by decide, by decide, rfl, rfl⟩ (fun rv_ S1 M_37 hq_37 => ?_)
          obtain ⟨eS_, eM_, rfl⟩ := hq_37 4 (by decide) (by decide) rfl
          replace eS_ := eS_.symm
          replace eM_ := eM_.symm
          subst eS_ eM_
          try dsimp only [Option.toList, List.cons_append, List.nil_append]
          refine xt_ri rfl (Nat.le_refl _) ?_
          intro t2 a2 z2 b2 y2 e2
          simp only [List.cons.injEq, Sum.inl.injEq, and_true, true_and] at e2
          obtain ⟨rfl, rfl, rfl, rfl, rfl⟩ := e2
          refine ⟨rfl, RE_R ?_⟩
          unfold spBox
          rw [cif_t k_1, cif_t k_4]
        · skip
          refine xt_iln3 rfl ?_
          refine xt_iln2 rfl ?_
          refine xt_cle (t := 34) rfl (fun hc_24 => ?_) (fun hc_24 => ?_)
          · skip
            have k_4 : a < nI 0 ∨ b < nI 0 ∨ z ≤ a ∨ y ≤ b := Or.inr (Or.inr (Or.inl hc_24))
            refine xt_blk rfl rfl (by dsimp only [List.take]) ?_
            refine xt_aln0 rfl (by first | decide | omega | assumption) ?_
            refine xt_bim rfl ?_
            refine xt_v2 (key := 280) (q := q_X7_refuse) rfl rfl rfl rfl rfl ⟨Nat.le_of_ble_eq_true rfl, Nat.le_of_ble_eq_true rfl⟩ ⟨4, by decide, by decide, rfl, rfl⟩ (fun rv_ S1 M_37 hq_37 => ?_)
            obtain ⟨eS_, eM_, rfl⟩ := hq_37 4 (by decide) (by decide) rfl
            replace eS_ := eS_.symm
            replace eM_ := eM_.symm
            subst eS_ eM_
            try dsimp only [Option.toList, List.cons_append, List.nil_append]
            refine xt_ri rfl (Nat.le_refl _) ?_
            intro t2 a2 z2 b2 y2 e2
            simp only [List.cons.injEq, Sum.inl.injEq, and_true, true_and] at e2
            obtain ⟨rfl, rfl, rfl, rfl, rfl⟩ := e2
            refine ⟨rfl, RE_R ?_⟩
            unfold spBox
            rw [cif_t k_1, cif_t k_4]
          · skip
            refine xt_ild rfl ?_
            refine xt_ild rfl ?_
            refine xt_cgt (t := 41) rfl (fun hc_31 => ?_) (fun hc_31 => ?_)
            · skip
              have k_4 : ¬ (a < nI 0 ∨ b < nI 0 ∨ z ≤ a ∨ y ≤ b) := by
                rintro (q | q | q | q)
                · exact hc_14 q
                · exact hc_19 q
                · exact hc_24 q
                · exact Int32.not_lt.mpr q hc_31
              refine xt_blk rfl rfl (by dsimp only [List.take]) ?_
              refine xt_iln3 rfl ?_
              refine xt_bi ?_
              refine xt_cgt (t := 54) rfl (fun hc_44 => ?_) (fun hc_44 => ?_)
              · skip
                have k_6 : nI 99 < z ∨ nI 99 < y := Or.inl hc_44
                refine xt_blk rfl rfl (by dsimp only [List.take]) ?_
                refine xt_aln0 rfl (by first | decide | omega | assumption) ?_
                refine xt_bim rfl ?_
                refine xt_v2 (key := 280) (q := q_X7_refuse) rfl rfl rfl rfl rfl ⟨Nat.le_of_ble_eq_true rfl, Nat.le_of_ble_eq_true rfl⟩ ⟨6, by decide, by decide, rfl, rfl⟩ (fun rv_ S1 M_57 hq_57 => ?_)
                obtain ⟨eS_, eM_, rfl⟩ := hq_57 6 (by decide) (by decide) rfl
                replace eS_ := eS_.symm
                replace eM_ := eM_.symm
                subst eS_ eM_
                try dsimp only [Option.toList, List.cons_append, List.nil_append]
                refine xt_ri rfl (Nat.le_refl _) ?_
                intro t2 a2 z2 b2 y2 e2
                simp only [List.cons.injEq, Sum.inl.injEq, and_true, true_and] at e2
                obtain ⟨rfl, rfl, rfl, rfl, rfl⟩ := e2
                refine ⟨rfl, RE_R ?_⟩
                unfold spBox
                rw [cif_t k_1, cif_f k_4, cif_t k_6]
              · skip
                refine xt_ild rfl ?_
                refine xt_bi ?_
                refine xt_cle (t := 61) rfl (fun hc_51 => ?_) (fun hc_51 => ?_)
                · skip
                  have k_6 : ¬ (nI 99 < z ∨ nI 99 < y) := by
                    rintro (q | q)
                    · exact hc_44 q
                    · exact Int32.not_le.mpr q hc_51
                  obtain ⟨tn, htn, etn⟩ := id k_1
                  subst etn
                  have vt : nv (nI tn) = tn := nv_nI (by omega)
                  refine xt_blk rfl rfl (by dsimp only [List.take]) ?_
                  refine xt_aln0 rfl (by first | decide | omega | assumption) ?_
                  refine xt_gfr (q := (5, 10)) rfl (by first | rfl | assumption) rfl ?_
                  refine xt_iln1 rfl ?_
                  refine xt_bal (by first | rfl | assumption) (show vp_in _ 6 from vp_in_nI htn (by decide)) ?_
                  refine xt_ist rfl (by dsimp only [x_sto]) ?_
                  refine xt_aln0 rfl (by first | decide | omega | assumption) ?_
                  refine xt_gfr (q := (5, 10)) rfl (by first | rfl | assumption) rfl ?_
                  refine xt_iln1 rfl ?_
                  refine xt_ic ?_
                  refine xt_bas (by first | rfl | assumption) (show vp_in _ 6 from vp_in_nI htn (by decide)) (by first | exact Or.inl rfl | exact Or.inr rfl) ?_
                  refine xt_aln0 rfl (by first | decide | omega | assumption) ?_
                  refine xt_gfr (q := (5, 11)) rfl (by first | rfl | assumption) rfl ?_
                  refine xt_ic ?_
                  refine xt_iln1 rfl ?_
                  refine xt_mul ?_
                  refine xt_iln2 rfl ?_
                  refine xt_ias (by first | rfl | assumption) (v41 htn) ?_
                  refine xt_aln0 rfl (by first | decide | omega | assumption) ?_
                  refine xt_gfr (q := (5, 11)) rfl (by first | rfl | assumption) rfl ?_
                  refine xt_ic ?_
                  refine xt_iln1 rfl ?_
                  refine xt_mul ?_
                  refine xt_ic ?_
                  refine xt_add ?_
                  refine xt_iln3 rfl ?_
                  refine xt_ias (by first | rfl | assumption) (v42 htn (by decide)) ?_
                  refine xt_aln0 rfl (by first | decide | omega | assumption) ?_
                  refine xt_gfr (q := (5, 11)) rfl (by first | rfl | assumption) rfl ?_
                  refine xt_ic ?_
                  refine xt_iln1 rfl ?_
                  refine xt_mul ?_
                  refine xt_ic ?_
                  refine xt_add ?_
                  refine xt_ild rfl ?_
                  refine xt_ias (by first | rfl | assumption) (v42 htn (by decide)) ?_
                  refine xt_aln0 rfl (by first | decide | omega | assumption) ?_
                  refine xt_gfr (q := (5, 11)) rfl (by first | rfl | assumption) rfl ?_
                  refine xt_ic ?_
                  refine xt_iln1 rfl ?_
                  refine xt_mul ?_
                  refine xt_ic ?_
                  refine xt_add ?_
                  refine xt_ild rfl ?_
                  refine xt_ias (by first | rfl | assumption) (v42 htn (by decide)) ?_
                  refine xt_ild rfl ?_
                  refine xt_eq (t := 129) rfl (fun hc_122 => ?_) (fun hc_122 => ?_)
                  · skip
                    refine xt_blk rfl rfl (by dsimp only [List.take]) ?_
                    refine xt_ic ?_
                    refine xt_nil (t := 130) rfl ?_
                    refine xt_blk rfl rfl (by dsimp only [List.take]) ?_
                    refine xt_ri rfl (Nat.le_refl _) ?_
                    intro t2 a2 z2 b2 y2 e2
                    simp only [List.cons.injEq, Sum.inl.injEq, and_true, true_and] at e2
                    obtain ⟨rfl, rfl, rfl, rfl, rfl⟩ := e2
                    rw [nI_clamp (by omega)] at hc_122
                    have hE : REnd M (x_row (x_row M 63 (upd (M 63) tn (nI 1))) 64 (upd (upd (upd (upd (M 64) (4 * tn) a) (4 * tn + 1) z) (4 * tn + 2) b) (4 * tn + 3) y)) (some (.inl (nI 1))) (spBox (cM M) (nI tn) a z b y) := RE_draw htn (by
                      unfold spBox
                      rw [cif_t k_1, cif_f k_4, cif_f k_6, vt, cM_42, cif_t hc_122])
                    refine ⟨rfl, ?_⟩
                    simp only [x_row_self, x_row_row, n41 htn, n42 htn (show 1 < 4 by decide), n42 htn (show 2 < 4 by decide), n42 htn (show 3 < 4 by decide), nI_clamp (show tn < 2 ^ 31 by omega)]
                    exact hE
                  · skip
                    refine xt_ic ?_
                    refine xt_goto (t := 130) rfl ?_
                    refine xt_blk rfl rfl (by dsimp only [List.take]) ?_
                    refine xt_ri rfl (Nat.le_refl _) ?_
                    intro t2 a2 z2 b2 y2 e2
                    simp only [List.cons.injEq, Sum.inl.injEq, and_true, true_and] at e2
                    obtain ⟨rfl, rfl, rfl, rfl, rfl⟩ := e2
                    rw [nI_clamp (by omega)] at hc_122
                    have hE : REnd M (x_row (x_row M 63 (upd (M 63) tn (nI 1))) 64 (upd (upd (upd (upd (M 64) (4 * tn) a) (4 * tn + 1) z) (4 * tn + 2) b) (4 * tn + 3) y)) (some (.inl (nI 0))) (spBox (cM M) (nI tn) a z b y) := RE_draw htn (by
                      unfold spBox
                      rw [cif_t k_1, cif_f k_4, cif_f k_6, vt, cM_42, cif_f hc_122])
                    refine ⟨rfl, ?_⟩
                    simp only [x_row_self, x_row_row, n41 htn, n42 htn (show 1 < 4 by decide), n42 htn (show 2 < 4 by decide), n42 htn (show 3 < 4 by decide), nI_clamp (show tn < 2 ^ 31 by omega)]
                    exact hE
                · skip
                  have k_6 : nI 99 < z ∨ nI 99 < y := Or.inr (Int32.not_le.mp hc_51)
                  refine xt_nil (t := 54) rfl ?_
                  refine xt_blk rfl rfl (by dsimp only [List.take]) ?_
                  refine xt_aln0 rfl (by first | decide | omega | assumption) ?_
                  refine xt_bim rfl ?_
                  refine xt_v2 (key := 280) (q := q_X7_refuse) rfl rfl rfl rfl rfl ⟨Nat.le_of_ble_eq_true rfl, Nat.le_of_ble_eq_true rfl⟩ ⟨6, by decide, by decide, rfl, rfl⟩ (fun rv_ S1 M_57 hq_57 => ?_)
                  obtain ⟨eS_, eM_, rfl⟩ := hq_57 6 (by decide) (by decide) rfl
                  replace eS_ := eS_.symm
                  replace eM_ := eM_.symm
                  subst eS_ eM_
                  try dsimp only [Option.toList, List.cons_append, List.nil_append]
                  refine xt_ri rfl (Nat.le_refl _) ?_
                  intro t2 a2 z2 b2 y2 e2
                  simp only [List.cons.injEq, Sum.inl.injEq, and_true, true_and] at e2
                  obtain ⟨rfl, rfl, rfl, rfl, rfl⟩ := e2
                  refine ⟨rfl, RE_R ?_⟩
                  unfold spBox
                  rw [cif_t k_1, cif_f k_4, cif_t k_6]
            · skip
              have k_4 : a < nI 0 ∨ b < nI 0 ∨ z ≤ a ∨ y ≤ b := Or.inr (Or.inr (Or.inr (Int32.not_lt.mp hc_31)))
              refine xt_nil (t := 34) rfl ?_
              refine xt_blk rfl rfl (by dsimp only [List.take]) ?_
              refine xt_aln0 rfl (by first | decide | omega | assumption) ?_
              refine xt_bim rfl ?_
              refine xt_v2 (key := 280) (q := q_X7_refuse) rfl rfl rfl rfl rfl ⟨Nat.le_of_ble_eq_true rfl, Nat.le_of_ble_eq_true rfl⟩ ⟨4, by decide, by decide, rfl, rfl⟩ (fun rv_ S1 M_37 hq_37 => ?_)
              obtain ⟨eS_, eM_, rfl⟩ := hq_37 4 (by decide) (by decide) rfl
              replace eS_ := eS_.symm
              replace eM_ := eM_.symm
              subst eS_ eM_
              try dsimp only [Option.toList, List.cons_append, List.nil_append]
              refine xt_ri rfl (Nat.le_refl _) ?_
              intro t2 a2 z2 b2 y2 e2
              simp only [List.cons.injEq, Sum.inl.injEq, and_true, true_and] at e2
              obtain ⟨rfl, rfl, rfl, rfl, rfl⟩ := e2
              refine ⟨rfl, RE_R ?_⟩
              unfold spBox
              rw [cif_t k_1, cif_t k_4]
    · skip
      have k_1 := k_no h_c1 hc_4
      refine xt_aln0 rfl (by first | decide | omega | assumption) ?_
      refine xt_icm rfl ?_
      refine xt_v2 (key := 280) (q := q_X7_refuse) rfl rfl rfl rfl rfl ⟨Nat.le_of_ble_eq_true rfl, Nat.le_of_ble_eq_true rfl⟩ ⟨1, by decide, by decide, rfl, rfl⟩ (fun rv_ S1 M_9 hq_9 => ?_)
      obtain ⟨eS_, eM_, rfl⟩ := hq_9 1 (by decide) (by decide) rfl
      replace eS_ := eS_.symm
      replace eM_ := eM_.symm
      subst eS_ eM_
      try dsimp only [Option.toList, List.cons_append, List.nil_append]
      refine xt_ri rfl (Nat.le_refl _) ?_
      intro t2 a2 z2 b2 y2 e2
      simp only [List.cons.injEq, Sum.inl.injEq, and_true, true_and] at e2
      obtain ⟨rfl, rfl, rfl, rfl, rfl⟩ := e2
      refine ⟨rfl, RE_R ?_⟩
      unfold spBox
      rw [cif_f k_1]
  · intro μ pc ls st S2 M2 cs sl h; exact h.elim
def q_X7_rub : x_K := (2, fun as S M => ∃ (t : Int32) (c : Nat), RI c M ∧ S = SH ∧ as = [.inr (.inl 53), .inl t], fun as S M rv_ S' M' => ∀ (t : Int32), as = [.inr (.inl 53), .inl t] → S' = S ∧ REnd M M' rv_ (spRub (cM M) t), 0, 0)
theorem r_X7_rub : ∀ as S M, q_X7_rub.2.1 as S M → ∃ (k : Nat) (as' : List x_V) (fs : List (Option Nat)), as = .inr (.inl k) :: as' ∧ S[k]? = some (.inl (5, fs)) := by
  rintro as S M ⟨t, c, -, rfl, rfl⟩
  exact ⟨53, _, _, rfl, rfl⟩
def b_X7_rub : x_B := [(0, 2, [(.iload_n 1, 1), (.invokestatic 100, 3), (.ifCond .ne 9, 3), (.aload_n 0, 1), (.iconst (-1), 1), (.invokevirtual 93, 3), (.ireturn, 1)]),
  (13, 2, [(.aload_n 0, 1), (.getfield 38, 3), (.iload_n 1, 1), (.baload, 1), (.ifCond .ne 10, 3), (.aload_n 0, 1), (.bipush (-3), 2), (.invokevirtual 93, 3), (.ireturn, 1)]),
  (29, 2, [(.aload_n 0, 1), (.getfield 38, 3), (.iload_n 1, 1), (.iconst 0, 1), (.bastore, 1), (.iconst 1, 1), (.ireturn, 1)])]
theorem b_X7_rub_ok : x_okB cX7_rub 2 b_X7_rub = true := by decide +kernel
def X_X7_rub : x_X := ([(38, 5, 10)], [], [], [], [(300, q_X7_isThing), (280, q_X7_refuse)], (0, 0), x_kn, x_kf, 5, false)
theorem X_X7_rub_ok : x_okT RX7 X_X7_rub = true := by decide +kernel
theorem k_X7_rub (l : Launch) : ∀ z ∈ X_X7_rub.2.2.2.2.1, x_Cal l (x_rm 3 0 0) cX7_rub RX7 2 z.1 z.2 := List.forall_mem_cons.mpr ⟨x_cal_S (idx := 100) (c_X7_isThing l) ⟨by decide, by decide⟩ (by decide +kernel) (by decide +kernel) (by decide +kernel) (by decide +kernel) (by decide +kernel), List.forall_mem_cons.mpr ⟨x_cal_V (idx := 93) (ci := 5) (n := 1) (c_X7_refuse l) ⟨by decide, by decide⟩ (by decide +kernel) (by decide +kernel) (by decide +kernel) (by decide +kernel) (by decide +kernel) rfl rfl rfl (by decide +kernel) r_X7_refuse, fun _ h => absurd h List.not_mem_nil⟩⟩
set_option maxHeartbeats 4000000 in
set_option maxRecDepth 100000 in
theorem c_X7_rub (l : Launch) : x_CT l yX7_rub cX7_rub 2 (some .int) 3 q_X7_rub := by
  refine x_meth (X := X_X7_rub) (bl := b_X7_rub) (cut := []) (own := RX7) 30 (by decide) rfl X_X7_rub_ok b_X7_rub_ok rfl (Nat.le_of_ble_eq_true rfl) (k_X7_rub l) ?_
  rintro as S M - ⟨t, c, hRI, rfl, rfl⟩
  have hok := hRI.2.1
  have hV := hRI.2
  have hTb := hRI.1
  refine ⟨fun _ _ _ _ _ _ _ _ => False, ?_, ?_⟩
  · skip
    refine xt_blk rfl rfl (by dsimp only [List.take]) ?_
    refine xt_iln1 rfl ?_
    refine xt_v1 (key := 300) (q := q_X7_isThing) rfl rfl rfl rfl rfl ⟨Nat.le_of_ble_eq_true rfl, Nat.le_of_ble_eq_true rfl⟩ ⟨_, rfl⟩ (fun rv_ S1 M_1 hq_1 => ?_)
    obtain ⟨eS_, eM_, h_c1⟩ := hq_1 _ rfl
    replace eS_ := eS_.symm
    replace eM_ := eM_.symm
    subst eS_ eM_
    have hex_c1 : ∃ v, rv_ = some (.inl v) := by rcases h_c1 with ⟨-, e⟩ | ⟨-, e⟩ <;> exact ⟨_, e⟩
    obtain ⟨v_c1, rfl⟩ := hex_c1
    simp only [Option.some.injEq, Sum.inl.injEq] at h_c1
    try dsimp only [Option.toList, List.cons_append, List.nil_append]
    refine xt_ne (t := 13) rfl (fun hc_4 => ?_) (fun hc_4 => ?_)
    · skip
      have k_1 := k_yes h_c1 hc_4
      obtain ⟨tn, htn, etn⟩ := id k_1
      subst etn
      have vt : nv (nI tn) = tn := nv_nI (by omega)
      refine xt_blk rfl rfl (by dsimp only [List.take]) ?_
      refine xt_aln0 rfl (by first | decide | omega | assumption) ?_
      refine xt_gfr (q := (5, 10)) rfl (by first | rfl | assumption) rfl ?_
      refine xt_iln1 rfl ?_
      refine xt_bal (by first | rfl | assumption) (show vp_in _ 6 from vp_in_nI htn (by decide)) ?_
      refine xt_ne (t := 29) rfl (fun hc_19 => ?_) (fun hc_19 => ?_)
      · skip
        refine xt_blk rfl rfl (by dsimp only [List.take]) ?_
        refine xt_aln0 rfl (by first | decide | omega | assumption) ?_
        refine xt_gfr (q := (5, 10)) rfl (by first | rfl | assumption) rfl ?_
        refine xt_iln1 rfl ?_
        refine xt_ic ?_
        refine xt_bas (by first | rfl | assumption) (show vp_in _ 6 from vp_in_nI htn (by decide)) (by first | exact Or.inl rfl | exact Or.inr rfl) ?_
        refine xt_ic ?_
        refine xt_ri rfl (Nat.le_refl _) ?_
        intro t2 e2
        simp only [List.cons.injEq, Sum.inl.injEq, and_true, true_and] at e2
        subst e2
        rw [nI_clamp (by omega)] at hc_19
        rw [nI_clamp (by omega)]
        refine ⟨rfl, RE_row (by decide) (by decide) (cM_row63 M _) ?_⟩
        unfold spRub
        rw [cif_t k_1, vt, cM_42, cif_f hc_19]
      · skip
        refine xt_aln0 rfl (by first | decide | omega | assumption) ?_
        refine xt_bim rfl ?_
        refine xt_v2 (key := 280) (q := q_X7_refuse) rfl rfl rfl rfl rfl ⟨Nat.le_of_ble_eq_true rfl, Nat.le_of_ble_eq_true rfl⟩ ⟨3, by decide, by decide, rfl, rfl⟩ (fun rv_ S1 M_25 hq_25 => ?_)
        obtain ⟨eS_, eM_, rfl⟩ := hq_25 3 (by decide) (by decide) rfl
        replace eS_ := eS_.symm
        replace eM_ := eM_.symm
        subst eS_ eM_
        try dsimp only [Option.toList, List.cons_append, List.nil_append]
        refine xt_ri rfl (Nat.le_refl _) ?_
        intro t2 e2
        simp only [List.cons.injEq, Sum.inl.injEq, and_true, true_and] at e2
        subst e2
        rw [nI_clamp (by omega)] at hc_19
        refine ⟨rfl, RE_R ?_⟩
        unfold spRub
        rw [cif_t k_1, vt, cM_42, cif_t hc_19]
    · skip
      have k_1 := k_no h_c1 hc_4
      refine xt_aln0 rfl (by first | decide | omega | assumption) ?_
      refine xt_icm rfl ?_
      refine xt_v2 (key := 280) (q := q_X7_refuse) rfl rfl rfl rfl rfl ⟨Nat.le_of_ble_eq_true rfl, Nat.le_of_ble_eq_true rfl⟩ ⟨1, by decide, by decide, rfl, rfl⟩ (fun rv_ S1 M_9 hq_9 => ?_)
      obtain ⟨eS_, eM_, rfl⟩ := hq_9 1 (by decide) (by decide) rfl
      replace eS_ := eS_.symm
      replace eM_ := eM_.symm
      subst eS_ eM_
      try dsimp only [Option.toList, List.cons_append, List.nil_append]
      refine xt_ri rfl (Nat.le_refl _) ?_
      intro t2 e2
      simp only [List.cons.injEq, Sum.inl.injEq, and_true, true_and] at e2
      subst e2
      refine ⟨rfl, RE_R ?_⟩
      unfold spRub
      rw [cif_f k_1]
  · intro μ pc ls st S2 M2 cs sl h; exact h.elim
def q_X7_read : x_K := (4, fun as S M => ∃ (w : Int32) (a : Int32) (b : Int32) (c : Nat), RI c M ∧ S = SH ∧ as = [.inr (.inl 53), .inl w, .inl a, .inl b], fun as S M rv_ S' M' => ∀ (w : Int32) (a : Int32) (b : Int32), as = [.inr (.inl 53), .inl w, .inl a, .inl b] → S' = S ∧ REnd M M' rv_ (spRead (cM M) w a b), 0, 0)
theorem r_X7_read : ∀ as S M, q_X7_read.2.1 as S M → ∃ (k : Nat) (as' : List x_V) (fs : List (Option Nat)), as = .inr (.inl k) :: as' ∧ S[k]? = some (.inl (5, fs)) := by
  rintro as S M ⟨w, a, b, c, -, rfl, rfl⟩
  exact ⟨53, _, _, rfl, rfl⟩
def b_X7_read : x_B := [(0, 4, [(.iload_n 1, 1), (.iload_n 2, 1), (.iload_n 3, 1), (.invokestatic 138, 3), (.istore 4, 2), (.iload 4, 2), (.ifCond .ge 10, 3), (.aload_n 0, 1), (.iload 4, 2), (.invokevirtual 93, 3), (.ireturn, 1)]),
  (20, 5, [(.aload_n 0, 1), (.getfield 38, 3), (.iload_n 2, 1), (.baload, 1), (.ifCond .eq 22, 3), (.aload_n 0, 1), (.getfield 38, 3), (.iload_n 3, 1), (.baload, 1), (.ifCond .eq 13, 3), (.aload_n 0, 1), (.iload_n 1, 1), (.iload_n 2, 1), (.iload_n 3, 1), (.invokevirtual 160, 3), (.goto 9, 3)]),
  (48, 5, [(.aload_n 0, 1), (.bipush (-3), 2), (.invokevirtual 93, 3)]),
  (54, 5, [(.ireturn, 1)])]
theorem b_X7_read_ok : x_okB cX7_read 5 b_X7_read = true := by decide +kernel
def X_X7_read : x_X := ([(38, 5, 10)], [], [], [], [(414, q_X7_wrong), (280, q_X7_refuse), (481, q_X7_ofBoxes)], (0, 0), x_kn, x_kf, 5, false)
theorem X_X7_read_ok : x_okT RX7 X_X7_read = true := by decide +kernel
theorem k_X7_read (l : Launch) : ∀ z ∈ X_X7_read.2.2.2.2.1, x_Cal l (x_rm 5 0 0) cX7_read RX7 5 z.1 z.2 := List.forall_mem_cons.mpr ⟨x_cal_S (idx := 138) (c_X7_wrong l) ⟨by decide, by decide⟩ (by decide +kernel) (by decide +kernel) (by decide +kernel) (by decide +kernel) (by decide +kernel), List.forall_mem_cons.mpr ⟨x_cal_V (idx := 93) (ci := 5) (n := 1) (c_X7_refuse l) ⟨by decide, by decide⟩ (by decide +kernel) (by decide +kernel) (by decide +kernel) (by decide +kernel) (by decide +kernel) rfl rfl rfl (by decide +kernel) r_X7_refuse, List.forall_mem_cons.mpr ⟨x_cal_V (idx := 160) (ci := 5) (n := 3) (c_X7_ofBoxes l) ⟨by decide, by decide⟩ (by decide +kernel) (by decide +kernel) (by decide +kernel) (by decide +kernel) (by decide +kernel) rfl rfl rfl (by decide +kernel) r_X7_ofBoxes, fun _ h => absurd h List.not_mem_nil⟩⟩⟩
set_option maxHeartbeats 4000000 in
set_option maxRecDepth 100000 in
theorem c_X7_read (l : Launch) : x_CT l yX7_read cX7_read 5 (some .int) 5 q_X7_read := by
  refine x_meth (X := X_X7_read) (bl := b_X7_read) (cut := []) (own := RX7) 30 (by decide) rfl X_X7_read_ok b_X7_read_ok rfl (Nat.le_of_ble_eq_true rfl) (k_X7_read l) ?_
  rintro as S M - ⟨w, a, b, c, hRI, rfl, rfl⟩
  have hok := hRI.2.1
  have hV := hRI.2
  have hTb := hRI.1
  refine ⟨fun _ _ _ _ _ _ _ _ => False, ?_, ?_⟩
  · skip
    refine xt_blk rfl rfl (by dsimp only [List.take]) ?_
    refine xt_iln1 rfl ?_
    refine xt_iln2 rfl ?_
    refine xt_iln3 rfl ?_
    refine xt_v3 (key := 414) (q := q_X7_wrong) rfl rfl rfl rfl rfl ⟨Nat.le_of_ble_eq_true rfl, Nat.le_of_ble_eq_true rfl⟩ ⟨_, _, _, rfl⟩ (fun rv_ S1 M_3 hq_3 => ?_)
    obtain ⟨eS_, eM_, h_r⟩ := hq_3 _ _ _ rfl
    replace eS_ := eS_.symm
    replace eM_ := eM_.symm
    subst eS_ eM_
    have hex_r : ∃ v, rv_ = some (.inl v) := by rcases h_r with ⟨-, e⟩ | ⟨-, -, e⟩ | ⟨-, -, e⟩ <;> exact ⟨_, e⟩
    obtain ⟨v_r, rfl⟩ := hex_r
    simp only [Option.some.injEq, Sum.inl.injEq] at h_r
    replace h_r : rfA w a b v_r := h_r
    try dsimp only [Option.toList, List.cons_append, List.nil_append]
    refine xt_ist rfl (by dsimp only [x_sto]) ?_
    refine xt_ild rfl ?_
    refine xt_ge (t := 20) rfl (fun hc_10 => ?_) (fun hc_10 => ?_)
    · skip
      obtain ⟨k_2, k_1⟩ := rfA_ge h_r hc_10
      obtain ⟨wn, hwn, ewn⟩ := id k_1
      subst ewn
      have vw : nv (nI wn) = wn := nv_nI (by omega)
      obtain ⟨⟨an, han, ean⟩, ⟨bn, hbn, ebn⟩, hab⟩ := id k_2
      subst ean ebn
      have va : nv (nI an) = an := nv_nI (by omega)
      have vb : nv (nI bn) = bn := nv_nI (by omega)
      have hne : an ≠ bn := fun e => hab (by rw [e])
      refine xt_blk rfl rfl (by dsimp only [List.take]) ?_
      refine xt_aln0 rfl (by first | decide | omega | assumption) ?_
      refine xt_gfr (q := (5, 10)) rfl (by first | rfl | assumption) rfl ?_
      refine xt_iln2 rfl ?_
      refine xt_bal (by first | rfl | assumption) (show vp_in _ 6 from vp_in_nI (by omega) (by decide)) ?_
      refine xt_eq (t := 48) rfl (fun hc_26 => ?_) (fun hc_26 => ?_)
      · skip
        have kA : ¬ Bth (cM M) (nI an) (nI bn) := fun q => by rw [nI_clamp (by omega)] at hc_26; unfold Bth at q; rw [va] at q; exact q.1 hc_26
        refine xt_blk rfl rfl (by dsimp only [List.take]) ?_
        refine xt_aln0 rfl (by first | decide | omega | assumption) ?_
        refine xt_bim rfl ?_
        refine xt_v2 (key := 280) (q := q_X7_refuse) rfl rfl rfl rfl rfl ⟨Nat.le_of_ble_eq_true rfl, Nat.le_of_ble_eq_true rfl⟩ ⟨3, by decide, by decide, rfl, rfl⟩ (fun rv_ S1 M_51 hq_51 => ?_)
        obtain ⟨eS_, eM_, rfl⟩ := hq_51 3 (by decide) (by decide) rfl
        replace eS_ := eS_.symm
        replace eM_ := eM_.symm
        subst eS_ eM_
        try dsimp only [Option.toList, List.cons_append, List.nil_append]
        refine xt_nil (t := 54) rfl ?_
        refine xt_blk rfl rfl (by dsimp only [List.take]) ?_
        refine xt_ri rfl (Nat.le_refl _) ?_
        intro w2 a2 b2 e2
        simp only [List.cons.injEq, Sum.inl.injEq, and_true, true_and] at e2
        obtain ⟨rfl, rfl, rfl⟩ := e2
        refine ⟨rfl, RE_R ?_⟩
        unfold spRead
        rw [cif_t k_2, cif_t k_1, cif_f kA]
      · skip
        have kA : M 63 an ≠ 0 := by rw [nI_clamp (by omega)] at hc_26; exact hc_26
        refine xt_aln0 rfl (by first | decide | omega | assumption) ?_
        refine xt_gfr (q := (5, 10)) rfl (by first | rfl | assumption) rfl ?_
        refine xt_iln3 rfl ?_
        refine xt_bal (by first | rfl | assumption) (show vp_in _ 6 from vp_in_nI (by omega) (by decide)) ?_
        refine xt_eq (t := 48) rfl (fun hc_35 => ?_) (fun hc_35 => ?_)
        · skip
          have kB : ¬ Bth (cM M) (nI an) (nI bn) := fun q => by rw [nI_clamp (by omega)] at hc_35; unfold Bth at q; rw [vb] at q; exact q.2 hc_35
          refine xt_blk rfl rfl (by dsimp only [List.take]) ?_
          refine xt_aln0 rfl (by first | decide | omega | assumption) ?_
          refine xt_bim rfl ?_
          refine xt_v2 (key := 280) (q := q_X7_refuse) rfl rfl rfl rfl rfl ⟨Nat.le_of_ble_eq_true rfl, Nat.le_of_ble_eq_true rfl⟩ ⟨3, by decide, by decide, rfl, rfl⟩ (fun rv_ S1 M_51 hq_51 => ?_)
          obtain ⟨eS_, eM_, rfl⟩ := hq_51 3 (by decide) (by decide) rfl
          replace eS_ := eS_.symm
          replace eM_ := eM_.symm
          subst eS_ eM_
          try dsimp only [Option.toList, List.cons_append, List.nil_append]
          refine xt_nil (t := 54) rfl ?_
          refine xt_blk rfl rfl (by dsimp only [List.take]) ?_
          refine xt_ri rfl (Nat.le_refl _) ?_
          intro w2 a2 b2 e2
          simp only [List.cons.injEq, Sum.inl.injEq, and_true, true_and] at e2
          obtain ⟨rfl, rfl, rfl⟩ := e2
          refine ⟨rfl, RE_R ?_⟩
          unfold spRead
          rw [cif_t k_2, cif_t k_1, cif_f kB]
        · skip
          have kB : M 63 bn ≠ 0 := by rw [nI_clamp (by omega)] at hc_35; exact hc_35
          refine xt_aln0 rfl (by first | decide | omega | assumption) ?_
          refine xt_iln1 rfl ?_
          refine xt_iln2 rfl ?_
          refine xt_iln3 rfl ?_
          refine xt_v4 (key := 481) (q := q_X7_ofBoxes) rfl rfl rfl rfl rfl ⟨Nat.le_of_ble_eq_true rfl, Nat.le_of_ble_eq_true rfl⟩ ⟨wn, an, bn, hwn, han, hbn, hV, kA, kB, rfl, rfl⟩ (fun rv_ S1 M_42 hq_42 => ?_)
          obtain ⟨eS_, eM_, rfl⟩ := hq_42 wn an bn hwn han hbn rfl
          replace eS_ := eS_.symm
          replace eM_ := eM_.symm
          subst eS_ eM_
          try dsimp only [Option.toList, List.cons_append, List.nil_append]
          refine xt_goto (t := 54) rfl ?_
          refine xt_blk rfl rfl (by dsimp only [List.take]) ?_
          refine xt_ri rfl (Nat.le_refl _) ?_
          intro w2 a2 b2 e2
          simp only [List.cons.injEq, Sum.inl.injEq, and_true, true_and] at e2
          obtain ⟨rfl, rfl, rfl⟩ := e2
          have kC : Bth (cM M) (nI an) (nI bn) := by unfold Bth; rw [va, vb]; exact ⟨kA, kB⟩
          refine ⟨rfl, RE_M ?_⟩
          unfold spRead
          rw [cif_t k_2, cif_t k_1, cif_t kC, vw, va, vb]
    · skip
      obtain ⟨p, hp0, hp7, ev, hpp⟩ := rfA_lt h_r hc_10
      subst ev
      refine xt_aln0 rfl (by first | decide | omega | assumption) ?_
      refine xt_ild rfl ?_
      refine xt_v2 (key := 280) (q := q_X7_refuse) rfl rfl rfl rfl rfl ⟨Nat.le_of_ble_eq_true rfl, Nat.le_of_ble_eq_true rfl⟩ ⟨p, hp0, hp7, rfl, rfl⟩ (fun rv_ S1 M_16 hq_16 => ?_)
      obtain ⟨eS_, eM_, rfl⟩ := hq_16 p hp0 hp7 rfl
      replace eS_ := eS_.symm
      replace eM_ := eM_.symm
      subst eS_ eM_
      try dsimp only [Option.toList, List.cons_append, List.nil_append]
      refine xt_ri rfl (Nat.le_refl _) ?_
      intro w2 a2 b2 e2
      simp only [List.cons.injEq, Sum.inl.injEq, and_true, true_and] at e2
      obtain ⟨rfl, rfl, rfl⟩ := e2
      exact ⟨rfl, RE_R (rfA_sp2 hpp)⟩
  · intro μ pc ls st S2 M2 cs sl h; exact h.elim
def q_X7_holds : x_K := (4, fun as S M => ∃ (w : Int32) (a : Int32) (b : Int32) (c : Nat), RI c M ∧ S = SH ∧ as = [.inr (.inl 53), .inl w, .inl a, .inl b], fun as S M rv_ S' M' => ∀ (w : Int32) (a : Int32) (b : Int32), as = [.inr (.inl 53), .inl w, .inl a, .inl b] → S' = S ∧ REnd M M' rv_ (spHolds (cM M) w a b), 0, 0)
theorem r_X7_holds : ∀ as S M, q_X7_holds.2.1 as S M → ∃ (k : Nat) (as' : List x_V) (fs : List (Option Nat)), as = .inr (.inl k) :: as' ∧ S[k]? = some (.inl (5, fs)) := by
  rintro as S M ⟨w, a, b, c, -, rfl, rfl⟩
  exact ⟨53, _, _, rfl, rfl⟩
def b_X7_holds : x_B := [(0, 4, [(.iload_n 1, 1), (.invokestatic 157, 3), (.ifCond .eq 11, 3), (.iload_n 2, 1), (.iload_n 3, 1), (.invokestatic 108, 3), (.ifCond .ne 9, 3)]),
  (15, 4, [(.aload_n 0, 1), (.iconst (-1), 1), (.invokevirtual 93, 3), (.ireturn, 1)]),
  (21, 4, [(.aload_n 0, 1), (.getfield 38, 3), (.iload_n 2, 1), (.baload, 1), (.ifCond .eq 12, 3), (.aload_n 0, 1), (.getfield 38, 3), (.iload_n 3, 1), (.baload, 1), (.ifCond .ne 10, 3)]),
  (39, 4, [(.aload_n 0, 1), (.bipush (-3), 2), (.invokevirtual 93, 3), (.ireturn, 1)]),
  (46, 4, [(.aload_n 0, 1), (.getfield 35, 3), (.iconst 2, 1), (.iload_n 1, 1), (.imul, 1), (.iaload, 1), (.aload_n 0, 1), (.iconst 0, 1), (.iload_n 2, 1), (.iload_n 3, 1), (.invokevirtual 160, 3), (.ishr, 1), (.aload_n 0, 1), (.getfield 35, 3), (.iconst 2, 1), (.iload_n 1, 1), (.imul, 1), (.iconst 1, 1), (.iadd, 1), (.iaload, 1), (.aload_n 0, 1), (.iconst 1, 1), (.iload_n 2, 1), (.iload_n 3, 1), (.invokevirtual 160, 3), (.ishr, 1), (.iand, 1), (.iconst 1, 1), (.iand, 1), (.ireturn, 1)])]
theorem b_X7_holds_ok : x_okB cX7_holds 4 b_X7_holds = true := by decide +kernel
def X_X7_holds : x_X := ([(38, 5, 10), (35, 5, 9)], [], [], [], [(471, q_X7_isWord), (324, q_X7_areTwo), (280, q_X7_refuse), (481, q_X7_ofBoxes)], (0, 0), x_kn, x_kf, 5, false)
theorem X_X7_holds_ok : x_okT RX7 X_X7_holds = true := by decide +kernel
theorem k_X7_holds (l : Launch) : ∀ z ∈ X_X7_holds.2.2.2.2.1, x_Cal l (x_rm 4 0 0) cX7_holds RX7 4 z.1 z.2 := List.forall_mem_cons.mpr ⟨x_cal_S (idx := 157) (c_X7_isWord l) ⟨by decide, by decide⟩ (by decide +kernel) (by decide +kernel) (by decide +kernel) (by decide +kernel) (by decide +kernel), List.forall_mem_cons.mpr ⟨x_cal_S (idx := 108) (c_X7_areTwo l) ⟨by decide, by decide⟩ (by decide +kernel) (by decide +kernel) (by decide +kernel) (by decide +kernel) (by decide +kernel), List.forall_mem_cons.mpr ⟨x_cal_V (idx := 93) (ci := 5) (n := 1) (c_X7_refuse l) ⟨by decide, by decide⟩ (by decide +kernel) (by decide +kernel) (by decide +kernel) (by decide +kernel) (by decide +kernel) rfl rfl rfl (by decide +kernel) r_X7_refuse, List.forall_mem_cons.mpr ⟨x_cal_V (idx := 160) (ci := 5) (n := 3) (c_X7_ofBoxes l) ⟨by decide, by decide⟩ (by decide +kernel) (by decide +kernel) (by decide +kernel) (by decide +kernel) (by decide +kernel) rfl rfl rfl (by decide +kernel) r_X7_ofBoxes, fun _ h => absurd h List.not_mem_nil⟩⟩⟩⟩
set_option maxHeartbeats 4000000 in
set_option maxRecDepth 100000 in
theorem c_X7_holds (l : Launch) : x_CT l yX7_holds cX7_holds 4 (some .int) 4 q_X7_holds := by
  refine x_meth (X := X_X7_holds) (bl := b_X7_holds) (cut := []) (own := RX7) 30 (by decide) rfl X_X7_holds_ok b_X7_holds_ok rfl (Nat.le_of_ble_eq_true rfl) (k_X7_holds l) ?_
  rintro as S M - ⟨w, a, b, c, hRI, rfl, rfl⟩
  have hok := hRI.2.1
  have hV := hRI.2
  have hTb := hRI.1
  refine ⟨fun _ _ _ _ _ _ _ _ => False, ?_, ?_⟩
  · skip
    refine xt_blk rfl rfl (by dsimp only [List.take]) ?_
    refine xt_iln1 rfl ?_
    refine xt_v1 (key := 471) (q := q_X7_isWord) rfl rfl rfl rfl rfl ⟨Nat.le_of_ble_eq_true rfl, Nat.le_of_ble_eq_true rfl⟩ ⟨_, rfl⟩ (fun rv_ S1 M_1 hq_1 => ?_)
    obtain ⟨eS_, eM_, h_c1⟩ := hq_1 _ rfl
    replace eS_ := eS_.symm
    replace eM_ := eM_.symm
    subst eS_ eM_
    have hex_c1 : ∃ v, rv_ = some (.inl v) := by rcases h_c1 with ⟨-, e⟩ | ⟨-, e⟩ <;> exact ⟨_, e⟩
    obtain ⟨v_c1, rfl⟩ := hex_c1
    simp only [Option.some.injEq, Sum.inl.injEq] at h_c1
    try dsimp only [Option.toList, List.cons_append, List.nil_append]
    refine xt_eq (t := 15) rfl (fun hc_4 => ?_) (fun hc_4 => ?_)
    · skip
      have k_1 := k_no h_c1 hc_4
      refine xt_blk rfl rfl (by dsimp only [List.take]) ?_
      refine xt_aln0 rfl (by first | decide | omega | assumption) ?_
      refine xt_icm rfl ?_
      refine xt_v2 (key := 280) (q := q_X7_refuse) rfl rfl rfl rfl rfl ⟨Nat.le_of_ble_eq_true rfl, Nat.le_of_ble_eq_true rfl⟩ ⟨1, by decide, by decide, rfl, rfl⟩ (fun rv_ S1 M_17 hq_17 => ?_)
      obtain ⟨eS_, eM_, rfl⟩ := hq_17 1 (by decide) (by decide) rfl
      replace eS_ := eS_.symm
      replace eM_ := eM_.symm
      subst eS_ eM_
      try dsimp only [Option.toList, List.cons_append, List.nil_append]
      refine xt_ri rfl (Nat.le_refl _) ?_
      intro w2 a2 b2 e2
      simp only [List.cons.injEq, Sum.inl.injEq, and_true, true_and] at e2
      obtain ⟨rfl, rfl, rfl⟩ := e2
      refine ⟨rfl, RE_R ?_⟩
      unfold spHolds
      rw [cif_f k_1]
    · skip
      have k_1 := k_yes h_c1 hc_4
      refine xt_iln2 rfl ?_
      refine xt_iln3 rfl ?_
      refine xt_v2 (key := 324) (q := q_X7_areTwo) rfl rfl rfl rfl rfl ⟨Nat.le_of_ble_eq_true rfl, Nat.le_of_ble_eq_true rfl⟩ ⟨_, _, rfl⟩ (fun rv_ S1 M_9 hq_9 => ?_)
      obtain ⟨eS_, eM_, h_c9⟩ := hq_9 _ _ rfl
      replace eS_ := eS_.symm
      replace eM_ := eM_.symm
      subst eS_ eM_
      have hex_c9 : ∃ v, rv_ = some (.inl v) := by rcases h_c9 with ⟨-, e⟩ | ⟨-, e⟩ <;> exact ⟨_, e⟩
      obtain ⟨v_c9, rfl⟩ := hex_c9
      simp only [Option.some.injEq, Sum.inl.injEq] at h_c9
      try dsimp only [Option.toList, List.cons_append, List.nil_append]
      refine xt_ne (t := 21) rfl (fun hc_12 => ?_) (fun hc_12 => ?_)
      · skip
        have k_9 := k_yes h_c9 hc_12
        obtain ⟨wn, hwn, ewn⟩ := id k_1
        subst ewn
        have vw : nv (nI wn) = wn := nv_nI (by omega)
        obtain ⟨⟨an, han, ean⟩, ⟨bn, hbn, ebn⟩, hab⟩ := id k_9
        subst ean ebn
        have va : nv (nI an) = an := nv_nI (by omega)
        have vb : nv (nI bn) = bn := nv_nI (by omega)
        have hne : an ≠ bn := fun e => hab (by rw [e])
        refine xt_blk rfl rfl (by dsimp only [List.take]) ?_
        refine xt_aln0 rfl (by first | decide | omega | assumption) ?_
        refine xt_gfr (q := (5, 10)) rfl (by first | rfl | assumption) rfl ?_
        refine xt_iln2 rfl ?_
        refine xt_bal (by first | rfl | assumption) (show vp_in _ 6 from vp_in_nI (by omega) (by decide)) ?_
        refine xt_eq (t := 39) rfl (fun hc_27 => ?_) (fun hc_27 => ?_)
        · skip
          have kA : ¬ Bth (cM M) (nI an) (nI bn) := fun q => by rw [nI_clamp (by omega)] at hc_27; unfold Bth at q; rw [va] at q; exact q.1 hc_27
          refine xt_blk rfl rfl (by dsimp only [List.take]) ?_
          refine xt_aln0 rfl (by first | decide | omega | assumption) ?_
          refine xt_bim rfl ?_
          refine xt_v2 (key := 280) (q := q_X7_refuse) rfl rfl rfl rfl rfl ⟨Nat.le_of_ble_eq_true rfl, Nat.le_of_ble_eq_true rfl⟩ ⟨3, by decide, by decide, rfl, rfl⟩ (fun rv_ S1 M_42 hq_42 => ?_)
          obtain ⟨eS_, eM_, rfl⟩ := hq_42 3 (by decide) (by decide) rfl
          replace eS_ := eS_.symm
          replace eM_ := eM_.symm
          subst eS_ eM_
          try dsimp only [Option.toList, List.cons_append, List.nil_append]
          refine xt_ri rfl (Nat.le_refl _) ?_
          intro w2 a2 b2 e2
          simp only [List.cons.injEq, Sum.inl.injEq, and_true, true_and] at e2
          obtain ⟨rfl, rfl, rfl⟩ := e2
          refine ⟨rfl, RE_R ?_⟩
          unfold spHolds
          rw [cif_t k_1, cif_t k_9, cif_f kA]
        · skip
          have kA : M 63 an ≠ 0 := by rw [nI_clamp (by omega)] at hc_27; exact hc_27
          refine xt_aln0 rfl (by first | decide | omega | assumption) ?_
          refine xt_gfr (q := (5, 10)) rfl (by first | rfl | assumption) rfl ?_
          refine xt_iln3 rfl ?_
          refine xt_bal (by first | rfl | assumption) (show vp_in _ 6 from vp_in_nI (by omega) (by decide)) ?_
          refine xt_ne (t := 46) rfl (fun hc_36 => ?_) (fun hc_36 => ?_)
          · skip
            have kB : M 63 bn ≠ 0 := by rw [nI_clamp (by omega)] at hc_36; exact hc_36
            refine xt_blk rfl rfl (by dsimp only [List.take]) ?_
            refine xt_aln0 rfl (by first | decide | omega | assumption) ?_
            refine xt_gfr (q := (5, 9)) rfl (by first | rfl | assumption) rfl ?_
            refine xt_ic ?_
            refine xt_iln1 rfl ?_
            refine xt_mul ?_
            refine xt_ial (by first | rfl | assumption) (vx2z hwn) ?_
            refine xt_aln0 rfl (by first | decide | omega | assumption) ?_
            refine xt_ic ?_
            refine xt_iln2 rfl ?_
            refine xt_iln3 rfl ?_
            refine xt_v4 (key := 481) (q := q_X7_ofBoxes) rfl rfl rfl rfl rfl ⟨Nat.le_of_ble_eq_true rfl, Nat.le_of_ble_eq_true rfl⟩ ⟨0, an, bn, by decide, han, hbn, hV, kA, kB, rfl, rfl⟩ (fun rv_ S1 M_58 hq_58 => ?_)
            obtain ⟨eS_, eM_, rfl⟩ := hq_58 0 an bn (by decide) han hbn rfl
            replace eS_ := eS_.symm
            replace eM_ := eM_.symm
            subst eS_ eM_
            try dsimp only [Option.toList, List.cons_append, List.nil_append]
            refine xt_shr ?_
            refine xt_aln0 rfl (by first | decide | omega | assumption) ?_
            refine xt_gfr (q := (5, 9)) rfl (by first | rfl | assumption) rfl ?_
            refine xt_ic ?_
            refine xt_iln1 rfl ?_
            refine xt_mul ?_
            refine xt_ic ?_
            refine xt_add ?_
            refine xt_ial (by first | rfl | assumption) (vx2w hwn (by decide)) ?_
            refine xt_aln0 rfl (by first | decide | omega | assumption) ?_
            refine xt_ic ?_
            refine xt_iln2 rfl ?_
            refine xt_iln3 rfl ?_
            refine xt_v4 (key := 481) (q := q_X7_ofBoxes) rfl rfl rfl rfl rfl ⟨Nat.le_of_ble_eq_true rfl, Nat.le_of_ble_eq_true rfl⟩ ⟨1, an, bn, by decide, han, hbn, hV, kA, kB, rfl, rfl⟩ (fun rv_ S1 M_76 hq_76 => ?_)
            obtain ⟨eS_, eM_, rfl⟩ := hq_76 1 an bn (by decide) han hbn rfl
            replace eS_ := eS_.symm
            replace eM_ := eM_.symm
            subst eS_ eM_
            try dsimp only [Option.toList, List.cons_append, List.nil_append]
            refine xt_shr ?_
            refine xt_and ?_
            refine xt_ic ?_
            refine xt_and ?_
            refine xt_ri rfl (Nat.le_refl _) ?_
            intro w2 a2 b2 e2
            simp only [List.cons.injEq, Sum.inl.injEq, and_true, true_and] at e2
            obtain ⟨rfl, rfl, rfl⟩ := e2
            have kC : Bth (cM M) (nI an) (nI bn) := by unfold Bth; rw [va, vb]; exact ⟨kA, kB⟩
            have ho := hV.2.2.2.1 wn 0 hwn (by decide)
            have hu := hV.2.2.2.1 wn 1 hwn (by decide)
            rw [cM_w M hwn (by decide)] at ho hu
            obtain ⟨on, hon, eo⟩ := ho
            obtain ⟨un, hun, eu⟩ := hu
            rw [ix2z hwn, show (nI 2 * nI wn + nI 1).toNatClampNeg = 2 * wn + 1 from ix2w hwn (by decide), show M 62 (2 * wn) = nI on from eo, eu, hol2 hon hun (by have := bwf_lt (sgs (cM M 41 (an * 4 + 0 * 2)) (cM M 41 (an * 4 + 0 * 2 + 1)) (cM M 41 (bn * 4 + 0 * 2)) (cM M 41 (bn * 4 + 0 * 2 + 1))) 13 (by omega); exact Nat.lt_of_lt_of_le this (by decide)) (by have := bwf_lt (sgs (cM M 41 (an * 4 + 1 * 2)) (cM M 41 (an * 4 + 1 * 2 + 1)) (cM M 41 (bn * 4 + 1 * 2)) (cM M 41 (bn * 4 + 1 * 2 + 1))) 13 (by omega); exact Nat.lt_of_lt_of_le this (by decide))]
            refine ⟨rfl, RE_M ?_⟩
            unfold spHolds
            rw [cif_t k_1, cif_t k_9, cif_t kC, vw, va, vb, cM_w M hwn (by decide), cM_w M hwn (by decide), show M 62 (2 * wn + 0) = nI on from eo, eu, nv_nI (by omega), nv_nI (by omega)]
            rfl
          · skip
            have kB : ¬ Bth (cM M) (nI an) (nI bn) := fun q => by rw [nI_clamp (by omega)] at hc_36; unfold Bth at q; rw [vb] at q; exact q.2 hc_36
            refine xt_nil (t := 39) rfl ?_
            refine xt_blk rfl rfl (by dsimp only [List.take]) ?_
            refine xt_aln0 rfl (by first | decide | omega | assumption) ?_
            refine xt_bim rfl ?_
            refine xt_v2 (key := 280) (q := q_X7_refuse) rfl rfl rfl rfl rfl ⟨Nat.le_of_ble_eq_true rfl, Nat.le_of_ble_eq_true rfl⟩ ⟨3, by decide, by decide, rfl, rfl⟩ (fun rv_ S1 M_42 hq_42 => ?_)
            obtain ⟨eS_, eM_, rfl⟩ := hq_42 3 (by decide) (by decide) rfl
            replace eS_ := eS_.symm
            replace eM_ := eM_.symm
            subst eS_ eM_
            try dsimp only [Option.toList, List.cons_append, List.nil_append]
            refine xt_ri rfl (Nat.le_refl _) ?_
            intro w2 a2 b2 e2
            simp only [List.cons.injEq, Sum.inl.injEq, and_true, true_and] at e2
            obtain ⟨rfl, rfl, rfl⟩ := e2
            refine ⟨rfl, RE_R ?_⟩
            unfold spHolds
            rw [cif_t k_1, cif_t k_9, cif_f kB]
      · skip
        have k_9 := k_no h_c9 hc_12
        refine xt_nil (t := 15) rfl ?_
        refine xt_blk rfl rfl (by dsimp only [List.take]) ?_
        refine xt_aln0 rfl (by first | decide | omega | assumption) ?_
        refine xt_icm rfl ?_
        refine xt_v2 (key := 280) (q := q_X7_refuse) rfl rfl rfl rfl rfl ⟨Nat.le_of_ble_eq_true rfl, Nat.le_of_ble_eq_true rfl⟩ ⟨1, by decide, by decide, rfl, rfl⟩ (fun rv_ S1 M_17 hq_17 => ?_)
        obtain ⟨eS_, eM_, rfl⟩ := hq_17 1 (by decide) (by decide) rfl
        replace eS_ := eS_.symm
        replace eM_ := eM_.symm
        subst eS_ eM_
        try dsimp only [Option.toList, List.cons_append, List.nil_append]
        refine xt_ri rfl (Nat.le_refl _) ?_
        intro w2 a2 b2 e2
        simp only [List.cons.injEq, Sum.inl.injEq, and_true, true_and] at e2
        obtain ⟨rfl, rfl, rfl⟩ := e2
        refine ⟨rfl, RE_R ?_⟩
        unfold spHolds
        rw [cif_t k_1, cif_f k_9]
  · intro μ pc ls st S2 M2 cs sl h; exact h.elim
def q_X7_moved : x_K := (4, fun as S M => ∃ (w : Int32) (a : Int32) (b : Int32) (c : Nat), RI c M ∧ S = SH ∧ as = [.inr (.inl 53), .inl w, .inl a, .inl b], fun as S M rv_ S' M' => ∀ (w : Int32) (a : Int32) (b : Int32), as = [.inr (.inl 53), .inl w, .inl a, .inl b] → S' = S ∧ REnd M M' rv_ (spMoved (cM M) w a b), 0, 0)
theorem r_X7_moved : ∀ as S M, q_X7_moved.2.1 as S M → ∃ (k : Nat) (as' : List x_V) (fs : List (Option Nat)), as = .inr (.inl k) :: as' ∧ S[k]? = some (.inl (5, fs)) := by
  rintro as S M ⟨w, a, b, c, -, rfl, rfl⟩
  exact ⟨53, _, _, rfl, rfl⟩
def b_X7_moved : x_B := [(0, 4, [(.iload_n 1, 1), (.iload_n 2, 1), (.iload_n 3, 1), (.invokestatic 138, 3), (.istore 4, 2), (.iload 4, 2), (.ifCond .ge 10, 3), (.aload_n 0, 1), (.iload 4, 2), (.invokevirtual 93, 3), (.ireturn, 1)]),
  (20, 5, [(.aload_n 0, 1), (.getfield 38, 3), (.iload_n 2, 1), (.baload, 1), (.ifCond .eq 12, 3), (.aload_n 0, 1), (.getfield 38, 3), (.iload_n 3, 1), (.baload, 1), (.ifCond .ne 10, 3)]),
  (38, 5, [(.aload_n 0, 1), (.bipush (-3), 2), (.invokevirtual 93, 3), (.ireturn, 1)]),
  (45, 5, [(.aload_n 0, 1), (.iload_n 1, 1), (.iconst 0, 1), (.invokevirtual 142, 3), (.ifCond .eq 40, 3), (.aload_n 0, 1), (.getfield 19, 3), (.bipush 13, 2), (.aload_n 0, 1), (.iload_n 1, 1), (.iload_n 2, 1), (.iload_n 3, 1), (.invokevirtual 160, 3), (.imul, 1), (.aload_n 0, 1), (.getfield 50, 3), (.sipush 540, 3), (.bipush 6, 2), (.iload_n 2, 1), (.imul, 1), (.iadd, 1), (.iload_n 3, 1), (.iadd, 1), (.iaload, 1), (.invokestatic 148, 3), (.iadd, 1), (.iaload, 1), (.goto 5, 3)]),
  (91, 5, [(.bipush (-9), 2)]),
  (93, 5, [(.ireturn, 1)])]
theorem b_X7_moved_ok : x_okB cX7_moved 5 b_X7_moved = true := by decide +kernel
def X_X7_moved : x_X := ([(38, 5, 10), (19, 5, 3), (50, 5, 14)], [], [], [], [(414, q_X7_wrong), (280, q_X7_refuse), (427, q_X7_canBeWithout), (481, q_X7_ofBoxes), (444, q_X7_bitOf)], (0, 0), x_kn, x_kf, 5, false)
theorem X_X7_moved_ok : x_okT RX7 X_X7_moved = true := by decide +kernel
theorem k_X7_moved (l : Launch) : ∀ z ∈ X_X7_moved.2.2.2.2.1, x_Cal l (x_rm 5 0 0) cX7_moved RX7 5 z.1 z.2 := List.forall_mem_cons.mpr ⟨x_cal_S (idx := 138) (c_X7_wrong l) ⟨by decide, by decide⟩ (by decide +kernel) (by decide +kernel) (by decide +kernel) (by decide +kernel) (by decide +kernel), List.forall_mem_cons.mpr ⟨x_cal_V (idx := 93) (ci := 5) (n := 1) (c_X7_refuse l) ⟨by decide, by decide⟩ (by decide +kernel) (by decide +kernel) (by decide +kernel) (by decide +kernel) (by decide +kernel) rfl rfl rfl (by decide +kernel) r_X7_refuse, List.forall_mem_cons.mpr ⟨x_cal_V (idx := 142) (ci := 5) (n := 2) (c_X7_canBeWithout l) ⟨by decide, by decide⟩ (by decide +kernel) (by decide +kernel) (by decide +kernel) (by decide +kernel) (by decide +kernel) rfl rfl rfl (by decide +kernel) r_X7_canBeWithout, List.forall_mem_cons.mpr ⟨x_cal_V (idx := 160) (ci := 5) (n := 3) (c_X7_ofBoxes l) ⟨by decide, by decide⟩ (by decide +kernel) (by decide +kernel) (by decide +kernel) (by decide +kernel) (by decide +kernel) rfl rfl rfl (by decide +kernel) r_X7_ofBoxes, List.forall_mem_cons.mpr ⟨x_cal_S (idx := 148) (c_X7_bitOf l) ⟨by decide, by decide⟩ (by decide +kernel) (by decide +kernel) (by decide +kernel) (by decide +kernel) (by decide +kernel), fun _ h => absurd h List.not_mem_nil⟩⟩⟩⟩⟩
set_option maxHeartbeats 4000000 in
set_option maxRecDepth 100000 in
theorem c_X7_moved (l : Launch) : x_CT l yX7_moved cX7_moved 5 (some .int) 5 q_X7_moved := by
  refine x_meth (X := X_X7_moved) (bl := b_X7_moved) (cut := []) (own := RX7) 30 (by decide) rfl X_X7_moved_ok b_X7_moved_ok rfl (Nat.le_of_ble_eq_true rfl) (k_X7_moved l) ?_
  rintro as S M - ⟨w, a, b, c, hRI, rfl, rfl⟩
  have hok := hRI.2.1
  have hV := hRI.2
  have hTb := hRI.1
  refine ⟨fun _ _ _ _ _ _ _ _ => False, ?_, ?_⟩
  · skip
    refine xt_blk rfl rfl (by dsimp only [List.take]) ?_
    refine xt_iln1 rfl ?_
    refine xt_iln2 rfl ?_
    refine xt_iln3 rfl ?_
    refine xt_v3 (key := 414) (q := q_X7_wrong) rfl rfl rfl rfl rfl ⟨Nat.le_of_ble_eq_true rfl, Nat.le_of_ble_eq_true rfl⟩ ⟨_, _, _, rfl⟩ (fun rv_ S1 M_3 hq_3 => ?_)
    obtain ⟨eS_, eM_, h_r⟩ := hq_3 _ _ _ rfl
    replace eS_ := eS_.symm
    replace eM_ := eM_.symm
    subst eS_ eM_
    have hex_r : ∃ v, rv_ = some (.inl v) := by rcases h_r with ⟨-, e⟩ | ⟨-, -, e⟩ | ⟨-, -, e⟩ <;> exact ⟨_, e⟩
    obtain ⟨v_r, rfl⟩ := hex_r
    simp only [Option.some.injEq, Sum.inl.injEq] at h_r
    replace h_r : rfA w a b v_r := h_r
    try dsimp only [Option.toList, List.cons_append, List.nil_append]
    refine xt_ist rfl (by dsimp only [x_sto]) ?_
    refine xt_ild rfl ?_
    refine xt_ge (t := 20) rfl (fun hc_10 => ?_) (fun hc_10 => ?_)
    · skip
      obtain ⟨k_2, k_1⟩ := rfA_ge h_r hc_10
      obtain ⟨wn, hwn, ewn⟩ := id k_1
      subst ewn
      have vw : nv (nI wn) = wn := nv_nI (by omega)
      obtain ⟨⟨an, han, ean⟩, ⟨bn, hbn, ebn⟩, hab⟩ := id k_2
      subst ean ebn
      have va : nv (nI an) = an := nv_nI (by omega)
      have vb : nv (nI bn) = bn := nv_nI (by omega)
      have hne : an ≠ bn := fun e => hab (by rw [e])
      refine xt_blk rfl rfl (by dsimp only [List.take]) ?_
      refine xt_aln0 rfl (by first | decide | omega | assumption) ?_
      refine xt_gfr (q := (5, 10)) rfl (by first | rfl | assumption) rfl ?_
      refine xt_iln2 rfl ?_
      refine xt_bal (by first | rfl | assumption) (show vp_in _ 6 from vp_in_nI (by omega) (by decide)) ?_
      refine xt_eq (t := 38) rfl (fun hc_26 => ?_) (fun hc_26 => ?_)
      · skip
        have kA : ¬ Bth (cM M) (nI an) (nI bn) := fun q => by rw [nI_clamp (by omega)] at hc_26; unfold Bth at q; rw [va] at q; exact q.1 hc_26
        refine xt_blk rfl rfl (by dsimp only [List.take]) ?_
        refine xt_aln0 rfl (by first | decide | omega | assumption) ?_
        refine xt_bim rfl ?_
        refine xt_v2 (key := 280) (q := q_X7_refuse) rfl rfl rfl rfl rfl ⟨Nat.le_of_ble_eq_true rfl, Nat.le_of_ble_eq_true rfl⟩ ⟨3, by decide, by decide, rfl, rfl⟩ (fun rv_ S1 M_41 hq_41 => ?_)
        obtain ⟨eS_, eM_, rfl⟩ := hq_41 3 (by decide) (by decide) rfl
        replace eS_ := eS_.symm
        replace eM_ := eM_.symm
        subst eS_ eM_
        try dsimp only [Option.toList, List.cons_append, List.nil_append]
        refine xt_ri rfl (Nat.le_refl _) ?_
        intro w2 a2 b2 e2
        simp only [List.cons.injEq, Sum.inl.injEq, and_true, true_and] at e2
        obtain ⟨rfl, rfl, rfl⟩ := e2
        refine ⟨rfl, RE_R ?_⟩
        unfold spMoved
        rw [cif_t k_2, cif_t k_1, cif_f kA]
      · skip
        have kA : M 63 an ≠ 0 := by rw [nI_clamp (by omega)] at hc_26; exact hc_26
        refine xt_aln0 rfl (by first | decide | omega | assumption) ?_
        refine xt_gfr (q := (5, 10)) rfl (by first | rfl | assumption) rfl ?_
        refine xt_iln3 rfl ?_
        refine xt_bal (by first | rfl | assumption) (show vp_in _ 6 from vp_in_nI (by omega) (by decide)) ?_
        refine xt_ne (t := 45) rfl (fun hc_35 => ?_) (fun hc_35 => ?_)
        · skip
          have kB : M 63 bn ≠ 0 := by rw [nI_clamp (by omega)] at hc_35; exact hc_35
          refine xt_blk rfl rfl (by dsimp only [List.take]) ?_
          refine xt_aln0 rfl (by first | decide | omega | assumption) ?_
          refine xt_iln1 rfl ?_
          refine xt_ic ?_
          refine xt_v3 (key := 427) (q := q_X7_canBeWithout) rfl rfl rfl rfl rfl ⟨Nat.le_of_ble_eq_true rfl, Nat.le_of_ble_eq_true rfl⟩ ⟨wn, 0, c, hwn, by decide, hRI, rfl, rfl⟩ (fun rv_ S1 M_48 hq_48 => ?_)
          obtain ⟨eS_, hRk, hpos⟩ := hq_48 wn 0 hwn (by decide) rfl
          replace eS_ := eS_.symm
          subst eS_
          rw [tN_0 hok wn] at hpos
          have hex : ∃ v, rv_ = some (.inl v) := by rcases hpos with ⟨e, -⟩ | ⟨e, -⟩ <;> exact ⟨_, e⟩
          obtain ⟨v, rfl⟩ := hex
          simp only [Option.some.injEq, Sum.inl.injEq] at hpos
          try dsimp only [Option.toList, List.cons_append, List.nil_append]
          refine xt_eq (t := 91) rfl (fun hc_51 => ?_) (fun hc_51 => ?_)
          · skip
            have hsat : ¬ Sat (tF (cM M) wn) := by
              rcases hpos with ⟨e, -⟩ | ⟨-, z⟩
              · rw [e] at hc_51; exact absurd hc_51 (by decide)
              · exact z
            refine xt_blk rfl rfl (by dsimp only [List.take]) ?_
            refine xt_bim rfl ?_
            refine xt_nil (t := 93) rfl ?_
            refine xt_blk rfl rfl (by dsimp only [List.take]) ?_
            refine xt_ri rfl (Nat.le_refl _) ?_
            intro w2 a2 b2 e2
            simp only [List.cons.injEq, Sum.inl.injEq, and_true, true_and] at e2
            obtain ⟨rfl, rfl, rfl⟩ := e2
            have kC : Bth (cM M) (nI an) (nI bn) := by unfold Bth; rw [va, vb]; exact ⟨kA, kB⟩
            refine ⟨rfl, RE_k hRk ?_⟩
            unfold spMoved
            rw [cif_t k_2, cif_t k_1, cif_t kC, vw, cif_f hsat]
          · skip
            have hfs : ∃ s, Fs (tF (cM M) wn) s ∧ R540 M_48 s := by
              rcases hpos with ⟨-, z⟩ | ⟨e, -⟩
              · exact z
              · rw [e] at hc_51; exact absurd rfl hc_51
            obtain ⟨s, hFs, hR⟩ := hfs
            have hsat := Fs_Sat hFs
            have hrl := rel_lt hR.1 han hbn
            have e67 : M_48 67 (nI 540 + nI 6 * nI an + nI bn).toNatClampNeg = nI (2 ^ rel s an bn) := by rw [ix540 han hbn]; exact hR.2 _ _ han hbn hne
            have hbx : bxr (cM M) wn an bn < 13 := bwf_lt _ 13 (by omega)
            refine xt_aln0 rfl (by first | decide | omega | assumption) ?_
            refine xt_gfr (q := (5, 3)) rfl (by first | rfl | assumption) rfl ?_
            refine xt_bi ?_
            refine xt_aln0 rfl (by first | decide | omega | assumption) ?_
            refine xt_iln1 rfl ?_
            refine xt_iln2 rfl ?_
            refine xt_iln3 rfl ?_
            refine xt_v4 (key := 481) (q := q_X7_ofBoxes) rfl rfl rfl rfl rfl ⟨Nat.le_of_ble_eq_true rfl, Nat.le_of_ble_eq_true rfl⟩ ⟨wn, an, bn, hwn, han, hbn, by rw [Rk_c hRk]; exact hV, by rw [hRk 63 (by decide) (by decide)]; exact kA, by rw [hRk 63 (by decide) (by decide)]; exact kB, rfl, rfl⟩ (fun rv_ S1 M_64 hq_64 => ?_)
            obtain ⟨eS_, eM_, rfl⟩ := hq_64 wn an bn hwn han hbn rfl
            replace eS_ := eS_.symm
            replace eM_ := eM_.symm
            subst eS_ eM_
            rw [Rk_c hRk]
            try dsimp only [Option.toList, List.cons_append, List.nil_append]
            refine xt_mul ?_
            refine xt_aln0 rfl (by first | decide | omega | assumption) ?_
            refine xt_gfr (q := (5, 14)) rfl (by first | rfl | assumption) rfl ?_
            refine xt_si ?_
            refine xt_bi ?_
            refine xt_iln2 rfl ?_
            refine xt_mul ?_
            refine xt_add ?_
            refine xt_iln3 rfl ?_
            refine xt_add ?_
            refine xt_ial (by first | rfl | assumption) (vx540 han hbn) ?_
            refine xt_v1 (key := 444) (q := q_X7_bitOf) rfl rfl rfl rfl rfl ⟨Nat.le_of_ble_eq_true rfl, Nat.le_of_ble_eq_true rfl⟩ ⟨rel s an bn, hrl, by rw [e67]⟩ (fun rv_ S1 M_83 hq_83 => ?_)
            obtain ⟨eS_, eM_, rfl⟩ := hq_83 (rel s an bn) hrl (by rw [e67])
            replace eS_ := eS_.symm
            replace eM_ := eM_.symm
            subst eS_ eM_
            try dsimp only [Option.toList, List.cons_append, List.nil_append]
            refine xt_add ?_
            refine xt_ial (by first | rfl | assumption) (show vp_in _ 169 from by rw [pk_mul, nI_add]; exact vp_in_nI (by omega) (by decide)) ?_
            refine xt_goto (t := 93) rfl ?_
            refine xt_blk rfl rfl (by dsimp only [List.take]) ?_
            refine xt_ri rfl (Nat.le_refl _) ?_
            intro w2 a2 b2 e2
            simp only [List.cons.injEq, Sum.inl.injEq, and_true, true_and] at e2
            obtain ⟨rfl, rfl, rfl⟩ := e2
            have kC : Bth (cM M) (nI an) (nI bn) := by unfold Bth; rw [va, vb]; exact ⟨kA, kB⟩
            rw [pk_mul, nI_add, nI_clamp (by omega), hRk 57 (by decide) (by decide), hTb.2.2.2.1 _ _ hbx hrl]
            refine ⟨rfl, RE_k hRk ?_⟩
            unfold spMoved
            rw [cif_t k_2, cif_t k_1, cif_t kC, vw, cif_t hsat, va, vb, fs_rel hFs han hbn]
        · skip
          have kB : ¬ Bth (cM M) (nI an) (nI bn) := fun q => by rw [nI_clamp (by omega)] at hc_35; unfold Bth at q; rw [vb] at q; exact q.2 hc_35
          refine xt_nil (t := 38) rfl ?_
          refine xt_blk rfl rfl (by dsimp only [List.take]) ?_
          refine xt_aln0 rfl (by first | decide | omega | assumption) ?_
          refine xt_bim rfl ?_
          refine xt_v2 (key := 280) (q := q_X7_refuse) rfl rfl rfl rfl rfl ⟨Nat.le_of_ble_eq_true rfl, Nat.le_of_ble_eq_true rfl⟩ ⟨3, by decide, by decide, rfl, rfl⟩ (fun rv_ S1 M_41 hq_41 => ?_)
          obtain ⟨eS_, eM_, rfl⟩ := hq_41 3 (by decide) (by decide) rfl
          replace eS_ := eS_.symm
          replace eM_ := eM_.symm
          subst eS_ eM_
          try dsimp only [Option.toList, List.cons_append, List.nil_append]
          refine xt_ri rfl (Nat.le_refl _) ?_
          intro w2 a2 b2 e2
          simp only [List.cons.injEq, Sum.inl.injEq, and_true, true_and] at e2
          obtain ⟨rfl, rfl, rfl⟩ := e2
          refine ⟨rfl, RE_R ?_⟩
          unfold spMoved
          rw [cif_t k_2, cif_t k_1, cif_f kB]
    · skip
      obtain ⟨p, hp0, hp7, ev, hpp⟩ := rfA_lt h_r hc_10
      subst ev
      refine xt_aln0 rfl (by first | decide | omega | assumption) ?_
      refine xt_ild rfl ?_
      refine xt_v2 (key := 280) (q := q_X7_refuse) rfl rfl rfl rfl rfl ⟨Nat.le_of_ble_eq_true rfl, Nat.le_of_ble_eq_true rfl⟩ ⟨p, hp0, hp7, rfl, rfl⟩ (fun rv_ S1 M_16 hq_16 => ?_)
      obtain ⟨eS_, eM_, rfl⟩ := hq_16 p hp0 hp7 rfl
      replace eS_ := eS_.symm
      replace eM_ := eM_.symm
      subst eS_ eM_
      try dsimp only [Option.toList, List.cons_append, List.nil_append]
      refine xt_ri rfl (Nat.le_refl _) ?_
      intro w2 a2 b2 e2
      simp only [List.cons.injEq, Sum.inl.injEq, and_true, true_and] at e2
      obtain ⟨rfl, rfl, rfl⟩ := e2
      exact ⟨rfl, RE_R (rfA_sp2 hpp)⟩
  · intro μ pc ls st S2 M2 cs sl h; exact h.elim
