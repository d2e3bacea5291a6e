/-! WAY: findCore, coreBits -/
theorem ckF_le (A B s : Nat → Nat) (n : Nat) : ∀ j kept, ckF A B s n kept j ≤ kept
  | 0, kept => Nat.le_refl _
  | j + 1, kept => by
    unfold ckF
    refine Nat.le_trans (ckF_le A B s n j _) ?_
    by_cases h : kept.testBit j = true ∧ ¬ Sat (wnF A B s (clr kept j) n)
    · rw [if_pos h]; exact clr_le _ _
    · rw [if_neg h]; exact Nat.le_refl _
theorem ckF_y {A B s : Nat → Nat} {n kept j : Nat} (h1 : kept.testBit j = true) (h2 : ¬ Sat (wnF A B s (clr kept j) n)) : ckF A B s n kept (j + 1) = ckF A B s n (clr kept j) j := by
  show ckF A B s n _ j = _
  rw [if_pos ⟨h1, h2⟩]
theorem ckF_n {A B s : Nat → Nat} {n kept j : Nat} (h : kept.testBit j = true → Sat (wnF A B s (clr kept j) n)) : ckF A B s n kept (j + 1) = ckF A B s n kept j := by
  show ckF A B s n _ j = _
  rw [if_neg (fun q => q.2 (h q.1))]
theorem tbf_30 (t : Nat → Int32) {n : Nat} (hn : n ≤ 30) : tbf t n < 2 ^ 30 := Nat.lt_of_lt_of_le (tbf_lt _ _) (Nat.pow_le_pow_right (by decide) hn)
theorem coM_lt {M : x_M} (h : OkM M) (w : Nat) : coM M w < 2 ^ 30 := Nat.lt_of_le_of_lt (ckF_le _ _ _ _ _ _) (tbf_30 _ h.1)
theorem n_clr {w p : Nat} (hw : w < 2 ^ 31) (hp : p < 30) : nI w &&& (nI 1 <<< (nI p &&& 31) ^^^ -(nI 1)) = nI (clr w p) := by
  have hpw : 2 ^ p < 2 ^ 31 := Nat.pow_lt_pow_right (by decide) (by omega)
  rw [n_shl (by omega) (by omega), Nat.one_mul, n_andn _ _ hw hpw]; rfl
theorem clr_id {w p : Nat} (hp : p < 32) (h : clr w p = w) : ¬ w.testBit p = true := by
  have := clr_tb (w := w) (p := p) (i := p) hp
  rw [h] at this
  intro q
  rw [q] at this
  simp at this
theorem clr_nid {w p : Nat} (hw : w < 2 ^ 32) (h : clr w p ≠ w) : w.testBit p = true := by
  cases q : w.testBit p
  · exfalso
    apply h
    apply Nat.eq_of_testBit_eq
    intro i
    by_cases hi : i < 32
    · rw [clr_tb hi]
      by_cases e : p = i
      · subst e; rw [q]; simp
      · simp [e]
    · have h1 : w.testBit i = false := Nat.testBit_lt_two_pow (Nat.lt_of_lt_of_le hw (Nat.pow_le_pow_right (by decide) (by omega)))
      have h2 : (clr w p).testBit i = false := Nat.testBit_lt_two_pow (Nat.lt_of_le_of_lt (clr_le w p) (Nat.lt_of_lt_of_le hw (Nat.pow_le_pow_right (by decide) (by omega))))
      rw [h1, h2]
  · rfl
theorem n_s1 (i : Nat) : nI (i + 1) - nI 1 = nI i := by rw [← nI_add, Int32.add_sub_cancel]
theorem n_m1 {j : Nat} (hj : j < 2 ^ 31) : (nI j - nI 1 < nI 0) ↔ j = 0 := by
  cases j with
  | zero => decide
  | succ j => rw [n_s1, nI_ltI (by omega) (by omega)]; omega
def q_X5_findCore : x_K := (1, fun as S M => ∃ (q : Nat), isWy q ∧ OkM M ∧ M q 0 = nI (wo q) ∧ S = SH ∧ as = [.inr (.inl q)],
  fun as S M rv_ S' M' => ∀ (q : Nat), as = [.inr (.inl q)] → S' = S ∧ (∀ j, j < 10 ∨ 25 < j → j ≠ q + 4 → M' j = M j) ∧ rv_ = some (.inl (nI (coM M (wo q)))), 0, 0)
theorem r_X5_findCore : ∀ as S M, q_X5_findCore.2.1 as S M → ∃ (k : Nat) (as' : List x_V) (fs : List (Option Nat)), as = .inr (.inl k) :: as' ∧ S[k]? = some (.inl (3, fs)) := by
  rintro as S M ⟨q, hw, -, -, rfl, rfl⟩
  exact ⟨q, _, _, rfl, SHw hw⟩
def b_X5_findCore : x_B := [(0, 1, [(.aload_n 0, 1), (.getfield 15, 3), (.invokevirtual 112, 3), (.istore_n 1, 1), (.aload_n 0, 1), (.getfield 15, 3), (.invokevirtual 129, 3), (.iconst 1, 1), (.isub, 1), (.istore_n 2, 1)]),
  (18, 3, [(.iload_n 2, 1), (.ifCond .lt 67, 3), (.iload_n 1, 1), (.iconst 1, 1), (.iload_n 2, 1), (.ishl, 1), (.iconst (-1), 1), (.ixor, 1), (.iand, 1), (.istore_n 3, 1), (.iload_n 3, 1), (.iload_n 1, 1), (.if_icmp .eq 48, 3), (.aload_n 0, 1), (.getfield 15, 3), (.aload_n 0, 1), (.getfield 9, 3), (.iload_n 3, 1), (.aload_n 0, 1), (.getfield 35, 3), (.invokevirtual 115, 3), (.aload_n 0, 1), (.getfield 35, 3), (.sipush 32767, 3), (.invokestatic 119, 3), (.ifCond .eq 17, 3), (.aload_n 0, 1), (.getfield 19, 3), (.aload_n 0, 1), (.getfield 35, 3), (.invokevirtual 53, 3), (.ifCond .ne 5, 3)]),
  (78, 4, [(.iload_n 3, 1), (.istore_n 1, 1)]),
  (80, 4, [(.iinc 2 (-1), 3), (.goto (-65), 3)]),
  (86, 3, [(.iload_n 1, 1), (.ireturn, 1)])]
theorem b_X5_findCore_ok : x_okB cX5_findCore 4 b_X5_findCore = true := by decide +kernel
def X_X5_findCore : x_X := ([(15, 3, 1), (9, 3, 0), (35, 3, 6), (19, 3, 2)], [], [], [], [(337, q_X4_toldBits), (388, q_X4_size), (346, q_X4_writeNet), (357, q_X1_close), (160, q_X3_canHold)], (0, 0), x_kn, x_kf, 5, false)
theorem X_X5_findCore_ok : x_okT RX5 X_X5_findCore = true := by decide +kernel
theorem k_X5_findCore (l : Launch) : ∀ z ∈ X_X5_findCore.2.2.2.2.1, x_Cal l (x_rm 21 0 0) cX5_findCore RX5 4 z.1 z.2 := List.forall_mem_cons.mpr ⟨x_cal_V (idx := 112) (ci := 2) (n := 0) (c_X4_toldBits l) ⟨by decide, by decide⟩ (by decide +kernel) (by decide +kernel) (by decide +kernel) (by decide +kernel) (by decide +kernel) rfl rfl rfl (by decide +kernel) r_X4_toldBits, List.forall_mem_cons.mpr ⟨x_cal_V (idx := 129) (ci := 2) (n := 0) (c_X4_size l) ⟨by decide, by decide⟩ (by decide +kernel) (by decide +kernel) (by decide +kernel) (by decide +kernel) (by decide +kernel) rfl rfl rfl (by decide +kernel) r_X4_size, List.forall_mem_cons.mpr ⟨x_cal_V (idx := 115) (ci := 2) (n := 3) (c_X4_writeNet l) ⟨by decide, by decide⟩ (by decide +kernel) (by decide +kernel) (by decide +kernel) (by decide +kernel) (by decide +kernel) rfl rfl rfl (by decide +kernel) r_X4_writeNet, List.forall_mem_cons.mpr ⟨x_cal_S (idx := 119) (c_X1_close l) ⟨by decide, by decide⟩ (by decide +kernel) (by decide +kernel) (by decide +kernel) (by decide +kernel) (by decide +kernel), List.forall_mem_cons.mpr ⟨x_cal_V (idx := 53) (ci := 1) (n := 1) (c_X3_canHold l) ⟨by decide, by decide⟩ (by decide +kernel) (by decide +kernel) (by decide +kernel) (by decide +kernel) (by decide +kernel) rfl rfl rfl (by decide +kernel) r_X3_canHold, fun _ h => absurd h List.not_mem_nil⟩⟩⟩⟩⟩
set_option maxHeartbeats 4000000 in
set_option maxRecDepth 100000 in
theorem c_X5_findCore (l : Launch) : x_CT l yX5_findCore cX5_findCore 4 (some .int) 21 q_X5_findCore := by
  refine x_meth (X := X_X5_findCore) (bl := b_X5_findCore) (cut := [18]) (own := RX5) 30 (by decide) rfl X_X5_findCore_ok b_X5_findCore_ok rfl (Nat.le_of_ble_eq_true rfl) (k_X5_findCore l) ?_
  rintro as S M - ⟨q, hw, hok, hw0, rfl, rfl⟩
  refine ⟨fun μ pc ls st S' M' cs sl => ∃ (j kept : Nat), j ≤ nN M ∧ kept < 2 ^ 30 ∧ ckF (nA M) (nB M) (nS M (wo q)) (nN M) kept j = coM M (wo q) ∧ (∀ j, j < 10 ∨ 25 < j → j ≠ q + 4 → M' j = M j) ∧ pc = 18 ∧ st = [] ∧ S' = SH ∧ cs = 0 ∧ sl = 0 ∧ ls = [.inr (.inl q), .inl (nI kept), .inl (nI j - nI 1)] ∧ μ = j + 1, ?_, ?_⟩
  · skip
    refine xt_blk rfl rfl (by dsimp only [List.take]) ?_
    refine xt_aln0 rfl (by first | decide | omega | assumption | (have := isWy_lt hw; omega)) ?_
    refine xt_gfr (q := (3, 1)) rfl (by first | exact SHw hw | exact SHw1 hw | exact SHw2 hw | exact SHw3 hw | exact SHw4 hw | exact SHw5 hw | exact SHw6 hw | rfl | assumption) rfl ?_
    refine xt_v1 (key := 337) (q := q_X4_toldBits) rfl rfl rfl rfl rfl ⟨Nat.le_of_ble_eq_true rfl, Nat.le_of_ble_eq_true rfl⟩ ⟨rfl, ⟨nN M, hok.1, hok.2.1⟩, rfl⟩ (fun rv_ S1 M1 hq_4 => ?_)
    obtain ⟨eS_, eM_, rfl⟩ := hq_4 (nN M) hok.1 hok.2.1 rfl
    replace eS_ := eS_.symm
    replace eM_ := eM_.symm
    subst eS_ eM_
    try dsimp only [Option.toList, List.cons_append, List.nil_append]
    refine xt_isn1 rfl (by dsimp only [x_sto]) ?_
    refine xt_aln0 rfl (by first | decide | omega | assumption | (have := isWy_lt hw; omega)) ?_
    refine xt_gfr (q := (3, 1)) rfl (by first | exact SHw hw | exact SHw1 hw | exact SHw2 hw | exact SHw3 hw | exact SHw4 hw | exact SHw5 hw | exact SHw6 hw | rfl | assumption) rfl ?_
    refine xt_v1 (key := 388) (q := q_X4_size) rfl rfl rfl rfl rfl ⟨Nat.le_of_ble_eq_true rfl, Nat.le_of_ble_eq_true rfl⟩ ⟨rfl, rfl⟩ (fun rv_ S1 M1 hq_12 => ?_)
    obtain ⟨eS_, eM_, rfl⟩ := hq_12 rfl
    replace eS_ := eS_.symm
    replace eM_ := eM_.symm
    subst eS_ eM_
    try dsimp only [Option.toList, List.cons_append, List.nil_append]
    refine xt_ic ?_
    refine xt_sub ?_
    refine xt_isn2 rfl (by dsimp only [x_sto]) ?_
    refine xt_nil (t := 18) rfl ?_
    refine xt_cut rfl rfl (by dsimp only [List.take]) ?_
    refine ⟨_, nN M, _, Nat.le_refl _, tbf_30 (M 7) hok.1, rfl, fun _ _ _ => rfl, rfl, rfl, rfl, rfl, rfl, by rw [hok.2.1], rfl⟩
  · rintro μ pc ls st S2 M2 cs sl (⟨j, kept, hj, hk, hck, hfr, rfl, rfl, rfl, rfl, rfl, rfl, rfl⟩)
    · refine ⟨_, rfl, ?_⟩
      refine xt_iln2 rfl ?_
      refine xt_lt (t := 86) rfl (fun hc_19 => ?_) (fun hc_19 => ?_)
      · skip
        refine xt_blk rfl rfl (by dsimp only [List.take]) ?_
        refine xt_iln1 rfl ?_
        refine xt_ri rfl (Nat.le_refl _) ?_
        intro q2 e2
        simp only [List.cons.injEq, Sum.inr.injEq, Sum.inl.injEq, and_true] at e2
        subst e2
        have hj0 : j = 0 := (n_m1 (by have := hok.1; omega)).mp hc_19
        subst hj0
        exact ⟨rfl, hfr, by rw [← hck]; rfl⟩
      · skip
        have hj0 : j ≠ 0 := fun e => hc_19 ((n_m1 (by have := hok.1; omega)).mpr e)
        obtain ⟨i, rfl⟩ : ∃ i, j = i + 1 := ⟨j - 1, by omega⟩
        have hn30 := hok.1
        have hi30 : i < 30 := by omega
        have ej : nI (i + 1) - nI 1 = nI i := n_s1 i
        rw [ej]
        have enc := n_clr (w := kept) (p := i) (by omega) hi30
        have hcl : clr kept i < 2 ^ 30 := Nat.lt_of_le_of_lt (clr_le _ _) hk
        refine xt_iln1 rfl ?_
        refine xt_ic ?_
        refine xt_iln2 rfl ?_
        refine xt_shl ?_
        refine xt_icm rfl ?_
        refine xt_xor ?_
        refine xt_and ?_
        refine xt_isn3 rfl (by dsimp only [x_sto]) ?_
        refine xt_iln3 rfl ?_
        refine xt_iln1 rfl ?_
        refine xt_ceq (t := 80) rfl (fun hc_32 => ?_) (fun hc_32 => ?_)
        · skip
          refine xt_blk rfl rfl (by dsimp only [List.take]) ?_
          refine xt_dec rfl rfl (by dsimp only [x_sto]) ?_
          refine xt_goto (t := 18) rfl ?_
          refine xt_cut rfl rfl (by dsimp only [List.take]) ?_
          rw [enc, nI_eq (by omega) (by omega)] at hc_32
          refine ⟨i + 1, by omega, i, kept, by omega, hk, ?_, hfr, rfl, rfl, rfl, rfl, rfl, by rw [Int32.sub_eq_add_neg], rfl⟩
          rw [← hck]
          exact (ckF_n (fun q => absurd q (clr_id (by omega) hc_32))).symm
        · skip
          rw [enc, nI_eq (by omega) (by omega)] at hc_32
          rw [enc]
          have hbit := clr_nid (by omega) hc_32
          have hst7 : St7 M M2 := fun k hk => hfr k (by omega) (by rcases hw with rfl | rfl <;> omega)
          have hsz2 : M2 1 4 = nI (nN M) := by rw [hst7 1 (by decide)]; exact hok.2.1
          have hst2 : Sts M2 (wo q) (nN M) (nA M) (nB M) (nS M (wo q)) := fun i hi => by
            rw [hst7 2 (by decide), hst7 3 (by decide), hst7 (5 + wo q) (by have := wo_lt q; omega)]
            exact hok.2.2 _ (wo_lt q) i hi
          have hw2 : M2 q 0 = nI (wo q) := by rw [hfr q (by rcases hw with rfl | rfl <;> omega) (by omega)]; exact hw0
          refine xt_aln0 rfl (by first | decide | omega | assumption | (have := isWy_lt hw; omega)) ?_
          refine xt_gfr (q := (3, 1)) rfl (by first | exact SHw hw | exact SHw1 hw | exact SHw2 hw | exact SHw3 hw | exact SHw4 hw | exact SHw5 hw | exact SHw6 hw | rfl | assumption) rfl ?_
          refine xt_aln0 rfl (by first | decide | omega | assumption | (have := isWy_lt hw; omega)) ?_
          refine xt_gfi (q := (3, 0)) rfl (by first | exact SHw hw | exact SHw1 hw | exact SHw2 hw | exact SHw3 hw | exact SHw4 hw | exact SHw5 hw | exact SHw6 hw | rfl | assumption) rfl ?_
          refine xt_iln3 rfl ?_
          refine xt_aln0 rfl (by first | decide | omega | assumption | (have := isWy_lt hw; omega)) ?_
          refine xt_gfr (q := (3, 6)) rfl (by first | exact SHw hw | exact SHw1 hw | exact SHw2 hw | exact SHw3 hw | exact SHw4 hw | exact SHw5 hw | exact SHw6 hw | rfl | assumption) rfl ?_
          refine xt_v4 (key := 346) (q := q_X4_writeNet) rfl rfl rfl rfl rfl ⟨Nat.le_of_ble_eq_true rfl, Nat.le_of_ble_eq_true rfl⟩ ⟨wo q, clr kept i, q + 4, nN M, nA M, nB M, nS M (wo q), wo_lt q, hcl, by have := isWy_lt hw; omega, rfl, SHw4 hw, hok.1, hsz2, hst2, by rw [hw2]⟩ (fun rv_ S1 M1 hq_48 => ?_)
          obtain ⟨eS_, ⟨gI, eM_, hgI⟩, rfl⟩ := hq_48 (wo q) (clr kept i) (q + 4) (nN M) (nA M) (nB M) (nS M (wo q)) (wo_lt q) hcl hok.1 hsz2 hst2 (by rw [hw2])
          replace eS_ := eS_.symm
          replace eM_ := eM_.symm
          subst eS_ eM_
          have htF := wnF_ok (c := clr kept i) (OkM_n hok (wo_lt q)) _ (Nat.le_refl _)
          try dsimp only [Option.toList, List.cons_append, List.nil_append]
          refine xt_aln0 rfl (by first | decide | omega | assumption | (have := isWy_lt hw; omega)) ?_
          refine xt_gfr (q := (3, 6)) rfl (by first | exact SHw hw | exact SHw1 hw | exact SHw2 hw | exact SHw3 hw | exact SHw4 hw | exact SHw5 hw | exact SHw6 hw | rfl | assumption) rfl ?_
          refine xt_si ?_
          refine xt_v2 (key := 357) (q := q_X1_close) rfl rfl rfl rfl rfl ⟨Nat.le_of_ble_eq_true rfl, Nat.le_of_ble_eq_true rfl⟩ ⟨q + 4, 32767, wnF (nA M) (nB M) (nS M (wo q)) (clr kept i) (nN M), by have := isWy_lt hw; omega, by decide, SHw4 hw, (fun j hj => ⟨htF.1 j hj, by rw [x_row_self]; exact hgI j hj⟩), htF.2.1, IV_all _, NE_all _, rfl⟩ (fun rv_ S1 M1 hq_58 => ?_)
          obtain ⟨eS_, gI2, eM_, hcc⟩ := hq_58 (q + 4) 32767 (wnF (nA M) (nB M) (nS M (wo q)) (clr kept i) (nN M)) (fun j hj => ⟨htF.1 j hj, by rw [x_row_self]; exact hgI j hj⟩) rfl
          replace eS_ := eS_.symm
          replace eM_ := eM_.symm
          subst eS_ eM_
          rw [x_row_row]
          have hfr2 : ∀ j, j < 10 ∨ 25 < j → j ≠ q + 4 → x_row M2 (q + 4) gI2 j = M j := fun j a b => by rw [x_row_ne _ _ b]; exact hfr j a b
          have hex : ∃ v, rv_ = some (.inl v) := by rcases hcc with ⟨e, -⟩ | ⟨e, -⟩ <;> exact ⟨_, e⟩
          obtain ⟨v, rfl⟩ := hex
          try dsimp only [Option.toList, List.cons_append, List.nil_append]
          refine xt_eq (t := 78) rfl (fun hc_61 => ?_) (fun hc_61 => ?_)
          · skip
            refine xt_blk rfl rfl (by dsimp only [List.take]) ?_
            refine xt_iln3 rfl ?_
            refine xt_isn1 rfl (by dsimp only [x_sto]) ?_
            refine xt_nil (t := 80) rfl ?_
            refine xt_blk rfl rfl (by dsimp only [List.take]) ?_
            refine xt_dec rfl rfl (by dsimp only [x_sto]) ?_
            refine xt_goto (t := 18) rfl ?_
            refine xt_cut rfl rfl (by dsimp only [List.take]) ?_
            refine ⟨i + 1, by omega, i, clr kept i, by omega, hcl, ?_, hfr2, rfl, rfl, rfl, rfl, rfl, by rw [Int32.sub_eq_add_neg], rfl⟩
            rw [← hck]
            refine (ckF_y hbit ?_).symm
            rcases hcc with ⟨e, -⟩ | ⟨-, -, z⟩
            · cases e; exact absurd hc_61 (by decide)
            · exact Sat_fail z
          · skip
            have hcn : ∃ gg, At (x_row M2 (q + 4) gI2) (q + 4) gg ∧ Cn (wnF (nA M) (nB M) (nS M (wo q)) (clr kept i) (nN M)) gg := by
              rcases hcc with ⟨-, gg, z1, z2, z3, z4, z5, z6⟩ | ⟨e, -⟩
              · exact ⟨gg, fun j hj => ⟨z1 j hj, by rw [x_row_self]; exact z2 j hj⟩, z1, z3, z4, z5, z6⟩
              · cases e; exact absurd rfl hc_61
            obtain ⟨gg, hg1, hcn⟩ := hcn
            refine xt_aln0 rfl (by first | decide | omega | assumption | (have := isWy_lt hw; omega)) ?_
            refine xt_gfr (q := (3, 2)) rfl (by first | exact SHw hw | exact SHw1 hw | exact SHw2 hw | exact SHw3 hw | exact SHw4 hw | exact SHw5 hw | exact SHw6 hw | rfl | assumption) rfl ?_
            refine xt_aln0 rfl (by first | decide | omega | assumption | (have := isWy_lt hw; omega)) ?_
            refine xt_gfr (q := (3, 6)) rfl (by first | exact SHw hw | exact SHw1 hw | exact SHw2 hw | exact SHw3 hw | exact SHw4 hw | exact SHw5 hw | exact SHw6 hw | rfl | assumption) rfl ?_
            refine xt_v2 (key := 160) (q := q_X3_canHold) rfl rfl rfl rfl rfl ⟨Nat.le_of_ble_eq_true rfl, Nat.le_of_ble_eq_true rfl⟩ ⟨q + 4, gg, by have := isWy_lt hw; omega, rfl, SHw4 hw, hg1, hcn.2.1, hcn.2.2.1, hcn.2.2.2.1, rfl⟩ (fun rv_ S1 M1 hq_72 => ?_)
            obtain ⟨eS_, hfr3, hss⟩ := hq_72 (q + 4) gg hg1 rfl
            replace eS_ := eS_.symm
            subst eS_
            have hfr4 : ∀ j, j < 10 ∨ 25 < j → j ≠ q + 4 → M1 j = M j := fun j a b => (hfr3 j a).trans (hfr2 j a b)
            have hex : ∃ v, rv_ = some (.inl v) := by rcases hss with ⟨e, -⟩ | ⟨e, -⟩ <;> exact ⟨_, e⟩
            obtain ⟨v2, rfl⟩ := hex
            try dsimp only [Option.toList, List.cons_append, List.nil_append]
            refine xt_ne (t := 80) rfl (fun hc_75 => ?_) (fun hc_75 => ?_)
            · skip
              refine xt_blk rfl rfl (by dsimp only [List.take]) ?_
              refine xt_dec rfl rfl (by dsimp only [x_sto]) ?_
              refine xt_goto (t := 18) rfl ?_
              refine xt_cut rfl rfl (by dsimp only [List.take]) ?_
              refine ⟨i + 1, by omega, i, kept, by omega, hk, ?_, hfr4, rfl, rfl, rfl, rfl, rfl, by rw [Int32.sub_eq_add_neg], rfl⟩
              rw [← hck]
              refine (ckF_n (fun _ => ?_)).symm
              rcases hss with ⟨-, z⟩ | ⟨e, -⟩
              · exact (Cn_sat hcn).mpr z
              · cases e; exact absurd rfl hc_75
            · skip
              refine xt_nil (t := 78) rfl ?_
              refine xt_blk rfl rfl (by dsimp only [List.take]) ?_
              refine xt_iln3 rfl ?_
              refine xt_isn1 rfl (by dsimp only [x_sto]) ?_
              refine xt_nil (t := 80) rfl ?_
              refine xt_blk rfl rfl (by dsimp only [List.take]) ?_
              refine xt_dec rfl rfl (by dsimp only [x_sto]) ?_
              refine xt_goto (t := 18) rfl ?_
              refine xt_cut rfl rfl (by dsimp only [List.take]) ?_
              refine ⟨i + 1, by omega, i, clr kept i, by omega, hcl, ?_, hfr4, rfl, rfl, rfl, rfl, rfl, by rw [Int32.sub_eq_add_neg], rfl⟩
              rw [← hck]
              refine (ckF_y hbit ?_).symm
              rcases hss with ⟨e, -⟩ | ⟨-, z⟩
              · cases e; exact absurd hc_75 (by decide)
              · exact fun y => z ((Cn_sat hcn).mp y)
def q_X5_coreBits : x_K := (1, fun as S M => ∃ (q : Nat) , WP M q ∧ S = SH ∧ as = [.inr (.inl q)], fun as S M rv_ S' M' => ∀ (q : Nat) , as = [.inr (.inl q)] → S' = S ∧ Ed M q M' ∧ ((Sat (tF M (wo q)) ∧ rv_ = some (.inl (nI 0))) ∨ (¬ Sat (tF M (wo q)) ∧ rv_ = some (.inl (nI (coM M (wo q)))))), 0, 0)
theorem r_X5_coreBits : ∀ as S M, q_X5_coreBits.2.1 as S M → ∃ (k : Nat) (as' : List x_V) (fs : List (Option Nat)), as = .inr (.inl k) :: as' ∧ S[k]? = some (.inl (3, fs)) := by
  rintro as S M ⟨q, hp, rfl, rfl⟩
  exact ⟨q, _, _, rfl, SHw hp.1⟩
def b_X5_coreBits : x_B := [(0, 1, [(.aload_n 0, 1), (.invokevirtual 59, 3), (.ifCond .eq 5, 3), (.iconst 0, 1), (.ireturn, 1)]),
  (9, 1, [(.aload_n 0, 1), (.getfield 100, 3), (.iconst (-1), 1), (.if_icmp .ne 11, 3), (.aload_n 0, 1), (.aload_n 0, 1), (.invokevirtual 103, 3), (.putfield 100, 3)]),
  (25, 1, [(.aload_n 0, 1), (.getfield 100, 3), (.ireturn, 1)])]
theorem b_X5_coreBits_ok : x_okB cX5_coreBits 1 b_X5_coreBits = true := by decide +kernel
def X_X5_coreBits : x_X := ([(100, 3, 11)], [], [], [], [(178, q_X5_isPossible), (310, q_X5_findCore)], (0, 0), x_kn, x_kf, 5, false)
theorem X_X5_coreBits_ok : x_okT RX5 X_X5_coreBits = true := by decide +kernel
theorem k_X5_coreBits (l : Launch) : ∀ z ∈ X_X5_coreBits.2.2.2.2.1, x_Cal l (x_rm 22 0 0) cX5_coreBits RX5 1 z.1 z.2 := List.forall_mem_cons.mpr ⟨x_cal_V (idx := 59) (ci := 3) (n := 0) (c_X5_isPossible l) ⟨by decide, by decide⟩ (by decide +kernel) (by decide +kernel) (by decide +kernel) (by decide +kernel) (by decide +kernel) rfl rfl rfl (by decide +kernel) r_X5_isPossible, List.forall_mem_cons.mpr ⟨x_cal_V (idx := 103) (ci := 3) (n := 0) (c_X5_findCore l) ⟨by decide, by decide⟩ (by decide +kernel) (by decide +kernel) (by decide +kernel) (by decide +kernel) (by decide +kernel) rfl rfl rfl (by decide +kernel) r_X5_findCore, fun _ h => absurd h List.not_mem_nil⟩⟩
set_option maxHeartbeats 4000000 in
set_option maxRecDepth 100000 in
theorem c_X5_coreBits (l : Launch) : x_CT l yX5_coreBits cX5_coreBits 1 (some .int) 22 q_X5_coreBits := by
  refine x_meth (X := X_X5_coreBits) (bl := b_X5_coreBits) (cut := []) (own := RX5) 30 (by decide) rfl X_X5_coreBits_ok b_X5_coreBits_ok rfl (Nat.le_of_ble_eq_true rfl) (k_X5_coreBits l) ?_
  rintro as S M - ⟨q, hp, rfl, rfl⟩
  have hw := hp.1
  refine ⟨fun _ _ _ _ _ _ _ _ => False, ?_, ?_⟩
  · skip
    refine xt_blk rfl rfl (by dsimp only [List.take]) ?_
    refine xt_aln0 rfl (by first | decide | omega | assumption | (have := isWy_lt hw; omega)) ?_
    refine xt_v1 (key := 178) (q := q_X5_isPossible) rfl rfl rfl rfl rfl ⟨Nat.le_of_ble_eq_true rfl, Nat.le_of_ble_eq_true rfl⟩ ⟨q, hp, rfl, rfl⟩ (fun rv_ S1 M1 hq_1 => ?_)
    obtain ⟨eS_, hEd, hpos⟩ := hq_1 q rfl
    replace eS_ := eS_.symm
    subst eS_
    have hex : ∃ v, rv_ = some (.inl v) := by rcases hpos with ⟨e, -⟩ | ⟨e, -⟩ <;> exact ⟨_, e⟩
    obtain ⟨v, rfl⟩ := hex
    try dsimp only [Option.toList, List.cons_append, List.nil_append]
    refine xt_eq (t := 9) rfl (fun hc_4 => ?_) (fun hc_4 => ?_)
    · skip
      refine xt_blk rfl rfl (by dsimp only [List.take]) ?_
      refine xt_aln0 rfl (by first | decide | omega | assumption | (have := isWy_lt hw; omega)) ?_
      refine xt_gfi (q := (3, 11)) rfl (by first | exact SHw hw | exact SHw1 hw | exact SHw2 hw | exact SHw3 hw | exact SHw4 hw | exact SHw5 hw | exact SHw6 hw | rfl | assumption) rfl ?_
      refine xt_icm rfl ?_
      refine xt_cne (t := 25) rfl (fun hc_14 => ?_) (fun hc_14 => ?_)
      · skip
        refine xt_blk rfl rfl (by dsimp only [List.take]) ?_
        refine xt_aln0 rfl (by first | decide | omega | assumption | (have := isWy_lt hw; omega)) ?_
        refine xt_gfi (q := (3, 11)) rfl (by first | exact SHw hw | exact SHw1 hw | exact SHw2 hw | exact SHw3 hw | exact SHw4 hw | exact SHw5 hw | exact SHw6 hw | rfl | assumption) rfl ?_
        refine xt_ri rfl (Nat.le_refl _) ?_
        intro q2 e2
        simp only [List.cons.injEq, Sum.inr.injEq, Sum.inl.injEq, and_true] at e2
        subst e2
        have hns : ¬ Sat (tF M (wo q)) := by
          rcases hpos with ⟨e, -⟩ | ⟨-, z⟩
          · cases e; exact absurd hc_4 (by decide)
          · exact z
        refine ⟨rfl, hEd, Or.inr ⟨hns, ?_⟩⟩
        rcases hEd.2.2.2.2.2.2.1 with e | ⟨-, e⟩
        · exact absurd e hc_14
        · rw [e]
      · skip
        refine xt_aln0 rfl (by first | decide | omega | assumption | (have := isWy_lt hw; omega)) ?_
        refine xt_aln0 rfl (by first | decide | omega | assumption | (have := isWy_lt hw; omega)) ?_
        refine xt_v1 (key := 310) (q := q_X5_findCore) rfl rfl rfl rfl rfl ⟨Nat.le_of_ble_eq_true rfl, Nat.le_of_ble_eq_true rfl⟩ ⟨q, hw, (Ed_WP hp hEd).2.1, (Ed_WP hp hEd).2.2.1, rfl, rfl⟩ (fun rv_ S1 M_2 hq_19 => ?_)
        have h7 := Ed_7 hw hEd
        obtain ⟨eS_, hfr, eR⟩ := hq_19 q rfl
        rw [(St7_w h7 (wo_lt q)).2.2.2.2.2] at eR
        subst eR
        replace eS_ := eS_.symm
        subst eS_
        have hq : ∀ k, q ≤ k → k ≠ q + 4 → M_2 k = M1 k := fun k hk hn => hfr k (by rcases hw with rfl | rfl <;> omega) hn
        have hEd2 : Ed M q M_2 := Ed_next hw hEd (fun k a b => hfr k a (by omega)) (by rw [hq q (by omega) (by omega)]) (by rw [hq q (by omega) (by omega)]) (WW_keep hEd.2.2.2 (fun k a _ c => hq k a c))
        try dsimp only [Option.toList, List.cons_append, List.nil_append]
        refine xt_pfi (q := (3, 11)) rfl (by first | exact SHw hw | exact SHw1 hw | exact SHw2 hw | exact SHw3 hw | exact SHw4 hw | exact SHw5 hw | exact SHw6 hw | rfl | assumption) rfl (by decide) (Or.inl rfl) ?_
        refine xt_nil (t := 25) rfl ?_
        refine xt_blk rfl rfl (by dsimp only [List.take]) ?_
        refine xt_aln0 rfl (by first | decide | omega | assumption | (have := isWy_lt hw; omega)) ?_
        refine xt_gfi (q := (3, 11)) rfl (by first | exact SHw hw | exact SHw1 hw | exact SHw2 hw | exact SHw3 hw | exact SHw4 hw | exact SHw5 hw | exact SHw6 hw | rfl | assumption) rfl ?_
        refine xt_ri rfl (Nat.le_refl _) ?_
        intro q2 e2
        simp only [List.cons.injEq, Sum.inr.injEq, Sum.inl.injEq, and_true] at e2
        subst e2
        have hns : ¬ Sat (tF M (wo q)) := by
          rcases hpos with ⟨e, -⟩ | ⟨-, z⟩
          · cases e; exact absurd hc_4 (by decide)
          · exact z
        have hcl := coM_lt hp.2.1 (wo q)
        obtain ⟨w1, ⟨gg, g1, g2, g3⟩, w3, w4, w5⟩ := hEd2.2.2.2
        refine ⟨rfl, Ed_next hw hEd2 (fun k a b => by rw [x_row_ne _ _ (by omega)]) (by simp [x_row_c, upd]) (by simp [x_row_c, upd]) ⟨?_, ⟨gg, ?_, g2, ?_⟩, ?_, ?_, ?_⟩, Or.inr ⟨hns, by rw [x_row_self]; simp [upd]⟩⟩
        · intro j hj; rw [x_row_ne _ _ (by omega)]; exact w1 j hj
        · intro j hj; rw [x_row_ne _ _ (by omega)]; exact g1 j hj
        · unfold PoV at g3 ⊢; rw [x_row_self]; simpa [upd] using g3
        · intro x y hx hy hxy; rw [x_row_ne _ _ (by omega)]; exact w3 x y hx hy hxy
        · exact Or.inr ⟨by omega, by rw [x_row_self]; simp [upd]⟩
        · unfold FiV At at w5 ⊢; rw [x_row_self, x_row_ne _ _ (show q + 3 ≠ q by omega), x_row_ne _ _ (show q + 6 ≠ q by omega)]; simpa [upd] using w5
    · skip
      refine xt_ic ?_
      refine xt_ri rfl (Nat.le_refl _) ?_
      intro q2 e2
      simp only [List.cons.injEq, Sum.inr.injEq, Sum.inl.injEq, and_true] at e2
      subst e2
      rcases hpos with ⟨-, z, -⟩ | ⟨e, -⟩
      · exact ⟨rfl, hEd, Or.inl ⟨z, rfl⟩⟩
      · cases e; exact absurd rfl hc_4
  · intro μ pc ls st S2 M2 cs sl h; exact h.elim
