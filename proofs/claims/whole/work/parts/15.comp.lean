/-! composing -/
theorem bi_tb (n i : Nat) : bi n i = 1 ↔ n.testBit i = true := by
  unfold bi
  rw [Nat.testBit_eq_decide_div_mod_eq]
  simp
theorem fo_tb {T : Nat → Nat} {n b : Nat} : ∀ k, (fo T n k).testBit b = true ↔ ∃ i, i < k ∧ n.testBit i = true ∧ (T i).testBit b = true
  | 0 => by simp [fo]
  | k + 1 => by
    show (if bi n k = 1 then fo T n k ||| T k else fo T n k).testBit b = true ↔ _
    split
    · rename_i h
      rw [bi_tb] at h
      rw [Nat.testBit_or, Bool.or_eq_true, fo_tb k]
      constructor
      · rintro (⟨i, h1, h2⟩ | h1)
        · exact ⟨i, by omega, h2⟩
        · exact ⟨k, by omega, h, h1⟩
      · rintro ⟨i, h1, h2, h3⟩
        by_cases e : i = k
        · subst e; exact Or.inr h3
        · exact Or.inl ⟨i, by omega, h2, h3⟩
    · rename_i h
      rw [bi_tb] at h
      rw [fo_tb k]
      constructor
      · rintro ⟨i, h1, h2⟩; exact ⟨i, by omega, h2⟩
      · rintro ⟨i, h1, h2, h3⟩
        by_cases e : i = k
        · subst e; exact absurd h2 h
        · exact ⟨i, by omega, h2, h3⟩
def cmR (s i : Nat) : Nat := fo (fun j => cmT (i * 13 + j)) s 13
def cm (r s : Nat) : Nat := fo (cmR s) r 13
theorem cmR_lt (s i : Nat) : cmR s i < 2 ^ 13 := fo_lt (fun j => cmT_lt _) 13
theorem cm_lt (r s : Nat) : cm r s < 2 ^ 13 := fo_lt (cmR_lt s) 13
theorem cm_tb {r s b : Nat} : (cm r s).testBit b = true ↔ ∃ i j, i < 13 ∧ j < 13 ∧ r.testBit i = true ∧ s.testBit j = true ∧ (cmT (i * 13 + j)).testBit b = true := by
  unfold cm
  rw [fo_tb]
  constructor
  · rintro ⟨i, h1, h2, h3⟩
    unfold cmR at h3
    rw [fo_tb] at h3
    obtain ⟨j, g1, g2, g3⟩ := h3
    exact ⟨i, j, h1, g1, h2, g2, g3⟩
  · rintro ⟨i, j, h1, g1, h2, g2, g3⟩
    exact ⟨i, h1, h2, by unfold cmR; rw [fo_tb]; exact ⟨j, g1, g2, g3⟩⟩
theorem tb_lt {n b : Nat} (hn : n < 2 ^ 13) (h : n.testBit b = true) : b < 13 := by
  rcases Nat.lt_or_ge b 13 with q | q
  · exact q
  · rw [Nat.testBit_lt_two_pow (Nat.lt_of_lt_of_le hn (Nat.pow_le_pow_right (by decide) q))] at h
    cases h
theorem tb_ex {n : Nat} (hn : n < 2 ^ 13) (h0 : n ≠ 0) : ∃ b, b < 13 ∧ n.testBit b = true := by
  obtain ⟨b, hb⟩ := Nat.exists_testBit_of_ne_zero h0
  exact ⟨b, tb_lt hn hb, hb⟩
theorem tb_ext {a b : Nat} (ha : a < 2 ^ 13) (hb : b < 2 ^ 13) (h : ∀ i, i < 13 → (a.testBit i = true ↔ b.testBit i = true)) : a = b := by
  apply Nat.eq_of_testBit_eq
  intro i
  rcases Nat.lt_or_ge i 13 with q | q
  · have := h i q
    cases hA : a.testBit i <;> cases hB : b.testBit i <;> simp_all
  · rw [Nat.testBit_lt_two_pow (Nat.lt_of_lt_of_le ha (Nat.pow_le_pow_right (by decide) q)), Nat.testBit_lt_two_pow (Nat.lt_of_lt_of_le hb (Nat.pow_le_pow_right (by decide) q))]
theorem tb_all : ∀ b, b < 13 → (8191 : Nat).testBit b = true := by decide
theorem cm_allL : ∀ j, j < 13 → ∀ b, b < 13 → ∃ i, i < 13 ∧ (cmT (i * 13 + j)).testBit b = true := by decide +kernel
theorem cm_allR : ∀ i, i < 13 → ∀ b, b < 13 → ∃ j, j < 13 ∧ (cmT (i * 13 + j)).testBit b = true := by decide +kernel
theorem cm_L {s : Nat} (hs : s < 2 ^ 13) (h0 : s ≠ 0) : cm 8191 s = 8191 := by
  refine tb_ext (cm_lt _ _) (by decide) (fun b hb => ⟨fun _ => tb_all b hb, fun _ => ?_⟩)
  obtain ⟨j, hj, hsj⟩ := tb_ex hs h0
  obtain ⟨i, hi, hc⟩ := cm_allL j hj b hb
  exact cm_tb.mpr ⟨i, j, hi, hj, tb_all i hi, hsj, hc⟩
theorem cm_R {r : Nat} (hr : r < 2 ^ 13) (h0 : r ≠ 0) : cm r 8191 = 8191 := by
  refine tb_ext (cm_lt _ _) (by decide) (fun b hb => ⟨fun _ => tb_all b hb, fun _ => ?_⟩)
  obtain ⟨i, hi, hri⟩ := tb_ex hr h0
  obtain ⟨j, hj, hc⟩ := cm_allR i hi b hb
  exact cm_tb.mpr ⟨i, j, hi, hj, hri, tb_all j hj, hc⟩
theorem and_all {w : Nat} (hw : w < 2 ^ 13) : 8191 &&& w = w := by
  refine tb_ext (Nat.lt_of_le_of_lt Nat.and_le_right hw) hw (fun b hb => ?_)
  rw [Nat.testBit_and, tb_all b hb]
  simp
theorem cm_0L (s : Nat) : cm 0 s = 0 := by
  refine tb_ext (cm_lt _ _) (by decide) (fun b hb => ⟨fun h => ?_, fun h => ?_⟩)
  · obtain ⟨i, j, -, -, h1, -⟩ := cm_tb.mp h
    simp at h1
  · simp at h
theorem cm_0R (r : Nat) : cm r 0 = 0 := by
  refine tb_ext (cm_lt _ _) (by decide) (fun b hb => ⟨fun h => ?_, fun h => ?_⟩)
  · obtain ⟨i, j, -, -, -, h1, -⟩ := cm_tb.mp h
    simp at h1
  · simp at h
theorem and_sub {w a c : Nat} (h1 : w &&& a = w) (h2 : ∀ b, a.testBit b = true → c.testBit b = true) : c &&& w = w := by
  apply Nat.eq_of_testBit_eq
  intro b
  have := congrArg (fun z => z.testBit b) h1
  simp only [Nat.testBit_and] at this ⊢
  have h3 := h2 b
  cases hA : a.testBit b <;> cases hW : w.testBit b <;> cases hC : c.testBit b <;> simp_all
def q_X2_compose : x_K := (3, fun as S M => ∃ (r : Nat) (s : Nat) (w : Nat), r < 8192 ∧ s < 8192 ∧ w < 8192 ∧ as = [.inl (nI r), .inl (nI s), .inl (nI w)], fun as S M rv_ S' M' => ∀ (r : Nat) (s : Nat) (w : Nat), r < 8192 → s < 8192 → w < 8192 → as = [.inl (nI r), .inl (nI s), .inl (nI w)] → S' = S ∧ M' = M ∧ rv_ = some (.inl (nI (cm r s &&& w))), 0, 0)
def b_X2_compose : x_B := [(0, 3, [(.iload_n 0, 1), (.ifCond .eq 7, 3), (.iload_n 1, 1), (.ifCond .ne 5, 3)]),
  (8, 3, [(.iconst 0, 1), (.ireturn, 1)]),
  (10, 3, [(.iload_n 0, 1), (.sipush 8191, 3), (.if_icmp .eq 10, 3), (.iload_n 1, 1), (.sipush 8191, 3), (.if_icmp .ne 5, 3)]),
  (24, 3, [(.iload_n 2, 1), (.ireturn, 1)]),
  (26, 3, [(.iconst 0, 1), (.istore_n 3, 1), (.iconst 0, 1), (.istore 4, 2)]),
  (31, 5, [(.iload 4, 2), (.bipush 13, 2), (.if_icmp .ge 72, 3), (.iload_n 0, 1), (.iload 4, 2), (.ishr, 1), (.iconst 1, 1), (.iand, 1), (.ifCond .eq 57, 3), (.iload 4, 2), (.bipush 13, 2), (.imul, 1), (.istore 5, 2), (.iconst 0, 1), (.istore 6, 2)]),
  (57, 7, [(.iload 6, 2), (.bipush 13, 2), (.if_icmp .ge 30, 3), (.iload_n 1, 1), (.iload 6, 2), (.ishr, 1), (.iconst 1, 1), (.iand, 1), (.ifCond .eq 15, 3), (.iload_n 3, 1), (.getstatic 9, 3), (.iload 5, 2), (.iload 6, 2), (.iadd, 1), (.iaload, 1), (.ior, 1), (.istore_n 3, 1)]),
  (85, 7, [(.iinc 6 1, 3), (.goto (-31), 3)]),
  (91, 7, [(.iload_n 2, 1), (.iload_n 3, 1), (.iconst (-1), 1), (.ixor, 1), (.iand, 1), (.ifCond .ne 5, 3), (.iload_n 2, 1), (.ireturn, 1)]),
  (101, 5, [(.iinc 4 1, 3), (.goto (-73), 3)]),
  (107, 5, [(.iload_n 3, 1), (.iload_n 2, 1), (.iand, 1), (.ireturn, 1)])]
theorem b_X2_compose_ok : x_okB cX2_compose 7 b_X2_compose = true := by decide +kernel
def X_X2_compose : x_X := ([], [(9, 1)], [], [], [], (0, 0), x_kn, x_kf, 5, false)
theorem X_X2_compose_ok : x_okT RX2 X_X2_compose = true := by decide +kernel
theorem k_X2_compose (l : Launch) : ∀ z ∈ X_X2_compose.2.2.2.2.1, x_Cal l (x_rm 1 0 0) cX2_compose RX2 7 z.1 z.2 := fun _ h => absurd h List.not_mem_nil
set_option maxHeartbeats 4000000 in
set_option maxRecDepth 100000 in
theorem c_X2_compose (l : Launch) : x_CT l yX2_compose cX2_compose 7 (some .int) 1 q_X2_compose := by
  refine x_meth (X := X_X2_compose) (bl := b_X2_compose) (cut := [31, 57]) (own := RX2) 30 (by decide) rfl X_X2_compose_ok b_X2_compose_ok rfl (by decide) (k_X2_compose l) ?_
  rintro as S M - ⟨r, s, w, hr, hs, hw, rfl⟩
  refine ⟨fun μ pc ls st S' M' cs sl => (∃ i, i ≤ 13 ∧ pc = 31 ∧ st = [] ∧ S' = S ∧ M' = M ∧ cs = 0 ∧ sl = 0 ∧ ls = [.inl (nI r), .inl (nI s), .inl (nI w), .inl (nI (fo (cmR s) r i)), .inl (nI i)] ∧ μ = (13 - i) * 20) ∨ (∃ i j, i < 13 ∧ j ≤ 13 ∧ bi r i = 1 ∧ pc = 57 ∧ st = [] ∧ S' = S ∧ M' = M ∧ cs = 0 ∧ sl = 0 ∧ ls = [.inl (nI r), .inl (nI s), .inl (nI w), .inl (nI (fo (cmR s) r i ||| fo (fun j => cmT (i * 13 + j)) s j)), .inl (nI i), .inl (nI (i * 13)), .inl (nI j)] ∧ μ = (13 - i) * 20 - 1 - j), ?_, ?_⟩
  · skip
    refine xt_blk rfl rfl (by dsimp only [List.take]) ?_
    refine xt_iln0 rfl ?_
    refine xt_eq (t := 8) rfl (fun hc_1 => ?_) (fun hc_1 => ?_)
    · skip
      refine xt_blk rfl rfl (by dsimp only [List.take]) ?_
      refine xt_ic ?_
      refine xt_ri rfl (Nat.le_refl _) ?_
      intro r2 s2 w2 h2r h2s h2w e2
      simp only [List.cons.injEq, Sum.inl.injEq, and_true] at e2
      obtain ⟨e2r, e2s, e2w⟩ := e2
      rw [nI_eq (by omega) (by omega)] at e2r
      subst e2r
      rw [nI_eq (by omega) (by omega)] at e2s
      subst e2s
      rw [nI_eq (by omega) (by omega)] at e2w
      subst e2w
      have e0 : r = 0 := (n_eq0 (by omega)).mp hc_1
      subst e0
      exact ⟨rfl, rfl, by rw [cm_0L]; rw [Nat.zero_and]⟩
    · skip
      refine xt_iln1 rfl ?_
      refine xt_ne (t := 10) rfl (fun hc_5 => ?_) (fun hc_5 => ?_)
      · skip
        refine xt_blk rfl rfl (by dsimp only [List.take]) ?_
        refine xt_iln0 rfl ?_
        refine xt_si ?_
        refine xt_ceq (t := 24) rfl (fun hc_14 => ?_) (fun hc_14 => ?_)
        · skip
          refine xt_blk rfl rfl (by dsimp only [List.take]) ?_
          refine xt_iln2 rfl ?_
          refine xt_ri rfl (Nat.le_refl _) ?_
          intro r2 s2 w2 h2r h2s h2w e2
          simp only [List.cons.injEq, Sum.inl.injEq, and_true] at e2
          obtain ⟨e2r, e2s, e2w⟩ := e2
          rw [nI_eq (by omega) (by omega)] at e2r
          subst e2r
          rw [nI_eq (by omega) (by omega)] at e2s
          subst e2s
          rw [nI_eq (by omega) (by omega)] at e2w
          subst e2w
          have e0 : r = 8191 := (nI_eq (by omega) (by omega)).mp hc_14
          subst e0
          exact ⟨rfl, rfl, by rw [cm_L h2s (fun q => hc_5 (by rw [q]; rfl)), and_all h2w]⟩
        · skip
          refine xt_iln1 rfl ?_
          refine xt_si ?_
          refine xt_cne (t := 26) rfl (fun hc_21 => ?_) (fun hc_21 => ?_)
          · skip
            refine xt_blk rfl rfl (by dsimp only [List.take]) ?_
            refine xt_ic ?_
            refine xt_isn3 rfl (by dsimp only [x_sto]) ?_
            refine xt_ic ?_
            refine xt_ist rfl (by dsimp only [x_sto]) ?_
            refine xt_nil (t := 31) rfl ?_
            refine xt_cut rfl rfl (by dsimp only [List.take]) ?_
            exact ⟨13 * 20, Or.inl ⟨0, by omega, rfl, rfl, rfl, rfl, rfl, rfl, rfl, rfl⟩⟩
          · skip
            refine xt_nil (t := 24) rfl ?_
            refine xt_blk rfl rfl (by dsimp only [List.take]) ?_
            refine xt_iln2 rfl ?_
            refine xt_ri rfl (Nat.le_refl _) ?_
            intro r2 s2 w2 h2r h2s h2w e2
            simp only [List.cons.injEq, Sum.inl.injEq, and_true] at e2
            obtain ⟨e2r, e2s, e2w⟩ := e2
            rw [nI_eq (by omega) (by omega)] at e2r
            subst e2r
            rw [nI_eq (by omega) (by omega)] at e2s
            subst e2s
            rw [nI_eq (by omega) (by omega)] at e2w
            subst e2w
            have e0 : s = 8191 := (nI_eq (by omega) (by omega)).mp hc_21
            subst e0
            exact ⟨rfl, rfl, by rw [cm_R h2r (fun q => hc_1 (by rw [q]; rfl)), and_all h2w]⟩
      · skip
        refine xt_nil (t := 8) rfl ?_
        refine xt_blk rfl rfl (by dsimp only [List.take]) ?_
        refine xt_ic ?_
        refine xt_ri rfl (Nat.le_refl _) ?_
        intro r2 s2 w2 h2r h2s h2w e2
        simp only [List.cons.injEq, Sum.inl.injEq, and_true] at e2
        obtain ⟨e2r, e2s, e2w⟩ := e2
        rw [nI_eq (by omega) (by omega)] at e2r
        subst e2r
        rw [nI_eq (by omega) (by omega)] at e2s
        subst e2s
        rw [nI_eq (by omega) (by omega)] at e2w
        subst e2w
        have e0 : s = 0 := (n_eq0 (by omega)).mp hc_5
        subst e0
        exact ⟨rfl, rfl, by rw [cm_0R]; rw [Nat.zero_and]⟩
  · rintro μ pc ls st S2 M2 cs sl (⟨i, hi, rfl, rfl, rfl, rfl, rfl, rfl, rfl, rfl⟩ | ⟨i, j, hi, hj, hbit, rfl, rfl, rfl, rfl, rfl, rfl, rfl, rfl⟩)
    · refine ⟨_, rfl, ?_⟩
      refine xt_ild rfl ?_
      refine xt_bi ?_
      refine xt_cge (t := 107) rfl (fun hc_35 => ?_) (fun hc_35 => ?_)
      · skip
        refine xt_blk rfl rfl (by dsimp only [List.take]) ?_
        refine xt_iln3 rfl ?_
        refine xt_iln2 rfl ?_
        refine xt_and ?_
        refine xt_ri rfl (Nat.le_refl _) ?_
        have h13 : i = 13 := by rw [nI_leI (by omega) (by omega)] at hc_35; omega
        subst h13
        intro r2 s2 w2 h2r h2s h2w e2
        simp only [List.cons.injEq, Sum.inl.injEq, and_true] at e2
        obtain ⟨e2r, e2s, e2w⟩ := e2
        rw [nI_eq (by omega) (by omega)] at e2r
        subst e2r
        rw [nI_eq (by omega) (by omega)] at e2s
        subst e2s
        rw [nI_eq (by omega) (by omega)] at e2w
        subst e2w
        exact ⟨rfl, rfl, by rw [n_and]; rfl⟩
      · skip
        refine xt_iln0 rfl ?_
        refine xt_ild rfl ?_
        refine xt_shr ?_
        refine xt_ic ?_
        refine xt_and ?_
        refine xt_eq (t := 101) rfl (fun hc_44 => ?_) (fun hc_44 => ?_)
        · skip
          refine xt_blk rfl rfl (by dsimp only [List.take]) ?_
          refine xt_inc rfl (by dsimp only [x_sto]) ?_
          refine xt_goto (t := 31) rfl ?_
          refine xt_cut rfl rfl (by dsimp only [List.take]) ?_
          have hi13 : i < 13 := by rw [nI_leI (by omega) (by omega)] at hc_35; omega
          have hb := bi_lt r i
          rw [n_bit (by omega) (by omega), n_eq0 (by unfold bi at hb; omega)] at hc_44
          have e : fo (cmR s) r (i + 1) = fo (cmR s) r i := by
            show (if bi r i = 1 then _ else _) = _
            rw [if_neg (by unfold bi; omega)]
          exact ⟨(13 - (i + 1)) * 20, by omega, Or.inl ⟨i + 1, by omega, rfl, rfl, rfl, rfl, rfl, rfl, by rw [nI_add, e], rfl⟩⟩
        · skip
          refine xt_ild rfl ?_
          refine xt_bi ?_
          refine xt_mul ?_
          refine xt_ist rfl (by dsimp only [x_sto]) ?_
          refine xt_ic ?_
          refine xt_ist rfl (by dsimp only [x_sto]) ?_
          refine xt_nil (t := 57) rfl ?_
          refine xt_cut rfl rfl (by dsimp only [List.take]) ?_
          have hi13 : i < 13 := by rw [nI_leI (by omega) (by omega)] at hc_35; omega
          have hb := bi_lt r i
          rw [n_bit (by omega) (by omega), n_eq0 (by unfold bi at hb; omega)] at hc_44
          exact ⟨(13 - i) * 20 - 1, by omega, Or.inr ⟨i, 0, hi13, by omega, by unfold bi at hb ⊢; omega, rfl, rfl, rfl, rfl, rfl, rfl, by rw [pk_mul]; simp [fo], rfl⟩⟩
    · refine ⟨_, rfl, ?_⟩
      refine xt_ild rfl ?_
      refine xt_bi ?_
      refine xt_cge (t := 91) rfl (fun hc_61 => ?_) (fun hc_61 => ?_)
      · skip
        refine xt_blk rfl rfl (by dsimp only [List.take]) ?_
        refine xt_iln2 rfl ?_
        refine xt_iln3 rfl ?_
        refine xt_icm rfl ?_
        refine xt_xor ?_
        refine xt_and ?_
        refine xt_ne (t := 101) rfl (fun hc_96 => ?_) (fun hc_96 => ?_)
        · skip
          refine xt_blk rfl rfl (by dsimp only [List.take]) ?_
          refine xt_inc rfl (by dsimp only [x_sto]) ?_
          refine xt_goto (t := 31) rfl ?_
          refine xt_cut rfl rfl (by dsimp only [List.take]) ?_
          have hj13 : j = 13 := by rw [nI_leI (by omega) (by omega)] at hc_61; omega
          subst hj13
          have e : fo (cmR s) r (i + 1) = fo (cmR s) r i ||| fo (fun j => cmT (i * 13 + j)) s 13 := by
            show (if bi r i = 1 then _ else _) = _
            rw [if_pos hbit]
            rfl
          exact ⟨(13 - (i + 1)) * 20, by omega, Or.inl ⟨i + 1, by omega, rfl, rfl, rfl, rfl, rfl, rfl, by rw [nI_add, e], rfl⟩⟩
        · skip
          refine xt_iln2 rfl ?_
          refine xt_ri rfl (Nat.le_refl _) ?_
          have hj13 : j = 13 := by rw [nI_leI (by omega) (by omega)] at hc_61; omega
          subst hj13
          have hf1 := fo_lt (n := r) (cmR_lt s) i
          have hf2 := cmR_lt s i
          have hf : fo (cmR s) r i ||| cmR s i < 2 ^ 13 := Nat.or_lt_two_pow hf1 hf2
          have hc : w &&& (fo (cmR s) r i ||| cmR s i) = w := (n_sub0 (by omega) (by omega)).mp hc_96
          have hsub : ∀ b, (fo (cmR s) r i ||| cmR s i).testBit b = true → (cm r s).testBit b = true := by
            intro b hb
            rw [Nat.testBit_or, Bool.or_eq_true] at hb
            unfold cm
            rw [fo_tb]
            rcases hb with hb | hb
            · obtain ⟨i2, g1, g2⟩ := (fo_tb _).mp hb
              exact ⟨i2, by omega, g2⟩
            · exact ⟨i, hi, (bi_tb _ _).mp hbit, hb⟩
          intro r2 s2 w2 h2r h2s h2w e2
          simp only [List.cons.injEq, Sum.inl.injEq, and_true] at e2
          obtain ⟨e2r, e2s, e2w⟩ := e2
          rw [nI_eq (by omega) (by omega)] at e2r
          subst e2r
          rw [nI_eq (by omega) (by omega)] at e2s
          subst e2s
          rw [nI_eq (by omega) (by omega)] at e2w
          subst e2w
          exact ⟨rfl, rfl, by rw [and_sub hc hsub]⟩
      · skip
        refine xt_iln1 rfl ?_
        refine xt_ild rfl ?_
        refine xt_shr ?_
        refine xt_ic ?_
        refine xt_and ?_
        refine xt_eq (t := 85) rfl (fun hc_70 => ?_) (fun hc_70 => ?_)
        · skip
          refine xt_blk rfl rfl (by dsimp only [List.take]) ?_
          refine xt_inc rfl (by dsimp only [x_sto]) ?_
          refine xt_goto (t := 57) rfl ?_
          refine xt_cut rfl rfl (by dsimp only [List.take]) ?_
          have hj13 : j < 13 := by rw [nI_leI (by omega) (by omega)] at hc_61; omega
          have hb := bi_lt s j
          rw [n_bit (by omega) (by omega), n_eq0 (by unfold bi at hb; omega)] at hc_70
          have e : fo (fun j => cmT (i * 13 + j)) s (j + 1) = fo (fun j => cmT (i * 13 + j)) s j := by
            show (if bi s j = 1 then _ else _) = _
            rw [if_neg (by unfold bi; omega)]
          exact ⟨(13 - i) * 20 - 1 - (j + 1), by omega, Or.inr ⟨i, j + 1, hi, by omega, hbit, rfl, rfl, rfl, rfl, rfl, rfl, by rw [nI_add, e], rfl⟩⟩
        · skip
          refine xt_iln3 rfl ?_
          refine xt_gs (q := 1) rfl ?_
          refine xt_ild rfl ?_
          refine xt_ild rfl ?_
          refine xt_add ?_
          refine xt_kal rfl (show vp_in _ 169 from by rw [nI_add]; exact vp_in_nI (by rw [nI_leI (by omega) (by omega)] at hc_61; omega) (by decide)) ?_
          refine xt_or ?_
          refine xt_isn3 rfl (by dsimp only [x_sto]) ?_
          refine xt_nil (t := 85) rfl ?_
          refine xt_blk rfl rfl (by dsimp only [List.take]) ?_
          refine xt_inc rfl (by dsimp only [x_sto]) ?_
          refine xt_goto (t := 57) rfl ?_
          refine xt_cut rfl rfl (by dsimp only [List.take]) ?_
          have hj13 : j < 13 := by rw [nI_leI (by omega) (by omega)] at hc_61; omega
          have hb := bi_lt s j
          rw [n_bit (by omega) (by omega), n_eq0 (by unfold bi at hb; omega)] at hc_70
          have e : fo (fun j => cmT (i * 13 + j)) s (j + 1) = fo (fun j => cmT (i * 13 + j)) s j ||| cmT (i * 13 + j) := by
            show (if bi s j = 1 then _ else _) = _
            rw [if_pos (by unfold bi at hb ⊢; omega)]
          have e4 : x_kf 1 (nI (i * 13) + nI j).toNatClampNeg = nI (cmT (i * 13 + j)) := by rw [nI_add, nI_clamp (by omega)]; rfl
          exact ⟨(13 - i) * 20 - 1 - (j + 1), by omega, Or.inr ⟨i, j + 1, hi, by omega, hbit, rfl, rfl, rfl, rfl, rfl, rfl, by
            show [_, _, _, Sum.inl (nI (fo (cmR s) r i ||| fo (fun j => cmT (i * 13 + j)) s j) ||| x_kf 1 (nI (i * 13) + nI j).toNatClampNeg), _, _, _] = _
            rw [e4, n_or, Nat.or_assoc, nI_add, e], rfl⟩⟩
