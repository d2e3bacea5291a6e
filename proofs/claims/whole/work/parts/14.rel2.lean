/-! RELATIONS: more leaves -/
def q_X2_allNear : x_K := (1, fun as S M => ∃ (n : Nat), n < 8192 ∧ as = [.inl (nI n)], fun as S M rv_ S' M' => ∀ (n : Nat), n < 8192 → as = [.inl (nI n)] → S' = S ∧ M' = M ∧ rv_ = some (.inl (nI (fo neT n 13))), 0, 0)
def b_X2_allNear : x_B := [(0, 1, [(.iconst 0, 1), (.istore_n 1, 1), (.iconst 0, 1), (.istore_n 2, 1)]),
  (4, 3, [(.iload_n 2, 1), (.bipush 13, 2), (.if_icmp .ge 25, 3), (.iload_n 0, 1), (.iload_n 2, 1), (.ishr, 1), (.iconst 1, 1), (.iand, 1), (.ifCond .eq 11, 3), (.iload_n 1, 1), (.getstatic 15, 3), (.iload_n 2, 1), (.iaload, 1), (.ior, 1), (.istore_n 1, 1)]),
  (26, 3, [(.iinc 2 1, 3), (.goto (-25), 3)]),
  (32, 3, [(.iload_n 1, 1), (.ireturn, 1)])]
theorem b_X2_allNear_ok : x_okB cX2_allNear 3 b_X2_allNear = true := by decide +kernel
def X_X2_allNear : x_X := ([], [(15, 2)], [], [], [], (0, 0), x_kn, x_kf, 5, false)
theorem X_X2_allNear_ok : x_okT RX2 X_X2_allNear = true := by decide +kernel
theorem k_X2_allNear (l : Launch) : ∀ z ∈ X_X2_allNear.2.2.2.2.1, x_Cal l (x_rm 1 0 0) cX2_allNear RX2 3 z.1 z.2 := fun _ h => absurd h List.not_mem_nil
set_option maxHeartbeats 4000000 in
set_option maxRecDepth 100000 in
theorem c_X2_allNear (l : Launch) : x_CT l yX2_allNear cX2_allNear 3 (some .int) 1 q_X2_allNear := by
  refine x_meth (X := X_X2_allNear) (bl := b_X2_allNear) (cut := [4]) (own := RX2) 30 (by decide) rfl X_X2_allNear_ok b_X2_allNear_ok rfl (by decide) (k_X2_allNear l) ?_
  rintro as S M - ⟨n, hn, rfl⟩
  refine ⟨fun μ pc ls st S' M' cs sl => ∃ i, i ≤ 13 ∧ pc = 4 ∧ st = [] ∧ S' = S ∧ M' = M ∧ cs = 0 ∧ sl = 0 ∧ ls = [.inl (nI n), .inl (nI (fo neT n i)), .inl (nI i)] ∧ μ = 13 - i, ?_, ?_⟩
  · skip
    refine xt_blk rfl rfl (by dsimp only [List.take]) ?_
    refine xt_ic ?_
    refine xt_isn1 rfl (by dsimp only [x_sto]) ?_
    refine xt_ic ?_
    refine xt_isn2 rfl (by dsimp only [x_sto]) ?_
    refine xt_nil (t := 4) rfl ?_
    refine xt_cut rfl rfl (by dsimp only [List.take]) ?_
    exact ⟨13, 0, by omega, rfl, rfl, rfl, rfl, rfl, rfl, rfl, rfl⟩
  · rintro μ pc ls st S2 M2 cs sl (⟨i, hi, rfl, rfl, rfl, rfl, rfl, rfl, rfl, rfl⟩)
    · refine ⟨_, rfl, ?_⟩
      refine xt_iln2 rfl ?_
      refine xt_bi ?_
      refine xt_cge (t := 32) rfl (fun hc_7 => ?_) (fun hc_7 => ?_)
      · skip
        refine xt_blk rfl rfl (by dsimp only [List.take]) ?_
        refine xt_iln1 rfl ?_
        refine xt_ri rfl (Nat.le_refl _) ?_
        have h13 : i = 13 := by rw [nI_leI (by omega) (by omega)] at hc_7; omega
        subst h13
        intro n2 h2n e2
        simp only [List.cons.injEq, Sum.inl.injEq, and_true] at e2
        have e2n := e2
        rw [nI_eq (by omega) (by omega)] at e2n
        subst e2n
        exact ⟨rfl, rfl, rfl⟩
      · skip
        refine xt_iln0 rfl ?_
        refine xt_iln2 rfl ?_
        refine xt_shr ?_
        refine xt_ic ?_
        refine xt_and ?_
        refine xt_eq (t := 26) rfl (fun hc_15 => ?_) (fun hc_15 => ?_)
        · skip
          refine xt_blk rfl rfl (by dsimp only [List.take]) ?_
          refine xt_inc rfl (by dsimp only [x_sto]) ?_
          refine xt_goto (t := 4) rfl ?_
          refine xt_cut rfl rfl (by dsimp only [List.take]) ?_
          have hlt : i < 13 := by rw [nI_leI (by omega) (by omega)] at hc_7; omega
          rw [n_bit (by omega) (by omega), n_eq0 (by have := bi_lt n i; unfold bi at this; omega)] at hc_15
          have e : fo neT n (i + 1) = fo neT n i := by
            show (if bi n i = 1 then fo neT n i ||| neT i else fo neT n i) = _
            rw [if_neg (by unfold bi; omega)]
          exact ⟨13 - (i + 1), by omega, i + 1, by omega, rfl, rfl, rfl, rfl, rfl, rfl, by rw [nI_add, e], rfl⟩
        · skip
          refine xt_iln1 rfl ?_
          refine xt_gs (q := 2) rfl ?_
          refine xt_iln2 rfl ?_
          refine xt_kal rfl (show vp_in _ 13 from vp_in_nI (by rw [nI_leI (by omega) (by omega)] at hc_7; omega) (by decide)) ?_
          refine xt_or ?_
          refine xt_isn1 rfl (by dsimp only [x_sto]) ?_
          refine xt_nil (t := 26) rfl ?_
          refine xt_blk rfl rfl (by dsimp only [List.take]) ?_
          refine xt_inc rfl (by dsimp only [x_sto]) ?_
          refine xt_goto (t := 4) rfl ?_
          refine xt_cut rfl rfl (by dsimp only [List.take]) ?_
          have hlt : i < 13 := by rw [nI_leI (by omega) (by omega)] at hc_7; omega
          rw [n_bit (by omega) (by omega), n_eq0 (by have := bi_lt n i; unfold bi at this; omega)] at hc_15
          have hb := bi_lt n i
          have e : fo neT n (i + 1) = fo neT n i ||| neT i := by
            show (if bi n i = 1 then fo neT n i ||| neT i else fo neT n i) = _
            rw [if_pos (by unfold bi at hb ⊢; omega)]
          have e4 : x_kf 2 (nI i).toNatClampNeg = nI (neT i) := by rw [nI_clamp (by omega)]; rfl
          exact ⟨13 - (i + 1), by omega, i + 1, by omega, rfl, rfl, rfl, rfl, rfl, rfl, by
            show [_, Sum.inl (nI (fo neT n i) ||| x_kf 2 (nI i).toNatClampNeg), _] = _
            rw [e4, n_or, nI_add, e], rfl⟩
def q_X2_allSigns : x_K := (1, fun as S M => ∃ (n : Nat), n < 8192 ∧ as = [.inl (nI n)], fun as S M rv_ S' M' => ∀ (n : Nat), n < 8192 → as = [.inl (nI n)] → S' = S ∧ M' = M ∧ rv_ = some (.inl (nI (fo sgT n 13))), 0, 0)
def b_X2_allSigns : x_B := [(0, 1, [(.iconst 0, 1), (.istore_n 1, 1), (.iconst 0, 1), (.istore_n 2, 1)]),
  (4, 3, [(.iload_n 2, 1), (.bipush 13, 2), (.if_icmp .ge 25, 3), (.iload_n 0, 1), (.iload_n 2, 1), (.ishr, 1), (.iconst 1, 1), (.iand, 1), (.ifCond .eq 11, 3), (.iload_n 1, 1), (.getstatic 26, 3), (.iload_n 2, 1), (.iaload, 1), (.ior, 1), (.istore_n 1, 1)]),
  (26, 3, [(.iinc 2 1, 3), (.goto (-25), 3)]),
  (32, 3, [(.iload_n 1, 1), (.ireturn, 1)])]
theorem b_X2_allSigns_ok : x_okB cX2_allSigns 3 b_X2_allSigns = true := by decide +kernel
def X_X2_allSigns : x_X := ([], [(26, 0)], [], [], [], (0, 0), x_kn, x_kf, 5, false)
theorem X_X2_allSigns_ok : x_okT RX2 X_X2_allSigns = true := by decide +kernel
theorem k_X2_allSigns (l : Launch) : ∀ z ∈ X_X2_allSigns.2.2.2.2.1, x_Cal l (x_rm 1 0 0) cX2_allSigns RX2 3 z.1 z.2 := fun _ h => absurd h List.not_mem_nil
set_option maxHeartbeats 4000000 in
set_option maxRecDepth 100000 in
theorem c_X2_allSigns (l : Launch) : x_CT l yX2_allSigns cX2_allSigns 3 (some .int) 1 q_X2_allSigns := by
  refine x_meth (X := X_X2_allSigns) (bl := b_X2_allSigns) (cut := [4]) (own := RX2) 30 (by decide) rfl X_X2_allSigns_ok b_X2_allSigns_ok rfl (by decide) (k_X2_allSigns l) ?_
  rintro as S M - ⟨n, hn, rfl⟩
  refine ⟨fun μ pc ls st S' M' cs sl => ∃ i, i ≤ 13 ∧ pc = 4 ∧ st = [] ∧ S' = S ∧ M' = M ∧ cs = 0 ∧ sl = 0 ∧ ls = [.inl (nI n), .inl (nI (fo sgT n i)), .inl (nI i)] ∧ μ = 13 - i, ?_, ?_⟩
  · skip
    refine xt_blk rfl rfl (by dsimp only [List.take]) ?_
    refine xt_ic ?_
    refine xt_isn1 rfl (by dsimp only [x_sto]) ?_
    refine xt_ic ?_
    refine xt_isn2 rfl (by dsimp only [x_sto]) ?_
    refine xt_nil (t := 4) rfl ?_
    refine xt_cut rfl rfl (by dsimp only [List.take]) ?_
    exact ⟨13, 0, by omega, rfl, rfl, rfl, rfl, rfl, rfl, rfl, rfl⟩
  · rintro μ pc ls st S2 M2 cs sl (⟨i, hi, rfl, rfl, rfl, rfl, rfl, rfl, rfl, rfl⟩)
    · refine ⟨_, rfl, ?_⟩
      refine xt_iln2 rfl ?_
      refine xt_bi ?_
      refine xt_cge (t := 32) rfl (fun hc_7 => ?_) (fun hc_7 => ?_)
      · skip
        refine xt_blk rfl rfl (by dsimp only [List.take]) ?_
        refine xt_iln1 rfl ?_
        refine xt_ri rfl (Nat.le_refl _) ?_
        have h13 : i = 13 := by rw [nI_leI (by omega) (by omega)] at hc_7; omega
        subst h13
        intro n2 h2n e2
        simp only [List.cons.injEq, Sum.inl.injEq, and_true] at e2
        have e2n := e2
        rw [nI_eq (by omega) (by omega)] at e2n
        subst e2n
        exact ⟨rfl, rfl, rfl⟩
      · skip
        refine xt_iln0 rfl ?_
        refine xt_iln2 rfl ?_
        refine xt_shr ?_
        refine xt_ic ?_
        refine xt_and ?_
        refine xt_eq (t := 26) rfl (fun hc_15 => ?_) (fun hc_15 => ?_)
        · skip
          refine xt_blk rfl rfl (by dsimp only [List.take]) ?_
          refine xt_inc rfl (by dsimp only [x_sto]) ?_
          refine xt_goto (t := 4) rfl ?_
          refine xt_cut rfl rfl (by dsimp only [List.take]) ?_
          have hlt : i < 13 := by rw [nI_leI (by omega) (by omega)] at hc_7; omega
          rw [n_bit (by omega) (by omega), n_eq0 (by have := bi_lt n i; unfold bi at this; omega)] at hc_15
          have e : fo sgT n (i + 1) = fo sgT n i := by
            show (if bi n i = 1 then fo sgT n i ||| sgT i else fo sgT n i) = _
            rw [if_neg (by unfold bi; omega)]
          exact ⟨13 - (i + 1), by omega, i + 1, by omega, rfl, rfl, rfl, rfl, rfl, rfl, by rw [nI_add, e], rfl⟩
        · skip
          refine xt_iln1 rfl ?_
          refine xt_gs (q := 0) rfl ?_
          refine xt_iln2 rfl ?_
          refine xt_kal rfl (show vp_in _ 13 from vp_in_nI (by rw [nI_leI (by omega) (by omega)] at hc_7; omega) (by decide)) ?_
          refine xt_or ?_
          refine xt_isn1 rfl (by dsimp only [x_sto]) ?_
          refine xt_nil (t := 26) rfl ?_
          refine xt_blk rfl rfl (by dsimp only [List.take]) ?_
          refine xt_inc rfl (by dsimp only [x_sto]) ?_
          refine xt_goto (t := 4) rfl ?_
          refine xt_cut rfl rfl (by dsimp only [List.take]) ?_
          have hlt : i < 13 := by rw [nI_leI (by omega) (by omega)] at hc_7; omega
          rw [n_bit (by omega) (by omega), n_eq0 (by have := bi_lt n i; unfold bi at this; omega)] at hc_15
          have hb := bi_lt n i
          have e : fo sgT n (i + 1) = fo sgT n i ||| sgT i := by
            show (if bi n i = 1 then fo sgT n i ||| sgT i else fo sgT n i) = _
            rw [if_pos (by unfold bi at hb ⊢; omega)]
          have e4 : x_kf 0 (nI i).toNatClampNeg = nI (sgT i) := by rw [nI_clamp (by omega)]; rfl
          exact ⟨13 - (i + 1), by omega, i + 1, by omega, rfl, rfl, rfl, rfl, rfl, rfl, by
            show [_, Sum.inl (nI (fo sgT n i) ||| x_kf 0 (nI i).toNatClampNeg), _] = _
            rw [e4, n_or, nI_add, e], rfl⟩
/-- the least bit of n from i on, below 13 -/
def lsf (n : Nat) : Nat → Nat → Nat
  | 0, _ => 0
  | f + 1, i => if bi n i = 1 then i else lsf n f (i + 1)
def ls13 (n : Nat) : Nat := lsf n 13 0
def q_X2_least : x_K := (1, fun as S M => ∃ (n : Nat), n < 8192 ∧ as = [.inl (nI n)], fun as S M rv_ S' M' => ∀ (n : Nat), n < 8192 → as = [.inl (nI n)] → S' = S ∧ M' = M ∧ rv_ = some (.inl (nI (ls13 n))), 0, 0)
def b_X2_least : x_B := [(0, 1, [(.iconst 0, 1), (.istore_n 1, 1)]),
  (2, 2, [(.iload_n 1, 1), (.bipush 13, 2), (.if_icmp .ge 19, 3), (.iload_n 0, 1), (.iload_n 1, 1), (.ishr, 1), (.iconst 1, 1), (.iand, 1), (.ifCond .eq 5, 3), (.iload_n 1, 1), (.ireturn, 1)]),
  (18, 2, [(.iinc 1 1, 3), (.goto (-19), 3)]),
  (24, 2, [(.iconst 0, 1), (.ireturn, 1)])]
theorem b_X2_least_ok : x_okB cX2_least 2 b_X2_least = true := by decide +kernel
def X_X2_least : x_X := ([], [], [], [], [], (0, 0), x_kn, x_kf, 5, false)
theorem X_X2_least_ok : x_okT RX2 X_X2_least = true := by decide +kernel
theorem k_X2_least (l : Launch) : ∀ z ∈ X_X2_least.2.2.2.2.1, x_Cal l (x_rm 1 0 0) cX2_least RX2 2 z.1 z.2 := fun _ h => absurd h List.not_mem_nil
set_option maxHeartbeats 4000000 in
set_option maxRecDepth 100000 in
theorem c_X2_least (l : Launch) : x_CT l yX2_least cX2_least 2 (some .int) 1 q_X2_least := by
  refine x_meth (X := X_X2_least) (bl := b_X2_least) (cut := [2]) (own := RX2) 30 (by decide) rfl X_X2_least_ok b_X2_least_ok rfl (by decide) (k_X2_least l) ?_
  rintro as S M - ⟨n, hn, rfl⟩
  refine ⟨fun μ pc ls st S' M' cs sl => ∃ i, i ≤ 13 ∧ pc = 2 ∧ st = [] ∧ S' = S ∧ M' = M ∧ cs = 0 ∧ sl = 0 ∧ ls = [.inl (nI n), .inl (nI i)] ∧ μ = 13 - i ∧ ls13 n = lsf n (13 - i) i, ?_, ?_⟩
  · skip
    refine xt_blk rfl rfl (by dsimp only [List.take]) ?_
    refine xt_ic ?_
    refine xt_isn1 rfl (by dsimp only [x_sto]) ?_
    refine xt_nil (t := 2) rfl ?_
    refine xt_cut rfl rfl (by dsimp only [List.take]) ?_
    exact ⟨13, 0, by omega, rfl, rfl, rfl, rfl, rfl, rfl, rfl, rfl, rfl⟩
  · rintro μ pc ls st S2 M2 cs sl (⟨i, hi, rfl, rfl, rfl, rfl, rfl, rfl, rfl, rfl, hl⟩)
    · refine ⟨_, rfl, ?_⟩
      refine xt_iln1 rfl ?_
      refine xt_bi ?_
      refine xt_cge (t := 24) rfl (fun hc_5 => ?_) (fun hc_5 => ?_)
      · skip
        refine xt_blk rfl rfl (by dsimp only [List.take]) ?_
        refine xt_ic ?_
        refine xt_ri rfl (Nat.le_refl _) ?_
        have h13 : i = 13 := by rw [nI_leI (by omega) (by omega)] at hc_5; omega
        subst h13
        intro n2 h2n e2
        simp only [List.cons.injEq, Sum.inl.injEq, and_true] at e2
        have e2n := e2
        rw [nI_eq (by omega) (by omega)] at e2n
        subst e2n
        exact ⟨rfl, rfl, by rw [hl]; rfl⟩
      · skip
        refine xt_iln0 rfl ?_
        refine xt_iln1 rfl ?_
        refine xt_shr ?_
        refine xt_ic ?_
        refine xt_and ?_
        refine xt_eq (t := 18) rfl (fun hc_13 => ?_) (fun hc_13 => ?_)
        · skip
          refine xt_blk rfl rfl (by dsimp only [List.take]) ?_
          refine xt_inc rfl (by dsimp only [x_sto]) ?_
          refine xt_goto (t := 2) rfl ?_
          refine xt_cut rfl rfl (by dsimp only [List.take]) ?_
          have hlt : i < 13 := by rw [nI_leI (by omega) (by omega)] at hc_5; omega
          rw [n_bit (by omega) (by omega), n_eq0 (by have := bi_lt n i; unfold bi at this; omega)] at hc_13
          have e : lsf n (13 - i) i = lsf n (13 - (i + 1)) (i + 1) := by
            rw [show 13 - i = (13 - (i + 1)) + 1 by omega]
            show (if bi n i = 1 then i else _) = _
            rw [if_neg (by unfold bi; omega)]
          exact ⟨13 - (i + 1), by omega, i + 1, by omega, rfl, rfl, rfl, rfl, rfl, rfl, by rw [nI_add], rfl, by rw [hl, e]⟩
        · skip
          refine xt_iln1 rfl ?_
          refine xt_ri rfl (Nat.le_refl _) ?_
          have hlt : i < 13 := by rw [nI_leI (by omega) (by omega)] at hc_5; omega
          have hb := bi_lt n i
          rw [n_bit (by omega) (by omega), n_eq0 (by unfold bi at hb; omega)] at hc_13
          have e : lsf n (13 - i) i = i := by
            rw [show 13 - i = (13 - (i + 1)) + 1 by omega]
            show (if bi n i = 1 then i else _) = _
            rw [if_pos (by unfold bi at hb ⊢; omega)]
          intro n2 h2n e2
          simp only [List.cons.injEq, Sum.inl.injEq, and_true] at e2
          have e2n := e2
          rw [nI_eq (by omega) (by omega)] at e2n
          subst e2n
          exact ⟨rfl, rfl, by rw [hl, e]⟩
theorem n_sub0 {a b : Nat} (ha : a < 2 ^ 31) (hb : b < 2 ^ 31) : nI a &&& (nI b ^^^ -(nI 1)) = 0 ↔ a &&& b = a := by
  have e : (-(nI 1)) = nI (2 ^ 32 - 1) := by decide
  have hx : b ^^^ (2 ^ 32 - 1) < 2 ^ 32 := Nat.xor_lt_two_pow (by omega) (by omega)
  have hle : a &&& (b ^^^ (2 ^ 32 - 1)) ≤ a := Nat.and_le_left
  rw [e, n_xor, n_and, n_eq0 (by omega)]
  constructor
  · intro h
    apply Nat.eq_of_testBit_eq
    intro i
    have hi := congrArg (fun z => z.testBit i) h
    simp only [Nat.testBit_and, Nat.testBit_xor, Nat.testBit_two_pow_sub_one, Nat.zero_testBit] at hi ⊢
    by_cases h32 : i < 32
    · simp [h32] at hi
      cases hA : a.testBit i <;> cases hB : b.testBit i <;> simp_all
    · have hA : a.testBit i = false := Nat.testBit_lt_two_pow (Nat.lt_of_lt_of_le ha (Nat.pow_le_pow_right (by decide) (by omega)))
      simp [hA]
  · intro h
    apply Nat.eq_of_testBit_eq
    intro i
    have hi := congrArg (fun z => z.testBit i) h
    simp only [Nat.testBit_and, Nat.testBit_xor, Nat.testBit_two_pow_sub_one, Nat.zero_testBit] at hi ⊢
    by_cases h32 : i < 32
    · simp [h32]
      cases hA : a.testBit i <;> cases hB : b.testBit i <;> simp_all
    · have hA : a.testBit i = false := Nat.testBit_lt_two_pow (Nat.lt_of_lt_of_le ha (Nat.pow_le_pow_right (by decide) (by omega)))
      simp [hA]
def q_X2_isWithin : x_K := (2, fun as S M => ∃ (a : Nat) (b : Nat), a < 8192 ∧ b < 8192 ∧ as = [.inl (nI a), .inl (nI b)], fun as S M rv_ S' M' => ∀ (a : Nat) (b : Nat), a < 8192 → b < 8192 → as = [.inl (nI a), .inl (nI b)] → S' = S ∧ M' = M ∧ rv_ = some (.inl (if a &&& b = a then nI 1 else nI 0)), 0, 0)
def b_X2_isWithin : x_B := [(0, 2, [(.iload_n 0, 1), (.iload_n 1, 1), (.iconst (-1), 1), (.ixor, 1), (.iand, 1), (.ifCond .ne 7, 3), (.iconst 1, 1), (.goto 4, 3)]),
  (12, 2, [(.iconst 0, 1)]),
  (13, 2, [(.ireturn, 1)])]
theorem b_X2_isWithin_ok : x_okB cX2_isWithin 2 b_X2_isWithin = true := by decide +kernel
def X_X2_isWithin : x_X := ([], [], [], [], [], (0, 0), x_kn, x_kf, 5, false)
theorem X_X2_isWithin_ok : x_okT RX2 X_X2_isWithin = true := by decide +kernel
theorem k_X2_isWithin (l : Launch) : ∀ z ∈ X_X2_isWithin.2.2.2.2.1, x_Cal l (x_rm 1 0 0) cX2_isWithin RX2 2 z.1 z.2 := fun _ h => absurd h List.not_mem_nil
set_option maxHeartbeats 4000000 in
set_option maxRecDepth 100000 in
theorem c_X2_isWithin (l : Launch) : x_CT l yX2_isWithin cX2_isWithin 2 (some .boolean) 1 q_X2_isWithin := by
  refine x_meth (X := X_X2_isWithin) (bl := b_X2_isWithin) (cut := []) (own := RX2) 30 (by decide) rfl X_X2_isWithin_ok b_X2_isWithin_ok rfl (by decide) (k_X2_isWithin l) ?_
  rintro as S M - ⟨a, b, ha, hb, rfl⟩
  refine ⟨fun _ _ _ _ _ _ _ _ => False, ?_, ?_⟩
  · skip
    refine xt_blk rfl rfl (by dsimp only [List.take]) ?_
    refine xt_iln0 rfl ?_
    refine xt_iln1 rfl ?_
    refine xt_icm rfl ?_
    refine xt_xor ?_
    refine xt_and ?_
    refine xt_ne (t := 12) rfl (fun hc_5 => ?_) (fun hc_5 => ?_)
    · skip
      refine xt_blk rfl rfl (by dsimp only [List.take]) ?_
      refine xt_ic ?_
      refine xt_nil (t := 13) rfl ?_
      refine xt_blk rfl rfl (by dsimp only [List.take]) ?_
      refine xt_rz (by decide) rfl (Nat.le_refl _) ?_
      rw [n_sub0 (by omega) (by omega)] at hc_5
      intro a2 b2 h2a h2b e2
      simp only [List.cons.injEq, Sum.inl.injEq, and_true] at e2
      obtain ⟨e2a, e2b⟩ := e2
      rw [nI_eq (by omega) (by omega)] at e2a
      subst e2a
      rw [nI_eq (by omega) (by omega)] at e2b
      subst e2b
      exact ⟨rfl, rfl, by rw [if_neg hc_5]⟩
    · skip
      refine xt_ic ?_
      refine xt_goto (t := 13) rfl ?_
      refine xt_blk rfl rfl (by dsimp only [List.take]) ?_
      refine xt_rz (by decide) rfl (Nat.le_refl _) ?_
      rw [n_sub0 (by omega) (by omega)] at hc_5
      intro a2 b2 h2a h2b e2
      simp only [List.cons.injEq, Sum.inl.injEq, and_true] at e2
      obtain ⟨e2a, e2b⟩ := e2
      rw [nI_eq (by omega) (by omega)] at e2a
      subst e2a
      rw [nI_eq (by omega) (by omega)] at e2b
      subst e2b
      exact ⟨rfl, rfl, by rw [if_pos hc_5]⟩
  · intro μ pc ls st S2 M2 cs sl h; exact h.elim
def q_X2_areNear : x_K := (2, fun as S M => ∃ (r : Nat) (s : Nat), r < 13 ∧ s < 13 ∧ as = [.inl (nI r), .inl (nI s)], fun as S M rv_ S' M' => ∀ (r : Nat) (s : Nat), r < 13 → s < 13 → as = [.inl (nI r), .inl (nI s)] → S' = S ∧ M' = M ∧ rv_ = some (.inl (nI (bi (neT r) s))), 0, 0)
def b_X2_areNear : x_B := [(0, 2, [(.getstatic 15, 3), (.iload_n 0, 1), (.iaload, 1), (.iload_n 1, 1), (.ishr, 1), (.iconst 1, 1), (.iand, 1), (.ifCond .eq 7, 3), (.iconst 1, 1), (.goto 4, 3)]),
  (16, 2, [(.iconst 0, 1)]),
  (17, 2, [(.ireturn, 1)])]
theorem b_X2_areNear_ok : x_okB cX2_areNear 2 b_X2_areNear = true := by decide +kernel
def X_X2_areNear : x_X := ([], [(15, 2)], [], [], [], (0, 0), x_kn, x_kf, 5, false)
theorem X_X2_areNear_ok : x_okT RX2 X_X2_areNear = true := by decide +kernel
theorem k_X2_areNear (l : Launch) : ∀ z ∈ X_X2_areNear.2.2.2.2.1, x_Cal l (x_rm 1 0 0) cX2_areNear RX2 2 z.1 z.2 := fun _ h => absurd h List.not_mem_nil
set_option maxHeartbeats 4000000 in
set_option maxRecDepth 100000 in
theorem c_X2_areNear (l : Launch) : x_CT l yX2_areNear cX2_areNear 2 (some .boolean) 1 q_X2_areNear := by
  refine x_meth (X := X_X2_areNear) (bl := b_X2_areNear) (cut := []) (own := RX2) 30 (by decide) rfl X_X2_areNear_ok b_X2_areNear_ok rfl (by decide) (k_X2_areNear l) ?_
  rintro as S M - ⟨r, s, hr, hs, rfl⟩
  refine ⟨fun _ _ _ _ _ _ _ _ => False, ?_, ?_⟩
  · skip
    refine xt_blk rfl rfl (by dsimp only [List.take]) ?_
    refine xt_gs (q := 2) rfl ?_
    refine xt_iln0 rfl ?_
    refine xt_kal rfl (show vp_in _ 13 from vp_in_nI (by omega) (by decide)) ?_
    refine xt_iln1 rfl ?_
    refine xt_shr ?_
    refine xt_ic ?_
    refine xt_and ?_
    refine xt_eq (t := 16) rfl (fun hc_9 => ?_) (fun hc_9 => ?_)
    · skip
      refine xt_blk rfl rfl (by dsimp only [List.take]) ?_
      refine xt_ic ?_
      refine xt_nil (t := 17) rfl ?_
      refine xt_blk rfl rfl (by dsimp only [List.take]) ?_
      refine xt_rz (by decide) rfl (Nat.le_refl _) ?_
      have e4 : x_kf 2 (nI r).toNatClampNeg = nI (neT r) := by rw [nI_clamp (by omega)]; rfl
      have hn := neT_lt r
      have hb := bi_lt (neT r) s
      have e5 : x_kf 2 (nI r).toNatClampNeg >>> (nI s &&& 31) &&& nI 1 = nI (bi (neT r) s) := by rw [e4, n_bit (by omega) (by omega)]; rfl
      have hc :  nI (bi (neT r) s) = 0 := by rw [← e5]; exact hc_9
      rw [n_eq0 (by omega)] at hc
      intro r2 s2 h2r h2s e2
      simp only [List.cons.injEq, Sum.inl.injEq, and_true] at e2
      obtain ⟨e2r, e2s⟩ := e2
      rw [nI_eq (by omega) (by omega)] at e2r
      subst e2r
      rw [nI_eq (by omega) (by omega)] at e2s
      subst e2s
      exact ⟨rfl, rfl, by rw [show bi (neT r) s = 0 by omega]⟩
    · skip
      refine xt_ic ?_
      refine xt_goto (t := 17) rfl ?_
      refine xt_blk rfl rfl (by dsimp only [List.take]) ?_
      refine xt_rz (by decide) rfl (Nat.le_refl _) ?_
      have e4 : x_kf 2 (nI r).toNatClampNeg = nI (neT r) := by rw [nI_clamp (by omega)]; rfl
      have hn := neT_lt r
      have hb := bi_lt (neT r) s
      have e5 : x_kf 2 (nI r).toNatClampNeg >>> (nI s &&& 31) &&& nI 1 = nI (bi (neT r) s) := by rw [e4, n_bit (by omega) (by omega)]; rfl
      have hc : ¬ nI (bi (neT r) s) = 0 := by rw [← e5]; exact hc_9
      rw [n_eq0 (by omega)] at hc
      intro r2 s2 h2r h2s e2
      simp only [List.cons.injEq, Sum.inl.injEq, and_true] at e2
      obtain ⟨e2r, e2s⟩ := e2
      rw [nI_eq (by omega) (by omega)] at e2r
      subst e2r
      rw [nI_eq (by omega) (by omega)] at e2s
      subst e2s
      exact ⟨rfl, rfl, by rw [show bi (neT r) s = 1 by omega]⟩
  · intro μ pc ls st S2 M2 cs sl h; exact h.elim
def q_X2_sign : x_K := (2, fun as S M => ∃ (x : Int32) (y : Int32), as = [.inl x, .inl y], fun as S M rv_ S' M' => ∀ (x : Int32) (y : Int32), as = [.inl x, .inl y] → S' = S ∧ M' = M ∧ rv_ = some (.inl (if x < y then nI 1 else if x = y then nI 2 else nI 4)), 0, 0)
def b_X2_sign : x_B := [(0, 2, [(.iload_n 0, 1), (.iload_n 1, 1), (.if_icmp .ge 7, 3), (.iconst 1, 1), (.goto 13, 3)]),
  (9, 2, [(.iload_n 0, 1), (.iload_n 1, 1), (.if_icmp .ne 7, 3), (.iconst 2, 1), (.goto 4, 3)]),
  (18, 2, [(.iconst 4, 1)]),
  (19, 2, [(.ireturn, 1)])]
theorem b_X2_sign_ok : x_okB cX2_sign 2 b_X2_sign = true := by decide +kernel
def X_X2_sign : x_X := ([], [], [], [], [], (0, 0), x_kn, x_kf, 5, false)
theorem X_X2_sign_ok : x_okT RX2 X_X2_sign = true := by decide +kernel
theorem k_X2_sign (l : Launch) : ∀ z ∈ X_X2_sign.2.2.2.2.1, x_Cal l (x_rm 1 0 0) cX2_sign RX2 2 z.1 z.2 := fun _ h => absurd h List.not_mem_nil
set_option maxHeartbeats 4000000 in
set_option maxRecDepth 100000 in
theorem c_X2_sign (l : Launch) : x_CT l yX2_sign cX2_sign 2 (some .int) 1 q_X2_sign := by
  refine x_meth (X := X_X2_sign) (bl := b_X2_sign) (cut := []) (own := RX2) 30 (by decide) rfl X_X2_sign_ok b_X2_sign_ok rfl (by decide) (k_X2_sign l) ?_
  rintro as S M - ⟨x, y, rfl⟩
  refine ⟨fun _ _ _ _ _ _ _ _ => False, ?_, ?_⟩
  · skip
    refine xt_blk rfl rfl (by dsimp only [List.take]) ?_
    refine xt_iln0 rfl ?_
    refine xt_iln1 rfl ?_
    refine xt_cge (t := 9) rfl (fun hc_2 => ?_) (fun hc_2 => ?_)
    · skip
      refine xt_blk rfl rfl (by dsimp only [List.take]) ?_
      refine xt_iln0 rfl ?_
      refine xt_iln1 rfl ?_
      refine xt_cne (t := 18) rfl (fun hc_11 => ?_) (fun hc_11 => ?_)
      · skip
        refine xt_blk rfl rfl (by dsimp only [List.take]) ?_
        refine xt_ic ?_
        refine xt_nil (t := 19) rfl ?_
        refine xt_blk rfl rfl (by dsimp only [List.take]) ?_
        refine xt_ri rfl (Nat.le_refl _) ?_
        intro x2 y2 e2
        simp only [List.cons.injEq, Sum.inl.injEq, and_true] at e2
        obtain ⟨e2x, e2y⟩ := e2
        subst e2x
        subst e2y
        exact ⟨rfl, rfl, by rw [if_neg (Int32.not_lt.mpr hc_2), if_neg hc_11]⟩
      · skip
        refine xt_ic ?_
        refine xt_goto (t := 19) rfl ?_
        refine xt_blk rfl rfl (by dsimp only [List.take]) ?_
        refine xt_ri rfl (Nat.le_refl _) ?_
        intro x2 y2 e2
        simp only [List.cons.injEq, Sum.inl.injEq, and_true] at e2
        obtain ⟨e2x, e2y⟩ := e2
        subst e2x
        subst e2y
        exact ⟨rfl, rfl, by rw [if_neg (Int32.not_lt.mpr hc_2), if_pos hc_11]⟩
    · skip
      refine xt_ic ?_
      refine xt_goto (t := 19) rfl ?_
      refine xt_blk rfl rfl (by dsimp only [List.take]) ?_
      refine xt_ri rfl (Nat.le_refl _) ?_
      intro x2 y2 e2
      simp only [List.cons.injEq, Sum.inl.injEq, and_true] at e2
      obtain ⟨e2x, e2y⟩ := e2
      subst e2x
      subst e2y
      exact ⟨rfl, rfl, by rw [if_pos (Int32.not_le.mp hc_2)]⟩
  · intro μ pc ls st S2 M2 cs sl h; exact h.elim
def q_X2_signOfEnds : x_K := (3, fun as S M => ∃ (r : Nat) (e : Nat) (o : Nat), r < 13 ∧ e < 2 ∧ o < 2 ∧ as = [.inl (nI r), .inl (nI e), .inl (nI o)], fun as S M rv_ S' M' => ∀ (r : Nat) (e : Nat) (o : Nat), r < 13 → e < 2 → o < 2 → as = [.inl (nI r), .inl (nI e), .inl (nI o)] → S' = S ∧ M' = M ∧ rv_ = some (.inl (nI (sgT r / 2 ^ ((3 - (2 * e + o)) * 4) % 8))), 0, 0)
def b_X2_signOfEnds : x_B := [(0, 3, [(.iconst 3, 1), (.iload_n 1, 1), (.iconst 2, 1), (.imul, 1), (.iload_n 2, 1), (.iadd, 1), (.isub, 1), (.istore_n 3, 1), (.getstatic 26, 3), (.iload_n 0, 1), (.iaload, 1), (.iload_n 3, 1), (.iconst 4, 1), (.imul, 1), (.ishr, 1), (.bipush 7, 2), (.iand, 1), (.ireturn, 1)])]
theorem b_X2_signOfEnds_ok : x_okB cX2_signOfEnds 4 b_X2_signOfEnds = true := by decide +kernel
def X_X2_signOfEnds : x_X := ([], [(26, 0)], [], [], [], (0, 0), x_kn, x_kf, 5, false)
theorem X_X2_signOfEnds_ok : x_okT RX2 X_X2_signOfEnds = true := by decide +kernel
theorem k_X2_signOfEnds (l : Launch) : ∀ z ∈ X_X2_signOfEnds.2.2.2.2.1, x_Cal l (x_rm 1 0 0) cX2_signOfEnds RX2 4 z.1 z.2 := fun _ h => absurd h List.not_mem_nil
set_option maxHeartbeats 4000000 in
set_option maxRecDepth 100000 in
theorem c_X2_signOfEnds (l : Launch) : x_CT l yX2_signOfEnds cX2_signOfEnds 4 (some .int) 1 q_X2_signOfEnds := by
  refine x_meth (X := X_X2_signOfEnds) (bl := b_X2_signOfEnds) (cut := []) (own := RX2) 30 (by decide) rfl X_X2_signOfEnds_ok b_X2_signOfEnds_ok rfl (by decide) (k_X2_signOfEnds l) ?_
  rintro as S M - ⟨r, e, o, hr, he, ho, rfl⟩
  refine ⟨fun _ _ _ _ _ _ _ _ => False, ?_, ?_⟩
  · skip
    refine xt_blk rfl rfl (by dsimp only [List.take]) ?_
    refine xt_ic ?_
    refine xt_iln1 rfl ?_
    refine xt_ic ?_
    refine xt_mul ?_
    refine xt_iln2 rfl ?_
    refine xt_add ?_
    refine xt_sub ?_
    refine xt_isn3 rfl (by dsimp only [x_sto]) ?_
    refine xt_gs (q := 0) rfl ?_
    refine xt_iln0 rfl ?_
    refine xt_kal rfl (show vp_in _ 13 from vp_in_nI (by omega) (by decide)) ?_
    refine xt_iln3 rfl ?_
    refine xt_ic ?_
    refine xt_mul ?_
    refine xt_shr ?_
    refine xt_bi ?_
    refine xt_and ?_
    refine xt_ri rfl (Nat.le_refl _) ?_
    have e4 : x_kf 0 (nI r).toNatClampNeg = nI (sgT r) := by rw [nI_clamp (by omega)]; rfl
    have hs := sgT_lt r
    have e5 : x_kf 0 (nI r).toNatClampNeg >>> ((nI 3 - (nI e * nI 2 + nI o)) * nI 4 &&& 31) &&& nI 7 = nI (sgT r / 2 ^ ((3 - (2 * e + o)) * 4) % 8) := by
      rw [e4, pk_mul, nI_add, pk_sub (by omega), pk_mul, n_shr (by omega) (by omega), pk_andN (by have := Nat.div_le_self (sgT r) (2 ^ ((3 - (e * 2 + o)) * 4)); omega) 3 (by decide), Nat.mul_comm e 2]
    intro r2 e2 o2 h2r h2e h2o e2
    simp only [List.cons.injEq, Sum.inl.injEq, and_true] at e2
    obtain ⟨e2r, e2e, e2o⟩ := e2
    rw [nI_eq (by omega) (by omega)] at e2r
    subst e2r
    rw [nI_eq (by omega) (by omega)] at e2e
    subst e2e
    rw [nI_eq (by omega) (by omega)] at e2o
    subst e2o
    exact ⟨rfl, rfl, congrArg some (congrArg Sum.inl e5)⟩
  · intro μ pc ls st S2 M2 cs sl h; exact h.elim
