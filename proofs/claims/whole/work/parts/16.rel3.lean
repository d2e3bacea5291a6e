/-! RELATIONS: steps, between, isPlain; NETS: pairs, put, open; Arrays.fill -/
def rch (r : Nat) : Nat → Nat
  | 0 => 2 ^ r
  | k + 1 => rch r k ||| fo neT (rch r k) 13
theorem rch_lt {r : Nat} (hr : r < 13) : ∀ k, rch r k < 2 ^ 13
  | 0 => Nat.pow_lt_pow_right (by decide) hr
  | k + 1 => Nat.or_lt_two_pow (rch_lt hr k) (fo_lt neT_lt 13)
def stf (r s : Nat) : Nat → Nat → Nat
  | 0, _ => 13
  | f + 1, k => if bi (rch r k) s = 1 then k else stf r s f (k + 1)
def stp (r s : Nat) : Nat := stf r s 13 0
def q_X2_stepsBetween : x_K := (2, fun as S M => ∃ (r : Nat) (s : Nat), r < 13 ∧ s < 13 ∧ as = [.inl (nI r), .inl (nI s)], fun as S M rv_ S' M' => ∀ (r : Nat) (s : Nat), r < 13 → s < 13 → as = [.inl (nI r), .inl (nI s)] → S' = S ∧ M' = M ∧ rv_ = some (.inl (nI (stp r s))), 0, 0)
def b_X2_stepsBetween : x_B := [(0, 2, [(.iconst 1, 1), (.iload_n 0, 1), (.ishl, 1), (.istore_n 2, 1), (.iconst 0, 1), (.istore_n 3, 1)]),
  (6, 4, [(.iload_n 3, 1), (.bipush 13, 2), (.if_icmp .ge 26, 3), (.iload_n 2, 1), (.iload_n 1, 1), (.ishr, 1), (.iconst 1, 1), (.iand, 1), (.ifCond .eq 5, 3), (.iload_n 3, 1), (.ireturn, 1)]),
  (22, 4, [(.iload_n 2, 1), (.iload_n 2, 1), (.invokestatic 18, 3), (.ior, 1), (.istore_n 2, 1), (.iinc 3 1, 3), (.goto (-26), 3)]),
  (35, 4, [(.bipush 13, 2), (.ireturn, 1)])]
theorem b_X2_stepsBetween_ok : x_okB cX2_stepsBetween 4 b_X2_stepsBetween = true := by decide +kernel
def X_X2_stepsBetween : x_X := ([], [], [], [], [(54, q_X2_allNear)], (0, 0), x_kn, x_kf, 5, false)
theorem X_X2_stepsBetween_ok : x_okT RX2 X_X2_stepsBetween = true := by decide +kernel
theorem k_X2_stepsBetween (l : Launch) : ∀ z ∈ X_X2_stepsBetween.2.2.2.2.1, x_Cal l (x_rm 2 0 0) cX2_stepsBetween RX2 4 z.1 z.2 := List.forall_mem_cons.mpr ⟨x_cal_S (idx := 18) (c_X2_allNear l) ⟨by decide, by decide⟩ (by decide +kernel) (by decide +kernel) (by decide +kernel) (by decide +kernel) (by decide +kernel), fun _ h => absurd h List.not_mem_nil⟩
set_option maxHeartbeats 4000000 in
set_option maxRecDepth 100000 in
theorem c_X2_stepsBetween (l : Launch) : x_CT l yX2_stepsBetween cX2_stepsBetween 4 (some .int) 2 q_X2_stepsBetween := by
  refine x_meth (X := X_X2_stepsBetween) (bl := b_X2_stepsBetween) (cut := [6]) (own := RX2) 30 (by decide) rfl X_X2_stepsBetween_ok b_X2_stepsBetween_ok rfl (by decide) (k_X2_stepsBetween l) ?_
  rintro as S M - ⟨r, s, hr, hs, rfl⟩
  refine ⟨fun μ pc ls st S' M' cs sl => ∃ k, k ≤ 13 ∧ pc = 6 ∧ st = [] ∧ S' = S ∧ M' = M ∧ cs = 0 ∧ sl = 0 ∧ ls = [.inl (nI r), .inl (nI s), .inl (nI (rch r k)), .inl (nI k)] ∧ μ = 13 - k ∧ stp r s = stf r s (13 - k) k, ?_, ?_⟩
  · skip
    refine xt_blk rfl rfl (by dsimp only [List.take]) ?_
    refine xt_ic ?_
    refine xt_iln0 rfl ?_
    refine xt_shl ?_
    refine xt_isn2 rfl (by dsimp only [x_sto]) ?_
    refine xt_ic ?_
    refine xt_isn3 rfl (by dsimp only [x_sto]) ?_
    refine xt_nil (t := 6) rfl ?_
    refine xt_cut rfl rfl (by dsimp only [List.take]) ?_
    exact ⟨13, 0, by omega, rfl, rfl, rfl, rfl, rfl, rfl, by rw [n_shl (by omega) (by have := rch_lt hr 0; simp only [rch] at this; omega), Nat.one_mul]; rfl, rfl, rfl⟩
  · rintro μ pc ls st S2 M2 cs sl (⟨k, hk, rfl, rfl, rfl, rfl, rfl, rfl, rfl, rfl, hl⟩)
    · refine ⟨_, rfl, ?_⟩
      refine xt_iln3 rfl ?_
      refine xt_bi ?_
      refine xt_cge (t := 35) rfl (fun hc_9 => ?_) (fun hc_9 => ?_)
      · skip
        refine xt_blk rfl rfl (by dsimp only [List.take]) ?_
        refine xt_bi ?_
        refine xt_ri rfl (Nat.le_refl _) ?_
        have h13 : k = 13 := by rw [nI_leI (by omega) (by omega)] at hc_9; omega
        subst h13
        intro r2 s2 h2r h2s e2
        simp only [List.cons.injEq, Sum.inl.injEq, and_true] at e2
        obtain ⟨e2r, e2s⟩ := e2
        rw [nI_eq (by omega) (by omega)] at e2r
        subst e2r
        rw [nI_eq (by omega) (by omega)] at e2s
        subst e2s
        exact ⟨rfl, rfl, by rw [hl]; rfl⟩
      · skip
        refine xt_iln2 rfl ?_
        refine xt_iln1 rfl ?_
        refine xt_shr ?_
        refine xt_ic ?_
        refine xt_and ?_
        refine xt_eq (t := 22) rfl (fun hc_17 => ?_) (fun hc_17 => ?_)
        · skip
          refine xt_blk rfl rfl (by dsimp only [List.take]) ?_
          refine xt_iln2 rfl ?_
          refine xt_iln2 rfl ?_
          refine xt_v1 (key := 54) (q := q_X2_allNear) rfl rfl rfl rfl rfl (by decide) ⟨rch r k, rch_lt hr k, rfl⟩ (fun rv_ S1 M1 hq_24 => ?_)
          obtain ⟨rfl, rfl, rfl⟩ := hq_24 (rch r k) (rch_lt hr k) rfl
          dsimp only [Option.toList, List.cons_append, List.nil_append]
          refine xt_or ?_
          refine xt_isn2 rfl (by dsimp only [x_sto]) ?_
          refine xt_inc rfl (by dsimp only [x_sto]) ?_
          refine xt_goto (t := 6) rfl ?_
          refine xt_cut rfl rfl (by dsimp only [List.take]) ?_
          have hlt : k < 13 := by rw [nI_leI (by omega) (by omega)] at hc_9; omega
          have hk2 := rch_lt hr k
          have hb := bi_lt (rch r k) s
          rw [n_bit (by omega) (by omega), n_eq0 (by unfold bi at hb; omega)] at hc_17
          have e : stf r s (13 - k) k = stf r s (13 - (k + 1)) (k + 1) := by
            rw [show 13 - k = (13 - (k + 1)) + 1 by omega]
            show (if bi (rch r k) s = 1 then k else _) = _
            rw [if_neg (by unfold bi; omega)]
          exact ⟨13 - (k + 1), by omega, k + 1, by omega, rfl, rfl, rfl, rfl, rfl, rfl, by rw [nI_add, n_or]; rfl, rfl, by rw [hl, e]⟩
        · skip
          refine xt_iln3 rfl ?_
          refine xt_ri rfl (Nat.le_refl _) ?_
          have hlt : k < 13 := by rw [nI_leI (by omega) (by omega)] at hc_9; omega
          have hk2 := rch_lt hr k
          have hb := bi_lt (rch r k) s
          rw [n_bit (by omega) (by omega), n_eq0 (by unfold bi at hb; omega)] at hc_17
          have e : stf r s (13 - k) k = k := by
            rw [show 13 - k = (13 - (k + 1)) + 1 by omega]
            show (if bi (rch r k) s = 1 then k else _) = _
            rw [if_pos (by unfold bi at hb ⊢; omega)]
          intro r2 s2 h2r h2s e2
          simp only [List.cons.injEq, Sum.inl.injEq, and_true] at e2
          obtain ⟨e2r, e2s⟩ := e2
          rw [nI_eq (by omega) (by omega)] at e2r
          subst e2r
          rw [nI_eq (by omega) (by omega)] at e2s
          subst e2s
          exact ⟨rfl, rfl, by rw [hl, e]⟩
def sgI (x y : Int32) : Nat := if x < y then 1 else if x = y then 2 else 4
theorem sgI_lt (x y : Int32) : sgI x y < 8 := by unfold sgI; split <;> (try split) <;> omega
theorem sgI_eq (x y : Int32) : (if x < y then nI 1 else if x = y then nI 2 else nI 4) = nI (sgI x y) := by unfold sgI; split <;> (try split) <;> rfl
def sgs (a z b y : Int32) : Nat := (sgI a b * 4096 ||| sgI a y * 256) ||| sgI z b * 16 ||| sgI z y
def bwf (q : Nat) : Nat → Nat
  | 0 => 0
  | i + 1 => if sgT i = q then i else bwf q i
def bw (a z b y : Int32) : Nat := bwf (sgs a z b y) 13
theorem bwf_lt (q : Nat) : ∀ i, i ≤ 13 → bwf q i < 13
  | 0, _ => by simp [bwf]
  | i + 1, h => by
    have := bwf_lt q i (by omega)
    unfold bwf
    split <;> omega
theorem bw_lt (a z b y : Int32) : bw a z b y < 13 := bwf_lt _ 13 (by omega)
theorem sgs_lt (a z b y : Int32) : sgs a z b y < 2 ^ 15 := by
  have h1 := sgI_lt a b
  have h2 := sgI_lt a y
  have h3 := sgI_lt z b
  have h4 := sgI_lt z y
  exact Nat.or_lt_two_pow (Nat.or_lt_two_pow (Nat.or_lt_two_pow (by omega) (by omega)) (by omega)) (by omega)
def q_X2_between : x_K := (4, fun as S M => ∃ (a : Int32) (z : Int32) (b : Int32) (y : Int32), as = [.inl a, .inl z, .inl b, .inl y], fun as S M rv_ S' M' => ∀ (a : Int32) (z : Int32) (b : Int32) (y : Int32), as = [.inl a, .inl z, .inl b, .inl y] → S' = S ∧ M' = M ∧ rv_ = some (.inl (nI (bw a z b y))), 0, 0)
def b_X2_between : x_B := [(0, 4, [(.iload_n 0, 1), (.iload_n 2, 1), (.invokestatic 22, 3), (.bipush 12, 2), (.ishl, 1), (.iload_n 0, 1), (.iload_n 3, 1), (.invokestatic 22, 3), (.bipush 8, 2), (.ishl, 1), (.ior, 1), (.iload_n 1, 1), (.iload_n 2, 1), (.invokestatic 22, 3), (.iconst 4, 1), (.ishl, 1), (.ior, 1), (.iload_n 1, 1), (.iload_n 3, 1), (.invokestatic 22, 3), (.ior, 1), (.istore 4, 2), (.iconst 0, 1), (.istore 5, 2), (.iconst 0, 1), (.istore 6, 2)]),
  (39, 7, [(.iload 6, 2), (.bipush 13, 2), (.if_icmp .ge 24, 3), (.getstatic 26, 3), (.iload 6, 2), (.iaload, 1), (.iload 4, 2), (.if_icmp .ne 7, 3), (.iload 6, 2), (.istore 5, 2)]),
  (61, 7, [(.iinc 6 1, 3), (.goto (-25), 3)]),
  (67, 7, [(.iload 5, 2), (.ireturn, 1)])]
theorem b_X2_between_ok : x_okB cX2_between 7 b_X2_between = true := by decide +kernel
def X_X2_between : x_X := ([], [(26, 0)], [], [], [(66, q_X2_sign)], (0, 0), x_kn, x_kf, 5, false)
theorem X_X2_between_ok : x_okT RX2 X_X2_between = true := by decide +kernel
theorem k_X2_between (l : Launch) : ∀ z ∈ X_X2_between.2.2.2.2.1, x_Cal l (x_rm 2 0 0) cX2_between RX2 7 z.1 z.2 := List.forall_mem_cons.mpr ⟨x_cal_S (idx := 22) (c_X2_sign l) ⟨by decide, by decide⟩ (by decide +kernel) (by decide +kernel) (by decide +kernel) (by decide +kernel) (by decide +kernel), fun _ h => absurd h List.not_mem_nil⟩
set_option maxHeartbeats 4000000 in
set_option maxRecDepth 100000 in
theorem c_X2_between (l : Launch) : x_CT l yX2_between cX2_between 7 (some .int) 2 q_X2_between := by
  refine x_meth (X := X_X2_between) (bl := b_X2_between) (cut := [39]) (own := RX2) 30 (by decide) rfl X_X2_between_ok b_X2_between_ok rfl (by decide) (k_X2_between l) ?_
  rintro as S M - ⟨a, z, b, y, rfl⟩
  refine ⟨fun μ pc ls st S' M' cs sl => ∃ i, i ≤ 13 ∧ pc = 39 ∧ st = [] ∧ S' = S ∧ M' = M ∧ cs = 0 ∧ sl = 0 ∧ ls = [.inl a, .inl z, .inl b, .inl y, .inl (nI (sgs a z b y)), .inl (nI (bwf (sgs a z b y) i)), .inl (nI i)] ∧ μ = 13 - i, ?_, ?_⟩
  · skip
    refine xt_blk rfl rfl (by dsimp only [List.take]) ?_
    refine xt_iln0 rfl ?_
    refine xt_iln2 rfl ?_
    refine xt_v2 (key := 66) (q := q_X2_sign) rfl rfl rfl rfl rfl (by decide) ⟨_, _, rfl⟩ (fun rv_ S1 M1 hq_2 => ?_)
    obtain ⟨rfl, rfl, rfl⟩ := hq_2 a b rfl
    dsimp only [Option.toList, List.cons_append, List.nil_append]
    refine xt_bi ?_
    refine xt_shl ?_
    refine xt_iln0 rfl ?_
    refine xt_iln3 rfl ?_
    refine xt_v2 (key := 66) (q := q_X2_sign) rfl rfl rfl rfl rfl (by decide) ⟨_, _, rfl⟩ (fun rv_ S1 M1 hq_10 => ?_)
    obtain ⟨rfl, rfl, rfl⟩ := hq_10 a y rfl
    dsimp only [Option.toList, List.cons_append, List.nil_append]
    refine xt_bi ?_
    refine xt_shl ?_
    refine xt_or ?_
    refine xt_iln1 rfl ?_
    refine xt_iln2 rfl ?_
    refine xt_v2 (key := 66) (q := q_X2_sign) rfl rfl rfl rfl rfl (by decide) ⟨_, _, rfl⟩ (fun rv_ S1 M1 hq_19 => ?_)
    obtain ⟨rfl, rfl, rfl⟩ := hq_19 z b rfl
    dsimp only [Option.toList, List.cons_append, List.nil_append]
    refine xt_ic ?_
    refine xt_shl ?_
    refine xt_or ?_
    refine xt_iln1 rfl ?_
    refine xt_iln3 rfl ?_
    refine xt_v2 (key := 66) (q := q_X2_sign) rfl rfl rfl rfl rfl (by decide) ⟨_, _, rfl⟩ (fun rv_ S1 M1 hq_27 => ?_)
    obtain ⟨rfl, rfl, rfl⟩ := hq_27 z y rfl
    dsimp only [Option.toList, List.cons_append, List.nil_append]
    refine xt_or ?_
    refine xt_ist rfl (by dsimp only [x_sto]) ?_
    refine xt_ic ?_
    refine xt_ist rfl (by dsimp only [x_sto]) ?_
    refine xt_ic ?_
    refine xt_ist rfl (by dsimp only [x_sto]) ?_
    refine xt_nil (t := 39) rfl ?_
    refine xt_cut rfl rfl (by dsimp only [List.take]) ?_
    have h1 := sgI_lt a b
    have h2 := sgI_lt a y
    have h3 := sgI_lt z b
    have h4 := sgI_lt z y
    exact ⟨13, 0, by omega, rfl, rfl, rfl, rfl, rfl, rfl, by
      simp only [sgI_eq]
      rw [n_shl (by omega) (by omega), n_shl (by omega) (by omega), n_shl (by omega) (by omega), n_or, n_or, n_or]
      rfl, rfl⟩
  · rintro μ pc ls st S2 M2 cs sl (⟨i, hi, rfl, rfl, rfl, rfl, rfl, rfl, rfl, rfl⟩)
    · refine ⟨_, rfl, ?_⟩
      refine xt_ild rfl ?_
      refine xt_bi ?_
      refine xt_cge (t := 67) rfl (fun hc_43 => ?_) (fun hc_43 => ?_)
      · skip
        refine xt_blk rfl rfl (by dsimp only [List.take]) ?_
        refine xt_ild rfl ?_
        refine xt_ri rfl (Nat.le_refl _) ?_
        have h13 : i = 13 := by rw [nI_leI (by omega) (by omega)] at hc_43; omega
        subst h13
        intro a2 z2 b2 y2 e2
        simp only [List.cons.injEq, Sum.inl.injEq, and_true] at e2
        obtain ⟨e2a, e2z, e2b, e2y⟩ := e2
        subst e2a
        subst e2z
        subst e2b
        subst e2y
        exact ⟨rfl, rfl, rfl⟩
      · skip
        refine xt_gs (q := 0) rfl ?_
        refine xt_ild rfl ?_
        refine xt_kal rfl (show vp_in _ 13 from vp_in_nI (by rw [nI_leI (by omega) (by omega)] at hc_43; omega) (by decide)) ?_
        refine xt_ild rfl ?_
        refine xt_cne (t := 61) rfl (fun hc_54 => ?_) (fun hc_54 => ?_)
        · skip
          refine xt_blk rfl rfl (by dsimp only [List.take]) ?_
          refine xt_inc rfl (by dsimp only [x_sto]) ?_
          refine xt_goto (t := 39) rfl ?_
          refine xt_cut rfl rfl (by dsimp only [List.take]) ?_
          have hlt : i < 13 := by rw [nI_leI (by omega) (by omega)] at hc_43; omega
          have hs := sgs_lt a z b y
          have hg := sgT_lt i
          have e4 : x_kf 0 (nI i).toNatClampNeg = nI (sgT i) := by rw [nI_clamp (by omega)]; rfl
          have hc : ¬nI (sgT i) = nI (sgs a z b y) := by rw [← e4]; exact hc_54
          rw [nI_eq (by omega) (by omega)] at hc
          have e : bwf (sgs a z b y) (i + 1) = bwf (sgs a z b y) i := by
            show (if sgT i = _ then i else _) = _
            rw [if_neg hc]
          exact ⟨13 - (i + 1), by omega, i + 1, by omega, rfl, rfl, rfl, rfl, rfl, rfl, by rw [nI_add, e], rfl⟩
        · skip
          refine xt_ild rfl ?_
          refine xt_ist rfl (by dsimp only [x_sto]) ?_
          refine xt_nil (t := 61) rfl ?_
          refine xt_blk rfl rfl (by dsimp only [List.take]) ?_
          refine xt_inc rfl (by dsimp only [x_sto]) ?_
          refine xt_goto (t := 39) rfl ?_
          refine xt_cut rfl rfl (by dsimp only [List.take]) ?_
          have hlt : i < 13 := by rw [nI_leI (by omega) (by omega)] at hc_43; omega
          have hs := sgs_lt a z b y
          have hg := sgT_lt i
          have e4 : x_kf 0 (nI i).toNatClampNeg = nI (sgT i) := by rw [nI_clamp (by omega)]; rfl
          have hc : nI (sgT i) = nI (sgs a z b y) := by rw [← e4]; exact hc_54
          rw [nI_eq (by omega) (by omega)] at hc
          have e : bwf (sgs a z b y) (i + 1) = i := by
            show (if sgT i = _ then i else _) = _
            rw [if_pos hc]
          exact ⟨13 - (i + 1), by omega, i + 1, by omega, rfl, rfl, rfl, rfl, rfl, rfl, by rw [nI_add, e], rfl⟩
def msT (n : Nat) : Nat := 5397 &&& (n ^^^ (2 ^ 32 - 1))
theorem msT_lt (n : Nat) : msT n < 2 ^ 13 := Nat.lt_of_le_of_lt Nat.and_le_left (by decide)
def pln (n : Nat) : Prop := ∀ i, i < 13 → bi (msT n) i = 1 → ¬ (sgT i &&& fo sgT n 13 = sgT i)
def q_X2_isPlain : x_K := (1, fun as S M => ∃ (n : Nat), n < 8192 ∧ as = [.inl (nI n)], fun as S M rv_ S' M' => ∀ (n : Nat), n < 8192 → as = [.inl (nI n)] → S' = S ∧ M' = M ∧ ((pln n ∧ rv_ = some (.inl (nI 1))) ∨ (¬ pln n ∧ rv_ = some (.inl (nI 0)))), 0, 0)
def b_X2_isPlain : x_B := [(0, 1, [(.iload_n 0, 1), (.invokestatic 29, 3), (.istore_n 1, 1), (.sipush 5397, 3), (.iload_n 0, 1), (.iconst (-1), 1), (.ixor, 1), (.iand, 1), (.istore_n 2, 1), (.iconst 0, 1), (.istore_n 3, 1)]),
  (15, 4, [(.iload_n 3, 1), (.bipush 13, 2), (.if_icmp .ge 31, 3), (.iload_n 2, 1), (.iload_n 3, 1), (.ishr, 1), (.iconst 1, 1), (.iand, 1), (.ifCond .eq 17, 3), (.getstatic 26, 3), (.iload_n 3, 1), (.iaload, 1), (.iload_n 1, 1), (.iconst (-1), 1), (.ixor, 1), (.iand, 1), (.ifCond .ne 5, 3), (.iconst 0, 1), (.ireturn, 1)]),
  (43, 4, [(.iinc 3 1, 3), (.goto (-31), 3)]),
  (49, 4, [(.iconst 1, 1), (.ireturn, 1)])]
theorem b_X2_isPlain_ok : x_okB cX2_isPlain 4 b_X2_isPlain = true := by decide +kernel
def X_X2_isPlain : x_X := ([], [(26, 0)], [], [], [(87, q_X2_allSigns)], (0, 0), x_kn, x_kf, 5, false)
theorem X_X2_isPlain_ok : x_okT RX2 X_X2_isPlain = true := by decide +kernel
theorem k_X2_isPlain (l : Launch) : ∀ z ∈ X_X2_isPlain.2.2.2.2.1, x_Cal l (x_rm 2 0 0) cX2_isPlain RX2 4 z.1 z.2 := List.forall_mem_cons.mpr ⟨x_cal_S (idx := 29) (c_X2_allSigns l) ⟨by decide, by decide⟩ (by decide +kernel) (by decide +kernel) (by decide +kernel) (by decide +kernel) (by decide +kernel), fun _ h => absurd h List.not_mem_nil⟩
set_option maxHeartbeats 4000000 in
set_option maxRecDepth 100000 in
theorem c_X2_isPlain (l : Launch) : x_CT l yX2_isPlain cX2_isPlain 4 (some .boolean) 2 q_X2_isPlain := by
  refine x_meth (X := X_X2_isPlain) (bl := b_X2_isPlain) (cut := [15]) (own := RX2) 30 (by decide) rfl X_X2_isPlain_ok b_X2_isPlain_ok rfl (by decide) (k_X2_isPlain l) ?_
  rintro as S M - ⟨n, hn, rfl⟩
  refine ⟨fun μ pc ls st S' M' cs sl => ∃ i, i ≤ 13 ∧ (∀ j, j < i → bi (msT n) j = 1 → ¬ (sgT j &&& fo sgT n 13 = sgT j)) ∧ pc = 15 ∧ st = [] ∧ S' = S ∧ M' = M ∧ cs = 0 ∧ sl = 0 ∧ ls = [.inl (nI n), .inl (nI (fo sgT n 13)), .inl (nI (msT n)), .inl (nI i)] ∧ μ = 13 - i, ?_, ?_⟩
  · skip
    refine xt_blk rfl rfl (by dsimp only [List.take]) ?_
    refine xt_iln0 rfl ?_
    refine xt_v1 (key := 87) (q := q_X2_allSigns) rfl rfl rfl rfl rfl (by decide) ⟨n, hn, rfl⟩ (fun rv_ S1 M1 hq_1 => ?_)
    obtain ⟨rfl, rfl, rfl⟩ := hq_1 n hn rfl
    dsimp only [Option.toList, List.cons_append, List.nil_append]
    refine xt_isn1 rfl (by dsimp only [x_sto]) ?_
    refine xt_si ?_
    refine xt_iln0 rfl ?_
    refine xt_icm rfl ?_
    refine xt_xor ?_
    refine xt_and ?_
    refine xt_isn2 rfl (by dsimp only [x_sto]) ?_
    refine xt_ic ?_
    refine xt_isn3 rfl (by dsimp only [x_sto]) ?_
    refine xt_nil (t := 15) rfl ?_
    refine xt_cut rfl rfl (by dsimp only [List.take]) ?_
    exact ⟨13, 0, by omega, by omega, rfl, rfl, rfl, rfl, rfl, rfl, by rw [n_andn 5397 n (by decide) (by omega)]; rfl, rfl⟩
  · rintro μ pc ls st S2 M2 cs sl (⟨i, hi, hpl, rfl, rfl, rfl, rfl, rfl, rfl, rfl, rfl⟩)
    · refine ⟨_, rfl, ?_⟩
      refine xt_iln3 rfl ?_
      refine xt_bi ?_
      refine xt_cge (t := 49) rfl (fun hc_18 => ?_) (fun hc_18 => ?_)
      · skip
        refine xt_blk rfl rfl (by dsimp only [List.take]) ?_
        refine xt_ic ?_
        refine xt_rz (by decide) rfl (Nat.le_refl _) ?_
        have h13 : i = 13 := by rw [nI_leI (by omega) (by omega)] at hc_18; omega
        subst h13
        intro n2 h2n e2
        simp only [List.cons.injEq, Sum.inl.injEq, and_true] at e2
        have e2n := e2
        rw [nI_eq (by omega) (by omega)] at e2n
        subst e2n
        exact ⟨rfl, rfl, Or.inl ⟨hpl, rfl⟩⟩
      · skip
        refine xt_iln2 rfl ?_
        refine xt_iln3 rfl ?_
        refine xt_shr ?_
        refine xt_ic ?_
        refine xt_and ?_
        refine xt_eq (t := 43) rfl (fun hc_26 => ?_) (fun hc_26 => ?_)
        · skip
          refine xt_blk rfl rfl (by dsimp only [List.take]) ?_
          refine xt_inc rfl (by dsimp only [x_sto]) ?_
          refine xt_goto (t := 15) rfl ?_
          refine xt_cut rfl rfl (by dsimp only [List.take]) ?_
          have hm := msT_lt n
          have hf := fo_lt (n := n) sgT_lt 13
          have hlt : i < 13 := by rw [nI_leI (by omega) (by omega)] at hc_18; omega
          have hb := bi_lt (msT n) i
          rw [n_bit (by omega) (by omega), n_eq0 (by unfold bi at hb; omega)] at hc_26
          have hq2 : ∀ j, j < i + 1 → bi (msT n) j = 1 → ¬ (sgT j &&& fo sgT n 13 = sgT j) := by
            intro j hj hq1
            rcases Nat.lt_or_ge j i with q | q
            · exact hpl j q hq1
            · have ej : i = j := by omega
              subst ej
              exfalso
              unfold bi at hq1
              omega
          exact ⟨13 - (i + 1), by omega, i + 1, by omega, hq2, rfl, rfl, rfl, rfl, rfl, rfl, by rw [nI_add], rfl⟩
        · skip
          refine xt_gs (q := 0) rfl ?_
          refine xt_iln3 rfl ?_
          refine xt_kal rfl (show vp_in _ 13 from vp_in_nI (by rw [nI_leI (by omega) (by omega)] at hc_18; omega) (by decide)) ?_
          refine xt_iln1 rfl ?_
          refine xt_icm rfl ?_
          refine xt_xor ?_
          refine xt_and ?_
          refine xt_ne (t := 43) rfl (fun hc_38 => ?_) (fun hc_38 => ?_)
          · skip
            refine xt_blk rfl rfl (by dsimp only [List.take]) ?_
            refine xt_inc rfl (by dsimp only [x_sto]) ?_
            refine xt_goto (t := 15) rfl ?_
            refine xt_cut rfl rfl (by dsimp only [List.take]) ?_
            have hm := msT_lt n
            have hf := fo_lt (n := n) sgT_lt 13
            have hlt : i < 13 := by rw [nI_leI (by omega) (by omega)] at hc_18; omega
            have hb := bi_lt (msT n) i
            rw [n_bit (by omega) (by omega), n_eq0 (by unfold bi at hb; omega)] at hc_26
            have hq2 : ∀ j, j < i + 1 → bi (msT n) j = 1 → ¬ (sgT j &&& fo sgT n 13 = sgT j) := by
              intro j hj hq1
              rcases Nat.lt_or_ge j i with q | q
              · exact hpl j q hq1
              · have ej : i = j := by omega
                subst ej
                have e4 : x_kf 0 (nI i).toNatClampNeg = nI (sgT i) := by rw [nI_clamp (by omega)]; rfl
                have hg := sgT_lt i
                have hc : ¬ nI (sgT i) &&& (nI (fo sgT n 13) ^^^ -(nI 1)) = 0 := by rw [← e4]; exact hc_38
                rw [n_sub0 (by omega) (by omega)] at hc
                exact hc
            exact ⟨13 - (i + 1), by omega, i + 1, by omega, hq2, rfl, rfl, rfl, rfl, rfl, rfl, by rw [nI_add], rfl⟩
          · skip
            refine xt_ic ?_
            refine xt_rz (by decide) rfl (Nat.le_refl _) ?_
            have hm := msT_lt n
            have hf := fo_lt (n := n) sgT_lt 13
            have hlt : i < 13 := by rw [nI_leI (by omega) (by omega)] at hc_18; omega
            have hb := bi_lt (msT n) i
            rw [n_bit (by omega) (by omega), n_eq0 (by unfold bi at hb; omega)] at hc_26
            have e4 : x_kf 0 (nI i).toNatClampNeg = nI (sgT i) := by rw [nI_clamp (by omega)]; rfl
            have hg := sgT_lt i
            have hc : nI (sgT i) &&& (nI (fo sgT n 13) ^^^ -(nI 1)) = 0 := by rw [← e4]; exact hc_38
            rw [n_sub0 (by omega) (by omega)] at hc
            intro n2 h2n e2
            simp only [List.cons.injEq, Sum.inl.injEq, and_true] at e2
            have e2n := e2
            rw [nI_eq (by omega) (by omega)] at e2n
            subst e2n
            exact ⟨rfl, rfl, Or.inr ⟨fun hp => hp i hlt (by unfold bi at hb ⊢; omega) hc, rfl⟩⟩
