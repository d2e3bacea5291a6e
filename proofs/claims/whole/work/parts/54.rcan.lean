/-! THE REFERENCE: what holds of it; canBeWithout, canSet -/
def T55 (M : x_M) : Prop := ∀ r, r < 13 → ∃ a z b y, a < 6 ∧ z < 6 ∧ b < 6 ∧ y < 6 ∧ a < z ∧ b < y ∧ rN a z b y = r ∧ M 55 (4 * r) = nI a ∧ M 55 (4 * r + 1) = nI z ∧ M 55 (4 * r + 2) = nI b ∧ M 55 (4 * r + 3) = nI y
def T56 (M : x_M) : Prop := ∀ r, r < 13 → M 56 r = nI (neT r)
def T57 (M : x_M) : Prop := ∀ r s, r < 13 → s < 13 → M 57 (13 * r + s) = nI (stp r s)
def Tb (M : x_M) : Prop := T54 M ∧ T55 M ∧ T56 M ∧ T57 M ∧ T68 M
def RI (_ : Nat) (M : x_M) : Prop := Tb M ∧ Vok (cM M)
def REnd (M M' : x_M) (rv : Option x_V) (p : Int32 × x_M) : Prop := (∀ k, k < 53 → M' k = M k) ∧ (Tb M → Tb M') ∧ rv = some (.inl p.1) ∧ cM M' = p.2
theorem Tb_keep {M M' : x_M} (h : Tb M) (e : ∀ k, k = 54 ∨ k = 55 ∨ k = 56 ∨ k = 57 ∨ k = 68 ∨ k = 69 → M' k = M k) : Tb M' := by
  unfold Tb T54 T55 T56 T57 T68 at *
  rw [e 54 (by omega), e 55 (by omega), e 56 (by omega), e 57 (by omega), e 68 (by omega), e 69 (by omega)]
  exact h
def Rk (M M' : x_M) : Prop := ∀ k, k ≠ 67 → k ≠ 70 → M' k = M k
theorem Rk_rf (M : x_M) : Rk M M := fun _ _ _ => rfl
theorem Rk_tr {M M1 M2 : x_M} (h : Rk M M1) (h2 : Rk M1 M2) : Rk M M2 := fun k a b => (h2 k a b).trans (h k a b)
theorem Rk_Tb {M M' : x_M} (h : Rk M M') (q : Tb M) : Tb M' := Tb_keep q (fun k hk => h k (by omega) (by omega))
theorem Rk_c {M M' : x_M} (h : Rk M M') : cM M' = cM M := cM_cg (fun k a b => h k (by omega) (by omega))
theorem Rk_67 (M : x_M) (f : Nat → Int32) : Rk M (x_row M 67 f) := fun k a _ => x_row_ne _ _ a
theorem RE_k {M M' : x_M} {v : Int32} {p : Int32 × x_M} (h : Rk M M') (hp : p = (v, cM M)) : REnd M M' (some (.inl v)) p := by
  subst hp
  exact ⟨fun k hk => h k (by omega) (by omega), Rk_Tb h, rfl, Rk_c h⟩
theorem RE_M {M : x_M} {v : Int32} {p : Int32 × x_M} (hp : p = (v, cM M)) : REnd M M (some (.inl v)) p := RE_k (Rk_rf M) hp
theorem cM_ref (M : x_M) (p : Nat) : cM (nRef M p) = mRef (cM M) p := by
  funext k j
  unfold mRef
  by_cases h : k = 52
  · subst h; rw [x_row_self]; show (x_row M 65 (upd (M 65) p (M 65 p + nI 1))) 65 j = _; rw [x_row_self]; rfl
  · rw [x_row_ne _ _ h]
    have e : ∀ i, i ≠ 65 → nRef M p i = M i := fun i hi => x_row_ne _ _ hi
    unfold cM
    rw [e 53 (by decide), e 58 (by decide), e 59 (by decide), e 60 (by decide), e 61 (by decide), e 62 (by decide), e 63 (by decide), e 64 (by decide), if_neg h, if_neg h]
theorem RE_R {M : x_M} {n : Nat} {p : Int32 × x_M} (hp : p = rf (cM M) n) : REnd M (nRef M n) (some (.inl (-(nI n)))) p := by
  subst hp
  exact ⟨fun k hk => x_row_ne _ _ (by omega), fun q => Tb_keep q (fun k hk => x_row_ne _ _ (by omega)), rfl, cM_ref M n⟩
def R540 (M : x_M) (s : Nat → Nat) : Prop := (∀ q, q < 15 → s q < 13) ∧ ∀ a b, a < 6 → b < 6 → a ≠ b → M 67 (540 + (a * 6 + b)) = nI (2 ^ rel s a b)
theorem Ar_0 {M : x_M} {gI : Nat → Int32} {f : Nat → Nat} (hB : Bd f) (h : ∀ j, j < 36 → gI j = nI (f j)) : Ar (x_row M 67 gI) 0 f := fun j hj => ⟨hB j hj, by rw [x_row_self, Nat.mul_zero, Nat.zero_add]; exact h j hj⟩
theorem Cn_draw {f g : Nat → Nat} (hd : ∀ a, a < 6 → f (a * 6 + a) ≠ 0) (h : Cn f g) : ∀ a, a < 6 → g (a * 6 + a) ≠ 0 := fun a ha => by rw [h.2.2.2.2.2.2 a ha]; exact hd a ha
theorem d64 {f : Nat → Nat} (h : ∀ a, a < 6 → f (a * 6 + a) = 64) : ∀ a, a < 6 → f (a * 6 + a) ≠ 0 := fun a ha => by rw [h a ha]; decide
def q_X7_canBeWithout : x_K := (3, fun as S M => ∃ (w o c : Nat), w < 2 ∧ o < 2 ^ 31 ∧ RI c M ∧ S = SH ∧ as = [.inr (.inl 53), .inl (nI w), .inl (nI o)],
  fun as S M rv_ S' M' => ∀ (w o : Nat), w < 2 → o < 2 ^ 31 → as = [.inr (.inl 53), .inl (nI w), .inl (nI o)] → S' = S ∧ Rk M M' ∧ ((rv_ = some (.inl (nI 1)) ∧ ∃ s, Fs (tN (cM M) w o) s ∧ R540 M' s) ∨ (rv_ = some (.inl (nI 0)) ∧ ¬ Sat (tN (cM M) w o))), 0, 0)
theorem r_X7_canBeWithout : ∀ as S M, q_X7_canBeWithout.2.1 as S M → ∃ (k : Nat) (as' : List x_V) (fs : List (Option Nat)), as = .inr (.inl k) :: as' ∧ S[k]? = some (.inl (5, fs)) := by
  rintro as S M ⟨w, o, c, -, -, -, rfl, rfl⟩
  exact ⟨53, _, _, rfl, rfl⟩
def b_X7_canBeWithout : x_B := [(0, 3, [(.aload_n 0, 1), (.iload_n 1, 1), (.iload_n 2, 1), (.invokevirtual 128, 3), (.aload_n 0, 1), (.iconst 0, 1), (.invokevirtual 125, 3), (.ifCond .eq 14, 3), (.aload_n 0, 1), (.invokevirtual 131, 3), (.ifCond .eq 7, 3), (.iconst 1, 1), (.goto 4, 3)]),
  (25, 3, [(.iconst 0, 1)]),
  (26, 3, [(.ireturn, 1)])]
theorem b_X7_canBeWithout_ok : x_okB cX7_canBeWithout 3 b_X7_canBeWithout = true := by decide +kernel
def X_X7_canBeWithout : x_X := ([], [], [], [], [(385, q_X7_tellAll), (376, q_X7_close), (394, q_X7_draw)], (0, 0), x_kn, x_kf, 5, false)
theorem X_X7_canBeWithout_ok : x_okT RX7 X_X7_canBeWithout = true := by decide +kernel
theorem k_X7_canBeWithout (l : Launch) : ∀ z ∈ X_X7_canBeWithout.2.2.2.2.1, x_Cal l (x_rm 4 0 0) cX7_canBeWithout RX7 3 z.1 z.2 := List.forall_mem_cons.mpr ⟨x_cal_V (idx := 128) (ci := 5) (n := 2) (c_X7_tellAll l) ⟨by decide, by decide⟩ (by decide +kernel) (by decide +kernel) (by decide +kernel) (by decide +kernel) (by decide +kernel) rfl rfl rfl (by decide +kernel) r_X7_tellAll, List.forall_mem_cons.mpr ⟨x_cal_V (idx := 125) (ci := 5) (n := 1) (c_X7_close l) ⟨by decide, by decide⟩ (by decide +kernel) (by decide +kernel) (by decide +kernel) (by decide +kernel) (by decide +kernel) rfl rfl rfl (by decide +kernel) r_X7_close, List.forall_mem_cons.mpr ⟨x_cal_V (idx := 131) (ci := 5) (n := 0) (c_X7_draw l) ⟨by decide, by decide⟩ (by decide +kernel) (by decide +kernel) (by decide +kernel) (by decide +kernel) (by decide +kernel) rfl rfl rfl (by decide +kernel) r_X7_draw, fun _ h => absurd h List.not_mem_nil⟩⟩⟩
set_option maxHeartbeats 4000000 in
set_option maxRecDepth 100000 in
theorem c_X7_canBeWithout (l : Launch) : x_CT l yX7_canBeWithout cX7_canBeWithout 3 (some .boolean) 4 q_X7_canBeWithout := by
  refine x_meth (X := X_X7_canBeWithout) (bl := b_X7_canBeWithout) (cut := []) (own := RX7) 30 (by decide) rfl X_X7_canBeWithout_ok b_X7_canBeWithout_ok rfl (Nat.le_of_ble_eq_true rfl) (k_X7_canBeWithout l) ?_
  rintro as S M - ⟨w, o, c, hw, ho, hRI, rfl, rfl⟩
  refine ⟨fun _ _ _ _ _ _ _ _ => False, ?_, ?_⟩
  · skip
    refine xt_blk rfl rfl (by dsimp only [List.take]) ?_
    refine xt_aln0 rfl (by first | decide | omega | assumption) ?_
    refine xt_iln1 rfl ?_
    refine xt_iln2 rfl ?_
    refine xt_v3 (key := 385) (q := q_X7_tellAll) rfl rfl rfl rfl rfl ⟨Nat.le_of_ble_eq_true rfl, Nat.le_of_ble_eq_true rfl⟩ ⟨w, o, hw, ho, hRI.2.1, hRI.2.2.1, rfl, rfl⟩ (fun rv_ S1 M_3 hq_3 => ?_)
    obtain ⟨eS_, ⟨gI, eM_, hg⟩, rfl⟩ := hq_3 w o hw ho rfl
    replace eS_ := eS_.symm
    replace eM_ := eM_.symm
    subst eS_ eM_
    try dsimp only [Option.toList, List.cons_append, List.nil_append]
    refine xt_aln0 rfl (by first | decide | omega | assumption) ?_
    refine xt_ic ?_
    refine xt_v2 (key := 376) (q := q_X7_close) rfl rfl rfl rfl rfl ⟨Nat.le_of_ble_eq_true rfl, Nat.le_of_ble_eq_true rfl⟩ ⟨0, tN (cM M) w o, by decide, hRI.1.1, (Ar_0 (tN_ok hRI.2.1 hw o).1 hg), (tN_ok hRI.2.1 hw o).2.1, (d64 (tN_ok hRI.2.1 hw o).2.2), rfl, rfl⟩ (fun rv_ S1 M_8 hq_8 => ?_)
    obtain ⟨eS_, gJ, eM_, -, hcc⟩ := hq_8 0 (tN (cM M) w o) (by decide) (Ar_0 (tN_ok hRI.2.1 hw o).1 hg) rfl
    replace eS_ := eS_.symm
    replace eM_ := eM_.symm
    subst eS_ eM_
    rw [x_row_row]
    simp only [Nat.mul_zero, Nat.zero_add] at hcc
    have hex : ∃ v, rv_ = some (.inl v) := by rcases hcc with ⟨e, -⟩ | ⟨e, -⟩ <;> exact ⟨_, e⟩
    obtain ⟨v, rfl⟩ := hex
    try dsimp only [Option.toList, List.cons_append, List.nil_append]
    refine xt_eq (t := 25) rfl (fun hc_11 => ?_) (fun hc_11 => ?_)
    · skip
      refine xt_blk rfl rfl (by dsimp only [List.take]) ?_
      refine xt_ic ?_
      refine xt_nil (t := 26) rfl ?_
      refine xt_blk rfl rfl (by dsimp only [List.take]) ?_
      refine xt_rz (by decide) rfl (Nat.le_refl _) ?_
      intro w2 o2 hw2 ho2 e2
      simp only [List.cons.injEq, Sum.inl.injEq, and_true, true_and] at e2
      obtain ⟨ew, eo⟩ := e2
      rw [nI_eq (by omega) (by omega)] at ew eo
      subst ew eo
      rcases hcc with ⟨e, -⟩ | ⟨-, -, z⟩
      · cases e; exact absurd hc_11 (by decide)
      · exact ⟨rfl, Rk_67 M gJ, Or.inr ⟨rfl, Sat_fail z⟩⟩
    · skip
      have hex2 : ∃ g, (∀ j, j < 36 → gJ j = nI (g j)) ∧ Cn (tN (cM M) w o) g := by
        rcases hcc with ⟨-, z⟩ | ⟨e, -⟩
        · exact z
        · cases e; exact absurd rfl hc_11
      obtain ⟨g, hgJ, hcn⟩ := hex2
      refine xt_aln0 rfl (by first | decide | omega | assumption) ?_
      refine xt_v1 (key := 394) (q := q_X7_draw) rfl rfl rfl rfl rfl ⟨Nat.le_of_ble_eq_true rfl, Nat.le_of_ble_eq_true rfl⟩ ⟨g, hRI.1.1, hRI.1.2.2.2.2, Ar_0 hcn.1 hgJ, hcn.2.1, hcn.2.2.1, hcn.2.2.2.1, Cn_draw (d64 (tN_ok hRI.2.1 hw o).2.2) hcn, rfl, rfl⟩ (fun rv_ S1 M_15 hq_15 => ?_)
      obtain ⟨eS_, hfr, hdd⟩ := hq_15 g (Ar_0 hcn.1 hgJ) rfl
      replace eS_ := eS_.symm
      subst eS_
      have hRk : Rk M M_15 := Rk_tr (Rk_67 M gJ) hfr
      have hex : ∃ v, rv_ = some (.inl v) := by rcases hdd with ⟨e, -⟩ | ⟨e, -⟩ <;> exact ⟨_, e⟩
      obtain ⟨v2, rfl⟩ := hex
      try dsimp only [Option.toList, List.cons_append, List.nil_append]
      refine xt_eq (t := 25) rfl (fun hc_18 => ?_) (fun hc_18 => ?_)
      · skip
        refine xt_blk rfl rfl (by dsimp only [List.take]) ?_
        refine xt_ic ?_
        refine xt_nil (t := 26) rfl ?_
        refine xt_blk rfl rfl (by dsimp only [List.take]) ?_
        refine xt_rz (by decide) rfl (Nat.le_refl _) ?_
        intro w2 o2 hw2 ho2 e2
        simp only [List.cons.injEq, Sum.inl.injEq, and_true, true_and] at e2
        obtain ⟨ew, eo⟩ := e2
        rw [nI_eq (by omega) (by omega)] at ew eo
        subst ew eo
        rcases hdd with ⟨e, -⟩ | ⟨-, z⟩
        · cases e; exact absurd hc_18 (by decide)
        · exact ⟨rfl, hRk, Or.inr ⟨rfl, fun q => z ((Cn_sat hcn).mp q)⟩⟩
      · skip
        refine xt_ic ?_
        refine xt_goto (t := 26) rfl ?_
        refine xt_blk rfl rfl (by dsimp only [List.take]) ?_
        refine xt_rz (by decide) rfl (Nat.le_refl _) ?_
        intro w2 o2 hw2 ho2 e2
        simp only [List.cons.injEq, Sum.inl.injEq, and_true, true_and] at e2
        obtain ⟨ew, eo⟩ := e2
        rw [nI_eq (by omega) (by omega)] at ew eo
        subst ew eo
        rcases hdd with ⟨-, s, z1, z2, z3⟩ | ⟨e, -⟩
        · exact ⟨rfl, hRk, Or.inl ⟨rfl, s, Fs_mx hcn.2.2.2.2 z1, z2, z3⟩⟩
        · cases e; exact absurd rfl hc_18
  · intro μ pc ls st S2 M2 cs sl h; exact h.elim
theorem and_pow {x r : Nat} (h : x.testBit r = true) : x &&& 2 ^ r = 2 ^ r := by
  apply Nat.eq_of_testBit_eq
  intro i
  rw [Nat.testBit_and, Nat.testBit_two_pow]
  by_cases e : r = i
  · subst e; simp [h]
  · simp [e]
theorem upd_nw2 {f : Nat → Nat} {gI : Nat → Int32} (hS : Sy f) {a b r : Nat} (ha : a < 6) (hb : b < 6) (hab : a ≠ b) (hr : r < 13) (hbit : (f (a * 6 + b)).testBit r = true) (hg : ∀ j, j < 36 → gI j = nI (f j)) :
    ∀ j, j < 36 → upd (upd gI (a * 6 + b) (gI (a * 6 + b) &&& nI (2 ^ r))) (b * 6 + a) (upd gI (a * 6 + b) (gI (a * 6 + b) &&& nI (2 ^ r)) (b * 6 + a) &&& nI (2 ^ (12 - r))) j = nI (nw f a b (2 ^ r) j) := by
  intro j hj
  have hne : b * 6 + a ≠ a * 6 + b := by omega
  unfold upd nw
  by_cases e : j = b * 6 + a
  · rw [if_pos e, if_pos e, if_neg hne, hg _ (by omega), n_and, tn_pow r hr, hS a b ha hb hab, and_pow]
    rw [tn_tb _ (by omega), show 12 - (12 - r) = r by omega]; exact hbit
  · rw [if_neg e, if_neg e]
    by_cases e2 : j = a * 6 + b
    · rw [if_pos e2, if_pos e2, hg _ (by omega), n_and, and_pow hbit]
    · rw [if_neg e2, if_neg e2]; exact hg j hj
def q_X7_canSet : x_K := (4, fun as S M => ∃ (w a b c : Nat), w < 2 ∧ a < 6 ∧ b < 6 ∧ a ≠ b ∧ RI c M ∧ S = SH ∧ as = [.inr (.inl 53), .inl (nI w), .inl (nI a), .inl (nI b)],
  fun as S M rv_ S' M' => ∀ (w a b : Nat), w < 2 → a < 6 → b < 6 → as = [.inr (.inl 53), .inl (nI w), .inl (nI a), .inl (nI b)] → S' = S ∧ Rk M M' ∧ ∃ v, CanV (tF (cM M) w) a b v ∧ rv_ = some (.inl (nI v)), 0, 0)
theorem r_X7_canSet : ∀ as S M, q_X7_canSet.2.1 as S M → ∃ (k : Nat) (as' : List x_V) (fs : List (Option Nat)), as = .inr (.inl k) :: as' ∧ S[k]? = some (.inl (5, fs)) := by
  rintro as S M ⟨w, a, b, c, -, -, -, -, -, rfl, rfl⟩
  exact ⟨53, _, _, rfl, rfl⟩
def b_X7_canSet : x_B := [(0, 4, [(.iconst 0, 1), (.istore 4, 2), (.aload_n 0, 1), (.iload_n 1, 1), (.iconst 0, 1), (.invokevirtual 128, 3), (.aload_n 0, 1), (.iconst 0, 1), (.invokevirtual 125, 3), (.istore 5, 2), (.aload_n 0, 1), (.getfield 50, 3), (.bipush 6, 2), (.iload_n 2, 1), (.imul, 1), (.iload_n 3, 1), (.iadd, 1), (.iaload, 1), (.istore 6, 2), (.iconst 0, 1), (.istore 7, 2)]),
  (32, 8, [(.iload 7, 2), (.bipush 13, 2), (.if_icmp .ge 98, 3), (.iload 5, 2), (.ifCond .eq 93, 3), (.iload 6, 2), (.iload 7, 2), (.ishr, 1), (.iconst 1, 1), (.iand, 1), (.iconst 1, 1), (.if_icmp .ne 76, 3), (.aload_n 0, 1), (.iload_n 1, 1), (.iconst 0, 1), (.invokevirtual 128, 3), (.aload_n 0, 1), (.getfield 50, 3), (.bipush 6, 2), (.iload_n 2, 1), (.imul, 1), (.iload_n 3, 1), (.iadd, 1), (.dup2, 1), (.iaload, 1), (.iconst 1, 1), (.iload 7, 2), (.ishl, 1), (.iand, 1), (.iastore, 1), (.aload_n 0, 1), (.getfield 50, 3), (.bipush 6, 2), (.iload_n 3, 1), (.imul, 1), (.iload_n 2, 1), (.iadd, 1), (.dup2, 1), (.iaload, 1), (.iconst 1, 1), (.bipush 12, 2), (.iload 7, 2), (.isub, 1), (.ishl, 1), (.iand, 1), (.iastore, 1), (.iload 4, 2), (.aload_n 0, 1), (.iconst 0, 1), (.invokevirtual 125, 3), (.ifCond .eq 17, 3), (.aload_n 0, 1), (.invokevirtual 131, 3), (.ifCond .eq 10, 3), (.iconst 1, 1), (.iload 7, 2), (.ishl, 1), (.goto 4, 3)]),
  (124, 8, [(.iconst 0, 1)]),
  (125, 8, [(.ior, 1), (.istore 4, 2)]),
  (128, 8, [(.iinc 7 1, 3), (.goto (-99), 3)]),
  (134, 8, [(.iload 4, 2), (.ireturn, 1)])]
theorem b_X7_canSet_ok : x_okB cX7_canSet 8 b_X7_canSet = true := by decide +kernel
def X_X7_canSet : x_X := ([(50, 5, 14)], [], [], [], [(385, q_X7_tellAll), (376, q_X7_close), (394, q_X7_draw)], (0, 0), x_kn, x_kf, 5, false)
theorem X_X7_canSet_ok : x_okT RX7 X_X7_canSet = true := by decide +kernel
theorem k_X7_canSet (l : Launch) : ∀ z ∈ X_X7_canSet.2.2.2.2.1, x_Cal l (x_rm 4 0 0) cX7_canSet RX7 8 z.1 z.2 := List.forall_mem_cons.mpr ⟨x_cal_V (idx := 128) (ci := 5) (n := 2) (c_X7_tellAll l) ⟨by decide, by decide⟩ (by decide +kernel) (by decide +kernel) (by decide +kernel) (by decide +kernel) (by decide +kernel) rfl rfl rfl (by decide +kernel) r_X7_tellAll, List.forall_mem_cons.mpr ⟨x_cal_V (idx := 125) (ci := 5) (n := 1) (c_X7_close l) ⟨by decide, by decide⟩ (by decide +kernel) (by decide +kernel) (by decide +kernel) (by decide +kernel) (by decide +kernel) rfl rfl rfl (by decide +kernel) r_X7_close, List.forall_mem_cons.mpr ⟨x_cal_V (idx := 131) (ci := 5) (n := 0) (c_X7_draw l) ⟨by decide, by decide⟩ (by decide +kernel) (by decide +kernel) (by decide +kernel) (by decide +kernel) (by decide +kernel) rfl rfl rfl (by decide +kernel) r_X7_draw, fun _ h => absurd h List.not_mem_nil⟩⟩⟩
set_option maxHeartbeats 4000000 in
set_option maxRecDepth 100000 in
theorem c_X7_canSet (l : Launch) : x_CT l yX7_canSet cX7_canSet 8 (some .int) 4 q_X7_canSet := by
  refine x_meth (X := X_X7_canSet) (bl := b_X7_canSet) (cut := [32]) (own := RX7) 30 (by decide) rfl X_X7_canSet_ok b_X7_canSet_ok rfl (Nat.le_of_ble_eq_true rfl) (k_X7_canSet l) ?_
  rintro as S M - ⟨w, a, b, c, hw, ha, hb, hab, hRI, rfl, rfl⟩
  have hfo := tF_ok hRI.2.1 hw
  refine ⟨fun μ pc ls st S' M' cs sl => ∃ (r fd is set : Nat), r ≤ 13 ∧ fd < 8192 ∧ is < 2 ∧ set < 8192 ∧ Rk M M' ∧ (is = 1 → ∃ g, set = g (a * 6 + b) ∧ Cn (tF (cM M) w) g) ∧ (is = 0 → Fail (tF (cM M) w)) ∧ (∀ t, t < 13 → (fd.testBit t = true ↔ t < r ∧ Rl (tF (cM M) w) a b t)) ∧ pc = 32 ∧ st = [] ∧ S' = SH ∧ cs = 0 ∧ sl = 0 ∧ ls = [.inr (.inl 53), .inl (nI w), .inl (nI a), .inl (nI b), .inl (nI fd), .inl (nI is), .inl (nI set), .inl (nI r)] ∧ μ = 13 - r, ?_, ?_⟩
  · skip
    refine xt_blk rfl rfl (by dsimp only [List.take]) ?_
    refine xt_ic ?_
    refine xt_ist rfl (by dsimp only [x_sto]) ?_
    refine xt_aln0 rfl (by first | decide | omega | assumption) ?_
    refine xt_iln1 rfl ?_
    refine xt_ic ?_
    refine xt_v3 (key := 385) (q := q_X7_tellAll) rfl rfl rfl rfl rfl ⟨Nat.le_of_ble_eq_true rfl, Nat.le_of_ble_eq_true rfl⟩ ⟨w, 0, hw, by decide, hRI.2.1, hRI.2.2.1, rfl, rfl⟩ (fun rv_ S1 M_6 hq_6 => ?_)
    obtain ⟨eS_, ⟨gI, eM_, hg⟩, rfl⟩ := hq_6 w 0 hw (by decide) rfl
    replace eS_ := eS_.symm
    replace eM_ := eM_.symm
    subst eS_ eM_
    rw [tN_0 hRI.2.1 w] at hg
    try dsimp only [Option.toList, List.cons_append, List.nil_append]
    refine xt_aln0 rfl (by first | decide | omega | assumption) ?_
    refine xt_ic ?_
    refine xt_v2 (key := 376) (q := q_X7_close) rfl rfl rfl rfl rfl ⟨Nat.le_of_ble_eq_true rfl, Nat.le_of_ble_eq_true rfl⟩ ⟨0, tF (cM M) w, by decide, hRI.1.1, (Ar_0 hfo.1 hg), hfo.2.1, (d64 hfo.2.2), rfl, rfl⟩ (fun rv_ S1 M_11 hq_11 => ?_)
    obtain ⟨eS_, gJ, eM_, -, hcc⟩ := hq_11 0 (tF (cM M) w) (by decide) (Ar_0 hfo.1 hg) rfl
    replace eS_ := eS_.symm
    replace eM_ := eM_.symm
    subst eS_ eM_
    rw [x_row_row]
    simp only [Nat.mul_zero, Nat.zero_add] at hcc
    have hex : ∃ v, rv_ = some (.inl v) := by rcases hcc with ⟨e, -⟩ | ⟨e, -⟩ <;> exact ⟨_, e⟩
    obtain ⟨v, rfl⟩ := hex
    try dsimp only [Option.toList, List.cons_append, List.nil_append]
    refine xt_ist rfl (by dsimp only [x_sto]) ?_
    refine xt_aln0 rfl (by first | decide | omega | assumption) ?_
    refine xt_gfr (q := (5, 14)) rfl (by first | rfl | assumption) rfl ?_
    refine xt_bi ?_
    refine xt_iln2 rfl ?_
    refine xt_mul ?_
    refine xt_iln3 rfl ?_
    refine xt_add ?_
    refine xt_ial (by first | rfl | assumption) (v_6 ha hb) ?_
    refine xt_ist rfl (by dsimp only [x_sto]) ?_
    refine xt_ic ?_
    refine xt_ist rfl (by dsimp only [x_sto]) ?_
    refine xt_nil (t := 32) rfl ?_
    refine xt_cut rfl rfl (by dsimp only [List.take]) ?_
    rw [x_row_self, n_6 ha hb]
    rcases hcc with ⟨e, g, z1, z2⟩ | ⟨e, z1, z2⟩
    · cases e
      refine ⟨_, 0, 0, 1, g (a * 6 + b), by omega, by omega, by omega, z2.1 _ (by omega), Rk_67 M gJ, fun _ => ⟨g, rfl, z2⟩, fun h => by omega, fun t ht => by simp, rfl, rfl, rfl, rfl, rfl, by rw [z1 _ (by omega)], rfl⟩
    · cases e
      refine ⟨_, 0, 0, 0, 0, by omega, by omega, by omega, by omega, Rk_67 M gJ, fun h => by omega, fun _ => z2, fun t ht => by simp, rfl, rfl, rfl, rfl, rfl, by rw [z1 _ (by omega)], rfl⟩
  · rintro μ pc ls st S2 M2 cs sl (⟨r, fd, is, set, hr, hfd, his, hset, hRk, hy1, hy0, hfb, rfl, rfl, rfl, rfl, rfl, rfl, rfl⟩)
    · refine ⟨_, rfl, ?_⟩
      refine xt_ild rfl ?_
      refine xt_bi ?_
      refine xt_cge (t := 134) rfl (fun hc_36 => ?_) (fun hc_36 => ?_)
      · skip
        refine xt_blk rfl rfl (by dsimp only [List.take]) ?_
        refine xt_ild rfl ?_
        refine xt_ri rfl (Nat.le_refl _) ?_
        intro w2 a2 b2 hw2 ha2 hb2 e2
        simp only [List.cons.injEq, Sum.inl.injEq, and_true, true_and] at e2
        obtain ⟨ew, ea, eb⟩ := e2
        rw [nI_eq (by omega) (by omega)] at ew ea eb
        subst ew ea eb
        have hr13 : r = 13 := by rw [nI_leI (by omega) (by omega)] at hc_36; omega
        subst hr13
        exact ⟨rfl, hRk, fd, ⟨hfd, fun t ht => by rw [hfb t ht]; exact ⟨fun h => h.2, fun h => ⟨ht, h⟩⟩⟩, rfl⟩
      · skip
        refine xt_ild rfl ?_
        refine xt_eq (t := 134) rfl (fun hc_41 => ?_) (fun hc_41 => ?_)
        · skip
          refine xt_blk rfl rfl (by dsimp only [List.take]) ?_
          refine xt_ild rfl ?_
          refine xt_ri rfl (Nat.le_refl _) ?_
          intro w2 a2 b2 hw2 ha2 hb2 e2
          simp only [List.cons.injEq, Sum.inl.injEq, and_true, true_and] at e2
          obtain ⟨ew, ea, eb⟩ := e2
          rw [nI_eq (by omega) (by omega)] at ew ea eb
          subst ew ea eb
          have his0 : is = 0 := by rw [n_eq0 (by omega)] at hc_41; exact hc_41
          have hns := Sat_fail (hy0 his0)
          refine ⟨rfl, hRk, fd, ⟨hfd, fun t ht => ⟨fun h => ((hfb t ht).mp h).2, fun h => absurd (Rl_sat h) hns⟩⟩, rfl⟩
        · skip
          have hr13 : r < 13 := by rw [nI_leI (by omega) (by omega)] at hc_36; omega
          have his1 : is = 1 := by rw [n_eq0 (by omega)] at hc_41; omega
          obtain ⟨g, hse, hcn⟩ := hy1 his1
          have hgl := hcn.1 (a * 6 + b) (by omega)
          rw [← hse] at hgl
          have hbl := bi_lt set r
          have hbn : nI set >>> (nI r &&& 31) &&& nI 1 = nI (bi set r) := n_bit (by omega) (by omega)
          refine xt_ild rfl ?_
          refine xt_ild rfl ?_
          refine xt_shr ?_
          refine xt_ic ?_
          refine xt_and ?_
          refine xt_ic ?_
          refine xt_cne (t := 128) rfl (fun hc_52 => ?_) (fun hc_52 => ?_)
          · skip
            refine xt_blk rfl rfl (by dsimp only [List.take]) ?_
            refine xt_inc rfl (by dsimp only [x_sto]) ?_
            refine xt_goto (t := 32) rfl ?_
            refine xt_cut rfl rfl (by dsimp only [List.take]) ?_
            rw [hbn, nI_eq (by omega) (by omega)] at hc_52
            have hno : ¬ Rl (tF (cM M) w) a b r := fun q => by
              have := Rl_bit ha hb hab ((Rl_mx hcn.2.2.2.2 a b r).mp q)
              rw [← hse, ← bi_tb] at this
              exact hc_52 this
            refine ⟨13 - (r + 1), by omega, r + 1, fd, is, set, by omega, hfd, by omega, hset, hRk, hy1, hy0, ?_, rfl, rfl, rfl, rfl, rfl, by rw [nI_add], rfl⟩
            intro t ht
            rw [hfb t ht]
            refine ⟨fun h => ⟨by omega, h.2⟩, fun h => ⟨?_, h.2⟩⟩
            by_cases e : t = r
            · subst e; exact absurd h.2 hno
            · omega
          · skip
            rw [hbn, nI_eq (by omega) (by omega)] at hc_52
            have hbit : (g (a * 6 + b)).testBit r = true := by rw [← hse, ← bi_tb]; exact hc_52
            have hfbit : (tF (cM M) w (a * 6 + b)).testBit r = true := sb_tb.mp (hcn.2.2.2.2.1 a b ha hb hab) r hbit
            have hpw : 2 ^ r < 8192 := Nat.pow_lt_pow_right (by decide) hr13
            have hpw2 : 2 ^ (12 - r) < 8192 := Nat.pow_lt_pow_right (by decide) (show 12 - r < 13 by omega)
            have es1 : nI 1 <<< (nI r &&& 31) = nI (2 ^ r) := by rw [n_shl (by omega) (by omega), Nat.one_mul]
            have es2 : nI 1 <<< ((nI 12 - nI r) &&& 31) = nI (2 ^ (12 - r)) := by rw [pk_sub (by omega), n_shl (by omega) (by omega), Nat.one_mul]
            refine xt_aln0 rfl (by first | decide | omega | assumption) ?_
            refine xt_iln1 rfl ?_
            refine xt_ic ?_
            refine xt_v3 (key := 385) (q := q_X7_tellAll) rfl rfl rfl rfl rfl ⟨Nat.le_of_ble_eq_true rfl, Nat.le_of_ble_eq_true rfl⟩ ⟨w, 0, hw, by decide, by rw [Rk_c hRk]; exact hRI.2.1, by rw [hRk 61 (by decide) (by decide)]; exact hRI.2.2.1, rfl, rfl⟩ (fun rv_ S1 M_58 hq_58 => ?_)
            obtain ⟨eS_, ⟨gI2, eM_, hg2⟩, rfl⟩ := hq_58 w 0 hw (by decide) rfl
            replace eS_ := eS_.symm
            replace eM_ := eM_.symm
            subst eS_ eM_
            rw [Rk_c hRk, tN_0 hRI.2.1 w] at hg2
            try dsimp only [Option.toList, List.cons_append, List.nil_append]
            refine xt_aln0 rfl (by first | decide | omega | assumption) ?_
            refine xt_gfr (q := (5, 14)) rfl (by first | rfl | assumption) rfl ?_
            refine xt_bi ?_
            refine xt_iln2 rfl ?_
            refine xt_mul ?_
            refine xt_iln3 rfl ?_
            refine xt_add ?_
            refine xt_dup2 ?_
            refine xt_ial (by first | rfl | assumption) (v_6 ha hb) ?_
            refine xt_ic ?_
            refine xt_ild rfl ?_
            refine xt_shl ?_
            refine xt_and ?_
            refine xt_ias (by first | rfl | assumption) (v_6 ha hb) ?_
            refine xt_aln0 rfl (by first | decide | omega | assumption) ?_
            refine xt_gfr (q := (5, 14)) rfl (by first | rfl | assumption) rfl ?_
            refine xt_bi ?_
            refine xt_iln3 rfl ?_
            refine xt_mul ?_
            refine xt_iln2 rfl ?_
            refine xt_add ?_
            refine xt_dup2 ?_
            refine xt_ial (by first | rfl | assumption) (v_6 hb ha) ?_
            refine xt_ic ?_
            refine xt_bi ?_
            refine xt_ild rfl ?_
            refine xt_sub ?_
            refine xt_shl ?_
            refine xt_and ?_
            refine xt_ias (by first | rfl | assumption) (v_6 hb ha) ?_
            rw [x_row_self M2 67 gI2, x_row_self (x_row M2 67 gI2) 67, x_row_row, x_row_row, n_6 ha hb, n_6 hb ha, es1, es2]
            refine id ?_
            refine xt_ild rfl ?_
            refine xt_aln0 rfl (by first | decide | omega | assumption) ?_
            refine xt_ic ?_
            refine xt_v2 (key := 376) (q := q_X7_close) rfl rfl rfl rfl rfl ⟨Nat.le_of_ble_eq_true rfl, Nat.le_of_ble_eq_true rfl⟩ ⟨0, nw (tF (cM M) w) a b (2 ^ r), by decide, (Rk_Tb hRk hRI.1).1, (Ar_0 (M := M2) (nw_Bd hfo.1 hpw) (upd_nw2 hfo.2.1 ha hb hab hr13 hfbit hg2)), nw_Sy hfo.2.1 ha hb hab hpw, (fun x hx => by rw [nw_Dg ha hb hab x hx]; exact d64 hfo.2.2 x hx), rfl, rfl⟩ (fun rv_ S1 M_104 hq_104 => ?_)
            obtain ⟨eS_, gJ2, eM_, -, hcc2⟩ := hq_104 0 (nw (tF (cM M) w) a b (2 ^ r)) (by decide) (Ar_0 (M := M2) (nw_Bd hfo.1 hpw) (upd_nw2 hfo.2.1 ha hb hab hr13 hfbit hg2)) rfl
            replace eS_ := eS_.symm
            replace eM_ := eM_.symm
            subst eS_ eM_
            rw [x_row_row]
            simp only [Nat.mul_zero, Nat.zero_add] at hcc2
            have hex : ∃ v, rv_ = some (.inl v) := by rcases hcc2 with ⟨e, -⟩ | ⟨e, -⟩ <;> exact ⟨_, e⟩
            obtain ⟨v2, rfl⟩ := hex
            try dsimp only [Option.toList, List.cons_append, List.nil_append]
            refine xt_eq (t := 124) rfl (fun hc_107 => ?_) (fun hc_107 => ?_)
            · skip
              refine xt_blk rfl rfl (by dsimp only [List.take]) ?_
              refine xt_ic ?_
              refine xt_nil (t := 125) rfl ?_
              refine xt_blk rfl rfl (by dsimp only [List.take]) ?_
              refine xt_or ?_
              refine xt_ist rfl (by dsimp only [x_sto]) ?_
              refine xt_nil (t := 128) rfl ?_
              refine xt_blk rfl rfl (by dsimp only [List.take]) ?_
              refine xt_inc rfl (by dsimp only [x_sto]) ?_
              refine xt_goto (t := 32) rfl ?_
              refine xt_cut rfl rfl (by dsimp only [List.take]) ?_
              have hno : ¬ Rl (tF (cM M) w) a b r := by
                rcases hcc2 with ⟨e, -⟩ | ⟨-, -, z⟩
                · cases e; exact absurd hc_107 (by decide)
                · exact fun y => Sat_fail z ((Rl_fix hfo.2.1 ha hb hab hr13 hfbit).mpr y)
              refine ⟨13 - (r + 1), by omega, r + 1, fd, is, set, by omega, hfd, by omega, hset, Rk_tr hRk (Rk_67 M2 gJ2), hy1, hy0, ?_, rfl, rfl, rfl, rfl, rfl, by rw [n_or, Nat.or_zero, nI_add], rfl⟩
              intro t ht
              rw [hfb t ht]
              refine ⟨fun h => ⟨by omega, h.2⟩, fun h => ⟨?_, h.2⟩⟩
              by_cases e : t = r
              · subst e; exact absurd h.2 hno
              · omega
            · skip
              have hex2 : ∃ g2, (∀ j, j < 36 → gJ2 j = nI (g2 j)) ∧ Cn (nw (tF (cM M) w) a b (2 ^ r)) g2 := by
                rcases hcc2 with ⟨-, z⟩ | ⟨e, -⟩
                · exact z
                · cases e; exact absurd rfl hc_107
              obtain ⟨g2, hgJ2, hcn2⟩ := hex2
              refine xt_aln0 rfl (by first | decide | omega | assumption) ?_
              refine xt_v1 (key := 394) (q := q_X7_draw) rfl rfl rfl rfl rfl ⟨Nat.le_of_ble_eq_true rfl, Nat.le_of_ble_eq_true rfl⟩ ⟨g2, (Rk_Tb hRk hRI.1).1, (Rk_Tb hRk hRI.1).2.2.2.2, Ar_0 hcn2.1 hgJ2, hcn2.2.1, hcn2.2.2.1, hcn2.2.2.2.1, Cn_draw (fun x hx => by rw [nw_Dg ha hb hab x hx]; exact d64 hfo.2.2 x hx) hcn2, rfl, rfl⟩ (fun rv_ S1 M_111 hq_111 => ?_)
              obtain ⟨eS_, hfr, hdd⟩ := hq_111 g2 (Ar_0 hcn2.1 hgJ2) rfl
              replace eS_ := eS_.symm
              subst eS_
              have hRk2 : Rk M M_111 := Rk_tr hRk (Rk_tr (Rk_67 M2 gJ2) hfr)
              have hex : ∃ v, rv_ = some (.inl v) := by rcases hdd with ⟨e, -⟩ | ⟨e, -⟩ <;> exact ⟨_, e⟩
              obtain ⟨v3, rfl⟩ := hex
              try dsimp only [Option.toList, List.cons_append, List.nil_append]
              refine xt_eq (t := 124) rfl (fun hc_114 => ?_) (fun hc_114 => ?_)
              · skip
                refine xt_blk rfl rfl (by dsimp only [List.take]) ?_
                refine xt_ic ?_
                refine xt_nil (t := 125) rfl ?_
                refine xt_blk rfl rfl (by dsimp only [List.take]) ?_
                refine xt_or ?_
                refine xt_ist rfl (by dsimp only [x_sto]) ?_
                refine xt_nil (t := 128) rfl ?_
                refine xt_blk rfl rfl (by dsimp only [List.take]) ?_
                refine xt_inc rfl (by dsimp only [x_sto]) ?_
                refine xt_goto (t := 32) rfl ?_
                refine xt_cut rfl rfl (by dsimp only [List.take]) ?_
                have hno : ¬ Rl (tF (cM M) w) a b r := by
                  rcases hdd with ⟨e, -⟩ | ⟨-, z⟩
                  · cases e; exact absurd hc_114 (by decide)
                  · exact fun y => z ((Cn_sat hcn2).mp ((Rl_fix hfo.2.1 ha hb hab hr13 hfbit).mpr y))
                refine ⟨13 - (r + 1), by omega, r + 1, fd, is, set, by omega, hfd, by omega, hset, hRk2, hy1, hy0, ?_, rfl, rfl, rfl, rfl, rfl, by rw [n_or, Nat.or_zero, nI_add], rfl⟩
                intro t ht
                rw [hfb t ht]
                refine ⟨fun h => ⟨by omega, h.2⟩, fun h => ⟨?_, h.2⟩⟩
                by_cases e : t = r
                · subst e; exact absurd h.2 hno
                · omega
              · skip
                refine xt_ic ?_
                refine xt_ild rfl ?_
                refine xt_shl ?_
                refine xt_goto (t := 125) rfl ?_
                refine xt_blk rfl rfl (by dsimp only [List.take]) ?_
                refine xt_or ?_
                refine xt_ist rfl (by dsimp only [x_sto]) ?_
                refine xt_nil (t := 128) rfl ?_
                refine xt_blk rfl rfl (by dsimp only [List.take]) ?_
                refine xt_inc rfl (by dsimp only [x_sto]) ?_
                refine xt_goto (t := 32) rfl ?_
                refine xt_cut rfl rfl (by dsimp only [List.take]) ?_
                have hyes : Rl (tF (cM M) w) a b r := by
                  rcases hdd with ⟨-, s, z1, -⟩ | ⟨e, -⟩
                  · obtain ⟨⟨P, p1, p2, -⟩, -⟩ := z1
                    exact (Rl_fix hfo.2.1 ha hb hab hr13 hfbit).mp ((Cn_sat hcn2).mpr ⟨P, p1, p2⟩)
                  · cases e; exact absurd rfl hc_114
                refine ⟨13 - (r + 1), by omega, r + 1, fd ||| 2 ^ r, is, set, by omega, n_lt_or (k := 13) hfd hpw, by omega, hset, hRk2, hy1, hy0, ?_, rfl, rfl, rfl, rfl, rfl, by rw [es1, n_or, nI_add], rfl⟩
                intro t ht
                rw [Nat.testBit_or, Nat.testBit_two_pow, Bool.or_eq_true, hfb t ht, decide_eq_true_iff]
                refine ⟨fun h => ?_, fun h => ?_⟩
                · rcases h with h | h
                  · exact ⟨by omega, h.2⟩
                  · subst h; exact ⟨by omega, hyes⟩
                · by_cases e : t = r
                  · exact Or.inr e.symm
                  · exact Or.inl ⟨by omega, h.2⟩
