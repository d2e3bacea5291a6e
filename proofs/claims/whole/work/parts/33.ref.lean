/-! THE REFERENCE: turn, bitOf, compose -/
theorem fo_tn {n : Nat} (hn : n < 8192) : fo (fun r => 2 ^ (12 - r)) n 13 = tn n := by
  refine tb_ext (fo_lt (k := 13) (fun j => Nat.pow_lt_pow_right (by decide) (by omega)) 13) (tn_lt n) (fun j hj => ?_)
  rw [fo_tb, tn_tb _ hj]
  constructor
  · rintro ⟨i, hi, h1, h2⟩
    rw [Nat.testBit_two_pow] at h2
    have h2 : 12 - i = j := by simpa using h2
    rw [show 12 - j = i by omega]; exact h1
  · intro h
    exact ⟨12 - j, by omega, h, by rw [show 12 - (12 - j) = j by omega]; exact Nat.testBit_two_pow_self⟩
def q_X7_turn : x_K := (1, fun as S M => ∃ (n : Nat), n < 8192 ∧ as = [.inl (nI n)], fun as S M rv_ S' M' => ∀ (n : Nat), n < 8192 → as = [.inl (nI n)] → S' = S ∧ M' = M ∧ rv_ = some (.inl (nI (tn n))), 0, 0)
def b_X7_turn : x_B := [(0, 1, [(.iconst 0, 1), (.istore_n 1, 1), (.iconst 0, 1), (.istore_n 2, 1)]),
  (4, 3, [(.iload_n 2, 1), (.bipush 13, 2), (.if_icmp .ge 31, 3), (.iload_n 1, 1), (.iload_n 0, 1), (.iload_n 2, 1), (.ishr, 1), (.iconst 1, 1), (.iand, 1), (.iconst 1, 1), (.if_icmp .ne 12, 3), (.iconst 1, 1), (.bipush 12, 2), (.iload_n 2, 1), (.isub, 1), (.ishl, 1), (.goto 4, 3)]),
  (29, 3, [(.iconst 0, 1)]),
  (30, 3, [(.ior, 1), (.istore_n 1, 1), (.iinc 2 1, 3), (.goto (-31), 3)]),
  (38, 3, [(.iload_n 1, 1), (.ireturn, 1)])]
theorem b_X7_turn_ok : x_okB cX7_turn 3 b_X7_turn = true := by decide +kernel
def X_X7_turn : x_X := ([], [], [], [], [], (0, 0), x_kn, x_kf, 5, false)
theorem X_X7_turn_ok : x_okT RX7 X_X7_turn = true := by decide +kernel
theorem k_X7_turn (l : Launch) : ∀ z ∈ X_X7_turn.2.2.2.2.1, x_Cal l (x_rm 1 0 0) cX7_turn RX7 3 z.1 z.2 := fun _ h => absurd h List.not_mem_nil
set_option maxHeartbeats 4000000 in
set_option maxRecDepth 100000 in
theorem c_X7_turn (l : Launch) : x_CT l yX7_turn cX7_turn 3 (some .int) 1 q_X7_turn := by
  refine x_meth (X := X_X7_turn) (bl := b_X7_turn) (cut := [4]) (own := RX7) 30 (by decide) rfl X_X7_turn_ok b_X7_turn_ok rfl (Nat.le_of_ble_eq_true rfl) (k_X7_turn l) ?_
  rintro as S M - ⟨n, hn, rfl⟩
  refine ⟨fun μ pc ls st S' M' cs sl => ∃ i, i ≤ 13 ∧ pc = 4 ∧ st = [] ∧ S' = S ∧ M' = M ∧ cs = 0 ∧ sl = 0 ∧ ls = [.inl (nI n), .inl (nI (fo (fun r => 2 ^ (12 - r)) n i)), .inl (nI i)] ∧ μ = 13 - i, ?_, ?_⟩
  · skip
    refine xt_blk rfl rfl (by dsimp only [List.take]) ?_
    refine xt_ic ?_
    refine xt_isn1 rfl (by dsimp only [x_sto]) ?_
    refine xt_ic ?_
    refine xt_isn2 rfl (by dsimp only [x_sto]) ?_
    refine xt_nil (t := 4) rfl ?_
    refine xt_cut rfl rfl (by dsimp only [List.take]) ?_
    exact ⟨13, 0, by omega, rfl, rfl, rfl, rfl, rfl, rfl, rfl, rfl⟩
  · rintro μ pc ls st S2 M2 cs sl (⟨i, hi, rfl, rfl, rfl, rfl, rfl, rfl, rfl, rfl⟩)
    · refine ⟨_, rfl, ?_⟩
      refine xt_iln2 rfl ?_
      refine xt_bi ?_
      refine xt_cge (t := 38) rfl (fun hc_7 => ?_) (fun hc_7 => ?_)
      · skip
        refine xt_blk rfl rfl (by dsimp only [List.take]) ?_
        refine xt_iln1 rfl ?_
        refine xt_ri rfl (Nat.le_refl _) ?_
        have h13 : i = 13 := by rw [nI_leI (by omega) (by omega)] at hc_7; omega
        subst h13
        intro n2 h2n e2
        simp only [List.cons.injEq, Sum.inl.injEq, and_true] at e2
        have e2n := e2
        rw [nI_eq (by omega) (by omega)] at e2n
        subst e2n
        exact ⟨rfl, rfl, by rw [fo_tn hn]⟩
      · skip
        refine xt_iln1 rfl ?_
        refine xt_iln0 rfl ?_
        refine xt_iln2 rfl ?_
        refine xt_shr ?_
        refine xt_ic ?_
        refine xt_and ?_
        refine xt_ic ?_
        refine xt_cne (t := 29) rfl (fun hc_17 => ?_) (fun hc_17 => ?_)
        · skip
          refine xt_blk rfl rfl (by dsimp only [List.take]) ?_
          refine xt_ic ?_
          refine xt_nil (t := 30) rfl ?_
          refine xt_blk rfl rfl (by dsimp only [List.take]) ?_
          refine xt_or ?_
          refine xt_isn1 rfl (by dsimp only [x_sto]) ?_
          refine xt_inc rfl (by dsimp only [x_sto]) ?_
          refine xt_goto (t := 4) rfl ?_
          refine xt_cut rfl rfl (by dsimp only [List.take]) ?_
          have hlt : i < 13 := by rw [nI_leI (by omega) (by omega)] at hc_7; omega
          have hb := bi_lt n i
          rw [n_bit (by omega) (by omega), nI_eq (by unfold bi at hb; omega) (by decide)] at hc_17
          have e : fo (fun r => 2 ^ (12 - r)) n (i + 1) = fo (fun r => 2 ^ (12 - r)) n i := by
            show (if bi n i = 1 then _ else _) = _
            rw [if_neg (by unfold bi; exact hc_17)]
          exact ⟨13 - (i + 1), by omega, i + 1, by omega, rfl, rfl, rfl, rfl, rfl, rfl, by rw [n_or, Nat.or_zero, nI_add, e], rfl⟩
        · skip
          refine xt_ic ?_
          refine xt_bi ?_
          refine xt_iln2 rfl ?_
          refine xt_sub ?_
          refine xt_shl ?_
          refine xt_goto (t := 30) rfl ?_
          refine xt_blk rfl rfl (by dsimp only [List.take]) ?_
          refine xt_or ?_
          refine xt_isn1 rfl (by dsimp only [x_sto]) ?_
          refine xt_inc rfl (by dsimp only [x_sto]) ?_
          refine xt_goto (t := 4) rfl ?_
          refine xt_cut rfl rfl (by dsimp only [List.take]) ?_
          have hlt : i < 13 := by rw [nI_leI (by omega) (by omega)] at hc_7; omega
          have hb := bi_lt n i
          rw [n_bit (by omega) (by omega), nI_eq (by unfold bi at hb; omega) (by decide)] at hc_17
          have e : fo (fun r => 2 ^ (12 - r)) n (i + 1) = fo (fun r => 2 ^ (12 - r)) n i ||| 2 ^ (12 - i) := by
            show (if bi n i = 1 then _ else _) = _
            rw [if_pos (by unfold bi; exact hc_17)]
          have hpw : 2 ^ (12 - i) < 2 ^ 31 := Nat.pow_lt_pow_right (by decide) (by omega)
          exact ⟨13 - (i + 1), by omega, i + 1, by omega, rfl, rfl, rfl, rfl, rfl, rfl, by rw [pk_sub (by omega), n_shl (by omega) (by omega), Nat.one_mul, n_or, nI_add, e], rfl⟩
def q_X7_bitOf : x_K := (1, fun as S M => ∃ q : Nat, q < 13 ∧ as = [.inl (nI (2 ^ q))], fun as S M rv_ S' M' => ∀ q : Nat, q < 13 → as = [.inl (nI (2 ^ q))] → S' = S ∧ M' = M ∧ rv_ = some (.inl (nI q)), 0, 0)
def b_X7_bitOf : x_B := [(0, 1, [(.iconst 0, 1), (.istore_n 1, 1)]),
  (2, 2, [(.iload_n 0, 1), (.iload_n 1, 1), (.ishr, 1), (.iconst 1, 1), (.if_icmp .le 9, 3), (.iinc 1 1, 3), (.goto (-10), 3)]),
  (15, 2, [(.iload_n 1, 1), (.ireturn, 1)])]
theorem b_X7_bitOf_ok : x_okB cX7_bitOf 2 b_X7_bitOf = true := by decide +kernel
def X_X7_bitOf : x_X := ([], [], [], [], [], (0, 0), x_kn, x_kf, 5, false)
theorem X_X7_bitOf_ok : x_okT RX7 X_X7_bitOf = true := by decide +kernel
theorem k_X7_bitOf (l : Launch) : ∀ z ∈ X_X7_bitOf.2.2.2.2.1, x_Cal l (x_rm 1 0 0) cX7_bitOf RX7 2 z.1 z.2 := fun _ h => absurd h List.not_mem_nil
set_option maxHeartbeats 4000000 in
set_option maxRecDepth 100000 in
theorem c_X7_bitOf (l : Launch) : x_CT l yX7_bitOf cX7_bitOf 2 (some .int) 1 q_X7_bitOf := by
  refine x_meth (X := X_X7_bitOf) (bl := b_X7_bitOf) (cut := [2]) (own := RX7) 30 (by decide) rfl X_X7_bitOf_ok b_X7_bitOf_ok rfl (Nat.le_of_ble_eq_true rfl) (k_X7_bitOf l) ?_
  rintro as S M - ⟨q, hq, rfl⟩
  refine ⟨fun μ pc ls st S' M' cs sl => ∃ i, i ≤ q ∧ pc = 2 ∧ st = [] ∧ S' = S ∧ M' = M ∧ cs = 0 ∧ sl = 0 ∧ ls = [.inl (nI (2 ^ q)), .inl (nI i)] ∧ μ = q - i, ?_, ?_⟩
  · skip
    refine xt_blk rfl rfl (by dsimp only [List.take]) ?_
    refine xt_ic ?_
    refine xt_isn1 rfl (by dsimp only [x_sto]) ?_
    refine xt_nil (t := 2) rfl ?_
    refine xt_cut rfl rfl (by dsimp only [List.take]) ?_
    exact ⟨q, 0, by omega, rfl, rfl, rfl, rfl, rfl, rfl, rfl, rfl⟩
  · rintro μ pc ls st S2 M2 cs sl (⟨i, hi, rfl, rfl, rfl, rfl, rfl, rfl, rfl, rfl⟩)
    · refine ⟨_, rfl, ?_⟩
      refine xt_iln0 rfl ?_
      refine xt_iln1 rfl ?_
      refine xt_shr ?_
      refine xt_ic ?_
      refine xt_cle (t := 15) rfl (fun hc_6 => ?_) (fun hc_6 => ?_)
      · skip
        refine xt_blk rfl rfl (by dsimp only [List.take]) ?_
        refine xt_iln1 rfl ?_
        refine xt_ri rfl (Nat.le_refl _) ?_
        have hpq : 2 ^ q < 2 ^ 31 := Nat.pow_lt_pow_right (by decide) (by omega)
        have hdv : 2 ^ q / 2 ^ i = 2 ^ (q - i) := Nat.pow_div hi (by decide)
        have hlt2 : 2 ^ (q - i) < 2 ^ 31 := Nat.pow_lt_pow_right (by decide) (by omega)
        rw [n_shr (by omega) (by omega), hdv, nI_leI (by omega) (by decide)] at hc_6
        have heq : i = q := by
          apply Classical.byContradiction
          intro hne
          have h1 : 2 ^ 1 ≤ 2 ^ (q - i) := Nat.pow_le_pow_right (by decide) (by omega)
          omega
        subst heq
        intro q2 hq2 e2
        simp only [List.cons.injEq, Sum.inl.injEq, and_true] at e2
        have h2 : 2 ^ q2 < 2 ^ 31 := Nat.pow_lt_pow_right (by decide) (by omega)
        rw [nI_eq (by omega) (by omega)] at e2
        have e3 := (Nat.pow_right_inj (show 1 < 2 by decide)).mp e2
        subst e3
        exact ⟨rfl, rfl, rfl⟩
      · skip
        refine xt_inc rfl (by dsimp only [x_sto]) ?_
        refine xt_goto (t := 2) rfl ?_
        refine xt_cut rfl rfl (by dsimp only [List.take]) ?_
        have hpq : 2 ^ q < 2 ^ 31 := Nat.pow_lt_pow_right (by decide) (by omega)
        have hdv : 2 ^ q / 2 ^ i = 2 ^ (q - i) := Nat.pow_div hi (by decide)
        have hlt2 : 2 ^ (q - i) < 2 ^ 31 := Nat.pow_lt_pow_right (by decide) (by omega)
        rw [n_shr (by omega) (by omega), hdv, nI_leI (by omega) (by decide)] at hc_6
        have hne : i ≠ q := fun e => hc_6 (by rw [e, Nat.sub_self]; decide)
        exact ⟨q - (i + 1), by omega, i + 1, by omega, rfl, rfl, rfl, rfl, rfl, rfl, by rw [nI_add], rfl⟩
def q_X7_compose : x_K := (3, fun as S M => ∃ (r : Nat) (s : Nat), r < 8192 ∧ s < 8192 ∧ S = SH ∧ (∀ j, j < 169 → M 54 j = nI (cmT j)) ∧ as = [.inr (.inl 53), .inl (nI r), .inl (nI s)], fun as S M rv_ S' M' => ∀ (r : Nat) (s : Nat), r < 8192 → s < 8192 → as = [.inr (.inl 53), .inl (nI r), .inl (nI s)] → S' = S ∧ M' = M ∧ rv_ = some (.inl (nI (cm r s))), 0, 0)
theorem r_X7_compose : ∀ as S M, q_X7_compose.2.1 as S M → ∃ (k : Nat) (as' : List x_V) (fs : List (Option Nat)), as = .inr (.inl k) :: as' ∧ S[k]? = some (.inl (5, fs)) := by
  rintro as S M ⟨r, s, hr, hs, rfl, hpre, rfl⟩
  exact ⟨53, _, _, rfl, rfl⟩
def b_X7_compose : x_B := [(0, 3, [(.iconst 0, 1), (.istore_n 3, 1), (.iconst 0, 1), (.istore 4, 2)]),
  (5, 5, [(.iload 4, 2), (.bipush 13, 2), (.if_icmp .ge 60, 3), (.iconst 0, 1), (.istore 5, 2)]),
  (15, 6, [(.iload 5, 2), (.bipush 13, 2), (.if_icmp .ge 44, 3), (.iload_n 3, 1), (.iload_n 1, 1), (.iload 4, 2), (.ishr, 1), (.iload_n 2, 1), (.iload 5, 2), (.ishr, 1), (.iand, 1), (.iconst 1, 1), (.iand, 1), (.iconst 1, 1), (.if_icmp .ne 19, 3), (.aload_n 0, 1), (.getfield 7, 3), (.bipush 13, 2), (.iload 4, 2), (.imul, 1), (.iload 5, 2), (.iadd, 1), (.iaload, 1), (.goto 4, 3)]),
  (54, 6, [(.iconst 0, 1)]),
  (55, 6, [(.ior, 1), (.istore_n 3, 1), (.iinc 5 1, 3), (.goto (-45), 3)]),
  (63, 6, [(.iinc 4 1, 3), (.goto (-61), 3)]),
  (69, 5, [(.iload_n 3, 1), (.ireturn, 1)])]
theorem b_X7_compose_ok : x_okB cX7_compose 6 b_X7_compose = true := by decide +kernel
def X_X7_compose : x_X := ([(7, 5, 0)], [], [], [], [], (0, 0), x_kn, x_kf, 5, false)
theorem X_X7_compose_ok : x_okT RX7 X_X7_compose = true := by decide +kernel
theorem k_X7_compose (l : Launch) : ∀ z ∈ X_X7_compose.2.2.2.2.1, x_Cal l (x_rm 1 0 0) cX7_compose RX7 6 z.1 z.2 := fun _ h => absurd h List.not_mem_nil
def inn (r s i j : Nat) : Nat := if bi r i = 1 then fo (fun j => cmT (i * 13 + j)) s j else 0
theorem inn_0 (r s i : Nat) : inn r s i 0 = 0 := by unfold inn; split <;> rfl
theorem inn_13 (r s i : Nat) : fo (cmR s) r i ||| inn r s i 13 = fo (cmR s) r (i + 1) := by
  show _ = (if bi r i = 1 then fo (cmR s) r i ||| cmR s i else fo (cmR s) r i)
  unfold inn
  split
  · rfl
  · exact Nat.or_zero _
theorem inn_s (r s i j : Nat) : inn r s i (j + 1) = if bi r i = 1 ∧ bi s j = 1 then inn r s i j ||| cmT (i * 13 + j) else inn r s i j := by
  unfold inn
  by_cases h : bi r i = 1
  · rw [if_pos h, if_pos h]
    show (if bi s j = 1 then _ else _) = _
    by_cases h2 : bi s j = 1
    · rw [if_pos h2, if_pos ⟨h, h2⟩]
    · rw [if_neg h2, if_neg (fun q => h2 q.2)]
  · rw [if_neg h, if_neg h, if_neg (fun q => h q.1)]
theorem n_2bit {r s i j : Nat} (hr : r < 8192) (hs : s < 8192) (hi : i < 32) (hj : j < 32) : (nI r >>> (nI i &&& 31) &&& nI s >>> (nI j &&& 31) &&& nI 1 = nI 1) ↔ (bi r i = 1 ∧ bi s j = 1) := by
  have h1 := Nat.div_le_self r (2 ^ i)
  have h2 : r / 2 ^ i &&& s / 2 ^ j ≤ r / 2 ^ i := Nat.and_le_left
  rw [n_shr (by omega) hi, n_shr (by omega) hj, n_and, n_and1 (by omega), nI_eq (by omega) (by decide), Nat.and_mod_two_eq_one]
  rfl
set_option maxHeartbeats 4000000 in
set_option maxRecDepth 100000 in
theorem c_X7_compose (l : Launch) : x_CT l yX7_compose cX7_compose 6 (some .int) 1 q_X7_compose := by
  refine x_meth (X := X_X7_compose) (bl := b_X7_compose) (cut := [5, 15]) (own := RX7) 30 (by decide) rfl X_X7_compose_ok b_X7_compose_ok rfl (Nat.le_of_ble_eq_true rfl) (k_X7_compose l) ?_
  rintro as S M - ⟨r, s, hr, hs, rfl, hpre, rfl⟩
  refine ⟨fun μ pc ls st S' M' cs sl => (∃ i, i ≤ 13 ∧ pc = 5 ∧ st = [] ∧ S' = SH ∧ M' = M ∧ cs = 0 ∧ sl = 0 ∧ ls = [.inr (.inl 53), .inl (nI r), .inl (nI s), .inl (nI (fo (cmR s) r i)), .inl (nI i)] ∧ μ = (13 - i) * 20) ∨ (∃ i j, i < 13 ∧ j ≤ 13 ∧ pc = 15 ∧ st = [] ∧ S' = SH ∧ M' = M ∧ cs = 0 ∧ sl = 0 ∧ ls = [.inr (.inl 53), .inl (nI r), .inl (nI s), .inl (nI (fo (cmR s) r i ||| inn r s i j)), .inl (nI i), .inl (nI j)] ∧ μ = (13 - i) * 20 - 1 - j), ?_, ?_⟩
  · skip
    refine xt_blk rfl rfl (by dsimp only [List.take]) ?_
    refine xt_ic ?_
    refine xt_isn3 rfl (by dsimp only [x_sto]) ?_
    refine xt_ic ?_
    refine xt_ist rfl (by dsimp only [x_sto]) ?_
    refine xt_nil (t := 5) rfl ?_
    refine xt_cut rfl rfl (by dsimp only [List.take]) ?_
    exact ⟨13 * 20, Or.inl ⟨0, by omega, rfl, rfl, rfl, rfl, rfl, rfl, rfl, rfl⟩⟩
  · rintro μ pc ls st S2 M2 cs sl (⟨i, hi, rfl, rfl, rfl, rfl, rfl, rfl, rfl, rfl⟩ | ⟨i, j, hi, hj, rfl, rfl, rfl, rfl, rfl, rfl, rfl, rfl⟩)
    · refine ⟨_, rfl, ?_⟩
      refine xt_ild rfl ?_
      refine xt_bi ?_
      refine xt_cge (t := 69) rfl (fun hc_9 => ?_) (fun hc_9 => ?_)
      · skip
        refine xt_blk rfl rfl (by dsimp only [List.take]) ?_
        refine xt_iln3 rfl ?_
        refine xt_ri rfl (Nat.le_refl _) ?_
        have h13 : i = 13 := by rw [nI_leI (by omega) (by omega)] at hc_9; omega
        subst h13
        intro r2 s2 h2r h2s e2
        simp only [List.cons.injEq, Sum.inl.injEq, Sum.inr.injEq, and_true, true_and] at e2
        obtain ⟨e2r, e2s⟩ := e2
        rw [nI_eq (by omega) (by omega)] at e2r
        subst e2r
        rw [nI_eq (by omega) (by omega)] at e2s
        subst e2s
        exact ⟨rfl, rfl, rfl⟩
      · skip
        refine xt_ic ?_
        refine xt_ist rfl (by dsimp only [x_sto]) ?_
        refine xt_nil (t := 15) rfl ?_
        refine xt_cut rfl rfl (by dsimp only [List.take]) ?_
        have hi13 : i < 13 := by rw [nI_leI (by omega) (by omega)] at hc_9; omega
        exact ⟨(13 - i) * 20 - 1, by omega, Or.inr ⟨i, 0, hi13, by omega, rfl, rfl, rfl, rfl, rfl, rfl, by rw [inn_0, Nat.or_zero], rfl⟩⟩
    · refine ⟨_, rfl, ?_⟩
      refine xt_ild rfl ?_
      refine xt_bi ?_
      refine xt_cge (t := 63) rfl (fun hc_19 => ?_) (fun hc_19 => ?_)
      · skip
        refine xt_blk rfl rfl (by dsimp only [List.take]) ?_
        refine xt_inc rfl (by dsimp only [x_sto]) ?_
        refine xt_goto (t := 5) rfl ?_
        refine xt_cut rfl rfl (by dsimp only [List.take]) ?_
        have hj13 : j = 13 := by rw [nI_leI (by omega) (by omega)] at hc_19; omega
        subst hj13
        exact ⟨(13 - (i + 1)) * 20, by omega, Or.inl ⟨i + 1, by omega, rfl, rfl, rfl, rfl, rfl, rfl, by rw [inn_13, nI_add], rfl⟩⟩
      · skip
        refine xt_iln3 rfl ?_
        refine xt_iln1 rfl ?_
        refine xt_ild rfl ?_
        refine xt_shr ?_
        refine xt_iln2 rfl ?_
        refine xt_ild rfl ?_
        refine xt_shr ?_
        refine xt_and ?_
        refine xt_ic ?_
        refine xt_and ?_
        refine xt_ic ?_
        refine xt_cne (t := 54) rfl (fun hc_35 => ?_) (fun hc_35 => ?_)
        · skip
          refine xt_blk rfl rfl (by dsimp only [List.take]) ?_
          refine xt_ic ?_
          refine xt_nil (t := 55) rfl ?_
          refine xt_blk rfl rfl (by dsimp only [List.take]) ?_
          refine xt_or ?_
          refine xt_isn3 rfl (by dsimp only [x_sto]) ?_
          refine xt_inc rfl (by dsimp only [x_sto]) ?_
          refine xt_goto (t := 15) rfl ?_
          refine xt_cut rfl rfl (by dsimp only [List.take]) ?_
          have hj13 : j < 13 := by rw [nI_leI (by omega) (by omega)] at hc_19; omega
          rw [n_2bit hr hs (by omega) (by omega)] at hc_35
          exact ⟨(13 - i) * 20 - 1 - (j + 1), by omega, Or.inr ⟨i, j + 1, hi, by omega, rfl, rfl, rfl, rfl, rfl, rfl, by rw [n_or, Nat.or_zero, nI_add, inn_s, if_neg hc_35], rfl⟩⟩
        · skip
          refine xt_aln0 rfl (by first | decide | omega | assumption) ?_
          refine xt_gfr (q := (5, 0)) rfl (by first | rfl | assumption) rfl ?_
          refine xt_bi ?_
          refine xt_ild rfl ?_
          refine xt_mul ?_
          refine xt_ild rfl ?_
          refine xt_add ?_
          refine xt_ial (by first | rfl | assumption) (show vp_in _ 169 from by rw [pk_mul, nI_add]; exact vp_in_nI (by rw [nI_leI (by omega) (by omega)] at hc_19; omega) (by decide)) ?_
          refine xt_goto (t := 55) rfl ?_
          refine xt_blk rfl rfl (by dsimp only [List.take]) ?_
          refine xt_or ?_
          refine xt_isn3 rfl (by dsimp only [x_sto]) ?_
          refine xt_inc rfl (by dsimp only [x_sto]) ?_
          refine xt_goto (t := 15) rfl ?_
          refine xt_cut rfl rfl (by dsimp only [List.take]) ?_
          have hj13 : j < 13 := by rw [nI_leI (by omega) (by omega)] at hc_19; omega
          rw [n_2bit hr hs (by omega) (by omega)] at hc_35
          have e4 : M2 54 (nI 13 * nI i + nI j).toNatClampNeg = nI (cmT (i * 13 + j)) := by rw [pk_mul, nI_add, nI_clamp (by omega), Nat.mul_comm 13 i]; exact hpre _ (by omega)
          exact ⟨(13 - i) * 20 - 1 - (j + 1), by omega, Or.inr ⟨i, j + 1, hi, by omega, rfl, rfl, rfl, rfl, rfl, rfl, by rw [e4, n_or, Nat.or_assoc, nI_add, inn_s, if_pos hc_35], rfl⟩⟩
