/-! STATEMENTS: writeNet -/
/-- the statements, as numbers: things, sets along way w -/
def Sts (M : x_M) (w n : Nat) (A B s : Nat → Nat) : Prop := ∀ i, i < n → A i < 6 ∧ B i < 6 ∧ A i ≠ B i ∧ s i < 8192 ∧ M 2 i = nI (A i) ∧ M 3 i = nI (B i) ∧ M (5 + w) i = nI (s i)
def wnF (A B s : Nat → Nat) (c : Nat) : Nat → Nat → Nat
  | 0 => opn
  | i + 1 => if bi c i = 1 then nw (wnF A B s c i) (A i) (B i) (wnF A B s c i (A i * 6 + B i) &&& s i) else wnF A B s c i
theorem opn_Bd : Bd opn := fun j _ => by unfold opn; split <;> omega
theorem wnF_Bd {A B s : Nat → Nat} {c n : Nat} (hs : ∀ i, i < n → s i < 8192) : ∀ i, i ≤ n → Bd (wnF A B s c i)
  | 0, _ => opn_Bd
  | i + 1, h => by
    have h1 := wnF_Bd (A := A) (B := B) (c := c) hs i (by omega)
    unfold wnF
    split
    · exact nw_Bd h1 (Nat.lt_of_le_of_lt Nat.and_le_right (hs i (by omega)))
    · exact h1
theorem SH36 {k : Nat} (h : SH[k]? = some (.inr (.inl (false, 36)))) : k ≠ 1 ∧ k ≠ 2 ∧ k ≠ 3 ∧ k ≠ 5 ∧ k ≠ 6 ∧ k ≠ 7 := by
  refine ⟨?_, ?_, ?_, ?_, ?_, ?_⟩ <;> (rintro rfl; simp [SH] at h)
def q_X4_writeNet : x_K := (4, fun as S M => ∃ (w c k n : Nat) (A B s : Nat → Nat), w < 2 ∧ c < 2 ^ 30 ∧ k < 1000 ∧ S = SH ∧ SH[k]? = some (.inr (.inl (false, 36))) ∧ n ≤ 30 ∧ M 1 4 = nI n ∧ Sts M w n A B s ∧ as = [.inr (.inl 1), .inl (nI w), .inl (nI c), .inr (.inl k)],
  fun as S M rv_ S' M' => ∀ (w c k n : Nat) (A B s : Nat → Nat), w < 2 → c < 2 ^ 30 → n ≤ 30 → M 1 4 = nI n → Sts M w n A B s → as = [.inr (.inl 1), .inl (nI w), .inl (nI c), .inr (.inl k)] → S' = S ∧ (∃ gI, M' = x_row M k gI ∧ ∀ j, j < 36 → gI j = nI (wnF A B s c n j)) ∧ rv_ = none, 0, 0)
theorem r_X4_writeNet : ∀ as S M, q_X4_writeNet.2.1 as S M → ∃ (k : Nat) (as' : List x_V) (fs : List (Option Nat)), as = .inr (.inl k) :: as' ∧ S[k]? = some (.inl (2, fs)) := by
  rintro as S M ⟨w, c, k, n, A, B, s, -, -, -, rfl, -, -, -, -, rfl⟩
  exact ⟨1, _, _, rfl, rfl⟩
def b_X4_writeNet : x_B := [(0, 4, [(.aload_n 3, 1), (.invokestatic 48, 3), (.iconst 0, 1), (.istore 4, 2)]),
  (7, 5, [(.iload 4, 2), (.aload_n 0, 1), (.getfield 27, 3), (.if_icmp .ge 64, 3), (.iload_n 2, 1), (.iload 4, 2), (.ishr, 1), (.iconst 1, 1), (.iand, 1), (.ifCond .eq 49, 3), (.aload_n 0, 1), (.getfield 9, 3), (.iload 4, 2), (.iaload, 1), (.istore 5, 2), (.aload_n 0, 1), (.getfield 15, 3), (.iload 4, 2), (.iaload, 1), (.istore 6, 2), (.aload_n 3, 1), (.iload 5, 2), (.iload 6, 2), (.aload_n 3, 1), (.iload 5, 2), (.bipush 6, 2), (.imul, 1), (.iload 6, 2), (.iadd, 1), (.iaload, 1), (.aload_n 0, 1), (.getfield 20, 3), (.iload_n 1, 1), (.aaload, 1), (.iload 4, 2), (.iaload, 1), (.iand, 1), (.invokestatic 54, 3)]),
  (71, 5, [(.iinc 4 1, 3), (.goto (-67), 3)]),
  (77, 5, [(.return_, 1)])]
theorem b_X4_writeNet_ok : x_okB cX4_writeNet 7 b_X4_writeNet = true := by decide +kernel
def X_X4_writeNet : x_X := ([(27, 2, 4), (9, 2, 0), (15, 2, 1), (20, 2, 2)], [], [], [], [(144, q_X1_open), (162, q_X1_put)], (0, 0), x_kn, x_kf, 5, false)
theorem X_X4_writeNet_ok : x_okT RX4 X_X4_writeNet = true := by decide +kernel
theorem k_X4_writeNet (l : Launch) : ∀ z ∈ X_X4_writeNet.2.2.2.2.1, x_Cal l (x_rm 3 0 0) cX4_writeNet RX4 7 z.1 z.2 := List.forall_mem_cons.mpr ⟨x_cal_S (idx := 48) (c_X1_open l) ⟨by decide, by decide⟩ (by decide +kernel) (by decide +kernel) (by decide +kernel) (by decide +kernel) (by decide +kernel), List.forall_mem_cons.mpr ⟨x_cal_S (idx := 54) (c_X1_put l) ⟨by decide, by decide⟩ (by decide +kernel) (by decide +kernel) (by decide +kernel) (by decide +kernel) (by decide +kernel), fun _ h => absurd h List.not_mem_nil⟩⟩
set_option maxHeartbeats 4000000 in
set_option maxRecDepth 100000 in
theorem c_X4_writeNet (l : Launch) : x_CT l yX4_writeNet cX4_writeNet 7 none 3 q_X4_writeNet := by
  refine x_meth (X := X_X4_writeNet) (bl := b_X4_writeNet) (cut := [7]) (own := RX4) 30 (by decide) rfl X_X4_writeNet_ok b_X4_writeNet_ok rfl (Nat.le_of_ble_eq_true rfl) (k_X4_writeNet l) ?_
  rintro as S M - ⟨w, c, k, n, A, B, s, hw, hc, hk, rfl, hsh, hn, hsz, hst, rfl⟩
  obtain ⟨hk1, hk2, hk3, hk5, hk6, hk7⟩ := SH36 hsh
  refine ⟨fun μ pc ls st S' M' cs sl => ∃ i gI, i ≤ n ∧ M' 1 4 = nI n ∧ (∀ j, j < 36 → gI j = nI (wnF A B s c i j)) ∧ pc = 7 ∧ st = [] ∧ M' = x_row M k gI ∧ S' = SH ∧ cs = 0 ∧ sl = 0 ∧ ls = [.inr (.inl 1), .inl (nI w), .inl (nI c), .inr (.inl k), .inl (nI i)] ∧ μ = n - i, ?_, ?_⟩
  · skip
    refine xt_blk rfl rfl (by dsimp only [List.take]) ?_
    refine xt_aln3 rfl (by first | decide | omega | assumption) ?_
    refine xt_v1 (key := 144) (q := q_X1_open) rfl rfl rfl rfl rfl ⟨Nat.le_of_ble_eq_true rfl, Nat.le_of_ble_eq_true rfl⟩ ⟨k, hk, hsh, rfl⟩ (fun rv_ S1 M1 hq_1 => ?_)
    obtain ⟨eS_, ⟨gI, eM_, hg⟩, rfl⟩ := hq_1 k rfl
    replace eS_ := eS_.symm
    replace eM_ := eM_.symm
    subst eS_ eM_
    try dsimp only [Option.toList, List.cons_append, List.nil_append]
    refine xt_ic ?_
    refine xt_ist rfl (by dsimp only [x_sto]) ?_
    refine xt_nil (t := 7) rfl ?_
    refine xt_cut rfl rfl (by dsimp only [List.take]) ?_
    exact ⟨n, 0, gI, by omega, by rw [x_row_ne _ _ (Ne.symm hk1)]; exact hsz, hg, rfl, rfl, rfl, rfl, rfl, rfl, rfl, rfl⟩
  · rintro μ pc ls st S2 M2 cs sl (⟨i, gI, hi, hsz1, hg, rfl, rfl, rfl, rfl, rfl, rfl, rfl, rfl⟩)
    · refine ⟨_, rfl, ?_⟩
      refine xt_ild rfl ?_
      refine xt_aln0 rfl (by first | decide | omega | assumption) ?_
      refine xt_gfi (q := (2, 4)) rfl (by first | rfl | assumption | exact SHs w hw) rfl ?_
      refine xt_cge (t := 77) rfl (fun hc_13 => ?_) (fun hc_13 => ?_)
      · skip
        refine xt_blk rfl rfl (by dsimp only [List.take]) ?_
        refine xt_rv rfl (Nat.le_refl _) ?_
        have hin : i = n := by rw [hsz1, nI_leI (by omega) (by omega)] at hc_13; omega
        subst hin
        intro w2 c2 k2 n2 A2 B2 s2 hw2 hc2 hn2 hsz2 hst2 e2
        simp only [List.cons.injEq, Sum.inl.injEq, Sum.inr.injEq, and_true, true_and] at e2
        obtain ⟨ew, ec, rfl⟩ := e2
        rw [nI_eq (by omega) (by omega)] at ew ec
        subst ew ec
        rw [hsz, nI_eq (by omega) (by omega)] at hsz2
        subst hsz2
        have eq3 : ∀ q, q < i → A q = A2 q ∧ B q = B2 q ∧ s q = s2 q := by
          intro q hq
          obtain ⟨a1, a2, a3, a4, a5, a6, a7⟩ := hst q hq
          obtain ⟨b1, b2, b3, b4, b5, b6, b7⟩ := hst2 q hq
          rw [a5, nI_eq (by omega) (by omega)] at b5
          rw [a6, nI_eq (by omega) (by omega)] at b6
          rw [a7, nI_eq (by omega) (by omega)] at b7
          exact ⟨b5, b6, b7⟩
        have ewn : ∀ q, q ≤ i → wnF A B s c q = wnF A2 B2 s2 c q := by
          intro q
          induction q with
          | zero => intro _; rfl
          | succ q ih =>
            intro hq
            obtain ⟨x1, x2, x3⟩ := eq3 q (by omega)
            show (if bi c q = 1 then _ else _) = (if bi c q = 1 then _ else _)
            rw [ih (by omega), x1, x2, x3]
        exact ⟨rfl, ⟨gI, rfl, fun j hj => by rw [hg j hj, ewn i (Nat.le_refl _)]⟩, rfl⟩
      · skip
        refine xt_iln2 rfl ?_
        refine xt_ild rfl ?_
        refine xt_shr ?_
        refine xt_ic ?_
        refine xt_and ?_
        refine xt_eq (t := 71) rfl (fun hc_22 => ?_) (fun hc_22 => ?_)
        · skip
          refine xt_blk rfl rfl (by dsimp only [List.take]) ?_
          refine xt_inc rfl (by dsimp only [x_sto]) ?_
          refine xt_goto (t := 7) rfl ?_
          refine xt_cut rfl rfl (by dsimp only [List.take]) ?_
          have hlt : i < n := by rw [hsz1, nI_leI (by omega) (by omega)] at hc_13; omega
          rw [n_bit (by omega) (by omega), n_eq0 (by have := bi_lt c i; unfold bi at this; omega)] at hc_22
          refine ⟨n - (i + 1), by omega, i + 1, gI, by omega, hsz1, fun j hj => ?_, rfl, rfl, rfl, rfl, rfl, rfl, by rw [nI_add], rfl⟩
          rw [hg j hj]
          show _ = nI ((if bi c i = 1 then _ else wnF A B s c i) j)
          rw [if_neg (by unfold bi; omega)]
        · skip
          have hlt : i < n := by rw [hsz1, nI_leI (by omega) (by omega)] at hc_13; omega
          obtain ⟨a1, a2, a3, a4, a5, a6, a7⟩ := hst i hlt
          have m2 : (x_row M k gI) 2 i = nI (A i) := by rw [x_row_ne _ _ (Ne.symm hk2)]; exact a5
          have m3 : (x_row M k gI) 3 i = nI (B i) := by rw [x_row_ne _ _ (Ne.symm hk3)]; exact a6
          have m5 : (x_row M k gI) (5 + w) i = nI (s i) := by rw [x_row_ne _ _ (by omega)]; exact a7
          have mk : (x_row M k gI) k (A i * 6 + B i) = nI (wnF A B s c i (A i * 6 + B i)) := by rw [x_row_self]; exact hg _ (by omega)
          have hB := wnF_Bd (A := A) (B := B) (c := c) (fun i hi => (hst i hi).2.2.2.1) i (by omega)
          refine xt_aln0 rfl (by first | decide | omega | assumption) ?_
          refine xt_gfr (q := (2, 0)) rfl (by first | rfl | assumption | exact SHs w hw) rfl ?_
          refine xt_ild rfl ?_
          refine xt_ial (by first | rfl | assumption | exact SHs w hw) (show vp_in _ 30 from vp_in_nI (by omega) (by decide)) ?_
          refine xt_ist rfl (by dsimp only [x_sto]) ?_
          refine xt_aln0 rfl (by first | decide | omega | assumption) ?_
          refine xt_gfr (q := (2, 1)) rfl (by first | rfl | assumption | exact SHs w hw) rfl ?_
          refine xt_ild rfl ?_
          refine xt_ial (by first | rfl | assumption | exact SHs w hw) (show vp_in _ 30 from vp_in_nI (by omega) (by decide)) ?_
          refine xt_ist rfl (by dsimp only [x_sto]) ?_
          refine xt_aln3 rfl (by first | decide | omega | assumption) ?_
          refine xt_ild rfl ?_
          refine xt_ild rfl ?_
          refine xt_aln3 rfl (by first | decide | omega | assumption) ?_
          refine xt_ild rfl ?_
          refine xt_bi ?_
          refine xt_mul ?_
          refine xt_ild rfl ?_
          refine xt_add ?_
          refine xt_ial (by first | rfl | assumption | exact SHs w hw) (by rw [nI_clamp (show i < 2 ^ 31 by omega), m2, m3]; exact n_ixi a1 a2) ?_
          refine xt_aln0 rfl (by first | decide | omega | assumption) ?_
          refine xt_gfr (q := (2, 2)) rfl (by first | rfl | assumption | exact SHs w hw) rfl ?_
          refine xt_iln1 rfl ?_
          refine xt_ral (r := 5 + w) rfl (show vp_in _ 2 from vp_in_nI (by omega) (by decide)) (by rw [nI_clamp (by omega)]; exact sts w hw) (by omega) ?_
          refine xt_ild rfl ?_
          refine xt_ial (by first | rfl | assumption | exact SHs w hw) (show vp_in _ 30 from vp_in_nI (by omega) (by decide)) ?_
          refine xt_and ?_
          refine xt_v4 (key := 162) (q := q_X1_put) rfl rfl rfl rfl rfl ⟨Nat.le_of_ble_eq_true rfl, Nat.le_of_ble_eq_true rfl⟩ ⟨k, A i, B i, wnF A B s c i (A i * 6 + B i) &&& s i, hk, a1, a2, Nat.lt_of_le_of_lt Nat.and_le_right a4, hsh, by rw [nI_clamp (show i < 2 ^ 31 by omega), m2, m3, m5, n_ixc a1 a2, mk, n_and]⟩ (fun rv_ S1 M1 hq_68 => ?_)
          obtain ⟨eS_, eM_, rfl⟩ := hq_68 k (A i) (B i) (wnF A B s c i (A i * 6 + B i) &&& s i) a1 a2 (Nat.lt_of_le_of_lt Nat.and_le_right a4) (by rw [nI_clamp (show i < 2 ^ 31 by omega), m2, m3, m5, n_ixc a1 a2, mk, n_and])
          replace eS_ := eS_.symm
          replace eM_ := eM_.symm
          subst eS_ eM_
          try dsimp only [Option.toList, List.cons_append, List.nil_append]
          refine xt_nil (t := 71) rfl ?_
          refine xt_blk rfl rfl (by dsimp only [List.take]) ?_
          refine xt_inc rfl (by dsimp only [x_sto]) ?_
          refine xt_goto (t := 7) rfl ?_
          refine xt_cut rfl rfl (by dsimp only [List.take]) ?_
          rw [n_bit (by omega) (by omega), n_eq0 (by have := bi_lt c i; unfold bi at this; omega)] at hc_22
          refine ⟨n - (i + 1), by omega, i + 1, _, by omega, ?_, fun j hj => ?_, rfl, rfl, x_row_row M k _ _, rfl, rfl, rfl, by rw [nI_add], rfl⟩
          · rw [x_row_row, x_row_ne _ _ (Ne.symm hk1)]; exact hsz
          · have hb := bi_lt c i
            rw [x_row_self, upd_nw hg (A i) (B i) _ j hj]
            show _ = nI ((if bi c i = 1 then nw (wnF A B s c i) (A i) (B i) (wnF A B s c i (A i * 6 + B i) &&& s i) else wnF A B s c i) j)
            rw [if_pos (by unfold bi at hb ⊢; omega)]
