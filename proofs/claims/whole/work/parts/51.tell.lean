/-! THE REFERENCE: tellAll -/
def Ar (M : x_M) (d : Nat) (f : Nat → Nat) : Prop := ∀ j, j < 36 → f j < 8192 ∧ M 67 (36 * d + j) = nI (f j)
def rmv (x o : Nat) : Nat := x &&& (o ^^^ (2 ^ 32 - 1))
theorem rmv_tb {x o i : Nat} (hi : i < 32) : (rmv x o).testBit i = (x.testBit i && !o.testBit i) := by
  unfold rmv
  rw [Nat.testBit_and, Nat.testBit_xor, Nat.testBit_two_pow_sub_one]
  simp [hi]
theorem rmv_le (x o : Nat) : rmv x o ≤ x := Nat.and_le_left
theorem rmv_0 {x : Nat} (h : x < 2 ^ 32) : rmv x 0 = x := by
  apply Nat.eq_of_testBit_eq
  intro i
  by_cases hi : i < 32
  · rw [rmv_tb hi]; simp
  · rw [Nat.testBit_lt_two_pow (Nat.lt_of_lt_of_le h (Nat.pow_le_pow_right (by decide) (by omega))), Nat.testBit_lt_two_pow (Nat.lt_of_le_of_lt (rmv_le x 0) (Nat.lt_of_lt_of_le h (Nat.pow_le_pow_right (by decide) (by omega))))]
theorem tn_and {x y : Nat} : tn (x &&& y) = tn x &&& tn y := by
  apply tb_ext (tn_lt _) (Nat.lt_of_le_of_lt Nat.and_le_left (tn_lt _))
  intro i hi
  rw [Nat.testBit_and, tn_tb _ hi, tn_tb _ hi, tn_tb _ hi, Nat.testBit_and]
/-- the net that is told along a way, without some -/
def tN (V : x_M) (w o : Nat) : Nat → Nat := wnF (nA V) (nB V) (nS V w) (rmv (tbf (V 7) (nN V)) o) (nN V)
theorem tN_0 {V : x_M} (h : OkM V) (w : Nat) : tN V w 0 = tF V w := by
  unfold tN tF
  rw [rmv_0 (Nat.lt_of_lt_of_le (tbf_30 _ h.1) (by decide))]
theorem tN_ok {V : x_M} (h : OkM V) {w : Nat} (hw : w < 2) (o : Nat) : Bd (tN V w o) ∧ Sy (tN V w o) ∧ ∀ a, a < 6 → tN V w o (a * 6 + a) = 64 := wnF_ok (OkM_n h hw) _ (Nat.le_refl _)
theorem cM_14 (M : x_M) : cM M 1 4 = M 53 4 := rfl
theorem cM_2 (M : x_M) : cM M 2 = M 58 := rfl
theorem cM_3 (M : x_M) : cM M 3 = M 59 := rfl
theorem cM_7 (M : x_M) : cM M 7 = M 61 := rfl
theorem cM_41 (M : x_M) : cM M 41 = M 64 := rfl
theorem cM_42 (M : x_M) : cM M 42 = M 63 := rfl
theorem cM_52 (M : x_M) : cM M 52 = M 65 := rfl
theorem cM_s (M : x_M) {w : Nat} (hw : w < 2) (i : Nat) : cM M (5 + w) i = M 60 (2 * i + w) := by
  rcases (show w = 0 ∨ w = 1 by omega) with rfl | rfl <;> rfl
theorem cM_w (M : x_M) {w j : Nat} (hw : w < 8) (hj : j < 2) : cM M (44 + w) j = M 62 (2 * w + j) := by
  unfold cM
  rw [if_neg (by omega), if_neg (by omega), if_neg (by omega), if_neg (by omega), if_neg (by omega), if_neg (by omega), if_neg (by omega), if_neg (by omega), if_neg (by omega), if_pos ⟨by omega, by omega, hj⟩]
  congr 1
  omega
theorem wnF_s {A B s : Nat → Nat} {c i : Nat} (h : bi c i = 1) : wnF A B s c (i + 1) = nw (wnF A B s c i) (A i) (B i) (wnF A B s c i (A i * 6 + B i) &&& s i) := by
  show (if bi c i = 1 then _ else _) = _
  rw [if_pos h]
theorem wnF_n {A B s : Nat → Nat} {c i : Nat} (h : ¬ bi c i = 1) : wnF A B s c (i + 1) = wnF A B s c i := by
  show (if bi c i = 1 then _ else _) = _
  rw [if_neg h]
theorem n_6 {a b : Nat} (ha : a < 6) (hb : b < 6) : (nI 6 * nI a + nI b).toNatClampNeg = a * 6 + b := by
  rw [pk_mul, nI_add, nI_clamp (by omega)]; omega
theorem v_6 {a b : Nat} (ha : a < 6) (hb : b < 6) : vp_in (nI 6 * nI a + nI b) 576 := by
  rw [pk_mul, nI_add]; exact vp_in_nI (by omega) (by decide)
theorem n_2 {i w : Nat} (hi : i < 30) (hw : w < 2) : (nI 2 * nI i + nI w).toNatClampNeg = 2 * i + w := by
  rw [pk_mul, nI_add, nI_clamp (by omega)]
theorem v_2 {i w : Nat} (hi : i < 30) (hw : w < 2) : vp_in (nI 2 * nI i + nI w) 60 := by
  rw [pk_mul, nI_add]; exact vp_in_nI (by omega) (by decide)
theorem tn_Sy_and {g : Nat → Nat} (hS : Sy g) {a b v : Nat} (ha : a < 6) (hb : b < 6) (hab : a ≠ b) : g (b * 6 + a) &&& tn v = tn (g (a * 6 + b) &&& v) := by
  rw [tn_and, hS a b ha hb hab]
def q_X7_tellAll : x_K := (3, fun as S M => ∃ (w o : Nat), w < 2 ∧ o < 2 ^ 31 ∧ OkM (cM M) ∧ (∀ j, j < 30 → M 61 j = nI 0 ∨ M 61 j = nI 1) ∧ S = SH ∧ as = [.inr (.inl 53), .inl (nI w), .inl (nI o)],
  fun as S M rv_ S' M' => ∀ (w o : Nat), w < 2 → o < 2 ^ 31 → as = [.inr (.inl 53), .inl (nI w), .inl (nI o)] → S' = S ∧ (∃ gI, M' = x_row M 67 gI ∧ ∀ j, j < 36 → gI j = nI (tN (cM M) w o j)) ∧ rv_ = none, 0, 0)
theorem r_X7_tellAll : ∀ as S M, q_X7_tellAll.2.1 as S M → ∃ (k : Nat) (as' : List x_V) (fs : List (Option Nat)), as = .inr (.inl k) :: as' ∧ S[k]? = some (.inl (5, fs)) := by
  rintro as S M ⟨w, o, -, -, -, -, rfl, rfl⟩
  exact ⟨53, _, _, rfl, rfl⟩
def b_X7_tellAll : x_B := [(0, 3, [(.iconst 0, 1), (.istore_n 3, 1)]),
  (2, 4, [(.iload_n 3, 1), (.bipush 36, 2), (.if_icmp .ge 34, 3), (.aload_n 0, 1), (.getfield 50, 3), (.iload_n 3, 1), (.iload_n 3, 1), (.bipush 6, 2), (.idiv, 1), (.iload_n 3, 1), (.bipush 6, 2), (.irem, 1), (.if_icmp .ne 8, 3), (.bipush 64, 2), (.goto 6, 3)]),
  (29, 4, [(.sipush 8191, 3)]),
  (32, 4, [(.iastore, 1), (.iinc 3 1, 3), (.goto (-34), 3)]),
  (39, 4, [(.iconst 0, 1), (.istore_n 3, 1)]),
  (41, 4, [(.iload_n 3, 1), (.aload_n 0, 1), (.getfield 104, 3), (.if_icmp .ge 97, 3), (.aload_n 0, 1), (.getfield 31, 3), (.iload_n 3, 1), (.baload, 1), (.ifCond .eq 82, 3), (.iload_n 2, 1), (.iload_n 3, 1), (.ishr, 1), (.iconst 1, 1), (.iand, 1), (.ifCond .ne 74, 3), (.aload_n 0, 1), (.getfield 50, 3), (.bipush 6, 2), (.aload_n 0, 1), (.getfield 22, 3), (.iload_n 3, 1), (.iaload, 1), (.imul, 1), (.aload_n 0, 1), (.getfield 25, 3), (.iload_n 3, 1), (.iaload, 1), (.iadd, 1), (.dup2, 1), (.iaload, 1), (.aload_n 0, 1), (.getfield 28, 3), (.iconst 2, 1), (.iload_n 3, 1), (.imul, 1), (.iload_n 1, 1), (.iadd, 1), (.iaload, 1), (.iand, 1), (.iastore, 1), (.aload_n 0, 1), (.getfield 50, 3), (.bipush 6, 2), (.aload_n 0, 1), (.getfield 25, 3), (.iload_n 3, 1), (.iaload, 1), (.imul, 1), (.aload_n 0, 1), (.getfield 22, 3), (.iload_n 3, 1), (.iaload, 1), (.iadd, 1), (.dup2, 1), (.iaload, 1), (.aload_n 0, 1), (.getfield 28, 3), (.iconst 2, 1), (.iload_n 3, 1), (.imul, 1), (.iload_n 1, 1), (.iadd, 1), (.iaload, 1), (.invokestatic 89, 3), (.iand, 1), (.iastore, 1)]),
  (137, 4, [(.iinc 3 1, 3), (.goto (-99), 3)]),
  (143, 4, [(.return_, 1)])]
theorem b_X7_tellAll_ok : x_okB cX7_tellAll 4 b_X7_tellAll = true := by decide +kernel
def X_X7_tellAll : x_X := ([(50, 5, 14), (104, 5, 4), (31, 5, 8), (22, 5, 5), (25, 5, 6), (28, 5, 7)], [], [], [], [(267, q_X7_turn)], (0, 0), x_kn, x_kf, 5, false)
theorem X_X7_tellAll_ok : x_okT RX7 X_X7_tellAll = true := by decide +kernel
theorem k_X7_tellAll (l : Launch) : ∀ z ∈ X_X7_tellAll.2.2.2.2.1, x_Cal l (x_rm 2 0 0) cX7_tellAll RX7 4 z.1 z.2 := List.forall_mem_cons.mpr ⟨x_cal_S (idx := 89) (c_X7_turn l) ⟨by decide, by decide⟩ (by decide +kernel) (by decide +kernel) (by decide +kernel) (by decide +kernel) (by decide +kernel), fun _ h => absurd h List.not_mem_nil⟩
set_option maxHeartbeats 4000000 in
set_option maxRecDepth 100000 in
theorem c_X7_tellAll (l : Launch) : x_CT l yX7_tellAll cX7_tellAll 4 none 2 q_X7_tellAll := by
  refine x_meth (X := X_X7_tellAll) (bl := b_X7_tellAll) (cut := [2, 41]) (own := RX7) 30 (by decide) rfl X_X7_tellAll_ok b_X7_tellAll_ok rfl (Nat.le_of_ble_eq_true rfl) (k_X7_tellAll l) ?_
  rintro as S M - ⟨w, o, hw, ho, hok, hbl, rfl, rfl⟩
  have hn30 := hok.1
  have hsz : M 53 4 = nI (nN (cM M)) := hok.2.1
  refine ⟨fun μ pc ls st S' M' cs sl => (∃ k gI, k ≤ 36 ∧ M' = x_row M 67 gI ∧ (∀ j, j < k → gI j = nI (opn j)) ∧ pc = 2 ∧ st = [] ∧ S' = SH ∧ cs = 0 ∧ sl = 0 ∧ ls = [.inr (.inl 53), .inl (nI w), .inl (nI o), .inl (nI k)] ∧ μ = 100 + (36 - k)) ∨ (∃ i gI, i ≤ nN (cM M) ∧ M' = x_row M 67 gI ∧ (∀ j, j < 36 → gI j = nI (wnF (nA (cM M)) (nB (cM M)) (nS (cM M) w) (rmv (tbf (cM M 7) (nN (cM M))) o) i j)) ∧ pc = 41 ∧ st = [] ∧ S' = SH ∧ cs = 0 ∧ sl = 0 ∧ ls = [.inr (.inl 53), .inl (nI w), .inl (nI o), .inl (nI i)] ∧ μ = nN (cM M) - i), ?_, ?_⟩
  · skip
    refine xt_blk rfl rfl (by dsimp only [List.take]) ?_
    refine xt_ic ?_
    refine xt_isn3 rfl (by dsimp only [x_sto]) ?_
    refine xt_nil (t := 2) rfl ?_
    refine xt_cut rfl rfl (by dsimp only [List.take]) ?_
    exact ⟨136, Or.inl ⟨0, M 67, by omega, by rw [x_row_id], fun j hj => by omega, rfl, rfl, rfl, rfl, rfl, rfl, rfl⟩⟩
  · rintro μ pc ls st S2 M2 cs sl (⟨k, gI, hk, rfl, hg, rfl, rfl, rfl, rfl, rfl, rfl, rfl⟩ | ⟨i, gI, hi0, rfl, hg, rfl, rfl, rfl, rfl, rfl, rfl, rfl⟩)
    · refine ⟨_, rfl, ?_⟩
      refine xt_iln3 rfl ?_
      refine xt_bi ?_
      refine xt_cge (t := 39) rfl (fun hc_5 => ?_) (fun hc_5 => ?_)
      · skip
        refine xt_blk rfl rfl (by dsimp only [List.take]) ?_
        refine xt_ic ?_
        refine xt_isn3 rfl (by dsimp only [x_sto]) ?_
        refine xt_nil (t := 41) rfl ?_
        refine xt_cut rfl rfl (by dsimp only [List.take]) ?_
        have hk36 : k = 36 := by rw [nI_leI (by omega) (by omega)] at hc_5; omega
        subst hk36
        exact ⟨nN (cM M), by omega, Or.inr ⟨0, gI, by omega, rfl, hg, rfl, rfl, rfl, rfl, rfl, rfl, rfl⟩⟩
      · skip
        refine xt_aln0 rfl (by first | decide | omega | assumption) ?_
        refine xt_gfr (q := (5, 14)) rfl (by first | rfl | assumption) rfl ?_
        refine xt_iln3 rfl ?_
        refine xt_iln3 rfl ?_
        refine xt_bi ?_
        refine xt_div (by decide) ?_
        refine xt_iln3 rfl ?_
        refine xt_bi ?_
        refine xt_rem (by decide) ?_
        refine xt_cne (t := 29) rfl (fun hc_21 => ?_) (fun hc_21 => ?_)
        · skip
          refine xt_blk rfl rfl (by dsimp only [List.take]) ?_
          refine xt_si ?_
          refine xt_nil (t := 32) rfl ?_
          refine xt_blk rfl rfl (by dsimp only [List.take]) ?_
          refine xt_ias (by first | rfl | assumption) (show vp_in _ 576 from vp_in_nI (by rw [nI_leI (by omega) (by omega)] at hc_5; omega) (by decide)) ?_
          refine xt_inc rfl (by dsimp only [x_sto]) ?_
          refine xt_goto (t := 2) rfl ?_
          refine xt_cut rfl rfl (by dsimp only [List.take]) ?_
          have hk36 : k < 36 := by rw [nI_leI (by omega) (by omega)] at hc_5; omega
          have e0 : ¬ k / 6 = k % 6 := by rw [pk_rem (by omega) (by decide) (by decide), pk_div (by omega) (by decide) (by decide), nI_eq (by omega) (by omega)] at hc_21; exact hc_21
          refine ⟨100 + (36 - (k + 1)), by omega, Or.inl ⟨k + 1, _, by omega, by rw [x_row_self, x_row_row, nI_clamp (by omega)], ?_, rfl, rfl, rfl, rfl, rfl, by rw [nI_add], rfl⟩⟩
          intro j hj
          unfold upd
          by_cases e : j = k
          · subst e; rw [if_pos rfl]; unfold opn; rw [if_neg e0]
          · rw [if_neg e]; exact hg j (by omega)
        · skip
          refine xt_bi ?_
          refine xt_goto (t := 32) rfl ?_
          refine xt_blk rfl rfl (by dsimp only [List.take]) ?_
          refine xt_ias (by first | rfl | assumption) (show vp_in _ 576 from vp_in_nI (by rw [nI_leI (by omega) (by omega)] at hc_5; omega) (by decide)) ?_
          refine xt_inc rfl (by dsimp only [x_sto]) ?_
          refine xt_goto (t := 2) rfl ?_
          refine xt_cut rfl rfl (by dsimp only [List.take]) ?_
          have hk36 : k < 36 := by rw [nI_leI (by omega) (by omega)] at hc_5; omega
          have e0 : k / 6 = k % 6 := by rw [pk_rem (by omega) (by decide) (by decide), pk_div (by omega) (by decide) (by decide), nI_eq (by omega) (by omega)] at hc_21; exact hc_21
          refine ⟨100 + (36 - (k + 1)), by omega, Or.inl ⟨k + 1, _, by omega, by rw [x_row_self, x_row_row, nI_clamp (by omega)], ?_, rfl, rfl, rfl, rfl, rfl, by rw [nI_add], rfl⟩⟩
          intro j hj
          unfold upd
          by_cases e : j = k
          · subst e; rw [if_pos rfl]; unfold opn; rw [if_pos e0]
          · rw [if_neg e]; exact hg j (by omega)
    · refine ⟨_, rfl, ?_⟩
      refine xt_iln3 rfl ?_
      refine xt_aln0 rfl (by first | decide | omega | assumption) ?_
      refine xt_gfi (q := (5, 4)) rfl (by first | rfl | assumption) rfl ?_
      refine xt_cge (t := 143) rfl (fun hc_46 => ?_) (fun hc_46 => ?_)
      · skip
        refine xt_blk rfl rfl (by dsimp only [List.take]) ?_
        refine xt_rv rfl (Nat.le_refl _) ?_
        intro w2 o2 hw2 ho2 e2
        simp only [List.cons.injEq, Sum.inl.injEq, and_true, true_and] at e2
        obtain ⟨ew, eo⟩ := e2
        rw [nI_eq (by omega) (by omega)] at ew eo
        subst ew eo
        have hc' : nI (nN (cM M)) ≤ nI i := by rw [← hsz]; exact hc_46
        have hin : i = nN (cM M) := by rw [nI_leI (by omega) (by omega)] at hc'; omega
        subst hin
        exact ⟨rfl, ⟨gI, rfl, hg⟩, rfl⟩
      · skip
        have hc' : ¬ nI (nN (cM M)) ≤ nI i := by rw [← hsz]; exact hc_46
        have hi : i < nN (cM M) := by rw [nI_leI (by omega) (by omega)] at hc'; omega
        have hn30 := hok.1
        obtain ⟨hA, hB, hAB, hSl, eA, eB, eS⟩ := hok.2.2 w hw i hi
        rw [cM_2] at eA
        rw [cM_3] at eB
        rw [cM_s M hw] at eS
        refine xt_aln0 rfl (by first | decide | omega | assumption) ?_
        refine xt_gfr (q := (5, 8)) rfl (by first | rfl | assumption) rfl ?_
        refine xt_iln3 rfl ?_
        refine xt_bal (by first | rfl | assumption) (show vp_in _ 30 from vp_in_nI (by omega) (by decide)) ?_
        refine xt_eq (t := 137) rfl (fun hc_55 => ?_) (fun hc_55 => ?_)
        · skip
          refine xt_blk rfl rfl (by dsimp only [List.take]) ?_
          refine xt_inc rfl (by dsimp only [x_sto]) ?_
          refine xt_goto (t := 41) rfl ?_
          refine xt_cut rfl rfl (by dsimp only [List.take]) ?_
          have hb : ¬ bi (rmv (tbf (cM M 7) (nN (cM M))) o) i = 1 := by
            rw [bi_tb, rmv_tb (by omega), tbf_tb]
            rw [nI_clamp (by omega)] at hc_55
            have : (cM M 7) i = 0 := hc_55
            simp [this]
          refine ⟨nN (cM M) - (i + 1), by omega, Or.inr ⟨i + 1, gI, by omega, rfl, fun j hj => by rw [wnF_n hb]; exact hg j hj, rfl, rfl, rfl, rfl, rfl, by rw [nI_add], rfl⟩⟩
        · skip
          refine xt_iln2 rfl ?_
          refine xt_iln3 rfl ?_
          refine xt_shr ?_
          refine xt_ic ?_
          refine xt_and ?_
          refine xt_ne (t := 137) rfl (fun hc_63 => ?_) (fun hc_63 => ?_)
          · skip
            refine xt_blk rfl rfl (by dsimp only [List.take]) ?_
            refine xt_inc rfl (by dsimp only [x_sto]) ?_
            refine xt_goto (t := 41) rfl ?_
            refine xt_cut rfl rfl (by dsimp only [List.take]) ?_
            have hb : ¬ bi (rmv (tbf (cM M 7) (nN (cM M))) o) i = 1 := by
              rw [n_bit ho (by omega), n_eq0 (by omega)] at hc_63
              have h1 : o.testBit i = true := by rw [← bi_tb]; unfold bi; omega
              rw [bi_tb, rmv_tb (by omega), h1]
              simp
            refine ⟨nN (cM M) - (i + 1), by omega, Or.inr ⟨i + 1, gI, by omega, rfl, fun j hj => by rw [wnF_n hb]; exact hg j hj, rfl, rfl, rfl, rfl, rfl, by rw [nI_add], rfl⟩⟩
          · skip
            have eA2 : M 58 (nI i).toNatClampNeg = nI (nA (cM M) i) := by rw [nI_clamp (by omega)]; exact eA
            have eB2 : M 59 (nI i).toNatClampNeg = nI (nB (cM M) i) := by rw [nI_clamp (by omega)]; exact eB
            have eS2 : M 60 (nI 2 * nI i + nI w).toNatClampNeg = nI (nS (cM M) w i) := by rw [n_2 (by omega) hw]; exact eS
            have eA3 : ∀ g, (x_row M 67 g) 58 (nI i).toNatClampNeg = nI (nA (cM M) i) := fun g => eA2
            have eB3 : ∀ g, (x_row M 67 g) 59 (nI i).toNatClampNeg = nI (nB (cM M) i) := fun g => eB2
            have eS3 : ∀ g, (x_row M 67 g) 60 (nI 2 * nI i + nI w).toNatClampNeg = nI (nS (cM M) w i) := fun g => eS2
            refine xt_aln0 rfl (by first | decide | omega | assumption) ?_
            refine xt_gfr (q := (5, 14)) rfl (by first | rfl | assumption) rfl ?_
            refine xt_bi ?_
            refine xt_aln0 rfl (by first | decide | omega | assumption) ?_
            refine xt_gfr (q := (5, 5)) rfl (by first | rfl | assumption) rfl ?_
            refine xt_iln3 rfl ?_
            refine xt_ial (by first | rfl | assumption) (show vp_in _ 30 from vp_in_nI (by omega) (by decide)) ?_
            refine xt_mul ?_
            refine xt_aln0 rfl (by first | decide | omega | assumption) ?_
            refine xt_gfr (q := (5, 6)) rfl (by first | rfl | assumption) rfl ?_
            refine xt_iln3 rfl ?_
            refine xt_ial (by first | rfl | assumption) (show vp_in _ 30 from vp_in_nI (by omega) (by decide)) ?_
            refine xt_add ?_
            refine xt_dup2 ?_
            refine xt_ial (by first | rfl | assumption) (show vp_in (nI 6 * M 58 (nI i).toNatClampNeg + M 59 (nI i).toNatClampNeg) 576 from by rw [eA2, eB2]; exact v_6 hA hB) ?_
            refine xt_aln0 rfl (by first | decide | omega | assumption) ?_
            refine xt_gfr (q := (5, 7)) rfl (by first | rfl | assumption) rfl ?_
            refine xt_ic ?_
            refine xt_iln3 rfl ?_
            refine xt_mul ?_
            refine xt_iln1 rfl ?_
            refine xt_add ?_
            refine xt_ial (by first | rfl | assumption) (v_2 (by omega) hw) ?_
            refine xt_and ?_
            refine xt_ias (by first | rfl | assumption) (show vp_in (nI 6 * M 58 (nI i).toNatClampNeg + M 59 (nI i).toNatClampNeg) 576 from by rw [eA2, eB2]; exact v_6 hA hB) ?_
            refine xt_aln0 rfl (by first | decide | omega | assumption) ?_
            refine xt_gfr (q := (5, 14)) rfl (by first | rfl | assumption) rfl ?_
            refine xt_bi ?_
            refine xt_aln0 rfl (by first | decide | omega | assumption) ?_
            refine xt_gfr (q := (5, 6)) rfl (by first | rfl | assumption) rfl ?_
            refine xt_iln3 rfl ?_
            refine xt_ial (by first | rfl | assumption) (show vp_in _ 30 from vp_in_nI (by omega) (by decide)) ?_
            refine xt_mul ?_
            refine xt_aln0 rfl (by first | decide | omega | assumption) ?_
            refine xt_gfr (q := (5, 5)) rfl (by first | rfl | assumption) rfl ?_
            refine xt_iln3 rfl ?_
            refine xt_ial (by first | rfl | assumption) (show vp_in _ 30 from vp_in_nI (by omega) (by decide)) ?_
            refine xt_add ?_
            refine xt_dup2 ?_
            refine xt_ial (by first | rfl | assumption) (show vp_in (nI 6 * M 59 (nI i).toNatClampNeg + M 58 (nI i).toNatClampNeg) 576 from by rw [eA2, eB2]; exact v_6 hB hA) ?_
            refine xt_aln0 rfl (by first | decide | omega | assumption) ?_
            refine xt_gfr (q := (5, 7)) rfl (by first | rfl | assumption) rfl ?_
            refine xt_ic ?_
            refine xt_iln3 rfl ?_
            refine xt_mul ?_
            refine xt_iln1 rfl ?_
            refine xt_add ?_
            refine xt_ial (by first | rfl | assumption) (v_2 (by omega) hw) ?_
            refine xt_v1 (key := 267) (q := q_X7_turn) rfl rfl rfl rfl rfl ⟨Nat.le_of_ble_eq_true rfl, Nat.le_of_ble_eq_true rfl⟩ ⟨nS (cM M) w i, hSl, by show [Sum.inl (M 60 (nI 2 * nI i + nI w).toNatClampNeg)] = _; rw [eS2]⟩ (fun rv_ S1 M1 hq_132 => ?_)
            obtain ⟨eS_, eM_, rfl⟩ := hq_132 (nS (cM M) w i) hSl (by show [Sum.inl (M 60 (nI 2 * nI i + nI w).toNatClampNeg)] = _; rw [eS2])
            replace eS_ := eS_.symm
            replace eM_ := eM_.symm
            subst eS_ eM_
            try dsimp only [Option.toList, List.cons_append, List.nil_append]
            refine xt_and ?_
            refine xt_ias (by first | rfl | assumption) (show vp_in (nI 6 * M 59 (nI i).toNatClampNeg + M 58 (nI i).toNatClampNeg) 576 from by rw [eA2, eB2]; exact v_6 hB hA) ?_
            refine xt_nil (t := 137) rfl ?_
            refine xt_blk rfl rfl (by dsimp only [List.take]) ?_
            refine xt_inc rfl (by dsimp only [x_sto]) ?_
            refine xt_goto (t := 41) rfl ?_
            refine xt_cut rfl rfl (by dsimp only [List.take]) ?_
            have hb : bi (rmv (tbf (cM M 7) (nN (cM M))) o) i = 1 := by
              rw [n_bit ho (by omega), n_eq0 (by omega)] at hc_63
              have h1 : ¬ o.testBit i = true := by rw [← bi_tb]; unfold bi; omega
              rw [nI_clamp (by omega)] at hc_55
              have h2 : ¬ (cM M 7) i = 0 := hc_55
              rw [bi_tb, rmv_tb (by omega), tbf_tb]
              simp [h1, h2, hi]
            refine ⟨nN (cM M) - (i + 1), by omega, Or.inr ⟨i + 1, upd (upd gI (nA (cM M) i * 6 + nB (cM M) i) (gI (nA (cM M) i * 6 + nB (cM M) i) &&& nI (nS (cM M) w i))) (nB (cM M) i * 6 + nA (cM M) i) (upd gI (nA (cM M) i * 6 + nB (cM M) i) (gI (nA (cM M) i * 6 + nB (cM M) i) &&& nI (nS (cM M) w i)) (nB (cM M) i * 6 + nA (cM M) i) &&& nI (tn (nS (cM M) w i))), by omega, by simp only [x_row_self, x_row_row, eA3, eB3, eS3, n_6 hA hB, n_6 hB hA], ?_, rfl, rfl, rfl, rfl, rfl, by rw [nI_add], rfl⟩⟩
            intro j hj
            have hw0 := wnF_ok (c := rmv (tbf (cM M 7) (nN (cM M))) o) (OkM_n hok hw) i (by omega)
            have hne2 : nB (cM M) i * 6 + nA (cM M) i ≠ nA (cM M) i * 6 + nB (cM M) i := by omega
            rw [wnF_s hb]
            unfold nw upd
            by_cases e : j = nB (cM M) i * 6 + nA (cM M) i
            · rw [if_pos e, if_pos e, if_neg hne2, hg _ (by omega), n_and, tn_Sy_and hw0.2.1 hA hB hAB]
            · rw [if_neg e, if_neg e]
              by_cases e2 : j = nA (cM M) i * 6 + nB (cM M) i
              · rw [if_pos e2, if_pos e2, hg _ (by omega), n_and]
              · rw [if_neg e2, if_neg e2]; exact hg j hj
