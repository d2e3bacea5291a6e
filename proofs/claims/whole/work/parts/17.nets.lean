/-! NETS: leaves; Arrays.fill -/
theorem x_row_row (M : x_M) (k : Nat) (f g : Nat → Int32) : x_row (x_row M k f) k g = x_row M k g := by
  funext a
  unfold x_row
  split <;> rfl
theorem x_row_id (M : x_M) (k : Nat) : x_row M k (M k) = M := by
  funext a
  unfold x_row
  split
  · rename_i h; rw [h]
  · rfl
theorem x_cp_0 (f g : Nat → Int32) : x_cp f g 0 = g := by
  funext j
  simp [x_cp]
theorem x_cp_s (f g : Nat → Int32) (i : Nat) : upd (x_cp f g i) i (f i) = x_cp f g (i + 1) := by
  funext j
  unfold upd x_cp
  by_cases h : j = i
  · subst h
    simp
  · rw [if_neg h]
    by_cases h2 : j < i
    · rw [if_pos h2, if_pos (by omega)]
    · rw [if_neg h2, if_neg (by omega)]
def q_J7_fill : x_K := (2, fun as S M => ∃ (k n : Nat) (v : Int32), k < 1000 ∧ n < 2 ^ 30 ∧ S[k]? = some (.inr (.inl (false, n))) ∧ as = [.inr (.inl k), .inl v], fun as S M rv_ S' M' => ∀ (k n : Nat) (v : Int32), S[k]? = some (.inr (.inl (false, n))) → as = [.inr (.inl k), .inl v] → S' = S ∧ M' = x_row M k (x_cp (fun _ => v) (M k) n) ∧ rv_ = none, 0, 0)
def b_J7_fill : x_B := [(0, 2, [(.iconst 0, 1), (.istore_n 2, 1), (.aload_n 0, 1), (.arraylength, 1), (.istore_n 3, 1)]),
  (5, 4, [(.iload_n 2, 1), (.iload_n 3, 1), (.if_icmp .ge 13, 3), (.aload_n 0, 1), (.iload_n 2, 1), (.iload_n 1, 1), (.iastore, 1), (.iinc 2 1, 3), (.goto (-12), 3)]),
  (20, 4, [(.return_, 1)])]
theorem b_J7_fill_ok : x_okB cJ7_fill_53178 4 b_J7_fill = true := by decide +kernel
def X_J7_fill : x_X := ([], [], [], [], [], (0, 0), x_kn, x_kf, 5, false)
theorem X_J7_fill_ok : x_okT RJ7 X_J7_fill = true := by decide +kernel
theorem k_J7_fill (l : Launch) : ∀ z ∈ X_J7_fill.2.2.2.2.1, x_Cal l (x_rm 1 0 0) cJ7_fill_53178 RJ7 4 z.1 z.2 := fun _ h => absurd h List.not_mem_nil
set_option maxHeartbeats 4000000 in
set_option maxRecDepth 100000 in
theorem c_J7_fill (l : Launch) : x_CT l yJ7_fill_53178 cJ7_fill_53178 4 none 1 q_J7_fill := by
  refine x_meth (X := X_J7_fill) (bl := b_J7_fill) (cut := [5]) (own := RJ7) 30 (by decide) rfl X_J7_fill_ok b_J7_fill_ok rfl (by decide) (k_J7_fill l) ?_
  rintro as S M - ⟨k, n, v, hk, hn, hsh, rfl⟩
  refine ⟨fun μ pc ls st S' M' cs sl => ∃ i, i ≤ n ∧ pc = 5 ∧ st = [] ∧ S' = S ∧ M' = x_row M k (x_cp (fun _ => v) (M k) i) ∧ cs = 0 ∧ sl = 0 ∧ ls = [.inr (.inl k), .inl v, .inl (nI i), .inl (nI n)] ∧ μ = n - i, ?_, ?_⟩
  · skip
    refine xt_blk rfl rfl (by dsimp only [List.take]) ?_
    refine xt_ic ?_
    refine xt_isn2 rfl (by dsimp only [x_sto]) ?_
    refine xt_aln0 rfl (by first | decide | omega | assumption) ?_
    refine xt_len (by first | rfl | assumption) ?_
    refine xt_isn3 rfl (by dsimp only [x_sto]) ?_
    refine xt_nil (t := 5) rfl ?_
    refine xt_cut rfl rfl (by dsimp only [List.take]) ?_
    exact ⟨n, 0, by omega, rfl, rfl, rfl, by rw [x_cp_0, x_row_id], rfl, rfl, rfl, rfl⟩
  · rintro μ pc ls st S2 M2 cs sl (⟨i, hi, rfl, rfl, rfl, rfl, rfl, rfl, rfl, rfl⟩)
    · refine ⟨_, rfl, ?_⟩
      refine xt_iln2 rfl ?_
      refine xt_iln3 rfl ?_
      refine xt_cge (t := 20) rfl (fun hc_7 => ?_) (fun hc_7 => ?_)
      · skip
        refine xt_blk rfl rfl (by dsimp only [List.take]) ?_
        refine xt_rv rfl (Nat.le_refl _) ?_
        have h13 : i = n := by rw [nI_leI (by omega) (by omega)] at hc_7; omega
        intro k2 n2 v2 hs2 e2
        simp only [List.cons.injEq, Sum.inl.injEq, Sum.inr.injEq, and_true] at e2
        obtain ⟨rfl, rfl⟩ := e2
        rw [hsh] at hs2
        simp only [Option.some.injEq, Sum.inr.injEq, Sum.inl.injEq, Prod.mk.injEq, true_and] at hs2
        subst hs2
        subst h13
        exact ⟨rfl, rfl, rfl⟩
      · skip
        refine xt_aln0 rfl (by first | decide | omega | assumption) ?_
        refine xt_iln2 rfl ?_
        refine xt_iln1 rfl ?_
        refine xt_ias (by first | rfl | assumption) (vp_in_nI (by rw [nI_leI (by omega) (by omega)] at hc_7; omega) (by omega)) ?_
        refine xt_inc rfl (by dsimp only [x_sto]) ?_
        refine xt_goto (t := 5) rfl ?_
        refine xt_cut rfl rfl (by dsimp only [List.take]) ?_
        have hlt : i < n := by rw [nI_leI (by omega) (by omega)] at hc_7; omega
        exact ⟨n - (i + 1), by omega, i + 1, by omega, rfl, rfl, rfl, by rw [x_row_self, x_row_row, nI_clamp (by omega), ← x_cp_s], rfl, rfl, by rw [nI_add], rfl⟩
def pr (a b : Nat) : Nat := if a < b then a * (11 - a) / 2 + b - a - 1 else b * (11 - b) / 2 + a - b - 1
theorem pr_lt0 : ∀ a, a < 6 → ∀ b, b < 6 → a ≠ b → pr a b < 15 := by decide
theorem pr_c0 : ∀ a, a < 6 → ∀ b, b < 6 → a ≠ b → pr a b = pr b a := by decide
theorem pr_lt {a b : Nat} (ha : a < 6) (hb : b < 6) (h : a ≠ b) : pr a b < 15 := pr_lt0 a ha b hb h
theorem pr_c {a b : Nat} (ha : a < 6) (hb : b < 6) (h : a ≠ b) : pr a b = pr b a := pr_c0 a ha b hb h
def q_X1_pairOf : x_K := (2, fun as S M => ∃ (a : Nat) (b : Nat), a < 6 ∧ b < 6 ∧ a ≠ b ∧ as = [.inl (nI a), .inl (nI b)], fun as S M rv_ S' M' => ∀ (a : Nat) (b : Nat), a < 6 → b < 6 → a ≠ b → as = [.inl (nI a), .inl (nI b)] → S' = S ∧ M' = M ∧ rv_ = some (.inl (nI (pr a b))), 0, 0)
def b_X1_pairOf : x_B := [(0, 2, [(.iload_n 0, 1), (.iload_n 1, 1), (.if_icmp .ge 7, 3), (.iload_n 0, 1), (.goto 4, 3)]),
  (9, 2, [(.iload_n 1, 1)]),
  (10, 2, [(.istore_n 2, 1), (.iload_n 0, 1), (.iload_n 1, 1), (.if_icmp .ge 7, 3), (.iload_n 1, 1), (.goto 4, 3)]),
  (20, 3, [(.iload_n 0, 1)]),
  (21, 3, [(.istore_n 3, 1), (.iload_n 2, 1), (.bipush 11, 2), (.iload_n 2, 1), (.isub, 1), (.imul, 1), (.iconst 2, 1), (.idiv, 1), (.istore 4, 2), (.iload 4, 2), (.iload_n 3, 1), (.iadd, 1), (.iload_n 2, 1), (.isub, 1), (.iconst 1, 1), (.isub, 1), (.ireturn, 1)])]
theorem b_X1_pairOf_ok : x_okB cX1_pairOf 5 b_X1_pairOf = true := by decide +kernel
def X_X1_pairOf : x_X := ([], [], [], [], [], (0, 0), x_kn, x_kf, 5, false)
theorem X_X1_pairOf_ok : x_okT RX1 X_X1_pairOf = true := by decide +kernel
theorem k_X1_pairOf (l : Launch) : ∀ z ∈ X_X1_pairOf.2.2.2.2.1, x_Cal l (x_rm 1 0 0) cX1_pairOf RX1 5 z.1 z.2 := fun _ h => absurd h List.not_mem_nil
set_option maxHeartbeats 4000000 in
set_option maxRecDepth 100000 in
theorem c_X1_pairOf (l : Launch) : x_CT l yX1_pairOf cX1_pairOf 5 (some .int) 1 q_X1_pairOf := by
  refine x_meth (X := X_X1_pairOf) (bl := b_X1_pairOf) (cut := []) (own := RX1) 30 (by decide) rfl X_X1_pairOf_ok b_X1_pairOf_ok rfl (by decide) (k_X1_pairOf l) ?_
  rintro as S M - ⟨a, b, ha, hb, hne, rfl⟩
  refine ⟨fun _ _ _ _ _ _ _ _ => False, ?_, ?_⟩
  · skip
    refine xt_blk rfl rfl (by dsimp only [List.take]) ?_
    refine xt_iln0 rfl ?_
    refine xt_iln1 rfl ?_
    refine xt_cge (t := 9) rfl (fun hc_2 => ?_) (fun hc_2 => ?_)
    · skip
      refine xt_blk rfl rfl (by dsimp only [List.take]) ?_
      refine xt_iln1 rfl ?_
      refine xt_nil (t := 10) rfl ?_
      refine xt_blk rfl rfl (by dsimp only [List.take]) ?_
      refine xt_isn2 rfl (by dsimp only [x_sto]) ?_
      refine xt_iln0 rfl ?_
      refine xt_iln1 rfl ?_
      refine xt_cge (t := 20) rfl (fun hc_13 => ?_) (fun hc_13 => ?_)
      · skip
        refine xt_blk rfl rfl (by dsimp only [List.take]) ?_
        refine xt_iln0 rfl ?_
        refine xt_nil (t := 21) rfl ?_
        refine xt_blk rfl rfl (by dsimp only [List.take]) ?_
        refine xt_isn3 rfl (by dsimp only [x_sto]) ?_
        refine xt_iln2 rfl ?_
        refine xt_bi ?_
        refine xt_iln2 rfl ?_
        refine xt_sub ?_
        refine xt_mul ?_
        refine xt_ic ?_
        refine xt_div (by decide) ?_
        refine xt_ist rfl (by dsimp only [x_sto]) ?_
        refine xt_ild rfl ?_
        refine xt_iln3 rfl ?_
        refine xt_add ?_
        refine xt_iln2 rfl ?_
        refine xt_sub ?_
        refine xt_ic ?_
        refine xt_sub ?_
        refine xt_ri rfl (Nat.le_refl _) ?_
        have hle : b ≤ a := (nI_leI (by omega) (by omega)).mp hc_2
        have e : nI b * (nI 11 - nI b) / nI 2 + nI a - nI b - nI 1 = nI (pr a b) := by
          rw [pk_sub (by omega), pk_mul, pk_div (by have := Nat.mul_le_mul (show b ≤ 6 by omega) (show 11 - b ≤ 11 by omega); omega) (by decide) (by decide), nI_add, pk_sub (by omega), pk_sub (by omega)]
          unfold pr
          rw [if_neg (by omega)]
        intro a2 b2 h2a h2b hx2_0 e2
        simp only [List.cons.injEq, Sum.inl.injEq, and_true] at e2
        obtain ⟨e2a, e2b⟩ := e2
        rw [nI_eq (by omega) (by omega)] at e2a
        subst e2a
        rw [nI_eq (by omega) (by omega)] at e2b
        subst e2b
        exact ⟨rfl, rfl, congrArg some (congrArg Sum.inl e)⟩
      · skip
        refine xt_iln1 rfl ?_
        refine xt_goto (t := 21) rfl ?_
        refine xt_blk rfl rfl (by dsimp only [List.take]) ?_
        refine xt_isn3 rfl (by dsimp only [x_sto]) ?_
        refine xt_iln2 rfl ?_
        refine xt_bi ?_
        refine xt_iln2 rfl ?_
        refine xt_sub ?_
        refine xt_mul ?_
        refine xt_ic ?_
        refine xt_div (by decide) ?_
        refine xt_ist rfl (by dsimp only [x_sto]) ?_
        refine xt_ild rfl ?_
        refine xt_iln3 rfl ?_
        refine xt_add ?_
        refine xt_iln2 rfl ?_
        refine xt_sub ?_
        refine xt_ic ?_
        refine xt_sub ?_
        refine xt_ri rfl (Nat.le_refl _) ?_
        exact absurd hc_2 hc_13
    · skip
      refine xt_iln0 rfl ?_
      refine xt_goto (t := 10) rfl ?_
      refine xt_blk rfl rfl (by dsimp only [List.take]) ?_
      refine xt_isn2 rfl (by dsimp only [x_sto]) ?_
      refine xt_iln0 rfl ?_
      refine xt_iln1 rfl ?_
      refine xt_cge (t := 20) rfl (fun hc_13 => ?_) (fun hc_13 => ?_)
      · skip
        refine xt_blk rfl rfl (by dsimp only [List.take]) ?_
        refine xt_iln0 rfl ?_
        refine xt_nil (t := 21) rfl ?_
        refine xt_blk rfl rfl (by dsimp only [List.take]) ?_
        refine xt_isn3 rfl (by dsimp only [x_sto]) ?_
        refine xt_iln2 rfl ?_
        refine xt_bi ?_
        refine xt_iln2 rfl ?_
        refine xt_sub ?_
        refine xt_mul ?_
        refine xt_ic ?_
        refine xt_div (by decide) ?_
        refine xt_ist rfl (by dsimp only [x_sto]) ?_
        refine xt_ild rfl ?_
        refine xt_iln3 rfl ?_
        refine xt_add ?_
        refine xt_iln2 rfl ?_
        refine xt_sub ?_
        refine xt_ic ?_
        refine xt_sub ?_
        refine xt_ri rfl (Nat.le_refl _) ?_
        exact absurd hc_13 hc_2
      · skip
        refine xt_iln1 rfl ?_
        refine xt_goto (t := 21) rfl ?_
        refine xt_blk rfl rfl (by dsimp only [List.take]) ?_
        refine xt_isn3 rfl (by dsimp only [x_sto]) ?_
        refine xt_iln2 rfl ?_
        refine xt_bi ?_
        refine xt_iln2 rfl ?_
        refine xt_sub ?_
        refine xt_mul ?_
        refine xt_ic ?_
        refine xt_div (by decide) ?_
        refine xt_ist rfl (by dsimp only [x_sto]) ?_
        refine xt_ild rfl ?_
        refine xt_iln3 rfl ?_
        refine xt_add ?_
        refine xt_iln2 rfl ?_
        refine xt_sub ?_
        refine xt_ic ?_
        refine xt_sub ?_
        refine xt_ri rfl (Nat.le_refl _) ?_
        have hlt : a < b := by have := (not_congr (nI_leI (a := b) (b := a) (by omega) (by omega))).mp hc_2; omega
        have e : nI a * (nI 11 - nI a) / nI 2 + nI b - nI a - nI 1 = nI (pr a b) := by
          rw [pk_sub (by omega), pk_mul, pk_div (by have := Nat.mul_le_mul (show a ≤ 6 by omega) (show 11 - a ≤ 11 by omega); omega) (by decide) (by decide), nI_add, pk_sub (by omega), pk_sub (by omega)]
          unfold pr
          rw [if_pos hlt]
        intro a2 b2 h2a h2b hx2_0 e2
        simp only [List.cons.injEq, Sum.inl.injEq, and_true] at e2
        obtain ⟨e2a, e2b⟩ := e2
        rw [nI_eq (by omega) (by omega)] at e2a
        subst e2a
        rw [nI_eq (by omega) (by omega)] at e2b
        subst e2b
        exact ⟨rfl, rfl, congrArg some (congrArg Sum.inl e)⟩
  · intro μ pc ls st S2 M2 cs sl h; exact h.elim
def q_X1_firstOf : x_K := (1, fun as S M => ∃ (p : Nat), p < 15 ∧ as = [.inl (nI p)], fun as S M rv_ S' M' => ∀ (p : Nat), p < 15 → as = [.inl (nI p)] → S' = S ∧ M' = M ∧ rv_ = some (.inl (nI (x_k3.getD p 0))), 0, 0)
def b_X1_firstOf : x_B := [(0, 1, [(.getstatic 11, 3), (.iload_n 0, 1), (.iaload, 1), (.ireturn, 1)])]
theorem b_X1_firstOf_ok : x_okB cX1_firstOf 1 b_X1_firstOf = true := by decide +kernel
def X_X1_firstOf : x_X := ([], [(11, 3)], [], [], [], (0, 0), x_kn, x_kf, 5, false)
theorem X_X1_firstOf_ok : x_okT RX1 X_X1_firstOf = true := by decide +kernel
theorem k_X1_firstOf (l : Launch) : ∀ z ∈ X_X1_firstOf.2.2.2.2.1, x_Cal l (x_rm 1 0 0) cX1_firstOf RX1 1 z.1 z.2 := fun _ h => absurd h List.not_mem_nil
set_option maxHeartbeats 4000000 in
set_option maxRecDepth 100000 in
theorem c_X1_firstOf (l : Launch) : x_CT l yX1_firstOf cX1_firstOf 1 (some .int) 1 q_X1_firstOf := by
  refine x_meth (X := X_X1_firstOf) (bl := b_X1_firstOf) (cut := []) (own := RX1) 30 (by decide) rfl X_X1_firstOf_ok b_X1_firstOf_ok rfl (by decide) (k_X1_firstOf l) ?_
  rintro as S M - ⟨p, hp, rfl⟩
  refine ⟨fun _ _ _ _ _ _ _ _ => False, ?_, ?_⟩
  · skip
    refine xt_blk rfl rfl (by dsimp only [List.take]) ?_
    refine xt_gs (q := 3) rfl ?_
    refine xt_iln0 rfl ?_
    refine xt_kal rfl (show vp_in _ 15 from vp_in_nI (by omega) (by decide)) ?_
    refine xt_ri rfl (Nat.le_refl _) ?_
    have e4 : x_kf 3 (nI p).toNatClampNeg = nI (x_k3.getD p 0) := by rw [nI_clamp (by omega)]; rfl
    intro p2 h2p e2
    simp only [List.cons.injEq, Sum.inl.injEq, and_true] at e2
    have e2p := e2
    rw [nI_eq (by omega) (by omega)] at e2p
    subst e2p
    exact ⟨rfl, rfl, congrArg some (congrArg Sum.inl e4)⟩
  · intro μ pc ls st S2 M2 cs sl h; exact h.elim
def q_X1_secondOf : x_K := (1, fun as S M => ∃ (p : Nat), p < 15 ∧ as = [.inl (nI p)], fun as S M rv_ S' M' => ∀ (p : Nat), p < 15 → as = [.inl (nI p)] → S' = S ∧ M' = M ∧ rv_ = some (.inl (nI (x_k4.getD p 0))), 0, 0)
def b_X1_secondOf : x_B := [(0, 1, [(.getstatic 15, 3), (.iload_n 0, 1), (.iaload, 1), (.ireturn, 1)])]
theorem b_X1_secondOf_ok : x_okB cX1_secondOf 1 b_X1_secondOf = true := by decide +kernel
def X_X1_secondOf : x_X := ([], [(15, 4)], [], [], [], (0, 0), x_kn, x_kf, 5, false)
theorem X_X1_secondOf_ok : x_okT RX1 X_X1_secondOf = true := by decide +kernel
theorem k_X1_secondOf (l : Launch) : ∀ z ∈ X_X1_secondOf.2.2.2.2.1, x_Cal l (x_rm 1 0 0) cX1_secondOf RX1 1 z.1 z.2 := fun _ h => absurd h List.not_mem_nil
set_option maxHeartbeats 4000000 in
set_option maxRecDepth 100000 in
theorem c_X1_secondOf (l : Launch) : x_CT l yX1_secondOf cX1_secondOf 1 (some .int) 1 q_X1_secondOf := by
  refine x_meth (X := X_X1_secondOf) (bl := b_X1_secondOf) (cut := []) (own := RX1) 30 (by decide) rfl X_X1_secondOf_ok b_X1_secondOf_ok rfl (by decide) (k_X1_secondOf l) ?_
  rintro as S M - ⟨p, hp, rfl⟩
  refine ⟨fun _ _ _ _ _ _ _ _ => False, ?_, ?_⟩
  · skip
    refine xt_blk rfl rfl (by dsimp only [List.take]) ?_
    refine xt_gs (q := 4) rfl ?_
    refine xt_iln0 rfl ?_
    refine xt_kal rfl (show vp_in _ 15 from vp_in_nI (by omega) (by decide)) ?_
    refine xt_ri rfl (Nat.le_refl _) ?_
    have e4 : x_kf 4 (nI p).toNatClampNeg = nI (x_k4.getD p 0) := by rw [nI_clamp (by omega)]; rfl
    intro p2 h2p e2
    simp only [List.cons.injEq, Sum.inl.injEq, and_true] at e2
    have e2p := e2
    rw [nI_eq (by omega) (by omega)] at e2p
    subst e2p
    exact ⟨rfl, rfl, congrArg some (congrArg Sum.inl e4)⟩
  · intro μ pc ls st S2 M2 cs sl h; exact h.elim
theorem n_ix {a b : Nat} (ha : a < 6) (hb : b < 6) : nI a * nI 6 + nI b = nI (a * 6 + b) := by rw [pk_mul, nI_add]
theorem n_ixc {a b : Nat} (ha : a < 6) (hb : b < 6) : (nI a * nI 6 + nI b).toNatClampNeg = a * 6 + b := by rw [n_ix ha hb, nI_clamp (by omega)]
theorem n_ixi {a b : Nat} (ha : a < 6) (hb : b < 6) : vp_in (nI a * nI 6 + nI b) 36 := by rw [n_ix ha hb]; exact vp_in_nI (by omega) (by decide)
def q_X1_put : x_K := (4, fun as S M => ∃ (k a b n : Nat), k < 1000 ∧ a < 6 ∧ b < 6 ∧ n < 8192 ∧ S[k]? = some (.inr (.inl (false, 36))) ∧ as = [.inr (.inl k), .inl (nI a), .inl (nI b), .inl (nI n)], fun as S M rv_ S' M' => ∀ (k a b n : Nat), a < 6 → b < 6 → n < 8192 → as = [.inr (.inl k), .inl (nI a), .inl (nI b), .inl (nI n)] → S' = S ∧ M' = x_row M k (upd (upd (M k) (a * 6 + b) (nI n)) (b * 6 + a) (nI (tn n))) ∧ rv_ = none, 0, 0)
def b_X1_put : x_B := [(0, 4, [(.aload_n 0, 1), (.iload_n 1, 1), (.bipush 6, 2), (.imul, 1), (.iload_n 2, 1), (.iadd, 1), (.iload_n 3, 1), (.iastore, 1), (.aload_n 0, 1), (.iload_n 2, 1), (.bipush 6, 2), (.imul, 1), (.iload_n 1, 1), (.iadd, 1), (.iload_n 3, 1), (.invokestatic 26, 3), (.iastore, 1), (.return_, 1)])]
theorem b_X1_put_ok : x_okB cX1_put 4 b_X1_put = true := by decide +kernel
def X_X1_put : x_X := ([], [], [], [], [(78, q_X2_turn)], (0, 0), x_kn, x_kf, 5, false)
theorem X_X1_put_ok : x_okT RX1 X_X1_put = true := by decide +kernel
theorem k_X1_put (l : Launch) : ∀ z ∈ X_X1_put.2.2.2.2.1, x_Cal l (x_rm 2 0 0) cX1_put RX1 4 z.1 z.2 := List.forall_mem_cons.mpr ⟨x_cal_S (idx := 26) (c_X2_turn l) ⟨by decide, by decide⟩ (by decide +kernel) (by decide +kernel) (by decide +kernel) (by decide +kernel) (by decide +kernel), fun _ h => absurd h List.not_mem_nil⟩
set_option maxHeartbeats 4000000 in
set_option maxRecDepth 100000 in
theorem c_X1_put (l : Launch) : x_CT l yX1_put cX1_put 4 none 2 q_X1_put := by
  refine x_meth (X := X_X1_put) (bl := b_X1_put) (cut := []) (own := RX1) 30 (by decide) rfl X_X1_put_ok b_X1_put_ok rfl (by decide) (k_X1_put l) ?_
  rintro as S M - ⟨k, a, b, n, hk, ha, hb, hn, hsh, rfl⟩
  refine ⟨fun _ _ _ _ _ _ _ _ => False, ?_, ?_⟩
  · skip
    refine xt_blk rfl rfl (by dsimp only [List.take]) ?_
    refine xt_aln0 rfl (by first | decide | omega | assumption) ?_
    refine xt_iln1 rfl ?_
    refine xt_bi ?_
    refine xt_mul ?_
    refine xt_iln2 rfl ?_
    refine xt_add ?_
    refine xt_iln3 rfl ?_
    refine xt_ias (by first | rfl | assumption) (n_ixi (by omega) (by omega)) ?_
    refine xt_aln0 rfl (by first | decide | omega | assumption) ?_
    refine xt_iln2 rfl ?_
    refine xt_bi ?_
    refine xt_mul ?_
    refine xt_iln1 rfl ?_
    refine xt_add ?_
    refine xt_iln3 rfl ?_
    refine xt_v1 (key := 78) (q := q_X2_turn) rfl rfl rfl rfl rfl (by decide) ⟨n, hn, rfl⟩ (fun rv_ S1 M1 hq_17 => ?_)
    obtain ⟨rfl, rfl, rfl⟩ := hq_17 n hn rfl
    dsimp only [Option.toList, List.cons_append, List.nil_append]
    refine xt_ias (by first | rfl | assumption) (n_ixi (by omega) (by omega)) ?_
    refine xt_rv rfl (Nat.le_refl _) ?_
    intro k2 a2 b2 n2 h2a h2b h2n e2
    simp only [List.cons.injEq, Sum.inl.injEq, Sum.inr.injEq, and_true] at e2
    obtain ⟨rfl, ea, eb, en⟩ := e2
    rw [nI_eq (by omega) (by omega)] at ea eb en
    subst ea eb en
    refine ⟨rfl, ?_, rfl⟩
    rw [x_row_self, x_row_row, n_ixc ha hb, n_ixc hb ha]
  · intro μ pc ls st S2 M2 cs sl h; exact h.elim
def opn (j : Nat) : Nat := if j / 6 = j % 6 then 64 else 8191
def q_X1_open : x_K := (1, fun as S M => ∃ k : Nat, k < 1000 ∧ S[k]? = some (.inr (.inl (false, 36))) ∧ as = [.inr (.inl k)], fun as S M rv_ S' M' => ∀ k : Nat, as = [.inr (.inl k)] → S' = S ∧ (∃ f, M' = x_row M k f ∧ ∀ j, j < 36 → f j = nI (opn j)) ∧ rv_ = none, 0, 0)
def b_X1_open : x_B := [(0, 1, [(.aload_n 0, 1), (.sipush 8191, 3), (.invokestatic 18, 3), (.iconst 0, 1), (.istore_n 1, 1)]),
  (9, 2, [(.iload_n 1, 1), (.bipush 6, 2), (.if_icmp .ge 19, 3), (.aload_n 0, 1), (.iload_n 1, 1), (.bipush 6, 2), (.imul, 1), (.iload_n 1, 1), (.iadd, 1), (.bipush 64, 2), (.iastore, 1), (.iinc 1 1, 3), (.goto (-19), 3)]),
  (31, 2, [(.return_, 1)])]
theorem b_X1_open_ok : x_okB cX1_open 2 b_X1_open = true := by decide +kernel
def X_X1_open : x_X := ([], [], [], [], [(54, q_J7_fill)], (0, 0), x_kn, x_kf, 5, false)
theorem X_X1_open_ok : x_okT RX1 X_X1_open = true := by decide +kernel
theorem k_X1_open (l : Launch) : ∀ z ∈ X_X1_open.2.2.2.2.1, x_Cal l (x_rm 2 0 0) cX1_open RX1 2 z.1 z.2 := List.forall_mem_cons.mpr ⟨x_cal_S (idx := 18) (c_J7_fill l) ⟨by decide, by decide⟩ (by decide +kernel) (by decide +kernel) (by decide +kernel) (by decide +kernel) (by decide +kernel), fun _ h => absurd h List.not_mem_nil⟩
set_option maxHeartbeats 4000000 in
set_option maxRecDepth 100000 in
theorem c_X1_open (l : Launch) : x_CT l yX1_open cX1_open 2 none 2 q_X1_open := by
  refine x_meth (X := X_X1_open) (bl := b_X1_open) (cut := [9]) (own := RX1) 30 (by decide) rfl X_X1_open_ok b_X1_open_ok rfl (by decide) (k_X1_open l) ?_
  rintro as S M - ⟨k, hk, hsh, rfl⟩
  refine ⟨fun μ pc ls st S' M' cs sl => ∃ i, i ≤ 6 ∧ ∃ f, M' = x_row M k f ∧ (∀ j, j < 36 → f j = if j / 6 = j % 6 ∧ j / 6 < i then nI 64 else nI 8191) ∧ pc = 9 ∧ st = [] ∧ S' = S ∧ cs = 0 ∧ sl = 0 ∧ ls = [.inr (.inl k), .inl (nI i)] ∧ μ = 6 - i, ?_, ?_⟩
  · skip
    refine xt_blk rfl rfl (by dsimp only [List.take]) ?_
    refine xt_aln0 rfl (by first | decide | omega | assumption) ?_
    refine xt_si ?_
    refine xt_v2 (key := 54) (q := q_J7_fill) rfl rfl rfl rfl rfl (by decide) ⟨k, 36, _, hk, by decide, hsh, rfl⟩ (fun rv_ S1 M1 hq_4 => ?_)
    obtain ⟨rfl, rfl, rfl⟩ := hq_4 k 36 _ hsh rfl
    dsimp only [Option.toList, List.cons_append, List.nil_append]
    refine xt_ic ?_
    refine xt_isn1 rfl (by dsimp only [x_sto]) ?_
    refine xt_nil (t := 9) rfl ?_
    refine xt_cut rfl rfl (by dsimp only [List.take]) ?_
    exact ⟨6, 0, by omega, _, rfl, fun j hj => by simp only [x_cp]; rw [if_pos hj, if_neg (by omega)], rfl, rfl, rfl, rfl, rfl, rfl, rfl⟩
  · rintro μ pc ls st S2 M2 cs sl (⟨i, hi, f, rfl, hf, rfl, rfl, rfl, rfl, rfl, rfl, rfl⟩)
    · refine ⟨_, rfl, ?_⟩
      refine xt_iln1 rfl ?_
      refine xt_bi ?_
      refine xt_cge (t := 31) rfl (fun hc_12 => ?_) (fun hc_12 => ?_)
      · skip
        refine xt_blk rfl rfl (by dsimp only [List.take]) ?_
        refine xt_rv rfl (Nat.le_refl _) ?_
        have h13 : i = 6 := by rw [nI_leI (by omega) (by omega)] at hc_12; omega
        subst h13
        intro k2 e2
        simp only [List.cons.injEq, Sum.inr.injEq, Sum.inl.injEq, and_true] at e2
        subst e2
        refine ⟨rfl, ⟨f, rfl, fun j hj => ?_⟩, rfl⟩
        rw [hf j hj]
        unfold opn
        by_cases e : j / 6 = j % 6
        · rw [if_pos ⟨e, by omega⟩, if_pos e]
        · rw [if_neg (fun q => e q.1), if_neg e]
      · skip
        refine xt_aln0 rfl (by first | decide | omega | assumption) ?_
        refine xt_iln1 rfl ?_
        refine xt_bi ?_
        refine xt_mul ?_
        refine xt_iln1 rfl ?_
        refine xt_add ?_
        refine xt_bi ?_
        refine xt_ias (by first | rfl | assumption) (n_ixi (by rw [nI_leI (by omega) (by omega)] at hc_12; omega) (by rw [nI_leI (by omega) (by omega)] at hc_12; omega)) ?_
        refine xt_inc rfl (by dsimp only [x_sto]) ?_
        refine xt_goto (t := 9) rfl ?_
        refine xt_cut rfl rfl (by dsimp only [List.take]) ?_
        have hlt : i < 6 := by rw [nI_leI (by omega) (by omega)] at hc_12; omega
        exact ⟨6 - (i + 1), by omega, i + 1, by omega, upd f (i * 6 + i) (nI 64), by rw [x_row_self, x_row_row, n_ixc hlt hlt], fun j hj => by
          unfold upd
          by_cases e : j = i * 6 + i
          · rw [if_pos e, if_pos (by omega)]
          · rw [if_neg e, hf j hj]
            by_cases e2 : j / 6 = j % 6 ∧ j / 6 < i
            · rw [if_pos e2, if_pos (by omega)]
            · rw [if_neg e2, if_neg (by omega)], rfl, rfl, rfl, rfl, rfl, by rw [nI_add], rfl⟩
