/-! WAY: what its rows hold -/
def isWy (q : Nat) : Prop := q = 26 ∨ q = 33
theorem SHw {q : Nat} (h : isWy q) : SH[q]? = some (.inl (3, [none, some 1, some 8, some (q + 1), some (q + 2), some (q + 3), some (q + 4), some (q + 5), some (q + 6), none, none, none, none])) := by
  rcases h with rfl | rfl <;> rfl
theorem SHw1 {q : Nat} (h : isWy q) : SH[q + 1]? = some (.inr (.inl (false, 36))) := by rcases h with rfl | rfl <;> rfl
theorem SHw2 {q : Nat} (h : isWy q) : SH[q + 2]? = some (.inr (.inl (false, 36))) := by rcases h with rfl | rfl <;> rfl
theorem SHw3 {q : Nat} (h : isWy q) : SH[q + 3]? = some (.inr (.inl (false, 36))) := by rcases h with rfl | rfl <;> rfl
theorem SHw4 {q : Nat} (h : isWy q) : SH[q + 4]? = some (.inr (.inl (false, 36))) := by rcases h with rfl | rfl <;> rfl
theorem SHw5 {q : Nat} (h : isWy q) : SH[q + 5]? = some (.inr (.inl (false, 36))) := by rcases h with rfl | rfl <;> rfl
theorem SHw6 {q : Nat} (h : isWy q) : SH[q + 6]? = some (.inr (.inl (false, 12))) := by rcases h with rfl | rfl <;> rfl
theorem isWy_lt {q : Nat} (h : isWy q) : q < 40 := by rcases h with rfl | rfl <;> decide
theorem lsf_lt (n : Nat) : ∀ f i, i + f ≤ 13 → lsf n f i < 13
  | 0, i, _ => by simp [lsf]
  | f + 1, i, h => by
    have := lsf_lt n f (i + 1) (by omega)
    unfold lsf
    split <;> omega
theorem ls13_lt (n : Nat) : ls13 n < 13 := lsf_lt n 13 0 (by omega)
def q_X5_firstRelation : x_K := (3, fun as S M => ∃ (q : Nat) (a : Nat) (b : Nat) (v : Nat), isWy q ∧ S = SH ∧ a < 6 ∧ b < 6 ∧ (v < 8192 ∧ M (q + 3) (a * 6 + b) = nI v) ∧ as = [.inr (.inl q), .inl (nI a), .inl (nI b)], fun as S M rv_ S' M' => ∀ (q : Nat) (a : Nat) (b : Nat) (v : Nat), isWy q → a < 6 → b < 6 → (v < 8192 ∧ M (q + 3) (a * 6 + b) = nI v) → as = [.inr (.inl q), .inl (nI a), .inl (nI b)] → S' = S ∧ M' = M ∧ rv_ = some (.inl (nI (ls13 v))), 0, 0)
theorem r_X5_firstRelation : ∀ as S M, q_X5_firstRelation.2.1 as S M → ∃ (k : Nat) (as' : List x_V) (fs : List (Option Nat)), as = .inr (.inl k) :: as' ∧ S[k]? = some (.inl (3, fs)) := by
  rintro as S M ⟨q, a, b, v, hw, rfl, -, -, -, rfl⟩
  exact ⟨q, _, _, rfl, SHw hw⟩
def b_X5_firstRelation : x_B := [(0, 3, [(.aload_n 0, 1), (.getfield 32, 3), (.iload_n 1, 1), (.bipush 6, 2), (.imul, 1), (.iload_n 2, 1), (.iadd, 1), (.iaload, 1), (.invokestatic 95, 3), (.ireturn, 1)])]
theorem b_X5_firstRelation_ok : x_okB cX5_firstRelation 3 b_X5_firstRelation = true := by decide +kernel
def X_X5_firstRelation : x_X := ([(32, 3, 5)], [], [], [], [(285, q_X2_least)], (0, 0), x_kn, x_kf, 5, false)
theorem X_X5_firstRelation_ok : x_okT RX5 X_X5_firstRelation = true := by decide +kernel
theorem k_X5_firstRelation (l : Launch) : ∀ z ∈ X_X5_firstRelation.2.2.2.2.1, x_Cal l (x_rm 2 0 0) cX5_firstRelation RX5 3 z.1 z.2 := List.forall_mem_cons.mpr ⟨x_cal_S (idx := 95) (c_X2_least l) ⟨by decide, by decide⟩ (by decide +kernel) (by decide +kernel) (by decide +kernel) (by decide +kernel) (by decide +kernel), fun _ h => absurd h List.not_mem_nil⟩
set_option maxHeartbeats 4000000 in
set_option maxRecDepth 100000 in
theorem c_X5_firstRelation (l : Launch) : x_CT l yX5_firstRelation cX5_firstRelation 3 (some .int) 2 q_X5_firstRelation := by
  refine x_meth (X := X_X5_firstRelation) (bl := b_X5_firstRelation) (cut := []) (own := RX5) 30 (by decide) rfl X_X5_firstRelation_ok b_X5_firstRelation_ok rfl (Nat.le_of_ble_eq_true rfl) (k_X5_firstRelation l) ?_
  rintro as S M - ⟨q, a, b, v, hw, rfl, ha, hb, hv, rfl⟩
  refine ⟨fun _ _ _ _ _ _ _ _ => False, ?_, ?_⟩
  · skip
    refine xt_blk rfl rfl (by dsimp only [List.take]) ?_
    refine xt_aln0 rfl (by first | decide | omega | assumption | (have := isWy_lt hw; omega)) ?_
    refine xt_gfr (q := (3, 5)) rfl (by first | exact SHw hw | exact SHw3 hw | exact SHw6 hw | rfl | assumption) rfl ?_
    refine xt_iln1 rfl ?_
    refine xt_bi ?_
    refine xt_mul ?_
    refine xt_iln2 rfl ?_
    refine xt_add ?_
    refine xt_ial (by first | exact SHw hw | exact SHw3 hw | exact SHw6 hw | rfl | assumption) (n_ixi ha hb) ?_
    refine xt_v1 (key := 285) (q := q_X2_least) rfl rfl rfl rfl rfl ⟨Nat.le_of_ble_eq_true rfl, Nat.le_of_ble_eq_true rfl⟩ ⟨v, hv.1, by rw [n_ixc ha hb, hv.2]⟩ (fun rv_ S1 M1 hq_11 => ?_)
    obtain ⟨eS_, eM_, rfl⟩ := hq_11 v hv.1 (by rw [n_ixc ha hb, hv.2])
    replace eS_ := eS_.symm
    replace eM_ := eM_.symm
    subst eS_ eM_
    try dsimp only [Option.toList, List.cons_append, List.nil_append]
    refine xt_ri rfl (Nat.le_refl _) ?_
    intro q2 a2 b2 v2 hw2 h2a h2b hv2 e2
    simp only [List.cons.injEq, Sum.inl.injEq, Sum.inr.injEq, and_true] at e2
    obtain ⟨rfl, e2a, e2b⟩ := e2
    rw [nI_eq (by omega) (by omega)] at e2a
    subst e2a
    rw [nI_eq (by omega) (by omega)] at e2b
    subst e2b
    have ev : v = v2 := by
      have h1 := hv2.2
      rw [hv.2, nI_eq (by omega) (by omega)] at h1
      exact h1
    subst ev
    exact ⟨rfl, rfl, rfl⟩
  · intro μ pc ls st S2 M2 cs sl h; exact h.elim
def q_X5_signOfEnds : x_K := (3, fun as S M => ∃ (q : Nat) (e : Nat) (o : Nat) (v : Nat), isWy q ∧ S = SH ∧ e < 12 ∧ o < 12 ∧ (v < 8192 ∧ M (q + 3) (e / 2 * 6 + o / 2) = nI v) ∧ as = [.inr (.inl q), .inl (nI e), .inl (nI o)], fun as S M rv_ S' M' => ∀ (q : Nat) (e : Nat) (o : Nat) (v : Nat), isWy q → e < 12 → o < 12 → (v < 8192 ∧ M (q + 3) (e / 2 * 6 + o / 2) = nI v) → as = [.inr (.inl q), .inl (nI e), .inl (nI o)] → S' = S ∧ M' = M ∧ rv_ = some (.inl (nI (sgT (ls13 v) / 2 ^ ((3 - (2 * (e % 2) + o % 2)) * 4) % 8))), 0, 0)
theorem r_X5_signOfEnds : ∀ as S M, q_X5_signOfEnds.2.1 as S M → ∃ (k : Nat) (as' : List x_V) (fs : List (Option Nat)), as = .inr (.inl k) :: as' ∧ S[k]? = some (.inl (3, fs)) := by
  rintro as S M ⟨q, e, o, v, hw, rfl, -, -, -, rfl⟩
  exact ⟨q, _, _, rfl, SHw hw⟩
def b_X5_signOfEnds : x_B := [(0, 3, [(.aload_n 0, 1), (.getfield 32, 3), (.iload_n 1, 1), (.iconst 2, 1), (.idiv, 1), (.bipush 6, 2), (.imul, 1), (.iload_n 2, 1), (.iconst 2, 1), (.idiv, 1), (.iadd, 1), (.iaload, 1), (.istore_n 3, 1), (.iload_n 3, 1), (.invokestatic 95, 3), (.iload_n 1, 1), (.iconst 2, 1), (.irem, 1), (.iload_n 2, 1), (.iconst 2, 1), (.irem, 1), (.invokestatic 144, 3), (.ireturn, 1)])]
theorem b_X5_signOfEnds_ok : x_okB cX5_signOfEnds 4 b_X5_signOfEnds = true := by decide +kernel
def X_X5_signOfEnds : x_X := ([(32, 3, 5)], [], [], [], [(285, q_X2_least), (432, q_X2_signOfEnds)], (0, 0), x_kn, x_kf, 5, false)
theorem X_X5_signOfEnds_ok : x_okT RX5 X_X5_signOfEnds = true := by decide +kernel
theorem k_X5_signOfEnds (l : Launch) : ∀ z ∈ X_X5_signOfEnds.2.2.2.2.1, x_Cal l (x_rm 2 0 0) cX5_signOfEnds RX5 4 z.1 z.2 := List.forall_mem_cons.mpr ⟨x_cal_S (idx := 95) (c_X2_least l) ⟨by decide, by decide⟩ (by decide +kernel) (by decide +kernel) (by decide +kernel) (by decide +kernel) (by decide +kernel), List.forall_mem_cons.mpr ⟨x_cal_S (idx := 144) (c_X2_signOfEnds l) ⟨by decide, by decide⟩ (by decide +kernel) (by decide +kernel) (by decide +kernel) (by decide +kernel) (by decide +kernel), fun _ h => absurd h List.not_mem_nil⟩⟩
set_option maxHeartbeats 4000000 in
set_option maxRecDepth 100000 in
theorem c_X5_signOfEnds (l : Launch) : x_CT l yX5_signOfEnds cX5_signOfEnds 4 (some .int) 2 q_X5_signOfEnds := by
  refine x_meth (X := X_X5_signOfEnds) (bl := b_X5_signOfEnds) (cut := []) (own := RX5) 30 (by decide) rfl X_X5_signOfEnds_ok b_X5_signOfEnds_ok rfl (Nat.le_of_ble_eq_true rfl) (k_X5_signOfEnds l) ?_
  rintro as S M - ⟨q, e, o, v, hw, rfl, he, ho, hv, rfl⟩
  refine ⟨fun _ _ _ _ _ _ _ _ => False, ?_, ?_⟩
  · skip
    refine xt_blk rfl rfl (by dsimp only [List.take]) ?_
    refine xt_aln0 rfl (by first | decide | omega | assumption | (have := isWy_lt hw; omega)) ?_
    refine xt_gfr (q := (3, 5)) rfl (by first | exact SHw hw | exact SHw3 hw | exact SHw6 hw | rfl | assumption) rfl ?_
    refine xt_iln1 rfl ?_
    refine xt_ic ?_
    refine xt_div (by decide) ?_
    refine xt_bi ?_
    refine xt_mul ?_
    refine xt_iln2 rfl ?_
    refine xt_ic ?_
    refine xt_div (by decide) ?_
    refine xt_add ?_
    refine xt_ial (by first | exact SHw hw | exact SHw3 hw | exact SHw6 hw | rfl | assumption) (by rw [pk_div (by omega) (by decide) (by decide), pk_div (by omega) (by decide) (by decide)]; exact n_ixi (by omega) (by omega)) ?_
    refine xt_isn3 rfl (by dsimp only [x_sto]) ?_
    refine xt_iln3 rfl ?_
    refine xt_v1 (key := 285) (q := q_X2_least) rfl rfl rfl rfl rfl ⟨Nat.le_of_ble_eq_true rfl, Nat.le_of_ble_eq_true rfl⟩ ⟨v, hv.1, by rw [pk_div (by omega) (by decide) (by decide), pk_div (by omega) (by decide) (by decide), n_ixc (by omega) (by omega), hv.2]⟩ (fun rv_ S1 M1 hq_17 => ?_)
    obtain ⟨eS_, eM_, rfl⟩ := hq_17 v hv.1 (by rw [pk_div (by omega) (by decide) (by decide), pk_div (by omega) (by decide) (by decide), n_ixc (by omega) (by omega), hv.2])
    replace eS_ := eS_.symm
    replace eM_ := eM_.symm
    subst eS_ eM_
    try dsimp only [Option.toList, List.cons_append, List.nil_append]
    refine xt_iln1 rfl ?_
    refine xt_ic ?_
    refine xt_rem (by decide) ?_
    refine xt_iln2 rfl ?_
    refine xt_ic ?_
    refine xt_rem (by decide) ?_
    refine xt_v3 (key := 432) (q := q_X2_signOfEnds) rfl rfl rfl rfl rfl ⟨Nat.le_of_ble_eq_true rfl, Nat.le_of_ble_eq_true rfl⟩ ⟨ls13 v, e % 2, o % 2, ls13_lt v, by omega, by omega, by rw [pk_rem (by omega) (by decide) (by decide), pk_rem (by omega) (by decide) (by decide)]⟩ (fun rv_ S1 M1 hq_26 => ?_)
    obtain ⟨eS_, eM_, rfl⟩ := hq_26 (ls13 v) (e % 2) (o % 2) (ls13_lt v) (by omega) (by omega) (by rw [pk_rem (by omega) (by decide) (by decide), pk_rem (by omega) (by decide) (by decide)])
    replace eS_ := eS_.symm
    replace eM_ := eM_.symm
    subst eS_ eM_
    try dsimp only [Option.toList, List.cons_append, List.nil_append]
    refine xt_ri rfl (Nat.le_refl _) ?_
    intro q2 e2 o2 v2 hw2 h2e h2o hv2 e2
    simp only [List.cons.injEq, Sum.inl.injEq, Sum.inr.injEq, and_true] at e2
    obtain ⟨rfl, e2e, e2o⟩ := e2
    rw [nI_eq (by omega) (by omega)] at e2e
    subst e2e
    rw [nI_eq (by omega) (by omega)] at e2o
    subst e2o
    have ev : v = v2 := by
      have h1 := hv2.2
      rw [hv.2, nI_eq (by omega) (by omega)] at h1
      exact h1
    subst ev
    exact ⟨rfl, rfl, rfl⟩
  · intro μ pc ls st S2 M2 cs sl h; exact h.elim
def q_X5_firstNumber : x_K := (3, fun as S M => ∃ (q t e : Nat), isWy q ∧ S = SH ∧ t < 6 ∧ e < 2 ∧ as = [.inr (.inl q), .inl (nI t), .inl (nI e)], fun as S M rv_ S' M' => ∀ (q t e : Nat), t < 6 → e < 2 → as = [.inr (.inl q), .inl (nI t), .inl (nI e)] → S' = S ∧ M' = M ∧ rv_ = some (.inl (M (q + 6) (t * 2 + e))), 0, 0)
theorem r_X5_firstNumber : ∀ as S M, q_X5_firstNumber.2.1 as S M → ∃ (k : Nat) (as' : List x_V) (fs : List (Option Nat)), as = .inr (.inl k) :: as' ∧ S[k]? = some (.inl (3, fs)) := by
  rintro as S M ⟨q, t, e, hw, rfl, -, -, rfl⟩
  exact ⟨q, _, _, rfl, SHw hw⟩
def b_X5_firstNumber : x_B := [(0, 3, [(.aload_n 0, 1), (.getfield 41, 3), (.iload_n 1, 1), (.iconst 2, 1), (.imul, 1), (.iload_n 2, 1), (.iadd, 1), (.iaload, 1), (.ireturn, 1)])]
theorem b_X5_firstNumber_ok : x_okB cX5_firstNumber 3 b_X5_firstNumber = true := by decide +kernel
def X_X5_firstNumber : x_X := ([(41, 3, 8)], [], [], [], [], (0, 0), x_kn, x_kf, 5, false)
theorem X_X5_firstNumber_ok : x_okT RX5 X_X5_firstNumber = true := by decide +kernel
theorem k_X5_firstNumber (l : Launch) : ∀ z ∈ X_X5_firstNumber.2.2.2.2.1, x_Cal l (x_rm 1 0 0) cX5_firstNumber RX5 3 z.1 z.2 := fun _ h => absurd h List.not_mem_nil
set_option maxHeartbeats 4000000 in
set_option maxRecDepth 100000 in
theorem c_X5_firstNumber (l : Launch) : x_CT l yX5_firstNumber cX5_firstNumber 3 (some .int) 1 q_X5_firstNumber := by
  refine x_meth (X := X_X5_firstNumber) (bl := b_X5_firstNumber) (cut := []) (own := RX5) 30 (by decide) rfl X_X5_firstNumber_ok b_X5_firstNumber_ok rfl (Nat.le_of_ble_eq_true rfl) (k_X5_firstNumber l) ?_
  rintro as S M - ⟨q, t, e, hw, rfl, ht, he, rfl⟩
  refine ⟨fun _ _ _ _ _ _ _ _ => False, ?_, ?_⟩
  · skip
    refine xt_blk rfl rfl (by dsimp only [List.take]) ?_
    refine xt_aln0 rfl (by first | decide | omega | assumption | (have := isWy_lt hw; omega)) ?_
    refine xt_gfr (q := (3, 8)) rfl (by first | exact SHw hw | exact SHw3 hw | exact SHw6 hw | rfl | assumption) rfl ?_
    refine xt_iln1 rfl ?_
    refine xt_ic ?_
    refine xt_mul ?_
    refine xt_iln2 rfl ?_
    refine xt_add ?_
    refine xt_ial (by first | exact SHw hw | exact SHw3 hw | exact SHw6 hw | rfl | assumption) (show vp_in _ 12 from by rw [pk_mul, nI_add]; exact vp_in_nI (by omega) (by decide)) ?_
    refine xt_ri rfl (Nat.le_refl _) ?_
    intro q2 t2 e2 h2t h2e e3
    simp only [List.cons.injEq, Sum.inl.injEq, Sum.inr.injEq, and_true] at e3
    obtain ⟨rfl, a1, a2⟩ := e3
    rw [nI_eq (by omega) (by omega)] at a1 a2
    subst a1 a2
    exact ⟨rfl, rfl, by rw [pk_mul, nI_add, nI_clamp (by omega)]⟩
  · intro μ pc ls st S2 M2 cs sl h; exact h.elim
/-- the sign of an end to another in the net of the first drawing -/
def sgE (f : Nat → Nat) (e o : Nat) : Nat := sgT (ls13 (f (e / 2 * 6 + o / 2))) / 2 ^ ((3 - (2 * (e % 2) + o % 2)) * 4) % 8
def q_X5_isFirstOfItsLikes : x_K := (2, fun as S M => ∃ (q e : Nat) (f : Nat → Nat), isWy q ∧ S = SH ∧ e < 12 ∧ At M (q + 3) f ∧ as = [.inr (.inl q), .inl (nI e)], fun as S M rv_ S' M' => ∀ (q e : Nat) (f : Nat → Nat), e < 12 → At M (q + 3) f → as = [.inr (.inl q), .inl (nI e)] → S' = S ∧ M' = M ∧ (((∀ o, o < e → sgE f o e ≠ 2) ∧ rv_ = some (.inl (nI 1))) ∨ ((∃ o, o < e ∧ sgE f o e = 2) ∧ rv_ = some (.inl (nI 0)))), 0, 0)
theorem r_X5_isFirstOfItsLikes : ∀ as S M, q_X5_isFirstOfItsLikes.2.1 as S M → ∃ (k : Nat) (as' : List x_V) (fs : List (Option Nat)), as = .inr (.inl k) :: as' ∧ S[k]? = some (.inl (3, fs)) := by
  rintro as S M ⟨q, e, f, hw, rfl, -, -, rfl⟩
  exact ⟨q, _, _, rfl, SHw hw⟩
theorem sgE_cg {f f2 : Nat → Nat} (h : ∀ j, j < 36 → f j = f2 j) {e o : Nat} (he : e < 12) (ho : o < 12) : sgE f e o = sgE f2 e o := by
  unfold sgE
  rw [h _ (by omega)]
theorem At_u {M : x_M} {k : Nat} {f f2 : Nat → Nat} (hf : At M k f) (hf2 : At M k f2) : ∀ j, j < 36 → f j = f2 j := fun j hj => by
  have h1 := (hf j hj).2
  rw [(hf2 j hj).2] at h1
  exact ((nI_eq (by have := (hf2 j hj).1; omega) (by have := (hf j hj).1; omega)).mp h1).symm
def b_X5_isFirstOfItsLikes : x_B := [(0, 2, [(.iconst 0, 1), (.istore_n 2, 1)]),
  (2, 3, [(.iload_n 2, 1), (.iload_n 1, 1), (.if_icmp .ge 21, 3), (.aload_n 0, 1), (.iload_n 2, 1), (.iload_n 1, 1), (.invokevirtual 140, 3), (.iconst 2, 1), (.if_icmp .ne 5, 3), (.iconst 0, 1), (.ireturn, 1)]),
  (19, 3, [(.iinc 2 1, 3), (.goto (-20), 3)]),
  (25, 3, [(.iconst 1, 1), (.ireturn, 1)])]
theorem b_X5_isFirstOfItsLikes_ok : x_okB cX5_isFirstOfItsLikes 3 b_X5_isFirstOfItsLikes = true := by decide +kernel
def X_X5_isFirstOfItsLikes : x_X := ([], [], [], [], [(421, q_X5_signOfEnds)], (0, 0), x_kn, x_kf, 5, false)
theorem X_X5_isFirstOfItsLikes_ok : x_okT RX5 X_X5_isFirstOfItsLikes = true := by decide +kernel
theorem k_X5_isFirstOfItsLikes (l : Launch) : ∀ z ∈ X_X5_isFirstOfItsLikes.2.2.2.2.1, x_Cal l (x_rm 3 0 0) cX5_isFirstOfItsLikes RX5 3 z.1 z.2 := List.forall_mem_cons.mpr ⟨x_cal_V (idx := 140) (ci := 3) (n := 2) (c_X5_signOfEnds l) ⟨by decide, by decide⟩ (by decide +kernel) (by decide +kernel) (by decide +kernel) (by decide +kernel) (by decide +kernel) rfl rfl rfl (by decide +kernel) r_X5_signOfEnds, fun _ h => absurd h List.not_mem_nil⟩
set_option maxHeartbeats 4000000 in
set_option maxRecDepth 100000 in
theorem c_X5_isFirstOfItsLikes (l : Launch) : x_CT l yX5_isFirstOfItsLikes cX5_isFirstOfItsLikes 3 (some .boolean) 3 q_X5_isFirstOfItsLikes := by
  refine x_meth (X := X_X5_isFirstOfItsLikes) (bl := b_X5_isFirstOfItsLikes) (cut := [2]) (own := RX5) 30 (by decide) rfl X_X5_isFirstOfItsLikes_ok b_X5_isFirstOfItsLikes_ok rfl (Nat.le_of_ble_eq_true rfl) (k_X5_isFirstOfItsLikes l) ?_
  rintro as S M - ⟨q, e, f, hw, rfl, he, hf, rfl⟩
  refine ⟨fun μ pc ls st S' M' cs sl => ∃ i, i ≤ e ∧ (∀ o, o < i → sgE f o e ≠ 2) ∧ pc = 2 ∧ st = [] ∧ S' = SH ∧ M' = M ∧ cs = 0 ∧ sl = 0 ∧ ls = [.inr (.inl q), .inl (nI e), .inl (nI i)] ∧ μ = e - i, ?_, ?_⟩
  · skip
    refine xt_blk rfl rfl (by dsimp only [List.take]) ?_
    refine xt_ic ?_
    refine xt_isn2 rfl (by dsimp only [x_sto]) ?_
    refine xt_nil (t := 2) rfl ?_
    refine xt_cut rfl rfl (by dsimp only [List.take]) ?_
    exact ⟨e, 0, by omega, fun o ho => by omega, rfl, rfl, rfl, rfl, rfl, rfl, rfl, rfl⟩
  · rintro μ pc ls st S2 M2 cs sl (⟨i, hi, hno, rfl, rfl, rfl, rfl, rfl, rfl, rfl, rfl⟩)
    · refine ⟨_, rfl, ?_⟩
      refine xt_iln2 rfl ?_
      refine xt_iln1 rfl ?_
      refine xt_cge (t := 25) rfl (fun hc_4 => ?_) (fun hc_4 => ?_)
      · skip
        refine xt_blk rfl rfl (by dsimp only [List.take]) ?_
        refine xt_ic ?_
        refine xt_rz (by decide) rfl (Nat.le_refl _) ?_
        have hie : i = e := by rw [nI_leI (by omega) (by omega)] at hc_4; omega
        subst hie
        intro q2 e2 f2 h2e hf2 e3
        simp only [List.cons.injEq, Sum.inl.injEq, Sum.inr.injEq, and_true] at e3
        obtain ⟨rfl, a1⟩ := e3
        rw [nI_eq (by omega) (by omega)] at a1
        subst a1
        have ef := At_u hf hf2
        exact ⟨rfl, rfl, Or.inl ⟨fun o ho => by rw [← sgE_cg ef (by omega) (by omega)]; exact hno o ho, rfl⟩⟩
      · skip
        refine xt_aln0 rfl (by first | decide | omega | assumption | (have := isWy_lt hw; omega)) ?_
        refine xt_iln2 rfl ?_
        refine xt_iln1 rfl ?_
        refine xt_v3 (key := 421) (q := q_X5_signOfEnds) rfl rfl rfl rfl rfl ⟨Nat.le_of_ble_eq_true rfl, Nat.le_of_ble_eq_true rfl⟩ ⟨q, i, e, f (i / 2 * 6 + e / 2), hw, rfl, by omega, he, hf _ (by omega), rfl⟩ (fun rv_ S1 M1 hq_10 => ?_)
        obtain ⟨eS_, eM_, rfl⟩ := hq_10 q i e (f (i / 2 * 6 + e / 2)) hw (by omega) he (hf _ (by omega)) rfl
        replace eS_ := eS_.symm
        replace eM_ := eM_.symm
        subst eS_ eM_
        try dsimp only [Option.toList, List.cons_append, List.nil_append]
        refine xt_ic ?_
        refine xt_cne (t := 19) rfl (fun hc_14 => ?_) (fun hc_14 => ?_)
        · skip
          refine xt_blk rfl rfl (by dsimp only [List.take]) ?_
          refine xt_inc rfl (by dsimp only [x_sto]) ?_
          refine xt_goto (t := 2) rfl ?_
          refine xt_cut rfl rfl (by dsimp only [List.take]) ?_
          have hlt : i < e := by rw [nI_leI (by omega) (by omega)] at hc_4; omega
          have h8 : sgE f i e < 8 := Nat.mod_lt _ (by decide)
          have hc : ¬ nI (sgE f i e) = nI 2 := hc_14
          rw [nI_eq (by omega) (by omega)] at hc
          exact ⟨e - (i + 1), by omega, i + 1, by omega, fun o ho => by by_cases h : o = i; exact h ▸ hc; exact hno o (by omega), rfl, rfl, rfl, rfl, rfl, rfl, by rw [nI_add], rfl⟩
        · skip
          refine xt_ic ?_
          refine xt_rz (by decide) rfl (Nat.le_refl _) ?_
          have hlt : i < e := by rw [nI_leI (by omega) (by omega)] at hc_4; omega
          have h8 : sgE f i e < 8 := Nat.mod_lt _ (by decide)
          have hc : nI (sgE f i e) = nI 2 := hc_14
          rw [nI_eq (by omega) (by omega)] at hc
          intro q2 e2 f2 h2e hf2 e3
          simp only [List.cons.injEq, Sum.inl.injEq, Sum.inr.injEq, and_true] at e3
          obtain ⟨rfl, a1⟩ := e3
          rw [nI_eq (by omega) (by omega)] at a1
          subst a1
          have ef := At_u hf hf2
          exact ⟨rfl, rfl, Or.inr ⟨⟨i, hlt, by rw [← sgE_cg ef (by omega) (by omega)]; exact hc⟩, rfl⟩⟩
