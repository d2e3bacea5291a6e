/-! WAY: what its rows hold -/
def isWy (q : Nat) : Prop := q = 26 ∨ q = 33
theorem SHw {q : Nat} (h : isWy q) : SH[q]? = some (.inl (3, [none, some 1, some 8, some (q + 1), some (q + 2), some (q + 3), some (q + 4), some (q + 5), some (q + 6), none, none, none, none])) := by
  rcases h with rfl | rfl <;> rfl
theorem SHw1 {q : Nat} (h : isWy q) : SH[q + 1]? = some (.inr (.inl (false, 36))) := by rcases h with rfl | rfl <;> rfl
theorem SHw2 {q : Nat} (h : isWy q) : SH[q + 2]? = some (.inr (.inl (false, 36))) := by rcases h with rfl | rfl <;> rfl
theorem SHw3 {q : Nat} (h : isWy q) : SH[q + 3]? = some (.inr (.inl (false, 36))) := by rcases h with rfl | rfl <;> rfl
theorem SHw4 {q : Nat} (h : isWy q) : SH[q + 4]? = some (.inr (.inl (false, 36))) := by rcases h with rfl | rfl <;> rfl
theorem SHw5 {q : Nat} (h : isWy q) : SH[q + 5]? = some (.inr (.inl (false, 36))) := by rcases h with rfl | rfl <;> rfl
theorem SHw6 {q : Nat} (h : isWy q) : SH[q + 6]? = some (.inr (.inl (false, 12))) := by rcases h with rfl | rfl <;> rfl
theorem isWy_lt {q : Nat} (h : isWy q) : q < 40 := by rcases h with rfl | rfl <;> decide
theorem lsf_lt (n : Nat) : ∀ f i, i + f ≤ 13 → lsf n f i < 13
  | 0, i, _ => by simp [lsf]
  | f + 1, i, h => by
    have := lsf_lt n f (i + 1) (by omega)
    unfold lsf
    split <;> omega
theorem ls13_lt (n : Nat) : ls13 n < 13 := lsf_lt n 13 0 (by omega)
def q_X5_firstRelation : x_K := (3, fun as S M => ∃ (q : Nat) (a : Nat) (b : Nat) (v : Nat), isWy q ∧ S = SH ∧ a < 6 ∧ b < 6 ∧ (v < 8192 ∧ M (q + 3) (a * 6 + b) = nI v) ∧ as = [.inr (.inl q), .inl (nI a), .inl (nI b)], fun as S M rv_ S' M' => ∀ (q : Nat) (a : Nat) (b : Nat) (v : Nat), isWy q → a < 6 → b < 6 → (v < 8192 ∧ M (q + 3) (a * 6 + b) = nI v) → as = [.inr (.inl q), .inl (nI a), .inl (nI b)] → S' = S ∧ M' = M ∧ rv_ = some (.inl (nI (ls13 v))), 0, 0)
theorem r_X5_firstRelation : ∀ as S M, q_X5_firstRelation.2.1 as S M → ∃ (k : Nat) (as' : List x_V) (fs : List (Option Nat)), as = .inr (.inl k) :: as' ∧ S[k]? = some (.inl (3, fs)) := by
  rintro as S M ⟨q, a, b, v, hw, rfl, -, -, -, rfl⟩
  exact ⟨q, _, _, rfl, SHw hw⟩
def b_X5_firstRelation : x_B := [(0, 3, [(.aload_n 0, 1), (.getfield 32, 3), (.iload_n 1, 1), (.bipush 6, 2), (.imul, 1), (.iload_n 2, 1), (.iadd, 1), (.iaload, 1), (.invokestatic 95, 3), (.ireturn, 1)])]
theorem b_X5_firstRelation_ok : x_okB cX5_firstRelation 3 b_X5_firstRelation = true := by decide +kernel
def X_X5_firstRelation : x_X := ([(32, 3, 5)], [], [], [], [(285, q_X2_least)], (0, 0), x_kn, x_kf, 5, false)
theorem X_X5_firstRelation_ok : x_okT RX5 X_X5_firstRelation = true := by decide +kernel
theorem k_X5_firstRelation (l : Launch) : ∀ z ∈ X_X5_firstRelation.2.2.2.2.1, x_Cal l (x_rm 2 0 0) cX5_firstRelation RX5 3 z.1 z.2 := List.forall_mem_cons.mpr ⟨x_cal_S (idx := 95) (c_X2_least l) ⟨by decide, by decide⟩ (by decide +kernel) (by decide +kernel) (by decide +kernel) (by decide +kernel) (by decide +kernel), fun _ h => absurd h List.not_mem_nil⟩
set_option maxHeartbeats 4000000 in
set_option maxRecDepth 100000 in
theorem c_X5_firstRelation (l : Launch) : x_CT l yX5_firstRelation cX5_firstRelation 3 (some .int) 2 q_X5_firstRelation := by
  refine x_meth (X := X_X5_firstRelation) (bl := b_X5_firstRelation) (cut := []) (own := RX5) 30 (by decide) rfl X_X5_firstRelation_ok b_X5_firstRelation_ok rfl (Nat.le_of_ble_eq_true rfl) (k_X5_firstRelation l) ?_
  rintro as S M - ⟨q, a, b, v, hw, rfl, ha, hb, hv, rfl⟩
  refine ⟨fun _ _ _ _ _ _ _ _ => False, ?_, ?_⟩
  · skip
    refine xt_blk rfl rfl (by dsimp only [List.take]) ?_
    refine xt_aln0 rfl (by first | decide | omega | assumption | (have := isWy_lt hw; omega)) ?_
    refine xt_gfr (q := (3, 5)) rfl (by first | exact SHw hw | exact SHw3 hw | exact SHw6 hw | rfl | assumption) rfl ?_
    refine xt_iln1 rfl ?_
    refine xt_bi ?_
    refine xt_mul ?_
    refine xt_iln2 rfl ?_
    refine xt_add ?_
    refine xt_ial (by first | exact SHw hw | exact SHw3 hw | exact SHw6 hw | rfl | assumption) (n_ixi ha hb) ?_
    refine xt_v1 (key := 285) (q := q_X2_least) rfl rfl rfl rfl rfl ⟨Nat.le_of_ble_eq_true rfl, Nat.le_of_ble_eq_true rfl⟩ ⟨v, hv.1, by rw [n_ixc ha hb, hv.2]⟩ (fun rv_ S1 M1 hq_11 => ?_)
    obtain ⟨eS_, eM_, rfl⟩ := hq_11 v hv.1 (by rw [n_ixc ha hb, hv.2])
    replace eS_ := eS_.symm
    replace eM_ := eM_.symm
    subst eS_ eM_
    try dsimp only [Option.toList, List.cons_append, List.nil_append]
    refine xt_ri rfl (Nat.le_refl _) ?_
    intro q2 a2 b2 v2 hw2 h2a h2b hv2 e2
    simp only [List.cons.injEq, Sum.inl.injEq, Sum.inr.injEq, and_true] at e2
    obtain ⟨rfl, e2a, e2b⟩ := e2
    rw [nI_eq (by omega) (by omega)] at e2a
    subst e2a
    rw [nI_eq (by omega) (by omega)] at e2b
    subst e2b
    have ev : v = v2 := by
      have h1 := hv2.2
      rw [hv.2, nI_eq (by omega) (by omega)] at h1
      exact h1
    subst ev
    exact ⟨rfl, rfl, rfl⟩
  · intro μ pc ls st S2 M2 cs sl h; exact h.elim
def q_X5_signOfEnds : x_K := (3, fun as S M => ∃ (q : Nat) (e : Nat) (o : Nat) (v : Nat), isWy q ∧ S = SH ∧ e < 12 ∧ o < 12 ∧ (v < 8192 ∧ M (q + 3) (e / 2 * 6 + o / 2) = nI v) ∧ as = [.inr (.inl q), .inl (nI e), .inl (nI o)], fun as S M rv_ S' M' => ∀ (q : Nat) (e : Nat) (o : Nat) (v : Nat), isWy q → e < 12 → o < 12 → (v < 8192 ∧ M (q + 3) (e / 2 * 6 + o / 2) = nI v) → as = [.inr (.inl q), .inl (nI e), .inl (nI o)] → S' = S ∧ M' = M ∧ rv_ = some (.inl (nI (sgT (ls13 v) / 2 ^ ((3 - (2 * (e % 2) + o % 2)) * 4) % 8))), 0, 0)
theorem r_X5_signOfEnds : ∀ as S M, q_X5_signOfEnds.2.1 as S M → ∃ (k : Nat) (as' : List x_V) (fs : List (Option Nat)), as = .inr (.inl k) :: as' ∧ S[k]? = some (.inl (3, fs)) := by
  rintro as S M ⟨q, e, o, v, hw, rfl, -, -, -, rfl⟩
  exact ⟨q, _, _, rfl, SHw hw⟩
def b_X5_signOfEnds : x_B := [(0, 3, [(.aload_n 0, 1), (.getfield 32, 3), (.iload_n 1, 1), (.iconst 2, 1), (.idiv, 1), (.bipush 6, 2), (.imul, 1), (.iload_n 2, 1), (.iconst 2, 1), (.idiv, 1), (.iadd, 1), (.iaload, 1), (.istore_n 3, 1), (.iload_n 3, 1), (.invokestatic 95, 3), (.iload_n 1, 1), (.iconst 2, 1), (.irem, 1), (.iload_n 2, 1), (.iconst 2, 1), (.irem, 1), (.invokestatic 144, 3), (.ireturn, 1)])]
theorem b_X5_signOfEnds_ok : x_okB cX5_signOfEnds 4 b_X5_signOfEnds = true := by decide +kernel
def X_X5_signOfEnds : x_X := ([(32, 3, 5)], [], [], [], [(285, q_X2_least), (432, q_X2_signOfEnds)], (0, 0), x_kn, x_kf, 5, false)
theorem X_X5_signOfEnds_ok : x_okT RX5 X_X5_signOfEnds = true := by decide +kernel
theorem k_X5_signOfEnds (l : Launch) : ∀ z ∈ X_X5_signOfEnds.2.2.2.2.1, x_Cal l (x_rm 2 0 0) cX5_signOfEnds RX5 4 z.1 z.2 := List.forall_mem_cons.mpr ⟨x_cal_S (idx := 95) (c_X2_least l) ⟨by decide, by decide⟩ (by decide +kernel) (by decide +kernel) (by decide +kernel) (by decide +kernel) (by decide +kernel), List.forall_mem_cons.mpr ⟨x_cal_S (idx := 144) (c_X2_signOfEnds l) ⟨by decide, by decide⟩ (by decide +kernel) (by decide +kernel) (by decide +kernel) (by decide +kernel) (by decide +kernel), fun _ h => absurd h List.not_mem_nil⟩⟩
set_option maxHeartbeats 4000000 in
set_option maxRecDepth 100000 in
theorem c_X5_signOfEnds (l : Launch) : x_CT l yX5_signOfEnds cX5_signOfEnds 4 (some .int) 2 q_X5_signOfEnds := by
  refine x_meth (X := X_X5_signOfEnds) (bl := b_X5_signOfEnds) (cut := []) (own := RX5) 30 (by decide) rfl X_X5_signOfEnds_ok b_X5_signOfEnds_ok rfl (Nat.le_of_ble_eq_true rfl) (k_X5_signOfEnds l) ?_
  rintro as S M - ⟨q, e, o, v, hw, rfl, he, ho, hv, rfl⟩
  refine ⟨fun _ _ _ _ _ _ _ _ => False, ?_, ?_⟩
  · skip
    refine xt_blk rfl rfl (by dsimp only [List.take]) ?_
    refine xt_aln0 rfl (by first | decide | omega | assumption | (have := isWy_lt hw; omega)) ?_
    refine xt_gfr (q := (3, 5)) rfl (by first | exact SHw hw | exact SHw3 hw | exact SHw6 hw | rfl | assumption) rfl ?_
    refine xt_iln1 rfl ?_
    refine xt_ic ?_
    refine xt_div (by decide) ?_
    refine xt_bi ?_
    refine xt_mul ?_
    refine xt_iln2 rfl ?_
    refine xt_ic ?_
    refine xt_div (by decide) ?_
    refine xt_add ?_
    refine xt_ial (by first | exact SHw hw | exact SHw3 hw | exact SHw6 hw | rfl | assumption) (by rw [pk_div (by omega) (by decide) (by decide), pk_div (by omega) (by decide) (by decide)]; exact n_ixi (by omega) (by omega)) ?_
    refine xt_isn3 rfl (by dsimp only [x_sto]) ?_
    refine xt_iln3 rfl ?_
    refine xt_v1 (key := 285) (q := q_X2_least) rfl rfl rfl rfl rfl ⟨Nat.le_of_ble_eq_true rfl, Nat.le_of_ble_eq_true rfl⟩ ⟨v, hv.1, by rw [pk_div (by omega) (by decide) (by decide), pk_div (by omega) (by decide) (by decide), n_ixc (by omega) (by omega), hv.2]⟩ (fun rv_ S1 M1 hq_17 => ?_)
    obtain ⟨eS_, eM_, rfl⟩ := hq_17 v hv.1 (by rw [pk_div (by omega) (by decide) (by decide), pk_div (by omega) (by decide) (by decide), n_ixc (by omega) (by omega), hv.2])
    replace eS_ := eS_.symm
    replace eM_ := eM_.symm
    subst eS_ eM_
    try dsimp only [Option.toList, List.cons_append, List.nil_append]
    refine xt_iln1 rfl ?_
    refine xt_ic ?_
    refine xt_rem (by decide) ?_
    refine xt_iln2 rfl ?_
    refine xt_ic ?_
    refine xt_rem (by decide) ?_
    refine xt_v3 (key := 432) (q := q_X2_signOfEnds) rfl rfl rfl rfl rfl ⟨Nat.le_of_ble_eq_true rfl, Nat.le_of_ble_eq_true rfl⟩ ⟨ls13 v, e % 2, o % 2, ls13_lt v, by omega, by omega, by rw [pk_rem (by omega) (by decide) (by decide), pk_rem (by omega) (by decide) (by decide)]⟩ (fun rv_ S1 M1 hq_26 => ?_)
    obtain ⟨eS_, eM_, rfl⟩ := hq_26 (ls13 v) (e % 2) (o % 2) (ls13_lt v) (by omega) (by omega) (by rw [pk_rem (by omega) (by decide) (by decide), pk_rem (by omega) (by decide) (by decide)])
    replace eS_ := eS_.symm
    replace eM_ := eM_.symm
    subst eS_ eM_
    try dsimp only [Option.toList, List.cons_append, List.nil_append]
    refine xt_ri rfl (Nat.le_refl _) ?_
    intro q2 e2 o2 v2 hw2 h2e h2o hv2 e2
    simp only [List.cons.injEq, Sum.inl.injEq, Sum.inr.injEq, and_true] at e2
    obtain ⟨rfl, e2e, e2o⟩ := e2
    rw [nI_eq (by omega) (by omega)] at e2e
    subst e2e
    rw [nI_eq (by omega) (by omega)] at e2o
    subst e2o
    have ev : v = v2 := by
      have h1 := hv2.2
      rw [hv.2, nI_eq (by omega) (by omega)] at h1
      exact h1
    subst ev
    exact ⟨rfl, rfl, rfl⟩
  · intro μ pc ls st S2 M2 cs sl h; exact h.elim
