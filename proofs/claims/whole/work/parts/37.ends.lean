/-! WAY: numberEnds -/
def frB (f : Nat → Nat) (b : Nat) : Bool := (List.range b).all fun o => sgE f o b != 2
theorem frB_t {f : Nat → Nat} {b : Nat} (h : ∀ o, o < b → sgE f o b ≠ 2) : frB f b = true := by
  unfold frB
  rw [List.all_eq_true]
  intro o ho
  simpa using h o (List.mem_range.mp ho)
theorem frB_f {f : Nat → Nat} {b : Nat} (h : ∃ o, o < b ∧ sgE f o b = 2) : frB f b = false := by
  obtain ⟨o, h1, h2⟩ := h
  cases q : frB f b
  · rfl
  · unfold frB at q
    have := List.all_eq_true.mp q o (List.mem_range.mpr h1)
    simp [h2] at this
/-- how many different ends lie below the end e, looked at below n -/
def rkf (f : Nat → Nat) (e : Nat) : Nat → Nat
  | 0 => 0
  | b + 1 => rkf f e b + (if frB f b = true ∧ sgE f b e = 1 then 1 else 0)
theorem rkf_le (f : Nat → Nat) (e : Nat) : ∀ n, rkf f e n ≤ n
  | 0 => Nat.le_refl _
  | n + 1 => by have := rkf_le f e n; unfold rkf; split <;> omega
def q_X5_numberEnds : x_K := (1, fun as S M => ∃ (q : Nat) (f : Nat → Nat), isWy q ∧ S = SH ∧ At M (q + 3) f ∧ as = [.inr (.inl q)], fun as S M rv_ S' M' => ∀ (q : Nat) (f : Nat → Nat), At M (q + 3) f → as = [.inr (.inl q)] → S' = S ∧ (∃ gI, M' = x_row M (q + 6) gI ∧ ∀ e, e < 12 → gI e = nI (rkf f e 12)) ∧ rv_ = none, 0, 0)
theorem r_X5_numberEnds : ∀ as S M, q_X5_numberEnds.2.1 as S M → ∃ (k : Nat) (as' : List x_V) (fs : List (Option Nat)), as = .inr (.inl k) :: as' ∧ S[k]? = some (.inl (3, fs)) := by
  rintro as S M ⟨q, f, hw, rfl, -, rfl⟩
  exact ⟨q, _, _, rfl, SHw hw⟩
theorem rkf_cg {f f2 : Nat → Nat} (h : ∀ j, j < 36 → f j = f2 j) {e : Nat} (he : e < 12) : ∀ n, n ≤ 12 → rkf f e n = rkf f2 e n
  | 0, _ => rfl
  | n + 1, hn => by
    have key : ∀ g1 g2 : Nat → Nat, (∀ j, j < 36 → g1 j = g2 j) → frB g2 n = true → frB g1 n = true := by
      intro g1 g2 hg q
      refine frB_t (fun o ho => ?_)
      unfold frB at q
      have := List.all_eq_true.mp q o (List.mem_range.mpr ho)
      rw [sgE_cg hg (by omega) (by omega)]
      simpa using this
    have e1 : frB f n = frB f2 n := by
      cases q : frB f2 n
      · cases q1 : frB f n
        · rfl
        · rw [key f2 f (fun j hj => (h j hj).symm) q1] at q; cases q
      · exact key f f2 h q
    unfold rkf
    rw [rkf_cg h he n (by omega), e1, sgE_cg h (by omega) he]
def b_X5_numberEnds : x_B := [(0, 1, [(.aload_n 0, 1), (.getfield 41, 3), (.iconst 0, 1), (.invokestatic 123, 3), (.iconst 0, 1), (.istore_n 1, 1)]),
  (10, 2, [(.iload_n 1, 1), (.bipush 12, 2), (.if_icmp .ge 51, 3), (.aload_n 0, 1), (.iload_n 1, 1), (.invokevirtual 136, 3), (.ifCond .eq 37, 3), (.iconst 0, 1), (.istore_n 2, 1)]),
  (26, 3, [(.iload_n 2, 1), (.bipush 12, 2), (.if_icmp .ge 29, 3), (.aload_n 0, 1), (.iload_n 1, 1), (.iload_n 2, 1), (.invokevirtual 140, 3), (.iconst 1, 1), (.if_icmp .ne 13, 3), (.aload_n 0, 1), (.getfield 41, 3), (.iload_n 2, 1), (.dup2, 1), (.iaload, 1), (.iconst 1, 1), (.iadd, 1), (.iastore, 1)]),
  (52, 3, [(.iinc 2 1, 3), (.goto (-29), 3)]),
  (58, 2, [(.iinc 1 1, 3), (.goto (-51), 3)]),
  (64, 2, [(.return_, 1)])]
theorem b_X5_numberEnds_ok : x_okB cX5_numberEnds 3 b_X5_numberEnds = true := by decide +kernel
def X_X5_numberEnds : x_X := ([(41, 3, 8)], [], [], [], [(369, q_J7_fill), (409, q_X5_isFirstOfItsLikes), (421, q_X5_signOfEnds)], (0, 0), x_kn, x_kf, 5, false)
theorem X_X5_numberEnds_ok : x_okT RX5 X_X5_numberEnds = true := by decide +kernel
theorem k_X5_numberEnds (l : Launch) : ∀ z ∈ X_X5_numberEnds.2.2.2.2.1, x_Cal l (x_rm 4 0 0) cX5_numberEnds RX5 3 z.1 z.2 := List.forall_mem_cons.mpr ⟨x_cal_S (idx := 123) (c_J7_fill l) ⟨by decide, by decide⟩ (by decide +kernel) (by decide +kernel) (by decide +kernel) (by decide +kernel) (by decide +kernel), List.forall_mem_cons.mpr ⟨x_cal_V (idx := 136) (ci := 3) (n := 1) (c_X5_isFirstOfItsLikes l) ⟨by decide, by decide⟩ (by decide +kernel) (by decide +kernel) (by decide +kernel) (by decide +kernel) (by decide +kernel) rfl rfl rfl (by decide +kernel) r_X5_isFirstOfItsLikes, List.forall_mem_cons.mpr ⟨x_cal_V (idx := 140) (ci := 3) (n := 2) (c_X5_signOfEnds l) ⟨by decide, by decide⟩ (by decide +kernel) (by decide +kernel) (by decide +kernel) (by decide +kernel) (by decide +kernel) rfl rfl rfl (by decide +kernel) r_X5_signOfEnds, fun _ h => absurd h List.not_mem_nil⟩⟩⟩
set_option maxHeartbeats 4000000 in
set_option maxRecDepth 100000 in
theorem c_X5_numberEnds (l : Launch) : x_CT l yX5_numberEnds cX5_numberEnds 3 none 4 q_X5_numberEnds := by
  refine x_meth (X := X_X5_numberEnds) (bl := b_X5_numberEnds) (cut := [10, 26]) (own := RX5) 30 (by decide) rfl X_X5_numberEnds_ok b_X5_numberEnds_ok rfl (Nat.le_of_ble_eq_true rfl) (k_X5_numberEnds l) ?_
  rintro as S M - ⟨q, f, hw, rfl, hf, rfl⟩
  have hat : ∀ gI, At (x_row M (q + 6) gI) (q + 3) f := fun gI j hj => ⟨(hf j hj).1, by rw [x_row_ne _ _ (by omega)]; exact (hf j hj).2⟩
  refine ⟨fun μ pc ls st S' M' cs sl => (∃ b gI, b ≤ 12 ∧ M' = x_row M (q + 6) gI ∧ (∀ e, e < 12 → gI e = nI (rkf f e b)) ∧ pc = 10 ∧ st = [] ∧ S' = SH ∧ cs = 0 ∧ sl = 0 ∧ ls = [.inr (.inl q), .inl (nI b)] ∧ μ = (12 - b) * 20) ∨ (∃ b j gI, b < 12 ∧ j ≤ 12 ∧ frB f b = true ∧ M' = x_row M (q + 6) gI ∧ (∀ e, e < 12 → gI e = nI (if e < j then rkf f e (b + 1) else rkf f e b)) ∧ pc = 26 ∧ st = [] ∧ S' = SH ∧ cs = 0 ∧ sl = 0 ∧ ls = [.inr (.inl q), .inl (nI b), .inl (nI j)] ∧ μ = (12 - b) * 20 - 1 - j), ?_, ?_⟩
  · skip
    refine xt_blk rfl rfl (by dsimp only [List.take]) ?_
    refine xt_aln0 rfl (by first | decide | omega | assumption | (have := isWy_lt hw; omega)) ?_
    refine xt_gfr (q := (3, 8)) rfl (by first | exact SHw hw | exact SHw3 hw | exact SHw6 hw | rfl | assumption) rfl ?_
    refine xt_ic ?_
    refine xt_v2 (key := 369) (q := q_J7_fill) rfl rfl rfl rfl rfl ⟨Nat.le_of_ble_eq_true rfl, Nat.le_of_ble_eq_true rfl⟩ ⟨q + 6, 12, _, by have := isWy_lt hw; omega, by decide, SHw6 hw, rfl⟩ (fun rv_ S1 M1 hq_5 => ?_)
    obtain ⟨eS_, eM_, rfl⟩ := hq_5 (q + 6) 12 _ (SHw6 hw) rfl
    replace eS_ := eS_.symm
    replace eM_ := eM_.symm
    subst eS_ eM_
    try dsimp only [Option.toList, List.cons_append, List.nil_append]
    refine xt_ic ?_
    refine xt_isn1 rfl (by dsimp only [x_sto]) ?_
    refine xt_nil (t := 10) rfl ?_
    refine xt_cut rfl rfl (by dsimp only [List.take]) ?_
    exact ⟨12 * 20, Or.inl ⟨0, _, by omega, rfl, fun e he => by unfold x_cp; rw [if_pos he]; rfl, rfl, rfl, rfl, rfl, rfl, rfl, rfl⟩⟩
  · rintro μ pc ls st S2 M2 cs sl (⟨b, gI, hb, rfl, hg, rfl, rfl, rfl, rfl, rfl, rfl, rfl⟩ | ⟨b, j, gI, hb12, hj, hfr, rfl, hg, rfl, rfl, rfl, rfl, rfl, rfl, rfl⟩)
    · refine ⟨_, rfl, ?_⟩
      refine xt_iln1 rfl ?_
      refine xt_bi ?_
      refine xt_cge (t := 64) rfl (fun hc_13 => ?_) (fun hc_13 => ?_)
      · skip
        refine xt_blk rfl rfl (by dsimp only [List.take]) ?_
        refine xt_rv rfl (Nat.le_refl _) ?_
        have hb12 : b = 12 := by rw [nI_leI (by omega) (by omega)] at hc_13; omega
        subst hb12
        intro q2 f2 hf2 e3
        simp only [List.cons.injEq, Sum.inr.injEq, Sum.inl.injEq, and_true] at e3
        subst e3
        have ef := At_u hf hf2
        exact ⟨rfl, ⟨gI, rfl, fun e he => by rw [hg e he, rkf_cg ef he 12 (by omega)]⟩, rfl⟩
      · skip
        refine xt_aln0 rfl (by first | decide | omega | assumption | (have := isWy_lt hw; omega)) ?_
        refine xt_iln1 rfl ?_
        refine xt_v2 (key := 409) (q := q_X5_isFirstOfItsLikes) rfl rfl rfl rfl rfl ⟨Nat.le_of_ble_eq_true rfl, Nat.le_of_ble_eq_true rfl⟩ ⟨q, b, f, hw, rfl, (by rw [nI_leI (by omega) (by omega)] at hc_13; omega), hat gI, rfl⟩ (fun rv_ S1 M1 hq_18 => ?_)
        obtain ⟨eS_, eM_, h_f⟩ := hq_18 q b f (by rw [nI_leI (by omega) (by omega)] at hc_13; omega) (hat gI) rfl
        replace eS_ := eS_.symm
        replace eM_ := eM_.symm
        subst eS_ eM_
        have hex_f : ∃ v, rv_ = some (.inl v) := by rcases h_f with ⟨-, e⟩ | ⟨-, e⟩ <;> exact ⟨_, e⟩
        obtain ⟨v_f, rfl⟩ := hex_f
        simp only [Option.some.injEq, Sum.inl.injEq] at h_f
        try dsimp only [Option.toList, List.cons_append, List.nil_append]
        refine xt_eq (t := 58) rfl (fun hc_21 => ?_) (fun hc_21 => ?_)
        · skip
          refine xt_blk rfl rfl (by dsimp only [List.take]) ?_
          refine xt_inc rfl (by dsimp only [x_sto]) ?_
          refine xt_goto (t := 10) rfl ?_
          refine xt_cut rfl rfl (by dsimp only [List.take]) ?_
          have hb12 : b < 12 := by rw [nI_leI (by omega) (by omega)] at hc_13; omega
          have hfr : frB f b = false := by
            rcases h_f with ⟨-, e⟩ | ⟨y, -⟩
            · rw [e] at hc_21; exact absurd hc_21 (by decide)
            · exact frB_f y
          exact ⟨(12 - (b + 1)) * 20, by omega, Or.inl ⟨b + 1, gI, by omega, rfl, fun e he => by rw [hg e he]; simp [rkf, hfr], rfl, rfl, rfl, rfl, rfl, by rw [nI_add], rfl⟩⟩
        · skip
          refine xt_ic ?_
          refine xt_isn2 rfl (by dsimp only [x_sto]) ?_
          refine xt_nil (t := 26) rfl ?_
          refine xt_cut rfl rfl (by dsimp only [List.take]) ?_
          have hb12 : b < 12 := by rw [nI_leI (by omega) (by omega)] at hc_13; omega
          have hfr : frB f b = true := by
            rcases h_f with ⟨y, -⟩ | ⟨-, e⟩
            · exact frB_t y
            · exact absurd (by rw [e]; rfl) hc_21
          exact ⟨(12 - b) * 20 - 1, by omega, Or.inr ⟨b, 0, gI, hb12, by omega, hfr, rfl, fun e he => by rw [hg e he, if_neg (by omega)], rfl, rfl, rfl, rfl, rfl, rfl, rfl⟩⟩
    · refine ⟨_, rfl, ?_⟩
      refine xt_iln2 rfl ?_
      refine xt_bi ?_
      refine xt_cge (t := 58) rfl (fun hc_29 => ?_) (fun hc_29 => ?_)
      · skip
        refine xt_blk rfl rfl (by dsimp only [List.take]) ?_
        refine xt_inc rfl (by dsimp only [x_sto]) ?_
        refine xt_goto (t := 10) rfl ?_
        refine xt_cut rfl rfl (by dsimp only [List.take]) ?_
        have hj : j = 12 := by rw [nI_leI (by omega) (by omega)] at hc_29; omega
        subst hj
        exact ⟨(12 - (b + 1)) * 20, by omega, Or.inl ⟨b + 1, gI, by omega, rfl, fun e he => by rw [hg e he, if_pos he], rfl, rfl, rfl, rfl, rfl, by rw [nI_add], rfl⟩⟩
      · skip
        refine xt_aln0 rfl (by first | decide | omega | assumption | (have := isWy_lt hw; omega)) ?_
        refine xt_iln1 rfl ?_
        refine xt_iln2 rfl ?_
        refine xt_v3 (key := 421) (q := q_X5_signOfEnds) rfl rfl rfl rfl rfl ⟨Nat.le_of_ble_eq_true rfl, Nat.le_of_ble_eq_true rfl⟩ ⟨q, b, j, f (b / 2 * 6 + j / 2), hw, rfl, by omega, (by rw [nI_leI (by omega) (by omega)] at hc_29; omega), hat gI _ (by rw [nI_leI (by omega) (by omega)] at hc_29; omega), rfl⟩ (fun rv_ S1 M1 hq_35 => ?_)
        obtain ⟨eS_, eM_, rfl⟩ := hq_35 q b j (f (b / 2 * 6 + j / 2)) hw (by omega) (by rw [nI_leI (by omega) (by omega)] at hc_29; omega) (hat gI _ (by rw [nI_leI (by omega) (by omega)] at hc_29; omega)) rfl
        replace eS_ := eS_.symm
        replace eM_ := eM_.symm
        subst eS_ eM_
        try dsimp only [Option.toList, List.cons_append, List.nil_append]
        refine xt_ic ?_
        refine xt_cne (t := 52) rfl (fun hc_39 => ?_) (fun hc_39 => ?_)
        · skip
          refine xt_blk rfl rfl (by dsimp only [List.take]) ?_
          refine xt_inc rfl (by dsimp only [x_sto]) ?_
          refine xt_goto (t := 26) rfl ?_
          refine xt_cut rfl rfl (by dsimp only [List.take]) ?_
          have hj : j < 12 := by rw [nI_leI (by omega) (by omega)] at hc_29; omega
          have h8 : sgE f b j < 8 := Nat.mod_lt _ (by decide)
          have hc : ¬ nI (sgE f b j) = nI 1 := hc_39
          rw [nI_eq (by omega) (by omega)] at hc
          exact ⟨(12 - b) * 20 - 1 - (j + 1), by omega, Or.inr ⟨b, j + 1, gI, hb12, by omega, hfr, rfl, fun e he => by
            rw [hg e he]
            by_cases h : e = j
            · subst h
              rw [if_neg (by omega), if_pos (by omega)]
              simp [rkf, hc]
            · by_cases h2 : e < j
              · rw [if_pos h2, if_pos (by omega)]
              · rw [if_neg h2, if_neg (by omega)], rfl, rfl, rfl, rfl, rfl, by rw [nI_add], rfl⟩⟩
        · skip
          refine xt_aln0 rfl (by first | decide | omega | assumption | (have := isWy_lt hw; omega)) ?_
          refine xt_gfr (q := (3, 8)) rfl (by first | exact SHw hw | exact SHw3 hw | exact SHw6 hw | rfl | assumption) rfl ?_
          refine xt_iln2 rfl ?_
          refine xt_dup2 ?_
          refine xt_ial (by first | exact SHw hw | exact SHw3 hw | exact SHw6 hw | rfl | assumption) (show vp_in _ 12 from vp_in_nI (by rw [nI_leI (by omega) (by omega)] at hc_29; omega) (by decide)) ?_
          refine xt_ic ?_
          refine xt_add ?_
          refine xt_ias (by first | exact SHw hw | exact SHw3 hw | exact SHw6 hw | rfl | assumption) (show vp_in _ 12 from vp_in_nI (by rw [nI_leI (by omega) (by omega)] at hc_29; omega) (by decide)) ?_
          refine xt_nil (t := 52) rfl ?_
          refine xt_blk rfl rfl (by dsimp only [List.take]) ?_
          refine xt_inc rfl (by dsimp only [x_sto]) ?_
          refine xt_goto (t := 26) rfl ?_
          refine xt_cut rfl rfl (by dsimp only [List.take]) ?_
          have hj : j < 12 := by rw [nI_leI (by omega) (by omega)] at hc_29; omega
          have h8 : sgE f b j < 8 := Nat.mod_lt _ (by decide)
          have hc : nI (sgE f b j) = nI 1 := hc_39
          rw [nI_eq (by omega) (by omega)] at hc
          refine ⟨(12 - b) * 20 - 1 - (j + 1), by omega, Or.inr ⟨b, j + 1, _, hb12, by omega, hfr, by rw [x_row_row], fun e he => ?_, rfl, rfl, rfl, rfl, rfl, by rw [nI_add], rfl⟩⟩
          rw [x_row_self, nI_clamp (by omega)]
          unfold upd
          by_cases h : e = j
          · subst h
            rw [if_pos rfl, hg e he, if_neg (by omega), if_pos (by omega), nI_add]
            simp [rkf, hc, hfr]
          · rw [if_neg h, hg e he]
            by_cases h2 : e < j
            · rw [if_pos h2, if_pos (by omega)]
            · rw [if_neg h2, if_neg (by omega)]
