/-! THE REFERENCE: compareEnds, rankOf, isStatement, ofBoxes, add -/
theorem smp {M : x_M} {r : Nat} (h : T55 M) (hr : r < 13) : ∃ a z b y, a < 6 ∧ z < 6 ∧ b < 6 ∧ y < 6 ∧ a < z ∧ b < y ∧ rN a z b y = r ∧ (∀ i, i < 2 → M 55 (4 * r + i) = nI (en a z i)) ∧ (∀ i, i < 2 → M 55 (4 * r + 2 + i) = nI (en b y i)) := by
  obtain ⟨a, z, b, y, h1, h2, h3, h4, h5, h6, h7, e1, e2, e3, e4⟩ := h r hr
  refine ⟨a, z, b, y, h1, h2, h3, h4, h5, h6, h7, fun i hi => ?_, fun i hi => ?_⟩
  · rcases (show i = 0 ∨ i = 1 by omega) with rfl | rfl
    · exact e1
    · exact e2
  · rcases (show i = 0 ∨ i = 1 by omega) with rfl | rfl
    · exact e3
    · exact e4
def cmpV (v : Int32) (x : Nat) : Prop := (v = 0 ↔ x = 2) ∧ (v < 0 ↔ x = 1)
theorem cmp6 : ∀ x, x < 6 → ∀ y, y < 6 → ((nI x - nI y = 0 ↔ sgN x y = 2) ∧ (nI x - nI y < 0 ↔ sgN x y = 1)) := by decide
theorem sd8 : ∀ r, r < 13 → ∀ e, e < 2 → ∀ o, o < 2 → sgT r / 2 ^ ((3 - (2 * e + o)) * 4) % 8 = sd r e o := by decide
theorem sd6 : ∀ e, e < 2 → ∀ o, o < 2 → sd 6 e o = sgN e o := by decide
theorem en_lt {a z i : Nat} (ha : a < 6) (hz : z < 6) : en a z i < 6 := by unfold en; split <;> assumption
theorem sgE_dn {s : Nat → Nat} (hs : ∀ q, q < 15 → s q < 13) {e f : Nat} (he : e < 12) (hf : f < 12) : sgE (dn s) e f = sd (rel s (e / 2) (f / 2)) (e % 2) (f % 2) := by
  have hr := rel_lt hs (a := e / 2) (b := f / 2) (by omega) (by omega)
  unfold sgE dn
  rw [show (e / 2 * 6 + f / 2) / 6 = e / 2 by omega, show (e / 2 * 6 + f / 2) % 6 = f / 2 by omega, ls_pow _ hr, sd8 _ hr _ (by omega) _ (by omega)]
theorem rel_self (s : Nat → Nat) (a : Nat) : rel s a a = 6 := by unfold rel; rw [if_pos rfl]
theorem pow_inj {x y : Nat} (h : 2 ^ x = 2 ^ y) : x = y := by
  rcases Nat.lt_trichotomy x y with q | q | q
  · have := Nat.pow_lt_pow_right (a := 2) (by decide) q; omega
  · exact q
  · have := Nat.pow_lt_pow_right (a := 2) (by decide) q; omega
theorem R540_u {M : x_M} {s t : Nat → Nat} (h : R540 M s) (h2 : R540 M t) {a b : Nat} (ha : a < 6) (hb : b < 6) : rel s a b = rel t a b := by
  by_cases e : a = b
  · subst e; rw [rel_self, rel_self]
  · have p1 : 2 ^ rel s a b < 2 ^ 13 := Nat.pow_lt_pow_right (by decide) (rel_lt h.1 ha hb)
    have p2 : 2 ^ rel t a b < 2 ^ 13 := Nat.pow_lt_pow_right (by decide) (rel_lt h2.1 ha hb)
    have q := (h.2 a b ha hb e).symm.trans (h2.2 a b ha hb e)
    rw [nI_eq (by omega) (by omega)] at q
    exact pow_inj q
theorem ix540 {a b : Nat} (ha : a < 6) (hb : b < 6) : (nI 540 + nI 6 * nI a + nI b).toNatClampNeg = 540 + (a * 6 + b) := by rw [pk_mul, nI_add, nI_add, nI_clamp (by omega)]; omega
theorem vx540 {a b : Nat} (ha : a < 6) (hb : b < 6) : vp_in (nI 540 + nI 6 * nI a + nI b) 576 := by rw [pk_mul, nI_add, nI_add]; exact vp_in_nI (by omega) (by decide)
theorem sd2 : ∀ r, r < 13 → ∀ e, e < 2 → ∀ o, o < 2 → (sd (12 - r) o e = 2 ↔ sd r e o = 2) := by decide
theorem rel_12 {s : Nat → Nat} (hs : ∀ q, q < 15 → s q < 13) {a b : Nat} (ha : a < 6) (hb : b < 6) : rel s b a = 12 - rel s a b := by
  unfold rel
  by_cases e : a = b
  · subst e; rw [if_pos rfl]
  · rw [if_neg e, if_neg (Ne.symm e), pr_c hb ha (Ne.symm e)]
    have := hs _ (pr_lt ha hb e)
    by_cases q : a < b
    · rw [if_pos q, if_neg (by omega)]
    · rw [if_neg q, if_pos (by omega)]; omega
theorem sgE_sym {s : Nat → Nat} (hs : ∀ q, q < 15 → s q < 13) {e f : Nat} (he : e < 12) (hf : f < 12) : sgE (dn s) f e = 2 ↔ sgE (dn s) e f = 2 := by
  rw [sgE_dn hs hf he, sgE_dn hs he hf, rel_12 hs (a := e / 2) (b := f / 2) (by omega) (by omega)]
  exact sd2 _ (rel_lt hs (by omega) (by omega)) _ (by omega) _ (by omega)
theorem rkf_eq {f : Nat → Nat} {e b : Nat} : rkf f e (b + 1) = rkf f e b + (if frB f b = true ∧ sgE f b e = 1 then 1 else 0) := rfl
def q_X7_compareEnds : x_K := (3, fun as S M => ∃ (e f : Nat) (s : Nat → Nat), e < 12 ∧ f < 12 ∧ T55 M ∧ R540 M s ∧ S = SH ∧ as = [.inr (.inl 53), .inl (nI e), .inl (nI f)],
  fun as S M rv_ S' M' => ∀ (e f : Nat) (s : Nat → Nat), e < 12 → f < 12 → R540 M s → as = [.inr (.inl 53), .inl (nI e), .inl (nI f)] → S' = S ∧ M' = M ∧ ∃ v, rv_ = some (.inl v) ∧ cmpV v (sgE (dn s) e f), 0, 0)
theorem r_X7_compareEnds : ∀ as S M, q_X7_compareEnds.2.1 as S M → ∃ (k : Nat) (as' : List x_V) (fs : List (Option Nat)), as = .inr (.inl k) :: as' ∧ S[k]? = some (.inl (5, fs)) := by
  rintro as S M ⟨e, f, s, -, -, -, -, rfl, rfl⟩
  exact ⟨53, _, _, rfl, rfl⟩
def b_X7_compareEnds : x_B := [(0, 3, [(.iload_n 1, 1), (.iconst 2, 1), (.idiv, 1), (.istore_n 3, 1), (.iload_n 2, 1), (.iconst 2, 1), (.idiv, 1), (.istore 4, 2), (.iload_n 3, 1), (.iload 4, 2), (.if_icmp .ne 11, 3), (.iload_n 1, 1), (.iconst 2, 1), (.irem, 1), (.iload_n 2, 1), (.iconst 2, 1), (.irem, 1), (.isub, 1), (.ireturn, 1)]),
  (23, 5, [(.aload_n 0, 1), (.getfield 50, 3), (.sipush 540, 3), (.bipush 6, 2), (.iload_n 3, 1), (.imul, 1), (.iadd, 1), (.iload 4, 2), (.iadd, 1), (.iaload, 1), (.invokestatic 148, 3), (.istore 5, 2), (.aload_n 0, 1), (.getfield 13, 3), (.iconst 4, 1), (.iload 5, 2), (.imul, 1), (.iload_n 1, 1), (.iconst 2, 1), (.irem, 1), (.iadd, 1), (.iaload, 1), (.aload_n 0, 1), (.getfield 13, 3), (.iconst 4, 1), (.iload 5, 2), (.imul, 1), (.iconst 2, 1), (.iadd, 1), (.iload_n 2, 1), (.iconst 2, 1), (.irem, 1), (.iadd, 1), (.iaload, 1), (.isub, 1), (.ireturn, 1)])]
theorem b_X7_compareEnds_ok : x_okB cX7_compareEnds 6 b_X7_compareEnds = true := by decide +kernel
def X_X7_compareEnds : x_X := ([(50, 5, 14), (13, 5, 1)], [], [], [], [(444, q_X7_bitOf)], (0, 0), x_kn, x_kf, 5, false)
theorem X_X7_compareEnds_ok : x_okT RX7 X_X7_compareEnds = true := by decide +kernel
theorem k_X7_compareEnds (l : Launch) : ∀ z ∈ X_X7_compareEnds.2.2.2.2.1, x_Cal l (x_rm 2 0 0) cX7_compareEnds RX7 6 z.1 z.2 := List.forall_mem_cons.mpr ⟨x_cal_S (idx := 148) (c_X7_bitOf l) ⟨by decide, by decide⟩ (by decide +kernel) (by decide +kernel) (by decide +kernel) (by decide +kernel) (by decide +kernel), fun _ h => absurd h List.not_mem_nil⟩
set_option maxHeartbeats 4000000 in
set_option maxRecDepth 100000 in
theorem c_X7_compareEnds (l : Launch) : x_CT l yX7_compareEnds cX7_compareEnds 6 (some .int) 2 q_X7_compareEnds := by
  refine x_meth (X := X_X7_compareEnds) (bl := b_X7_compareEnds) (cut := []) (own := RX7) 30 (by decide) rfl X_X7_compareEnds_ok b_X7_compareEnds_ok rfl (Nat.le_of_ble_eq_true rfl) (k_X7_compareEnds l) ?_
  rintro as S M - ⟨e, f, s, he, hf, hT, hR, rfl, rfl⟩
  have ed : nI e / nI 2 = nI (e / 2) := pk_div (by omega) (by decide) (by decide)
  have fd : nI f / nI 2 = nI (f / 2) := pk_div (by omega) (by decide) (by decide)
  have er : nI e - nI e / nI 2 * nI 2 = nI (e % 2) := pk_rem (by omega) (by decide) (by decide)
  have fr : nI f - nI f / nI 2 * nI 2 = nI (f % 2) := pk_rem (by omega) (by decide) (by decide)
  refine ⟨fun _ _ _ _ _ _ _ _ => False, ?_, ?_⟩
  · skip
    refine xt_blk rfl rfl (by dsimp only [List.take]) ?_
    refine xt_iln1 rfl ?_
    refine xt_ic ?_
    refine xt_div (by decide) ?_
    refine xt_isn3 rfl (by dsimp only [x_sto]) ?_
    refine xt_iln2 rfl ?_
    refine xt_ic ?_
    refine xt_div (by decide) ?_
    refine xt_ist rfl (by dsimp only [x_sto]) ?_
    refine xt_iln3 rfl ?_
    refine xt_ild rfl ?_
    refine xt_cne (t := 23) rfl (fun hc_12 => ?_) (fun hc_12 => ?_)
    · skip
      rw [ed, fd, nI_eq (by omega) (by omega)] at hc_12
      rw [ed, fd]
      have hr := rel_lt hR.1 (a := e / 2) (b := f / 2) (by omega) (by omega)
      obtain ⟨a, z, b, y, h1, h2, h3, h4, h5, h6, h7, g1, g2⟩ := smp hT hr
      have e67 : M 67 (nI 540 + nI 6 * nI (e / 2) + nI (f / 2)).toNatClampNeg = nI (2 ^ rel s (e / 2) (f / 2)) := by rw [ix540 (by omega) (by omega)]; exact hR.2 _ _ (by omega) (by omega) hc_12
      have i1 : nI 4 * nI (rel s (e / 2) (f / 2)) + (nI e - nI e / nI 2 * nI 2) = nI (4 * rel s (e / 2) (f / 2) + e % 2) := by rw [er, pk_mul, nI_add]
      have i2 : nI 4 * nI (rel s (e / 2) (f / 2)) + nI 2 + (nI f - nI f / nI 2 * nI 2) = nI (4 * rel s (e / 2) (f / 2) + 2 + f % 2) := by rw [fr, pk_mul, nI_add, nI_add]
      refine xt_blk rfl rfl (by dsimp only [List.take]) ?_
      refine xt_aln0 rfl (by first | decide | omega | assumption) ?_
      refine xt_gfr (q := (5, 14)) rfl (by first | rfl | assumption) rfl ?_
      refine xt_si ?_
      refine xt_bi ?_
      refine xt_iln3 rfl ?_
      refine xt_mul ?_
      refine xt_add ?_
      refine xt_ild rfl ?_
      refine xt_add ?_
      refine xt_ial (by first | rfl | assumption) (vx540 (by omega) (by omega)) ?_
      refine xt_v1 (key := 444) (q := q_X7_bitOf) rfl rfl rfl rfl rfl ⟨Nat.le_of_ble_eq_true rfl, Nat.le_of_ble_eq_true rfl⟩ ⟨rel s (e / 2) (f / 2), hr, by rw [e67]⟩ (fun rv_ S1 M1 hq_39 => ?_)
      obtain ⟨eS_, eM_, rfl⟩ := hq_39 (rel s (e / 2) (f / 2)) hr (by rw [e67])
      replace eS_ := eS_.symm
      replace eM_ := eM_.symm
      subst eS_ eM_
      try dsimp only [Option.toList, List.cons_append, List.nil_append]
      refine xt_ist rfl (by dsimp only [x_sto]) ?_
      refine xt_aln0 rfl (by first | decide | omega | assumption) ?_
      refine xt_gfr (q := (5, 1)) rfl (by first | rfl | assumption) rfl ?_
      refine xt_ic ?_
      refine xt_ild rfl ?_
      refine xt_mul ?_
      refine xt_iln1 rfl ?_
      refine xt_ic ?_
      refine xt_rem (by decide) ?_
      refine xt_add ?_
      refine xt_ial (by first | rfl | assumption) (show vp_in _ 52 from by rw [i1]; exact vp_in_nI (by omega) (by decide)) ?_
      refine xt_aln0 rfl (by first | decide | omega | assumption) ?_
      refine xt_gfr (q := (5, 1)) rfl (by first | rfl | assumption) rfl ?_
      refine xt_ic ?_
      refine xt_ild rfl ?_
      refine xt_mul ?_
      refine xt_ic ?_
      refine xt_add ?_
      refine xt_iln2 rfl ?_
      refine xt_ic ?_
      refine xt_rem (by decide) ?_
      refine xt_add ?_
      refine xt_ial (by first | rfl | assumption) (show vp_in _ 52 from by rw [i2]; exact vp_in_nI (by omega) (by decide)) ?_
      refine xt_sub ?_
      refine xt_ri rfl (Nat.le_refl _) ?_
      intro e2 f2 s2 he2 hf2 hR2 q2
      simp only [List.cons.injEq, Sum.inl.injEq, and_true, true_and] at q2
      obtain ⟨qe, qf⟩ := q2
      rw [nI_eq (by omega) (by omega)] at qe qf
      subst qe qf
      refine ⟨rfl, rfl, _, rfl, ?_⟩
      rw [sgE_dn hR2.1 he2 hf2, R540_u hR2 hR (by omega) (by omega), i1, i2, nI_clamp (by omega), nI_clamp (by omega), g1 _ (by omega), g2 _ (by omega)]
      have q := sd_rN h5 h6 (e := e % 2) (o := f % 2) (by omega) (by omega)
      rw [h7] at q
      rw [q]
      exact cmp6 _ (en_lt h1 h2) _ (en_lt h3 h4)
    · skip
      refine xt_iln1 rfl ?_
      refine xt_ic ?_
      refine xt_rem (by decide) ?_
      refine xt_iln2 rfl ?_
      refine xt_ic ?_
      refine xt_rem (by decide) ?_
      refine xt_sub ?_
      refine xt_ri rfl (Nat.le_refl _) ?_
      intro e2 f2 s2 he2 hf2 hR2 q2
      simp only [List.cons.injEq, Sum.inl.injEq, and_true, true_and] at q2
      obtain ⟨qe, qf⟩ := q2
      rw [nI_eq (by omega) (by omega)] at qe qf
      subst qe qf
      rw [ed, fd, nI_eq (by omega) (by omega)] at hc_12
      refine ⟨rfl, rfl, _, rfl, ?_⟩
      rw [sgE_dn hR2.1 he2 hf2, hc_12, rel_self, sd6 _ (by omega) _ (by omega), er, fr]
      exact cmp6 _ (by omega) _ (by omega)
  · intro μ pc ls st S2 M2 cs sl h; exact h.elim
def q_X7_rankOf : x_K := (2, fun as S M => ∃ (e : Nat) (s : Nat → Nat), e < 12 ∧ T55 M ∧ R540 M s ∧ S = SH ∧ as = [.inr (.inl 53), .inl (nI e)],
  fun as S M rv_ S' M' => ∀ (e : Nat) (s : Nat → Nat), e < 12 → R540 M s → as = [.inr (.inl 53), .inl (nI e)] → S' = S ∧ M' = M ∧ rv_ = some (.inl (nI (rkG s e))), 0, 0)
theorem r_X7_rankOf : ∀ as S M, q_X7_rankOf.2.1 as S M → ∃ (k : Nat) (as' : List x_V) (fs : List (Option Nat)), as = .inr (.inl k) :: as' ∧ S[k]? = some (.inl (5, fs)) := by
  rintro as S M ⟨e, s, -, -, -, rfl, rfl⟩
  exact ⟨53, _, _, rfl, rfl⟩
theorem dn_R {M : x_M} {s t : Nat → Nat} (h : R540 M s) (h2 : R540 M t) : ∀ j, j < 36 → dn s j = dn t j := fun j hj => by unfold dn; rw [R540_u h h2 (by omega) (by omega)]
def b_X7_rankOf : x_B := [(0, 2, [(.iconst 0, 1), (.istore_n 2, 1), (.iconst 0, 1), (.istore_n 3, 1)]),
  (4, 4, [(.iload_n 3, 1), (.bipush 12, 2), (.if_icmp .ge 71, 3), (.iconst 1, 1), (.istore 4, 2), (.iconst 0, 1), (.istore 5, 2)]),
  (16, 6, [(.iload 5, 2), (.iload_n 3, 1), (.if_icmp .ge 31, 3), (.iload 4, 2), (.ifCond .eq 17, 3), (.aload_n 0, 1), (.iload_n 3, 1), (.iload 5, 2), (.invokevirtual 151, 3), (.ifCond .eq 7, 3), (.iconst 1, 1), (.goto 4, 3)]),
  (41, 6, [(.iconst 0, 1)]),
  (42, 6, [(.istore 4, 2), (.iinc 5 1, 3), (.goto (-31), 3)]),
  (50, 6, [(.iload_n 2, 1), (.iload 4, 2), (.ifCond .eq 16, 3), (.aload_n 0, 1), (.iload_n 3, 1), (.iload_n 1, 1), (.invokevirtual 151, 3), (.ifCond .ge 7, 3), (.iconst 1, 1), (.goto 4, 3)]),
  (69, 6, [(.iconst 0, 1)]),
  (70, 6, [(.iadd, 1), (.istore_n 2, 1), (.iinc 3 1, 3), (.goto (-71), 3)]),
  (78, 4, [(.iload_n 2, 1), (.ireturn, 1)])]
theorem b_X7_rankOf_ok : x_okB cX7_rankOf 6 b_X7_rankOf = true := by decide +kernel
def X_X7_rankOf : x_X := ([], [], [], [], [(454, q_X7_compareEnds)], (0, 0), x_kn, x_kf, 5, false)
theorem X_X7_rankOf_ok : x_okT RX7 X_X7_rankOf = true := by decide +kernel
theorem k_X7_rankOf (l : Launch) : ∀ z ∈ X_X7_rankOf.2.2.2.2.1, x_Cal l (x_rm 3 0 0) cX7_rankOf RX7 6 z.1 z.2 := List.forall_mem_cons.mpr ⟨x_cal_V (idx := 151) (ci := 5) (n := 2) (c_X7_compareEnds l) ⟨by decide, by decide⟩ (by decide +kernel) (by decide +kernel) (by decide +kernel) (by decide +kernel) (by decide +kernel) rfl rfl rfl (by decide +kernel) r_X7_compareEnds, fun _ h => absurd h List.not_mem_nil⟩
set_option maxHeartbeats 4000000 in
set_option maxRecDepth 100000 in
theorem c_X7_rankOf (l : Launch) : x_CT l yX7_rankOf cX7_rankOf 6 (some .int) 3 q_X7_rankOf := by
  refine x_meth (X := X_X7_rankOf) (bl := b_X7_rankOf) (cut := [4, 16]) (own := RX7) 30 (by decide) rfl X_X7_rankOf_ok b_X7_rankOf_ok rfl (Nat.le_of_ble_eq_true rfl) (k_X7_rankOf l) ?_
  rintro as S M - ⟨e, s, he, hT, hR, rfl, rfl⟩
  refine ⟨fun μ pc ls st S' M' cs sl => (∃ f, f ≤ 12 ∧ pc = 4 ∧ st = [] ∧ S' = SH ∧ M' = M ∧ cs = 0 ∧ sl = 0 ∧ ls = [.inr (.inl 53), .inl (nI e), .inl (nI (rkf (dn s) e f)), .inl (nI f)] ∧ μ = (12 - f) * 100 + 99) ∨ (∃ f g fo, f < 12 ∧ g ≤ f ∧ fo < 2 ∧ (fo = 1 → ∀ o, o < g → sgE (dn s) o f ≠ 2) ∧ (fo = 0 → ∃ o, o < g ∧ sgE (dn s) o f = 2) ∧ pc = 16 ∧ st = [] ∧ S' = SH ∧ M' = M ∧ cs = 0 ∧ sl = 0 ∧ ls = [.inr (.inl 53), .inl (nI e), .inl (nI (rkf (dn s) e f)), .inl (nI f), .inl (nI fo), .inl (nI g)] ∧ μ = (12 - f) * 100 + (20 - g)), ?_, ?_⟩
  · skip
    refine xt_blk rfl rfl (by dsimp only [List.take]) ?_
    refine xt_ic ?_
    refine xt_isn2 rfl (by dsimp only [x_sto]) ?_
    refine xt_ic ?_
    refine xt_isn3 rfl (by dsimp only [x_sto]) ?_
    refine xt_nil (t := 4) rfl ?_
    refine xt_cut rfl rfl (by dsimp only [List.take]) ?_
    exact ⟨12 * 100 + 99, Or.inl ⟨0, by omega, rfl, rfl, rfl, rfl, rfl, rfl, rfl, rfl⟩⟩
  · rintro μ pc ls st S2 M2 cs sl (⟨f, hf, rfl, rfl, rfl, rfl, rfl, rfl, rfl, rfl⟩ | ⟨f, g, fo, hf12, hg, hfo, hy, hn, rfl, rfl, rfl, rfl, rfl, rfl, rfl, rfl⟩)
    · refine ⟨_, rfl, ?_⟩
      refine xt_iln3 rfl ?_
      refine xt_bi ?_
      refine xt_cge (t := 78) rfl (fun hc_7 => ?_) (fun hc_7 => ?_)
      · skip
        refine xt_blk rfl rfl (by dsimp only [List.take]) ?_
        refine xt_iln2 rfl ?_
        refine xt_ri rfl (Nat.le_refl _) ?_
        intro e2 s2 he2 hR2 q2
        simp only [List.cons.injEq, Sum.inl.injEq, and_true, true_and] at q2
        rw [nI_eq (by omega) (by omega)] at q2
        subst q2
        have hf12 : f = 12 := by rw [nI_leI (by omega) (by omega)] at hc_7; omega
        subst hf12
        refine ⟨rfl, rfl, ?_⟩
        unfold rkG
        rw [rkf_cg (dn_R hR2 hR) he2 12 (Nat.le_refl _)]
      · skip
        have hf12 : f < 12 := by rw [nI_leI (by omega) (by omega)] at hc_7; omega
        refine xt_ic ?_
        refine xt_ist rfl (by dsimp only [x_sto]) ?_
        refine xt_ic ?_
        refine xt_ist rfl (by dsimp only [x_sto]) ?_
        refine xt_nil (t := 16) rfl ?_
        refine xt_cut rfl rfl (by dsimp only [List.take]) ?_
        exact ⟨(12 - f) * 100 + (20 - 0), by omega, Or.inr ⟨f, 0, 1, hf12, by omega, by omega, fun _ o ho => by omega, fun h => by omega, rfl, rfl, rfl, rfl, rfl, rfl, rfl, rfl⟩⟩
    · refine ⟨_, rfl, ?_⟩
      refine xt_ild rfl ?_
      refine xt_iln3 rfl ?_
      refine xt_cge (t := 50) rfl (fun hc_19 => ?_) (fun hc_19 => ?_)
      · skip
        have hgf : g = f := by rw [nI_leI (by omega) (by omega)] at hc_19; omega
        subst hgf
        refine xt_blk rfl rfl (by dsimp only [List.take]) ?_
        refine xt_iln2 rfl ?_
        refine xt_ild rfl ?_
        refine xt_eq (t := 69) rfl (fun hc_53 => ?_) (fun hc_53 => ?_)
        · skip
          refine xt_blk rfl rfl (by dsimp only [List.take]) ?_
          refine xt_ic ?_
          refine xt_nil (t := 70) rfl ?_
          refine xt_blk rfl rfl (by dsimp only [List.take]) ?_
          refine xt_add ?_
          refine xt_isn2 rfl (by dsimp only [x_sto]) ?_
          refine xt_inc rfl (by dsimp only [x_sto]) ?_
          refine xt_goto (t := 4) rfl ?_
          refine xt_cut rfl rfl (by dsimp only [List.take]) ?_
          have hfo0 : fo = 0 := by rw [n_eq0 (by omega)] at hc_53; exact hc_53
          have hno : ¬ (frB (dn s) g = true ∧ sgE (dn s) g e = 1) := fun q => by rw [frB_f (hn hfo0)] at q; exact absurd q.1 (by decide)
          have hz : rkf (dn s) e (g + 1) = rkf (dn s) e g := by
            rw [rkf_eq, if_neg hno, Nat.add_zero]
          exact ⟨(12 - (g + 1)) * 100 + 99, by omega, Or.inl ⟨g + 1, by omega, rfl, rfl, rfl, rfl, rfl, rfl, by rw [hz, nI_add, nI_add, Nat.add_zero], rfl⟩⟩
        · skip
          refine xt_aln0 rfl (by first | decide | omega | assumption) ?_
          refine xt_iln3 rfl ?_
          refine xt_iln1 rfl ?_
          refine xt_v3 (key := 454) (q := q_X7_compareEnds) rfl rfl rfl rfl rfl ⟨Nat.le_of_ble_eq_true rfl, Nat.le_of_ble_eq_true rfl⟩ ⟨g, e, s, by omega, by omega, hT, hR, rfl, rfl⟩ (fun rv_ S1 M1 hq_59 => ?_)
          obtain ⟨eS_, eM_, v, rfl, hv⟩ := hq_59 g e s (by omega) (by omega) hR rfl
          replace eS_ := eS_.symm
          replace eM_ := eM_.symm
          subst eS_ eM_
          try dsimp only [Option.toList, List.cons_append, List.nil_append]
          refine xt_ge (t := 69) rfl (fun hc_62 => ?_) (fun hc_62 => ?_)
          · skip
            refine xt_blk rfl rfl (by dsimp only [List.take]) ?_
            refine xt_ic ?_
            refine xt_nil (t := 70) rfl ?_
            refine xt_blk rfl rfl (by dsimp only [List.take]) ?_
            refine xt_add ?_
            refine xt_isn2 rfl (by dsimp only [x_sto]) ?_
            refine xt_inc rfl (by dsimp only [x_sto]) ?_
            refine xt_goto (t := 4) rfl ?_
            refine xt_cut rfl rfl (by dsimp only [List.take]) ?_
            have hfo1 : fo = 1 := by rw [n_eq0 (by omega)] at hc_53; omega
            have hno : ¬ (frB (dn s) g = true ∧ sgE (dn s) g e = 1) := fun q => Int32.not_lt.mpr hc_62 (hv.2.mpr q.2)
            have hz : rkf (dn s) e (g + 1) = rkf (dn s) e g := by
              rw [rkf_eq, if_neg hno, Nat.add_zero]
            exact ⟨(12 - (g + 1)) * 100 + 99, by omega, Or.inl ⟨g + 1, by omega, rfl, rfl, rfl, rfl, rfl, rfl, by rw [hz, nI_add, nI_add, Nat.add_zero], rfl⟩⟩
          · skip
            refine xt_ic ?_
            refine xt_goto (t := 70) rfl ?_
            refine xt_blk rfl rfl (by dsimp only [List.take]) ?_
            refine xt_add ?_
            refine xt_isn2 rfl (by dsimp only [x_sto]) ?_
            refine xt_inc rfl (by dsimp only [x_sto]) ?_
            refine xt_goto (t := 4) rfl ?_
            refine xt_cut rfl rfl (by dsimp only [List.take]) ?_
            have hfo1 : fo = 1 := by rw [n_eq0 (by omega)] at hc_53; omega
            have hz : rkf (dn s) e (g + 1) = rkf (dn s) e g + 1 := by
              rw [rkf_eq, if_pos ⟨frB_t (hy hfo1), hv.2.mp (Int32.not_le.mp hc_62)⟩]
            exact ⟨(12 - (g + 1)) * 100 + 99, by omega, Or.inl ⟨g + 1, by omega, rfl, rfl, rfl, rfl, rfl, rfl, by rw [hz, nI_add, nI_add], rfl⟩⟩
      · skip
        have hgf : g < f := by rw [nI_leI (by omega) (by omega)] at hc_19; omega
        refine xt_ild rfl ?_
        refine xt_eq (t := 41) rfl (fun hc_24 => ?_) (fun hc_24 => ?_)
        · skip
          refine xt_blk rfl rfl (by dsimp only [List.take]) ?_
          refine xt_ic ?_
          refine xt_nil (t := 42) rfl ?_
          refine xt_blk rfl rfl (by dsimp only [List.take]) ?_
          refine xt_ist rfl (by dsimp only [x_sto]) ?_
          refine xt_inc rfl (by dsimp only [x_sto]) ?_
          refine xt_goto (t := 16) rfl ?_
          refine xt_cut rfl rfl (by dsimp only [List.take]) ?_
          have hfo0 : fo = 0 := by rw [n_eq0 (by omega)] at hc_24; exact hc_24
          obtain ⟨o, ho1, ho2⟩ := hn hfo0
          exact ⟨(12 - f) * 100 + (20 - (g + 1)), by omega, Or.inr ⟨f, g + 1, 0, hf12, by omega, by omega, fun h => by omega, fun _ => ⟨o, by omega, ho2⟩, rfl, rfl, rfl, rfl, rfl, rfl, by rw [nI_add], rfl⟩⟩
        · skip
          refine xt_aln0 rfl (by first | decide | omega | assumption) ?_
          refine xt_iln3 rfl ?_
          refine xt_ild rfl ?_
          refine xt_v3 (key := 454) (q := q_X7_compareEnds) rfl rfl rfl rfl rfl ⟨Nat.le_of_ble_eq_true rfl, Nat.le_of_ble_eq_true rfl⟩ ⟨f, g, s, by omega, by omega, hT, hR, rfl, rfl⟩ (fun rv_ S1 M1 hq_31 => ?_)
          obtain ⟨eS_, eM_, v, rfl, hv⟩ := hq_31 f g s (by omega) (by omega) hR rfl
          replace eS_ := eS_.symm
          replace eM_ := eM_.symm
          subst eS_ eM_
          try dsimp only [Option.toList, List.cons_append, List.nil_append]
          refine xt_eq (t := 41) rfl (fun hc_34 => ?_) (fun hc_34 => ?_)
          · skip
            refine xt_blk rfl rfl (by dsimp only [List.take]) ?_
            refine xt_ic ?_
            refine xt_nil (t := 42) rfl ?_
            refine xt_blk rfl rfl (by dsimp only [List.take]) ?_
            refine xt_ist rfl (by dsimp only [x_sto]) ?_
            refine xt_inc rfl (by dsimp only [x_sto]) ?_
            refine xt_goto (t := 16) rfl ?_
            refine xt_cut rfl rfl (by dsimp only [List.take]) ?_
            have hfo1 : fo = 1 := by rw [n_eq0 (by omega)] at hc_24; omega
            have h2 := (sgE_sym hR.1 (show f < 12 by omega) (show g < 12 by omega)).mpr (hv.1.mp hc_34)
            exact ⟨(12 - f) * 100 + (20 - (g + 1)), by omega, Or.inr ⟨f, g + 1, 0, hf12, by omega, by omega, fun h => by omega, fun _ => ⟨g, by omega, h2⟩, rfl, rfl, rfl, rfl, rfl, rfl, by rw [nI_add], rfl⟩⟩
          · skip
            refine xt_ic ?_
            refine xt_goto (t := 42) rfl ?_
            refine xt_blk rfl rfl (by dsimp only [List.take]) ?_
            refine xt_ist rfl (by dsimp only [x_sto]) ?_
            refine xt_inc rfl (by dsimp only [x_sto]) ?_
            refine xt_goto (t := 16) rfl ?_
            refine xt_cut rfl rfl (by dsimp only [List.take]) ?_
            have hfo1 : fo = 1 := by rw [n_eq0 (by omega)] at hc_24; omega
            have h2 : ¬ sgE (dn s) g f = 2 := fun q => hc_34 (hv.1.mpr ((sgE_sym hR.1 (show f < 12 by omega) (show g < 12 by omega)).mp q))
            have h3 : ∀ o, o < g + 1 → sgE (dn s) o f ≠ 2 := fun o ho => by
              by_cases q : o = g
              · subst q; exact h2
              · exact hy hfo1 o (by omega)
            exact ⟨(12 - f) * 100 + (20 - (g + 1)), by omega, Or.inr ⟨f, g + 1, 1, hf12, by omega, by omega, fun _ => h3, fun h => by omega, rfl, rfl, rfl, rfl, rfl, rfl, by rw [nI_add], rfl⟩⟩
theorem in_n {n : Nat} (hn : n ≤ 30) {x v : Int32} (h : ((nI 0 ≤ x ∧ x ≤ nI n - nI 1) ∧ v = nI 1) ∨ (¬ (nI 0 ≤ x ∧ x ≤ nI n - nI 1) ∧ v = nI 0)) : (Th n x ∧ v = nI 1) ∨ (¬ Th n x ∧ v = nI 0) := by
  have e : Th n x ↔ (nI 0 ≤ x ∧ x ≤ nI n - nI 1) := by
    cases n with
    | zero =>
      constructor
      · rintro ⟨k, hk, -⟩; omega
      · rintro ⟨h1, h2⟩
        exact absurd (Int32.le_trans h1 h2) (by decide)
    | succ k => rw [n_s1]; exact Th_le (by omega)
  rw [e]
  exact h
def q_X7_isStatement : x_K := (2, fun as S M => ∃ (x : Int32), OkM (cM M) ∧ S = SH ∧ as = [.inr (.inl 53), .inl x], fun as S M rv_ S' M' => ∀ (x : Int32), as = [.inr (.inl 53), .inl x] → S' = S ∧ M' = M ∧ ((Th (nN (cM M)) x ∧ rv_ = some (.inl (nI 1))) ∨ (¬ Th (nN (cM M)) x ∧ rv_ = some (.inl (nI 0)))), 0, 0)
theorem r_X7_isStatement : ∀ as S M, q_X7_isStatement.2.1 as S M → ∃ (k : Nat) (as' : List x_V) (fs : List (Option Nat)), as = .inr (.inl k) :: as' ∧ S[k]? = some (.inl (5, fs)) := by
  rintro as S M ⟨x, -, rfl, rfl⟩
  exact ⟨53, _, _, rfl, rfl⟩
def b_X7_isStatement : x_B := [(0, 2, [(.iload_n 1, 1), (.iconst 0, 1), (.aload_n 0, 1), (.getfield 104, 3), (.iconst 1, 1), (.isub, 1), (.invokestatic 85, 3), (.ireturn, 1)])]
theorem b_X7_isStatement_ok : x_okB cX7_isStatement 2 b_X7_isStatement = true := by decide +kernel
def X_X7_isStatement : x_X := ([(104, 5, 4)], [], [], [], [(255, q_X7_in)], (0, 0), x_kn, x_kf, 5, false)
theorem X_X7_isStatement_ok : x_okT RX7 X_X7_isStatement = true := by decide +kernel
theorem k_X7_isStatement (l : Launch) : ∀ z ∈ X_X7_isStatement.2.2.2.2.1, x_Cal l (x_rm 2 0 0) cX7_isStatement RX7 2 z.1 z.2 := List.forall_mem_cons.mpr ⟨x_cal_S (idx := 85) (c_X7_in l) ⟨by decide, by decide⟩ (by decide +kernel) (by decide +kernel) (by decide +kernel) (by decide +kernel) (by decide +kernel), fun _ h => absurd h List.not_mem_nil⟩
set_option maxHeartbeats 4000000 in
set_option maxRecDepth 100000 in
theorem c_X7_isStatement (l : Launch) : x_CT l yX7_isStatement cX7_isStatement 2 (some .boolean) 2 q_X7_isStatement := by
  refine x_meth (X := X_X7_isStatement) (bl := b_X7_isStatement) (cut := []) (own := RX7) 30 (by decide) rfl X_X7_isStatement_ok b_X7_isStatement_ok rfl (Nat.le_of_ble_eq_true rfl) (k_X7_isStatement l) ?_
  rintro as S M - ⟨x, hok, rfl, rfl⟩
  refine ⟨fun _ _ _ _ _ _ _ _ => False, ?_, ?_⟩
  · skip
    refine xt_blk rfl rfl (by dsimp only [List.take]) ?_
    refine xt_iln1 rfl ?_
    refine xt_ic ?_
    refine xt_aln0 rfl (by first | decide | omega | assumption) ?_
    refine xt_gfi (q := (5, 4)) rfl (by first | rfl | assumption) rfl ?_
    refine xt_ic ?_
    refine xt_sub ?_
    refine xt_v3 (key := 255) (q := q_X7_in) rfl rfl rfl rfl rfl ⟨Nat.le_of_ble_eq_true rfl, Nat.le_of_ble_eq_true rfl⟩ ⟨_, _, _, rfl⟩ (fun rv_ S1 M1 hq_8 => ?_)
    obtain ⟨eS_, eM_, h_i⟩ := hq_8 _ _ _ rfl
    replace eS_ := eS_.symm
    replace eM_ := eM_.symm
    subst eS_ eM_
    have hex_i : ∃ v, rv_ = some (.inl v) := by rcases h_i with ⟨-, e⟩ | ⟨-, e⟩ <;> exact ⟨_, e⟩
    obtain ⟨v_i, rfl⟩ := hex_i
    simp only [Option.some.injEq, Sum.inl.injEq] at h_i
    try dsimp only [Option.toList, List.cons_append, List.nil_append]
    refine xt_rz (by rcases h_i with ⟨-, e⟩ | ⟨-, e⟩ <;> rw [e] <;> decide) rfl (Nat.le_refl _) ?_
    intro x2 e2
    simp only [List.cons.injEq, Sum.inl.injEq, and_true, true_and] at e2
    subst e2
    have hsz : M 53 4 = nI (nN (cM M)) := hok.2.1
    have h_j := in_n (v := v_i) hok.1 (by rw [← hsz]; exact h_i)
    refine ⟨rfl, rfl, ?_⟩
    rcases h_j with ⟨a, e⟩ | ⟨a, e⟩
    · exact Or.inl ⟨a, by rw [e]⟩
    · exact Or.inr ⟨a, by rw [e]⟩
  · intro μ pc ls st S2 M2 cs sl h; exact h.elim
theorem box_lt {V : x_M} (h : Vok V) {w t : Nat} (hw : w < 2) (ht : t < 6) (h1 : V 42 t ≠ 0) : V 41 (t * 4 + w * 2) < V 41 (t * 4 + w * 2 + 1) := by
  obtain ⟨a, b⟩ := h.2.2.2.2 t ht h1
  rcases (show w = 0 ∨ w = 1 by omega) with rfl | rfl
  · exact a
  · exact b
theorem ix4 {w t : Nat} (hw : w < 2) (ht : t < 6) : (nI 4 * nI t + nI 2 * nI w).toNatClampNeg = t * 4 + w * 2 := by rw [pk_mul, pk_mul, nI_add, nI_clamp (by omega)]; omega
theorem vx4 {w t : Nat} (hw : w < 2) (ht : t < 6) : vp_in (nI 4 * nI t + nI 2 * nI w) 24 := by rw [pk_mul, pk_mul, nI_add]; exact vp_in_nI (by omega) (by decide)
theorem ix5 {w t : Nat} (hw : w < 2) (ht : t < 6) : (nI 4 * nI t + nI 2 * nI w + nI 1).toNatClampNeg = t * 4 + w * 2 + 1 := by rw [pk_mul, pk_mul, nI_add, nI_add, nI_clamp (by omega)]; omega
theorem vx5 {w t : Nat} (hw : w < 2) (ht : t < 6) : vp_in (nI 4 * nI t + nI 2 * nI w + nI 1) 24 := by rw [pk_mul, pk_mul, nI_add, nI_add]; exact vp_in_nI (by omega) (by decide)
def q_X7_ofBoxes : x_K := (4, fun as S M => ∃ (w a b : Nat), w < 2 ∧ a < 6 ∧ b < 6 ∧ Vok (cM M) ∧ M 63 a ≠ 0 ∧ M 63 b ≠ 0 ∧ S = SH ∧ as = [.inr (.inl 53), .inl (nI w), .inl (nI a), .inl (nI b)],
  fun as S M rv_ S' M' => ∀ (w a b : Nat), w < 2 → a < 6 → b < 6 → as = [.inr (.inl 53), .inl (nI w), .inl (nI a), .inl (nI b)] → S' = S ∧ M' = M ∧ rv_ = some (.inl (nI (bxr (cM M) w a b))), 0, 0)
theorem r_X7_ofBoxes : ∀ as S M, q_X7_ofBoxes.2.1 as S M → ∃ (k : Nat) (as' : List x_V) (fs : List (Option Nat)), as = .inr (.inl k) :: as' ∧ S[k]? = some (.inl (5, fs)) := by
  rintro as S M ⟨w, a, b, -, -, -, -, -, -, rfl, rfl⟩
  exact ⟨53, _, _, rfl, rfl⟩
def b_X7_ofBoxes : x_B := [(0, 4, [(.aload_n 0, 1), (.getfield 41, 3), (.iconst 4, 1), (.iload_n 2, 1), (.imul, 1), (.iconst 2, 1), (.iload_n 1, 1), (.imul, 1), (.iadd, 1), (.iaload, 1), (.aload_n 0, 1), (.getfield 41, 3), (.iconst 4, 1), (.iload_n 2, 1), (.imul, 1), (.iconst 2, 1), (.iload_n 1, 1), (.imul, 1), (.iadd, 1), (.iconst 1, 1), (.iadd, 1), (.iaload, 1), (.aload_n 0, 1), (.getfield 41, 3), (.iconst 4, 1), (.iload_n 3, 1), (.imul, 1), (.iconst 2, 1), (.iload_n 1, 1), (.imul, 1), (.iadd, 1), (.iaload, 1), (.aload_n 0, 1), (.getfield 41, 3), (.iconst 4, 1), (.iload_n 3, 1), (.imul, 1), (.iconst 2, 1), (.iload_n 1, 1), (.imul, 1), (.iadd, 1), (.iconst 1, 1), (.iadd, 1), (.iaload, 1), (.invokestatic 78, 3), (.ireturn, 1)])]
theorem b_X7_ofBoxes_ok : x_okB cX7_ofBoxes 4 b_X7_ofBoxes = true := by decide +kernel
def X_X7_ofBoxes : x_X := ([(41, 5, 11)], [], [], [], [(234, q_X7_relation)], (0, 0), x_kn, x_kf, 5, false)
theorem X_X7_ofBoxes_ok : x_okT RX7 X_X7_ofBoxes = true := by decide +kernel
theorem k_X7_ofBoxes (l : Launch) : ∀ z ∈ X_X7_ofBoxes.2.2.2.2.1, x_Cal l (x_rm 3 0 0) cX7_ofBoxes RX7 4 z.1 z.2 := List.forall_mem_cons.mpr ⟨x_cal_S (idx := 78) (c_X7_relation l) ⟨by decide, by decide⟩ (by decide +kernel) (by decide +kernel) (by decide +kernel) (by decide +kernel) (by decide +kernel), fun _ h => absurd h List.not_mem_nil⟩
set_option maxHeartbeats 4000000 in
set_option maxRecDepth 100000 in
theorem c_X7_ofBoxes (l : Launch) : x_CT l yX7_ofBoxes cX7_ofBoxes 4 (some .int) 3 q_X7_ofBoxes := by
  refine x_meth (X := X_X7_ofBoxes) (bl := b_X7_ofBoxes) (cut := []) (own := RX7) 30 (by decide) rfl X_X7_ofBoxes_ok b_X7_ofBoxes_ok rfl (Nat.le_of_ble_eq_true rfl) (k_X7_ofBoxes l) ?_
  rintro as S M - ⟨w, a, b, hw, ha, hb, hV, h1, h2, rfl, rfl⟩
  refine ⟨fun _ _ _ _ _ _ _ _ => False, ?_, ?_⟩
  · skip
    refine xt_blk rfl rfl (by dsimp only [List.take]) ?_
    refine xt_aln0 rfl (by first | decide | omega | assumption) ?_
    refine xt_gfr (q := (5, 11)) rfl (by first | rfl | assumption) rfl ?_
    refine xt_ic ?_
    refine xt_iln2 rfl ?_
    refine xt_mul ?_
    refine xt_ic ?_
    refine xt_iln1 rfl ?_
    refine xt_mul ?_
    refine xt_add ?_
    refine xt_ial (by first | rfl | assumption) (vx4 hw ha) ?_
    refine xt_aln0 rfl (by first | decide | omega | assumption) ?_
    refine xt_gfr (q := (5, 11)) rfl (by first | rfl | assumption) rfl ?_
    refine xt_ic ?_
    refine xt_iln2 rfl ?_
    refine xt_mul ?_
    refine xt_ic ?_
    refine xt_iln1 rfl ?_
    refine xt_mul ?_
    refine xt_add ?_
    refine xt_ic ?_
    refine xt_add ?_
    refine xt_ial (by first | rfl | assumption) (vx5 hw ha) ?_
    refine xt_aln0 rfl (by first | decide | omega | assumption) ?_
    refine xt_gfr (q := (5, 11)) rfl (by first | rfl | assumption) rfl ?_
    refine xt_ic ?_
    refine xt_iln3 rfl ?_
    refine xt_mul ?_
    refine xt_ic ?_
    refine xt_iln1 rfl ?_
    refine xt_mul ?_
    refine xt_add ?_
    refine xt_ial (by first | rfl | assumption) (vx4 hw hb) ?_
    refine xt_aln0 rfl (by first | decide | omega | assumption) ?_
    refine xt_gfr (q := (5, 11)) rfl (by first | rfl | assumption) rfl ?_
    refine xt_ic ?_
    refine xt_iln3 rfl ?_
    refine xt_mul ?_
    refine xt_ic ?_
    refine xt_iln1 rfl ?_
    refine xt_mul ?_
    refine xt_add ?_
    refine xt_ic ?_
    refine xt_add ?_
    refine xt_ial (by first | rfl | assumption) (vx5 hw hb) ?_
    refine xt_v4 (key := 234) (q := q_X7_relation) rfl rfl rfl rfl rfl ⟨Nat.le_of_ble_eq_true rfl, Nat.le_of_ble_eq_true rfl⟩ ⟨M 64 (a * 4 + w * 2), M 64 (a * 4 + w * 2 + 1), M 64 (b * 4 + w * 2), M 64 (b * 4 + w * 2 + 1), box_lt hV hw ha h1, box_lt hV hw hb h2, by rw [ix4 hw ha, ix5 hw ha, ix4 hw hb, ix5 hw hb]⟩ (fun rv_ S1 M1 hq_52 => ?_)
    obtain ⟨eS_, eM_, rfl⟩ := hq_52 (M 64 (a * 4 + w * 2)) (M 64 (a * 4 + w * 2 + 1)) (M 64 (b * 4 + w * 2)) (M 64 (b * 4 + w * 2 + 1)) (box_lt hV hw ha h1) (box_lt hV hw hb h2) (by rw [ix4 hw ha, ix5 hw ha, ix4 hw hb, ix5 hw hb])
    replace eS_ := eS_.symm
    replace eM_ := eM_.symm
    subst eS_ eM_
    try dsimp only [Option.toList, List.cons_append, List.nil_append]
    refine xt_ri rfl (Nat.le_refl _) ?_
    intro w2 a2 b2 hw2 ha2 hb2 e2
    simp only [List.cons.injEq, Sum.inl.injEq, and_true, true_and] at e2
    obtain ⟨ew, ea, eb⟩ := e2
    rw [nI_eq (by omega) (by omega)] at ew ea eb
    subst ew ea eb
    exact ⟨rfl, rfl, rfl⟩
  · intro μ pc ls st S2 M2 cs sl h; exact h.elim
def rAdd (M : x_M) (n : Nat) (a b o u : Int32) : x_M := fun k => if k = 53 then upd (M 53) 4 (nI (n + 1)) else if k = 58 then upd (M 58) n a else if k = 59 then upd (M 59) n b else if k = 60 then upd (upd (M 60) (2 * n) o) (2 * n + 1) u else if k = 61 then upd (M 61) n (nI 1) else M k
theorem cM_add (M : x_M) (n : Nat) (a b o u : Int32) : cM (rAdd M n a b o u) = vAdd (cM M) n a b o u := by
  funext k j
  unfold vAdd
  by_cases h1 : k = 1
  · subst h1
    show (if j = 4 then nI (n + 1) else 0) = (if j = 4 then nI (n + 1) else (if j = 4 then M 53 4 else 0))
    split <;> rfl
  rw [if_neg h1]
  by_cases h7 : k = 7
  · subst h7; rfl
  rw [if_neg h7]
  by_cases h6 : k = 6
  · subst h6
    show upd (upd (M 60) (2 * n) o) (2 * n + 1) u (2 * j + 1) = upd (fun j => M 60 (2 * j + 1)) n u j
    unfold upd
    by_cases e : j = n
    · subst e; rw [if_pos rfl, if_pos rfl]
    · rw [if_neg e, if_neg (by omega), if_neg (by omega)]
  rw [if_neg h6]
  by_cases h5 : k = 5
  · subst h5
    show upd (upd (M 60) (2 * n) o) (2 * n + 1) u (2 * j) = upd (fun j => M 60 (2 * j)) n o j
    unfold upd
    by_cases e : j = n
    · subst e; rw [if_neg (by omega), if_pos rfl, if_pos rfl]
    · rw [if_neg e, if_neg (by omega), if_neg (by omega)]
  rw [if_neg h5]
  by_cases h3 : k = 3
  · subst h3; rfl
  rw [if_neg h3]
  by_cases h2 : k = 2
  · subst h2; rfl
  rw [if_neg h2]
  unfold cM
  rw [if_neg h1, if_neg h2, if_neg h3, if_neg h5, if_neg h6, if_neg h7, if_neg h1, if_neg h2, if_neg h3, if_neg h5, if_neg h6, if_neg h7]
  rfl
theorem RE_add {M : x_M} {n : Nat} {a b o u : Int32} {p : Int32 × x_M} (hp : p = (nI n, vAdd (cM M) n a b o u)) : REnd M (rAdd M n a b o u) (some (.inl (nI n))) p := by
  subst hp
  have e : ∀ k, k ≠ 53 → k ≠ 58 → k ≠ 59 → k ≠ 60 → k ≠ 61 → rAdd M n a b o u k = M k := fun k h1 h2 h3 h4 h5 => by unfold rAdd; rw [if_neg h1, if_neg h2, if_neg h3, if_neg h4, if_neg h5]
  exact ⟨fun k hk => e k (by omega) (by omega) (by omega) (by omega) (by omega), fun q => Tb_keep q (fun k hk => e k (by omega) (by omega) (by omega) (by omega) (by omega)), rfl, cM_add M n a b o u⟩
def q_X7_add : x_K := (5, fun as S M => ∃ (a : Int32) (b : Int32) (o : Int32) (u : Int32) (c : Nat), RI c M ∧ S = SH ∧ as = [.inr (.inl 53), .inl a, .inl b, .inl o, .inl u], fun as S M rv_ S' M' => ∀ (a : Int32) (b : Int32) (o : Int32) (u : Int32), as = [.inr (.inl 53), .inl a, .inl b, .inl o, .inl u] → S' = S ∧ REnd M M' rv_ (spAdd (cM M) a b o u), 0, 0)
theorem r_X7_add : ∀ as S M, q_X7_add.2.1 as S M → ∃ (k : Nat) (as' : List x_V) (fs : List (Option Nat)), as = .inr (.inl k) :: as' ∧ S[k]? = some (.inl (5, fs)) := by
  rintro as S M ⟨a, b, o, u, c, -, rfl, rfl⟩
  exact ⟨53, _, _, rfl, rfl⟩
def b_X7_add : x_B := [(0, 5, [(.aload_n 0, 1), (.getfield 104, 3), (.bipush 30, 2), (.if_icmp .ne 10, 3), (.aload_n 0, 1), (.bipush (-6), 2), (.invokevirtual 93, 3), (.ireturn, 1)]),
  (16, 5, [(.aload_n 0, 1), (.getfield 22, 3), (.aload_n 0, 1), (.getfield 104, 3), (.iload_n 1, 1), (.iastore, 1), (.aload_n 0, 1), (.getfield 25, 3), (.aload_n 0, 1), (.getfield 104, 3), (.iload_n 2, 1), (.iastore, 1), (.aload_n 0, 1), (.getfield 28, 3), (.iconst 2, 1), (.aload_n 0, 1), (.getfield 104, 3), (.imul, 1), (.iload_n 3, 1), (.iastore, 1), (.aload_n 0, 1), (.getfield 28, 3), (.iconst 2, 1), (.aload_n 0, 1), (.getfield 104, 3), (.imul, 1), (.iconst 1, 1), (.iadd, 1), (.iload 4, 2), (.iastore, 1), (.aload_n 0, 1), (.getfield 31, 3), (.aload_n 0, 1), (.getfield 104, 3), (.iconst 1, 1), (.bastore, 1), (.aload_n 0, 1), (.dup, 1), (.getfield 104, 3), (.iconst 1, 1), (.iadd, 1), (.putfield 104, 3), (.aload_n 0, 1), (.getfield 104, 3), (.iconst 1, 1), (.isub, 1), (.ireturn, 1)])]
theorem b_X7_add_ok : x_okB cX7_add 5 b_X7_add = true := by decide +kernel
def X_X7_add : x_X := ([(104, 5, 4), (22, 5, 5), (25, 5, 6), (28, 5, 7), (31, 5, 8)], [], [], [], [(280, q_X7_refuse)], (0, 0), x_kn, x_kf, 5, false)
theorem X_X7_add_ok : x_okT RX7 X_X7_add = true := by decide +kernel
theorem k_X7_add (l : Launch) : ∀ z ∈ X_X7_add.2.2.2.2.1, x_Cal l (x_rm 2 0 0) cX7_add RX7 5 z.1 z.2 := List.forall_mem_cons.mpr ⟨x_cal_V (idx := 93) (ci := 5) (n := 1) (c_X7_refuse l) ⟨by decide, by decide⟩ (by decide +kernel) (by decide +kernel) (by decide +kernel) (by decide +kernel) (by decide +kernel) rfl rfl rfl (by decide +kernel) r_X7_refuse, fun _ h => absurd h List.not_mem_nil⟩
set_option maxHeartbeats 4000000 in
set_option maxRecDepth 100000 in
theorem c_X7_add (l : Launch) : x_CT l yX7_add cX7_add 5 (some .int) 2 q_X7_add := by
  refine x_meth (X := X_X7_add) (bl := b_X7_add) (cut := []) (own := RX7) 30 (by decide) rfl X_X7_add_ok b_X7_add_ok rfl (Nat.le_of_ble_eq_true rfl) (k_X7_add l) ?_
  rintro as S M - ⟨a, b, o, u, c, hRI, rfl, rfl⟩
  have hok := hRI.2.1
  refine ⟨fun _ _ _ _ _ _ _ _ => False, ?_, ?_⟩
  · skip
    refine xt_blk rfl rfl (by dsimp only [List.take]) ?_
    refine xt_aln0 rfl (by first | decide | omega | assumption) ?_
    refine xt_gfi (q := (5, 4)) rfl (by first | rfl | assumption) rfl ?_
    refine xt_bi ?_
    refine xt_cne (t := 16) rfl (fun hc_6 => ?_) (fun hc_6 => ?_)
    · skip
      have hsz : M 53 4 = nI (nN (cM M)) := hok.2.1
      have hn30 : nN (cM M) < 30 := by
        have h1 := hok.1
        have h2 : ¬ nN (cM M) = 30 := fun e => hc_6 (show M 53 4 = nI 30 by rw [hsz, e])
        omega
      refine xt_blk rfl rfl (by dsimp only [List.take]) ?_
      refine xt_aln0 rfl (by first | decide | omega | assumption) ?_
      refine xt_gfr (q := (5, 5)) rfl (by first | rfl | assumption) rfl ?_
      refine xt_aln0 rfl (by first | decide | omega | assumption) ?_
      refine xt_gfi (q := (5, 4)) rfl (by first | rfl | assumption) rfl ?_
      refine xt_iln1 rfl ?_
      refine xt_ias (by first | rfl | assumption) (show vp_in (M 53 4) 30 from by rw [hsz]; exact vp_in_nI hn30 (by decide)) ?_
      refine xt_aln0 rfl (by first | decide | omega | assumption) ?_
      refine xt_gfr (q := (5, 6)) rfl (by first | rfl | assumption) rfl ?_
      refine xt_aln0 rfl (by first | decide | omega | assumption) ?_
      refine xt_gfi (q := (5, 4)) rfl (by first | rfl | assumption) rfl ?_
      refine xt_iln2 rfl ?_
      refine xt_ias (by first | rfl | assumption) (show vp_in (M 53 4) 30 from by rw [hsz]; exact vp_in_nI hn30 (by decide)) ?_
      refine xt_aln0 rfl (by first | decide | omega | assumption) ?_
      refine xt_gfr (q := (5, 7)) rfl (by first | rfl | assumption) rfl ?_
      refine xt_ic ?_
      refine xt_aln0 rfl (by first | decide | omega | assumption) ?_
      refine xt_gfi (q := (5, 4)) rfl (by first | rfl | assumption) rfl ?_
      refine xt_mul ?_
      refine xt_iln3 rfl ?_
      refine xt_ias (by first | rfl | assumption) (show vp_in (nI 2 * M 53 4) 60 from by rw [hsz, pk_mul]; exact vp_in_nI (by omega) (by decide)) ?_
      refine xt_aln0 rfl (by first | decide | omega | assumption) ?_
      refine xt_gfr (q := (5, 7)) rfl (by first | rfl | assumption) rfl ?_
      refine xt_ic ?_
      refine xt_aln0 rfl (by first | decide | omega | assumption) ?_
      refine xt_gfi (q := (5, 4)) rfl (by first | rfl | assumption) rfl ?_
      refine xt_mul ?_
      refine xt_ic ?_
      refine xt_add ?_
      refine xt_ild rfl ?_
      refine xt_ias (by first | rfl | assumption) (show vp_in (nI 2 * M 53 4 + nI 1) 60 from by rw [hsz, pk_mul, nI_add]; exact vp_in_nI (by omega) (by decide)) ?_
      refine xt_aln0 rfl (by first | decide | omega | assumption) ?_
      refine xt_gfr (q := (5, 8)) rfl (by first | rfl | assumption) rfl ?_
      refine xt_aln0 rfl (by first | decide | omega | assumption) ?_
      refine xt_gfi (q := (5, 4)) rfl (by first | rfl | assumption) rfl ?_
      refine xt_ic ?_
      refine xt_bas (by first | rfl | assumption) (show vp_in (M 53 4) 30 from by rw [hsz]; exact vp_in_nI hn30 (by decide)) (Or.inr rfl) ?_
      refine xt_aln0 rfl (by first | decide | omega | assumption) ?_
      refine xt_dup ?_
      refine xt_gfi (q := (5, 4)) rfl (by first | rfl | assumption) rfl ?_
      refine xt_ic ?_
      refine xt_add ?_
      refine xt_pfi (q := (5, 4)) rfl (by first | rfl | assumption) rfl (by decide) (Or.inl rfl) ?_
      refine xt_aln0 rfl (by first | decide | omega | assumption) ?_
      refine xt_gfi (q := (5, 4)) rfl (by first | rfl | assumption) rfl ?_
      refine xt_ic ?_
      refine xt_sub ?_
      refine xt_ri rfl (Nat.le_refl _) ?_
      intro a2 b2 o2 u2 e2
      simp only [List.cons.injEq, Sum.inl.injEq, and_true, true_and] at e2
      obtain ⟨rfl, rfl, rfl, rfl⟩ := e2
      have hv : M 53 4 + nI 1 - nI 1 = nI (nN (cM M)) := by rw [Int32.add_sub_cancel]; exact hsz
      have eM : x_row (x_row (x_row (x_row (x_row (x_row M 58 (upd (M 58) (M 53 4).toNatClampNeg a)) 59 (upd (M 59) (M 53 4).toNatClampNeg b)) 60 (upd (M 60) (nI 2 * M 53 4).toNatClampNeg o)) 60 (upd (upd (M 60) (nI 2 * M 53 4).toNatClampNeg o) (nI 2 * M 53 4 + nI 1).toNatClampNeg u)) 61 (upd (M 61) (M 53 4).toNatClampNeg (nI 1))) 53 (upd (M 53) 4 (M 53 4 + nI 1)) = rAdd M (nN (cM M)) a b o u := by
        rw [hsz, pk_mul, nI_add, nI_add, nI_clamp (by omega), nI_clamp (by omega), nI_clamp (by omega)]
        funext k
        unfold rAdd
        by_cases h53 : k = 53
        · subst h53; rw [if_pos rfl, x_row_self]
        rw [if_neg h53, x_row_ne _ _ h53]
        by_cases h61 : k = 61
        · subst h61; rfl
        rw [x_row_ne _ _ h61]
        by_cases h60 : k = 60
        · subst h60; rfl
        rw [x_row_ne _ _ h60, x_row_ne _ _ h60]
        by_cases h59 : k = 59
        · subst h59; rfl
        rw [x_row_ne _ _ h59]
        by_cases h58 : k = 58
        · subst h58; rfl
        rw [x_row_ne _ _ h58, if_neg h58, if_neg h59, if_neg h60, if_neg h61]
      refine ⟨rfl, ?_⟩
      have hE : REnd M (rAdd M (nN (cM M)) a b o u) (some (.inl (nI (nN (cM M))))) (spAdd (cM M) a b o u) := RE_add (by unfold spAdd; rw [cif_f (by omega)])
      rw [← eM, ← hv] at hE
      exact hE
    · skip
      refine xt_aln0 rfl (by first | decide | omega | assumption) ?_
      refine xt_bim rfl ?_
      refine xt_v2 (key := 280) (q := q_X7_refuse) rfl rfl rfl rfl rfl ⟨Nat.le_of_ble_eq_true rfl, Nat.le_of_ble_eq_true rfl⟩ ⟨6, by decide, by decide, rfl, rfl⟩ (fun rv_ S1 M1 hq_12 => ?_)
      obtain ⟨eS_, eM_, rfl⟩ := hq_12 6 (by decide) (by decide) rfl
      replace eS_ := eS_.symm
      replace eM_ := eM_.symm
      subst eS_ eM_
      try dsimp only [Option.toList, List.cons_append, List.nil_append]
      refine xt_ri rfl (Nat.le_refl _) ?_
      intro a2 b2 o2 u2 e2
      simp only [List.cons.injEq, Sum.inl.injEq, and_true, true_and] at e2
      obtain ⟨rfl, rfl, rfl, rfl⟩ := e2
      refine ⟨rfl, RE_R ?_⟩
      unfold spAdd
      have hsz : M 53 4 = nI (nN (cM M)) := hok.2.1
      have h1 := hok.1
      have h2 : nN (cM M) = 30 := by
        have q : nI (nN (cM M)) = nI 30 := by rw [← hsz]; exact hc_6
        rw [nI_eq (by omega) (by omega)] at q
        exact q
      rw [cif_t h2]
  · intro μ pc ls st S2 M2 cs sl h; exact h.elim
