/-! WAY: takeLeast, isFirstDrawn -/
theorem Sy_cg {g g2 : Nat → Nat} (h : ∀ j, j < 36 → g j = g2 j) (q : Sy g) : Sy g2 := fun a b ha hb hab => by rw [← h _ (by omega), ← h _ (by omega)]; exact q a b ha hb hab
theorem Clo_cg {g g2 : Nat → Nat} (h : ∀ j, j < 36 → g j = g2 j) (q : Clo g) : Clo g2 := fun x y z hd => by
  have t := q x y z hd
  obtain ⟨h1, h2, h3, -⟩ := hd
  unfold Tri at t ⊢
  rw [← h (x * 6 + z) (by omega), ← h (x * 6 + y) (by omega), ← h (y * 6 + z) (by omega)]
  exact t
theorem NE_cg {g g2 : Nat → Nat} {w : Nat} (h : ∀ j, j < 36 → g j = g2 j) (q : NE g w) : NE g2 w := fun x y hx hy hxy e => by rw [← h _ (by omega)]; exact q x y hx hy hxy e
theorem FI_cg {f s g g2 : Nat → Nat} {p : Nat} (hp : p ≤ 15) (h : ∀ j, j < 36 → g j = g2 j) (q : FI f p s g) : FI f p s g2 := by
  obtain ⟨⟨a1, a2, a3, a4⟩, b, c, d, e, k⟩ := q
  refine ⟨⟨fun j hj => by rw [← h j hj]; exact a1 j hj, Sy_cg h a2, Clo_cg h a3, NE_cg h a4⟩, fun a ha => by rw [← h _ (by omega)]; exact b a ha, fun P hP => by rw [← Hol_cg h]; exact c P hP, fun u hu => ?_, e, (Sat_cg h).mp k⟩
  obtain ⟨f1, f2, -, -⟩ := fs_ok u (by omega)
  have := d u hu
  unfold pf at this ⊢
  rw [← h _ (by omega)]
  exact this
theorem fs_inj : ∀ p, p < 15 → ∀ q, q < 15 → fsT p = fsT q → scT p = scT q → p = q := by decide
theorem FI_some {f s g : Nat → Nat} {p : Nat} (hp : p < 15) (h : FI f p s g) : ∃ t, t < 13 ∧ (pf g p).testBit t = true ∧ Sat (nw g (fsT p) (scT p) (2 ^ t)) := by
  obtain ⟨⟨-, hS, -, -⟩, -, -, -, -, P, hP, hg⟩ := h
  obtain ⟨f1, f2, f3, -⟩ := fs_ok p hp
  exact ⟨rl P p, rl_lt P p, hg _ _ f1 f2 f3, P, hP, (Hol_fix hS f1 f2 f3 (rl_lt P p) (hg _ _ f1 f2 f3) hP).mpr ⟨hg, rfl⟩⟩
theorem Ed_fst {M M' M2 : x_M} {q : Nat} (hw : isWy q) (h : Ed M q M') (h0 : M' q 12 = nI 0) (h1 : ∀ j, j < 10 ∨ 25 < j → j ≠ q + 3 → M2 j = M' j) : Ed M q M2 ∧ M2 q 12 = nI 0 ∧ M2 q 10 = M' q 10 ∧ M2 (q + 2) = M' (q + 2) := by
  have hq : ∀ k, q ≤ k → k ≠ q + 3 → M2 k = M' k := fun k hk hn => h1 k (by rcases hw with rfl | rfl <;> omega) hn
  have e0 := hq q (by omega) (by omega)
  have e1 := hq (q + 1) (by omega) (by omega)
  have e2 := hq (q + 2) (by omega) (by omega)
  have e5 := hq (q + 5) (by omega) (by omega)
  refine ⟨Ed_next hw h (fun k a b => h1 k a (by omega)) (by rw [e0]) (by rw [e0]) ?_, by rw [e0]; exact h0, by rw [e0], e2⟩
  obtain ⟨w1, w2, w3, w4, -⟩ := h.2.2.2
  refine ⟨?_, ?_, ?_, ?_, Or.inl (by rw [e0]; exact h0)⟩
  · unfold At; rw [e1]; exact w1
  · unfold PoV At; rw [e0, e2]; exact w2
  · unfold CaV; rw [e5]; exact w3
  · unfold CoV; rw [e0]; exact w4
def q_X5_takeLeast : x_K := (3, fun as S M => ∃ (q p : Nat) (f s g : Nat → Nat), isWy q ∧ S = SH ∧ p < 15 ∧ At M (q + 3) g ∧ FI f p s g ∧ as = [.inr (.inl q), .inl (nI (fsT p)), .inl (nI (scT p))],
  fun as S M rv_ S' M' => ∀ (q p : Nat) (f s g : Nat → Nat), p < 15 → At M (q + 3) g → FI f p s g → as = [.inr (.inl q), .inl (nI (fsT p)), .inl (nI (scT p))] → S' = S ∧ (∀ j, j < 10 ∨ 25 < j → j ≠ q + 3 → M' j = M j) ∧ (∃ s' g', At M' (q + 3) g' ∧ FI f (p + 1) s' g') ∧ rv_ = none, 0, 0)
theorem r_X5_takeLeast : ∀ as S M, q_X5_takeLeast.2.1 as S M → ∃ (k : Nat) (as' : List x_V) (fs : List (Option Nat)), as = .inr (.inl k) :: as' ∧ S[k]? = some (.inl (3, fs)) := by
  rintro as S M ⟨q, p, f, s, g, hw, rfl, -, -, -, rfl⟩
  exact ⟨q, _, _, rfl, SHw hw⟩
def b_X5_takeLeast : x_B := [(0, 3, [(.aload_n 0, 1), (.getfield 32, 3), (.iload_n 1, 1), (.bipush 6, 2), (.imul, 1), (.iload_n 2, 1), (.iadd, 1), (.iaload, 1), (.istore_n 3, 1), (.iconst 0, 1), (.istore 4, 2)]),
  (15, 5, [(.iload 4, 2), (.bipush 13, 2), (.if_icmp .ge 48, 3), (.iload_n 3, 1), (.iload 4, 2), (.ishr, 1), (.iconst 1, 1), (.iand, 1), (.ifCond .eq 33, 3), (.aload_n 0, 1), (.getfield 19, 3), (.aload_n 0, 1), (.getfield 32, 3), (.iload_n 1, 1), (.iload_n 2, 1), (.iload 4, 2), (.invokevirtual 63, 3), (.ifCond .eq 15, 3), (.aload_n 0, 1), (.getfield 19, 3), (.aload_n 0, 1), (.getfield 32, 3), (.invokevirtual 132, 3), (.return_, 1)]),
  (61, 5, [(.iinc 4 1, 3), (.goto (-49), 3)]),
  (67, 5, [(.return_, 1)])]
theorem b_X5_takeLeast_ok : x_okB cX5_takeLeast 5 b_X5_takeLeast = true := by decide +kernel
def X_X5_takeLeast : x_X := ([(32, 3, 5), (19, 3, 2)], [], [], [], [(190, q_X3_canHoldWith), (397, q_X3_keepNet)], (0, 0), x_kn, x_kf, 5, false)
theorem X_X5_takeLeast_ok : x_okT RX5 X_X5_takeLeast = true := by decide +kernel
theorem k_X5_takeLeast (l : Launch) : ∀ z ∈ X_X5_takeLeast.2.2.2.2.1, x_Cal l (x_rm 21 0 0) cX5_takeLeast RX5 5 z.1 z.2 := List.forall_mem_cons.mpr ⟨x_cal_V (idx := 63) (ci := 1) (n := 4) (c_X3_canHoldWith l) ⟨by decide, by decide⟩ (by decide +kernel) (by decide +kernel) (by decide +kernel) (by decide +kernel) (by decide +kernel) rfl rfl rfl (by decide +kernel) r_X3_canHoldWith, List.forall_mem_cons.mpr ⟨x_cal_V (idx := 132) (ci := 1) (n := 1) (c_X3_keepNet l) ⟨by decide, by decide⟩ (by decide +kernel) (by decide +kernel) (by decide +kernel) (by decide +kernel) (by decide +kernel) rfl rfl rfl (by decide +kernel) r_X3_keepNet, fun _ h => absurd h List.not_mem_nil⟩⟩
set_option maxHeartbeats 4000000 in
set_option maxRecDepth 100000 in
theorem c_X5_takeLeast (l : Launch) : x_CT l yX5_takeLeast cX5_takeLeast 5 none 21 q_X5_takeLeast := by
  refine x_meth (X := X_X5_takeLeast) (bl := b_X5_takeLeast) (cut := [15]) (own := RX5) 30 (by decide) rfl X_X5_takeLeast_ok b_X5_takeLeast_ok rfl (Nat.le_of_ble_eq_true rfl) (k_X5_takeLeast l) ?_
  rintro as S M - ⟨q, p, f, s, g, hw, rfl, hp, hg, hF, rfl⟩
  obtain ⟨f1, f2, f3, f4⟩ := fs_ok p hp
  refine ⟨fun μ pc ls st S' M' cs sl => ∃ (r : Nat), r ≤ 13 ∧ (∀ j, j < 10 ∨ 25 < j → M' j = M j) ∧ (∀ t, t < r → (pf g p).testBit t = true → ¬ Sat (nw g (fsT p) (scT p) (2 ^ t))) ∧ pc = 15 ∧ st = [] ∧ S' = SH ∧ cs = 0 ∧ sl = 0 ∧ ls = [.inr (.inl q), .inl (nI (fsT p)), .inl (nI (scT p)), .inl (nI (g (fsT p * 6 + scT p))), .inl (nI r)] ∧ μ = 13 - r, ?_, ?_⟩
  · skip
    refine xt_blk rfl rfl (by dsimp only [List.take]) ?_
    refine xt_aln0 rfl (by first | decide | omega | assumption | (have := isWy_lt hw; omega)) ?_
    refine xt_gfr (q := (3, 5)) rfl (by first | exact SHw hw | exact SHw1 hw | exact SHw2 hw | exact SHw3 hw | exact SHw4 hw | exact SHw5 hw | exact SHw6 hw | rfl | assumption) rfl ?_
    refine xt_iln1 rfl ?_
    refine xt_bi ?_
    refine xt_mul ?_
    refine xt_iln2 rfl ?_
    refine xt_add ?_
    refine xt_ial (by first | exact SHw hw | exact SHw1 hw | exact SHw2 hw | exact SHw3 hw | exact SHw4 hw | exact SHw5 hw | exact SHw6 hw | rfl | assumption) (n_ixi f1 f2) ?_
    refine xt_isn3 rfl (by dsimp only [x_sto]) ?_
    refine xt_ic ?_
    refine xt_ist rfl (by dsimp only [x_sto]) ?_
    refine xt_nil (t := 15) rfl ?_
    refine xt_cut rfl rfl (by dsimp only [List.take]) ?_
    refine ⟨_, 0, by omega, fun _ _ => rfl, fun t ht => by omega, rfl, rfl, rfl, rfl, rfl, by rw [n_ixc f1 f2, (hg _ (by omega)).2], rfl⟩
  · rintro μ pc ls st S2 M2 cs sl (⟨r, hr, hfr, hlow, rfl, rfl, rfl, rfl, rfl, rfl, rfl⟩)
    · refine ⟨_, rfl, ?_⟩
      refine xt_ild rfl ?_
      refine xt_bi ?_
      refine xt_cge (t := 67) rfl (fun hc_19 => ?_) (fun hc_19 => ?_)
      · skip
        refine xt_blk rfl rfl (by dsimp only [List.take]) ?_
        refine xt_rv rfl (Nat.le_refl _) ?_
        exfalso
        have hr13 : r = 13 := by rw [nI_leI (by omega) (by omega)] at hc_19; omega
        obtain ⟨t, ht, hb, hs⟩ := FI_some hp hF
        exact hlow t (by omega) hb hs
      · skip
        have hr13 : r < 13 := by rw [nI_leI (by omega) (by omega)] at hc_19; omega
        have hg2 : At M2 (q + 3) g := fun j hj => by rw [hfr (q + 3) (by rcases hw with rfl | rfl <;> omega)]; exact hg j hj
        have hgl := (hg (fsT p * 6 + scT p) (by omega)).1
        have hbn : nI (g (fsT p * 6 + scT p)) >>> (nI r &&& 31) &&& nI 1 = nI (bi (g (fsT p * 6 + scT p)) r) := n_bit (by omega) (by omega)
        refine xt_iln3 rfl ?_
        refine xt_ild rfl ?_
        refine xt_shr ?_
        refine xt_ic ?_
        refine xt_and ?_
        refine xt_eq (t := 61) rfl (fun hc_28 => ?_) (fun hc_28 => ?_)
        · skip
          have hbit : ¬ (g (fsT p * 6 + scT p)).testBit r = true := by
            rw [hbn, n_eq0 (by have := bi_lt (g (fsT p * 6 + scT p)) r; omega)] at hc_28
            rw [← bi_tb]; omega
          refine xt_blk rfl rfl (by dsimp only [List.take]) ?_
          refine xt_inc rfl (by dsimp only [x_sto]) ?_
          refine xt_goto (t := 15) rfl ?_
          refine xt_cut rfl rfl (by dsimp only [List.take]) ?_
          refine ⟨13 - (r + 1), by omega, r + 1, by omega, hfr, ?_, rfl, rfl, rfl, rfl, rfl, by rw [nI_add], rfl⟩
          intro t ht hb
          by_cases e : t = r
          · subst e
            exact absurd hb hbit
          · exact hlow t (by omega) hb
        · skip
          have hbit : (g (fsT p * 6 + scT p)).testBit r = true := by
            rw [hbn, n_eq0 (by have := bi_lt (g (fsT p * 6 + scT p)) r; omega)] at hc_28
            rw [← bi_tb]; have := bi_lt (g (fsT p * 6 + scT p)) r; omega
          refine xt_aln0 rfl (by first | decide | omega | assumption | (have := isWy_lt hw; omega)) ?_
          refine xt_gfr (q := (3, 2)) rfl (by first | exact SHw hw | exact SHw1 hw | exact SHw2 hw | exact SHw3 hw | exact SHw4 hw | exact SHw5 hw | exact SHw6 hw | rfl | assumption) rfl ?_
          refine xt_aln0 rfl (by first | decide | omega | assumption | (have := isWy_lt hw; omega)) ?_
          refine xt_gfr (q := (3, 5)) rfl (by first | exact SHw hw | exact SHw1 hw | exact SHw2 hw | exact SHw3 hw | exact SHw4 hw | exact SHw5 hw | exact SHw6 hw | rfl | assumption) rfl ?_
          refine xt_iln1 rfl ?_
          refine xt_iln2 rfl ?_
          refine xt_ild rfl ?_
          refine xt_v5 (key := 190) (q := q_X3_canHoldWith) rfl rfl rfl rfl rfl ⟨Nat.le_of_ble_eq_true rfl, Nat.le_of_ble_eq_true rfl⟩ ⟨q + 3, fsT p, scT p, r, g, by have := isWy_lt hw; omega, rfl, SHw3 hw, f1, f2, f3, hr13, hg2, hF.1.2.1, hF.1.2.2.1, hF.1.2.2.2, hbit, rfl⟩ (fun rv_ S1 M1 hq_43 => ?_)
          obtain ⟨eS_, hfr2, hss⟩ := hq_43 (q + 3) (fsT p) (scT p) r g f1 f2 hr13 hg2 rfl
          replace eS_ := eS_.symm
          subst eS_
          have hfr3 : ∀ j, j < 10 ∨ 25 < j → M1 j = M j := fun j a => (hfr2 j a).trans (hfr j a)
          have hex : ∃ v, rv_ = some (.inl v) := by rcases hss with ⟨e, -⟩ | ⟨e, -⟩ <;> exact ⟨_, e⟩
          obtain ⟨v, rfl⟩ := hex
          try dsimp only [Option.toList, List.cons_append, List.nil_append]
          refine xt_eq (t := 61) rfl (fun hc_46 => ?_) (fun hc_46 => ?_)
          · skip
            refine xt_blk rfl rfl (by dsimp only [List.take]) ?_
            refine xt_inc rfl (by dsimp only [x_sto]) ?_
            refine xt_goto (t := 15) rfl ?_
            refine xt_cut rfl rfl (by dsimp only [List.take]) ?_
            have hno : ¬ Sat (nw g (fsT p) (scT p) (2 ^ r)) := by
              rcases hss with ⟨e, -⟩ | ⟨-, z⟩
              · cases e; exact absurd hc_46 (by decide)
              · exact z
            refine ⟨13 - (r + 1), by omega, r + 1, by omega, hfr3, ?_, rfl, rfl, rfl, rfl, rfl, by rw [nI_add], rfl⟩
            intro t ht hb
            by_cases e : t = r
            · subst e
              exact hno
            · exact hlow t (by omega) hb
          · skip
            refine xt_aln0 rfl (by first | decide | omega | assumption | (have := isWy_lt hw; omega)) ?_
            refine xt_gfr (q := (3, 2)) rfl (by first | exact SHw hw | exact SHw1 hw | exact SHw2 hw | exact SHw3 hw | exact SHw4 hw | exact SHw5 hw | exact SHw6 hw | rfl | assumption) rfl ?_
            refine xt_aln0 rfl (by first | decide | omega | assumption | (have := isWy_lt hw; omega)) ?_
            refine xt_gfr (q := (3, 5)) rfl (by first | exact SHw hw | exact SHw1 hw | exact SHw2 hw | exact SHw3 hw | exact SHw4 hw | exact SHw5 hw | exact SHw6 hw | rfl | assumption) rfl ?_
            refine xt_v2 (key := 397) (q := q_X3_keepNet) rfl rfl rfl rfl rfl ⟨Nat.le_of_ble_eq_true rfl, Nat.le_of_ble_eq_true rfl⟩ ⟨q + 3, by have := isWy_lt hw; omega, rfl, SHw3 hw, rfl⟩ (fun rv_ S1 M1 hq_57 => ?_)
            obtain ⟨eS_, eM_, rfl⟩ := hq_57 (q + 3) rfl
            replace eS_ := eS_.symm
            replace eM_ := eM_.symm
            subst eS_ eM_
            try dsimp only [Option.toList, List.cons_append, List.nil_append]
            refine xt_rv rfl (Nat.le_refl _) ?_
            intro q2 p2 f' s' g' hp2 hg' hF' e2
            simp only [List.cons.injEq, Sum.inr.injEq, Sum.inl.injEq, and_true] at e2
            obtain ⟨rfl, ea, eb⟩ := e2
            obtain ⟨k1, k2, -, -⟩ := fs_ok p2 hp2
            rw [nI_eq (by omega) (by omega)] at ea eb
            have ep := fs_inj p hp p2 hp2 ea eb
            subst ep
            have hF2 := FI_cg (by omega) (At_u hg' hg) hF'
            rcases hss with ⟨-, hsat, gg, z1, z2, z3, z4, z5⟩ | ⟨e, -⟩
            · refine ⟨rfl, fun j a b => by rw [x_row_ne _ _ b]; exact hfr3 j a, ⟨_, gg, fun j hj => ?_, FI_step hF2 hp hr13 hbit hlow hsat ⟨fun j hj => (z1 j hj).1, z2, z3, z4, z5⟩⟩, rfl⟩
              rw [x_row_self]
              unfold x_cp
              rw [if_pos hj]
              exact z1 j hj
            · cases e; exact absurd rfl hc_46
def q_X5_isFirstDrawn : x_K := (1, fun as S M => ∃ (q : Nat) , WP M q ∧ S = SH ∧ as = [.inr (.inl q)], fun as S M rv_ S' M' => ∀ (q : Nat) , as = [.inr (.inl q)] → S' = S ∧ Ed M q M' ∧ ((rv_ = some (.inl (nI 1)) ∧ Sat (tF M (wo q)) ∧ M' q 12 = nI 1) ∨ (rv_ = some (.inl (nI 0)) ∧ ¬ Sat (tF M (wo q)))), 0, 0)
theorem r_X5_isFirstDrawn : ∀ as S M, q_X5_isFirstDrawn.2.1 as S M → ∃ (k : Nat) (as' : List x_V) (fs : List (Option Nat)), as = .inr (.inl k) :: as' ∧ S[k]? = some (.inl (3, fs)) := by
  rintro as S M ⟨q, hp, rfl, rfl⟩
  exact ⟨q, _, _, rfl, SHw hp.1⟩
def b_X5_isFirstDrawn : x_B := [(0, 1, [(.aload_n 0, 1), (.invokevirtual 59, 3), (.ifCond .ne 5, 3), (.iconst 0, 1), (.ireturn, 1)]),
  (9, 1, [(.aload_n 0, 1), (.getfield 71, 3), (.ifCond .ne 53, 3), (.aload_n 0, 1), (.getfield 29, 3), (.iconst 0, 1), (.aload_n 0, 1), (.getfield 32, 3), (.iconst 0, 1), (.bipush 36, 2), (.invokestatic 75, 3), (.iconst 0, 1), (.istore_n 1, 1)]),
  (33, 2, [(.iload_n 1, 1), (.bipush 15, 2), (.if_icmp .ge 21, 3), (.aload_n 0, 1), (.iload_n 1, 1), (.invokestatic 81, 3), (.iload_n 1, 1), (.invokestatic 85, 3), (.invokevirtual 88, 3), (.iinc 1 1, 3), (.goto (-21), 3)]),
  (57, 2, [(.aload_n 0, 1), (.invokevirtual 92, 3), (.aload_n 0, 1), (.iconst 1, 1), (.putfield 71, 3)]),
  (66, 1, [(.iconst 1, 1), (.ireturn, 1)])]
theorem b_X5_isFirstDrawn_ok : x_okB cX5_isFirstDrawn 2 b_X5_isFirstDrawn = true := by decide +kernel
def X_X5_isFirstDrawn : x_X := ([(71, 3, 12), (29, 3, 4), (32, 3, 5)], [], [], [], [(178, q_X5_isPossible), (225, x_qC), (243, q_X1_firstOf), (255, q_X1_secondOf), (265, q_X5_takeLeast), (277, q_X5_numberEnds)], (0, 0), x_kn, x_kf, 5, false)
theorem X_X5_isFirstDrawn_ok : x_okT RX5 X_X5_isFirstDrawn = true := by decide +kernel
theorem k_X5_isFirstDrawn (l : Launch) : ∀ z ∈ X_X5_isFirstDrawn.2.2.2.2.1, x_Cal l (x_rm 22 0 0) cX5_isFirstDrawn RX5 2 z.1 z.2 := List.forall_mem_cons.mpr ⟨x_cal_V (idx := 59) (ci := 3) (n := 0) (c_X5_isPossible l) ⟨by decide, by decide⟩ (by decide +kernel) (by decide +kernel) (by decide +kernel) (by decide +kernel) (by decide +kernel) rfl rfl rfl (by decide +kernel) r_X5_isPossible, List.forall_mem_cons.mpr ⟨x_cal_C (idx := 75) ⟨by decide, by decide⟩ (by decide +kernel) (by decide +kernel) (by decide +kernel) (by decide +kernel), List.forall_mem_cons.mpr ⟨x_cal_S (idx := 81) (c_X1_firstOf l) ⟨by decide, by decide⟩ (by decide +kernel) (by decide +kernel) (by decide +kernel) (by decide +kernel) (by decide +kernel), List.forall_mem_cons.mpr ⟨x_cal_S (idx := 85) (c_X1_secondOf l) ⟨by decide, by decide⟩ (by decide +kernel) (by decide +kernel) (by decide +kernel) (by decide +kernel) (by decide +kernel), List.forall_mem_cons.mpr ⟨x_cal_V (idx := 88) (ci := 3) (n := 2) (c_X5_takeLeast l) ⟨by decide, by decide⟩ (by decide +kernel) (by decide +kernel) (by decide +kernel) (by decide +kernel) (by decide +kernel) rfl rfl rfl (by decide +kernel) r_X5_takeLeast, List.forall_mem_cons.mpr ⟨x_cal_V (idx := 92) (ci := 3) (n := 0) (c_X5_numberEnds l) ⟨by decide, by decide⟩ (by decide +kernel) (by decide +kernel) (by decide +kernel) (by decide +kernel) (by decide +kernel) rfl rfl rfl (by decide +kernel) r_X5_numberEnds, fun _ h => absurd h List.not_mem_nil⟩⟩⟩⟩⟩⟩
set_option maxHeartbeats 4000000 in
set_option maxRecDepth 100000 in
theorem c_X5_isFirstDrawn (l : Launch) : x_CT l yX5_isFirstDrawn cX5_isFirstDrawn 2 (some .boolean) 22 q_X5_isFirstDrawn := by
  refine x_meth (X := X_X5_isFirstDrawn) (bl := b_X5_isFirstDrawn) (cut := [33]) (own := RX5) 30 (by decide) rfl X_X5_isFirstDrawn_ok b_X5_isFirstDrawn_ok rfl (Nat.le_of_ble_eq_true rfl) (k_X5_isFirstDrawn l) ?_
  rintro as S M - ⟨q, hp, rfl, rfl⟩
  have hw := hp.1
  refine ⟨fun μ pc ls st S' M' cs sl => ∃ (p : Nat) (s g : Nat → Nat), p ≤ 15 ∧ Ed M q M' ∧ M' q 12 = nI 0 ∧ Sat (tF M (wo q)) ∧ At M' (q + 3) g ∧ FI (tF M (wo q)) p s g ∧ pc = 33 ∧ st = [] ∧ S' = SH ∧ cs = 0 ∧ sl = 0 ∧ ls = [.inr (.inl q), .inl (nI p)] ∧ μ = 15 - p, ?_, ?_⟩
  · skip
    refine xt_blk rfl rfl (by dsimp only [List.take]) ?_
    refine xt_aln0 rfl (by first | decide | omega | assumption | (have := isWy_lt hw; omega)) ?_
    refine xt_v1 (key := 178) (q := q_X5_isPossible) rfl rfl rfl rfl rfl ⟨Nat.le_of_ble_eq_true rfl, Nat.le_of_ble_eq_true rfl⟩ ⟨q, hp, rfl, rfl⟩ (fun rv_ S1 M1 hq_1 => ?_)
    obtain ⟨eS_, hEd, hpos⟩ := hq_1 q rfl
    replace eS_ := eS_.symm
    subst eS_
    have hex : ∃ v, rv_ = some (.inl v) := by rcases hpos with ⟨e, -⟩ | ⟨e, -⟩ <;> exact ⟨_, e⟩
    obtain ⟨v, rfl⟩ := hex
    try dsimp only [Option.toList, List.cons_append, List.nil_append]
    refine xt_ne (t := 9) rfl (fun hc_4 => ?_) (fun hc_4 => ?_)
    · skip
      refine xt_blk rfl rfl (by dsimp only [List.take]) ?_
      refine xt_aln0 rfl (by first | decide | omega | assumption | (have := isWy_lt hw; omega)) ?_
      refine xt_gfi (q := (3, 12)) rfl (by first | exact SHw hw | exact SHw1 hw | exact SHw2 hw | exact SHw3 hw | exact SHw4 hw | exact SHw5 hw | exact SHw6 hw | rfl | assumption) rfl ?_
      refine xt_ne (t := 66) rfl (fun hc_13 => ?_) (fun hc_13 => ?_)
      · skip
        refine xt_blk rfl rfl (by dsimp only [List.take]) ?_
        refine xt_ic ?_
        refine xt_rz (by decide) rfl (Nat.le_refl _) ?_
        intro q2 e2
        simp only [List.cons.injEq, Sum.inr.injEq, Sum.inl.injEq, and_true] at e2
        subst e2
        rcases hpos with ⟨-, z, -⟩ | ⟨e, -⟩
        · refine ⟨rfl, hEd, Or.inl ⟨rfl, z, ?_⟩⟩
          rcases hEd.2.2.2.2.2.2.2 with e | ⟨e, -⟩
          · rw [e] at hc_13; exact absurd rfl hc_13
          · exact e
        · cases e; exact absurd rfl hc_4
      · skip
        refine xt_aln0 rfl (by first | decide | omega | assumption | (have := isWy_lt hw; omega)) ?_
        refine xt_gfr (q := (3, 4)) rfl (by first | exact SHw hw | exact SHw1 hw | exact SHw2 hw | exact SHw3 hw | exact SHw4 hw | exact SHw5 hw | exact SHw6 hw | rfl | assumption) rfl ?_
        refine xt_ic ?_
        refine xt_aln0 rfl (by first | decide | omega | assumption | (have := isWy_lt hw; omega)) ?_
        refine xt_gfr (q := (3, 5)) rfl (by first | exact SHw hw | exact SHw1 hw | exact SHw2 hw | exact SHw3 hw | exact SHw4 hw | exact SHw5 hw | exact SHw6 hw | rfl | assumption) rfl ?_
        refine xt_ic ?_
        refine xt_bi ?_
        refine xt_v5 (key := 225) (q := x_qC) rfl rfl rfl rfl rfl ⟨Nat.le_of_ble_eq_true rfl, Nat.le_of_ble_eq_true rfl⟩ ⟨q + 2, q + 3, rfl, SHw2 hw, SHw3 hw⟩ (fun rv_ S1 M1 hq_28 => ?_)
        obtain ⟨er, eS_, eM_⟩ := hq_28
        replace eS_ := eS_.symm
        subst eS_
        have eM1 := eM_ (q + 2) (q + 3) rfl
        subst er
        subst eM1
        try dsimp only [Option.toList, List.cons_append, List.nil_append]
        refine xt_ic ?_
        refine xt_isn1 rfl (by dsimp only [x_sto]) ?_
        refine xt_nil (t := 33) rfl ?_
        refine xt_cut rfl rfl (by dsimp only [List.take]) ?_
        rcases hpos with ⟨-, hsat, hps⟩ | ⟨e, -⟩
        · obtain ⟨g, hg1, hcn⟩ := Ed_cn hEd (Or.inl hps)
          obtain ⟨hEd2, h122, h102, -⟩ := Ed_fst (M2 := x_row M1 (q + 3) (x_cp (M1 (q + 2)) (M1 (q + 3)) 36)) hw hEd (by rw [nI_0]; exact hc_13) (fun j a b => x_row_ne _ _ b)
          refine ⟨_, 0, _, g, by omega, hEd2, h122, hsat, ?_, FI_0 hcn (tF_ok hp.2.1 (wo_lt q)).2.2 hsat, rfl, rfl, rfl, rfl, rfl, rfl, rfl⟩
          intro j hj
          rw [x_row_self]
          unfold x_cp
          rw [if_pos hj]
          exact hg1 j hj
        · cases e; exact absurd rfl hc_4
    · skip
      refine xt_ic ?_
      refine xt_rz (by decide) rfl (Nat.le_refl _) ?_
      intro q2 e2
      simp only [List.cons.injEq, Sum.inr.injEq, Sum.inl.injEq, and_true] at e2
      subst e2
      rcases hpos with ⟨e, -⟩ | ⟨-, z⟩
      · cases e; exact absurd hc_4 (by decide)
      · exact ⟨rfl, hEd, Or.inr ⟨rfl, z⟩⟩
  · rintro μ pc ls st S2 M2 cs sl (⟨p, s, g, hp15, hEd, h12, hsat, hg, hF, rfl, rfl, rfl, rfl, rfl, rfl, rfl⟩)
    · refine ⟨_, rfl, ?_⟩
      refine xt_iln1 rfl ?_
      refine xt_bi ?_
      refine xt_cge (t := 57) rfl (fun hc_36 => ?_) (fun hc_36 => ?_)
      · skip
        have hp15 : p = 15 := by rw [nI_leI (by omega) (by omega)] at hc_36; omega
        refine xt_blk rfl rfl (by dsimp only [List.take]) ?_
        refine xt_aln0 rfl (by first | decide | omega | assumption | (have := isWy_lt hw; omega)) ?_
        refine xt_v1 (key := 277) (q := q_X5_numberEnds) rfl rfl rfl rfl rfl ⟨Nat.le_of_ble_eq_true rfl, Nat.le_of_ble_eq_true rfl⟩ ⟨q, g, hw, rfl, hg, rfl⟩ (fun rv_ S1 M1 hq_58 => ?_)
        obtain ⟨eS_, ⟨gI, eM_, hgI⟩, rfl⟩ := hq_58 q g hg rfl
        replace eS_ := eS_.symm
        replace eM_ := eM_.symm
        subst eS_ eM_
        try dsimp only [Option.toList, List.cons_append, List.nil_append]
        refine xt_aln0 rfl (by first | decide | omega | assumption | (have := isWy_lt hw; omega)) ?_
        refine xt_ic ?_
        refine xt_pfi (q := (3, 12)) rfl (by first | exact SHw hw | exact SHw1 hw | exact SHw2 hw | exact SHw3 hw | exact SHw4 hw | exact SHw5 hw | exact SHw6 hw | rfl | assumption) rfl (by decide) (Or.inr ⟨rfl, Or.inr rfl⟩) ?_
        refine xt_nil (t := 66) rfl ?_
        refine xt_blk rfl rfl (by dsimp only [List.take]) ?_
        refine xt_ic ?_
        refine xt_rz (by decide) rfl (Nat.le_refl _) ?_
        intro q2 e2
        simp only [List.cons.injEq, Sum.inr.injEq, Sum.inl.injEq, and_true] at e2
        subst e2
        subst hp15
        obtain ⟨w1, ⟨gg, g1, g2, g3⟩, w3, w4, w5⟩ := hEd.2.2.2
        have q1 : x_row M2 (q + 6) gI (q + 1) = M2 (q + 1) := x_row_ne _ _ (by omega)
        refine ⟨rfl, Ed_next hw hEd (fun k a b => by rw [x_row_ne _ _ (by omega), x_row_ne _ _ (by omega)]) (by simp [x_row_c, upd]) (by simp [x_row_c, upd]) ⟨?_, ⟨gg, ?_, g2, ?_⟩, ?_, ?_, ?_⟩, Or.inl ⟨rfl, hsat, by simp [x_row_c, upd]⟩⟩
        · intro j hj; rw [x_row_ne _ _ (by omega), x_row_ne _ _ (by omega)]; exact w1 j hj
        · intro j hj; rw [x_row_ne _ _ (by omega), x_row_ne _ _ (by omega)]; exact g1 j hj
        · unfold PoV at g3 ⊢; rw [x_row_self, x_row_ne _ _ (by omega)]; simpa [upd] using g3
        · intro x y hx hy hxy; rw [x_row_ne _ _ (by omega), x_row_ne _ _ (by omega)]; exact w3 x y hx hy hxy
        · unfold CoV at w4 ⊢; rw [x_row_self, x_row_ne _ _ (by omega)]; simpa [upd] using w4
        · refine Or.inr ⟨by simp [x_row_c, upd], s, g, fun j hj => ?_, hF, fun e he => ?_⟩
          · rw [x_row_ne _ _ (by omega), x_row_ne _ _ (by omega)]; exact hg j hj
          · rw [x_row_ne _ _ (by omega), x_row_self]; exact hgI e he
      · skip
        have hp15 : p < 15 := by rw [nI_leI (by omega) (by omega)] at hc_36; omega
        refine xt_aln0 rfl (by first | decide | omega | assumption | (have := isWy_lt hw; omega)) ?_
        refine xt_iln1 rfl ?_
        refine xt_v1 (key := 243) (q := q_X1_firstOf) rfl rfl rfl rfl rfl ⟨Nat.le_of_ble_eq_true rfl, Nat.le_of_ble_eq_true rfl⟩ ⟨p, hp15, rfl⟩ (fun rv_ S1 M1 hq_41 => ?_)
        obtain ⟨eS_, eM_, rfl⟩ := hq_41 p hp15 rfl
        replace eS_ := eS_.symm
        replace eM_ := eM_.symm
        subst eS_ eM_
        try dsimp only [Option.toList, List.cons_append, List.nil_append]
        refine xt_iln1 rfl ?_
        refine xt_v1 (key := 255) (q := q_X1_secondOf) rfl rfl rfl rfl rfl ⟨Nat.le_of_ble_eq_true rfl, Nat.le_of_ble_eq_true rfl⟩ ⟨p, hp15, rfl⟩ (fun rv_ S1 M1 hq_45 => ?_)
        obtain ⟨eS_, eM_, rfl⟩ := hq_45 p hp15 rfl
        replace eS_ := eS_.symm
        replace eM_ := eM_.symm
        subst eS_ eM_
        try dsimp only [Option.toList, List.cons_append, List.nil_append]
        refine xt_v3 (key := 265) (q := q_X5_takeLeast) rfl rfl rfl rfl rfl ⟨Nat.le_of_ble_eq_true rfl, Nat.le_of_ble_eq_true rfl⟩ ⟨q, p, tF M (wo q), s, g, hw, rfl, hp15, hg, hF, rfl⟩ (fun rv_ S1 M1 hq_48 => ?_)
        obtain ⟨eS_, hfr, ⟨s', g', hg', hF'⟩, rfl⟩ := hq_48 q p (tF M (wo q)) s g hp15 hg hF rfl
        replace eS_ := eS_.symm
        subst eS_
        obtain ⟨hEd2, h122, h102, -⟩ := Ed_fst hw hEd h12 hfr
        try dsimp only [Option.toList, List.cons_append, List.nil_append]
        refine xt_inc rfl (by dsimp only [x_sto]) ?_
        refine xt_goto (t := 33) rfl ?_
        refine xt_cut rfl rfl (by dsimp only [List.take]) ?_
        refine ⟨15 - (p + 1), by omega, p + 1, s', g', by omega, hEd2, h122, hsat, hg', hF', rfl, rfl, rfl, rfl, rfl, by rw [nI_add], rfl⟩
