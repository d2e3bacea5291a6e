/-! WAY: isPossible, canSet -/
theorem Ed_lev {M M' M2 : x_M} {q : Nat} (hw : isWy q) (h : Ed M q M') (h1 : ∀ j, j < 10 ∨ 25 < j → M2 j = M' j) : Ed M q M2 := by
  have hq : ∀ k, q ≤ k → M2 k = M' k := fun k hk => h1 k (by rcases hw with rfl | rfl <;> omega)
  exact Ed_next hw h (fun k a _ => h1 k a) (by rw [hq q (by omega)]) (by rw [hq q (by omega)]) (WW_keep h.2.2.2 (fun k a _ _ => hq k a))
theorem Ed_cn {M M' : x_M} {q : Nat} (h : Ed M q M') (h1 : M' q 10 = nI 1 ∨ M' q 10 = -(nI 1)) : ∃ g, At M' (q + 2) g ∧ Cn (tF M (wo q)) g := by
  obtain ⟨g, g1, -, hp⟩ := h.2.2.2.2.1
  rcases hp with ⟨-, c⟩ | ⟨-, c, -⟩ | ⟨e, -⟩
  · exact ⟨g, g1, c⟩
  · exact ⟨g, g1, c⟩
  · rw [e] at h1
    rcases h1 with h1 | h1 <;> exact absurd h1 (by decide)
theorem x_row_c (M : x_M) (k : Nat) (f : Nat → Int32) (a b : Nat) : x_row M k f a b = if a = k then f b else M a b := by unfold x_row; split <;> rfl
def q_X5_isPossible : x_K := (1, fun as S M => ∃ (q : Nat) , WP M q ∧ S = SH ∧ as = [.inr (.inl q)], fun as S M rv_ S' M' => ∀ (q : Nat) , as = [.inr (.inl q)] → S' = S ∧ Ed M q M' ∧ ((rv_ = some (.inl (nI 1)) ∧ Sat (tF M (wo q)) ∧ M' q 10 = nI 1) ∨ (rv_ = some (.inl (nI 0)) ∧ ¬ Sat (tF M (wo q)))), 0, 0)
theorem r_X5_isPossible : ∀ as S M, q_X5_isPossible.2.1 as S M → ∃ (k : Nat) (as' : List x_V) (fs : List (Option Nat)), as = .inr (.inl k) :: as' ∧ S[k]? = some (.inl (3, fs)) := by
  rintro as S M ⟨q, hp, rfl, rfl⟩
  exact ⟨q, _, _, rfl, SHw hp.1⟩
def b_X5_isPossible : x_B := [(0, 1, [(.aload_n 0, 1), (.invokevirtual 47, 3), (.aload_n 0, 1), (.getfield 50, 3), (.iconst (-1), 1), (.if_icmp .ne 26, 3), (.aload_n 0, 1), (.aload_n 0, 1), (.getfield 19, 3), (.aload_n 0, 1), (.getfield 29, 3), (.invokevirtual 53, 3), (.ifCond .eq 7, 3), (.iconst 1, 1), (.goto 4, 3)]),
  (31, 1, [(.iconst 0, 1)]),
  (32, 1, [(.putfield 50, 3)]),
  (35, 1, [(.aload_n 0, 1), (.getfield 50, 3), (.iconst 1, 1), (.if_icmp .ne 7, 3), (.iconst 1, 1), (.goto 4, 3)]),
  (47, 1, [(.iconst 0, 1)]),
  (48, 1, [(.ireturn, 1)])]
theorem b_X5_isPossible_ok : x_okB cX5_isPossible 1 b_X5_isPossible = true := by decide +kernel
def X_X5_isPossible : x_X := ([(50, 3, 10), (19, 3, 2), (29, 3, 4)], [], [], [], [(142, q_X5_refresh), (160, q_X3_canHold)], (0, 0), x_kn, x_kf, 5, false)
theorem X_X5_isPossible_ok : x_okT RX5 X_X5_isPossible = true := by decide +kernel
theorem k_X5_isPossible (l : Launch) : ∀ z ∈ X_X5_isPossible.2.2.2.2.1, x_Cal l (x_rm 21 0 0) cX5_isPossible RX5 1 z.1 z.2 := List.forall_mem_cons.mpr ⟨x_cal_V (idx := 47) (ci := 3) (n := 0) (c_X5_refresh l) ⟨by decide, by decide⟩ (by decide +kernel) (by decide +kernel) (by decide +kernel) (by decide +kernel) (by decide +kernel) rfl rfl rfl (by decide +kernel) r_X5_refresh, List.forall_mem_cons.mpr ⟨x_cal_V (idx := 53) (ci := 1) (n := 1) (c_X3_canHold l) ⟨by decide, by decide⟩ (by decide +kernel) (by decide +kernel) (by decide +kernel) (by decide +kernel) (by decide +kernel) rfl rfl rfl (by decide +kernel) r_X3_canHold, fun _ h => absurd h List.not_mem_nil⟩⟩
set_option maxHeartbeats 4000000 in
set_option maxRecDepth 100000 in
theorem c_X5_isPossible (l : Launch) : x_CT l yX5_isPossible cX5_isPossible 1 (some .boolean) 21 q_X5_isPossible := by
  refine x_meth (X := X_X5_isPossible) (bl := b_X5_isPossible) (cut := []) (own := RX5) 30 (by decide) rfl X_X5_isPossible_ok b_X5_isPossible_ok rfl (Nat.le_of_ble_eq_true rfl) (k_X5_isPossible l) ?_
  rintro as S M - ⟨q, hp, rfl, rfl⟩
  have hw := hp.1
  refine ⟨fun _ _ _ _ _ _ _ _ => False, ?_, ?_⟩
  · skip
    refine xt_blk rfl rfl (by dsimp only [List.take]) ?_
    refine xt_aln0 rfl (by first | decide | omega | assumption | (have := isWy_lt hw; omega)) ?_
    refine xt_v1 (key := 142) (q := q_X5_refresh) rfl rfl rfl rfl rfl ⟨Nat.le_of_ble_eq_true rfl, Nat.le_of_ble_eq_true rfl⟩ ⟨q, hp, rfl, rfl⟩ (fun rv_ S1 M1 hq_1 => ?_)
    obtain ⟨eS_, hEd, rfl⟩ := hq_1 q rfl
    replace eS_ := eS_.symm
    subst eS_
    try dsimp only [Option.toList, List.cons_append, List.nil_append]
    refine xt_aln0 rfl (by first | decide | omega | assumption | (have := isWy_lt hw; omega)) ?_
    refine xt_gfi (q := (3, 10)) rfl (by first | exact SHw hw | exact SHw1 hw | exact SHw2 hw | exact SHw3 hw | exact SHw4 hw | exact SHw5 hw | exact SHw6 hw | rfl | assumption) rfl ?_
    refine xt_icm rfl ?_
    refine xt_cne (t := 35) rfl (fun hc_9 => ?_) (fun hc_9 => ?_)
    · skip
      refine xt_blk rfl rfl (by dsimp only [List.take]) ?_
      refine xt_aln0 rfl (by first | decide | omega | assumption | (have := isWy_lt hw; omega)) ?_
      refine xt_gfi (q := (3, 10)) rfl (by first | exact SHw hw | exact SHw1 hw | exact SHw2 hw | exact SHw3 hw | exact SHw4 hw | exact SHw5 hw | exact SHw6 hw | rfl | assumption) rfl ?_
      refine xt_ic ?_
      refine xt_cne (t := 47) rfl (fun hc_40 => ?_) (fun hc_40 => ?_)
      · skip
        refine xt_blk rfl rfl (by dsimp only [List.take]) ?_
        refine xt_ic ?_
        refine xt_nil (t := 48) rfl ?_
        refine xt_blk rfl rfl (by dsimp only [List.take]) ?_
        refine xt_rz (by decide) rfl (Nat.le_refl _) ?_
        intro q2 e2
        simp only [List.cons.injEq, Sum.inr.injEq, Sum.inl.injEq, and_true] at e2
        subst e2
        obtain ⟨g, g1, g2, hpo⟩ := hEd.2.2.2.2.1
        rcases hpo with ⟨e, -⟩ | ⟨e, -, hs⟩ | ⟨e, hn⟩
        · exact absurd e hc_9
        · exact absurd e hc_40
        · exact ⟨rfl, hEd, Or.inr ⟨rfl, hn⟩⟩
      · skip
        refine xt_ic ?_
        refine xt_goto (t := 48) rfl ?_
        refine xt_blk rfl rfl (by dsimp only [List.take]) ?_
        refine xt_rz (by decide) rfl (Nat.le_refl _) ?_
        intro q2 e2
        simp only [List.cons.injEq, Sum.inr.injEq, Sum.inl.injEq, and_true] at e2
        subst e2
        obtain ⟨g, g1, g2, hpo⟩ := hEd.2.2.2.2.1
        rcases hpo with ⟨e, -⟩ | ⟨e, -, hs⟩ | ⟨e, hn⟩
        · exact absurd e hc_9
        · exact ⟨rfl, hEd, Or.inl ⟨rfl, hs, e⟩⟩
        · rw [e] at hc_40; exact absurd hc_40 (by decide)
    · skip
      obtain ⟨g, hg1, hcn⟩ := Ed_cn hEd (Or.inr hc_9)
      refine xt_aln0 rfl (by first | decide | omega | assumption | (have := isWy_lt hw; omega)) ?_
      refine xt_aln0 rfl (by first | decide | omega | assumption | (have := isWy_lt hw; omega)) ?_
      refine xt_gfr (q := (3, 2)) rfl (by first | exact SHw hw | exact SHw1 hw | exact SHw2 hw | exact SHw3 hw | exact SHw4 hw | exact SHw5 hw | exact SHw6 hw | rfl | assumption) rfl ?_
      refine xt_aln0 rfl (by first | decide | omega | assumption | (have := isWy_lt hw; omega)) ?_
      refine xt_gfr (q := (3, 4)) rfl (by first | exact SHw hw | exact SHw1 hw | exact SHw2 hw | exact SHw3 hw | exact SHw4 hw | exact SHw5 hw | exact SHw6 hw | rfl | assumption) rfl ?_
      refine xt_v2 (key := 160) (q := q_X3_canHold) rfl rfl rfl rfl rfl ⟨Nat.le_of_ble_eq_true rfl, Nat.le_of_ble_eq_true rfl⟩ ⟨q + 2, g, by have := isWy_lt hw; omega, rfl, SHw2 hw, hg1, hcn.2.1, hcn.2.2.1, hcn.2.2.2.1, rfl⟩ (fun rv_ S1 M1 hq_21 => ?_)
      obtain ⟨eS_, hfr, hss⟩ := hq_21 (q + 2) g hg1 rfl
      replace eS_ := eS_.symm
      subst eS_
      have hEd2 := Ed_lev hw hEd hfr
      have hex : ∃ v, rv_ = some (.inl v) := by rcases hss with ⟨e, -⟩ | ⟨e, -⟩ <;> exact ⟨_, e⟩
      obtain ⟨v, rfl⟩ := hex
      try dsimp only [Option.toList, List.cons_append, List.nil_append]
      refine xt_eq (t := 31) rfl (fun hc_24 => ?_) (fun hc_24 => ?_)
      · skip
        refine xt_blk rfl rfl (by dsimp only [List.take]) ?_
        refine xt_ic ?_
        refine xt_nil (t := 32) rfl ?_
        refine xt_blk rfl rfl (by dsimp only [List.take]) ?_
        refine xt_pfi (q := (3, 10)) rfl (by first | exact SHw hw | exact SHw1 hw | exact SHw2 hw | exact SHw3 hw | exact SHw4 hw | exact SHw5 hw | exact SHw6 hw | rfl | assumption) rfl (by decide) (Or.inl rfl) ?_
        refine xt_nil (t := 35) rfl ?_
        refine xt_blk rfl rfl (by dsimp only [List.take]) ?_
        refine xt_aln0 rfl (by first | decide | omega | assumption | (have := isWy_lt hw; omega)) ?_
        refine xt_gfi (q := (3, 10)) rfl (by first | exact SHw hw | exact SHw1 hw | exact SHw2 hw | exact SHw3 hw | exact SHw4 hw | exact SHw5 hw | exact SHw6 hw | rfl | assumption) rfl ?_
        refine xt_ic ?_
        refine xt_cne (t := 47) rfl (fun hc_40 => ?_) (fun hc_40 => ?_)
        · skip
          refine xt_blk rfl rfl (by dsimp only [List.take]) ?_
          refine xt_ic ?_
          refine xt_nil (t := 48) rfl ?_
          refine xt_blk rfl rfl (by dsimp only [List.take]) ?_
          refine xt_rz (by decide) rfl (Nat.le_refl _) ?_
          intro q2 e2
          simp only [List.cons.injEq, Sum.inr.injEq, Sum.inl.injEq, and_true] at e2
          subst e2
          have hsat : ¬ Sat (tF M (wo q)) := by
            rcases hss with ⟨e, -⟩ | ⟨-, z⟩
            · cases e; exact absurd hc_24 (by decide)
            · exact fun y => z ((Cn_sat hcn).mp y)
          obtain ⟨w1, ⟨g', g1', g2', -⟩, w3, w4, w5⟩ := hEd2.2.2.2
          refine ⟨rfl, Ed_next hw hEd2 (fun k a b => x_row_ne _ _ (by omega)) (by simp [x_row_c, upd]) (by simp [x_row_c, upd]) ⟨?_, ⟨g, ?_, Or.inl hcn, Or.inr (Or.inr ⟨by simp [x_row_c, upd], hsat⟩)⟩, ?_, ?_, ?_⟩, Or.inr ⟨rfl, hsat⟩⟩
          · intro j hj; rw [x_row_ne _ _ (by omega)]; exact w1 j hj
          · intro j hj; rw [x_row_ne _ _ (by omega), hfr (q + 2) (by rcases hw with rfl | rfl <;> omega)]; exact hg1 j hj
          · intro x y hx hy hxy; rw [x_row_ne _ _ (by omega)]; exact w3 x y hx hy hxy
          · unfold CoV at w4 ⊢; rw [x_row_self]; simpa [upd] using w4
          · unfold FiV At at w5 ⊢; rw [x_row_self, x_row_ne _ _ (show q + 3 ≠ q by omega), x_row_ne _ _ (show q + 6 ≠ q by omega)]; simpa [upd] using w5
        · skip
          refine xt_ic ?_
          refine xt_goto (t := 48) rfl ?_
          refine xt_blk rfl rfl (by dsimp only [List.take]) ?_
          refine xt_rz (by decide) rfl (Nat.le_refl _) ?_
          rw [x_row_self] at hc_40
          exact absurd hc_40 (by simp only [upd, if_pos]; decide)
      · skip
        refine xt_ic ?_
        refine xt_goto (t := 32) rfl ?_
        refine xt_blk rfl rfl (by dsimp only [List.take]) ?_
        refine xt_pfi (q := (3, 10)) rfl (by first | exact SHw hw | exact SHw1 hw | exact SHw2 hw | exact SHw3 hw | exact SHw4 hw | exact SHw5 hw | exact SHw6 hw | rfl | assumption) rfl (by decide) (Or.inl rfl) ?_
        refine xt_nil (t := 35) rfl ?_
        refine xt_blk rfl rfl (by dsimp only [List.take]) ?_
        refine xt_aln0 rfl (by first | decide | omega | assumption | (have := isWy_lt hw; omega)) ?_
        refine xt_gfi (q := (3, 10)) rfl (by first | exact SHw hw | exact SHw1 hw | exact SHw2 hw | exact SHw3 hw | exact SHw4 hw | exact SHw5 hw | exact SHw6 hw | rfl | assumption) rfl ?_
        refine xt_ic ?_
        refine xt_cne (t := 47) rfl (fun hc_40 => ?_) (fun hc_40 => ?_)
        · skip
          refine xt_blk rfl rfl (by dsimp only [List.take]) ?_
          refine xt_ic ?_
          refine xt_nil (t := 48) rfl ?_
          refine xt_blk rfl rfl (by dsimp only [List.take]) ?_
          refine xt_rz (by decide) rfl (Nat.le_refl _) ?_
          rw [x_row_self] at hc_40
          exact absurd hc_40 (by simp [upd])
        · skip
          refine xt_ic ?_
          refine xt_goto (t := 48) rfl ?_
          refine xt_blk rfl rfl (by dsimp only [List.take]) ?_
          refine xt_rz (by decide) rfl (Nat.le_refl _) ?_
          intro q2 e2
          simp only [List.cons.injEq, Sum.inr.injEq, Sum.inl.injEq, and_true] at e2
          subst e2
          have hsat : Sat (tF M (wo q)) := by
            rcases hss with ⟨-, z⟩ | ⟨e, -⟩
            · exact (Cn_sat hcn).mpr z
            · cases e; exact absurd rfl hc_24
          obtain ⟨w1, ⟨g', g1', g2', -⟩, w3, w4, w5⟩ := hEd2.2.2.2
          refine ⟨rfl, Ed_next hw hEd2 (fun k a b => x_row_ne _ _ (by omega)) (by simp [x_row_c, upd]) (by simp [x_row_c, upd]) ⟨?_, ⟨g, ?_, Or.inl hcn, Or.inr (Or.inl ⟨by simp [x_row_c, upd], hcn, hsat⟩)⟩, ?_, ?_, ?_⟩, Or.inl ⟨rfl, hsat, by simp [x_row_c, upd]⟩⟩
          · intro j hj; rw [x_row_ne _ _ (by omega)]; exact w1 j hj
          · intro j hj; rw [x_row_ne _ _ (by omega), hfr (q + 2) (by rcases hw with rfl | rfl <;> omega)]; exact hg1 j hj
          · intro x y hx hy hxy; rw [x_row_ne _ _ (by omega)]; exact w3 x y hx hy hxy
          · unfold CoV at w4 ⊢; rw [x_row_self]; simpa [upd] using w4
          · unfold FiV At at w5 ⊢; rw [x_row_self, x_row_ne _ _ (show q + 3 ≠ q by omega), x_row_ne _ _ (show q + 6 ≠ q by omega)]; simpa [upd] using w5
  · intro μ pc ls st S2 M2 cs sl h; exact h.elim
def q_X5_canSet : x_K := (3, fun as S M => ∃ (q : Nat) (a : Nat) (b : Nat), WP M q ∧ S = SH ∧ a < 6 ∧ b < 6 ∧ a ≠ b ∧ as = [.inr (.inl q), .inl (nI a), .inl (nI b)], fun as S M rv_ S' M' => ∀ (q : Nat) (a : Nat) (b : Nat), a < 6 → b < 6 → a ≠ b → as = [.inr (.inl q), .inl (nI a), .inl (nI b)] → S' = S ∧ Ed M q M' ∧ ∃ v, CanV (tF M (wo q)) a b v ∧ rv_ = some (.inl (nI v)), 0, 0)
theorem r_X5_canSet : ∀ as S M, q_X5_canSet.2.1 as S M → ∃ (k : Nat) (as' : List x_V) (fs : List (Option Nat)), as = .inr (.inl k) :: as' ∧ S[k]? = some (.inl (3, fs)) := by
  rintro as S M ⟨q, a, b, hp, rfl, -, -, -, rfl⟩
  exact ⟨q, _, _, rfl, SHw hp.1⟩
def b_X5_canSet : x_B := [(0, 3, [(.aload_n 0, 1), (.invokevirtual 59, 3), (.ifCond .ne 5, 3), (.iconst 0, 1), (.ireturn, 1)]),
  (9, 3, [(.iload_n 1, 1), (.bipush 6, 2), (.imul, 1), (.iload_n 2, 1), (.iadd, 1), (.istore_n 3, 1), (.aload_n 0, 1), (.getfield 38, 3), (.iload_n 3, 1), (.iaload, 1), (.iconst (-1), 1), (.if_icmp .ne 74, 3), (.iconst 0, 1), (.istore 4, 2), (.iconst 0, 1), (.istore 5, 2)]),
  (32, 6, [(.iload 5, 2), (.bipush 13, 2), (.if_icmp .ge 50, 3), (.aload_n 0, 1), (.getfield 29, 3), (.iload_n 3, 1), (.iaload, 1), (.iload 5, 2), (.ishr, 1), (.iconst 1, 1), (.iand, 1), (.ifCond .eq 30, 3), (.aload_n 0, 1), (.getfield 19, 3), (.aload_n 0, 1), (.getfield 29, 3), (.iload_n 1, 1), (.iload_n 2, 1), (.iload 5, 2), (.invokevirtual 63, 3), (.ifCond .eq 12, 3), (.iload 4, 2), (.iconst 1, 1), (.iload 5, 2), (.ishl, 1), (.ior, 1), (.istore 4, 2)]),
  (80, 6, [(.iinc 5 1, 3), (.goto (-51), 3)]),
  (86, 6, [(.aload_n 0, 1), (.getfield 38, 3), (.iload_n 1, 1), (.iload_n 2, 1), (.iload 4, 2), (.invokestatic 67, 3)]),
  (97, 4, [(.aload_n 0, 1), (.getfield 38, 3), (.iload_n 3, 1), (.iaload, 1), (.ireturn, 1)])]
theorem b_X5_canSet_ok : x_okB cX5_canSet 6 b_X5_canSet = true := by decide +kernel
def X_X5_canSet : x_X := ([(38, 3, 7), (29, 3, 4), (19, 3, 2)], [], [], [], [(178, q_X5_isPossible), (190, q_X3_canHoldWith), (201, q_X1_put)], (0, 0), x_kn, x_kf, 5, false)
theorem X_X5_canSet_ok : x_okT RX5 X_X5_canSet = true := by decide +kernel
theorem k_X5_canSet (l : Launch) : ∀ z ∈ X_X5_canSet.2.2.2.2.1, x_Cal l (x_rm 22 0 0) cX5_canSet RX5 6 z.1 z.2 := List.forall_mem_cons.mpr ⟨x_cal_V (idx := 59) (ci := 3) (n := 0) (c_X5_isPossible l) ⟨by decide, by decide⟩ (by decide +kernel) (by decide +kernel) (by decide +kernel) (by decide +kernel) (by decide +kernel) rfl rfl rfl (by decide +kernel) r_X5_isPossible, List.forall_mem_cons.mpr ⟨x_cal_V (idx := 63) (ci := 1) (n := 4) (c_X3_canHoldWith l) ⟨by decide, by decide⟩ (by decide +kernel) (by decide +kernel) (by decide +kernel) (by decide +kernel) (by decide +kernel) rfl rfl rfl (by decide +kernel) r_X3_canHoldWith, List.forall_mem_cons.mpr ⟨x_cal_S (idx := 67) (c_X1_put l) ⟨by decide, by decide⟩ (by decide +kernel) (by decide +kernel) (by decide +kernel) (by decide +kernel) (by decide +kernel), fun _ h => absurd h List.not_mem_nil⟩⟩⟩
set_option maxHeartbeats 4000000 in
set_option maxRecDepth 100000 in
theorem c_X5_canSet (l : Launch) : x_CT l yX5_canSet cX5_canSet 6 (some .int) 22 q_X5_canSet := by
  refine x_meth (X := X_X5_canSet) (bl := b_X5_canSet) (cut := [32]) (own := RX5) 30 (by decide) rfl X_X5_canSet_ok b_X5_canSet_ok rfl (Nat.le_of_ble_eq_true rfl) (k_X5_canSet l) ?_
  rintro as S M - ⟨q, a, b, hp, rfl, ha, hb, hab, rfl⟩
  have hw := hp.1
  refine ⟨fun μ pc ls st S' M' cs sl => ∃ (fd r : Nat), r ≤ 13 ∧ fd < 8192 ∧ Ed M q M' ∧ M' q 10 = nI 1 ∧ M' (q + 5) (a * 6 + b) = -(nI 1) ∧ (∀ t, t < 13 → (fd.testBit t = true ↔ t < r ∧ Rl (tF M (wo q)) a b t)) ∧ pc = 32 ∧ st = [] ∧ S' = SH ∧ cs = 0 ∧ sl = 0 ∧ ls = [.inr (.inl q), .inl (nI a), .inl (nI b), .inl (nI a * nI 6 + nI b), .inl (nI fd), .inl (nI r)] ∧ μ = 13 - r, ?_, ?_⟩
  · skip
    refine xt_blk rfl rfl (by dsimp only [List.take]) ?_
    refine xt_aln0 rfl (by first | decide | omega | assumption | (have := isWy_lt hw; omega)) ?_
    refine xt_v1 (key := 178) (q := q_X5_isPossible) rfl rfl rfl rfl rfl ⟨Nat.le_of_ble_eq_true rfl, Nat.le_of_ble_eq_true rfl⟩ ⟨q, hp, rfl, rfl⟩ (fun rv_ S1 M1 hq_1 => ?_)
    obtain ⟨eS_, hEd, hpos⟩ := hq_1 q rfl
    replace eS_ := eS_.symm
    subst eS_
    have hex : ∃ v, rv_ = some (.inl v) := by rcases hpos with ⟨e, -⟩ | ⟨e, -⟩ <;> exact ⟨_, e⟩
    obtain ⟨v, rfl⟩ := hex
    try dsimp only [Option.toList, List.cons_append, List.nil_append]
    refine xt_ne (t := 9) rfl (fun hc_4 => ?_) (fun hc_4 => ?_)
    · skip
      refine xt_blk rfl rfl (by dsimp only [List.take]) ?_
      refine xt_iln1 rfl ?_
      refine xt_bi ?_
      refine xt_mul ?_
      refine xt_iln2 rfl ?_
      refine xt_add ?_
      refine xt_isn3 rfl (by dsimp only [x_sto]) ?_
      refine xt_aln0 rfl (by first | decide | omega | assumption | (have := isWy_lt hw; omega)) ?_
      refine xt_gfr (q := (3, 7)) rfl (by first | exact SHw hw | exact SHw1 hw | exact SHw2 hw | exact SHw3 hw | exact SHw4 hw | exact SHw5 hw | exact SHw6 hw | rfl | assumption) rfl ?_
      refine xt_iln3 rfl ?_
      refine xt_ial (by first | exact SHw hw | exact SHw1 hw | exact SHw2 hw | exact SHw3 hw | exact SHw4 hw | exact SHw5 hw | exact SHw6 hw | rfl | assumption) (n_ixi ha hb) ?_
      refine xt_icm rfl ?_
      refine xt_cne (t := 97) rfl (fun hc_23 => ?_) (fun hc_23 => ?_)
      · skip
        refine xt_blk rfl rfl (by dsimp only [List.take]) ?_
        refine xt_aln0 rfl (by first | decide | omega | assumption | (have := isWy_lt hw; omega)) ?_
        refine xt_gfr (q := (3, 7)) rfl (by first | exact SHw hw | exact SHw1 hw | exact SHw2 hw | exact SHw3 hw | exact SHw4 hw | exact SHw5 hw | exact SHw6 hw | rfl | assumption) rfl ?_
        refine xt_iln3 rfl ?_
        refine xt_ial (by first | exact SHw hw | exact SHw1 hw | exact SHw2 hw | exact SHw3 hw | exact SHw4 hw | exact SHw5 hw | exact SHw6 hw | rfl | assumption) (n_ixi ha hb) ?_
        refine xt_ri rfl (Nat.le_refl _) ?_
        intro q2 a2 b2 h2a h2b h2ab e2
        simp only [List.cons.injEq, Sum.inr.injEq, Sum.inl.injEq, and_true] at e2
        obtain ⟨rfl, ea, eb⟩ := e2
        rw [nI_eq (by omega) (by omega)] at ea eb
        subst ea eb
        rw [n_ixc ha hb] at hc_23 ⊢
        rcases hEd.2.2.2.2.2.1 a b ha hb hab with e | ⟨v, e, hv⟩
        · exact absurd e hc_23
        · exact ⟨rfl, hEd, v, hv, by rw [e]⟩
      · skip
        refine xt_ic ?_
        refine xt_ist rfl (by dsimp only [x_sto]) ?_
        refine xt_ic ?_
        refine xt_ist rfl (by dsimp only [x_sto]) ?_
        refine xt_nil (t := 32) rfl ?_
        refine xt_cut rfl rfl (by dsimp only [List.take]) ?_
        refine ⟨_, 0, 0, by omega, by omega, hEd, ?_, ?_, ?_, rfl, rfl, rfl, rfl, rfl, rfl, rfl⟩
        · rcases hpos with ⟨-, -, e⟩ | ⟨e, -⟩
          · exact e
          · cases e; exact absurd rfl hc_4
        · rw [n_ixc ha hb] at hc_23; exact hc_23
        · intro t ht; simp
    · skip
      refine xt_ic ?_
      refine xt_ri rfl (Nat.le_refl _) ?_
      intro q2 a2 b2 h2a h2b h2ab e2
      simp only [List.cons.injEq, Sum.inr.injEq, Sum.inl.injEq, and_true] at e2
      obtain ⟨rfl, ea, eb⟩ := e2
      rw [nI_eq (by omega) (by omega)] at ea eb
      subst ea eb
      rcases hpos with ⟨e, -⟩ | ⟨-, z⟩
      · cases e; exact absurd hc_4 (by decide)
      · exact ⟨rfl, hEd, 0, CanV_no z, rfl⟩
  · rintro μ pc ls st S2 M2 cs sl (⟨fd, r, hr, hfd, hEd, hps, hcu, hfb, rfl, rfl, rfl, rfl, rfl, rfl, rfl⟩)
    · refine ⟨_, rfl, ?_⟩
      refine xt_ild rfl ?_
      refine xt_bi ?_
      refine xt_cge (t := 86) rfl (fun hc_36 => ?_) (fun hc_36 => ?_)
      · skip
        refine xt_blk rfl rfl (by dsimp only [List.take]) ?_
        refine xt_aln0 rfl (by first | decide | omega | assumption | (have := isWy_lt hw; omega)) ?_
        refine xt_gfr (q := (3, 7)) rfl (by first | exact SHw hw | exact SHw1 hw | exact SHw2 hw | exact SHw3 hw | exact SHw4 hw | exact SHw5 hw | exact SHw6 hw | rfl | assumption) rfl ?_
        refine xt_iln1 rfl ?_
        refine xt_iln2 rfl ?_
        refine xt_ild rfl ?_
        refine xt_v4 (key := 201) (q := q_X1_put) rfl rfl rfl rfl rfl ⟨Nat.le_of_ble_eq_true rfl, Nat.le_of_ble_eq_true rfl⟩ ⟨q + 5, a, b, fd, by have := isWy_lt hw; omega, ha, hb, hfd, SHw5 hw, rfl⟩ (fun rv_ S1 M1 hq_94 => ?_)
        obtain ⟨eS_, eM_, rfl⟩ := hq_94 (q + 5) a b fd ha hb hfd rfl
        replace eS_ := eS_.symm
        replace eM_ := eM_.symm
        subst eS_ eM_
        try dsimp only [Option.toList, List.cons_append, List.nil_append]
        refine xt_nil (t := 97) rfl ?_
        refine xt_blk rfl rfl (by dsimp only [List.take]) ?_
        refine xt_aln0 rfl (by first | decide | omega | assumption | (have := isWy_lt hw; omega)) ?_
        refine xt_gfr (q := (3, 7)) rfl (by first | exact SHw hw | exact SHw1 hw | exact SHw2 hw | exact SHw3 hw | exact SHw4 hw | exact SHw5 hw | exact SHw6 hw | rfl | assumption) rfl ?_
        refine xt_iln3 rfl ?_
        refine xt_ial (by first | exact SHw hw | exact SHw1 hw | exact SHw2 hw | exact SHw3 hw | exact SHw4 hw | exact SHw5 hw | exact SHw6 hw | rfl | assumption) (n_ixi ha hb) ?_
        refine xt_ri rfl (Nat.le_refl _) ?_
        have hr13 : r = 13 := by rw [nI_leI (by omega) (by omega)] at hc_36; omega
        subst hr13
        have hcv : CanV (tF M (wo q)) a b fd := ⟨hfd, fun t ht => by rw [hfb t ht]; exact ⟨fun h => h.2, fun h => ⟨ht, h⟩⟩⟩
        intro q2 a2 b2 h2a h2b h2ab e2
        simp only [List.cons.injEq, Sum.inr.injEq, Sum.inl.injEq, and_true] at e2
        obtain ⟨rfl, ea, eb⟩ := e2
        rw [nI_eq (by omega) (by omega)] at ea eb
        subst ea eb
        obtain ⟨w1, ⟨g, g1, g2, g3⟩, w3, w4, w5⟩ := hEd.2.2.2
        refine ⟨rfl, Ed_next hw hEd (fun k a b => x_row_ne _ _ (by omega)) (by rw [x_row_ne _ _ (by omega)]) (by rw [x_row_ne _ _ (by omega)]) ⟨?_, ⟨g, ?_, g2, ?_⟩, ?_, ?_, ?_⟩, fd, hcv, ?_⟩
        · intro j hj; rw [x_row_ne _ _ (by omega)]; exact w1 j hj
        · intro j hj; rw [x_row_ne _ _ (by omega)]; exact g1 j hj
        · unfold PoV; rw [x_row_ne _ _ (by omega)]; exact g3
        · intro x y hx hy hxy
          rw [x_row_self]
          unfold upd
          by_cases q1 : x * 6 + y = b * 6 + a
          · have ex : x = b := by omega
            have ey : y = a := by omega
            subst ex ey
            rw [if_pos rfl]
            exact Or.inr ⟨tn fd, rfl, CanV_turn ha hb hcv⟩
          · rw [if_neg q1]
            by_cases q2 : x * 6 + y = a * 6 + b
            · have ex : x = a := by omega
              have ey : y = b := by omega
              subst ex ey
              rw [if_pos rfl]
              exact Or.inr ⟨fd, rfl, hcv⟩
            · rw [if_neg q2]; exact w3 x y hx hy hxy
        · unfold CoV; rw [x_row_ne _ _ (by omega)]; exact w4
        · unfold FiV At; rw [x_row_ne _ _ (show q ≠ q + 5 by omega), x_row_ne _ _ (show q + 3 ≠ q + 5 by omega), x_row_ne _ _ (show q + 6 ≠ q + 5 by omega)]; exact w5
        · rw [x_row_self, n_ixc ha hb]
          unfold upd
          rw [if_neg (by omega), if_pos rfl]
      · skip
        have hr13 : r < 13 := by rw [nI_leI (by omega) (by omega)] at hc_36; omega
        obtain ⟨g, hg1, hcn⟩ := Ed_cn hEd (Or.inl hps)
        have hgl := (hg1 (a * 6 + b) (by omega)).1
        have hbn : nI (g (a * 6 + b)) >>> (nI r &&& 31) &&& nI 1 = nI (bi (g (a * 6 + b)) r) := n_bit (by omega) (by omega)
        refine xt_aln0 rfl (by first | decide | omega | assumption | (have := isWy_lt hw; omega)) ?_
        refine xt_gfr (q := (3, 4)) rfl (by first | exact SHw hw | exact SHw1 hw | exact SHw2 hw | exact SHw3 hw | exact SHw4 hw | exact SHw5 hw | exact SHw6 hw | rfl | assumption) rfl ?_
        refine xt_iln3 rfl ?_
        refine xt_ial (by first | exact SHw hw | exact SHw1 hw | exact SHw2 hw | exact SHw3 hw | exact SHw4 hw | exact SHw5 hw | exact SHw6 hw | rfl | assumption) (n_ixi ha hb) ?_
        refine xt_ild rfl ?_
        refine xt_shr ?_
        refine xt_ic ?_
        refine xt_and ?_
        refine xt_eq (t := 80) rfl (fun hc_50 => ?_) (fun hc_50 => ?_)
        · skip
          have hbit : ¬ (g (a * 6 + b)).testBit r = true := by
            rw [n_ixc ha hb, (hg1 _ (by omega)).2, hbn, n_eq0 (by have := bi_lt (g (a * 6 + b)) r; omega)] at hc_50
            rw [← bi_tb]; omega
          refine xt_blk rfl rfl (by dsimp only [List.take]) ?_
          refine xt_inc rfl (by dsimp only [x_sto]) ?_
          refine xt_goto (t := 32) rfl ?_
          refine xt_cut rfl rfl (by dsimp only [List.take]) ?_
          refine ⟨13 - (r + 1), by omega, fd, r + 1, by omega, hfd, hEd, hps, hcu, ?_, rfl, rfl, rfl, rfl, rfl, by rw [nI_add], rfl⟩
          intro t ht
          rw [hfb t ht]
          refine ⟨fun h => ⟨by omega, h.2⟩, fun h => ⟨?_, h.2⟩⟩
          by_cases e : t = r
          · subst e; exact absurd (Rl_bit ha hb hab ((Rl_mx hcn.2.2.2.2 a b t).mp h.2)) hbit
          · omega
        · skip
          have hbit : (g (a * 6 + b)).testBit r = true := by
            rw [n_ixc ha hb, (hg1 _ (by omega)).2, hbn, n_eq0 (by have := bi_lt (g (a * 6 + b)) r; omega)] at hc_50
            rw [← bi_tb]; have := bi_lt (g (a * 6 + b)) r; omega
          refine xt_aln0 rfl (by first | decide | omega | assumption | (have := isWy_lt hw; omega)) ?_
          refine xt_gfr (q := (3, 2)) rfl (by first | exact SHw hw | exact SHw1 hw | exact SHw2 hw | exact SHw3 hw | exact SHw4 hw | exact SHw5 hw | exact SHw6 hw | rfl | assumption) rfl ?_
          refine xt_aln0 rfl (by first | decide | omega | assumption | (have := isWy_lt hw; omega)) ?_
          refine xt_gfr (q := (3, 4)) rfl (by first | exact SHw hw | exact SHw1 hw | exact SHw2 hw | exact SHw3 hw | exact SHw4 hw | exact SHw5 hw | exact SHw6 hw | rfl | assumption) rfl ?_
          refine xt_iln1 rfl ?_
          refine xt_iln2 rfl ?_
          refine xt_ild rfl ?_
          refine xt_v5 (key := 190) (q := q_X3_canHoldWith) rfl rfl rfl rfl rfl ⟨Nat.le_of_ble_eq_true rfl, Nat.le_of_ble_eq_true rfl⟩ ⟨q + 2, a, b, r, g, by have := isWy_lt hw; omega, rfl, SHw2 hw, ha, hb, hab, hr13, hg1, hcn.2.1, hcn.2.2.1, hcn.2.2.2.1, hbit, rfl⟩ (fun rv_ S1 M1 hq_65 => ?_)
          obtain ⟨eS_, hfr, hss⟩ := hq_65 (q + 2) a b r g ha hb hr13 hg1 rfl
          replace eS_ := eS_.symm
          subst eS_
          have hEd2 := Ed_lev hw hEd hfr
          have hps2 : M1 q 10 = nI 1 := by rw [hfr q (by rcases hw with rfl | rfl <;> omega)]; exact hps
          have hex : ∃ v, rv_ = some (.inl v) := by rcases hss with ⟨e, -⟩ | ⟨e, -⟩ <;> exact ⟨_, e⟩
          obtain ⟨v, rfl⟩ := hex
          try dsimp only [Option.toList, List.cons_append, List.nil_append]
          refine xt_eq (t := 80) rfl (fun hc_68 => ?_) (fun hc_68 => ?_)
          · skip
            refine xt_blk rfl rfl (by dsimp only [List.take]) ?_
            refine xt_inc rfl (by dsimp only [x_sto]) ?_
            refine xt_goto (t := 32) rfl ?_
            refine xt_cut rfl rfl (by dsimp only [List.take]) ?_
            have hno : ¬ Rl (tF M (wo q)) a b r := by
              rcases hss with ⟨e, -⟩ | ⟨-, z⟩
              · cases e; exact absurd hc_68 (by decide)
              · exact fun y => z ((Rl_fix hcn.2.1 ha hb hab hr13 hbit).mpr ((Rl_mx hcn.2.2.2.2 a b r).mp y))
            refine ⟨13 - (r + 1), by omega, fd, r + 1, by omega, hfd, hEd2, hps2, by rw [hfr (q + 5) (by rcases hw with rfl | rfl <;> omega)]; exact hcu, ?_, rfl, rfl, rfl, rfl, rfl, by rw [nI_add], rfl⟩
            intro t ht
            rw [hfb t ht]
            refine ⟨fun h => ⟨by omega, h.2⟩, fun h => ⟨?_, h.2⟩⟩
            by_cases e : t = r
            · subst e; exact absurd h.2 hno
            · omega
          · skip
            refine xt_ild rfl ?_
            refine xt_ic ?_
            refine xt_ild rfl ?_
            refine xt_shl ?_
            refine xt_or ?_
            refine xt_ist rfl (by dsimp only [x_sto]) ?_
            refine xt_nil (t := 80) rfl ?_
            refine xt_blk rfl rfl (by dsimp only [List.take]) ?_
            refine xt_inc rfl (by dsimp only [x_sto]) ?_
            refine xt_goto (t := 32) rfl ?_
            refine xt_cut rfl rfl (by dsimp only [List.take]) ?_
            have hyes : Rl (tF M (wo q)) a b r := by
              rcases hss with ⟨-, z, -⟩ | ⟨e, -⟩
              · exact (Rl_mx hcn.2.2.2.2 a b r).mpr ((Rl_fix hcn.2.1 ha hb hab hr13 hbit).mp z)
              · cases e; exact absurd rfl hc_68
            have hpw : 2 ^ r < 8192 := Nat.pow_lt_pow_right (by decide) hr13
            have hsl : nI 1 <<< (nI r &&& 31) = nI (2 ^ r) := by rw [n_shl (by omega) (by omega), Nat.one_mul]
            refine ⟨13 - (r + 1), by omega, fd ||| 2 ^ r, r + 1, by omega, n_lt_or (k := 13) hfd hpw, hEd2, hps2, by rw [hfr (q + 5) (by rcases hw with rfl | rfl <;> omega)]; exact hcu, ?_, rfl, rfl, rfl, rfl, rfl, by rw [nI_add, hsl, n_or], rfl⟩
            intro t ht
            rw [Nat.testBit_or, Nat.testBit_two_pow, Bool.or_eq_true, hfb t ht, decide_eq_true_iff]
            refine ⟨fun h => ?_, fun h => ?_⟩
            · rcases h with h | h
              · exact ⟨by omega, h.2⟩
              · subst h; exact ⟨by omega, hyes⟩
            · by_cases e : t = r
              · exact Or.inr e.symm
              · exact Or.inl ⟨by omega, h.2⟩
