/-! NETS: close -/
def cSt (k : Nat) (f : Nat → Nat) (M : x_M) (g : Nat → Nat) (gI : Nat → Int32) (M' : x_M) : Prop := M' = x_row M k gI ∧ (∀ j, j < 36 → gI j = nI (g j)) ∧ Bd g ∧ Sy g ∧ Mx f g
def fsT (p : Nat) : Nat := x_k3.getD p 0
def scT (p : Nat) : Nat := x_k4.getD p 0
theorem fs_ok : ∀ p, p < 15 → fsT p < 6 ∧ scT p < 6 ∧ fsT p ≠ scT p ∧ pr (fsT p) (scT p) = p := by decide
def clr (w p : Nat) : Nat := w &&& (2 ^ p ^^^ (2 ^ 32 - 1))
theorem clr_tb {w p i : Nat} (hi : i < 32) : (clr w p).testBit i = (w.testBit i && !decide (p = i)) := by
  unfold clr
  rw [Nat.testBit_and, Nat.testBit_xor, Nat.testBit_two_pow_sub_one, Nat.testBit_two_pow]
  simp [hi]
theorem clr_le (w p : Nat) : clr w p ≤ w := Nat.and_le_left
theorem tb15 {w : Nat} (hw : w < 2 ^ 15) : w.testBit 15 = false := Nat.testBit_lt_two_pow hw
theorem lt15 {w : Nat} (hw : w < 2 ^ 16) (h : w.testBit 15 = false) : w < 2 ^ 15 := by
  apply Nat.lt_pow_two_of_testBit
  intro i hi
  rcases Nat.lt_or_ge i 16 with q | q
  · rw [show i = 15 by omega]; exact h
  · exact Nat.testBit_lt_two_pow (Nat.lt_of_lt_of_le hw (Nat.pow_le_pow_right (by decide) q))
theorem eq0_15 {w : Nat} (hw : w < 2 ^ 15) (h : ∀ i, i < 15 → w.testBit i = false) : w = 0 := by
  apply Nat.eq_of_testBit_eq
  intro i
  rw [Nat.zero_testBit]
  rcases Nat.lt_or_ge i 15 with q | q
  · exact h i q
  · exact Nat.testBit_lt_two_pow (Nat.lt_of_lt_of_le hw (Nat.pow_le_pow_right (by decide) q))
theorem upd_nw {gI : Nat → Int32} {g : Nat → Nat} (h : ∀ j, j < 36 → gI j = nI (g j)) (a b v : Nat) : ∀ j, j < 36 → upd (upd gI (a * 6 + b) (nI v)) (b * 6 + a) (nI (tn v)) j = nI (nw g a b v j) := by
  intro j hj
  unfold upd nw
  split
  · rfl
  · split
    · rfl
    · exact h j hj
theorem nr_of {k a m b : Nat} {M M1 : x_M} {g : Nat → Nat} {gI : Nat → Int32} {rv : Option x_V} (hg : ∀ j, j < 36 → gI j = nI (g j))
    (h : (lft g a m b = 0 ∧ M1 = x_row M k gI ∧ rv = some (.inl (nI 32768))) ∨ (lft g a m b ≠ 0 ∧ lft g a m b = g (a * 6 + b) ∧ M1 = x_row M k gI ∧ rv = some (.inl (nI 0))) ∨ (lft g a m b ≠ 0 ∧ lft g a m b ≠ g (a * 6 + b) ∧ M1 = x_row (x_row M k gI) k (upd (upd ((x_row M k gI) k) (a * 6 + b) (nI (lft g a m b))) (b * 6 + a) (nI (tn (lft g a m b)))) ∧ rv = some (.inl (nI (2 ^ pr a b))))) :
    ∃ r1 g1 gI1, M1 = x_row M k gI1 ∧ (∀ j, j < 36 → gI1 j = nI (g1 j)) ∧ rv = some (.inl (nI r1)) ∧ NR g a m b r1 g1 := by
  rcases h with ⟨h0, h1, h2⟩ | ⟨h0, h1, h2, h3⟩ | ⟨h0, h1, h2, h3⟩
  · exact ⟨2 ^ 15, g, gI, h1, hg, h2, Or.inl ⟨h0, rfl, rfl⟩⟩
  · exact ⟨0, g, gI, h2, hg, h3, Or.inr (Or.inl ⟨h0, h1, rfl, rfl⟩)⟩
  · rw [x_row_self, x_row_row] at h2
    exact ⟨2 ^ pr a b, nw g a b (lft g a m b), _, h2, upd_nw hg a b _, h3, Or.inr (Or.inr ⟨h0, h1, rfl, rfl⟩)⟩
theorem Le_cg {f f2 h : Nat → Nat} (e : ∀ j, j < 36 → f j = f2 j) (hl : Le h f) : Le h f2 := fun a b ha hb hab => by rw [← e _ (by omega)]; exact hl a b ha hb hab
theorem Mx_cg {f f2 g : Nat → Nat} (e : ∀ j, j < 36 → f j = f2 j) (h : Mx f g) : Mx f2 g := ⟨Le_cg e h.1, fun h1 a1 a2 a3 => h.2.1 h1 a1 a2 (Le_cg (fun j hj => (e j hj).symm) a3), fun x hx => (h.2.2 x hx).trans (e _ (by omega))⟩
theorem Fail_cg {f f2 : Nat → Nat} (e : ∀ j, j < 36 → f j = f2 j) (h : Fail f) : Fail f2 := fun h1 a1 a2 a3 => h h1 a1 a2 (Le_cg (fun j hj => (e j hj).symm) a3)
theorem Mx_rf (f : Nat → Nat) : Mx f f := ⟨fun _ _ _ _ _ => sb_rf _, fun _ _ _ h => h, fun _ _ => rfl⟩
theorem cl_tot {t2 t rd p w r : Nat} (h : t + 2 * (rd + 1) ≤ 390 ∨ (t + 2 * rd ≤ 390 ∧ (w.testBit 15 = false → ∀ i, i < p + 1 → w.testBit i = false))) (h2 : (t2 = t ∧ (r.testBit 15 = false → r = 0)) ∨ t2 + 2 ≤ t) :
    t2 + 2 * (rd + 1) ≤ 390 ∨ (t2 + 2 * rd ≤ 390 ∧ ((w ||| r).testBit 15 = false → ∀ i, i < p + 1 → (w ||| r).testBit i = false)) := by
  rcases h with h | ⟨h, h3⟩ <;> rcases h2 with ⟨rfl, h4⟩ | h2
  · exact Or.inl h
  · exact Or.inl (by omega)
  · refine Or.inr ⟨h, fun q i hi => ?_⟩
    obtain ⟨q1, q2⟩ := or_f q
    rw [h4 q2, Nat.or_zero]
    exact h3 q1 i hi
  · exact Or.inl (by omega)
def q_X1_close : x_K := (2, fun as S M => ∃ (k w : Nat) (f : Nat → Nat), k < 1000 ∧ w < 2 ^ 15 ∧ S[k]? = some (.inr (.inl (false, 36))) ∧ (∀ j, j < 36 → f j < 8192 ∧ M k j = nI (f j)) ∧ Sy f ∧ IV f w ∧ NE f w ∧ as = [.inr (.inl k), .inl (nI w)],
  fun as S M rv_ S' M' => ∀ (k w : Nat) (f : Nat → Nat), (∀ j, j < 36 → f j < 8192 ∧ M k j = nI (f j)) → as = [.inr (.inl k), .inl (nI w)] →
    S' = S ∧ ∃ gI, M' = x_row M k gI ∧ ((rv_ = some (.inl (nI 1)) ∧ ∃ g, Bd g ∧ (∀ j, j < 36 → gI j = nI (g j)) ∧ Sy g ∧ Clo g ∧ NE g 0 ∧ Mx f g) ∨ (rv_ = some (.inl (nI 0)) ∧ (∀ j, j < 36 → gI j = nI 0) ∧ Fail f)), 0, 0)
def b_X1_close : x_B := [(0, 2, [(.iload_n 1, 1), (.istore_n 2, 1), (.iconst 0, 1), (.istore_n 3, 1)]),
  (4, 4, [(.iload_n 3, 1), (.sipush 210, 3), (.if_icmp .ge 131, 3), (.iload_n 2, 1), (.ifCond .eq 127, 3), (.iconst 0, 1), (.istore 4, 2)]),
  (18, 5, [(.iload 4, 2), (.bipush 15, 2), (.if_icmp .ge 111, 3), (.iload_n 2, 1), (.iload 4, 2), (.ishr, 1), (.iconst 1, 1), (.iand, 1), (.ifCond .eq 96, 3), (.getstatic 11, 3), (.iload 4, 2), (.iaload, 1), (.istore 5, 2), (.getstatic 15, 3), (.iload 4, 2), (.iaload, 1), (.istore 6, 2), (.iload_n 2, 1), (.iconst 1, 1), (.iload 4, 2), (.ishl, 1), (.iconst (-1), 1), (.ixor, 1), (.iand, 1), (.istore_n 2, 1), (.iconst 0, 1), (.istore 7, 2)]),
  (62, 8, [(.iload 7, 2), (.bipush 6, 2), (.if_icmp .ge 47, 3), (.iload 7, 2), (.iload 5, 2), (.if_icmp .eq 34, 3), (.iload 7, 2), (.iload 6, 2), (.if_icmp .eq 27, 3), (.iload_n 2, 1), (.aload_n 0, 1), (.iload 5, 2), (.iload 6, 2), (.iload 7, 2), (.invokestatic 30, 3), (.aload_n 0, 1), (.iload 6, 2), (.iload 5, 2), (.iload 7, 2), (.invokestatic 30, 3), (.ior, 1), (.ior, 1), (.istore_n 2, 1)]),
  (107, 8, [(.iinc 7 1, 3), (.goto (-48), 3)]),
  (113, 8, [(.iload_n 2, 1), (.ldc 34, 2), (.iand, 1), (.ifCond .eq 10, 3), (.aload_n 0, 1), (.iconst 0, 1), (.invokestatic 18, 3), (.iconst 0, 1), (.ireturn, 1)]),
  (127, 5, [(.iinc 4 1, 3), (.goto (-112), 3)]),
  (133, 5, [(.iinc 3 1, 3), (.goto (-132), 3)]),
  (139, 4, [(.iconst 1, 1), (.ireturn, 1)])]
theorem b_X1_close_ok : x_okB cX1_close 8 b_X1_close = true := by decide +kernel
def X_X1_close : x_X := ([], [(11, 3), (15, 4)], [(34, 32768)], [], [(90, q_X1_narrow), (54, q_J7_fill)], (0, 0), x_kn, x_kf, 5, false)
theorem X_X1_close_ok : x_okT RX1 X_X1_close = true := by decide +kernel
theorem k_X1_close (l : Launch) : ∀ z ∈ X_X1_close.2.2.2.2.1, x_Cal l (x_rm 3 0 0) cX1_close RX1 8 z.1 z.2 := List.forall_mem_cons.mpr ⟨x_cal_S (idx := 30) (c_X1_narrow l) ⟨by decide, by decide⟩ (by decide +kernel) (by decide +kernel) (by decide +kernel) (by decide +kernel) (by decide +kernel), List.forall_mem_cons.mpr ⟨x_cal_S (idx := 18) (c_J7_fill l) ⟨by decide, by decide⟩ (by decide +kernel) (by decide +kernel) (by decide +kernel) (by decide +kernel) (by decide +kernel), fun _ h => absurd h List.not_mem_nil⟩⟩
set_option maxHeartbeats 4000000 in
set_option maxRecDepth 100000 in
theorem c_X1_close (l : Launch) : x_CT l yX1_close cX1_close 8 (some .boolean) 3 q_X1_close := by
  refine x_meth (X := X_X1_close) (bl := b_X1_close) (cut := [4, 18, 62]) (own := RX1) 30 (by decide) rfl X_X1_close_ok b_X1_close_ok rfl (Nat.le_of_ble_eq_true rfl) (k_X1_close l) ?_
  rintro as S M - ⟨k, w, f, hk, hw, hsh, hf, hSy, hIV, hNE, rfl⟩
  refine ⟨fun μ pc ls st S' M' cs sl => (∃ rd w1 g gI, rd ≤ 210 ∧ w1 < 2 ^ 15 ∧ cSt k f M g gI M' ∧ IV g w1 ∧ NE g w1 ∧ (w1 = 0 ∨ tot g + 2 * rd ≤ 390) ∧ pc = 4 ∧ st = [] ∧ S' = S ∧ cs = 0 ∧ sl = 0 ∧ ls = [.inr (.inl k), .inl (nI w), .inl (nI w1), .inl (nI rd)] ∧ μ = (210 - rd) * 2000) ∨ (∃ rd p w1 g gI, rd < 210 ∧ p ≤ 15 ∧ w1 < 2 ^ 15 ∧ cSt k f M g gI M' ∧ IV g w1 ∧ NE g w1 ∧ (tot g + 2 * (rd + 1) ≤ 390 ∨ (tot g + 2 * rd ≤ 390 ∧ ∀ i, i < p → w1.testBit i = false)) ∧ pc = 18 ∧ st = [] ∧ S' = S ∧ cs = 0 ∧ sl = 0 ∧ ls = [.inr (.inl k), .inl (nI w), .inl (nI w1), .inl (nI rd), .inl (nI p)] ∧ μ = (210 - rd) * 2000 - 1 - p * 100) ∨ (∃ rd p m w1 g gI, rd < 210 ∧ p < 15 ∧ m ≤ 6 ∧ w1 < 2 ^ 16 ∧ cSt k f M g gI M' ∧ ((w1.testBit 15 = true → Fail f) ∧ (w1.testBit 15 = false → IVp g w1 (fsT p) (scT p) m ∧ NEp g w1 (fsT p) (scT p) m)) ∧ (tot g + 2 * (rd + 1) ≤ 390 ∨ (tot g + 2 * rd ≤ 390 ∧ (w1.testBit 15 = false → ∀ i, i < p + 1 → w1.testBit i = false))) ∧ pc = 62 ∧ st = [] ∧ S' = S ∧ cs = 0 ∧ sl = 0 ∧ ls = [.inr (.inl k), .inl (nI w), .inl (nI w1), .inl (nI rd), .inl (nI p), .inl (nI (fsT p)), .inl (nI (scT p)), .inl (nI m)] ∧ μ = (210 - rd) * 2000 - 1 - p * 100 - 1 - m), ?_, ?_⟩
  · skip
    refine xt_blk rfl rfl (by dsimp only [List.take]) ?_
    refine xt_iln1 rfl ?_
    refine xt_isn2 rfl (by dsimp only [x_sto]) ?_
    refine xt_ic ?_
    refine xt_isn3 rfl (by dsimp only [x_sto]) ?_
    refine xt_nil (t := 4) rfl ?_
    refine xt_cut rfl rfl (by dsimp only [List.take]) ?_
    exact ⟨_, Or.inl ⟨0, w, f, M k, by omega, hw, ⟨(x_row_id M k).symm, fun j hj => (hf j hj).2, fun j hj => (hf j hj).1, hSy, Mx_rf f⟩, hIV, hNE, Or.inr (by have := tot_le f; omega), rfl, rfl, rfl, rfl, rfl, rfl, rfl⟩⟩
  · rintro μ pc ls st S2 M2 cs sl (⟨rd, w1, g, gI, hrd, hw1, hst, hIV1, hNE1, ht, rfl, rfl, rfl, rfl, rfl, rfl, rfl⟩ | ⟨rd, p, w1, g, gI, hrd, hp, hw1, hst, hIV1, hNE1, ht, rfl, rfl, rfl, rfl, rfl, rfl, rfl⟩ | ⟨rd, p, m, w1, g, gI, hrd, hp, hm, hw1, hst, hfl, ht, rfl, rfl, rfl, rfl, rfl, rfl, rfl⟩)
    · refine ⟨_, rfl, ?_⟩
      refine xt_iln3 rfl ?_
      refine xt_si ?_
      refine xt_cge (t := 139) rfl (fun hc_8 => ?_) (fun hc_8 => ?_)
      · skip
        refine xt_blk rfl rfl (by dsimp only [List.take]) ?_
        refine xt_ic ?_
        refine xt_rz (by decide) rfl (Nat.le_refl _) ?_
        have hw0 : w1 = 0 := by
          have h210 : rd = 210 := by rw [nI_leI (by omega) (by omega)] at hc_8; omega
          omega
        intro k2 w2 f2 hf2 e2
        simp only [List.cons.injEq, Sum.inl.injEq, Sum.inr.injEq, and_true] at e2
        obtain ⟨rfl, -⟩ := e2
        have ef : ∀ j, j < 36 → f j = f2 j := fun j hj => by
          have h1 := (hf j hj).2
          rw [(hf2 j hj).2] at h1
          exact ((nI_eq (by have := (hf2 j hj).1; omega) (by have := (hf j hj).1; omega)).mp h1).symm
        
        subst hw0
        exact ⟨rfl, gI, hst.1, Or.inl ⟨rfl, g, hst.2.2.1, hst.2.1, hst.2.2.2.1, fun x y z hd => hIV1 x y z hd (Nat.zero_testBit _) (Nat.zero_testBit _), hNE1, Mx_cg ef hst.2.2.2.2⟩⟩
      · skip
        refine xt_iln2 rfl ?_
        refine xt_eq (t := 139) rfl (fun hc_12 => ?_) (fun hc_12 => ?_)
        · skip
          refine xt_blk rfl rfl (by dsimp only [List.take]) ?_
          refine xt_ic ?_
          refine xt_rz (by decide) rfl (Nat.le_refl _) ?_
          have hw0 : w1 = 0 := (n_eq0 (by omega)).mp hc_12
          intro k2 w2 f2 hf2 e2
          simp only [List.cons.injEq, Sum.inl.injEq, Sum.inr.injEq, and_true] at e2
          obtain ⟨rfl, -⟩ := e2
          have ef : ∀ j, j < 36 → f j = f2 j := fun j hj => by
            have h1 := (hf j hj).2
            rw [(hf2 j hj).2] at h1
            exact ((nI_eq (by have := (hf2 j hj).1; omega) (by have := (hf j hj).1; omega)).mp h1).symm
          
          subst hw0
          exact ⟨rfl, gI, hst.1, Or.inl ⟨rfl, g, hst.2.2.1, hst.2.1, hst.2.2.2.1, fun x y z hd => hIV1 x y z hd (Nat.zero_testBit _) (Nat.zero_testBit _), hNE1, Mx_cg ef hst.2.2.2.2⟩⟩
        · skip
          refine xt_ic ?_
          refine xt_ist rfl (by dsimp only [x_sto]) ?_
          refine xt_nil (t := 18) rfl ?_
          refine xt_cut rfl rfl (by dsimp only [List.take]) ?_
          have hrd : rd < 210 := by rw [nI_leI (by omega) (by omega)] at hc_8; omega
          have hw0 : w1 ≠ 0 := fun q => hc_12 (by rw [q]; rfl)
          exact ⟨(210 - rd) * 2000 - 1, by omega, Or.inr (Or.inl ⟨rd, 0, w1, g, gI, hrd, by omega, hw1, hst, hIV1, hNE1, Or.inr ⟨by rcases ht with q | q; exact absurd q hw0; exact q, fun i hi => by omega⟩, rfl, rfl, rfl, rfl, rfl, rfl, by omega⟩)⟩
    · refine ⟨_, rfl, ?_⟩
      refine xt_ild rfl ?_
      refine xt_bi ?_
      refine xt_cge (t := 133) rfl (fun hc_22 => ?_) (fun hc_22 => ?_)
      · skip
        refine xt_blk rfl rfl (by dsimp only [List.take]) ?_
        refine xt_inc rfl (by dsimp only [x_sto]) ?_
        refine xt_goto (t := 4) rfl ?_
        refine xt_cut rfl rfl (by dsimp only [List.take]) ?_
        have hp15 : p = 15 := by rw [nI_leI (by omega) (by omega)] at hc_22; omega
        subst hp15
        exact ⟨(210 - (rd + 1)) * 2000, by omega, Or.inl ⟨rd + 1, w1, g, gI, by omega, hw1, hst, hIV1, hNE1, by rcases ht with q | q; exact Or.inr q; exact Or.inl (eq0_15 hw1 q.2), rfl, rfl, rfl, rfl, rfl, by rw [nI_add], rfl⟩⟩
      · skip
        refine xt_iln2 rfl ?_
        refine xt_ild rfl ?_
        refine xt_shr ?_
        refine xt_ic ?_
        refine xt_and ?_
        refine xt_eq (t := 127) rfl (fun hc_31 => ?_) (fun hc_31 => ?_)
        · skip
          refine xt_blk rfl rfl (by dsimp only [List.take]) ?_
          refine xt_inc rfl (by dsimp only [x_sto]) ?_
          refine xt_goto (t := 18) rfl ?_
          refine xt_cut rfl rfl (by dsimp only [List.take]) ?_
          have hp15 : p < 15 := by rw [nI_leI (by omega) (by omega)] at hc_22; omega
          have hb := bi_lt w1 p
          rw [n_bit (by omega) (by omega), n_eq0 (by unfold bi at hb; omega)] at hc_31
          have hbt := bi_tb' w1 p
          have hbf : w1.testBit p = false := by
            cases hq : w1.testBit p
            · rfl
            · rw [hq] at hbt; unfold bi at hbt; simp at hbt; omega
          exact ⟨(210 - rd) * 2000 - 1 - (p + 1) * 100, by omega, Or.inr (Or.inl ⟨rd, p + 1, w1, g, gI, hrd, by omega, hw1, hst, hIV1, hNE1, by
            rcases ht with q | q
            · exact Or.inl q
            · refine Or.inr ⟨q.1, fun i hi => ?_⟩
              by_cases e : i = p
              · rw [e]; exact hbf
              · exact q.2 i (by omega), rfl, rfl, rfl, rfl, rfl, by rw [nI_add], rfl⟩)⟩
        · skip
          refine xt_gs (q := 3) rfl ?_
          refine xt_ild rfl ?_
          refine xt_kal rfl (show vp_in _ 15 from vp_in_nI (by rw [nI_leI (by omega) (by omega)] at hc_22; omega) (by decide)) ?_
          refine xt_ist rfl (by dsimp only [x_sto]) ?_
          refine xt_gs (q := 4) rfl ?_
          refine xt_ild rfl ?_
          refine xt_kal rfl (show vp_in _ 15 from vp_in_nI (by rw [nI_leI (by omega) (by omega)] at hc_22; omega) (by decide)) ?_
          refine xt_ist rfl (by dsimp only [x_sto]) ?_
          refine xt_iln2 rfl ?_
          refine xt_ic ?_
          refine xt_ild rfl ?_
          refine xt_shl ?_
          refine xt_icm rfl ?_
          refine xt_xor ?_
          refine xt_and ?_
          refine xt_isn2 rfl (by dsimp only [x_sto]) ?_
          refine xt_ic ?_
          refine xt_ist rfl (by dsimp only [x_sto]) ?_
          refine xt_nil (t := 62) rfl ?_
          refine xt_cut rfl rfl (by dsimp only [List.take]) ?_
          have hp15 : p < 15 := by rw [nI_leI (by omega) (by omega)] at hc_22; omega
          have hb := bi_lt w1 p
          rw [n_bit (by omega) (by omega), n_eq0 (by unfold bi at hb; omega)] at hc_31
          have hbt := bi_tb' w1 p
          obtain ⟨f1, f2, f3, f4⟩ := fs_ok p hp15
          have hcl := clr_le w1 p
          have hpw : 2 ^ p < 2 ^ 15 := Nat.pow_lt_pow_right (by decide) hp15
          have hbg := cl_begin (g := g) (w := w1) (w' := clr w1 p) f3 (fun i hi hne => by rw [clr_tb (by omega), f4] at *; simp [Ne.symm hne]) hIV1 hNE1
          have e3 : x_kf 3 (nI p).toNatClampNeg = nI (fsT p) := by rw [nI_clamp (by omega)]; rfl
          have e4 : x_kf 4 (nI p).toNatClampNeg = nI (scT p) := by rw [nI_clamp (by omega)]; rfl
          exact ⟨(210 - rd) * 2000 - 1 - p * 100 - 1, by omega, Or.inr (Or.inr ⟨rd, p, 0, clr w1 p, g, gI, hrd, hp15, by omega, by omega, hst, ⟨(fun q => by rw [tb15 (by omega)] at q; cases q), fun _ => hbg⟩, by
            rcases ht with q | q
            · exact Or.inl q
            · refine Or.inr ⟨q.1, fun _ i hi => ?_⟩
              rw [clr_tb (by omega)]
              by_cases e : i = p
              · simp [e]
              · rw [q.2 i (by omega)]; rfl, rfl, rfl, rfl, rfl, rfl, by
            show [_, _, Sum.inl (nI w1 &&& (nI 1 <<< (nI p &&& 31) ^^^ -(nI 1))), _, _, Sum.inl (x_kf 3 (nI p).toNatClampNeg), Sum.inl (x_kf 4 (nI p).toNatClampNeg), _] = _
            rw [e3, e4, n_shl (by omega) (by omega), Nat.one_mul, n_andn _ _ (by omega) (by omega)]
            rfl, rfl⟩)⟩
    · refine ⟨_, rfl, ?_⟩
      refine xt_ild rfl ?_
      refine xt_bi ?_
      refine xt_cge (t := 113) rfl (fun hc_66 => ?_) (fun hc_66 => ?_)
      · skip
        refine xt_blk rfl rfl (by dsimp only [List.take]) ?_
        refine xt_iln2 rfl ?_
        refine xt_ldc (v := 32768) rfl ?_
        refine xt_and ?_
        refine xt_eq (t := 127) rfl (fun hc_117 => ?_) (fun hc_117 => ?_)
        · skip
          refine xt_blk rfl rfl (by dsimp only [List.take]) ?_
          refine xt_inc rfl (by dsimp only [x_sto]) ?_
          refine xt_goto (t := 18) rfl ?_
          refine xt_cut rfl rfl (by dsimp only [List.take]) ?_
          have hm6 : m = 6 := by rw [nI_leI (by omega) (by omega)] at hc_66; omega
          subst hm6
          obtain ⟨f1, f2, f3, f4⟩ := fs_ok p hp
          have hb15 : w1.testBit 15 = false := by
            have e1 : nI w1 &&& (32768 : Int32) = nI (w1 &&& 2 ^ 15) := by rw [show (32768 : Int32) = nI (2 ^ 15) by decide]; exact n_and w1 (2 ^ 15)
            have hle : w1 &&& 2 ^ 15 ≤ w1 := Nat.and_le_left
            have e2 : w1 &&& 2 ^ 15 = 0 := (n_eq0 (by omega)).mp (by rw [← e1]; exact hc_117)
            have e3 := congrArg (fun z => z.testBit 15) e2
            simp only [Nat.testBit_and, Nat.testBit_two_pow_self, Bool.and_true, Nat.zero_testBit] at e3
            exact e3
          obtain ⟨hI6, hN6⟩ := cl_end f1 f2 f3 hst.2.2.2.1 hst.2.2.1 (hfl.2 hb15).1 (hfl.2 hb15).2
          exact ⟨(210 - rd) * 2000 - 1 - (p + 1) * 100, by omega, Or.inr (Or.inl ⟨rd, p + 1, w1, g, gI, hrd, by omega, lt15 hw1 hb15, hst, hI6, hN6, by rcases ht with q | q; exact Or.inl q; exact Or.inr ⟨q.1, q.2 hb15⟩, rfl, rfl, rfl, rfl, rfl, by rw [nI_add], rfl⟩)⟩
        · skip
          refine xt_aln0 rfl (by first | decide | omega | assumption) ?_
          refine xt_ic ?_
          refine xt_v2 (key := 54) (q := q_J7_fill) rfl rfl rfl rfl rfl ⟨Nat.le_of_ble_eq_true rfl, Nat.le_of_ble_eq_true rfl⟩ ⟨k, 36, _, hk, by decide, hsh, rfl⟩ (fun rv_ S1 M1 hq_122 => ?_)
          rw [hst.1] at hq_122
          obtain ⟨eS_, eM_, rfl⟩ := hq_122 k 36 _ hsh rfl
          replace eS_ := eS_.symm
          replace eM_ := eM_.symm
          subst eS_ eM_
          try dsimp only [Option.toList, List.cons_append, List.nil_append]
          refine xt_ic ?_
          refine xt_rz (by decide) rfl (Nat.le_refl _) ?_
          have hb15 : w1.testBit 15 = true := by
            apply Classical.byContradiction
            intro hn
            apply hc_117
            have e1 : nI w1 &&& (32768 : Int32) = nI (w1 &&& 2 ^ 15) := by rw [show (32768 : Int32) = nI (2 ^ 15) by decide]; exact n_and w1 (2 ^ 15)
            have e2 : w1 &&& 2 ^ 15 = 0 := by
              apply Nat.eq_of_testBit_eq
              intro i
              rw [Nat.testBit_and, Nat.testBit_two_pow, Nat.zero_testBit]
              by_cases e : 15 = i
              · subst e; simp only [decide_true, Bool.and_true]; simpa using hn
              · simp [e]
            exact e1.trans (by rw [e2]; rfl)
          intro k2 w2 f2 hf2 e2
          simp only [List.cons.injEq, Sum.inl.injEq, Sum.inr.injEq, and_true] at e2
          obtain ⟨rfl, -⟩ := e2
          have ef : ∀ j, j < 36 → f j = f2 j := fun j hj => by
            have h1 := (hf j hj).2
            rw [(hf2 j hj).2] at h1
            exact ((nI_eq (by have := (hf2 j hj).1; omega) (by have := (hf j hj).1; omega)).mp h1).symm
          
          refine ⟨rfl, _, by rw [x_row_row], Or.inr ⟨rfl, fun j hj => ?_, Fail_cg ef (hfl.1 hb15)⟩⟩
          simp only [x_cp]
          rw [if_pos hj]
      · skip
        refine xt_ild rfl ?_
        refine xt_ild rfl ?_
        refine xt_ceq (t := 107) rfl (fun hc_73 => ?_) (fun hc_73 => ?_)
        · skip
          refine xt_blk rfl rfl (by dsimp only [List.take]) ?_
          refine xt_inc rfl (by dsimp only [x_sto]) ?_
          refine xt_goto (t := 62) rfl ?_
          refine xt_cut rfl rfl (by dsimp only [List.take]) ?_
          have hm6 : m < 6 := by rw [nI_leI (by omega) (by omega)] at hc_66; omega
          obtain ⟨f1, f2, f3, f4⟩ := fs_ok p hp
          have hme : m = fsT p ∨ m = scT p := by
            have := (nI_eq (by omega) (by omega)).mp hc_73
            omega
          exact ⟨(210 - rd) * 2000 - 1 - p * 100 - 1 - (m + 1), by omega, Or.inr (Or.inr ⟨rd, p, m + 1, w1, g, gI, hrd, hp, by omega, hw1, hst, ⟨hfl.1, fun q => cl_skip f1 f2 f3 hme (hfl.2 q).1 (hfl.2 q).2⟩, ht, rfl, rfl, rfl, rfl, rfl, by rw [nI_add], rfl⟩)⟩
        · skip
          refine xt_ild rfl ?_
          refine xt_ild rfl ?_
          refine xt_ceq (t := 107) rfl (fun hc_80 => ?_) (fun hc_80 => ?_)
          · skip
            refine xt_blk rfl rfl (by dsimp only [List.take]) ?_
            refine xt_inc rfl (by dsimp only [x_sto]) ?_
            refine xt_goto (t := 62) rfl ?_
            refine xt_cut rfl rfl (by dsimp only [List.take]) ?_
            have hm6 : m < 6 := by rw [nI_leI (by omega) (by omega)] at hc_66; omega
            obtain ⟨f1, f2, f3, f4⟩ := fs_ok p hp
            have hme : m = fsT p ∨ m = scT p := by
              have := (nI_eq (by omega) (by omega)).mp hc_80
              omega
            exact ⟨(210 - rd) * 2000 - 1 - p * 100 - 1 - (m + 1), by omega, Or.inr (Or.inr ⟨rd, p, m + 1, w1, g, gI, hrd, hp, by omega, hw1, hst, ⟨hfl.1, fun q => cl_skip f1 f2 f3 hme (hfl.2 q).1 (hfl.2 q).2⟩, ht, rfl, rfl, rfl, rfl, rfl, by rw [nI_add], rfl⟩)⟩
          · skip
            refine xt_iln2 rfl ?_
            refine xt_aln0 rfl (by first | decide | omega | assumption) ?_
            refine xt_ild rfl ?_
            refine xt_ild rfl ?_
            refine xt_ild rfl ?_
            refine xt_v4 (key := 90) (q := q_X1_narrow) rfl rfl rfl rfl rfl ⟨Nat.le_of_ble_eq_true rfl, Nat.le_of_ble_eq_true rfl⟩ (by
                obtain ⟨f1, f2, f3, f4⟩ := fs_ok p hp
                have hm6 : m < 6 := by rw [nI_leI (by omega) (by omega)] at hc_66; omega
                have n1 : m ≠ fsT p := fun q => hc_73 (by rw [q])
                exact ⟨k, fsT p, scT p, m, g, hk, f1, f2, hm6, Ne.symm n1, hsh, fun j hj => ⟨hst.2.2.1 j hj, by rw [hst.1, x_row_self]; exact hst.2.1 j hj⟩, rfl⟩) (fun rv_ S1 M1 hq_91 => ?_)
            obtain ⟨f1, f2, f3, f4⟩ := fs_ok p hp
            have hm6 : m < 6 := by rw [nI_leI (by omega) (by omega)] at hc_66; omega
            have n1 : m ≠ fsT p := fun q => hc_73 (by rw [q])
            have n2 : m ≠ scT p := fun q => hc_80 (by rw [q])
            have hds : Ds (fsT p) (scT p) m := ⟨f1, f2, hm6, f3, Ne.symm n2, Ne.symm n1⟩
            obtain ⟨eS_, hcase⟩ := hq_91 k (fsT p) (scT p) m g f1 f2 hm6 (fun j hj => ⟨hst.2.2.1 j hj, by rw [hst.1, x_row_self]; exact hst.2.1 j hj⟩) rfl
            replace eS_ := eS_.symm
            subst eS_
            rw [hst.1] at hcase
            obtain ⟨r1, g1, gI1, rfl, hg1, rfl, hN1⟩ := nr_of hst.2.1 hcase
            obtain ⟨hB1, hS1, hM1⟩ := NR_B hds hN1 hst.2.2.1 hst.2.2.2.1 hst.2.2.2.2
            try dsimp only [Option.toList, List.cons_append, List.nil_append]
            refine xt_aln0 rfl (by first | decide | omega | assumption) ?_
            refine xt_ild rfl ?_
            refine xt_ild rfl ?_
            refine xt_ild rfl ?_
            refine xt_v4 (key := 90) (q := q_X1_narrow) rfl rfl rfl rfl rfl ⟨Nat.le_of_ble_eq_true rfl, Nat.le_of_ble_eq_true rfl⟩ ⟨k, scT p, fsT p, m, g1, hk, f2, f1, hm6, Ne.symm n2, hsh, fun j hj => ⟨hB1 j hj, by rw [x_row_self]; exact hg1 j hj⟩, rfl⟩ (fun rv_ S1 M1 hq_101 => ?_)
            obtain ⟨eS_, hcase2⟩ := hq_101 k (scT p) (fsT p) m g1 f2 f1 hm6 (fun j hj => ⟨hB1 j hj, by rw [x_row_self]; exact hg1 j hj⟩) rfl
            replace eS_ := eS_.symm
            subst eS_
            obtain ⟨r2, g2, gI2, rfl, hg2, rfl, hN2⟩ := nr_of hg1 hcase2
            try dsimp only [Option.toList, List.cons_append, List.nil_append]
            refine xt_or ?_
            refine xt_or ?_
            refine xt_isn2 rfl (by dsimp only [x_sto]) ?_
            refine xt_nil (t := 107) rfl ?_
            refine xt_blk rfl rfl (by dsimp only [List.take]) ?_
            refine xt_inc rfl (by dsimp only [x_sto]) ?_
            refine xt_goto (t := 62) rfl ?_
            refine xt_cut rfl rfl (by dsimp only [List.take]) ?_
            obtain ⟨⟨hB2, hS2, hM2⟩, hr12, hF, htt, hnx⟩ := cl_step (f := f) (w := w1) hds hst.2.2.1 hst.2.2.2.1 hst.2.2.2.2 hN1 hN2
            have hor : w1 ||| (r1 ||| r2) < 2 ^ 16 := Nat.or_lt_two_pow hw1 hr12
            exact ⟨(210 - rd) * 2000 - 1 - p * 100 - 1 - (m + 1), by omega, Or.inr (Or.inr ⟨rd, p, m + 1, w1 ||| (r1 ||| r2), g2, gI2, hrd, hp, by omega, hor, ⟨rfl, hg2, hB2, hS2, hM2⟩, ⟨fun q => by
              rw [Nat.testBit_or, Bool.or_eq_true] at q
              rcases q with q | q
              · exact hfl.1 q
              · exact hF q, fun q => hnx q (hfl.2 (or_f q).1).1 (hfl.2 (or_f q).1).2⟩, cl_tot ht (by rcases htt with ⟨q1, q2⟩ | q; exact Or.inl ⟨by rw [q1], q2⟩; exact Or.inr q), rfl, rfl, rfl, rfl, rfl, by rw [n_or, n_or, nI_add], rfl⟩)⟩
