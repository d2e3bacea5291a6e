/-! THE REFERENCE: close -/
theorem Le_cgR {f f2 g : Nat → Nat} (h : ∀ j, j < 36 → f j = f2 j) (q : Le g f) : Le g f2 := fun a b ha hb hab => by rw [← h _ (by omega)]; exact q a b ha hb hab
theorem Cn_cg {f f2 g : Nat → Nat} (h : ∀ j, j < 36 → f j = f2 j) (q : Cn f g) : Cn f2 g := ⟨q.1, q.2.1, q.2.2.1, q.2.2.2.1, Mx_cg h q.2.2.2.2⟩
theorem Ar_u {M : x_M} {d : Nat} {f g : Nat → Nat} (h : Ar M d f) (h2 : Ar M d g) : ∀ j, j < 36 → f j = g j := fun j hj => by
  have e := (h j hj).2.symm.trans (h2 j hj).2
  rwa [nI_eq (by have := (h j hj).1; omega) (by have := (h2 j hj).1; omega)] at e
/-- rows that the reference's tables lie in -/
def T54 (M : x_M) : Prop := ∀ j, j < 169 → M 54 j = nI (cmT j)
theorem ix36 {d k : Nat} (hd : d < 16) (hk : k < 36) : (nI 36 * nI d + nI k).toNatClampNeg = 36 * d + k := by rw [pk_mul, nI_add, nI_clamp (by omega)]
theorem vx36 {d k : Nat} (hd : d < 16) (hk : k < 36) : vp_in (nI 36 * nI d + nI k) 576 := by rw [pk_mul, nI_add]; exact vp_in_nI (by omega) (by decide)
theorem ix36a {d a b : Nat} (hd : d < 16) (ha : a < 6) (hb : b < 6) : (nI 36 * nI d + nI 6 * nI a + nI b).toNatClampNeg = 36 * d + (a * 6 + b) := by rw [pk_mul, pk_mul, nI_add, nI_add, nI_clamp (by omega)]; omega
theorem vx36a {d a b : Nat} (hd : d < 16) (ha : a < 6) (hb : b < 6) : vp_in (nI 36 * nI d + nI 6 * nI a + nI b) 576 := by rw [pk_mul, pk_mul, nI_add, nI_add]; exact vp_in_nI (by omega) (by decide)
/-- what the sweep has seen -/
def Swp (g : Nat → Nat) (m k : Nat) : Prop := ∀ a x b, Ds a x b → (x < m ∨ (x = m ∧ a * 6 + b < k)) → Tri g a x b
def Cls (M : x_M) (d : Nat) (f g : Nat → Nat) (gI : Nat → Int32) : Prop := (∀ j, j < 36 → gI (36 * d + j) = nI (g j)) ∧ (∀ j, j < 36 * d ∨ 36 * d + 36 ≤ j → gI j = M 67 j) ∧ Bd g ∧ Mr f g ∧ Dg f g
theorem Cls.at_ {M : x_M} {d : Nat} {f g : Nat → Nat} {gI : Nat → Int32} (h : Cls M d f g gI) : ∀ j, j < 36 → gI (36 * d + j) = nI (g j) := h.1
theorem Cls.fr {M : x_M} {d : Nat} {f g : Nat → Nat} {gI : Nat → Int32} (h : Cls M d f g gI) : ∀ j, j < 36 * d ∨ 36 * d + 36 ≤ j → gI j = M 67 j := h.2.1
theorem Cls.bd {M : x_M} {d : Nat} {f g : Nat → Nat} {gI : Nat → Int32} (h : Cls M d f g gI) : Bd g := h.2.2.1
theorem Cls.mr {M : x_M} {d : Nat} {f g : Nat → Nat} {gI : Nat → Int32} (h : Cls M d f g gI) : Mr f g := h.2.2.2.1
theorem Cls.dg {M : x_M} {d : Nat} {f g : Nat → Nat} {gI : Nat → Int32} (h : Cls M d f g gI) : Dg f g := h.2.2.2.2
theorem Cls_st {M : x_M} {d : Nat} {f g : Nat → Nat} {gI : Nat → Int32} (h : Cls M d f g gI) {a m b : Nat} (hd : Ds a m b) : Cls M d f (nwr g a b (lft g a m b)) (upd gI (36 * d + (a * 6 + b)) (nI (lft g a m b))) := by
  have hd' := hd
  obtain ⟨ha, hm, hb, ham, hmb, hab⟩ := hd'
  have hl : lft g a m b < 8192 := Nat.lt_of_le_of_lt Nat.and_le_right (h.bd _ (by omega))
  refine ⟨fun j hj => ?_, fun j hj => ?_, nwr_Bd h.bd hl, Mr_step h.mr hd, nwr_Dg h.dg ha hb hab⟩
  · unfold upd nwr
    by_cases e : j = a * 6 + b
    · rw [if_pos e, if_pos (by omega)]
    · rw [if_neg e, if_neg (by omega)]; exact h.at_ j hj
  · unfold upd; rw [if_neg (by omega)]; exact h.fr j hj
theorem Swp_0 (g : Nat → Nat) : Swp g 0 0 := fun a x b hd h => by omega
theorem Swp_n {g : Nat → Nat} {m : Nat} (h : Swp g m 36) : Swp g (m + 1) 0 := fun a x b hd q => by
  have hd' := hd
  obtain ⟨ha, hx, hb, -⟩ := hd'
  exact h a x b hd (by omega)
theorem Swp_C {g : Nat → Nat} (h : Swp g 6 0) : Clo g := fun a x b hd => h a x b hd (by have := hd.2.1; omega)
theorem Swp_s {g : Nat → Nat} {m k : Nat} (h : Swp g m k) (hk : k < 36) (ht : Ds (k / 6) m (k % 6) → Tri g (k / 6) m (k % 6)) : Swp g m (k + 1) := fun a x b hd q => by
  have hd' := hd
  obtain ⟨ha, hx, hb, -⟩ := hd'
  by_cases e : x = m ∧ a * 6 + b = k
  · have e1 : k / 6 = a := by omega
    have e2 : k % 6 = b := by omega
    rw [e1, e2, ← e.1] at ht
    exact ht hd
  · exact h a x b hd (by omega)
theorem lft_c (g : Nat → Nat) (a m b : Nat) : g (a * 6 + b) &&& cm (g (a * 6 + m)) (g (m * 6 + b)) = lft g a m b := by unfold lft; rw [Nat.and_comm]
def q_X7_close : x_K := (2, fun as S M => ∃ (d : Nat) (f : Nat → Nat), d < 16 ∧ T54 M ∧ Ar M d f ∧ Sy f ∧ (∀ a, a < 6 → f (a * 6 + a) ≠ 0) ∧ S = SH ∧ as = [.inr (.inl 53), .inl (nI d)],
  fun as S M rv_ S' M' => ∀ (d : Nat) (f : Nat → Nat), d < 16 → Ar M d f → as = [.inr (.inl 53), .inl (nI d)] → S' = S ∧ ∃ gI, M' = x_row M 67 gI ∧ (∀ j, j < 36 * d ∨ 36 * d + 36 ≤ j → gI j = M 67 j) ∧ ((rv_ = some (.inl (nI 1)) ∧ ∃ g, (∀ j, j < 36 → gI (36 * d + j) = nI (g j)) ∧ Cn f g) ∨ (rv_ = some (.inl (nI 0)) ∧ (∀ j, j < 36 → gI (36 * d + j) = nI 0) ∧ Fail f)), 0, 0)
theorem r_X7_close : ∀ as S M, q_X7_close.2.1 as S M → ∃ (k : Nat) (as' : List x_V) (fs : List (Option Nat)), as = .inr (.inl k) :: as' ∧ S[k]? = some (.inl (5, fs)) := by
  rintro as S M ⟨d, f, -, -, -, -, -, rfl, rfl⟩
  exact ⟨53, _, _, rfl, rfl⟩
def b_X7_close : x_B := [(0, 2, [(.bipush 36, 2), (.iload_n 1, 1), (.imul, 1), (.istore_n 2, 1), (.iconst 1, 1), (.istore_n 3, 1), (.iconst 0, 1), (.istore 4, 2), (.iconst 0, 1), (.istore 5, 2)]),
  (13, 6, [(.iload 5, 2), (.bipush 36, 2), (.if_icmp .ge 33, 3), (.iload 4, 2), (.ifCond .ne 15, 3), (.aload_n 0, 1), (.getfield 50, 3), (.iload_n 2, 1), (.iload 5, 2), (.iadd, 1), (.iaload, 1), (.ifCond .ne 7, 3)]),
  (37, 6, [(.iconst 1, 1), (.goto 4, 3)]),
  (41, 6, [(.iconst 0, 1)]),
  (42, 6, [(.istore 4, 2), (.iinc 5 1, 3), (.goto (-34), 3)]),
  (50, 6, [(.iload_n 3, 1), (.ifCond .eq 178, 3), (.iload 4, 2), (.ifCond .ne 173, 3), (.iconst 0, 1), (.istore_n 3, 1), (.iconst 0, 1), (.istore 5, 2)]),
  (64, 6, [(.iload 5, 2), (.bipush 6, 2), (.if_icmp .ge 158, 3), (.iconst 0, 1), (.istore 6, 2)]),
  (74, 7, [(.iload 6, 2), (.bipush 36, 2), (.if_icmp .ge 142, 3), (.iload 6, 2), (.bipush 6, 2), (.idiv, 1), (.istore 7, 2), (.iload 6, 2), (.bipush 6, 2), (.irem, 1), (.istore 8, 2), (.iload 7, 2), (.iload 8, 2), (.if_icmp .eq 115, 3), (.iload 5, 2), (.iload 7, 2), (.if_icmp .eq 108, 3), (.iload 5, 2), (.iload 8, 2), (.if_icmp .eq 101, 3), (.aload_n 0, 1), (.getfield 50, 3), (.iload_n 2, 1), (.iload 6, 2), (.iadd, 1), (.iaload, 1), (.aload_n 0, 1), (.aload_n 0, 1), (.getfield 50, 3), (.iload_n 2, 1), (.bipush 6, 2), (.iload 7, 2), (.imul, 1), (.iadd, 1), (.iload 5, 2), (.iadd, 1), (.iaload, 1), (.aload_n 0, 1), (.getfield 50, 3), (.iload_n 2, 1), (.bipush 6, 2), (.iload 5, 2), (.imul, 1), (.iadd, 1), (.iload 8, 2), (.iadd, 1), (.iaload, 1), (.invokevirtual 96, 3), (.iand, 1), (.istore 9, 2), (.iload_n 3, 1), (.ifCond .ne 17, 3), (.iload 9, 2), (.aload_n 0, 1), (.getfield 50, 3), (.iload_n 2, 1), (.iload 6, 2), (.iadd, 1), (.iaload, 1), (.if_icmp .eq 7, 3)]),
  (180, 10, [(.iconst 1, 1), (.goto 4, 3)]),
  (184, 10, [(.iconst 0, 1)]),
  (185, 10, [(.istore_n 3, 1), (.aload_n 0, 1), (.getfield 50, 3), (.iload_n 2, 1), (.iload 6, 2), (.iadd, 1), (.iload 9, 2), (.iastore, 1), (.iload 4, 2), (.ifCond .ne 8, 3), (.iload 9, 2), (.ifCond .ne 7, 3)]),
  (207, 10, [(.iconst 1, 1), (.goto 4, 3)]),
  (211, 10, [(.iconst 0, 1)]),
  (212, 10, [(.istore 4, 2)]),
  (214, 9, [(.iinc 6 1, 3), (.goto (-143), 3)]),
  (220, 7, [(.iinc 5 1, 3), (.goto (-159), 3)]),
  (226, 6, [(.goto (-176), 3)]),
  (229, 6, [(.iconst 0, 1), (.istore 5, 2)]),
  (232, 6, [(.iload 5, 2), (.bipush 36, 2), (.if_icmp .ge 24, 3), (.iload 4, 2), (.ifCond .eq 19, 3), (.aload_n 0, 1), (.getfield 50, 3), (.iload_n 2, 1), (.iload 5, 2), (.iadd, 1), (.iconst 0, 1), (.iastore, 1), (.iinc 5 1, 3), (.goto (-25), 3)]),
  (260, 6, [(.iload 4, 2), (.ifCond .ne 7, 3), (.iconst 1, 1), (.goto 4, 3)]),
  (269, 6, [(.iconst 0, 1)]),
  (270, 6, [(.ireturn, 1)])]
theorem b_X7_close_ok : x_okB cX7_close 10 b_X7_close = true := by decide +kernel
def X_X7_close : x_X := ([(50, 5, 14)], [], [], [], [(289, q_X7_compose)], (0, 0), x_kn, x_kf, 5, false)
theorem X_X7_close_ok : x_okT RX7 X_X7_close = true := by decide +kernel
theorem k_X7_close (l : Launch) : ∀ z ∈ X_X7_close.2.2.2.2.1, x_Cal l (x_rm 2 0 0) cX7_close RX7 10 z.1 z.2 := List.forall_mem_cons.mpr ⟨x_cal_V (idx := 96) (ci := 5) (n := 2) (c_X7_compose l) ⟨by decide, by decide⟩ (by decide +kernel) (by decide +kernel) (by decide +kernel) (by decide +kernel) (by decide +kernel) rfl rfl rfl (by decide +kernel) r_X7_compose, fun _ h => absurd h List.not_mem_nil⟩
set_option maxHeartbeats 4000000 in
set_option maxRecDepth 100000 in
theorem c_X7_close (l : Launch) : x_CT l yX7_close cX7_close 10 (some .boolean) 2 q_X7_close := by
  refine x_meth (X := X_X7_close) (bl := b_X7_close) (cut := [13, 50, 64, 74, 232]) (own := RX7) 30 (by decide) rfl X_X7_close_ok b_X7_close_ok rfl (Nat.le_of_ble_eq_true rfl) (k_X7_close l) ?_
  rintro as S M - ⟨d, f, hd, hT54, hAr, hSy, hdg, rfl, rfl⟩
  refine ⟨fun μ pc ls st S' M' cs sl => (∃ k mo em, k ≤ 36 ∧ mo = 1 ∧ em < 2 ∧ (em = 1 → ∃ j, j < 36 ∧ f j = 0) ∧ (em = 0 → ∀ j, j < k → f j ≠ 0) ∧ M' = M ∧ pc = 13 ∧ st = [] ∧ S' = SH ∧ cs = 0 ∧ sl = 0 ∧ ls = [.inr (.inl 53), .inl (nI d), .inl (nI 36 * nI d), .inl (nI mo), .inl (nI em), .inl (nI k)] ∧ μ = (tot f + 2) * 1000 + 1000 + (36 - k)) ∨ (∃ (T mo em : Nat) (x : Int32) (g : Nat → Nat) (gI : Nat → Int32), Cls M d f g gI ∧ mo < 2 ∧ em < 2 ∧ (em = 1 → Fail f) ∧ (em = 0 → ∀ j, j < 36 → g j ≠ 0) ∧ (mo = 1 → tot g + 1 ≤ T) ∧ (mo = 0 → Clo g) ∧ M' = x_row M 67 gI ∧ pc = 50 ∧ st = [] ∧ S' = SH ∧ cs = 0 ∧ sl = 0 ∧ ls = [.inr (.inl 53), .inl (nI d), .inl (nI 36 * nI d), .inl (nI mo), .inl (nI em), .inl x] ∧ μ = T * 1000 + 999) ∨ (∃ (T mo em m : Nat) (g : Nat → Nat) (gI : Nat → Int32), m ≤ 6 ∧ Cls M d f g gI ∧ mo < 2 ∧ em < 2 ∧ (em = 1 → Fail f) ∧ (em = 0 → ∀ j, j < 36 → g j ≠ 0) ∧ tot g + 1 + mo ≤ T ∧ (mo = 0 → Swp g m 0) ∧ M' = x_row M 67 gI ∧ pc = 64 ∧ st = [] ∧ S' = SH ∧ cs = 0 ∧ sl = 0 ∧ ls = [.inr (.inl 53), .inl (nI d), .inl (nI 36 * nI d), .inl (nI mo), .inl (nI em), .inl (nI m)] ∧ μ = T * 1000 + (6 - m) * 40 + 39) ∨ (∃ (T mo em m k : Nat) (g : Nat → Nat) (gI : Nat → Int32), m < 6 ∧ k ≤ 36 ∧ Cls M d f g gI ∧ mo < 2 ∧ em < 2 ∧ (em = 1 → Fail f) ∧ (em = 0 → ∀ j, j < 36 → g j ≠ 0) ∧ tot g + 1 + mo ≤ T ∧ (mo = 0 → Swp g m k) ∧ M' = x_row M 67 gI ∧ pc = 74 ∧ st = [] ∧ S' = SH ∧ cs = 0 ∧ sl = 0 ∧ ls = [.inr (.inl 53), .inl (nI d), .inl (nI 36 * nI d), .inl (nI mo), .inl (nI em), .inl (nI m), .inl (nI k)] ∧ μ = T * 1000 + (6 - m) * 40 + (37 - k)) ∨ (∃ (mo em k : Nat) (gI : Nat → Int32), k ≤ 36 ∧ em < 2 ∧ (∀ j, j < 36 * d ∨ 36 * d + 36 ≤ j → gI j = M 67 j) ∧ (em = 0 → ∃ g, (∀ j, j < 36 → gI (36 * d + j) = nI (g j)) ∧ Cn f g) ∧ (em = 1 → Fail f ∧ ∀ j, j < k → gI (36 * d + j) = nI 0) ∧ M' = x_row M 67 gI ∧ pc = 232 ∧ st = [] ∧ S' = SH ∧ cs = 0 ∧ sl = 0 ∧ ls = [.inr (.inl 53), .inl (nI d), .inl (nI 36 * nI d), .inl (nI mo), .inl (nI em), .inl (nI k)] ∧ μ = 36 - k), ?_, ?_⟩
  · skip
    refine xt_blk rfl rfl (by dsimp only [List.take]) ?_
    refine xt_bi ?_
    refine xt_iln1 rfl ?_
    refine xt_mul ?_
    refine xt_isn2 rfl (by dsimp only [x_sto]) ?_
    refine xt_ic ?_
    refine xt_isn3 rfl (by dsimp only [x_sto]) ?_
    refine xt_ic ?_
    refine xt_ist rfl (by dsimp only [x_sto]) ?_
    refine xt_ic ?_
    refine xt_ist rfl (by dsimp only [x_sto]) ?_
    refine xt_nil (t := 13) rfl ?_
    refine xt_cut rfl rfl (by dsimp only [List.take]) ?_
    exact ⟨(tot f + 2) * 1000 + 1000 + 36, Or.inl ⟨0, 1, 0, by omega, rfl, by omega, fun h => by omega, fun _ j hj => by omega, rfl, rfl, rfl, rfl, rfl, rfl, rfl, rfl⟩⟩
  · rintro μ pc ls st S2 M2 cs sl (⟨k, mo, em, hk, hmo, hem, he1, he0, rfl, rfl, rfl, rfl, rfl, rfl, rfl, rfl⟩ | ⟨T, mo, em, x, g, gI, hC, hmo, hem, he1, he0, hT, hcl, rfl, rfl, rfl, rfl, rfl, rfl, rfl, rfl⟩ | ⟨T, mo, em, m, g, gI, hm, hC, hmo, hem, he1, he0, hT, hsw, rfl, rfl, rfl, rfl, rfl, rfl, rfl, rfl⟩ | ⟨T, mo, em, m, k, g, gI, hm, hk, hC, hmo, hem, he1, he0, hT, hsw, rfl, rfl, rfl, rfl, rfl, rfl, rfl, rfl⟩ | ⟨mo, em, k, gI, hk, hem, hfr, he0, he1, rfl, rfl, rfl, rfl, rfl, rfl, rfl, rfl⟩)
    · refine ⟨_, rfl, ?_⟩
      refine xt_ild rfl ?_
      refine xt_bi ?_
      refine xt_cge (t := 50) rfl (fun hc_17 => ?_) (fun hc_17 => ?_)
      · skip
        refine xt_cut rfl rfl (by dsimp only [List.take]) ?_
        have hk36 : k = 36 := by rw [nI_leI (by omega) (by omega)] at hc_17; omega
        subst hk36
        refine ⟨(tot f + 2) * 1000 + 999, by omega, Or.inr (Or.inl ⟨tot f + 2, mo, em, _, f, M2 67, ⟨fun j hj => (hAr j hj).2, fun _ _ => rfl, fun j hj => (hAr j hj).1, Mr_rf f, fun _ _ => rfl⟩, by omega, hem, ?_, ?_, fun _ => by omega, fun h => by omega, by rw [x_row_id], rfl, rfl, rfl, rfl, rfl, rfl, rfl⟩)⟩
        · intro h
          obtain ⟨j, hj, h0⟩ := he1 h
          have ej : j / 6 * 6 + j % 6 = j := by omega
          by_cases e : j / 6 = j % 6
          · have := hdg (j / 6) (by omega)
            rw [show j / 6 * 6 + j / 6 = j by omega] at this
            exact absurd h0 this
          · exact Fail_0 (a := j / 6) (b := j % 6) (by omega) (by omega) e (by rw [ej]; exact h0)
        · exact he0
      · skip
        have hk36 : k < 36 := by rw [nI_leI (by omega) (by omega)] at hc_17; omega
        refine xt_ild rfl ?_
        refine xt_ne (t := 37) rfl (fun hc_22 => ?_) (fun hc_22 => ?_)
        · skip
          refine xt_blk rfl rfl (by dsimp only [List.take]) ?_
          refine xt_ic ?_
          refine xt_goto (t := 42) rfl ?_
          refine xt_blk rfl rfl (by dsimp only [List.take]) ?_
          refine xt_ist rfl (by dsimp only [x_sto]) ?_
          refine xt_inc rfl (by dsimp only [x_sto]) ?_
          refine xt_goto (t := 13) rfl ?_
          refine xt_cut rfl rfl (by dsimp only [List.take]) ?_
          have hem1 : em = 1 := by rw [n_eq0 (by omega)] at hc_22; omega
          exact ⟨(tot f + 2) * 1000 + 1000 + (36 - (k + 1)), by omega, Or.inl ⟨k + 1, mo, 1, by omega, hmo, by omega, fun _ => he1 hem1, fun h => by omega, rfl, rfl, rfl, rfl, rfl, rfl, by rw [nI_add], rfl⟩⟩
        · skip
          refine xt_aln0 rfl (by first | decide | omega | assumption) ?_
          refine xt_gfr (q := (5, 14)) rfl (by first | rfl | assumption) rfl ?_
          refine xt_iln2 rfl ?_
          refine xt_ild rfl ?_
          refine xt_add ?_
          refine xt_ial (by first | rfl | assumption) (vx36 hd hk36) ?_
          refine xt_ne (t := 41) rfl (fun hc_34 => ?_) (fun hc_34 => ?_)
          · skip
            refine xt_blk rfl rfl (by dsimp only [List.take]) ?_
            refine xt_ic ?_
            refine xt_nil (t := 42) rfl ?_
            refine xt_blk rfl rfl (by dsimp only [List.take]) ?_
            refine xt_ist rfl (by dsimp only [x_sto]) ?_
            refine xt_inc rfl (by dsimp only [x_sto]) ?_
            refine xt_goto (t := 13) rfl ?_
            refine xt_cut rfl rfl (by dsimp only [List.take]) ?_
            have hem0 : em = 0 := by rw [n_eq0 (by omega)] at hc_22; exact hc_22
            rw [ix36 hd hk36, (hAr k hk36).2, n_eq0 (by have := (hAr k hk36).1; omega)] at hc_34
            refine ⟨(tot f + 2) * 1000 + 1000 + (36 - (k + 1)), by omega, Or.inl ⟨k + 1, mo, 0, by omega, hmo, by omega, fun h => by omega, ?_, rfl, rfl, rfl, rfl, rfl, rfl, by rw [nI_add], rfl⟩⟩
            intro _ j hj
            by_cases e : j = k
            · subst e; exact hc_34
            · exact he0 hem0 j (by omega)
          · skip
            refine xt_nil (t := 37) rfl ?_
            refine xt_blk rfl rfl (by dsimp only [List.take]) ?_
            refine xt_ic ?_
            refine xt_goto (t := 42) rfl ?_
            refine xt_blk rfl rfl (by dsimp only [List.take]) ?_
            refine xt_ist rfl (by dsimp only [x_sto]) ?_
            refine xt_inc rfl (by dsimp only [x_sto]) ?_
            refine xt_goto (t := 13) rfl ?_
            refine xt_cut rfl rfl (by dsimp only [List.take]) ?_
            have hem0 : em = 0 := by rw [n_eq0 (by omega)] at hc_22; exact hc_22
            rw [ix36 hd hk36, (hAr k hk36).2, n_eq0 (by have := (hAr k hk36).1; omega)] at hc_34
            exact ⟨(tot f + 2) * 1000 + 1000 + (36 - (k + 1)), by omega, Or.inl ⟨k + 1, mo, 1, by omega, hmo, by omega, fun _ => ⟨k, hk36, hc_34⟩, fun h => by omega, rfl, rfl, rfl, rfl, rfl, rfl, by rw [nI_add], rfl⟩⟩
    · refine ⟨_, rfl, ?_⟩
      refine xt_iln3 rfl ?_
      refine xt_eq (t := 229) rfl (fun hc_51 => ?_) (fun hc_51 => ?_)
      · skip
        refine xt_blk rfl rfl (by dsimp only [List.take]) ?_
        refine xt_ic ?_
        refine xt_ist rfl (by dsimp only [x_sto]) ?_
        refine xt_nil (t := 232) rfl ?_
        refine xt_cut rfl rfl (by dsimp only [List.take]) ?_
        have hmo0 : mo = 0 := by rw [n_eq0 (by omega)] at hc_51; exact hc_51
        refine ⟨36 - 0, by omega, Or.inr (Or.inr (Or.inr (Or.inr ⟨mo, em, 0, gI, by omega, hem, hC.fr, ?_, fun h => ⟨he1 h, fun j hj => by omega⟩, rfl, rfl, rfl, rfl, rfl, rfl, rfl, rfl⟩)))⟩
        intro h
        have hcl' := hcl hmo0
        obtain ⟨hSg, hMx⟩ := Mr_end hSy (fun j hj => (hAr j hj).1) hC.bd hC.mr hC.dg hcl'
        exact ⟨g, hC.at_, hC.bd, hSg, hcl', fun x y hx hy _ _ => he0 h _ (by omega), hMx⟩
      · skip
        refine xt_ild rfl ?_
        refine xt_ne (t := 229) rfl (fun hc_56 => ?_) (fun hc_56 => ?_)
        · skip
          refine xt_blk rfl rfl (by dsimp only [List.take]) ?_
          refine xt_ic ?_
          refine xt_ist rfl (by dsimp only [x_sto]) ?_
          refine xt_nil (t := 232) rfl ?_
          refine xt_cut rfl rfl (by dsimp only [List.take]) ?_
          have hem1 : em = 1 := by rw [n_eq0 (by omega)] at hc_56; omega
          exact ⟨36 - 0, by omega, Or.inr (Or.inr (Or.inr (Or.inr ⟨mo, em, 0, gI, by omega, hem, hC.fr, fun h => by omega, fun h => ⟨he1 h, fun j hj => by omega⟩, rfl, rfl, rfl, rfl, rfl, rfl, rfl, rfl⟩)))⟩
        · skip
          refine xt_ic ?_
          refine xt_isn3 rfl (by dsimp only [x_sto]) ?_
          refine xt_ic ?_
          refine xt_ist rfl (by dsimp only [x_sto]) ?_
          refine xt_nil (t := 64) rfl ?_
          refine xt_cut rfl rfl (by dsimp only [List.take]) ?_
          have hmo1 : mo = 1 := by rw [n_eq0 (by omega)] at hc_51; omega
          have hT1 := hT hmo1
          exact ⟨T * 1000 + (6 - 0) * 40 + 39, by omega, Or.inr (Or.inr (Or.inl ⟨T, 0, em, 0, g, gI, by omega, hC, by omega, hem, he1, he0, by omega, fun _ => Swp_0 g, rfl, rfl, rfl, rfl, rfl, rfl, rfl, rfl⟩))⟩
    · refine ⟨_, rfl, ?_⟩
      refine xt_ild rfl ?_
      refine xt_bi ?_
      refine xt_cge (t := 226) rfl (fun hc_68 => ?_) (fun hc_68 => ?_)
      · skip
        refine xt_blk rfl rfl (by dsimp only [List.take]) ?_
        refine xt_goto (t := 50) rfl ?_
        refine xt_cut rfl rfl (by dsimp only [List.take]) ?_
        have hm6 : m = 6 := by rw [nI_leI (by omega) (by omega)] at hc_68; omega
        subst hm6
        exact ⟨(T - 1) * 1000 + 999, by omega, Or.inr (Or.inl ⟨T - 1, mo, em, _, g, gI, hC, hmo, hem, he1, he0, fun h => by omega, fun h => Swp_C (hsw h), rfl, rfl, rfl, rfl, rfl, rfl, rfl, rfl⟩)⟩
      · skip
        have hm6 : m < 6 := by rw [nI_leI (by omega) (by omega)] at hc_68; omega
        refine xt_ic ?_
        refine xt_ist rfl (by dsimp only [x_sto]) ?_
        refine xt_nil (t := 74) rfl ?_
        refine xt_cut rfl rfl (by dsimp only [List.take]) ?_
        exact ⟨T * 1000 + (6 - m) * 40 + (37 - 0), by omega, Or.inr (Or.inr (Or.inr (Or.inl ⟨T, mo, em, m, 0, g, gI, hm6, by omega, hC, hmo, hem, he1, he0, hT, hsw, rfl, rfl, rfl, rfl, rfl, rfl, rfl, rfl⟩)))⟩
    · refine ⟨_, rfl, ?_⟩
      refine xt_ild rfl ?_
      refine xt_bi ?_
      refine xt_cge (t := 220) rfl (fun hc_78 => ?_) (fun hc_78 => ?_)
      · skip
        refine xt_blk rfl rfl (by dsimp only [List.take]) ?_
        refine xt_inc rfl (by dsimp only [x_sto]) ?_
        refine xt_goto (t := 64) rfl ?_
        refine xt_cut rfl rfl (by dsimp only [List.take]) ?_
        have hk36 : k = 36 := by rw [nI_leI (by omega) (by omega)] at hc_78; omega
        subst hk36
        exact ⟨T * 1000 + (6 - (m + 1)) * 40 + 39, by omega, Or.inr (Or.inr (Or.inl ⟨T, mo, em, m + 1, g, gI, by omega, hC, hmo, hem, he1, he0, hT, fun h => Swp_n (hsw h), rfl, rfl, rfl, rfl, rfl, rfl, by rw [nI_add], rfl⟩))⟩
      · skip
        have hk36 : k < 36 := by rw [nI_leI (by omega) (by omega)] at hc_78; omega
        have edv : nI k / nI 6 = nI (k / 6) := pk_div (by omega) (by decide) (by decide)
        have erm : nI k - nI (k / 6) * nI 6 = nI (k % 6) := by rw [← edv]; exact pk_rem (by omega) (by decide) (by decide)
        refine xt_ild rfl ?_
        refine xt_bi ?_
        refine xt_div (by decide) ?_
        refine xt_ist rfl (by dsimp only [x_sto]) ?_
        refine xt_ild rfl ?_
        refine xt_bi ?_
        refine xt_rem (by decide) ?_
        refine xt_ist rfl (by dsimp only [x_sto]) ?_
        refine xt_ild rfl ?_
        refine xt_ild rfl ?_
        refine xt_ceq (t := 214) rfl (fun hc_99 => ?_) (fun hc_99 => ?_)
        · skip
          refine xt_blk rfl rfl (by dsimp only [List.take]) ?_
          refine xt_inc rfl (by dsimp only [x_sto]) ?_
          refine xt_goto (t := 74) rfl ?_
          refine xt_cut rfl rfl (by dsimp only [List.take]) ?_
          rw [edv, erm, nI_eq (by omega) (by omega)] at hc_99
          exact ⟨T * 1000 + (6 - m) * 40 + (37 - (k + 1)), by omega, Or.inr (Or.inr (Or.inr (Or.inl ⟨T, mo, em, m, k + 1, g, gI, hm, by omega, hC, hmo, hem, he1, he0, hT, fun h => Swp_s (hsw h) hk36 (fun q => absurd hc_99 q.2.2.2.2.2), rfl, rfl, rfl, rfl, rfl, rfl, by rw [nI_add], rfl⟩)))⟩
        · skip
          refine xt_ild rfl ?_
          refine xt_ild rfl ?_
          refine xt_ceq (t := 214) rfl (fun hc_106 => ?_) (fun hc_106 => ?_)
          · skip
            refine xt_blk rfl rfl (by dsimp only [List.take]) ?_
            refine xt_inc rfl (by dsimp only [x_sto]) ?_
            refine xt_goto (t := 74) rfl ?_
            refine xt_cut rfl rfl (by dsimp only [List.take]) ?_
            rw [edv, nI_eq (by omega) (by omega)] at hc_106
            exact ⟨T * 1000 + (6 - m) * 40 + (37 - (k + 1)), by omega, Or.inr (Or.inr (Or.inr (Or.inl ⟨T, mo, em, m, k + 1, g, gI, hm, by omega, hC, hmo, hem, he1, he0, hT, fun h => Swp_s (hsw h) hk36 (fun q => absurd hc_106.symm q.2.2.2.1), rfl, rfl, rfl, rfl, rfl, rfl, by rw [nI_add], rfl⟩)))⟩
          · skip
            refine xt_ild rfl ?_
            refine xt_ild rfl ?_
            refine xt_ceq (t := 214) rfl (fun hc_113 => ?_) (fun hc_113 => ?_)
            · skip
              refine xt_blk rfl rfl (by dsimp only [List.take]) ?_
              refine xt_inc rfl (by dsimp only [x_sto]) ?_
              refine xt_goto (t := 74) rfl ?_
              refine xt_cut rfl rfl (by dsimp only [List.take]) ?_
              rw [edv, erm, nI_eq (by omega) (by omega)] at hc_113
              exact ⟨T * 1000 + (6 - m) * 40 + (37 - (k + 1)), by omega, Or.inr (Or.inr (Or.inr (Or.inl ⟨T, mo, em, m, k + 1, g, gI, hm, by omega, hC, hmo, hem, he1, he0, hT, fun h => Swp_s (hsw h) hk36 (fun q => absurd hc_113 q.2.2.2.2.1), rfl, rfl, rfl, rfl, rfl, rfl, by rw [nI_add], rfl⟩)))⟩
            · skip
              rw [edv, erm, nI_eq (by omega) (by omega)] at hc_99
              rw [edv, nI_eq (by omega) (by omega)] at hc_106
              rw [edv, erm, nI_eq (by omega) (by omega)] at hc_113
              rw [edv, erm]
              have hDs : Ds (k / 6) m (k % 6) := ⟨by omega, by omega, by omega, fun e => hc_106 e.symm, hc_113, hc_99⟩
              have ek : k / 6 * 6 + k % 6 = k := by omega
              have hgk := hC.bd k hk36
              have r1 : (x_row M 67 gI) 67 (nI 36 * nI d + nI 6 * nI (k / 6) + nI m).toNatClampNeg = nI (g (k / 6 * 6 + m)) := by rw [x_row_self, ix36a hd (by omega) (by omega)]; exact hC.at_ _ (by omega)
              have r2 : (x_row M 67 gI) 67 (nI 36 * nI d + nI 6 * nI m + nI (k % 6)).toNatClampNeg = nI (g (m * 6 + k % 6)) := by rw [x_row_self, ix36a hd (by omega) (by omega)]; exact hC.at_ _ (by omega)
              have r3 : (x_row M 67 gI) 67 (nI 36 * nI d + nI k).toNatClampNeg = nI (g k) := by rw [x_row_self, ix36 hd hk36]; exact hC.at_ _ hk36
              have hll : lft g (k / 6) m (k % 6) < 8192 := Nat.lt_of_le_of_lt Nat.and_le_right (hC.bd _ (by omega))
              have r4 : nI (g k) &&& nI (cm (g (k / 6 * 6 + m)) (g (m * 6 + k % 6))) = nI (lft g (k / 6) m (k % 6)) := by
                rw [n_and]
                have := lft_c g (k / 6) m (k % 6)
                rw [ek] at this
                rw [this]
              refine xt_aln0 rfl (by first | decide | omega | assumption) ?_
              refine xt_gfr (q := (5, 14)) rfl (by first | rfl | assumption) rfl ?_
              refine xt_iln2 rfl ?_
              refine xt_ild rfl ?_
              refine xt_add ?_
              refine xt_ial (by first | rfl | assumption) (vx36 hd hk36) ?_
              refine xt_aln0 rfl (by first | decide | omega | assumption) ?_
              refine xt_aln0 rfl (by first | decide | omega | assumption) ?_
              refine xt_gfr (q := (5, 14)) rfl (by first | rfl | assumption) rfl ?_
              refine xt_iln2 rfl ?_
              refine xt_bi ?_
              refine xt_ild rfl ?_
              refine xt_mul ?_
              refine xt_add ?_
              refine xt_ild rfl ?_
              refine xt_add ?_
              refine xt_ial (by first | rfl | assumption) (vx36a hd (by omega) (by omega)) ?_
              refine xt_aln0 rfl (by first | decide | omega | assumption) ?_
              refine xt_gfr (q := (5, 14)) rfl (by first | rfl | assumption) rfl ?_
              refine xt_iln2 rfl ?_
              refine xt_bi ?_
              refine xt_ild rfl ?_
              refine xt_mul ?_
              refine xt_add ?_
              refine xt_ild rfl ?_
              refine xt_add ?_
              refine xt_ial (by first | rfl | assumption) (vx36a hd (by omega) (by omega)) ?_
              refine xt_v3 (key := 289) (q := q_X7_compose) rfl rfl rfl rfl rfl ⟨Nat.le_of_ble_eq_true rfl, Nat.le_of_ble_eq_true rfl⟩ ⟨g (k / 6 * 6 + m), g (m * 6 + k % 6), hC.bd _ (by omega), hC.bd _ (by omega), rfl, hT54, by rw [r1, r2]⟩ (fun rv_ S1 M1 hq_156 => ?_)
              obtain ⟨eS_, eM_, rfl⟩ := hq_156 (g (k / 6 * 6 + m)) (g (m * 6 + k % 6)) (hC.bd _ (by omega)) (hC.bd _ (by omega)) (by rw [r1, r2])
              replace eS_ := eS_.symm
              replace eM_ := eM_.symm
              subst eS_ eM_
              rw [r3]
              try dsimp only [Option.toList, List.cons_append, List.nil_append]
              refine xt_and ?_
              refine xt_ist rfl (by dsimp only [x_sto]) ?_
              refine xt_iln3 rfl ?_
              refine xt_ne (t := 180) rfl (fun hc_163 => ?_) (fun hc_163 => ?_)
              · skip
                refine xt_blk rfl rfl (by dsimp only [List.take]) ?_
                refine xt_ic ?_
                refine xt_goto (t := 185) rfl ?_
                refine xt_blk rfl rfl (by dsimp only [List.take]) ?_
                refine xt_isn3 rfl (by dsimp only [x_sto]) ?_
                refine xt_aln0 rfl (by first | decide | omega | assumption) ?_
                refine xt_gfr (q := (5, 14)) rfl (by first | rfl | assumption) rfl ?_
                refine xt_iln2 rfl ?_
                refine xt_ild rfl ?_
                refine xt_add ?_
                refine xt_ild rfl ?_
                refine xt_ias (by first | rfl | assumption) (vx36 hd hk36) ?_
                refine xt_ild rfl ?_
                refine xt_ne (t := 207) rfl (fun hc_199 => ?_) (fun hc_199 => ?_)
                · skip
                  refine xt_blk rfl rfl (by dsimp only [List.take]) ?_
                  refine xt_ic ?_
                  refine xt_goto (t := 212) rfl ?_
                  refine xt_blk rfl rfl (by dsimp only [List.take]) ?_
                  refine xt_ist rfl (by dsimp only [x_sto]) ?_
                  refine xt_nil (t := 214) rfl ?_
                  refine xt_blk rfl rfl (by dsimp only [List.take]) ?_
                  refine xt_inc rfl (by dsimp only [x_sto]) ?_
                  refine xt_goto (t := 74) rfl ?_
                  refine xt_cut rfl rfl (by dsimp only [List.take]) ?_
                  have hC2 := Cls_st hC hDs
                  rw [ek] at hC2
                  have hmo1 : mo = 1 := by rw [n_eq0 (by omega)] at hc_163; omega
                  have hmv : (1 : Nat) = 1 := rfl
                  have htt : tot (nwr g (k / 6) (k % 6) (lft g (k / 6) m (k % 6))) ≤ tot g := by
                    by_cases e : lft g (k / 6) m (k % 6) = g (k / 6 * 6 + k % 6)
                    · rw [e, nwr_id]; exact Nat.le_refl _
                    · have := tot_nwr hC.bd hDs.1 hDs.2.2.1 hDs.2.2.2.2.2 (lft_sb g (k / 6) m (k % 6)) e; omega
                  have hem1 : em = 1 := by rw [n_eq0 (by omega)] at hc_199; omega
                  refine ⟨T * 1000 + (6 - m) * 40 + (37 - (k + 1)), by omega, Or.inr (Or.inr (Or.inr (Or.inl ⟨T, 1, 1, m, k + 1, _, _, hm, by omega, hC2, by omega, by omega, fun _ => he1 hem1, fun h => by omega, by omega, fun h => by omega, by rw [x_row_self, x_row_row, ix36 hd hk36, r4], rfl, rfl, rfl, rfl, rfl, by rw [nI_add], rfl⟩)))⟩
                · skip
                  refine xt_ild rfl ?_
                  refine xt_ne (t := 211) rfl (fun hc_204 => ?_) (fun hc_204 => ?_)
                  · skip
                    refine xt_blk rfl rfl (by dsimp only [List.take]) ?_
                    refine xt_ic ?_
                    refine xt_nil (t := 212) rfl ?_
                    refine xt_blk rfl rfl (by dsimp only [List.take]) ?_
                    refine xt_ist rfl (by dsimp only [x_sto]) ?_
                    refine xt_nil (t := 214) rfl ?_
                    refine xt_blk rfl rfl (by dsimp only [List.take]) ?_
                    refine xt_inc rfl (by dsimp only [x_sto]) ?_
                    refine xt_goto (t := 74) rfl ?_
                    refine xt_cut rfl rfl (by dsimp only [List.take]) ?_
                    have hC2 := Cls_st hC hDs
                    rw [ek] at hC2
                    have hmo1 : mo = 1 := by rw [n_eq0 (by omega)] at hc_163; omega
                    have hmv : (1 : Nat) = 1 := rfl
                    have htt : tot (nwr g (k / 6) (k % 6) (lft g (k / 6) m (k % 6))) ≤ tot g := by
                      by_cases e : lft g (k / 6) m (k % 6) = g (k / 6 * 6 + k % 6)
                      · rw [e, nwr_id]; exact Nat.le_refl _
                      · have := tot_nwr hC.bd hDs.1 hDs.2.2.1 hDs.2.2.2.2.2 (lft_sb g (k / 6) m (k % 6)) e; omega
                    have hem0 : em = 0 := by rw [n_eq0 (by omega)] at hc_199; exact hc_199
                    rw [r4, n_eq0 (by omega)] at hc_204
                    refine ⟨T * 1000 + (6 - m) * 40 + (37 - (k + 1)), by omega, Or.inr (Or.inr (Or.inr (Or.inl ⟨T, 1, 0, m, k + 1, _, _, hm, by omega, hC2, by omega, by omega, fun h => by omega, fun _ j hj => ?_, by omega, fun h => by omega, by rw [x_row_self, x_row_row, ix36 hd hk36, r4], rfl, rfl, rfl, rfl, rfl, by rw [nI_add], rfl⟩)))⟩
                    unfold nwr
                    by_cases e : j = k / 6 * 6 + k % 6
                    · rw [if_pos e]; exact hc_204
                    · rw [if_neg e]; exact he0 hem0 j hj
                  · skip
                    refine xt_nil (t := 207) rfl ?_
                    refine xt_blk rfl rfl (by dsimp only [List.take]) ?_
                    refine xt_ic ?_
                    refine xt_goto (t := 212) rfl ?_
                    refine xt_blk rfl rfl (by dsimp only [List.take]) ?_
                    refine xt_ist rfl (by dsimp only [x_sto]) ?_
                    refine xt_nil (t := 214) rfl ?_
                    refine xt_blk rfl rfl (by dsimp only [List.take]) ?_
                    refine xt_inc rfl (by dsimp only [x_sto]) ?_
                    refine xt_goto (t := 74) rfl ?_
                    refine xt_cut rfl rfl (by dsimp only [List.take]) ?_
                    have hC2 := Cls_st hC hDs
                    rw [ek] at hC2
                    have hmo1 : mo = 1 := by rw [n_eq0 (by omega)] at hc_163; omega
                    have hmv : (1 : Nat) = 1 := rfl
                    have htt : tot (nwr g (k / 6) (k % 6) (lft g (k / 6) m (k % 6))) ≤ tot g := by
                      by_cases e : lft g (k / 6) m (k % 6) = g (k / 6 * 6 + k % 6)
                      · rw [e, nwr_id]; exact Nat.le_refl _
                      · have := tot_nwr hC.bd hDs.1 hDs.2.2.1 hDs.2.2.2.2.2 (lft_sb g (k / 6) m (k % 6)) e; omega
                    have hem0 : em = 0 := by rw [n_eq0 (by omega)] at hc_199; exact hc_199
                    rw [r4, n_eq0 (by omega)] at hc_204
                    refine ⟨T * 1000 + (6 - m) * 40 + (37 - (k + 1)), by omega, Or.inr (Or.inr (Or.inr (Or.inl ⟨T, 1, 1, m, k + 1, _, _, hm, by omega, hC2, by omega, by omega, fun _ => Mr_fail hC.mr hDs hc_204, fun h => by omega, by omega, fun h => by omega, by rw [x_row_self, x_row_row, ix36 hd hk36, r4], rfl, rfl, rfl, rfl, rfl, by rw [nI_add], rfl⟩)))⟩
              · skip
                refine xt_ild rfl ?_
                refine xt_aln0 rfl (by first | decide | omega | assumption) ?_
                refine xt_gfr (q := (5, 14)) rfl (by first | rfl | assumption) rfl ?_
                refine xt_iln2 rfl ?_
                refine xt_ild rfl ?_
                refine xt_add ?_
                refine xt_ial (by first | rfl | assumption) (vx36 hd hk36) ?_
                refine xt_ceq (t := 184) rfl (fun hc_177 => ?_) (fun hc_177 => ?_)
                · skip
                  refine xt_blk rfl rfl (by dsimp only [List.take]) ?_
                  refine xt_ic ?_
                  refine xt_nil (t := 185) rfl ?_
                  refine xt_blk rfl rfl (by dsimp only [List.take]) ?_
                  refine xt_isn3 rfl (by dsimp only [x_sto]) ?_
                  refine xt_aln0 rfl (by first | decide | omega | assumption) ?_
                  refine xt_gfr (q := (5, 14)) rfl (by first | rfl | assumption) rfl ?_
                  refine xt_iln2 rfl ?_
                  refine xt_ild rfl ?_
                  refine xt_add ?_
                  refine xt_ild rfl ?_
                  refine xt_ias (by first | rfl | assumption) (vx36 hd hk36) ?_
                  refine xt_ild rfl ?_
                  refine xt_ne (t := 207) rfl (fun hc_199 => ?_) (fun hc_199 => ?_)
                  · skip
                    refine xt_blk rfl rfl (by dsimp only [List.take]) ?_
                    refine xt_ic ?_
                    refine xt_goto (t := 212) rfl ?_
                    refine xt_blk rfl rfl (by dsimp only [List.take]) ?_
                    refine xt_ist rfl (by dsimp only [x_sto]) ?_
                    refine xt_nil (t := 214) rfl ?_
                    refine xt_blk rfl rfl (by dsimp only [List.take]) ?_
                    refine xt_inc rfl (by dsimp only [x_sto]) ?_
                    refine xt_goto (t := 74) rfl ?_
                    refine xt_cut rfl rfl (by dsimp only [List.take]) ?_
                    have hC2 := Cls_st hC hDs
                    rw [ek] at hC2
                    have hmo0 : mo = 0 := by rw [n_eq0 (by omega)] at hc_163; exact hc_163
                    rw [r3, r4, nI_eq (by omega) (by omega)] at hc_177
                    have hid : lft g (k / 6) m (k % 6) = g (k / 6 * 6 + k % 6) := by rw [ek]; exact hc_177
                    have hng : nwr g (k / 6) (k % 6) (lft g (k / 6) m (k % 6)) = g := by rw [hid, nwr_id]
                    have hem1 : em = 1 := by rw [n_eq0 (by omega)] at hc_199; omega
                    refine ⟨T * 1000 + (6 - m) * 40 + (37 - (k + 1)), by omega, Or.inr (Or.inr (Or.inr (Or.inl ⟨T, 0, 1, m, k + 1, _, _, hm, by omega, hC2, by omega, by omega, fun _ => he1 hem1, fun h => by omega, by rw [hng]; omega, fun h => by rw [hng]; exact Swp_s (hsw hmo0) hk36 (fun _ => Tri_lft hid), by rw [x_row_self, x_row_row, ix36 hd hk36, r4], rfl, rfl, rfl, rfl, rfl, by rw [nI_add], rfl⟩)))⟩
                  · skip
                    refine xt_ild rfl ?_
                    refine xt_ne (t := 211) rfl (fun hc_204 => ?_) (fun hc_204 => ?_)
                    · skip
                      refine xt_blk rfl rfl (by dsimp only [List.take]) ?_
                      refine xt_ic ?_
                      refine xt_nil (t := 212) rfl ?_
                      refine xt_blk rfl rfl (by dsimp only [List.take]) ?_
                      refine xt_ist rfl (by dsimp only [x_sto]) ?_
                      refine xt_nil (t := 214) rfl ?_
                      refine xt_blk rfl rfl (by dsimp only [List.take]) ?_
                      refine xt_inc rfl (by dsimp only [x_sto]) ?_
                      refine xt_goto (t := 74) rfl ?_
                      refine xt_cut rfl rfl (by dsimp only [List.take]) ?_
                      have hC2 := Cls_st hC hDs
                      rw [ek] at hC2
                      have hmo0 : mo = 0 := by rw [n_eq0 (by omega)] at hc_163; exact hc_163
                      rw [r3, r4, nI_eq (by omega) (by omega)] at hc_177
                      have hid : lft g (k / 6) m (k % 6) = g (k / 6 * 6 + k % 6) := by rw [ek]; exact hc_177
                      have hng : nwr g (k / 6) (k % 6) (lft g (k / 6) m (k % 6)) = g := by rw [hid, nwr_id]
                      have hem0 : em = 0 := by rw [n_eq0 (by omega)] at hc_199; exact hc_199
                      rw [r4, n_eq0 (by omega)] at hc_204
                      refine ⟨T * 1000 + (6 - m) * 40 + (37 - (k + 1)), by omega, Or.inr (Or.inr (Or.inr (Or.inl ⟨T, 0, 0, m, k + 1, _, _, hm, by omega, hC2, by omega, by omega, fun h => by omega, fun _ j hj => ?_, by rw [hng]; omega, fun h => by rw [hng]; exact Swp_s (hsw hmo0) hk36 (fun _ => Tri_lft hid), by rw [x_row_self, x_row_row, ix36 hd hk36, r4], rfl, rfl, rfl, rfl, rfl, by rw [nI_add], rfl⟩)))⟩
                      unfold nwr
                      by_cases e : j = k / 6 * 6 + k % 6
                      · rw [if_pos e]; exact hc_204
                      · rw [if_neg e]; exact he0 hem0 j hj
                    · skip
                      refine xt_nil (t := 207) rfl ?_
                      refine xt_blk rfl rfl (by dsimp only [List.take]) ?_
                      refine xt_ic ?_
                      refine xt_goto (t := 212) rfl ?_
                      refine xt_blk rfl rfl (by dsimp only [List.take]) ?_
                      refine xt_ist rfl (by dsimp only [x_sto]) ?_
                      refine xt_nil (t := 214) rfl ?_
                      refine xt_blk rfl rfl (by dsimp only [List.take]) ?_
                      refine xt_inc rfl (by dsimp only [x_sto]) ?_
                      refine xt_goto (t := 74) rfl ?_
                      refine xt_cut rfl rfl (by dsimp only [List.take]) ?_
                      have hC2 := Cls_st hC hDs
                      rw [ek] at hC2
                      have hmo0 : mo = 0 := by rw [n_eq0 (by omega)] at hc_163; exact hc_163
                      rw [r3, r4, nI_eq (by omega) (by omega)] at hc_177
                      have hid : lft g (k / 6) m (k % 6) = g (k / 6 * 6 + k % 6) := by rw [ek]; exact hc_177
                      have hng : nwr g (k / 6) (k % 6) (lft g (k / 6) m (k % 6)) = g := by rw [hid, nwr_id]
                      have hem0 : em = 0 := by rw [n_eq0 (by omega)] at hc_199; exact hc_199
                      rw [r4, n_eq0 (by omega)] at hc_204
                      refine ⟨T * 1000 + (6 - m) * 40 + (37 - (k + 1)), by omega, Or.inr (Or.inr (Or.inr (Or.inl ⟨T, 0, 1, m, k + 1, _, _, hm, by omega, hC2, by omega, by omega, fun _ => Mr_fail hC.mr hDs hc_204, fun h => by omega, by rw [hng]; omega, fun h => by rw [hng]; exact Swp_s (hsw hmo0) hk36 (fun _ => Tri_lft hid), by rw [x_row_self, x_row_row, ix36 hd hk36, r4], rfl, rfl, rfl, rfl, rfl, by rw [nI_add], rfl⟩)))⟩
                · skip
                  refine xt_nil (t := 180) rfl ?_
                  refine xt_blk rfl rfl (by dsimp only [List.take]) ?_
                  refine xt_ic ?_
                  refine xt_goto (t := 185) rfl ?_
                  refine xt_blk rfl rfl (by dsimp only [List.take]) ?_
                  refine xt_isn3 rfl (by dsimp only [x_sto]) ?_
                  refine xt_aln0 rfl (by first | decide | omega | assumption) ?_
                  refine xt_gfr (q := (5, 14)) rfl (by first | rfl | assumption) rfl ?_
                  refine xt_iln2 rfl ?_
                  refine xt_ild rfl ?_
                  refine xt_add ?_
                  refine xt_ild rfl ?_
                  refine xt_ias (by first | rfl | assumption) (vx36 hd hk36) ?_
                  refine xt_ild rfl ?_
                  refine xt_ne (t := 207) rfl (fun hc_199 => ?_) (fun hc_199 => ?_)
                  · skip
                    refine xt_blk rfl rfl (by dsimp only [List.take]) ?_
                    refine xt_ic ?_
                    refine xt_goto (t := 212) rfl ?_
                    refine xt_blk rfl rfl (by dsimp only [List.take]) ?_
                    refine xt_ist rfl (by dsimp only [x_sto]) ?_
                    refine xt_nil (t := 214) rfl ?_
                    refine xt_blk rfl rfl (by dsimp only [List.take]) ?_
                    refine xt_inc rfl (by dsimp only [x_sto]) ?_
                    refine xt_goto (t := 74) rfl ?_
                    refine xt_cut rfl rfl (by dsimp only [List.take]) ?_
                    have hC2 := Cls_st hC hDs
                    rw [ek] at hC2
                    have hmo0 : mo = 0 := by rw [n_eq0 (by omega)] at hc_163; exact hc_163
                    rw [r3, r4, nI_eq (by omega) (by omega)] at hc_177
                    have htt := tot_nwr hC.bd hDs.1 hDs.2.2.1 hDs.2.2.2.2.2 (lft_sb g (k / 6) m (k % 6)) (by rw [ek]; exact hc_177)
                    have hem1 : em = 1 := by rw [n_eq0 (by omega)] at hc_199; omega
                    refine ⟨T * 1000 + (6 - m) * 40 + (37 - (k + 1)), by omega, Or.inr (Or.inr (Or.inr (Or.inl ⟨T, 1, 1, m, k + 1, _, _, hm, by omega, hC2, by omega, by omega, fun _ => he1 hem1, fun h => by omega, by omega, fun h => by omega, by rw [x_row_self, x_row_row, ix36 hd hk36, r4], rfl, rfl, rfl, rfl, rfl, by rw [nI_add], rfl⟩)))⟩
                  · skip
                    refine xt_ild rfl ?_
                    refine xt_ne (t := 211) rfl (fun hc_204 => ?_) (fun hc_204 => ?_)
                    · skip
                      refine xt_blk rfl rfl (by dsimp only [List.take]) ?_
                      refine xt_ic ?_
                      refine xt_nil (t := 212) rfl ?_
                      refine xt_blk rfl rfl (by dsimp only [List.take]) ?_
                      refine xt_ist rfl (by dsimp only [x_sto]) ?_
                      refine xt_nil (t := 214) rfl ?_
                      refine xt_blk rfl rfl (by dsimp only [List.take]) ?_
                      refine xt_inc rfl (by dsimp only [x_sto]) ?_
                      refine xt_goto (t := 74) rfl ?_
                      refine xt_cut rfl rfl (by dsimp only [List.take]) ?_
                      have hC2 := Cls_st hC hDs
                      rw [ek] at hC2
                      have hmo0 : mo = 0 := by rw [n_eq0 (by omega)] at hc_163; exact hc_163
                      rw [r3, r4, nI_eq (by omega) (by omega)] at hc_177
                      have htt := tot_nwr hC.bd hDs.1 hDs.2.2.1 hDs.2.2.2.2.2 (lft_sb g (k / 6) m (k % 6)) (by rw [ek]; exact hc_177)
                      have hem0 : em = 0 := by rw [n_eq0 (by omega)] at hc_199; exact hc_199
                      rw [r4, n_eq0 (by omega)] at hc_204
                      refine ⟨T * 1000 + (6 - m) * 40 + (37 - (k + 1)), by omega, Or.inr (Or.inr (Or.inr (Or.inl ⟨T, 1, 0, m, k + 1, _, _, hm, by omega, hC2, by omega, by omega, fun h => by omega, fun _ j hj => ?_, by omega, fun h => by omega, by rw [x_row_self, x_row_row, ix36 hd hk36, r4], rfl, rfl, rfl, rfl, rfl, by rw [nI_add], rfl⟩)))⟩
                      unfold nwr
                      by_cases e : j = k / 6 * 6 + k % 6
                      · rw [if_pos e]; exact hc_204
                      · rw [if_neg e]; exact he0 hem0 j hj
                    · skip
                      refine xt_nil (t := 207) rfl ?_
                      refine xt_blk rfl rfl (by dsimp only [List.take]) ?_
                      refine xt_ic ?_
                      refine xt_goto (t := 212) rfl ?_
                      refine xt_blk rfl rfl (by dsimp only [List.take]) ?_
                      refine xt_ist rfl (by dsimp only [x_sto]) ?_
                      refine xt_nil (t := 214) rfl ?_
                      refine xt_blk rfl rfl (by dsimp only [List.take]) ?_
                      refine xt_inc rfl (by dsimp only [x_sto]) ?_
                      refine xt_goto (t := 74) rfl ?_
                      refine xt_cut rfl rfl (by dsimp only [List.take]) ?_
                      have hC2 := Cls_st hC hDs
                      rw [ek] at hC2
                      have hmo0 : mo = 0 := by rw [n_eq0 (by omega)] at hc_163; exact hc_163
                      rw [r3, r4, nI_eq (by omega) (by omega)] at hc_177
                      have htt := tot_nwr hC.bd hDs.1 hDs.2.2.1 hDs.2.2.2.2.2 (lft_sb g (k / 6) m (k % 6)) (by rw [ek]; exact hc_177)
                      have hem0 : em = 0 := by rw [n_eq0 (by omega)] at hc_199; exact hc_199
                      rw [r4, n_eq0 (by omega)] at hc_204
                      refine ⟨T * 1000 + (6 - m) * 40 + (37 - (k + 1)), by omega, Or.inr (Or.inr (Or.inr (Or.inl ⟨T, 1, 1, m, k + 1, _, _, hm, by omega, hC2, by omega, by omega, fun _ => Mr_fail hC.mr hDs hc_204, fun h => by omega, by omega, fun h => by omega, by rw [x_row_self, x_row_row, ix36 hd hk36, r4], rfl, rfl, rfl, rfl, rfl, by rw [nI_add], rfl⟩)))⟩
    · refine ⟨_, rfl, ?_⟩
      refine xt_ild rfl ?_
      refine xt_bi ?_
      refine xt_cge (t := 260) rfl (fun hc_236 => ?_) (fun hc_236 => ?_)
      · skip
        refine xt_blk rfl rfl (by dsimp only [List.take]) ?_
        refine xt_ild rfl ?_
        refine xt_ne (t := 269) rfl (fun hc_262 => ?_) (fun hc_262 => ?_)
        · skip
          refine xt_blk rfl rfl (by dsimp only [List.take]) ?_
          refine xt_ic ?_
          refine xt_nil (t := 270) rfl ?_
          refine xt_blk rfl rfl (by dsimp only [List.take]) ?_
          refine xt_rz (by decide) rfl (Nat.le_refl _) ?_
          intro d2 f2 hd2 hAr2 e2
          simp only [List.cons.injEq, Sum.inl.injEq, and_true, true_and] at e2
          rw [nI_eq (by omega) (by omega)] at e2
          subst e2
          have hem1 : em = 1 := by rw [n_eq0 (by omega)] at hc_262; omega
          have hk36 : k = 36 := by rw [nI_leI (by omega) (by omega)] at hc_236; omega
          subst hk36
          exact ⟨rfl, gI, rfl, hfr, Or.inr ⟨rfl, (he1 hem1).2, Fail_cg (Ar_u hAr hAr2) (he1 hem1).1⟩⟩
        · skip
          refine xt_ic ?_
          refine xt_goto (t := 270) rfl ?_
          refine xt_blk rfl rfl (by dsimp only [List.take]) ?_
          refine xt_rz (by decide) rfl (Nat.le_refl _) ?_
          intro d2 f2 hd2 hAr2 e2
          simp only [List.cons.injEq, Sum.inl.injEq, and_true, true_and] at e2
          rw [nI_eq (by omega) (by omega)] at e2
          subst e2
          have hem0 : em = 0 := by rw [n_eq0 (by omega)] at hc_262; exact hc_262
          obtain ⟨g, g1, g2⟩ := he0 hem0
          exact ⟨rfl, gI, rfl, hfr, Or.inl ⟨rfl, g, g1, Cn_cg (Ar_u hAr hAr2) g2⟩⟩
      · skip
        refine xt_ild rfl ?_
        refine xt_eq (t := 260) rfl (fun hc_241 => ?_) (fun hc_241 => ?_)
        · skip
          refine xt_blk rfl rfl (by dsimp only [List.take]) ?_
          refine xt_ild rfl ?_
          refine xt_ne (t := 269) rfl (fun hc_262 => ?_) (fun hc_262 => ?_)
          · skip
            refine xt_blk rfl rfl (by dsimp only [List.take]) ?_
            refine xt_ic ?_
            refine xt_nil (t := 270) rfl ?_
            refine xt_blk rfl rfl (by dsimp only [List.take]) ?_
            refine xt_rz (by decide) rfl (Nat.le_refl _) ?_
            intro d2 f2 hd2 hAr2 e2
            simp only [List.cons.injEq, Sum.inl.injEq, and_true, true_and] at e2
            rw [nI_eq (by omega) (by omega)] at e2
            subst e2
            have hem1 : em = 1 := by rw [n_eq0 (by omega)] at hc_262; omega
            exact absurd hc_241 hc_262
          · skip
            refine xt_ic ?_
            refine xt_goto (t := 270) rfl ?_
            refine xt_blk rfl rfl (by dsimp only [List.take]) ?_
            refine xt_rz (by decide) rfl (Nat.le_refl _) ?_
            intro d2 f2 hd2 hAr2 e2
            simp only [List.cons.injEq, Sum.inl.injEq, and_true, true_and] at e2
            rw [nI_eq (by omega) (by omega)] at e2
            subst e2
            have hem0 : em = 0 := by rw [n_eq0 (by omega)] at hc_262; exact hc_262
            obtain ⟨g, g1, g2⟩ := he0 hem0
            exact ⟨rfl, gI, rfl, hfr, Or.inl ⟨rfl, g, g1, Cn_cg (Ar_u hAr hAr2) g2⟩⟩
        · skip
          refine xt_aln0 rfl (by first | decide | omega | assumption) ?_
          refine xt_gfr (q := (5, 14)) rfl (by first | rfl | assumption) rfl ?_
          refine xt_iln2 rfl ?_
          refine xt_ild rfl ?_
          refine xt_add ?_
          refine xt_ic ?_
          refine xt_ias (by first | rfl | assumption) (vx36 hd (by rw [nI_leI (by omega) (by omega)] at hc_236; omega)) ?_
          refine xt_inc rfl (by dsimp only [x_sto]) ?_
          refine xt_goto (t := 232) rfl ?_
          refine xt_cut rfl rfl (by dsimp only [List.take]) ?_
          have hk36 : k < 36 := by rw [nI_leI (by omega) (by omega)] at hc_236; omega
          have hem1 : em = 1 := by rw [n_eq0 (by omega)] at hc_241; omega
          refine ⟨36 - (k + 1), by omega, Or.inr (Or.inr (Or.inr (Or.inr ⟨mo, em, k + 1, _, by omega, hem, ?_, fun h => by omega, fun h => ⟨(he1 h).1, ?_⟩, by rw [x_row_self, x_row_row, ix36 hd hk36], rfl, rfl, rfl, rfl, rfl, by rw [nI_add], rfl⟩)))⟩
          · intro j hj; unfold upd; rw [if_neg (by omega)]; exact hfr j hj
          · intro j hj
            unfold upd
            by_cases e : j = k
            · rw [if_pos (by omega)]
            · rw [if_neg (by omega)]; exact (he1 h).2 j (by omega)
