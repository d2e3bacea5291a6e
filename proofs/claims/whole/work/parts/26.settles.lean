/-! SEARCH: settles -/
def isS (n : Nat) : Bool := (List.range 13).any fun r => n == 2 ^ r
theorem isS_ok {n : Nat} : isS n = true ↔ ∃ r, r < 13 ∧ n = 2 ^ r := by
  unfold isS
  simp [List.any_eq_true]
def scn (f : Nat → Nat) : Nat := sm (fun p => if isS (pf f p) then 1 else 0) 15
theorem pln_1 : ∀ r, r < 13 → ∀ i, i < 13 → (bi (msT (2 ^ r)) i = 1 → ¬ (sgT i &&& fo sgT (2 ^ r) 13 = sgT i)) := by decide +kernel
theorem pln_S {n : Nat} (h : isS n = true) : pln n := by
  obtain ⟨r, hr, rfl⟩ := isS_ok.mp h
  exact fun i hi => pln_1 r hr i hi
theorem scn_lt {f : Nat → Nat} {p : Nat} (hp : p < 15) (h : ¬ pln (pf f p)) : scn f ≤ 14 := by
  have h1 : isS (pf f p) = false := by
    cases q : isS (pf f p)
    · rfl
    · exact absurd (pln_S q) h
  have := sm_lt (F := fun _ => 1) (F' := fun p => if isS (pf f p) then 1 else 0) p 15 (fun j _ => by split <;> omega) hp (by rw [h1]; decide)
  have e : sm (fun _ => 1) 15 = 15 := by decide
  unfold scn
  omega
theorem sb_pow {n r : Nat} (h : sb n (2 ^ r)) (h0 : n ≠ 0) : n = 2 ^ r := by
  apply sb_as h
  refine sb_tb.mpr (fun i hi => ?_)
  rw [Nat.testBit_two_pow] at hi
  have hi : r = i := by simpa using hi
  subst hi
  obtain ⟨b, hb⟩ := Nat.exists_testBit_of_ne_zero h0
  have h2 := sb_tb.mp h b hb
  rw [Nat.testBit_two_pow] at h2
  have h2 : r = b := by simpa using h2
  rw [h2]; exact hb
theorem scn_up {f g : Nat → Nat} {p r : Nat} (hp : p < 15) (hr : r < 13) (hpl : ¬ pln (pf f p)) (hS : Sy f) (hb : (pf f p).testBit r = true) (hle : Le g (nw f (fsT p) (scT p) (2 ^ r))) (hN : NE g 0) : scn f + 1 ≤ scn g := by
  obtain ⟨f1, f2, f3, f4⟩ := fs_ok p hp
  have hv : sb (2 ^ r) (f (fsT p * 6 + scT p)) := sb_tb.mpr (fun i hi => by
    rw [Nat.testBit_two_pow] at hi
    have hi : r = i := by simpa using hi
    rw [← hi]; exact hb)
  have h1 : isS (pf f p) = false := by
    cases q : isS (pf f p)
    · rfl
    · exact absurd (pln_S q) hpl
  have hgp : isS (pf g p) = true := by
    refine isS_ok.mpr ⟨r, hr, sb_pow ?_ (hN _ _ f1 f2 f3 (Nat.zero_testBit _))⟩
    have := hle _ _ f1 f2 f3
    rw [nw_ab f _ f1 f2 f3] at this
    exact this
  refine sm_lt p 15 (fun j hj => ?_) hp (by rw [h1, hgp]; decide)
  by_cases q : isS (pf f j) = true
  · obtain ⟨g1, g2, g3, g4⟩ := fs_ok j hj
    obtain ⟨t, ht, e⟩ := isS_ok.mp q
    have hg : isS (pf g j) = true := isS_ok.mpr ⟨t, ht, sb_pow (by rw [← e]; exact Le_tr hle (nw_Le hS f1 f2 f3 hv) _ _ g1 g2 g3) (hN _ _ g1 g2 g3 (Nat.zero_testBit _))⟩
    rw [if_pos hg]
    split <;> omega
  · rw [if_neg q]; omega
theorem Sat_fix {f : Nat → Nat} (hS : Sy f) (hB : Bd f) {a b : Nat} (ha : a < 6) (hb : b < 6) (hab : a ≠ b) : Sat f ↔ ∃ r, r < 13 ∧ (f (a * 6 + b)).testBit r = true ∧ Sat (nw f a b (2 ^ r)) := by
  constructor
  · rintro ⟨Q, h1, h2⟩
    refine ⟨rP Q a b, rN_lt _ _ _ _, h2 a b ha hb hab, Q, h1, ?_⟩
    intro x y hx hy hxy
    by_cases q1 : x = a ∧ y = b
    · obtain ⟨rfl, rfl⟩ := q1
      rw [nw_ab f _ ha hb hab]; exact Nat.testBit_two_pow_self
    · by_cases q2 : x = b ∧ y = a
      · obtain ⟨rfl, rfl⟩ := q2
        rw [nw_ba, tn_pow _ (show rP Q y x < 13 from rN_lt _ _ _ _)]
        have : rP Q x y = 12 - rP Q y x := rN_turn (h1 y hy) (h1 x hx)
        rw [this]; exact Nat.testBit_two_pow_self
      · rw [nw_ne f _ ha hb hx hy q1 q2]; exact h2 x y hx hy hxy
  · rintro ⟨r, hr, hbit, Q, h1, h2⟩
    refine ⟨Q, h1, ?_⟩
    have hv : sb (2 ^ r) (f (a * 6 + b)) := sb_tb.mpr (fun i hi => by
      rw [Nat.testBit_two_pow] at hi
      have hi : r = i := by simpa using hi
      rw [← hi]; exact hbit)
    exact Hol_Le.mpr (Le_tr (Hol_Le.mp h2) (nw_Le hS ha hb hab hv))
theorem fix_IV {f : Nat → Nat} (hS : Sy f) (hB : Bd f) (hC : Clo f) (hN : NE f 0) {a b r : Nat} (ha : a < 6) (hb : b < 6) (hab : a ≠ b) (hr : r < 13) (hbit : (f (a * 6 + b)).testBit r = true) :
    Bd (nw f a b (2 ^ r)) ∧ Sy (nw f a b (2 ^ r)) ∧ IV (nw f a b (2 ^ r)) (2 ^ pr a b) ∧ NE (nw f a b (2 ^ r)) (2 ^ pr a b) ∧ Le (nw f a b (2 ^ r)) f := by
  have hv : sb (2 ^ r) (f (a * 6 + b)) := sb_tb.mpr (fun i hi => by
    rw [Nat.testBit_two_pow] at hi
    have hi : r = i := by simpa using hi
    rw [← hi]; exact hbit)
  have hlt : 2 ^ r < 8192 := Nat.pow_lt_pow_right (by decide) hr
  refine ⟨nw_Bd hB hlt, nw_Sy hS ha hb hab hlt, fun x y z hd p1 p2 => ?_, fun x y hx hy hxy p => ?_, nw_Le hS ha hb hab hv⟩
  · rw [Nat.testBit_two_pow] at p1 p2
    have p1 : ¬ pr a b = pr x y := by simpa using p1
    have p2 : ¬ pr a b = pr y z := by simpa using p2
    exact nw_Tri hS ha hb hab hv hd (Ne.symm p1) (Ne.symm p2) (hC x y z hd)
  · by_cases q1 : x = a ∧ y = b
    · obtain ⟨rfl, rfl⟩ := q1
      rw [nw_ab f _ ha hb hab]; exact Nat.ne_of_gt (Nat.two_pow_pos _)
    · by_cases q2 : x = b ∧ y = a
      · obtain ⟨rfl, rfl⟩ := q2
        rw [nw_ba]; exact tn_ne0 hlt (Nat.ne_of_gt (Nat.two_pow_pos _))
      · rw [nw_ne f _ ha hb hx hy q1 q2]; exact hN x y hx hy hxy (Nat.zero_testBit _)
theorem SHl (d : Nat) (hd : d < 16) : SH[10 + d]? = some (.inr (.inl (false, 36))) := by
  match d, hd with
  | 0, _ => rfl
  | 1, _ => rfl
  | 2, _ => rfl
  | 3, _ => rfl
  | 4, _ => rfl
  | 5, _ => rfl
  | 6, _ => rfl
  | 7, _ => rfl
  | 8, _ => rfl
  | 9, _ => rfl
  | 10, _ => rfl
  | 11, _ => rfl
  | 12, _ => rfl
  | 13, _ => rfl
  | 14, _ => rfl
  | 15, _ => rfl
  | n + 16, h => omega
theorem lvl : ∀ d, d < 16 → ([10, 11, 12, 13, 14, 15, 16, 17, 18, 19, 20, 21, 22, 23, 24, 25] : List Nat).getD d 0 = 10 + d := by decide
def qF : x_K := (2, fun _ _ _ => False, fun _ _ _ _ _ _ => True, 0, 0)
theorem x_cal_F {l : Launch} {R : Room} {cc : ByteArray} {own : String} {nL key : Nat} : x_Cal l R cc own nL key qF := by
  intro p e s m args below meth c G X E Q i pc as rest S M cs sl H locs lsA hi hdg hlen hrest hpre
  exact hpre.elim
/-- a net at a place -/
def At (M : x_M) (k : Nat) (f : Nat → Nat) : Prop := ∀ j, j < 36 → f j < 8192 ∧ M k j = nI (f j)
def q_X3_settles (n : Nat) : x_K := (2, fun as S M => ∃ (d : Nat) (f : Nat → Nat), d + n = 15 ∧ S = SH ∧ At M (10 + d) f ∧ Sy f ∧ Clo f ∧ NE f 0 ∧ d ≤ scn f ∧ as = [.inr (.inl 9), .inl (nI d)],
  fun as S M rv_ S' M' => ∀ (d : Nat) (f : Nat → Nat), d ≤ 15 → At M (10 + d) f → as = [.inr (.inl 9), .inl (nI d)] → S' = S ∧ (∀ k, k ≤ 10 + d ∨ 25 < k → M' k = M k) ∧ ((rv_ = some (.inl (nI 1)) ∧ Sat f) ∨ (rv_ = some (.inl (nI 0)) ∧ ¬ Sat f)), 0, 0)
def b_X3_settles : x_B := [(0, 2, [(.aload_n 0, 1), (.iload_n 1, 1), (.aaload, 1), (.astore_n 2, 1), (.aload_n 2, 1), (.invokestatic 40, 3), (.istore_n 3, 1), (.iload_n 3, 1), (.ifCond .ge 5, 3), (.iconst 1, 1), (.ireturn, 1)]),
  (15, 4, [(.iload_n 1, 1), (.bipush 15, 2), (.if_icmp .lt 5, 3), (.iconst 0, 1), (.ireturn, 1)]),
  (23, 4, [(.iload_n 3, 1), (.invokestatic 44, 3), (.istore 4, 2), (.iload_n 3, 1), (.invokestatic 48, 3), (.istore 5, 2), (.aload_n 2, 1), (.iload 4, 2), (.bipush 6, 2), (.imul, 1), (.iload 5, 2), (.iadd, 1), (.iaload, 1), (.istore 6, 2), (.aload_n 0, 1), (.iload_n 1, 1), (.iconst 1, 1), (.iadd, 1), (.aaload, 1), (.astore 7, 2), (.iconst 0, 1), (.istore 8, 2)]),
  (57, 9, [(.iload 8, 2), (.bipush 13, 2), (.if_icmp .ge 65, 3), (.iload 6, 2), (.iload 8, 2), (.ishr, 1), (.iconst 1, 1), (.iand, 1), (.ifCond .eq 49, 3), (.aload_n 2, 1), (.iconst 0, 1), (.aload 7, 2), (.iconst 0, 1), (.bipush 36, 2), (.invokestatic 18, 3), (.aload 7, 2), (.iload 4, 2), (.iload 5, 2), (.iconst 1, 1), (.iload 8, 2), (.ishl, 1), (.invokestatic 28, 3), (.aload 7, 2), (.iconst 1, 1), (.iload_n 3, 1), (.ishl, 1), (.invokestatic 36, 3), (.ifCond .eq 15, 3), (.aload_n 0, 1), (.iload_n 1, 1), (.iconst 1, 1), (.iadd, 1), (.invokestatic 24, 3), (.ifCond .eq 5, 3), (.iconst 1, 1), (.ireturn, 1)]),
  (120, 9, [(.iinc 8 1, 3), (.goto (-66), 3)]),
  (126, 9, [(.iconst 0, 1), (.ireturn, 1)])]
theorem b_X3_settles_ok : x_okB cX3_settles 9 b_X3_settles = true := by decide +kernel
def X_X3_settles (qq : x_K) : x_X := ([], [], [], [], [(120, q_X3_pairToSplit), (132, q_X1_firstOf), (144, q_X1_secondOf), (54, x_qC), (84, q_X1_put), (108, q_X1_close), (72, qq)], (0, 0), x_kn, x_kf, 5, false)
theorem X_X3_settles_ok (qq : x_K) : x_okT RX3 (X_X3_settles qq) = true := rfl
theorem k_X3_settles (l : Launch) (n : Nat) (qq : x_K) (hq : x_Cal l (x_rm (4 + n) 0 0) cX3_settles RX3 9 72 qq) : ∀ z ∈ (X_X3_settles qq).2.2.2.2.1, x_Cal l (x_rm (4 + n) 0 0) cX3_settles RX3 9 z.1 z.2 := List.forall_mem_cons.mpr ⟨x_cal_S (idx := 40) (c_X3_pairToSplit l) ⟨by simp only [x_rm]; omega, by simp only [x_rm]; omega⟩ (by decide +kernel) (by decide +kernel) (by decide +kernel) (by decide +kernel) (by decide +kernel), List.forall_mem_cons.mpr ⟨x_cal_S (idx := 44) (c_X1_firstOf l) ⟨by simp only [x_rm]; omega, by simp only [x_rm]; omega⟩ (by decide +kernel) (by decide +kernel) (by decide +kernel) (by decide +kernel) (by decide +kernel), List.forall_mem_cons.mpr ⟨x_cal_S (idx := 48) (c_X1_secondOf l) ⟨by simp only [x_rm]; omega, by simp only [x_rm]; omega⟩ (by decide +kernel) (by decide +kernel) (by decide +kernel) (by decide +kernel) (by decide +kernel), List.forall_mem_cons.mpr ⟨x_cal_C (idx := 18) ⟨by simp only [x_rm]; omega, by simp only [x_rm]; omega⟩ (by decide +kernel) (by decide +kernel) (by decide +kernel) (by decide +kernel), List.forall_mem_cons.mpr ⟨x_cal_S (idx := 28) (c_X1_put l) ⟨by simp only [x_rm]; omega, by simp only [x_rm]; omega⟩ (by decide +kernel) (by decide +kernel) (by decide +kernel) (by decide +kernel) (by decide +kernel), List.forall_mem_cons.mpr ⟨x_cal_S (idx := 36) (c_X1_close l) ⟨by simp only [x_rm]; omega, by simp only [x_rm]; omega⟩ (by decide +kernel) (by decide +kernel) (by decide +kernel) (by decide +kernel) (by decide +kernel), List.forall_mem_cons.mpr ⟨hq, fun _ h => absurd h List.not_mem_nil⟩⟩⟩⟩⟩⟩⟩
theorem pr_fs0 : ∀ a, a < 6 → ∀ b, b < 6 → (a < b → fsT (pr a b) = a ∧ scT (pr a b) = b) := by decide
theorem pr_fs (a b : Nat) (h : a < b) (hb : b < 6) : fsT (pr a b) = a ∧ scT (pr a b) = b := pr_fs0 a (by omega) b hb h
set_option maxHeartbeats 4000000 in
set_option maxRecDepth 100000 in
theorem c_settles1 (l : Launch) (n : Nat) (qq : x_K) (hq : x_Cal l (x_rm (4 + n) 0 0) cX3_settles RX3 9 72 qq) (hqq : n = 0 ∨ ∃ m, n = m + 1 ∧ qq = q_X3_settles m) : x_CT l yX3_settles cX3_settles 9 (some .boolean) (4 + n) (q_X3_settles n) := by
  refine x_meth (X := X_X3_settles qq) (bl := b_X3_settles) (cut := [57]) (own := RX3) 30 (by decide) rfl (X_X3_settles_ok qq) b_X3_settles_ok rfl (Nat.le_of_ble_eq_true rfl) (k_X3_settles l n qq hq) ?_
  rintro as S M - ⟨d, f, hdn, rfl, hf, hSy, hC, hN, hsc, rfl⟩
  have hsd := SHl d (by omega)
  refine ⟨fun μ pc ls st S' M' cs sl => ∃ p rel, p < 15 ∧ rel ≤ 13 ∧ d < 15 ∧ ¬ pln (pf f p) ∧ (∀ k, k ≤ 10 + d ∨ 25 < k → M' k = M k) ∧ (∀ r, r < rel → (pf f p).testBit r = true → ¬ Sat (nw f (fsT p) (scT p) (2 ^ r))) ∧ pc = 57 ∧ st = [] ∧ S' = SH ∧ cs = 0 ∧ sl = 0 ∧ ls = [.inr (.inl 9), .inl (nI d), .inr (.inl (10 + d)), .inl (nI p), .inl (nI (fsT p)), .inl (nI (scT p)), .inl (nI (pf f p)), .inr (.inl (10 + (d + 1))), .inl (nI rel)] ∧ μ = 13 - rel, ?_, ?_⟩
  · skip
    refine xt_blk rfl rfl (by dsimp only [List.take]) ?_
    refine xt_aln0 rfl (by first | decide | omega | assumption) ?_
    refine xt_iln1 rfl ?_
    refine xt_ral (r := 10 + d) rfl (show vp_in _ 16 from vp_in_nI (by omega) (by decide)) (by rw [nI_clamp (by omega)]; exact lvl d (by omega)) (by omega) ?_
    refine xt_asn2 rfl (by first | decide | omega | assumption) (by dsimp only [x_sto]) ?_
    refine xt_aln2 rfl (by first | decide | omega | assumption) ?_
    refine xt_v1 (key := 120) (q := q_X3_pairToSplit) rfl rfl rfl rfl rfl ⟨Nat.le_of_ble_eq_true rfl, Nat.le_of_ble_eq_true rfl⟩ ⟨10 + d, f, by omega, hsd, hf, rfl⟩ (fun rv_ S1 M1 hq_5 => ?_)
    obtain ⟨eS_, eM_, hps⟩ := hq_5 (10 + d) f hf rfl
    replace eS_ := eS_.symm
    replace eM_ := eM_.symm
    subst eS_ eM_
    have hex : ∃ v, rv_ = some (.inl v) := by rcases hps with ⟨p, -, -, e⟩ | ⟨-, e⟩ <;> exact ⟨_, e⟩
    obtain ⟨v, rfl⟩ := hex
    try dsimp only [Option.toList, List.cons_append, List.nil_append]
    refine xt_isn3 rfl (by dsimp only [x_sto]) ?_
    refine xt_iln3 rfl ?_
    refine xt_ge (t := 15) rfl (fun hc_10 => ?_) (fun hc_10 => ?_)
    · skip
      refine xt_blk rfl rfl (by dsimp only [List.take]) ?_
      refine xt_iln1 rfl ?_
      refine xt_bi ?_
      refine xt_clt (t := 23) rfl (fun hc_18 => ?_) (fun hc_18 => ?_)
      · skip
        have hlt : d < 15 := (nI_ltI (by omega) (by omega)).mp hc_18
        have hps2 : ∃ p, p < 15 ∧ ¬ pln (pf f p) ∧ v = nI p := by
          rcases hps with ⟨p, hp, hpl, e⟩ | ⟨hall, e⟩
          · exact ⟨p, hp, hpl, by cases e; rfl⟩
          · cases e; exact absurd hc_10 (by decide)
        refine xt_blk rfl rfl (by dsimp only [List.take]) ?_
        refine xt_iln3 rfl ?_
        refine xt_v1 (key := 132) (q := q_X1_firstOf) rfl rfl rfl rfl rfl ⟨Nat.le_of_ble_eq_true rfl, Nat.le_of_ble_eq_true rfl⟩ (by obtain ⟨p, hp, hpl, rfl⟩ := hps2; exact ⟨p, hp, rfl⟩) (fun rv_ S1 M1 hq_24 => ?_)
        obtain ⟨p, hp, hpl, rfl⟩ := hps2
        obtain ⟨eS_, eM_, rfl⟩ := hq_24 p hp rfl
        replace eS_ := eS_.symm
        replace eM_ := eM_.symm
        subst eS_ eM_
        change x_wp _ _ _ _ _ _ (.inl (nI (fsT p)) :: _) _ _ _ _
        try dsimp only [Option.toList, List.cons_append, List.nil_append]
        refine xt_ist rfl (by dsimp only [x_sto]) ?_
        refine xt_iln3 rfl ?_
        refine xt_v1 (key := 144) (q := q_X1_secondOf) rfl rfl rfl rfl rfl ⟨Nat.le_of_ble_eq_true rfl, Nat.le_of_ble_eq_true rfl⟩ ⟨p, hp, rfl⟩ (fun rv_ S1 M1 hq_30 => ?_)
        obtain ⟨eS_, eM_, rfl⟩ := hq_30 p hp rfl
        replace eS_ := eS_.symm
        replace eM_ := eM_.symm
        subst eS_ eM_
        change x_wp _ _ _ _ _ _ (.inl (nI (scT p)) :: _) _ _ _ _
        obtain ⟨g1, g2, g3, g4⟩ := fs_ok p hp
        have epf : M (10 + d) (nI (fsT p) * nI 6 + nI (scT p)).toNatClampNeg = nI (pf f p) := by rw [n_ixc g1 g2]; exact (hf _ (by omega)).2
        try dsimp only [Option.toList, List.cons_append, List.nil_append]
        refine xt_ist rfl (by dsimp only [x_sto]) ?_
        refine xt_aln2 rfl (by first | decide | omega | assumption) ?_
        refine xt_ild rfl ?_
        refine xt_bi ?_
        refine xt_mul ?_
        refine xt_ild rfl ?_
        refine xt_add ?_
        refine xt_ial (by first | rfl | assumption) (n_ixi g1 g2) ?_
        refine xt_ist rfl (by dsimp only [x_sto]) ?_
        refine xt_aln0 rfl (by first | decide | omega | assumption) ?_
        refine xt_iln1 rfl ?_
        refine xt_ic ?_
        refine xt_add ?_
        refine xt_ral (r := 10 + (d + 1)) rfl (show vp_in _ 16 from by rw [nI_add]; exact vp_in_nI (by omega) (by decide)) (by rw [nI_add, nI_clamp (by omega)]; exact lvl (d + 1) (by omega)) (by omega) ?_
        refine xt_ast rfl (by first | decide | omega | assumption) (by dsimp only [x_sto]) ?_
        refine xt_ic ?_
        refine xt_ist rfl (by dsimp only [x_sto]) ?_
        refine xt_nil (t := 57) rfl ?_
        refine xt_cut rfl rfl (by dsimp only [List.take]) ?_
        exact ⟨13, p, 0, hp, by omega, hlt, hpl, fun _ _ => rfl, fun r hr => by omega, rfl, rfl, rfl, rfl, rfl, by rw [epf], rfl⟩
      · skip
        refine xt_ic ?_
        refine xt_rz (by decide) rfl (Nat.le_refl _) ?_
        exfalso
        have hge := (not_congr (nI_ltI (a := d) (b := 15) (by omega) (by omega))).mp hc_18
        rcases hps with ⟨p, hp, hpl, e⟩ | ⟨hall, e⟩
        · have := scn_lt hp hpl; omega
        · cases e
          exact absurd hc_10 (by decide)
    · skip
      refine xt_ic ?_
      refine xt_rz (by decide) rfl (Nat.le_refl _) ?_
      intro d2 f2 hd2 hf2 e2
      simp only [List.cons.injEq, Sum.inl.injEq, Sum.inr.injEq, and_true, true_and] at e2
      rw [nI_eq (by omega) (by omega)] at e2
      subst e2
      have ef : ∀ j, j < 36 → f j = f2 j := fun j hj => by
        have h1 := (hf j hj).2
        rw [(hf2 j hj).2] at h1
        exact ((nI_eq (by have := (hf2 j hj).1; omega) (by have := (hf j hj).1; omega)).mp h1).symm
      have es : Sat f ↔ Sat f2 := by
        unfold Sat
        constructor
        · rintro ⟨Q, a1, a2⟩; exact ⟨Q, a1, fun x y hx hy hxy => by rw [← ef _ (by omega)]; exact a2 x y hx hy hxy⟩
        · rintro ⟨Q, a1, a2⟩; exact ⟨Q, a1, fun x y hx hy hxy => by rw [ef _ (by omega)]; exact a2 x y hx hy hxy⟩
      
      rcases hps with ⟨p, hp, hpl, e⟩ | ⟨hall, e⟩
      · cases e
        exact absurd (nI_pos' (by omega)) hc_10
      · refine ⟨rfl, fun _ _ => rfl, Or.inl ⟨rfl, es.mp (plain_sat (fun j hj => (hf j hj).1) hSy hC hN (fun a b hab hb => ?_))⟩⟩
        have hp := pr_lt (show a < 6 by omega) hb (by omega)
        have h1 := hall _ hp
        obtain ⟨g1, g2, g3, g4⟩ := fs_ok _ hp
        have h3 : fsT (pr a b) = a ∧ scT (pr a b) = b := pr_fs a b hab hb
        unfold pf at h1
        rw [h3.1, h3.2] at h1
        exact h1
  · rintro μ pc ls st S2 M2 cs sl (⟨p, rel, hp, hrel, hlt, hpl, hkeep, hno, rfl, rfl, rfl, rfl, rfl, rfl, rfl⟩)
    · refine ⟨_, rfl, ?_⟩
      refine xt_ild rfl ?_
      refine xt_bi ?_
      refine xt_cge (t := 126) rfl (fun hc_61 => ?_) (fun hc_61 => ?_)
      · skip
        refine xt_blk rfl rfl (by dsimp only [List.take]) ?_
        refine xt_ic ?_
        refine xt_rz (by decide) rfl (Nat.le_refl _) ?_
        have hr13 : rel = 13 := by rw [nI_leI (by omega) (by omega)] at hc_61; omega
        subst hr13
        obtain ⟨g1, g2, g3, g4⟩ := fs_ok p hp
        intro d2 f2 hd2 hf2 e2
        simp only [List.cons.injEq, Sum.inl.injEq, Sum.inr.injEq, and_true, true_and] at e2
        rw [nI_eq (by omega) (by omega)] at e2
        subst e2
        have ef : ∀ j, j < 36 → f j = f2 j := fun j hj => by
          have h1 := (hf j hj).2
          rw [(hf2 j hj).2] at h1
          exact ((nI_eq (by have := (hf2 j hj).1; omega) (by have := (hf j hj).1; omega)).mp h1).symm
        have es : Sat f ↔ Sat f2 := by
          unfold Sat
          constructor
          · rintro ⟨Q, a1, a2⟩; exact ⟨Q, a1, fun x y hx hy hxy => by rw [← ef _ (by omega)]; exact a2 x y hx hy hxy⟩
          · rintro ⟨Q, a1, a2⟩; exact ⟨Q, a1, fun x y hx hy hxy => by rw [ef _ (by omega)]; exact a2 x y hx hy hxy⟩
        
        refine ⟨rfl, hkeep, Or.inr ⟨rfl, fun hs => ?_⟩⟩
        obtain ⟨r, hr, hb, hs2⟩ := (Sat_fix hSy (fun j hj => (hf j hj).1) g1 g2 g3).mp (es.mpr hs)
        exact hno r hr hb hs2
      · skip
        refine xt_ild rfl ?_
        refine xt_ild rfl ?_
        refine xt_shr ?_
        refine xt_ic ?_
        refine xt_and ?_
        refine xt_eq (t := 120) rfl (fun hc_71 => ?_) (fun hc_71 => ?_)
        · skip
          refine xt_blk rfl rfl (by dsimp only [List.take]) ?_
          refine xt_inc rfl (by dsimp only [x_sto]) ?_
          refine xt_goto (t := 57) rfl ?_
          refine xt_cut rfl rfl (by dsimp only [List.take]) ?_
          have hr13 : rel < 13 := by rw [nI_leI (by omega) (by omega)] at hc_61; omega
          obtain ⟨g1, g2, g3, g4⟩ := fs_ok p hp
          have hfp : pf f p < 8192 := (hf _ (show fsT p * 6 + scT p < 36 by omega)).1
          rw [n_bit (by omega) (by omega), n_eq0 (by have := bi_lt (pf f p) rel; unfold bi at this; omega)] at hc_71
          refine ⟨13 - (rel + 1), by omega, p, rel + 1, hp, by omega, hlt, hpl, hkeep, fun r hr hb => ?_, rfl, rfl, rfl, rfl, rfl, by rw [nI_add], rfl⟩
          by_cases e : r = rel
          · exfalso
            rw [e, ← bi_tb] at hb
            unfold bi at hb
            omega
          · exact hno r (by omega) hb
        · skip
          have hr13 : rel < 13 := by rw [nI_leI (by omega) (by omega)] at hc_61; omega
          obtain ⟨g1, g2, g3, g4⟩ := fs_ok p hp
          have hfp : pf f p < 8192 := (hf _ (show fsT p * 6 + scT p < 36 by omega)).1
          have hbit : (pf f p).testBit rel = true := by
            rw [n_bit (by omega) (by omega), n_eq0 (by have := bi_lt (pf f p) rel; unfold bi at this; omega)] at hc_71
            rw [← bi_tb]
            have := bi_lt (pf f p) rel
            unfold bi at this ⊢
            omega
          refine xt_aln2 rfl (by first | decide | omega | assumption) ?_
          refine xt_ic ?_
          refine xt_ald rfl (by first | decide | omega | assumption) ?_
          refine xt_ic ?_
          refine xt_bi ?_
          refine xt_v5 (key := 54) (q := x_qC) rfl rfl rfl rfl rfl ⟨Nat.le_of_ble_eq_true rfl, Nat.le_of_ble_eq_true rfl⟩ ⟨10 + d, 10 + (d + 1), rfl, hsd, SHl (d + 1) (by omega)⟩ (fun rv_ S1 M1 hq_81 => ?_)
          obtain ⟨er, eS_, eM_⟩ := hq_81
          replace eS_ := eS_.symm
          subst eS_
          have eM1 := eM_ (10 + d) (10 + (d + 1)) rfl
          subst er
          subst eM1
          try dsimp only [Option.toList, List.cons_append, List.nil_append]
          refine xt_ald rfl (by first | decide | omega | assumption) ?_
          refine xt_ild rfl ?_
          refine xt_ild rfl ?_
          refine xt_ic ?_
          refine xt_ild rfl ?_
          refine xt_shl ?_
          refine xt_v4 (key := 84) (q := q_X1_put) rfl rfl rfl rfl rfl ⟨Nat.le_of_ble_eq_true rfl, Nat.le_of_ble_eq_true rfl⟩ ⟨10 + (d + 1), fsT p, scT p, 2 ^ rel, by omega, g1, g2, Nat.pow_lt_pow_right (by decide) hr13, SHl (d + 1) (by omega), by rw [n_shl (by omega) (by have := Nat.pow_lt_pow_right (show 1 < 2 by decide) hr13; omega), Nat.one_mul]⟩ (fun rv_ S1 M1 hq_94 => ?_)
          obtain ⟨eS_, eM_, rfl⟩ := hq_94 (10 + (d + 1)) (fsT p) (scT p) (2 ^ rel) g1 g2 (Nat.pow_lt_pow_right (by decide) hr13) (by rw [n_shl (by omega) (by have := Nat.pow_lt_pow_right (show 1 < 2 by decide) hr13; omega), Nat.one_mul])
          replace eS_ := eS_.symm
          replace eM_ := eM_.symm
          subst eS_ eM_
          rw [x_row_self, x_row_row]
          have hM10 : M2 (10 + d) = M (10 + d) := hkeep (10 + d) (Or.inl (Nat.le_refl _))
          obtain ⟨w1, w2, w3, w4, w5⟩ := fix_IV hSy (fun j hj => (hf j hj).1) hC hN g1 g2 g3 hr13 hbit
          have hupd := upd_nw (gI := x_cp (M2 (10 + d)) (M2 (10 + (d + 1))) 36) (g := f) (fun j hj => by unfold x_cp; rw [if_pos hj, hM10]; exact (hf j hj).2) (fsT p) (scT p) (2 ^ rel)
          generalize hgI : upd (upd (x_cp (M2 (10 + d)) (M2 (10 + (d + 1))) 36) (fsT p * 6 + scT p) (nI (2 ^ rel))) (scT p * 6 + fsT p) (nI (tn (2 ^ rel))) = gI0 at hupd ⊢
          rw [g4] at w3 w4
          have hat1 : ∀ j, j < 36 → nw f (fsT p) (scT p) (2 ^ rel) j < 8192 ∧ (x_row M2 (10 + (d + 1)) gI0) (10 + (d + 1)) j = nI (nw f (fsT p) (scT p) (2 ^ rel) j) := fun j hj => ⟨w1 j hj, by rw [x_row_self]; exact hupd j hj⟩
          have hpw : 2 ^ p < 2 ^ 15 := Nat.pow_lt_pow_right (by decide) hp
          try dsimp only [Option.toList, List.cons_append, List.nil_append]
          refine xt_ald rfl (by first | decide | omega | assumption) ?_
          refine xt_ic ?_
          refine xt_iln3 rfl ?_
          refine xt_shl ?_
          refine xt_v2 (key := 108) (q := q_X1_close) rfl rfl rfl rfl rfl ⟨Nat.le_of_ble_eq_true rfl, Nat.le_of_ble_eq_true rfl⟩ ⟨10 + (d + 1), 2 ^ p, nw f (fsT p) (scT p) (2 ^ rel), by omega, hpw, SHl (d + 1) (by omega), hat1, w2, w3, w4, by rw [n_shl (by omega) (by omega), Nat.one_mul]⟩ (fun rv_ S1 M1 hq_102 => ?_)
          obtain ⟨eS_, gI, eM_, hcc⟩ := hq_102 (10 + (d + 1)) (2 ^ p) _ hat1 (by rw [n_shl (by omega) (by omega), Nat.one_mul])
          replace eS_ := eS_.symm
          replace eM_ := eM_.symm
          subst eS_ eM_
          rw [x_row_row]
          have hkeep3 : ∀ k, k ≤ 10 + d ∨ 25 < k → (x_row M2 (10 + (d + 1)) gI) k = M k := fun k hk => by rw [x_row_ne _ _ (by omega)]; exact hkeep k hk
          have hex : ∃ v, rv_ = some (.inl v) := by rcases hcc with ⟨e, -⟩ | ⟨e, -⟩ <;> exact ⟨_, e⟩
          obtain ⟨v, rfl⟩ := hex
          try dsimp only [Option.toList, List.cons_append, List.nil_append]
          refine xt_eq (t := 120) rfl (fun hc_105 => ?_) (fun hc_105 => ?_)
          · skip
            refine xt_blk rfl rfl (by dsimp only [List.take]) ?_
            refine xt_inc rfl (by dsimp only [x_sto]) ?_
            refine xt_goto (t := 57) rfl ?_
            refine xt_cut rfl rfl (by dsimp only [List.take]) ?_
            refine ⟨13 - (rel + 1), by omega, p, rel + 1, hp, by omega, hlt, hpl, hkeep3, fun r hr hb => ?_, rfl, rfl, rfl, rfl, rfl, by rw [nI_add], rfl⟩
            by_cases e : r = rel
            · subst e
              rcases hcc with ⟨q, -⟩ | ⟨-, -, hF⟩
              · cases q; exact absurd hc_105 (by decide)
              · exact Sat_fail hF
            · exact hno r (by omega) hb
          · skip
            have hg0 : ∃ g, Bd g ∧ (∀ j, j < 36 → gI j = nI (g j)) ∧ Sy g ∧ Clo g ∧ NE g 0 ∧ Mx (nw f (fsT p) (scT p) (2 ^ rel)) g := by
              rcases hcc with ⟨-, q⟩ | ⟨q, -⟩
              · exact q
              · cases q; exact absurd rfl hc_105
            have hqq2 : ∃ m, n = m + 1 ∧ qq = q_X3_settles m := by
              rcases hqq with q | q
              · omega
              · exact q
            obtain ⟨mm, rfl, rfl⟩ := hqq2
            refine xt_aln0 rfl (by first | decide | omega | assumption) ?_
            refine xt_iln1 rfl ?_
            refine xt_ic ?_
            refine xt_add ?_
            refine xt_v2 (key := 72) (q := q_X3_settles mm) rfl rfl rfl rfl rfl ⟨Nat.le_of_ble_eq_true rfl, Nat.le_of_ble_eq_true rfl⟩ (by
                obtain ⟨g, q1, q2, q3, q4, q5, q6⟩ := hg0
                exact ⟨d + 1, g, by omega, rfl, fun j hj => ⟨q1 j hj, by rw [x_row_self]; exact q2 j hj⟩, q3, q4, q5, by have := scn_up hp hr13 hpl hSy hbit q6.1 q5; omega, by rw [nI_add]⟩) (fun rv_ S1 M1 hq_112 => ?_)
            obtain ⟨g, q1, q2, q3, q4, q5, hg6⟩ := hg0
            obtain ⟨eS_, hkk, hss⟩ := hq_112 (d + 1) g (by omega) (fun j hj => ⟨q1 j hj, by rw [x_row_self]; exact q2 j hj⟩) (by rw [nI_add])
            replace eS_ := eS_.symm
            subst eS_
            have hkeep4 : ∀ k, k ≤ 10 + d ∨ 25 < k → M1 k = M k := fun k hk => by rw [hkk k (by omega)]; exact hkeep3 k hk
            have hex : ∃ v, rv_ = some (.inl v) := by rcases hss with ⟨e, -⟩ | ⟨e, -⟩ <;> exact ⟨_, e⟩
            obtain ⟨v, rfl⟩ := hex
            try dsimp only [Option.toList, List.cons_append, List.nil_append]
            refine xt_eq (t := 120) rfl (fun hc_115 => ?_) (fun hc_115 => ?_)
            · skip
              refine xt_blk rfl rfl (by dsimp only [List.take]) ?_
              refine xt_inc rfl (by dsimp only [x_sto]) ?_
              refine xt_goto (t := 57) rfl ?_
              refine xt_cut rfl rfl (by dsimp only [List.take]) ?_
              refine ⟨13 - (rel + 1), by omega, p, rel + 1, hp, by omega, hlt, hpl, hkeep4, fun r hr hb => ?_, rfl, rfl, rfl, rfl, rfl, by rw [nI_add], rfl⟩
              by_cases e : r = rel
              · subst e
                rcases hss with ⟨q, -⟩ | ⟨-, hF⟩
                · cases q; exact absurd hc_115 (by decide)
                · exact fun z => hF ((Sat_mx hg6).mp z)
              · exact hno r (by omega) hb
            · skip
              refine xt_ic ?_
              refine xt_rz (by decide) rfl (Nat.le_refl _) ?_
              intro d2 f2 hd2 hf2 e2
              simp only [List.cons.injEq, Sum.inl.injEq, Sum.inr.injEq, and_true, true_and] at e2
              rw [nI_eq (by omega) (by omega)] at e2
              subst e2
              have ef : ∀ j, j < 36 → f j = f2 j := fun j hj => by
                have h1 := (hf j hj).2
                rw [(hf2 j hj).2] at h1
                exact ((nI_eq (by have := (hf2 j hj).1; omega) (by have := (hf j hj).1; omega)).mp h1).symm
              have es : Sat f ↔ Sat f2 := by
                unfold Sat
                constructor
                · rintro ⟨Q, a1, a2⟩; exact ⟨Q, a1, fun x y hx hy hxy => by rw [← ef _ (by omega)]; exact a2 x y hx hy hxy⟩
                · rintro ⟨Q, a1, a2⟩; exact ⟨Q, a1, fun x y hx hy hxy => by rw [ef _ (by omega)]; exact a2 x y hx hy hxy⟩
              
              rcases hss with ⟨-, hF⟩ | ⟨q, -⟩
              · exact ⟨rfl, hkeep4, Or.inl ⟨rfl, es.mp ((Sat_fix hSy (fun j hj => (hf j hj).1) g1 g2 g3).mpr ⟨rel, hr13, hbit, (Sat_mx hg6).mpr hF⟩)⟩⟩
              · cases q; exact absurd rfl hc_115
theorem hd_settles : yX3_settles.cls ≠ "java/lang/invoke/MethodHandle" ∧ yX3_settles.cls ≠ "java/lang/invoke/VarHandle" ∧ (parseMethodDescriptor yX3_settles.desc).map (fun d => d.parameters.length) = some 2 := by decide +kernel
theorem c_X3_settles (l : Launch) : ∀ n, x_CT l yX3_settles cX3_settles 9 (some .boolean) (4 + n) (q_X3_settles n)
  | 0 => c_settles1 l 0 qF x_cal_F (Or.inl rfl)
  | n + 1 => c_settles1 l (n + 1) (q_X3_settles n) (x_cal_S (idx := 24) (c_X3_settles l n) ⟨by simp only [x_rm]; omega, by simp only [x_rm]; omega⟩ (by decide +kernel) (by decide +kernel) (by decide +kernel) (by decide +kernel) hd_settles) (Or.inr ⟨n, rfl, rfl⟩)
