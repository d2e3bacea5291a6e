/-! CONSTRUCTORS: the class's, the reference's -/
def z0 : Nat → Int32 := fun _ => 0
def CIn (w : Nat) (M0 M : x_M) : Prop := (∀ k, 0 < k → k < 8 → M k = z0) ∧ (M 26 0 = nI 0 ∧ M 26 9 = -(nI 1) ∧ M 33 0 = nI 1 ∧ M 33 9 = -(nI 1)) ∧ (M 41 = z0 ∧ M 42 = z0) ∧ (∀ x j, x < w → j < 2 → M (44 + x) j = nI 8191) ∧ (∀ k, 52 < k → M k = M0 k)
theorem CIn_w {w : Nat} {M0 M : x_M} (h : CIn w M0 M) (hw : w < 8) {f : Nat → Int32} : CIn (w + 1) M0 (x_row M (44 + w) (x_cp (fun _ => nI 8191) f 2)) := by
  obtain ⟨a, b, c, d, e⟩ := h
  refine ⟨fun k h1 h2 => by rw [x_row_ne _ _ (by omega)]; exact a k h1 h2, ?_, ?_, fun x j hx hj => ?_, fun k hk => by rw [x_row_ne _ _ (by omega)]; exact e k hk⟩
  · rw [x_row_ne _ _ (show 26 ≠ 44 + w by omega), x_row_ne _ _ (show 33 ≠ 44 + w by omega)]; exact b
  · rw [x_row_ne _ _ (show 41 ≠ 44 + w by omega), x_row_ne _ _ (show 42 ≠ 44 + w by omega)]; exact c
  · by_cases q : x = w
    · subst q; rw [x_row_self]; unfold x_cp; rw [if_pos hj]
    · rw [x_row_ne _ _ (by omega)]; exact d x j (by omega) hj
def q_X6_init : x_K := (1, fun as S M => S = Sg 1 [(0, 4, [some 9999, some 9999, some 9999, some 9999, some 9999, some 9999])] ∧ as = [.inr (.inl 0)], fun as S M rv_ S' M' => as = [.inr (.inl 0)] → S' = Sg 53 [] ∧ CIn 8 M M' ∧ M' 52 = z0 ∧ rv_ = none, 52, 1224)
theorem r_X6_init : ∀ as S M, q_X6_init.2.1 as S M → ∃ (k : Nat) (as' : List x_V), as = .inr (.inl k) :: as' ∧ k < 1000 := by
  rintro as S M ⟨rfl, rfl⟩
  exact ⟨0, _, rfl, by decide⟩
def b_X6_init : x_B := [(0, 1, [(.aload_n 0, 1), (.invokespecial 1, 3), (.aload_n 0, 1), (.new 7, 3), (.dup, 1), (.invokespecial 9, 3), (.putfield 10, 3), (.new 16, 3), (.dup, 1), (.invokespecial 18, 3), (.astore_n 1, 1), (.aload_n 0, 1), (.new 19, 3), (.dup, 1), (.iconst 0, 1), (.aload_n 0, 1), (.getfield 10, 3), (.aload_n 1, 1), (.invokespecial 21, 3), (.putfield 24, 3), (.aload_n 0, 1), (.new 19, 3), (.dup, 1), (.iconst 1, 1), (.aload_n 0, 1), (.getfield 10, 3), (.aload_n 1, 1), (.invokespecial 21, 3), (.putfield 28, 3), (.aload_n 0, 1), (.new 31, 3), (.dup, 1), (.invokespecial 33, 3), (.putfield 34, 3), (.aload_n 0, 1), (.bipush 8, 2), (.iconst 2, 1), (.multianewarray 38 2, 4), (.putfield 40, 3), (.iconst 0, 1), (.istore_n 2, 1)]),
  (81, 3, [(.iload_n 2, 1), (.bipush 8, 2), (.if_icmp .ge 21, 3), (.aload_n 0, 1), (.getfield 40, 3), (.iload_n 2, 1), (.aaload, 1), (.sipush 8191, 3), (.invokestatic 43, 3), (.iinc 2 1, 3), (.goto (-21), 3)]),
  (105, 3, [(.aload_n 0, 1), (.bipush 7, 2), (.newarray .int, 2), (.putfield 49, 3), (.return_, 1)])]
theorem b_X6_init_ok : x_okB cX6_init 3 b_X6_init = true := by decide +kernel
def X_X6_init : x_X := ([(10, 4, 0), (24, 4, 1), (28, 4, 2), (34, 4, 3), (40, 4, 4), (49, 4, 5)], [], [], [(7, 2), (16, 1), (19, 3), (31, 0), (38, 99)], [(5, x_qO), (29, q_X4_init), (56, q_X3_init), (65, q_X5_init), (101, q_X0_init), (129, q_J7_fill)], (52, 1224), x_kn, x_kf, 5, true)
theorem X_X6_init_ok : x_okT RX6 X_X6_init = true := by decide +kernel
theorem k_X6_init (l : Launch) : ∀ z ∈ X_X6_init.2.2.2.2.1, x_Cal l (x_rm 2 52 1224) cX6_init RX6 3 z.1 z.2 := List.forall_mem_cons.mpr ⟨x_cal_O (idx := 1) ⟨by decide, by decide⟩ (by decide +kernel) (by decide +kernel) (by decide +kernel), List.forall_mem_cons.mpr ⟨x_cal_I (idx := 9) (n := 0) (c_X4_init l) ⟨by decide, by decide⟩ (by decide +kernel) (by decide +kernel) (by decide +kernel) (by decide +kernel) rfl rfl (by decide +kernel) r_X4_init, List.forall_mem_cons.mpr ⟨x_cal_I (idx := 18) (n := 0) (c_X3_init l) ⟨by decide, by decide⟩ (by decide +kernel) (by decide +kernel) (by decide +kernel) (by decide +kernel) rfl rfl (by decide +kernel) r_X3_init, List.forall_mem_cons.mpr ⟨x_cal_I (idx := 21) (n := 3) (c_X5_init l) ⟨by decide, by decide⟩ (by decide +kernel) (by decide +kernel) (by decide +kernel) (by decide +kernel) rfl rfl (by decide +kernel) r_X5_init, List.forall_mem_cons.mpr ⟨x_cal_I (idx := 33) (n := 0) (c_X0_init l) ⟨by decide, by decide⟩ (by decide +kernel) (by decide +kernel) (by decide +kernel) (by decide +kernel) rfl rfl (by decide +kernel) r_X0_init, List.forall_mem_cons.mpr ⟨x_cal_S (idx := 43) (c_J7_fill l) ⟨by decide, by decide⟩ (by decide +kernel) (by decide +kernel) (by decide +kernel) (by decide +kernel) (by decide +kernel), fun _ h => absurd h List.not_mem_nil⟩⟩⟩⟩⟩⟩
theorem cut_sh : ∀ w, w < 8 → (Sg 52 [(0, 4, [some 1, some 26, some 33, some 40, some 43, some 9999])])[44 + w]? = some (.inr (.inl (false, 2))) := by
  intro w hw
  rcases (show w = 0 ∨ w = 1 ∨ w = 2 ∨ w = 3 ∨ w = 4 ∨ w = 5 ∨ w = 6 ∨ w = 7 by omega) with rfl | rfl | rfl | rfl | rfl | rfl | rfl | rfl <;> rfl
set_option maxHeartbeats 8000000 in
set_option maxRecDepth 100000 in
theorem c_X6_init (l : Launch) : x_CT l yX6_init cX6_init 3 none 2 q_X6_init := by
  refine x_meth (X := X_X6_init) (bl := b_X6_init) (cut := [81]) (own := RX6) 30 (by decide) rfl X_X6_init_ok b_X6_init_ok rfl (Nat.le_of_ble_eq_true rfl) (k_X6_init l) ?_
  rintro as S M - ⟨rfl, rfl⟩
  · skip
    refine ⟨fun μ pc ls st S' M' cs sl => ∃ (w : Nat), w ≤ 8 ∧ CIn w M M' ∧ pc = 81 ∧ st = [] ∧ S' = Sg 52 [(0, 4, [some 1, some 26, some 33, some 40, some 43, some 9999])] ∧ cs = 51 ∧ sl = 1217 ∧ ls = [.inr (.inl 0), .inr (.inl 8), .inl (nI w)] ∧ μ = 8 - w, ?_, ?_⟩
    · skip
      refine xt_blk rfl rfl (by dsimp only [List.take]) ?_
      refine xt_aln0 rfl (by decide) ?_
      refine xt_v1 (key := 5) (q := x_qO) rfl rfl rfl rfl rfl ⟨Nat.le_of_ble_eq_true rfl, Nat.le_of_ble_eq_true rfl⟩ ⟨0, by decide, rfl⟩ (fun rv_ S1 M_1 hq_1 => ?_)
      obtain ⟨er_, eS_, eM_⟩ := hq_1
      subst er_ eS_ eM_
      try dsimp only [Option.toList, List.cons_append, List.nil_append]
      refine xt_aln0 rfl (by decide) ?_
      refine xt_new (ci := 2) (p := 1) (S' := Sg 2 [(0, 4, [some 9999, some 9999, some 9999, some 9999, some 9999, some 9999]), (1, 2, [some 9999, some 9999, some 9999, some 9999, none, none])]) (a := 1) (b := 6) rfl (by decide) (by rfl) (by decide) (by rfl) rfl rfl (Nat.le_of_ble_eq_true rfl) (Nat.le_of_ble_eq_true rfl) ?_
      refine xt_dup ?_
      refine xt_al1 (key := 29) (q := q_X4_init) (A := 6) (B := 152) (a := 7) (b := 158) rfl rfl rfl rfl rfl rfl rfl (Nat.le_of_ble_eq_true rfl) (Nat.le_of_ble_eq_true rfl) ⟨rfl, rfl⟩ (fun rv_ S1 M_9 hq_9 => ?_)
      obtain ⟨eS_, z4, f4, rfl⟩ := hq_9 rfl
      subst eS_
      try dsimp only [Option.toList, List.cons_append, List.nil_append]
      refine xt_pfr (q := (4, 0)) (S' := Sg 8 [(0, 4, [some 1, some 9999, some 9999, some 9999, some 9999, some 9999])]) rfl (by rfl) rfl (by decide) (by decide) rfl (by rfl) ?_
      refine xt_new (ci := 1) (p := 8) (S' := Sg 9 [(0, 4, [some 1, some 9999, some 9999, some 9999, some 9999, some 9999]), (8, 1, [some 9999])]) (a := 8) (b := 159) rfl (by decide) (by rfl) (by decide) (by rfl) rfl rfl (Nat.le_of_ble_eq_true rfl) (Nat.le_of_ble_eq_true rfl) ?_
      refine xt_dup ?_
      refine xt_al1 (key := 56) (q := q_X3_init) (A := 17) (B := 592) (a := 25) (b := 751) rfl rfl rfl rfl rfl rfl rfl (Nat.le_of_ble_eq_true rfl) (Nat.le_of_ble_eq_true rfl) ⟨rfl, rfl⟩ (fun rv_ S1 M_19 hq_19 => ?_)
      obtain ⟨eS_, z3, f3, rfl⟩ := hq_19 rfl
      subst eS_
      try dsimp only [Option.toList, List.cons_append, List.nil_append]
      refine xt_asn1 rfl (by decide) (by dsimp only [x_sto]) ?_
      refine xt_aln0 rfl (by decide) ?_
      refine xt_new (ci := 3) (p := 26) (S' := Sg 27 [(0, 4, [some 1, some 9999, some 9999, some 9999, some 9999, some 9999]), (26, 3, [none, some 9999, some 9999, some 9999, some 9999, some 9999, some 9999, some 9999, some 9999, none, none, none, none])]) (a := 26) (b := 764) rfl (by decide) (by rfl) (by decide) (by rfl) rfl rfl (Nat.le_of_ble_eq_true rfl) (Nat.le_of_ble_eq_true rfl) ?_
      refine xt_dup ?_
      refine xt_ic ?_
      refine xt_aln0 rfl (by decide) ?_
      refine xt_gfr (q := (4, 0)) rfl (by rfl) rfl ?_
      refine xt_aln1 rfl (by decide) ?_
      refine xt_al4 (key := 65) (q := q_X5_init) (A := 6) (B := 192) (a := 32) (b := 956) rfl rfl rfl rfl rfl rfl rfl (Nat.le_of_ble_eq_true rfl) (Nat.le_of_ble_eq_true rfl) ⟨26, w26, rfl, rfl⟩ (fun rv_ S1 M_34 hq_34 => ?_)
      obtain ⟨eS_, ⟨ua, va⟩, za, fa, rfl⟩ := hq_34 26 w26 rfl
      replace eS_ : S1 = Sg 33 [(0, 4, [some 1, some 9999, some 9999, some 9999, some 9999, some 9999])] := eS_
      subst eS_
      try dsimp only [Option.toList, List.cons_append, List.nil_append]
      refine xt_pfr (q := (4, 1)) (S' := Sg 33 [(0, 4, [some 1, some 26, some 9999, some 9999, some 9999, some 9999])]) rfl (by rfl) rfl (by decide) (by decide) rfl (by rfl) ?_
      refine xt_aln0 rfl (by decide) ?_
      refine xt_new (ci := 3) (p := 33) (S' := Sg 34 [(0, 4, [some 1, some 26, some 9999, some 9999, some 9999, some 9999]), (33, 3, [none, some 9999, some 9999, some 9999, some 9999, some 9999, some 9999, some 9999, some 9999, none, none, none, none])]) (a := 33) (b := 969) rfl (by decide) (by rfl) (by decide) (by rfl) rfl rfl (Nat.le_of_ble_eq_true rfl) (Nat.le_of_ble_eq_true rfl) ?_
      refine xt_dup ?_
      refine xt_ic ?_
      refine xt_aln0 rfl (by decide) ?_
      refine xt_gfr (q := (4, 0)) rfl (by rfl) rfl ?_
      refine xt_aln1 rfl (by decide) ?_
      refine xt_al4 (key := 65) (q := q_X5_init) (A := 6) (B := 192) (a := 39) (b := 1161) rfl rfl rfl rfl rfl rfl rfl (Nat.le_of_ble_eq_true rfl) (Nat.le_of_ble_eq_true rfl) ⟨33, w33, rfl, rfl⟩ (fun rv_ S1 M_51 hq_51 => ?_)
      obtain ⟨eS_, ⟨ub, vb⟩, zb, fb, rfl⟩ := hq_51 33 w33 rfl
      replace eS_ : S1 = Sg 40 [(0, 4, [some 1, some 26, some 9999, some 9999, some 9999, some 9999])] := eS_
      subst eS_
      try dsimp only [Option.toList, List.cons_append, List.nil_append]
      refine xt_pfr (q := (4, 2)) (S' := Sg 40 [(0, 4, [some 1, some 26, some 33, some 9999, some 9999, some 9999])]) rfl (by rfl) rfl (by decide) (by decide) rfl (by rfl) ?_
      refine xt_aln0 rfl (by decide) ?_
      refine xt_new (ci := 0) (p := 40) (S' := Sg 41 [(0, 4, [some 1, some 26, some 33, some 9999, some 9999, some 9999]), (40, 0, [some 9999, some 9999])]) (a := 40) (b := 1163) rfl (by decide) (by rfl) (by decide) (by rfl) rfl rfl (Nat.le_of_ble_eq_true rfl) (Nat.le_of_ble_eq_true rfl) ?_
      refine xt_dup ?_
      refine xt_al1 (key := 101) (q := q_X0_init) (A := 2) (B := 30) (a := 42) (b := 1193) rfl rfl rfl rfl rfl rfl rfl (Nat.le_of_ble_eq_true rfl) (Nat.le_of_ble_eq_true rfl) ⟨rfl, rfl⟩ (fun rv_ S1 M_62 hq_62 => ?_)
      obtain ⟨eS_, z0, f0, rfl⟩ := hq_62 rfl
      subst eS_
      try dsimp only [Option.toList, List.cons_append, List.nil_append]
      refine xt_pfr (q := (4, 3)) (S' := Sg 43 [(0, 4, [some 1, some 26, some 33, some 40, some 9999, some 9999])]) rfl (by rfl) rfl (by decide) (by decide) rfl (by rfl) ?_
      refine xt_aln0 rfl (by decide) ?_
      refine xt_bi ?_
      refine xt_ic ?_
      refine xt_mna (u := 8) (v := 2) (p := 43) (S' := Sg 52 [(0, 4, [some 1, some 26, some 33, some 40, some 9999, some 9999])]) (a := 51) (b := 1217) rfl (by decide) (by decide) (by rfl) (by decide) (by rfl) rfl rfl (Nat.le_of_ble_eq_true rfl) (Nat.le_of_ble_eq_true rfl) ?_
      refine xt_pfr (q := (4, 4)) (S' := Sg 52 [(0, 4, [some 1, some 26, some 33, some 40, some 43, some 9999])]) rfl (by rfl) rfl (by decide) (by decide) rfl (by rfl) ?_
      refine xt_ic ?_
      refine xt_isn2 rfl (by dsimp only [x_sto]) ?_
      refine xt_nil (t := 81) rfl ?_
      refine xt_cut rfl rfl (by dsimp only [List.take]) ?_
      refine ⟨_, 0, by omega, ⟨fun k h1 h2 => ?_, ⟨?_, ?_, ?_, ?_⟩, ⟨?_, ?_⟩, fun x j hx hj => by omega, fun k hk => ?_⟩, rfl, rfl, rfl, rfl, rfl, rfl, rfl⟩
      · rw [x_zr_out (by omega), f0 _ (by omega), x_row_ne _ _ (by omega), fb _ (by omega), x_row_ne _ _ (by omega), fa _ (by omega), x_row_ne _ _ (by omega), f3 _ (by omega), x_row_ne _ _ (by omega)]
        by_cases e : k = 1
        · subst e; rw [f4 _ (by omega), x_row_self]; rfl
        · exact z4 k (by omega) (by omega)
      · rw [x_zr_out (by omega), f0 _ (by omega), x_row_ne _ _ (by omega), fb _ (by omega), x_row_ne _ _ (by omega)]; exact ua
      · rw [x_zr_out (by omega), f0 _ (by omega), x_row_ne _ _ (by omega), fb _ (by omega), x_row_ne _ _ (by omega)]; exact va
      · rw [x_zr_out (by omega), f0 _ (by omega), x_row_ne _ _ (by omega)]; exact ub
      · rw [x_zr_out (by omega), f0 _ (by omega), x_row_ne _ _ (by omega)]; exact vb
      · rw [x_zr_out (by omega)]; exact z0 41 (by omega) (by omega)
      · rw [x_zr_out (by omega)]; exact z0 42 (by omega) (by omega)
      · rw [x_zr_out (by omega), f0 _ (by omega), x_row_ne _ _ (by omega), fb _ (by omega), x_row_ne _ _ (by omega), fa _ (by omega), x_row_ne _ _ (by omega), f3 _ (by omega), x_row_ne _ _ (by omega), f4 _ (by omega), x_row_ne _ _ (by omega)]
    · rintro μ pc ls st S2 M2 cs sl ⟨w, hw, hI, rfl, rfl, rfl, rfl, rfl, rfl, rfl⟩
      refine ⟨_, rfl, ?_⟩
      refine xt_iln2 rfl ?_
      refine xt_bi ?_
      refine xt_cge (t := 105) rfl (fun hc_84 => ?_) (fun hc_84 => ?_)
      · skip
        refine xt_blk rfl rfl (by dsimp only [List.take]) ?_
        refine xt_aln0 rfl (by decide) ?_
        refine xt_bi ?_
        refine xt_nwa (v := 7) (p := 52) (S' := Sg 53 [(0, 4, [some 1, some 26, some 33, some 40, some 43, some 9999])]) (a := 52) (b := 1224) (Or.inl rfl) (by decide) (by rfl) (by decide) (by rfl) rfl rfl (Nat.le_of_ble_eq_true rfl) (Nat.le_of_ble_eq_true rfl) ?_
        refine xt_pfr (q := (4, 5)) (S' := Sg 53 []) rfl (by rfl) rfl (by decide) (by decide) rfl (by rfl) ?_
        refine xt_rv rfl (Nat.le_of_ble_eq_true rfl) ?_
        intro e2
        have hw8 : w = 8 := by rw [nI_leI (by omega) (by omega)] at hc_84; omega
        subst hw8
        obtain ⟨a, b, c, d, e⟩ := hI
        refine ⟨rfl, ⟨fun k h1 h2 => by rw [x_row_ne _ _ (by omega)]; exact a k h1 h2, b, c, fun x j hx hj => by rw [x_row_ne _ _ (by omega)]; exact d x j hx hj, fun k hk => by rw [x_row_ne _ _ (by omega)]; exact e k hk⟩, ?_, rfl⟩
        rw [x_row_self]; rfl
      · skip
        have hw8 : w < 8 := by rw [nI_leI (by omega) (by omega)] at hc_84; omega
        refine xt_aln0 rfl (by decide) ?_
        refine xt_gfr (q := (4, 4)) rfl (by rfl) rfl ?_
        refine xt_iln2 rfl ?_
        refine xt_ral (r := 44 + w) (by rfl) (show vp_in _ 8 from vp_in_nI (by omega) (by decide)) (by rw [nI_clamp (by omega)]; exact stw w hw8) (by omega) ?_
        refine xt_si ?_
        refine xt_v2 (key := 129) (q := q_J7_fill) rfl rfl rfl rfl rfl ⟨Nat.le_of_ble_eq_true rfl, Nat.le_of_ble_eq_true rfl⟩ ⟨44 + w, 2, _, by omega, by decide, cut_sh w hw8, rfl⟩ (fun rv_ S1 M_96 hq_96 => ?_)
        obtain ⟨eS_, eM_, rfl⟩ := hq_96 (44 + w) 2 _ (cut_sh w hw8) rfl
        subst eS_ eM_
        try dsimp only [Option.toList, List.cons_append, List.nil_append]
        refine xt_inc rfl (by dsimp only [x_sto]) ?_
        refine xt_goto (t := 81) rfl ?_
        refine xt_cut rfl rfl (by dsimp only [List.take]) ?_
        exact ⟨8 - (w + 1), by omega, w + 1, by omega, CIn_w hI hw8, rfl, rfl, rfl, rfl, rfl, by rw [nI_add], rfl⟩
def Lit (M : x_M) (p : Nat) (L : List Nat) (M0 : x_M) : Prop := (∀ j, j < L.length → M p j = nI (L.getD j 0)) ∧ ∀ k, k ≠ p → M k = M0 k
theorem Lit_0 (M : x_M) (p : Nat) : Lit M p [] M := ⟨fun j hj => by simp at hj, fun _ _ => rfl⟩
theorem xt_lit {X : x_X} {Z : Instr → List x_V → List x_S → x_M → Nat → Nat → Prop} {J : x_J} {c : List (Instr × Nat)} {pc n : Nat} {ls st : List x_V} {S : List x_S} {M M0 : x_M} {cs sl i v p m : Nat} {L : List Nat} (h1 : S[p]? = some (.inr (.inl (false, m)))) (h2 : vp_in (nI i) m) (hi : L.length = i) (hi2 : i < 1000) (hL : Lit M p L M0)
    (h : ∀ M', Lit M' p (L ++ [v]) M0 → x_wp X Z J c (pc + n) ls st S M' cs sl) : x_wp X Z J ((.iastore, n) :: c) pc ls (.inl (nI v) :: .inl (nI i) :: .inr (.inl p) :: st) S M cs sl := by
  refine xt_ias h1 h2 (h _ ⟨fun j hj => ?_, fun k hk => ?_⟩)
  · rw [x_row_self, nI_clamp (by omega)]
    unfold upd
    subst hi
    rw [List.length_append] at hj
    by_cases e : j = L.length
    · subst e; rw [if_pos rfl]; simp
    · rw [if_neg e, hL.1 j (by simp at hj; omega)]
      congr 1
      simp only [List.getD_eq_getElem?_getD]
      rw [List.getElem?_append_left (by simp at hj; omega)]
  · rw [x_row_ne _ _ hk]; exact hL.2 k hk
def RIn (n : Nat) (M0 M : x_M) : Prop := (∀ k, k < 53 → M k = M0 k) ∧ (M 53 = M0 53 ∧ M 54 = z0 ∧ M 56 = z0 ∧ M 58 = z0 ∧ M 59 = z0 ∧ M 60 = z0 ∧ M 61 = z0 ∧ M 63 = z0 ∧ M 64 = z0 ∧ M 65 = z0) ∧ T68 M ∧ ∀ j, j < n → M 62 j = nI 8191
theorem RIn_s {n : Nat} {M0 M : x_M} (h : RIn n M0 M) : RIn (n + 1) M0 (x_row M 62 (upd (M 62) n (nI 8191))) := by
  obtain ⟨a, b, c, d⟩ := h
  refine ⟨fun k hk => by rw [x_row_ne _ _ (by omega)]; exact a k hk, b, c, fun j hj => ?_⟩
  rw [x_row_self]
  unfold upd
  by_cases e : j = n
  · rw [if_pos e]
  · rw [if_neg e]; exact d j (by omega)
theorem RIn_k {n : Nat} {M0 M M' : x_M} (h : RIn n M0 M) (e : ∀ k, k ≠ 54 → k ≠ 55 → k ≠ 56 → k ≠ 57 → k ≠ 66 → M' k = M k) : (∀ k, k < 53 → M' k = M0 k) ∧ (M' 53 = M0 53 ∧ M' 58 = z0 ∧ M' 59 = z0 ∧ M' 60 = z0 ∧ M' 61 = z0 ∧ M' 63 = z0 ∧ M' 64 = z0 ∧ M' 65 = z0) ∧ T68 M' ∧ ∀ j, j < n → M' 62 j = nI 8191 := by
  obtain ⟨a, ⟨b1, b2, b3, b4, b5, b6, b7, b8, b9, b10⟩, c, d⟩ := h
  have e' : ∀ k, (57 < k ∧ k < 66) ∨ k < 54 ∨ 66 < k → M' k = M k := fun k hk => e k (by omega) (by omega) (by omega) (by omega) (by omega)
  refine ⟨fun k hk => by rw [e' k (by omega)]; exact a k hk, ⟨?_, ?_, ?_, ?_, ?_, ?_, ?_, ?_⟩, fun j hj => ?_, fun j hj => by rw [e' 62 (by omega)]; exact d j hj⟩
  · rw [e' 53 (by omega)]; exact b1
  · rw [e' 58 (by omega)]; exact b4
  · rw [e' 59 (by omega)]; exact b5
  · rw [e' 60 (by omega)]; exact b6
  · rw [e' 61 (by omega)]; exact b7
  · rw [e' 63 (by omega)]; exact b8
  · rw [e' 64 (by omega)]; exact b9
  · rw [e' 65 (by omega)]; exact b10
  · rw [e' 68 (by omega), e' 69 (by omega)]; exact c j hj
def q_X7_init : x_K := (1, fun as S M => S = Sg 54 [(53, 5, [some 9999, some 9999, some 9999, some 9999, none, some 9999, some 9999, some 9999, some 9999, some 9999, some 9999, some 9999, some 9999, some 9999, some 9999, some 9999, some 9999, some 9999])] ∧ as = [.inr (.inl 53)], fun as S M rv_ S' M' => as = [.inr (.inl 53)] → S' = SH ∧ ((∀ k, k < 53 → M' k = M k) ∧ (M' 53 = M 53 ∧ M' 58 = z0 ∧ M' 59 = z0 ∧ M' 60 = z0 ∧ M' 61 = z0 ∧ M' 63 = z0 ∧ M' 64 = z0 ∧ M' 65 = z0) ∧ T68 M' ∧ ∀ j, j < 16 → M' 62 j = nI 8191) ∧ Tb M' ∧ rv_ = none, 17, 1232)
theorem r_X7_init : ∀ as S M, q_X7_init.2.1 as S M → ∃ (k : Nat) (as' : List x_V), as = .inr (.inl k) :: as' ∧ k < 1000 := by
  rintro as S M ⟨rfl, rfl⟩
  exact ⟨53, _, rfl, by decide⟩
def b_X7_init : x_B := [(0, 1, [(.aload_n 0, 1), (.invokespecial 1, 3), (.aload_n 0, 1), (.sipush 169, 3), (.newarray .int, 2), (.putfield 7, 3), (.aload_n 0, 1), (.bipush 52, 2), (.newarray .int, 2), (.putfield 13, 3), (.aload_n 0, 1), (.bipush 13, 2), (.newarray .int, 2), (.putfield 16, 3), (.aload_n 0, 1), (.sipush 169, 3), (.newarray .int, 2), (.putfield 19, 3), (.aload_n 0, 1), (.bipush 30, 2), (.newarray .int, 2), (.putfield 22, 3), (.aload_n 0, 1), (.bipush 30, 2), (.newarray .int, 2), (.putfield 25, 3), (.aload_n 0, 1), (.bipush 60, 2), (.newarray .int, 2), (.putfield 28, 3), (.aload_n 0, 1), (.bipush 30, 2), (.newarray .boolean, 2), (.putfield 31, 3), (.aload_n 0, 1), (.bipush 16, 2), (.newarray .int, 2), (.putfield 35, 3), (.aload_n 0, 1), (.bipush 6, 2), (.newarray .boolean, 2), (.putfield 38, 3), (.aload_n 0, 1), (.bipush 24, 2), (.newarray .int, 2), (.putfield 41, 3), (.aload_n 0, 1), (.bipush 7, 2), (.newarray .int, 2), (.putfield 44, 3), (.aload_n 0, 1), (.iconst 4, 1), (.newarray .int, 2), (.putfield 47, 3), (.aload_n 0, 1), (.sipush 576, 3), (.newarray .int, 2), (.putfield 50, 3), (.aload_n 0, 1), (.bipush 15, 2), (.newarray .int, 2), (.dup, 1), (.iconst 0, 1), (.iconst 0, 1), (.iastore, 1), (.dup, 1), (.iconst 1, 1), (.iconst 0, 1), (.iastore, 1), (.dup, 1), (.iconst 2, 1), (.iconst 0, 1), (.iastore, 1), (.dup, 1), (.iconst 3, 1), (.iconst 0, 1), (.iastore, 1), (.dup, 1), (.iconst 4, 1), (.iconst 0, 1), (.iastore, 1), (.dup, 1), (.iconst 5, 1), (.iconst 1, 1), (.iastore, 1), (.dup, 1), (.bipush 6, 2), (.iconst 1, 1), (.iastore, 1), (.dup, 1), (.bipush 7, 2), (.iconst 1, 1), (.iastore, 1), (.dup, 1), (.bipush 8, 2), (.iconst 1, 1), (.iastore, 1), (.dup, 1), (.bipush 9, 2), (.iconst 2, 1), (.iastore, 1), (.dup, 1), (.bipush 10, 2), (.iconst 2, 1), (.iastore, 1), (.dup, 1), (.bipush 11, 2), (.iconst 2, 1), (.iastore, 1), (.dup, 1), (.bipush 12, 2), (.iconst 3, 1), (.iastore, 1), (.dup, 1), (.bipush 13, 2), (.iconst 3, 1), (.iastore, 1), (.dup, 1), (.bipush 14, 2), (.iconst 4, 1), (.iastore, 1), (.putfield 53, 3), (.aload_n 0, 1), (.bipush 15, 2), (.newarray .int, 2), (.dup, 1), (.iconst 0, 1), (.iconst 1, 1), (.iastore, 1), (.dup, 1), (.iconst 1, 1), (.iconst 2, 1), (.iastore, 1), (.dup, 1), (.iconst 2, 1), (.iconst 3, 1), (.iastore, 1), (.dup, 1), (.iconst 3, 1), (.iconst 4, 1), (.iastore, 1), (.dup, 1), (.iconst 4, 1), (.iconst 5, 1), (.iastore, 1), (.dup, 1), (.iconst 5, 1), (.iconst 2, 1), (.iastore, 1), (.dup, 1), (.bipush 6, 2), (.iconst 3, 1), (.iastore, 1), (.dup, 1), (.bipush 7, 2), (.iconst 4, 1), (.iastore, 1), (.dup, 1), (.bipush 8, 2), (.iconst 5, 1), (.iastore, 1), (.dup, 1), (.bipush 9, 2), (.iconst 3, 1), (.iastore, 1), (.dup, 1), (.bipush 10, 2), (.iconst 4, 1), (.iastore, 1), (.dup, 1), (.bipush 11, 2), (.iconst 5, 1), (.iastore, 1), (.dup, 1), (.bipush 12, 2), (.iconst 4, 1), (.iastore, 1), (.dup, 1), (.bipush 13, 2), (.iconst 5, 1), (.iastore, 1), (.dup, 1), (.bipush 14, 2), (.iconst 5, 1), (.iastore, 1), (.putfield 56, 3), (.aload_n 0, 1), (.bipush 16, 2), (.newarray .int, 2), (.putfield 59, 3), (.iconst 0, 1), (.istore_n 1, 1)]),
  (282, 2, [(.iload_n 1, 1), (.bipush 16, 2), (.if_icmp .ge 18, 3), (.aload_n 0, 1), (.getfield 35, 3), (.iload_n 1, 1), (.sipush 8191, 3), (.iastore, 1), (.iinc 1 1, 3), (.goto (-18), 3)]),
  (303, 2, [(.aload_n 0, 1), (.invokevirtual 62, 3), (.aload_n 0, 1), (.invokevirtual 65, 3), (.aload_n 0, 1), (.invokevirtual 68, 3), (.aload_n 0, 1), (.invokevirtual 71, 3), (.return_, 1)])]
theorem b_X7_init_ok : x_okB cX7_init 2 b_X7_init = true := by decide +kernel
def X_X7_init : x_X := ([(7, 5, 0), (13, 5, 1), (16, 5, 2), (19, 5, 3), (22, 5, 5), (25, 5, 6), (28, 5, 7), (31, 5, 8), (35, 5, 9), (38, 5, 10), (41, 5, 11), (44, 5, 12), (47, 5, 13), (50, 5, 14), (53, 5, 15), (56, 5, 16), (59, 5, 17)], [], [], [], [(5, x_qO), (187, q_X7_findSamples), (196, q_X7_findComposed), (205, q_X7_findNear), (214, q_X7_findSteps)], (17, 1232), x_kn, x_kf, 5, true)
theorem X_X7_init_ok : x_okT RX7 X_X7_init = true := by decide +kernel
theorem k_X7_init (l : Launch) : ∀ z ∈ X_X7_init.2.2.2.2.1, x_Cal l (x_rm 5 17 1232) cX7_init RX7 2 z.1 z.2 := List.forall_mem_cons.mpr ⟨x_cal_O (idx := 1) ⟨by decide, by decide⟩ (by decide +kernel) (by decide +kernel) (by decide +kernel), List.forall_mem_cons.mpr ⟨x_cal_V (idx := 62) (ci := 5) (n := 0) (c_X7_findSamples l) ⟨by decide, by decide⟩ (by decide +kernel) (by decide +kernel) (by decide +kernel) (by decide +kernel) (by decide +kernel) rfl rfl rfl (by decide +kernel) r_X7_findSamples, List.forall_mem_cons.mpr ⟨x_cal_V (idx := 65) (ci := 5) (n := 0) (c_X7_findComposed l) ⟨by decide, by decide⟩ (by decide +kernel) (by decide +kernel) (by decide +kernel) (by decide +kernel) (by decide +kernel) rfl rfl rfl (by decide +kernel) r_X7_findComposed, List.forall_mem_cons.mpr ⟨x_cal_V (idx := 68) (ci := 5) (n := 0) (c_X7_findNear l) ⟨by decide, by decide⟩ (by decide +kernel) (by decide +kernel) (by decide +kernel) (by decide +kernel) (by decide +kernel) rfl rfl rfl (by decide +kernel) r_X7_findNear, List.forall_mem_cons.mpr ⟨x_cal_V (idx := 71) (ci := 5) (n := 0) (c_X7_findSteps l) ⟨by decide, by decide⟩ (by decide +kernel) (by decide +kernel) (by decide +kernel) (by decide +kernel) (by decide +kernel) rfl rfl rfl (by decide +kernel) r_X7_findSteps, fun _ h => absurd h List.not_mem_nil⟩⟩⟩⟩⟩
set_option maxHeartbeats 8000000 in
set_option maxRecDepth 100000 in
theorem c_X7_init (l : Launch) : x_CT l yX7_init cX7_init 2 none 5 q_X7_init := by
  refine x_meth (X := X_X7_init) (bl := b_X7_init) (cut := [282]) (own := RX7) 30 (by decide) rfl X_X7_init_ok b_X7_init_ok rfl (Nat.le_of_ble_eq_true rfl) (k_X7_init l) ?_
  rintro as S M - ⟨rfl, rfl⟩
  · skip
    refine ⟨fun μ pc ls st S' M' cs sl => ∃ (w : Nat), w ≤ 16 ∧ RIn w M M' ∧ pc = 282 ∧ st = [] ∧ S' = SH ∧ cs = 17 ∧ sl = 1232 ∧ ls = [.inr (.inl 53), .inl (nI w)] ∧ μ = 16 - w, ?_, ?_⟩
    · skip
      refine xt_blk rfl rfl (by dsimp only [List.take]) ?_
      refine xt_aln0 rfl (by decide) ?_
      refine xt_v1 (key := 5) (q := x_qO) rfl rfl rfl rfl rfl ⟨Nat.le_of_ble_eq_true rfl, Nat.le_of_ble_eq_true rfl⟩ ⟨53, by decide, rfl⟩ (fun rv_ S1 M_1 hq_1 => ?_)
      obtain ⟨er_, eS_, eM_⟩ := hq_1
      subst er_ eS_ eM_
      try dsimp only [Option.toList, List.cons_append, List.nil_append]
      refine xt_aln0 rfl (by decide) ?_
      refine xt_si ?_
      refine xt_nwa (v := 169) (p := 54) (S' := Sg 55 [(53, 5, [some 9999, some 9999, some 9999, some 9999, none, some 9999, some 9999, some 9999, some 9999, some 9999, some 9999, some 9999, some 9999, some 9999, some 9999, some 9999, some 9999, some 9999])]) (a := 1) (b := 169) (Or.inl rfl) (by decide) (by rfl) (by decide) (by rfl) rfl rfl (Nat.le_of_ble_eq_true rfl) (Nat.le_of_ble_eq_true rfl) ?_
      refine xt_pfr (q := (5, 0)) (S' := Sg 55 [(53, 5, [some 54, some 9999, some 9999, some 9999, none, some 9999, some 9999, some 9999, some 9999, some 9999, some 9999, some 9999, some 9999, some 9999, some 9999, some 9999, some 9999, some 9999])]) rfl (by rfl) rfl (by decide) (by decide) rfl (by rfl) ?_
      refine xt_aln0 rfl (by decide) ?_
      refine xt_bi ?_
      refine xt_nwa (v := 52) (p := 55) (S' := Sg 56 [(53, 5, [some 54, some 9999, some 9999, some 9999, none, some 9999, some 9999, some 9999, some 9999, some 9999, some 9999, some 9999, some 9999, some 9999, some 9999, some 9999, some 9999, some 9999])]) (a := 2) (b := 221) (Or.inl rfl) (by decide) (by rfl) (by decide) (by rfl) rfl rfl (Nat.le_of_ble_eq_true rfl) (Nat.le_of_ble_eq_true rfl) ?_
      refine xt_pfr (q := (5, 1)) (S' := Sg 56 [(53, 5, [some 54, some 55, some 9999, some 9999, none, some 9999, some 9999, some 9999, some 9999, some 9999, some 9999, some 9999, some 9999, some 9999, some 9999, some 9999, some 9999, some 9999])]) rfl (by rfl) rfl (by decide) (by decide) rfl (by rfl) ?_
      refine xt_aln0 rfl (by decide) ?_
      refine xt_bi ?_
      refine xt_nwa (v := 13) (p := 56) (S' := Sg 57 [(53, 5, [some 54, some 55, some 9999, some 9999, none, some 9999, some 9999, some 9999, some 9999, some 9999, some 9999, some 9999, some 9999, some 9999, some 9999, some 9999, some 9999, some 9999])]) (a := 3) (b := 234) (Or.inl rfl) (by decide) (by rfl) (by decide) (by rfl) rfl rfl (Nat.le_of_ble_eq_true rfl) (Nat.le_of_ble_eq_true rfl) ?_
      refine xt_pfr (q := (5, 2)) (S' := Sg 57 [(53, 5, [some 54, some 55, some 56, some 9999, none, some 9999, some 9999, some 9999, some 9999, some 9999, some 9999, some 9999, some 9999, some 9999, some 9999, some 9999, some 9999, some 9999])]) rfl (by rfl) rfl (by decide) (by decide) rfl (by rfl) ?_
      refine xt_aln0 rfl (by decide) ?_
      refine xt_si ?_
      refine xt_nwa (v := 169) (p := 57) (S' := Sg 58 [(53, 5, [some 54, some 55, some 56, some 9999, none, some 9999, some 9999, some 9999, some 9999, some 9999, some 9999, some 9999, some 9999, some 9999, some 9999, some 9999, some 9999, some 9999])]) (a := 4) (b := 403) (Or.inl rfl) (by decide) (by rfl) (by decide) (by rfl) rfl rfl (Nat.le_of_ble_eq_true rfl) (Nat.le_of_ble_eq_true rfl) ?_
      refine xt_pfr (q := (5, 3)) (S' := Sg 58 [(53, 5, [some 54, some 55, some 56, some 57, none, some 9999, some 9999, some 9999, some 9999, some 9999, some 9999, some 9999, some 9999, some 9999, some 9999, some 9999, some 9999, some 9999])]) rfl (by rfl) rfl (by decide) (by decide) rfl (by rfl) ?_
      refine xt_aln0 rfl (by decide) ?_
      refine xt_bi ?_
      refine xt_nwa (v := 30) (p := 58) (S' := Sg 59 [(53, 5, [some 54, some 55, some 56, some 57, none, some 9999, some 9999, some 9999, some 9999, some 9999, some 9999, some 9999, some 9999, some 9999, some 9999, some 9999, some 9999, some 9999])]) (a := 5) (b := 433) (Or.inl rfl) (by decide) (by rfl) (by decide) (by rfl) rfl rfl (Nat.le_of_ble_eq_true rfl) (Nat.le_of_ble_eq_true rfl) ?_
      refine xt_pfr (q := (5, 5)) (S' := Sg 59 [(53, 5, [some 54, some 55, some 56, some 57, none, some 58, some 9999, some 9999, some 9999, some 9999, some 9999, some 9999, some 9999, some 9999, some 9999, some 9999, some 9999, some 9999])]) rfl (by rfl) rfl (by decide) (by decide) rfl (by rfl) ?_
      refine xt_aln0 rfl (by decide) ?_
      refine xt_bi ?_
      refine xt_nwa (v := 30) (p := 59) (S' := Sg 60 [(53, 5, [some 54, some 55, some 56, some 57, none, some 58, some 9999, some 9999, some 9999, some 9999, some 9999, some 9999, some 9999, some 9999, some 9999, some 9999, some 9999, some 9999])]) (a := 6) (b := 463) (Or.inl rfl) (by decide) (by rfl) (by decide) (by rfl) rfl rfl (Nat.le_of_ble_eq_true rfl) (Nat.le_of_ble_eq_true rfl) ?_
      refine xt_pfr (q := (5, 6)) (S' := Sg 60 [(53, 5, [some 54, some 55, some 56, some 57, none, some 58, some 59, some 9999, some 9999, some 9999, some 9999, some 9999, some 9999, some 9999, some 9999, some 9999, some 9999, some 9999])]) rfl (by rfl) rfl (by decide) (by decide) rfl (by rfl) ?_
      refine xt_aln0 rfl (by decide) ?_
      refine xt_bi ?_
      refine xt_nwa (v := 60) (p := 60) (S' := Sg 61 [(53, 5, [some 54, some 55, some 56, some 57, none, some 58, some 59, some 9999, some 9999, some 9999, some 9999, some 9999, some 9999, some 9999, some 9999, some 9999, some 9999, some 9999])]) (a := 7) (b := 523) (Or.inl rfl) (by decide) (by rfl) (by decide) (by rfl) rfl rfl (Nat.le_of_ble_eq_true rfl) (Nat.le_of_ble_eq_true rfl) ?_
      refine xt_pfr (q := (5, 7)) (S' := Sg 61 [(53, 5, [some 54, some 55, some 56, some 57, none, some 58, some 59, some 60, some 9999, some 9999, some 9999, some 9999, some 9999, some 9999, some 9999, some 9999, some 9999, some 9999])]) rfl (by rfl) rfl (by decide) (by decide) rfl (by rfl) ?_
      refine xt_aln0 rfl (by decide) ?_
      refine xt_bi ?_
      refine xt_nwa (v := 30) (p := 61) (S' := Sg 62 [(53, 5, [some 54, some 55, some 56, some 57, none, some 58, some 59, some 60, some 9999, some 9999, some 9999, some 9999, some 9999, some 9999, some 9999, some 9999, some 9999, some 9999])]) (a := 8) (b := 553) (Or.inr rfl) (by decide) (by rfl) (by decide) (by rfl) rfl rfl (Nat.le_of_ble_eq_true rfl) (Nat.le_of_ble_eq_true rfl) ?_
      refine xt_pfr (q := (5, 8)) (S' := Sg 62 [(53, 5, [some 54, some 55, some 56, some 57, none, some 58, some 59, some 60, some 61, some 9999, some 9999, some 9999, some 9999, some 9999, some 9999, some 9999, some 9999, some 9999])]) rfl (by rfl) rfl (by decide) (by decide) rfl (by rfl) ?_
      refine xt_aln0 rfl (by decide) ?_
      refine xt_bi ?_
      refine xt_nwa (v := 16) (p := 62) (S' := Sg 63 [(53, 5, [some 54, some 55, some 56, some 57, none, some 58, some 59, some 60, some 61, some 9999, some 9999, some 9999, some 9999, some 9999, some 9999, some 9999, some 9999, some 9999])]) (a := 9) (b := 569) (Or.inl rfl) (by decide) (by rfl) (by decide) (by rfl) rfl rfl (Nat.le_of_ble_eq_true rfl) (Nat.le_of_ble_eq_true rfl) ?_
      refine xt_pfr (q := (5, 9)) (S' := Sg 63 [(53, 5, [some 54, some 55, some 56, some 57, none, some 58, some 59, some 60, some 61, some 62, some 9999, some 9999, some 9999, some 9999, some 9999, some 9999, some 9999, some 9999])]) rfl (by rfl) rfl (by decide) (by decide) rfl (by rfl) ?_
      refine xt_aln0 rfl (by decide) ?_
      refine xt_bi ?_
      refine xt_nwa (v := 6) (p := 63) (S' := Sg 64 [(53, 5, [some 54, some 55, some 56, some 57, none, some 58, some 59, some 60, some 61, some 62, some 9999, some 9999, some 9999, some 9999, some 9999, some 9999, some 9999, some 9999])]) (a := 10) (b := 575) (Or.inr rfl) (by decide) (by rfl) (by decide) (by rfl) rfl rfl (Nat.le_of_ble_eq_true rfl) (Nat.le_of_ble_eq_true rfl) ?_
      refine xt_pfr (q := (5, 10)) (S' := Sg 64 [(53, 5, [some 54, some 55, some 56, some 57, none, some 58, some 59, some 60, some 61, some 62, some 63, some 9999, some 9999, some 9999, some 9999, some 9999, some 9999, some 9999])]) rfl (by rfl) rfl (by decide) (by decide) rfl (by rfl) ?_
      refine xt_aln0 rfl (by decide) ?_
      refine xt_bi ?_
      refine xt_nwa (v := 24) (p := 64) (S' := Sg 65 [(53, 5, [some 54, some 55, some 56, some 57, none, some 58, some 59, some 60, some 61, some 62, some 63, some 9999, some 9999, some 9999, some 9999, some 9999, some 9999, some 9999])]) (a := 11) (b := 599) (Or.inl rfl) (by decide) (by rfl) (by decide) (by rfl) rfl rfl (Nat.le_of_ble_eq_true rfl) (Nat.le_of_ble_eq_true rfl) ?_
      refine xt_pfr (q := (5, 11)) (S' := Sg 65 [(53, 5, [some 54, some 55, some 56, some 57, none, some 58, some 59, some 60, some 61, some 62, some 63, some 64, some 9999, some 9999, some 9999, some 9999, some 9999, some 9999])]) rfl (by rfl) rfl (by decide) (by decide) rfl (by rfl) ?_
      refine xt_aln0 rfl (by decide) ?_
      refine xt_bi ?_
      refine xt_nwa (v := 7) (p := 65) (S' := Sg 66 [(53, 5, [some 54, some 55, some 56, some 57, none, some 58, some 59, some 60, some 61, some 62, some 63, some 64, some 9999, some 9999, some 9999, some 9999, some 9999, some 9999])]) (a := 12) (b := 606) (Or.inl rfl) (by decide) (by rfl) (by decide) (by rfl) rfl rfl (Nat.le_of_ble_eq_true rfl) (Nat.le_of_ble_eq_true rfl) ?_
      refine xt_pfr (q := (5, 12)) (S' := Sg 66 [(53, 5, [some 54, some 55, some 56, some 57, none, some 58, some 59, some 60, some 61, some 62, some 63, some 64, some 65, some 9999, some 9999, some 9999, some 9999, some 9999])]) rfl (by rfl) rfl (by decide) (by decide) rfl (by rfl) ?_
      refine xt_aln0 rfl (by decide) ?_
      refine xt_ic ?_
      refine xt_nwa (v := 4) (p := 66) (S' := Sg 67 [(53, 5, [some 54, some 55, some 56, some 57, none, some 58, some 59, some 60, some 61, some 62, some 63, some 64, some 65, some 9999, some 9999, some 9999, some 9999, some 9999])]) (a := 13) (b := 610) (Or.inl rfl) (by decide) (by rfl) (by decide) (by rfl) rfl rfl (Nat.le_of_ble_eq_true rfl) (Nat.le_of_ble_eq_true rfl) ?_
      refine xt_pfr (q := (5, 13)) (S' := Sg 67 [(53, 5, [some 54, some 55, some 56, some 57, none, some 58, some 59, some 60, some 61, some 62, some 63, some 64, some 65, some 66, some 9999, some 9999, some 9999, some 9999])]) rfl (by rfl) rfl (by decide) (by decide) rfl (by rfl) ?_
      refine xt_aln0 rfl (by decide) ?_
      refine xt_si ?_
      refine xt_nwa (v := 576) (p := 67) (S' := Sg 68 [(53, 5, [some 54, some 55, some 56, some 57, none, some 58, some 59, some 60, some 61, some 62, some 63, some 64, some 65, some 66, some 9999, some 9999, some 9999, some 9999])]) (a := 14) (b := 1186) (Or.inl rfl) (by decide) (by rfl) (by decide) (by rfl) rfl rfl (Nat.le_of_ble_eq_true rfl) (Nat.le_of_ble_eq_true rfl) ?_
      refine xt_pfr (q := (5, 14)) (S' := Sg 68 [(53, 5, [some 54, some 55, some 56, some 57, none, some 58, some 59, some 60, some 61, some 62, some 63, some 64, some 65, some 66, some 67, some 9999, some 9999, some 9999])]) rfl (by rfl) rfl (by decide) (by decide) rfl (by rfl) ?_
      refine xt_aln0 rfl (by decide) ?_
      refine xt_bi ?_
      refine xt_nwa (v := 15) (p := 68) (S' := Sg 69 [(53, 5, [some 54, some 55, some 56, some 57, none, some 58, some 59, some 60, some 61, some 62, some 63, some 64, some 65, some 66, some 67, some 9999, some 9999, some 9999])]) (a := 15) (b := 1201) (Or.inl rfl) (by decide) (by rfl) (by decide) (by rfl) rfl rfl (Nat.le_of_ble_eq_true rfl) (Nat.le_of_ble_eq_true rfl) ?_
      
      refine xt_dup ?_
      refine xt_ic ?_
      refine xt_ic ?_
      refine xt_lit (L := []) (i := 0) (v := 0) (by rfl) (vp_in_nI (by decide) (by decide)) rfl (by decide) (Lit_0 _ _) (fun MB hLn => ?_)
      have hL1 := hLn
      refine xt_dup ?_
      refine xt_ic ?_
      refine xt_ic ?_
      refine xt_lit (L := [0]) (i := 1) (v := 0) (by rfl) (vp_in_nI (by decide) (by decide)) rfl (by decide) hL1 (fun MB hLn => ?_)
      have hL1 := hLn
      refine xt_dup ?_
      refine xt_ic ?_
      refine xt_ic ?_
      refine xt_lit (L := [0, 0]) (i := 2) (v := 0) (by rfl) (vp_in_nI (by decide) (by decide)) rfl (by decide) hL1 (fun MB hLn => ?_)
      have hL1 := hLn
      refine xt_dup ?_
      refine xt_ic ?_
      refine xt_ic ?_
      refine xt_lit (L := [0, 0, 0]) (i := 3) (v := 0) (by rfl) (vp_in_nI (by decide) (by decide)) rfl (by decide) hL1 (fun MB hLn => ?_)
      have hL1 := hLn
      refine xt_dup ?_
      refine xt_ic ?_
      refine xt_ic ?_
      refine xt_lit (L := [0, 0, 0, 0]) (i := 4) (v := 0) (by rfl) (vp_in_nI (by decide) (by decide)) rfl (by decide) hL1 (fun MB hLn => ?_)
      have hL1 := hLn
      refine xt_dup ?_
      refine xt_ic ?_
      refine xt_ic ?_
      refine xt_lit (L := [0, 0, 0, 0, 0]) (i := 5) (v := 1) (by rfl) (vp_in_nI (by decide) (by decide)) rfl (by decide) hL1 (fun MB hLn => ?_)
      have hL1 := hLn
      refine xt_dup ?_
      refine xt_bi ?_
      refine xt_ic ?_
      refine xt_lit (L := [0, 0, 0, 0, 0, 1]) (i := 6) (v := 1) (by rfl) (vp_in_nI (by decide) (by decide)) rfl (by decide) hL1 (fun MB hLn => ?_)
      have hL1 := hLn
      refine xt_dup ?_
      refine xt_bi ?_
      refine xt_ic ?_
      refine xt_lit (L := [0, 0, 0, 0, 0, 1, 1]) (i := 7) (v := 1) (by rfl) (vp_in_nI (by decide) (by decide)) rfl (by decide) hL1 (fun MB hLn => ?_)
      have hL1 := hLn
      refine xt_dup ?_
      refine xt_bi ?_
      refine xt_ic ?_
      refine xt_lit (L := [0, 0, 0, 0, 0, 1, 1, 1]) (i := 8) (v := 1) (by rfl) (vp_in_nI (by decide) (by decide)) rfl (by decide) hL1 (fun MB hLn => ?_)
      have hL1 := hLn
      refine xt_dup ?_
      refine xt_bi ?_
      refine xt_ic ?_
      refine xt_lit (L := [0, 0, 0, 0, 0, 1, 1, 1, 1]) (i := 9) (v := 2) (by rfl) (vp_in_nI (by decide) (by decide)) rfl (by decide) hL1 (fun MB hLn => ?_)
      have hL1 := hLn
      refine xt_dup ?_
      refine xt_bi ?_
      refine xt_ic ?_
      refine xt_lit (L := [0, 0, 0, 0, 0, 1, 1, 1, 1, 2]) (i := 10) (v := 2) (by rfl) (vp_in_nI (by decide) (by decide)) rfl (by decide) hL1 (fun MB hLn => ?_)
      have hL1 := hLn
      refine xt_dup ?_
      refine xt_bi ?_
      refine xt_ic ?_
      refine xt_lit (L := [0, 0, 0, 0, 0, 1, 1, 1, 1, 2, 2]) (i := 11) (v := 2) (by rfl) (vp_in_nI (by decide) (by decide)) rfl (by decide) hL1 (fun MB hLn => ?_)
      have hL1 := hLn
      refine xt_dup ?_
      refine xt_bi ?_
      refine xt_ic ?_
      refine xt_lit (L := [0, 0, 0, 0, 0, 1, 1, 1, 1, 2, 2, 2]) (i := 12) (v := 3) (by rfl) (vp_in_nI (by decide) (by decide)) rfl (by decide) hL1 (fun MB hLn => ?_)
      have hL1 := hLn
      refine xt_dup ?_
      refine xt_bi ?_
      refine xt_ic ?_
      refine xt_lit (L := [0, 0, 0, 0, 0, 1, 1, 1, 1, 2, 2, 2, 3]) (i := 13) (v := 3) (by rfl) (vp_in_nI (by decide) (by decide)) rfl (by decide) hL1 (fun MB hLn => ?_)
      have hL1 := hLn
      refine xt_dup ?_
      refine xt_bi ?_
      refine xt_ic ?_
      refine xt_lit (L := [0, 0, 0, 0, 0, 1, 1, 1, 1, 2, 2, 2, 3, 3]) (i := 14) (v := 4) (by rfl) (vp_in_nI (by decide) (by decide)) rfl (by decide) hL1 (fun MB hLn => ?_)
      have hL1 := hLn
      refine xt_pfr (q := (5, 15)) (S' := Sg 69 [(53, 5, [some 54, some 55, some 56, some 57, none, some 58, some 59, some 60, some 61, some 62, some 63, some 64, some 65, some 66, some 67, some 68, some 9999, some 9999])]) rfl (by rfl) rfl (by decide) (by decide) rfl (by rfl) ?_
      refine xt_aln0 rfl (by decide) ?_
      refine xt_bi ?_
      refine xt_nwa (v := 15) (p := 69) (S' := Sg 70 [(53, 5, [some 54, some 55, some 56, some 57, none, some 58, some 59, some 60, some 61, some 62, some 63, some 64, some 65, some 66, some 67, some 68, some 9999, some 9999])]) (a := 16) (b := 1216) (Or.inl rfl) (by decide) (by rfl) (by decide) (by rfl) rfl rfl (Nat.le_of_ble_eq_true rfl) (Nat.le_of_ble_eq_true rfl) ?_
      
      refine xt_dup ?_
      refine xt_ic ?_
      refine xt_ic ?_
      refine xt_lit (L := []) (i := 0) (v := 1) (by rfl) (vp_in_nI (by decide) (by decide)) rfl (by decide) (Lit_0 _ _) (fun MB hLn => ?_)
      have hL2 := hLn
      refine xt_dup ?_
      refine xt_ic ?_
      refine xt_ic ?_
      refine xt_lit (L := [1]) (i := 1) (v := 2) (by rfl) (vp_in_nI (by decide) (by decide)) rfl (by decide) hL2 (fun MB hLn => ?_)
      have hL2 := hLn
      refine xt_dup ?_
      refine xt_ic ?_
      refine xt_ic ?_
      refine xt_lit (L := [1, 2]) (i := 2) (v := 3) (by rfl) (vp_in_nI (by decide) (by decide)) rfl (by decide) hL2 (fun MB hLn => ?_)
      have hL2 := hLn
      refine xt_dup ?_
      refine xt_ic ?_
      refine xt_ic ?_
      refine xt_lit (L := [1, 2, 3]) (i := 3) (v := 4) (by rfl) (vp_in_nI (by decide) (by decide)) rfl (by decide) hL2 (fun MB hLn => ?_)
      have hL2 := hLn
      refine xt_dup ?_
      refine xt_ic ?_
      refine xt_ic ?_
      refine xt_lit (L := [1, 2, 3, 4]) (i := 4) (v := 5) (by rfl) (vp_in_nI (by decide) (by decide)) rfl (by decide) hL2 (fun MB hLn => ?_)
      have hL2 := hLn
      refine xt_dup ?_
      refine xt_ic ?_
      refine xt_ic ?_
      refine xt_lit (L := [1, 2, 3, 4, 5]) (i := 5) (v := 2) (by rfl) (vp_in_nI (by decide) (by decide)) rfl (by decide) hL2 (fun MB hLn => ?_)
      have hL2 := hLn
      refine xt_dup ?_
      refine xt_bi ?_
      refine xt_ic ?_
      refine xt_lit (L := [1, 2, 3, 4, 5, 2]) (i := 6) (v := 3) (by rfl) (vp_in_nI (by decide) (by decide)) rfl (by decide) hL2 (fun MB hLn => ?_)
      have hL2 := hLn
      refine xt_dup ?_
      refine xt_bi ?_
      refine xt_ic ?_
      refine xt_lit (L := [1, 2, 3, 4, 5, 2, 3]) (i := 7) (v := 4) (by rfl) (vp_in_nI (by decide) (by decide)) rfl (by decide) hL2 (fun MB hLn => ?_)
      have hL2 := hLn
      refine xt_dup ?_
      refine xt_bi ?_
      refine xt_ic ?_
      refine xt_lit (L := [1, 2, 3, 4, 5, 2, 3, 4]) (i := 8) (v := 5) (by rfl) (vp_in_nI (by decide) (by decide)) rfl (by decide) hL2 (fun MB hLn => ?_)
      have hL2 := hLn
      refine xt_dup ?_
      refine xt_bi ?_
      refine xt_ic ?_
      refine xt_lit (L := [1, 2, 3, 4, 5, 2, 3, 4, 5]) (i := 9) (v := 3) (by rfl) (vp_in_nI (by decide) (by decide)) rfl (by decide) hL2 (fun MB hLn => ?_)
      have hL2 := hLn
      refine xt_dup ?_
      refine xt_bi ?_
      refine xt_ic ?_
      refine xt_lit (L := [1, 2, 3, 4, 5, 2, 3, 4, 5, 3]) (i := 10) (v := 4) (by rfl) (vp_in_nI (by decide) (by decide)) rfl (by decide) hL2 (fun MB hLn => ?_)
      have hL2 := hLn
      refine xt_dup ?_
      refine xt_bi ?_
      refine xt_ic ?_
      refine xt_lit (L := [1, 2, 3, 4, 5, 2, 3, 4, 5, 3, 4]) (i := 11) (v := 5) (by rfl) (vp_in_nI (by decide) (by decide)) rfl (by decide) hL2 (fun MB hLn => ?_)
      have hL2 := hLn
      refine xt_dup ?_
      refine xt_bi ?_
      refine xt_ic ?_
      refine xt_lit (L := [1, 2, 3, 4, 5, 2, 3, 4, 5, 3, 4, 5]) (i := 12) (v := 4) (by rfl) (vp_in_nI (by decide) (by decide)) rfl (by decide) hL2 (fun MB hLn => ?_)
      have hL2 := hLn
      refine xt_dup ?_
      refine xt_bi ?_
      refine xt_ic ?_
      refine xt_lit (L := [1, 2, 3, 4, 5, 2, 3, 4, 5, 3, 4, 5, 4]) (i := 13) (v := 5) (by rfl) (vp_in_nI (by decide) (by decide)) rfl (by decide) hL2 (fun MB hLn => ?_)
      have hL2 := hLn
      refine xt_dup ?_
      refine xt_bi ?_
      refine xt_ic ?_
      refine xt_lit (L := [1, 2, 3, 4, 5, 2, 3, 4, 5, 3, 4, 5, 4, 5]) (i := 14) (v := 5) (by rfl) (vp_in_nI (by decide) (by decide)) rfl (by decide) hL2 (fun MB hLn => ?_)
      have hL2 := hLn
      refine xt_pfr (q := (5, 16)) (S' := Sg 70 [(53, 5, [some 54, some 55, some 56, some 57, none, some 58, some 59, some 60, some 61, some 62, some 63, some 64, some 65, some 66, some 67, some 68, some 69, some 9999])]) rfl (by rfl) rfl (by decide) (by decide) rfl (by rfl) ?_
      refine xt_aln0 rfl (by decide) ?_
      refine xt_bi ?_
      refine xt_nwa (v := 16) (p := 70) (S' := Sg 71 [(53, 5, [some 54, some 55, some 56, some 57, none, some 58, some 59, some 60, some 61, some 62, some 63, some 64, some 65, some 66, some 67, some 68, some 69, some 9999])]) (a := 17) (b := 1232) (Or.inl rfl) (by decide) (by rfl) (by decide) (by rfl) rfl rfl (Nat.le_of_ble_eq_true rfl) (Nat.le_of_ble_eq_true rfl) ?_
      refine xt_pfr (q := (5, 17)) (S' := Sg 71 []) rfl (by rfl) rfl (by decide) (by decide) rfl (by rfl) ?_
      refine xt_ic ?_
      refine xt_isn1 rfl (by dsimp only [x_sto]) ?_
      refine xt_nil (t := 282) rfl ?_
      refine xt_cut rfl rfl (by dsimp only [List.take]) ?_
      have hA : ∀ j, j < 15 → fsT j = ([0, 0, 0, 0, 0, 1, 1, 1, 1, 2, 2, 2, 3, 3, 4] : List Nat).getD j 0 := by decide
      have hB : ∀ j, j < 15 → scT j = ([1, 2, 3, 4, 5, 2, 3, 4, 5, 3, 4, 5, 4, 5, 5] : List Nat).getD j 0 := by decide
      refine ⟨_, 0, by omega, ⟨fun k hk => ?_, ⟨?_, ?_, ?_, ?_, ?_, ?_, ?_, ?_, ?_, ?_⟩, fun j hj => ⟨?_, ?_⟩, fun j hj => by omega⟩, rfl, rfl, rfl, rfl, rfl, rfl, rfl⟩
      · rw [x_row_ne _ _ (by omega), hL2.2 _ (by omega), x_row_ne _ _ (by omega), hL1.2 _ (by omega), x_row_ne _ _ (by omega)]
        repeat rw [x_row_ne _ _ (by omega)]
      · rw [x_row_ne _ _ (by omega), hL2.2 _ (by omega), x_row_ne _ _ (by omega), hL1.2 _ (by omega), x_row_ne _ _ (by omega)]
        rfl
      · rw [x_row_ne _ _ (by omega), hL2.2 _ (by omega), x_row_ne _ _ (by omega), hL1.2 _ (by omega), x_row_ne _ _ (by omega)]
        rfl
      · rw [x_row_ne _ _ (by omega), hL2.2 _ (by omega), x_row_ne _ _ (by omega), hL1.2 _ (by omega), x_row_ne _ _ (by omega)]
        rfl
      · rw [x_row_ne _ _ (by omega), hL2.2 _ (by omega), x_row_ne _ _ (by omega), hL1.2 _ (by omega), x_row_ne _ _ (by omega)]
        rfl
      · rw [x_row_ne _ _ (by omega), hL2.2 _ (by omega), x_row_ne _ _ (by omega), hL1.2 _ (by omega), x_row_ne _ _ (by omega)]
        rfl
      · rw [x_row_ne _ _ (by omega), hL2.2 _ (by omega), x_row_ne _ _ (by omega), hL1.2 _ (by omega), x_row_ne _ _ (by omega)]
        rfl
      · rw [x_row_ne _ _ (by omega), hL2.2 _ (by omega), x_row_ne _ _ (by omega), hL1.2 _ (by omega), x_row_ne _ _ (by omega)]
        rfl
      · rw [x_row_ne _ _ (by omega), hL2.2 _ (by omega), x_row_ne _ _ (by omega), hL1.2 _ (by omega), x_row_ne _ _ (by omega)]
        rfl
      · rw [x_row_ne _ _ (by omega), hL2.2 _ (by omega), x_row_ne _ _ (by omega), hL1.2 _ (by omega), x_row_ne _ _ (by omega)]
        rfl
      · rw [x_row_ne _ _ (by omega), hL2.2 _ (by omega), x_row_ne _ _ (by omega), hL1.2 _ (by omega), x_row_ne _ _ (by omega)]
        rfl
      · rw [x_row_ne _ _ (by omega), hL2.2 _ (by omega), x_row_ne _ _ (by omega), hL1.1 j hj, hA j hj]
        rfl
      · rw [x_row_ne _ _ (by omega), hL2.1 j hj, hB j hj]
        rfl
    · rintro μ pc ls st S2 M2 cs sl ⟨w, hw, hI, rfl, rfl, rfl, rfl, rfl, rfl, rfl⟩
      refine ⟨_, rfl, ?_⟩
      refine xt_iln1 rfl ?_
      refine xt_bi ?_
      refine xt_cge (t := 303) rfl (fun hc_285 => ?_) (fun hc_285 => ?_)
      · skip
        refine xt_blk rfl rfl (by dsimp only [List.take]) ?_
        refine xt_aln0 rfl (by decide) ?_
        refine xt_v1 (key := 187) (q := q_X7_findSamples) rfl rfl rfl rfl rfl ⟨Nat.le_of_ble_eq_true rfl, Nat.le_of_ble_eq_true rfl⟩ ⟨rfl, rfl⟩ (fun rv_ S1 M_304 hq_304 => ?_)
        obtain ⟨eS_, ⟨g1, e1⟩, t55, rfl⟩ := hq_304 rfl
        subst eS_
        try dsimp only [Option.toList, List.cons_append, List.nil_append]
        refine xt_aln0 rfl (by decide) ?_
        refine xt_v1 (key := 196) (q := q_X7_findComposed) rfl rfl rfl rfl rfl ⟨Nat.le_of_ble_eq_true rfl, Nat.le_of_ble_eq_true rfl⟩ ⟨by rw [e1, x_row_ne _ _ (by decide)]; exact hI.2.1.2.1, rfl, rfl⟩ (fun rv_ S1 M_308 hq_308 => ?_)
        obtain ⟨eS_, ⟨g2, e2⟩, t54, rfl⟩ := hq_308 rfl
        subst eS_
        try dsimp only [Option.toList, List.cons_append, List.nil_append]
        refine xt_aln0 rfl (by decide) ?_
        refine xt_v1 (key := 205) (q := q_X7_findNear) rfl rfl rfl rfl rfl ⟨Nat.le_of_ble_eq_true rfl, Nat.le_of_ble_eq_true rfl⟩ ⟨by rw [e2, x_row_ne _ _ (by decide), e1, x_row_ne _ _ (by decide)]; exact hI.2.1.2.2.1, rfl, rfl⟩ (fun rv_ S1 M_312 hq_312 => ?_)
        obtain ⟨eS_, e3, t56, rfl⟩ := hq_312 rfl
        subst eS_
        try dsimp only [Option.toList, List.cons_append, List.nil_append]
        refine xt_aln0 rfl (by decide) ?_
        refine xt_v1 (key := 214) (q := q_X7_findSteps) rfl rfl rfl rfl rfl ⟨Nat.le_of_ble_eq_true rfl, Nat.le_of_ble_eq_true rfl⟩ ⟨t56, rfl, rfl⟩ (fun rv_ S1 M_316 hq_316 => ?_)
        obtain ⟨eS_, ⟨g4, e4⟩, t57, rfl⟩ := hq_316 rfl
        subst eS_
        try dsimp only [Option.toList, List.cons_append, List.nil_append]
        refine xt_rv rfl (Nat.le_of_ble_eq_true rfl) ?_
        intro q2
        have hw16 : w = 16 := by rw [nI_leI (by omega) (by omega)] at hc_285; omega
        subst hw16
        have eA : ∀ k, k ≠ 54 → k ≠ 55 → k ≠ 56 → k ≠ 57 → k ≠ 66 → M_316 k = M2 k := fun k h1 h2 h3 h4 h5 => by
          rw [e4, x_row_ne _ _ h4, e3 k h3 h5, e2, x_row_ne _ _ h1, e1, x_row_ne _ _ h2]
        have hK := RIn_k hI eA
        have f54 : M_316 54 = M_308 54 := by rw [e4, x_row_ne _ _ (by decide), e3 54 (by decide) (by decide)]
        have f55 : M_316 55 = M_304 55 := by rw [e4, x_row_ne _ _ (by decide), e3 55 (by decide) (by decide), e2, x_row_ne _ _ (by decide)]
        have f56 : M_316 56 = M_312 56 := by rw [e4, x_row_ne _ _ (by decide)]
        refine ⟨rfl, hK, ⟨?_, ?_, ?_, t57, hK.2.2.1⟩, rfl⟩
        · unfold T54; rw [f54]; exact t54
        · unfold T55; rw [f55]; exact t55
        · unfold T56; rw [f56]; exact t56
      · skip
        have hw16 : w < 16 := by rw [nI_leI (by omega) (by omega)] at hc_285; omega
        refine xt_aln0 rfl (by decide) ?_
        refine xt_gfr (q := (5, 9)) rfl (by rfl) rfl ?_
        refine xt_iln1 rfl ?_
        refine xt_si ?_
        refine xt_ias (by rfl) (show vp_in _ 16 from vp_in_nI hw16 (by decide)) ?_
        refine xt_inc rfl (by dsimp only [x_sto]) ?_
        refine xt_goto (t := 282) rfl ?_
        refine xt_cut rfl rfl (by dsimp only [List.take]) ?_
        exact ⟨16 - (w + 1), by omega, w + 1, by omega, by rw [nI_clamp (by omega)]; exact RIn_s hI, rfl, rfl, rfl, rfl, rfl, by rw [nI_add], rfl⟩
