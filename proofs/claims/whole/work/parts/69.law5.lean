/-! THE LAW: its walk, second half -/
set_option maxHeartbeats 4000000 in
set_option maxRecDepth 100000 in
theorem law_c12 {L i : Nat} {xs : Nat → Int32} {M : x_M} (hL : L ≤ 3072) (h6 : 6 * i + 6 ≤ L) (hi : i ≤ 512) (hLI : LI i M) : x_go (X_law L xs) lwZ b_L_law [18] (fun pc ls st S M cs sl => ∃ μ, μ < 600 - i ∧ lwI μ pc ls st S M cs sl) 30 596 [.inr (.inr 5), .inr (.inl 0), .inr (.inl 53), .inl (nI (6 * i))] [] SH M 71 2480 := by
  refine xt_blk rfl rfl (by dsimp only [List.take]) ?_
  refine xt_aln1 rfl (by decide) ?_
  refine xt_acn0 rfl ?_
  refine xt_iln3 rfl ?_
  refine xt_ic ?_
  refine xt_add ?_
  refine xt_kal rfl (show vp_in _ L from g7 hL h6 (by decide)) ?_
  refine xt_acn0 rfl ?_
  refine xt_iln3 rfl ?_
  refine xt_ic ?_
  refine xt_add ?_
  refine xt_kal rfl (show vp_in _ L from g7 hL h6 (by decide)) ?_
  refine xt_acn0 rfl ?_
  refine xt_iln3 rfl ?_
  refine xt_ic ?_
  refine xt_add ?_
  refine xt_kal rfl (show vp_in _ L from g7 hL h6 (by decide)) ?_
  refine xt_v4 (key := 199) (q := q_X6_drawn) rfl rfl rfl rfl rfl ⟨Nat.le_of_ble_eq_true rfl, Nat.le_of_ble_eq_true rfl⟩ ⟨_, _, _, i, hLI.1, rfl, rfl⟩ (fun rv_ S1 M_612 hq_612 => ?_)
  obtain ⟨eS_, hC0⟩ := hq_612 _ _ _ rfl
  replace eS_ := eS_.symm
  subst eS_
  have hC := hC0
  obtain ⟨v1, rfl⟩ : ∃ v, rv_ = some (.inl v) := ⟨_, hC.2.2.1⟩
  try dsimp only [Option.toList, List.cons_append, List.nil_append]
  refine xt_aln2 rfl (by decide) ?_
  refine xt_acn0 rfl ?_
  refine xt_iln3 rfl ?_
  refine xt_ic ?_
  refine xt_add ?_
  refine xt_kal rfl (show vp_in _ L from g7 hL h6 (by decide)) ?_
  refine xt_acn0 rfl ?_
  refine xt_iln3 rfl ?_
  refine xt_ic ?_
  refine xt_add ?_
  refine xt_kal rfl (show vp_in _ L from g7 hL h6 (by decide)) ?_
  refine xt_acn0 rfl ?_
  refine xt_iln3 rfl ?_
  refine xt_ic ?_
  refine xt_add ?_
  refine xt_kal rfl (show vp_in _ L from g7 hL h6 (by decide)) ?_
  refine xt_v4 (key := 208) (q := q_X7_drawn) rfl rfl rfl rfl rfl ⟨Nat.le_of_ble_eq_true rfl, Nat.le_of_ble_eq_true rfl⟩ ⟨_, _, _, 0, (lw_mid hLI hC).1, rfl, rfl⟩ (fun rv_ S1 M_631 hq_631 => ?_)
  obtain ⟨eS_, hR⟩ := hq_631 _ _ _ rfl
  replace eS_ := eS_.symm
  subst eS_
  obtain ⟨v2, rfl⟩ : ∃ v, rv_ = some (.inl v) := ⟨_, hR.2.2.1⟩
  obtain ⟨hL2, v, e1, e2⟩ := lw_step (sp := fun V => spDrawn V _ _ _) (by omega) hLI (kDrawn _ _ _) hC hR
  have hve : v1 = v2 := by cases e1; cases e2; rfl
  try dsimp only [Option.toList, List.cons_append, List.nil_append]
  refine xt_ceq (t := 1042) rfl (fun hc_634 => ?_) (fun hc_634 => ?_)
  · skip
    refine xt_blk rfl rfl (by dsimp only [List.take]) ?_
    refine xt_inc rfl (by dsimp only [x_sto]) ?_
    refine xt_goto (t := 18) rfl ?_
    refine xt_cut rfl rfl (by dsimp only [List.take]) ?_
    exact ⟨600 - (i + 1), by omega, i + 1, by omega, hL2, rfl, rfl, rfl, rfl, rfl, by rw [nI_add, show 6 * i + 6 = 6 * (i + 1) by omega], rfl⟩
  · exact absurd hve hc_634
set_option maxHeartbeats 4000000 in
set_option maxRecDepth 100000 in
theorem law_c13 {L i : Nat} {xs : Nat → Int32} {M : x_M} (hL : L ≤ 3072) (h6 : 6 * i + 6 ≤ L) (hi : i ≤ 512) (hLI : LI i M) : x_go (X_law L xs) lwZ b_L_law [18] (fun pc ls st S M cs sl => ∃ μ, μ < 600 - i ∧ lwI μ pc ls st S M cs sl) 30 639 [.inr (.inr 5), .inr (.inl 0), .inr (.inl 53), .inl (nI (6 * i))] [] SH M 71 2480 := by
  refine xt_blk rfl rfl (by dsimp only [List.take]) ?_
  refine xt_aln1 rfl (by decide) ?_
  refine xt_acn0 rfl ?_
  refine xt_iln3 rfl ?_
  refine xt_ic ?_
  refine xt_add ?_
  refine xt_kal rfl (show vp_in _ L from g7 hL h6 (by decide)) ?_
  refine xt_v2 (key := 211) (q := q_X6_core) rfl rfl rfl rfl rfl ⟨Nat.le_of_ble_eq_true rfl, Nat.le_of_ble_eq_true rfl⟩ ⟨_, i, hLI.1, rfl, rfl⟩ (fun rv_ S1 M_645 hq_645 => ?_)
  obtain ⟨eS_, hC0⟩ := hq_645 _ rfl
  replace eS_ := eS_.symm
  subst eS_
  have hC := hC0
  obtain ⟨v1, rfl⟩ : ∃ v, rv_ = some (.inl v) := ⟨_, hC.2.2.1⟩
  try dsimp only [Option.toList, List.cons_append, List.nil_append]
  refine xt_aln2 rfl (by decide) ?_
  refine xt_acn0 rfl ?_
  refine xt_iln3 rfl ?_
  refine xt_ic ?_
  refine xt_add ?_
  refine xt_kal rfl (show vp_in _ L from g7 hL h6 (by decide)) ?_
  refine xt_v2 (key := 220) (q := q_X7_core) rfl rfl rfl rfl rfl ⟨Nat.le_of_ble_eq_true rfl, Nat.le_of_ble_eq_true rfl⟩ ⟨_, 0, (lw_mid hLI hC).1, rfl, rfl⟩ (fun rv_ S1 M_654 hq_654 => ?_)
  obtain ⟨eS_, hR⟩ := hq_654 _ rfl
  replace eS_ := eS_.symm
  subst eS_
  obtain ⟨v2, rfl⟩ : ∃ v, rv_ = some (.inl v) := ⟨_, hR.2.2.1⟩
  obtain ⟨hL2, v, e1, e2⟩ := lw_step (sp := fun V => spCore V _) (by omega) hLI (kCore _) hC hR
  have hve : v1 = v2 := by cases e1; cases e2; rfl
  try dsimp only [Option.toList, List.cons_append, List.nil_append]
  refine xt_ceq (t := 1042) rfl (fun hc_657 => ?_) (fun hc_657 => ?_)
  · skip
    refine xt_blk rfl rfl (by dsimp only [List.take]) ?_
    refine xt_inc rfl (by dsimp only [x_sto]) ?_
    refine xt_goto (t := 18) rfl ?_
    refine xt_cut rfl rfl (by dsimp only [List.take]) ?_
    exact ⟨600 - (i + 1), by omega, i + 1, by omega, hL2, rfl, rfl, rfl, rfl, rfl, by rw [nI_add, show 6 * i + 6 = 6 * (i + 1) by omega], rfl⟩
  · exact absurd hve hc_657
set_option maxHeartbeats 4000000 in
set_option maxRecDepth 100000 in
theorem law_c14 {L i : Nat} {xs : Nat → Int32} {M : x_M} (hL : L ≤ 3072) (h6 : 6 * i + 6 ≤ L) (hi : i ≤ 512) (hLI : LI i M) : x_go (X_law L xs) lwZ b_L_law [18] (fun pc ls st S M cs sl => ∃ μ, μ < 600 - i ∧ lwI μ pc ls st S M cs sl) 30 662 [.inr (.inr 5), .inr (.inl 0), .inr (.inl 53), .inl (nI (6 * i))] [] SH M 71 2480 := by
  refine xt_blk rfl rfl (by dsimp only [List.take]) ?_
  refine xt_aln1 rfl (by decide) ?_
  refine xt_acn0 rfl ?_
  refine xt_iln3 rfl ?_
  refine xt_ic ?_
  refine xt_add ?_
  refine xt_kal rfl (show vp_in _ L from g7 hL h6 (by decide)) ?_
  refine xt_acn0 rfl ?_
  refine xt_iln3 rfl ?_
  refine xt_ic ?_
  refine xt_add ?_
  refine xt_kal rfl (show vp_in _ L from g7 hL h6 (by decide)) ?_
  refine xt_acn0 rfl ?_
  refine xt_iln3 rfl ?_
  refine xt_ic ?_
  refine xt_add ?_
  refine xt_kal rfl (show vp_in _ L from g7 hL h6 (by decide)) ?_
  refine xt_v4 (key := 223) (q := q_X6_word) rfl rfl rfl rfl rfl ⟨Nat.le_of_ble_eq_true rfl, Nat.le_of_ble_eq_true rfl⟩ ⟨_, _, _, i, hLI.1, rfl, rfl⟩ (fun rv_ S1 M_678 hq_678 => ?_)
  obtain ⟨eS_, hC0⟩ := hq_678 _ _ _ rfl
  replace eS_ := eS_.symm
  subst eS_
  have hC := hC0
  obtain ⟨v1, rfl⟩ : ∃ v, rv_ = some (.inl v) := ⟨_, hC.2.2.1⟩
  try dsimp only [Option.toList, List.cons_append, List.nil_append]
  refine xt_aln2 rfl (by decide) ?_
  refine xt_acn0 rfl ?_
  refine xt_iln3 rfl ?_
  refine xt_ic ?_
  refine xt_add ?_
  refine xt_kal rfl (show vp_in _ L from g7 hL h6 (by decide)) ?_
  refine xt_acn0 rfl ?_
  refine xt_iln3 rfl ?_
  refine xt_ic ?_
  refine xt_add ?_
  refine xt_kal rfl (show vp_in _ L from g7 hL h6 (by decide)) ?_
  refine xt_acn0 rfl ?_
  refine xt_iln3 rfl ?_
  refine xt_ic ?_
  refine xt_add ?_
  refine xt_kal rfl (show vp_in _ L from g7 hL h6 (by decide)) ?_
  refine xt_v4 (key := 232) (q := q_X7_word) rfl rfl rfl rfl rfl ⟨Nat.le_of_ble_eq_true rfl, Nat.le_of_ble_eq_true rfl⟩ ⟨_, _, _, 0, (lw_mid hLI hC).1, rfl, rfl⟩ (fun rv_ S1 M_697 hq_697 => ?_)
  obtain ⟨eS_, hR⟩ := hq_697 _ _ _ rfl
  replace eS_ := eS_.symm
  subst eS_
  obtain ⟨v2, rfl⟩ : ∃ v, rv_ = some (.inl v) := ⟨_, hR.2.2.1⟩
  obtain ⟨hL2, v, e1, e2⟩ := lw_step (sp := fun V => spWord V _ _ _) (by omega) hLI (kWord _ _ _) hC hR
  have hve : v1 = v2 := by cases e1; cases e2; rfl
  try dsimp only [Option.toList, List.cons_append, List.nil_append]
  refine xt_ceq (t := 1042) rfl (fun hc_700 => ?_) (fun hc_700 => ?_)
  · skip
    refine xt_blk rfl rfl (by dsimp only [List.take]) ?_
    refine xt_inc rfl (by dsimp only [x_sto]) ?_
    refine xt_goto (t := 18) rfl ?_
    refine xt_cut rfl rfl (by dsimp only [List.take]) ?_
    exact ⟨600 - (i + 1), by omega, i + 1, by omega, hL2, rfl, rfl, rfl, rfl, rfl, by rw [nI_add, show 6 * i + 6 = 6 * (i + 1) by omega], rfl⟩
  · exact absurd hve hc_700
set_option maxHeartbeats 4000000 in
set_option maxRecDepth 100000 in
theorem law_c15 {L i : Nat} {xs : Nat → Int32} {M : x_M} (hL : L ≤ 3072) (h6 : 6 * i + 6 ≤ L) (hi : i ≤ 512) (hLI : LI i M) : x_go (X_law L xs) lwZ b_L_law [18] (fun pc ls st S M cs sl => ∃ μ, μ < 600 - i ∧ lwI μ pc ls st S M cs sl) 30 705 [.inr (.inr 5), .inr (.inl 0), .inr (.inl 53), .inl (nI (6 * i))] [] SH M 71 2480 := by
  refine xt_blk rfl rfl (by dsimp only [List.take]) ?_
  refine xt_aln1 rfl (by decide) ?_
  refine xt_acn0 rfl ?_
  refine xt_iln3 rfl ?_
  refine xt_ic ?_
  refine xt_add ?_
  refine xt_kal rfl (show vp_in _ L from g7 hL h6 (by decide)) ?_
  refine xt_acn0 rfl ?_
  refine xt_iln3 rfl ?_
  refine xt_ic ?_
  refine xt_add ?_
  refine xt_kal rfl (show vp_in _ L from g7 hL h6 (by decide)) ?_
  refine xt_acn0 rfl ?_
  refine xt_iln3 rfl ?_
  refine xt_ic ?_
  refine xt_add ?_
  refine xt_kal rfl (show vp_in _ L from g7 hL h6 (by decide)) ?_
  refine xt_v4 (key := 235) (q := q_X6_say) rfl rfl rfl rfl rfl ⟨Nat.le_of_ble_eq_true rfl, Nat.le_of_ble_eq_true rfl⟩ ⟨_, _, _, i, hLI.1, rfl, rfl⟩ (fun rv_ S1 M_721 hq_721 => ?_)
  obtain ⟨eS_, hC0⟩ := hq_721 _ _ _ rfl
  replace eS_ := eS_.symm
  subst eS_
  have hC := hC0
  obtain ⟨v1, rfl⟩ : ∃ v, rv_ = some (.inl v) := ⟨_, hC.2.2.1⟩
  try dsimp only [Option.toList, List.cons_append, List.nil_append]
  refine xt_aln2 rfl (by decide) ?_
  refine xt_acn0 rfl ?_
  refine xt_iln3 rfl ?_
  refine xt_ic ?_
  refine xt_add ?_
  refine xt_kal rfl (show vp_in _ L from g7 hL h6 (by decide)) ?_
  refine xt_acn0 rfl ?_
  refine xt_iln3 rfl ?_
  refine xt_ic ?_
  refine xt_add ?_
  refine xt_kal rfl (show vp_in _ L from g7 hL h6 (by decide)) ?_
  refine xt_acn0 rfl ?_
  refine xt_iln3 rfl ?_
  refine xt_ic ?_
  refine xt_add ?_
  refine xt_kal rfl (show vp_in _ L from g7 hL h6 (by decide)) ?_
  refine xt_v4 (key := 244) (q := q_X7_say) rfl rfl rfl rfl rfl ⟨Nat.le_of_ble_eq_true rfl, Nat.le_of_ble_eq_true rfl⟩ ⟨_, _, _, 0, (lw_mid hLI hC).1, rfl, rfl⟩ (fun rv_ S1 M_740 hq_740 => ?_)
  obtain ⟨eS_, hR⟩ := hq_740 _ _ _ rfl
  replace eS_ := eS_.symm
  subst eS_
  obtain ⟨v2, rfl⟩ : ∃ v, rv_ = some (.inl v) := ⟨_, hR.2.2.1⟩
  obtain ⟨hL2, v, e1, e2⟩ := lw_step (sp := fun V => spSay V _ _ _) (by omega) hLI (kSay _ _ _) hC hR
  have hve : v1 = v2 := by cases e1; cases e2; rfl
  try dsimp only [Option.toList, List.cons_append, List.nil_append]
  refine xt_ceq (t := 1042) rfl (fun hc_743 => ?_) (fun hc_743 => ?_)
  · skip
    refine xt_blk rfl rfl (by dsimp only [List.take]) ?_
    refine xt_inc rfl (by dsimp only [x_sto]) ?_
    refine xt_goto (t := 18) rfl ?_
    refine xt_cut rfl rfl (by dsimp only [List.take]) ?_
    exact ⟨600 - (i + 1), by omega, i + 1, by omega, hL2, rfl, rfl, rfl, rfl, rfl, by rw [nI_add, show 6 * i + 6 = 6 * (i + 1) by omega], rfl⟩
  · exact absurd hve hc_743
set_option maxHeartbeats 4000000 in
set_option maxRecDepth 100000 in
theorem law_c16 {L i : Nat} {xs : Nat → Int32} {M : x_M} (hL : L ≤ 3072) (h6 : 6 * i + 6 ≤ L) (hi : i ≤ 512) (hLI : LI i M) : x_go (X_law L xs) lwZ b_L_law [18] (fun pc ls st S M cs sl => ∃ μ, μ < 600 - i ∧ lwI μ pc ls st S M cs sl) 30 748 [.inr (.inr 5), .inr (.inl 0), .inr (.inl 53), .inl (nI (6 * i))] [] SH M 71 2480 := by
  refine xt_blk rfl rfl (by dsimp only [List.take]) ?_
  refine xt_aln1 rfl (by decide) ?_
  refine xt_acn0 rfl ?_
  refine xt_iln3 rfl ?_
  refine xt_ic ?_
  refine xt_add ?_
  refine xt_kal rfl (show vp_in _ L from g7 hL h6 (by decide)) ?_
  refine xt_acn0 rfl ?_
  refine xt_iln3 rfl ?_
  refine xt_ic ?_
  refine xt_add ?_
  refine xt_kal rfl (show vp_in _ L from g7 hL h6 (by decide)) ?_
  refine xt_acn0 rfl ?_
  refine xt_iln3 rfl ?_
  refine xt_ic ?_
  refine xt_add ?_
  refine xt_kal rfl (show vp_in _ L from g7 hL h6 (by decide)) ?_
  refine xt_v4 (key := 247) (q := q_X6_ask) rfl rfl rfl rfl rfl ⟨Nat.le_of_ble_eq_true rfl, Nat.le_of_ble_eq_true rfl⟩ ⟨_, _, _, i, hLI.1, rfl, rfl⟩ (fun rv_ S1 M_764 hq_764 => ?_)
  obtain ⟨eS_, hC0⟩ := hq_764 _ _ _ rfl
  replace eS_ := eS_.symm
  subst eS_
  have hC := hC0
  obtain ⟨v1, rfl⟩ : ∃ v, rv_ = some (.inl v) := ⟨_, hC.2.2.1⟩
  try dsimp only [Option.toList, List.cons_append, List.nil_append]
  refine xt_aln2 rfl (by decide) ?_
  refine xt_acn0 rfl ?_
  refine xt_iln3 rfl ?_
  refine xt_ic ?_
  refine xt_add ?_
  refine xt_kal rfl (show vp_in _ L from g7 hL h6 (by decide)) ?_
  refine xt_acn0 rfl ?_
  refine xt_iln3 rfl ?_
  refine xt_ic ?_
  refine xt_add ?_
  refine xt_kal rfl (show vp_in _ L from g7 hL h6 (by decide)) ?_
  refine xt_acn0 rfl ?_
  refine xt_iln3 rfl ?_
  refine xt_ic ?_
  refine xt_add ?_
  refine xt_kal rfl (show vp_in _ L from g7 hL h6 (by decide)) ?_
  refine xt_v4 (key := 256) (q := q_X7_ask) rfl rfl rfl rfl rfl ⟨Nat.le_of_ble_eq_true rfl, Nat.le_of_ble_eq_true rfl⟩ ⟨_, _, _, 0, (lw_mid hLI hC).1, rfl, rfl⟩ (fun rv_ S1 M_783 hq_783 => ?_)
  obtain ⟨eS_, hR⟩ := hq_783 _ _ _ rfl
  replace eS_ := eS_.symm
  subst eS_
  obtain ⟨v2, rfl⟩ : ∃ v, rv_ = some (.inl v) := ⟨_, hR.2.2.1⟩
  obtain ⟨hL2, v, e1, e2⟩ := lw_step (sp := fun V => spAsk V _ _ _) (by omega) hLI (kAsk _ _ _) hC hR
  have hve : v1 = v2 := by cases e1; cases e2; rfl
  try dsimp only [Option.toList, List.cons_append, List.nil_append]
  refine xt_ceq (t := 1042) rfl (fun hc_786 => ?_) (fun hc_786 => ?_)
  · skip
    refine xt_blk rfl rfl (by dsimp only [List.take]) ?_
    refine xt_inc rfl (by dsimp only [x_sto]) ?_
    refine xt_goto (t := 18) rfl ?_
    refine xt_cut rfl rfl (by dsimp only [List.take]) ?_
    exact ⟨600 - (i + 1), by omega, i + 1, by omega, hL2, rfl, rfl, rfl, rfl, rfl, by rw [nI_add, show 6 * i + 6 = 6 * (i + 1) by omega], rfl⟩
  · exact absurd hve hc_786
set_option maxHeartbeats 4000000 in
set_option maxRecDepth 100000 in
theorem law_c17 {L i : Nat} {xs : Nat → Int32} {M : x_M} (hL : L ≤ 3072) (h6 : 6 * i + 6 ≤ L) (hi : i ≤ 512) (hLI : LI i M) : x_go (X_law L xs) lwZ b_L_law [18] (fun pc ls st S M cs sl => ∃ μ, μ < 600 - i ∧ lwI μ pc ls st S M cs sl) 30 791 [.inr (.inr 5), .inr (.inl 0), .inr (.inl 53), .inl (nI (6 * i))] [] SH M 71 2480 := by
  refine xt_blk rfl rfl (by dsimp only [List.take]) ?_
  refine xt_aln1 rfl (by decide) ?_
  refine xt_acn0 rfl ?_
  refine xt_iln3 rfl ?_
  refine xt_ic ?_
  refine xt_add ?_
  refine xt_kal rfl (show vp_in _ L from g7 hL h6 (by decide)) ?_
  refine xt_acn0 rfl ?_
  refine xt_iln3 rfl ?_
  refine xt_ic ?_
  refine xt_add ?_
  refine xt_kal rfl (show vp_in _ L from g7 hL h6 (by decide)) ?_
  refine xt_acn0 rfl ?_
  refine xt_iln3 rfl ?_
  refine xt_ic ?_
  refine xt_add ?_
  refine xt_kal rfl (show vp_in _ L from g7 hL h6 (by decide)) ?_
  refine xt_acn0 rfl ?_
  refine xt_iln3 rfl ?_
  refine xt_ic ?_
  refine xt_add ?_
  refine xt_kal rfl (show vp_in _ L from g7 hL h6 (by decide)) ?_
  refine xt_acn0 rfl ?_
  refine xt_iln3 rfl ?_
  refine xt_ic ?_
  refine xt_add ?_
  refine xt_kal rfl (show vp_in _ L from g7 hL h6 (by decide)) ?_
  refine xt_v6 (key := 259) (q := q_X6_box) rfl rfl rfl rfl rfl ⟨Nat.le_of_ble_eq_true rfl, Nat.le_of_ble_eq_true rfl⟩ ⟨_, _, _, _, _, i, hLI.1, rfl, rfl⟩ (fun rv_ S1 M_817 hq_817 => ?_)
  obtain ⟨eS_, hC0⟩ := hq_817 _ _ _ _ _ rfl
  replace eS_ := eS_.symm
  subst eS_
  have hC := hC0
  obtain ⟨v1, rfl⟩ : ∃ v, rv_ = some (.inl v) := ⟨_, hC.2.2.1⟩
  try dsimp only [Option.toList, List.cons_append, List.nil_append]
  refine xt_aln2 rfl (by decide) ?_
  refine xt_acn0 rfl ?_
  refine xt_iln3 rfl ?_
  refine xt_ic ?_
  refine xt_add ?_
  refine xt_kal rfl (show vp_in _ L from g7 hL h6 (by decide)) ?_
  refine xt_acn0 rfl ?_
  refine xt_iln3 rfl ?_
  refine xt_ic ?_
  refine xt_add ?_
  refine xt_kal rfl (show vp_in _ L from g7 hL h6 (by decide)) ?_
  refine xt_acn0 rfl ?_
  refine xt_iln3 rfl ?_
  refine xt_ic ?_
  refine xt_add ?_
  refine xt_kal rfl (show vp_in _ L from g7 hL h6 (by decide)) ?_
  refine xt_acn0 rfl ?_
  refine xt_iln3 rfl ?_
  refine xt_ic ?_
  refine xt_add ?_
  refine xt_kal rfl (show vp_in _ L from g7 hL h6 (by decide)) ?_
  refine xt_acn0 rfl ?_
  refine xt_iln3 rfl ?_
  refine xt_ic ?_
  refine xt_add ?_
  refine xt_kal rfl (show vp_in _ L from g7 hL h6 (by decide)) ?_
  refine xt_v6 (key := 271) (q := q_X7_box) rfl rfl rfl rfl rfl ⟨Nat.le_of_ble_eq_true rfl, Nat.le_of_ble_eq_true rfl⟩ ⟨_, _, _, _, _, 0, (lw_mid hLI hC).1, rfl, rfl⟩ (fun rv_ S1 M_846 hq_846 => ?_)
  obtain ⟨eS_, hR⟩ := hq_846 _ _ _ _ _ rfl
  replace eS_ := eS_.symm
  subst eS_
  obtain ⟨v2, rfl⟩ : ∃ v, rv_ = some (.inl v) := ⟨_, hR.2.2.1⟩
  obtain ⟨hL2, v, e1, e2⟩ := lw_step (sp := fun V => spBox V _ _ _ _ _) (by omega) hLI (kBox _ _ _ _ _) hC hR
  have hve : v1 = v2 := by cases e1; cases e2; rfl
  try dsimp only [Option.toList, List.cons_append, List.nil_append]
  refine xt_ceq (t := 1042) rfl (fun hc_849 => ?_) (fun hc_849 => ?_)
  · skip
    refine xt_blk rfl rfl (by dsimp only [List.take]) ?_
    refine xt_inc rfl (by dsimp only [x_sto]) ?_
    refine xt_goto (t := 18) rfl ?_
    refine xt_cut rfl rfl (by dsimp only [List.take]) ?_
    exact ⟨600 - (i + 1), by omega, i + 1, by omega, hL2, rfl, rfl, rfl, rfl, rfl, by rw [nI_add, show 6 * i + 6 = 6 * (i + 1) by omega], rfl⟩
  · exact absurd hve hc_849
set_option maxHeartbeats 4000000 in
set_option maxRecDepth 100000 in
theorem law_c18 {L i : Nat} {xs : Nat → Int32} {M : x_M} (hL : L ≤ 3072) (h6 : 6 * i + 6 ≤ L) (hi : i ≤ 512) (hLI : LI i M) : x_go (X_law L xs) lwZ b_L_law [18] (fun pc ls st S M cs sl => ∃ μ, μ < 600 - i ∧ lwI μ pc ls st S M cs sl) 30 854 [.inr (.inr 5), .inr (.inl 0), .inr (.inl 53), .inl (nI (6 * i))] [] SH M 71 2480 := by
  refine xt_blk rfl rfl (by dsimp only [List.take]) ?_
  refine xt_aln1 rfl (by decide) ?_
  refine xt_acn0 rfl ?_
  refine xt_iln3 rfl ?_
  refine xt_ic ?_
  refine xt_add ?_
  refine xt_kal rfl (show vp_in _ L from g7 hL h6 (by decide)) ?_
  refine xt_v2 (key := 274) (q := q_X6_rub) rfl rfl rfl rfl rfl ⟨Nat.le_of_ble_eq_true rfl, Nat.le_of_ble_eq_true rfl⟩ ⟨_, i, hLI.1, rfl, rfl⟩ (fun rv_ S1 M_860 hq_860 => ?_)
  obtain ⟨eS_, hC0⟩ := hq_860 _ rfl
  replace eS_ := eS_.symm
  subst eS_
  have hC := hC0
  obtain ⟨v1, rfl⟩ : ∃ v, rv_ = some (.inl v) := ⟨_, hC.2.2.1⟩
  try dsimp only [Option.toList, List.cons_append, List.nil_append]
  refine xt_aln2 rfl (by decide) ?_
  refine xt_acn0 rfl ?_
  refine xt_iln3 rfl ?_
  refine xt_ic ?_
  refine xt_add ?_
  refine xt_kal rfl (show vp_in _ L from g7 hL h6 (by decide)) ?_
  refine xt_v2 (key := 283) (q := q_X7_rub) rfl rfl rfl rfl rfl ⟨Nat.le_of_ble_eq_true rfl, Nat.le_of_ble_eq_true rfl⟩ ⟨_, 0, (lw_mid hLI hC).1, rfl, rfl⟩ (fun rv_ S1 M_869 hq_869 => ?_)
  obtain ⟨eS_, hR⟩ := hq_869 _ rfl
  replace eS_ := eS_.symm
  subst eS_
  obtain ⟨v2, rfl⟩ : ∃ v, rv_ = some (.inl v) := ⟨_, hR.2.2.1⟩
  obtain ⟨hL2, v, e1, e2⟩ := lw_step (sp := fun V => spRub V _) (by omega) hLI (kRub _) hC hR
  have hve : v1 = v2 := by cases e1; cases e2; rfl
  try dsimp only [Option.toList, List.cons_append, List.nil_append]
  refine xt_ceq (t := 1042) rfl (fun hc_872 => ?_) (fun hc_872 => ?_)
  · skip
    refine xt_blk rfl rfl (by dsimp only [List.take]) ?_
    refine xt_inc rfl (by dsimp only [x_sto]) ?_
    refine xt_goto (t := 18) rfl ?_
    refine xt_cut rfl rfl (by dsimp only [List.take]) ?_
    exact ⟨600 - (i + 1), by omega, i + 1, by omega, hL2, rfl, rfl, rfl, rfl, rfl, by rw [nI_add, show 6 * i + 6 = 6 * (i + 1) by omega], rfl⟩
  · exact absurd hve hc_872
set_option maxHeartbeats 4000000 in
set_option maxRecDepth 100000 in
theorem law_c19 {L i : Nat} {xs : Nat → Int32} {M : x_M} (hL : L ≤ 3072) (h6 : 6 * i + 6 ≤ L) (hi : i ≤ 512) (hLI : LI i M) : x_go (X_law L xs) lwZ b_L_law [18] (fun pc ls st S M cs sl => ∃ μ, μ < 600 - i ∧ lwI μ pc ls st S M cs sl) 30 877 [.inr (.inr 5), .inr (.inl 0), .inr (.inl 53), .inl (nI (6 * i))] [] SH M 71 2480 := by
  refine xt_blk rfl rfl (by dsimp only [List.take]) ?_
  refine xt_aln1 rfl (by decide) ?_
  refine xt_acn0 rfl ?_
  refine xt_iln3 rfl ?_
  refine xt_ic ?_
  refine xt_add ?_
  refine xt_kal rfl (show vp_in _ L from g7 hL h6 (by decide)) ?_
  refine xt_acn0 rfl ?_
  refine xt_iln3 rfl ?_
  refine xt_ic ?_
  refine xt_add ?_
  refine xt_kal rfl (show vp_in _ L from g7 hL h6 (by decide)) ?_
  refine xt_acn0 rfl ?_
  refine xt_iln3 rfl ?_
  refine xt_ic ?_
  refine xt_add ?_
  refine xt_kal rfl (show vp_in _ L from g7 hL h6 (by decide)) ?_
  refine xt_v4 (key := 286) (q := q_X6_read) rfl rfl rfl rfl rfl ⟨Nat.le_of_ble_eq_true rfl, Nat.le_of_ble_eq_true rfl⟩ ⟨_, _, _, i, hLI.1, rfl, rfl⟩ (fun rv_ S1 M_893 hq_893 => ?_)
  obtain ⟨eS_, hC0⟩ := hq_893 _ _ _ rfl
  replace eS_ := eS_.symm
  subst eS_
  have hC := hC0
  obtain ⟨v1, rfl⟩ : ∃ v, rv_ = some (.inl v) := ⟨_, hC.2.2.1⟩
  try dsimp only [Option.toList, List.cons_append, List.nil_append]
  refine xt_aln2 rfl (by decide) ?_
  refine xt_acn0 rfl ?_
  refine xt_iln3 rfl ?_
  refine xt_ic ?_
  refine xt_add ?_
  refine xt_kal rfl (show vp_in _ L from g7 hL h6 (by decide)) ?_
  refine xt_acn0 rfl ?_
  refine xt_iln3 rfl ?_
  refine xt_ic ?_
  refine xt_add ?_
  refine xt_kal rfl (show vp_in _ L from g7 hL h6 (by decide)) ?_
  refine xt_acn0 rfl ?_
  refine xt_iln3 rfl ?_
  refine xt_ic ?_
  refine xt_add ?_
  refine xt_kal rfl (show vp_in _ L from g7 hL h6 (by decide)) ?_
  refine xt_v4 (key := 295) (q := q_X7_read) rfl rfl rfl rfl rfl ⟨Nat.le_of_ble_eq_true rfl, Nat.le_of_ble_eq_true rfl⟩ ⟨_, _, _, 0, (lw_mid hLI hC).1, rfl, rfl⟩ (fun rv_ S1 M_912 hq_912 => ?_)
  obtain ⟨eS_, hR⟩ := hq_912 _ _ _ rfl
  replace eS_ := eS_.symm
  subst eS_
  obtain ⟨v2, rfl⟩ : ∃ v, rv_ = some (.inl v) := ⟨_, hR.2.2.1⟩
  obtain ⟨hL2, v, e1, e2⟩ := lw_step (sp := fun V => spRead V _ _ _) (by omega) hLI (kRead _ _ _) hC hR
  have hve : v1 = v2 := by cases e1; cases e2; rfl
  try dsimp only [Option.toList, List.cons_append, List.nil_append]
  refine xt_ceq (t := 1042) rfl (fun hc_915 => ?_) (fun hc_915 => ?_)
  · skip
    refine xt_blk rfl rfl (by dsimp only [List.take]) ?_
    refine xt_inc rfl (by dsimp only [x_sto]) ?_
    refine xt_goto (t := 18) rfl ?_
    refine xt_cut rfl rfl (by dsimp only [List.take]) ?_
    exact ⟨600 - (i + 1), by omega, i + 1, by omega, hL2, rfl, rfl, rfl, rfl, rfl, by rw [nI_add, show 6 * i + 6 = 6 * (i + 1) by omega], rfl⟩
  · exact absurd hve hc_915
set_option maxHeartbeats 4000000 in
set_option maxRecDepth 100000 in
theorem law_c20 {L i : Nat} {xs : Nat → Int32} {M : x_M} (hL : L ≤ 3072) (h6 : 6 * i + 6 ≤ L) (hi : i ≤ 512) (hLI : LI i M) : x_go (X_law L xs) lwZ b_L_law [18] (fun pc ls st S M cs sl => ∃ μ, μ < 600 - i ∧ lwI μ pc ls st S M cs sl) 30 920 [.inr (.inr 5), .inr (.inl 0), .inr (.inl 53), .inl (nI (6 * i))] [] SH M 71 2480 := by
  refine xt_blk rfl rfl (by dsimp only [List.take]) ?_
  refine xt_aln1 rfl (by decide) ?_
  refine xt_acn0 rfl ?_
  refine xt_iln3 rfl ?_
  refine xt_ic ?_
  refine xt_add ?_
  refine xt_kal rfl (show vp_in _ L from g7 hL h6 (by decide)) ?_
  refine xt_acn0 rfl ?_
  refine xt_iln3 rfl ?_
  refine xt_ic ?_
  refine xt_add ?_
  refine xt_kal rfl (show vp_in _ L from g7 hL h6 (by decide)) ?_
  refine xt_acn0 rfl ?_
  refine xt_iln3 rfl ?_
  refine xt_ic ?_
  refine xt_add ?_
  refine xt_kal rfl (show vp_in _ L from g7 hL h6 (by decide)) ?_
  refine xt_v4 (key := 298) (q := q_X6_holds) rfl rfl rfl rfl rfl ⟨Nat.le_of_ble_eq_true rfl, Nat.le_of_ble_eq_true rfl⟩ ⟨_, _, _, i, hLI.1, rfl, rfl⟩ (fun rv_ S1 M_936 hq_936 => ?_)
  obtain ⟨eS_, hC0⟩ := hq_936 _ _ _ rfl
  replace eS_ := eS_.symm
  subst eS_
  have hC := hC0
  obtain ⟨v1, rfl⟩ : ∃ v, rv_ = some (.inl v) := ⟨_, hC.2.2.1⟩
  try dsimp only [Option.toList, List.cons_append, List.nil_append]
  refine xt_aln2 rfl (by decide) ?_
  refine xt_acn0 rfl ?_
  refine xt_iln3 rfl ?_
  refine xt_ic ?_
  refine xt_add ?_
  refine xt_kal rfl (show vp_in _ L from g7 hL h6 (by decide)) ?_
  refine xt_acn0 rfl ?_
  refine xt_iln3 rfl ?_
  refine xt_ic ?_
  refine xt_add ?_
  refine xt_kal rfl (show vp_in _ L from g7 hL h6 (by decide)) ?_
  refine xt_acn0 rfl ?_
  refine xt_iln3 rfl ?_
  refine xt_ic ?_
  refine xt_add ?_
  refine xt_kal rfl (show vp_in _ L from g7 hL h6 (by decide)) ?_
  refine xt_v4 (key := 307) (q := q_X7_holds) rfl rfl rfl rfl rfl ⟨Nat.le_of_ble_eq_true rfl, Nat.le_of_ble_eq_true rfl⟩ ⟨_, _, _, 0, (lw_mid hLI hC).1, rfl, rfl⟩ (fun rv_ S1 M_955 hq_955 => ?_)
  obtain ⟨eS_, hR⟩ := hq_955 _ _ _ rfl
  replace eS_ := eS_.symm
  subst eS_
  obtain ⟨v2, rfl⟩ : ∃ v, rv_ = some (.inl v) := ⟨_, hR.2.2.1⟩
  obtain ⟨hL2, v, e1, e2⟩ := lw_step (sp := fun V => spHolds V _ _ _) (by omega) hLI (kHolds _ _ _) hC hR
  have hve : v1 = v2 := by cases e1; cases e2; rfl
  try dsimp only [Option.toList, List.cons_append, List.nil_append]
  refine xt_ceq (t := 1042) rfl (fun hc_958 => ?_) (fun hc_958 => ?_)
  · skip
    refine xt_blk rfl rfl (by dsimp only [List.take]) ?_
    refine xt_inc rfl (by dsimp only [x_sto]) ?_
    refine xt_goto (t := 18) rfl ?_
    refine xt_cut rfl rfl (by dsimp only [List.take]) ?_
    exact ⟨600 - (i + 1), by omega, i + 1, by omega, hL2, rfl, rfl, rfl, rfl, rfl, by rw [nI_add, show 6 * i + 6 = 6 * (i + 1) by omega], rfl⟩
  · exact absurd hve hc_958
set_option maxHeartbeats 4000000 in
set_option maxRecDepth 100000 in
theorem law_c21 {L i : Nat} {xs : Nat → Int32} {M : x_M} (hL : L ≤ 3072) (h6 : 6 * i + 6 ≤ L) (hi : i ≤ 512) (hLI : LI i M) : x_go (X_law L xs) lwZ b_L_law [18] (fun pc ls st S M cs sl => ∃ μ, μ < 600 - i ∧ lwI μ pc ls st S M cs sl) 30 963 [.inr (.inr 5), .inr (.inl 0), .inr (.inl 53), .inl (nI (6 * i))] [] SH M 71 2480 := by
  refine xt_blk rfl rfl (by dsimp only [List.take]) ?_
  refine xt_aln1 rfl (by decide) ?_
  refine xt_v1 (key := 310) (q := q_X6_fits) rfl rfl rfl rfl rfl ⟨Nat.le_of_ble_eq_true rfl, Nat.le_of_ble_eq_true rfl⟩ ⟨i, hLI.1, rfl, rfl⟩ (fun rv_ S1 M_964 hq_964 => ?_)
  obtain ⟨eS_, hC0⟩ := hq_964 rfl
  replace eS_ := eS_.symm
  subst eS_
  have hC := hC0
  obtain ⟨v1, rfl⟩ : ∃ v, rv_ = some (.inl v) := ⟨_, hC.2.2.1⟩
  try dsimp only [Option.toList, List.cons_append, List.nil_append]
  refine xt_aln2 rfl (by decide) ?_
  refine xt_v1 (key := 322) (q := q_X7_fits) rfl rfl rfl rfl rfl ⟨Nat.le_of_ble_eq_true rfl, Nat.le_of_ble_eq_true rfl⟩ ⟨0, (lw_mid hLI hC).1, rfl, rfl⟩ (fun rv_ S1 M_968 hq_968 => ?_)
  obtain ⟨eS_, hR⟩ := hq_968 rfl
  replace eS_ := eS_.symm
  subst eS_
  obtain ⟨v2, rfl⟩ : ∃ v, rv_ = some (.inl v) := ⟨_, hR.2.2.1⟩
  obtain ⟨hL2, v, e1, e2⟩ := lw_step (sp := fun V => spFits V) (by omega) hLI (kFits) hC hR
  have hve : v1 = v2 := by cases e1; cases e2; rfl
  try dsimp only [Option.toList, List.cons_append, List.nil_append]
  refine xt_ceq (t := 1042) rfl (fun hc_971 => ?_) (fun hc_971 => ?_)
  · skip
    refine xt_blk rfl rfl (by dsimp only [List.take]) ?_
    refine xt_inc rfl (by dsimp only [x_sto]) ?_
    refine xt_goto (t := 18) rfl ?_
    refine xt_cut rfl rfl (by dsimp only [List.take]) ?_
    exact ⟨600 - (i + 1), by omega, i + 1, by omega, hL2, rfl, rfl, rfl, rfl, rfl, by rw [nI_add, show 6 * i + 6 = 6 * (i + 1) by omega], rfl⟩
  · exact absurd hve hc_971
set_option maxHeartbeats 4000000 in
set_option maxRecDepth 100000 in
theorem law_c22 {L i : Nat} {xs : Nat → Int32} {M : x_M} (hL : L ≤ 3072) (h6 : 6 * i + 6 ≤ L) (hi : i ≤ 512) (hLI : LI i M) : x_go (X_law L xs) lwZ b_L_law [18] (fun pc ls st S M cs sl => ∃ μ, μ < 600 - i ∧ lwI μ pc ls st S M cs sl) 30 976 [.inr (.inr 5), .inr (.inl 0), .inr (.inl 53), .inl (nI (6 * i))] [] SH M 71 2480 := by
  refine xt_blk rfl rfl (by dsimp only [List.take]) ?_
  refine xt_aln1 rfl (by decide) ?_
  refine xt_acn0 rfl ?_
  refine xt_iln3 rfl ?_
  refine xt_ic ?_
  refine xt_add ?_
  refine xt_kal rfl (show vp_in _ L from g7 hL h6 (by decide)) ?_
  refine xt_acn0 rfl ?_
  refine xt_iln3 rfl ?_
  refine xt_ic ?_
  refine xt_add ?_
  refine xt_kal rfl (show vp_in _ L from g7 hL h6 (by decide)) ?_
  refine xt_acn0 rfl ?_
  refine xt_iln3 rfl ?_
  refine xt_ic ?_
  refine xt_add ?_
  refine xt_kal rfl (show vp_in _ L from g7 hL h6 (by decide)) ?_
  refine xt_v4 (key := 325) (q := q_X6_moved) rfl rfl rfl rfl rfl ⟨Nat.le_of_ble_eq_true rfl, Nat.le_of_ble_eq_true rfl⟩ ⟨_, _, _, i, hLI.1, rfl, rfl⟩ (fun rv_ S1 M_992 hq_992 => ?_)
  obtain ⟨eS_, hC0⟩ := hq_992 _ _ _ rfl
  replace eS_ := eS_.symm
  subst eS_
  have hC := hC0
  obtain ⟨v1, rfl⟩ : ∃ v, rv_ = some (.inl v) := ⟨_, hC.2.2.1⟩
  try dsimp only [Option.toList, List.cons_append, List.nil_append]
  refine xt_aln2 rfl (by decide) ?_
  refine xt_acn0 rfl ?_
  refine xt_iln3 rfl ?_
  refine xt_ic ?_
  refine xt_add ?_
  refine xt_kal rfl (show vp_in _ L from g7 hL h6 (by decide)) ?_
  refine xt_acn0 rfl ?_
  refine xt_iln3 rfl ?_
  refine xt_ic ?_
  refine xt_add ?_
  refine xt_kal rfl (show vp_in _ L from g7 hL h6 (by decide)) ?_
  refine xt_acn0 rfl ?_
  refine xt_iln3 rfl ?_
  refine xt_ic ?_
  refine xt_add ?_
  refine xt_kal rfl (show vp_in _ L from g7 hL h6 (by decide)) ?_
  refine xt_v4 (key := 334) (q := q_X7_moved) rfl rfl rfl rfl rfl ⟨Nat.le_of_ble_eq_true rfl, Nat.le_of_ble_eq_true rfl⟩ ⟨_, _, _, 0, (lw_mid hLI hC).1, rfl, rfl⟩ (fun rv_ S1 M_1011 hq_1011 => ?_)
  obtain ⟨eS_, hR⟩ := hq_1011 _ _ _ rfl
  replace eS_ := eS_.symm
  subst eS_
  obtain ⟨v2, rfl⟩ : ∃ v, rv_ = some (.inl v) := ⟨_, hR.2.2.1⟩
  obtain ⟨hL2, v, e1, e2⟩ := lw_step (sp := fun V => spMoved V _ _ _) (by omega) hLI (kMoved _ _ _) hC hR
  have hve : v1 = v2 := by cases e1; cases e2; rfl
  try dsimp only [Option.toList, List.cons_append, List.nil_append]
  refine xt_ceq (t := 1042) rfl (fun hc_1014 => ?_) (fun hc_1014 => ?_)
  · skip
    refine xt_blk rfl rfl (by dsimp only [List.take]) ?_
    refine xt_inc rfl (by dsimp only [x_sto]) ?_
    refine xt_goto (t := 18) rfl ?_
    refine xt_cut rfl rfl (by dsimp only [List.take]) ?_
    exact ⟨600 - (i + 1), by omega, i + 1, by omega, hL2, rfl, rfl, rfl, rfl, rfl, by rw [nI_add, show 6 * i + 6 = 6 * (i + 1) by omega], rfl⟩
  · exact absurd hve hc_1014
set_option maxHeartbeats 4000000 in
set_option maxRecDepth 100000 in
theorem law_c23 {L i : Nat} {xs : Nat → Int32} {M : x_M} (hL : L ≤ 3072) (h6 : 6 * i + 6 ≤ L) (hi : i ≤ 512) (hLI : LI i M) : x_go (X_law L xs) lwZ b_L_law [18] (fun pc ls st S M cs sl => ∃ μ, μ < 600 - i ∧ lwI μ pc ls st S M cs sl) 30 1019 [.inr (.inr 5), .inr (.inl 0), .inr (.inl 53), .inl (nI (6 * i))] [] SH M 71 2480 := by
  refine xt_blk rfl rfl (by dsimp only [List.take]) ?_
  refine xt_aln1 rfl (by decide) ?_
  refine xt_acn0 rfl ?_
  refine xt_iln3 rfl ?_
  refine xt_ic ?_
  refine xt_add ?_
  refine xt_kal rfl (show vp_in _ L from g7 hL h6 (by decide)) ?_
  refine xt_v2 (key := 337) (q := q_X6_count) rfl rfl rfl rfl rfl ⟨Nat.le_of_ble_eq_true rfl, Nat.le_of_ble_eq_true rfl⟩ ⟨_, i, hLI.1, rfl, rfl⟩ (fun rv_ S1 M_1025 hq_1025 => ?_)
  obtain ⟨eS_, hC0⟩ := hq_1025 _ rfl
  replace eS_ := eS_.symm
  subst eS_
  have hC := hC0
  obtain ⟨v1, rfl⟩ : ∃ v, rv_ = some (.inl v) := ⟨_, hC.2.2.1⟩
  try dsimp only [Option.toList, List.cons_append, List.nil_append]
  refine xt_aln2 rfl (by decide) ?_
  refine xt_acn0 rfl ?_
  refine xt_iln3 rfl ?_
  refine xt_ic ?_
  refine xt_add ?_
  refine xt_kal rfl (show vp_in _ L from g7 hL h6 (by decide)) ?_
  refine xt_v2 (key := 346) (q := q_X7_count) rfl rfl rfl rfl rfl ⟨Nat.le_of_ble_eq_true rfl, Nat.le_of_ble_eq_true rfl⟩ ⟨_, 0, (lw_mid hLI hC).1, rfl, rfl⟩ (fun rv_ S1 M_1034 hq_1034 => ?_)
  obtain ⟨eS_, hR⟩ := hq_1034 _ rfl
  replace eS_ := eS_.symm
  subst eS_
  obtain ⟨v2, rfl⟩ : ∃ v, rv_ = some (.inl v) := ⟨_, hR.2.2.1⟩
  obtain ⟨hL2, v, e1, e2⟩ := lw_step (sp := fun V => spCount V _) (by omega) hLI (kCount _) hC hR
  have hve : v1 = v2 := by cases e1; cases e2; rfl
  try dsimp only [Option.toList, List.cons_append, List.nil_append]
  refine xt_ceq (t := 1042) rfl (fun hc_1037 => ?_) (fun hc_1037 => ?_)
  · skip
    refine xt_blk rfl rfl (by dsimp only [List.take]) ?_
    refine xt_inc rfl (by dsimp only [x_sto]) ?_
    refine xt_goto (t := 18) rfl ?_
    refine xt_cut rfl rfl (by dsimp only [List.take]) ?_
    exact ⟨600 - (i + 1), by omega, i + 1, by omega, hL2, rfl, rfl, rfl, rfl, rfl, by rw [nI_add, show 6 * i + 6 = 6 * (i + 1) by omega], rfl⟩
  · exact absurd hve hc_1037
set_option maxHeartbeats 4000000 in
set_option maxRecDepth 100000 in
theorem law_18 {L i : Nat} {xs : Nat → Int32} {M : x_M} (hL : L ≤ 3072) (hi : i ≤ 512) (hLI : LI i M) : ∃ b, x_lk b_L_law 18 = some b ∧ x_wp (X_law L xs) lwZ (x_go (X_law L xs) lwZ b_L_law [18] (fun pc ls st S M cs sl => ∃ μ, μ < 600 - i ∧ lwI μ pc ls st S M cs sl) 30) b.2 18 [.inr (.inr 5), .inr (.inl 0), .inr (.inl 53), .inl (nI (6 * i))] [] SH M 71 2480 := by
  refine ⟨_, rfl, ?_⟩
  refine xt_iln3 rfl ?_
  refine xt_acn0 rfl ?_
  refine xt_lek rfl ?_
  refine xt_bi ?_
  refine xt_sub ?_
  refine xt_cgt (t := 1048) rfl (fun hc_24 => ?_) (fun hc_24 => ?_)
  · skip
    refine xt_blk rfl rfl (by dsimp only [List.take]) ?_
    refine xt_ic ?_
    exact xt_ret (Or.inl rfl) ⟨rfl, rfl, by decide, by decide⟩
  · skip
    have h6 := g6 hL (by omega) hc_24
    refine xt_acn0 rfl ?_
    refine xt_iln3 rfl ?_
    refine xt_kal rfl (show vp_in _ L from g8 hL h6) ?_
    refine xt_bi ?_
    refine xt_and ?_
    refine xt_sw (T0 := 1042) (ts := [144, 167, 200, 233, 266, 319, 368, 401, 444, 487, 510, 553, 596, 639, 662, 705, 748, 791, 854, 877, 920, 963, 976, 1019]) rfl rfl rfl (by decide) (fun hd_33 => ?_) ⟨fun hx_0 => ?_, fun hx_1 => ?_, fun hx_2 => ?_, fun hx_3 => ?_, fun hx_4 => ?_, fun hx_5 => ?_, fun hx_6 => ?_, fun hx_7 => ?_, fun hx_8 => ?_, fun hx_9 => ?_, fun hx_10 => ?_, fun hx_11 => ?_, fun hx_12 => ?_, fun hx_13 => ?_, fun hx_14 => ?_, fun hx_15 => ?_, fun hx_16 => ?_, fun hx_17 => ?_, fun hx_18 => ?_, fun hx_19 => ?_, fun hx_20 => ?_, fun hx_21 => ?_, fun hx_22 => ?_, fun hx_23 => ?_, trivial⟩
    · skip
      refine xt_blk rfl rfl (by dsimp only [List.take]) ?_
      refine xt_inc rfl (by dsimp only [x_sto]) ?_
      refine xt_goto (t := 18) rfl ?_
      refine xt_cut rfl rfl (by dsimp only [List.take]) ?_
      exact ⟨600 - (i + 1), by omega, i + 1, by omega, LI_up hLI, rfl, rfl, rfl, rfl, rfl, by rw [nI_add, show 6 * i + 6 = 6 * (i + 1) by omega], rfl⟩
    · skip
      exact law_c0 hL h6 hi hLI
    · skip
      exact law_c1 hL h6 hi hLI
    · skip
      exact law_c2 hL h6 hi hLI
    · skip
      exact law_c3 hL h6 hi hLI
    · skip
      exact law_c4 hL h6 hi hLI
    · skip
      exact law_c5 hL h6 hi hLI
    · skip
      exact law_c6 hL h6 hi hLI
    · skip
      exact law_c7 hL h6 hi hLI
    · skip
      exact law_c8 hL h6 hi hLI
    · skip
      exact law_c9 hL h6 hi hLI
    · skip
      exact law_c10 hL h6 hi hLI
    · skip
      exact law_c11 hL h6 hi hLI
    · skip
      exact law_c12 hL h6 hi hLI
    · skip
      exact law_c13 hL h6 hi hLI
    · skip
      exact law_c14 hL h6 hi hLI
    · skip
      exact law_c15 hL h6 hi hLI
    · skip
      exact law_c16 hL h6 hi hLI
    · skip
      exact law_c17 hL h6 hi hLI
    · skip
      exact law_c18 hL h6 hi hLI
    · skip
      exact law_c19 hL h6 hi hLI
    · skip
      exact law_c20 hL h6 hi hLI
    · skip
      exact law_c21 hL h6 hi hLI
    · skip
      exact law_c22 hL h6 hi hLI
    · skip
      exact law_c23 hL h6 hi hLI
set_option maxHeartbeats 4000000 in
set_option maxRecDepth 100000 in
theorem law_0 (L : Nat) (xs : Nat → Int32) : x_go (X_law L xs) lwZ b_L_law [18] (fun pc ls st S M cs sl => ∃ μ, lwI μ pc ls st S M cs sl) 30 0 [.inr (.inr 5)] [] [] (fun _ _ => 0) 0 0 := by
  refine xt_blk rfl rfl (by dsimp only [List.take]) ?_
  refine xt_new (ci := 4) (p := 0) (S' := Sg 1 [(0, 4, [some 9999, some 9999, some 9999, some 9999, some 9999, some 9999])]) (a := 1) (b := 6) rfl (by decide) (by rfl) (by decide) (by rfl) rfl rfl (Nat.le_of_ble_eq_true rfl) (Nat.le_of_ble_eq_true rfl) ?_
  refine xt_dup ?_
  refine xt_al1 (key := 29) (q := q_X6_init) (A := 52) (B := 1224) (a := 53) (b := 1230) rfl rfl rfl rfl rfl rfl rfl (Nat.le_of_ble_eq_true rfl) (Nat.le_of_ble_eq_true rfl) ⟨rfl, rfl⟩ (fun rv_ S1 M_4 hq_4 => ?_)
  obtain ⟨eS_, hI6, h52, rfl⟩ := hq_4 rfl
  subst eS_
  try dsimp only [Option.toList, List.cons_append, List.nil_append]
  refine xt_asn1 rfl (by decide) (by dsimp only [x_sto]) ?_
  refine xt_new (ci := 5) (p := 53) (S' := Sg 54 [(53, 5, [some 9999, some 9999, some 9999, some 9999, none, some 9999, some 9999, some 9999, some 9999, some 9999, some 9999, some 9999, some 9999, some 9999, some 9999, some 9999, some 9999, some 9999])]) (a := 54) (b := 1248) rfl (by decide) (by rfl) (by decide) (by rfl) rfl rfl (Nat.le_of_ble_eq_true rfl) (Nat.le_of_ble_eq_true rfl) ?_
  refine xt_dup ?_
  refine xt_al1 (key := 38) (q := q_X7_init) (A := 17) (B := 1232) (a := 71) (b := 2480) rfl rfl rfl rfl rfl rfl rfl (Nat.le_of_ble_eq_true rfl) (Nat.le_of_ble_eq_true rfl) ⟨rfl, rfl⟩ (fun rv_ S1 M_12 hq_12 => ?_)
  obtain ⟨eS_, hI7, hT7, rfl⟩ := hq_12 rfl
  subst eS_
  try dsimp only [Option.toList, List.cons_append, List.nil_append]
  refine xt_asn2 rfl (by decide) (by dsimp only [x_sto]) ?_
  refine xt_ic ?_
  refine xt_isn3 rfl (by dsimp only [x_sto]) ?_
  refine xt_nil (t := 18) rfl ?_
  refine xt_cut rfl rfl (by dsimp only [List.take]) ?_
  have hr : (∀ k, k < 53 → M_12 k = M_4 k) := fun k hk => by rw [hI7.1 k hk, x_row_ne _ _ (by omega)]
  have h53 : M_12 53 = z0 := by rw [hI7.2.1.1, x_row_self]; rfl
  exact ⟨600 - 0, 0, by omega, LI_0 hI6 h52 ⟨hr, ⟨h53, hI7.2.1.2⟩, hI7.2.2.2⟩ hT7, rfl, rfl, rfl, rfl, rfl, rfl, rfl⟩
