/-! THE LAW: its walk -/
def lwZ : Instr → List x_V → List x_S → x_M → Nat → Nat → Prop := fun i st _ _ cs sl => i = .ireturn ∧ st = [.inl (nI 1)] ∧ cs ≤ 600000 ∧ sl ≤ 7302250
def lwI (μ pc : Nat) (ls st : List x_V) (S : List x_S) (M : x_M) (cs sl : Nat) : Prop := ∃ i, i ≤ 512 ∧ LI i M ∧ pc = 18 ∧ st = [] ∧ S = SH ∧ cs = 71 ∧ sl = 2480 ∧ ls = [.inr (.inr 5), .inr (.inl 0), .inr (.inl 53), .inl (nI (6 * i))] ∧ μ = 600 - i
theorem g6 {L k : Nat} (hL : L ≤ 3072) (hk : k ≤ 4000) (h : ¬ nI L - nI 6 < nI k) : k + 6 ≤ L := by
  by_cases q : 6 ≤ L
  · rw [n_subN q, nI_ltI (by omega) (by omega)] at h; omega
  · exfalso
    apply h
    have h0 : nI L - nI 6 < nI 0 := by
      rcases (show L = 0 ∨ L = 1 ∨ L = 2 ∨ L = 3 ∨ L = 4 ∨ L = 5 by omega) with rfl | rfl | rfl | rfl | rfl | rfl <;> decide
    exact Int32.lt_of_lt_of_le h0 (nI_le (by omega) (by omega))
theorem g7 {L i j : Nat} (hL : L ≤ 3072) (h : 6 * i + 6 ≤ L) (hj : j < 6) : vp_in (nI (6 * i) + nI j) L := by rw [nI_add]; exact vp_in_nI (by omega) (by omega)
theorem g8 {L i : Nat} (hL : L ≤ 3072) (h : 6 * i + 6 ≤ L) : vp_in (nI (6 * i)) L := vp_in_nI (by omega) (by omega)
theorem LI_up {c : Nat} {M : x_M} (h : LI c M) : LI (c + 1) M := ⟨⟨⟨h.1.1.1, h.1.1.2.1, Cnt_mono h.1.1.2.2⟩, h.1.2⟩, h.2⟩
set_option maxHeartbeats 4000000 in
set_option maxRecDepth 100000 in
theorem law_c0 {L i : Nat} {xs : Nat → Int32} {M : x_M} (hL : L ≤ 3072) (h6 : 6 * i + 6 ≤ L) (hi : i ≤ 512) (hLI : LI i M) : x_go (X_law L xs) lwZ b_L_law [18] (fun pc ls st S M cs sl => ∃ μ, μ < 600 - i ∧ lwI μ pc ls st S M cs sl) 30 144 [.inr (.inr 5), .inr (.inl 0), .inr (.inl 53), .inl (nI (6 * i))] [] SH M 71 2480 := by
  refine xt_blk rfl rfl (by dsimp only [List.take]) ?_
  refine xt_aln1 rfl (by decide) ?_
  refine xt_acn0 rfl ?_
  refine xt_iln3 rfl ?_
  refine xt_ic ?_
  refine xt_add ?_
  refine xt_kal rfl (show vp_in _ L from g7 hL h6 (by decide)) ?_
  refine xt_v2 (key := 40) (q := q_X6_turned) rfl rfl rfl rfl rfl ⟨Nat.le_of_ble_eq_true rfl, Nat.le_of_ble_eq_true rfl⟩ ⟨_, rfl, rfl⟩ (fun rv_ S1 M_150 hq_150 => ?_)
  obtain ⟨eS_, hC0⟩ := hq_150 _ rfl
  replace eS_ := eS_.symm
  subst eS_
  have hC := CE_turned hC0
  obtain ⟨v1, rfl⟩ : ∃ v, rv_ = some (.inl v) := ⟨_, hC.2.2.1⟩
  try dsimp only [Option.toList, List.cons_append, List.nil_append]
  refine xt_aln2 rfl (by decide) ?_
  refine xt_acn0 rfl ?_
  refine xt_iln3 rfl ?_
  refine xt_ic ?_
  refine xt_add ?_
  refine xt_kal rfl (show vp_in _ L from g7 hL h6 (by decide)) ?_
  refine xt_v2 (key := 52) (q := q_X7_turned) rfl rfl rfl rfl rfl ⟨Nat.le_of_ble_eq_true rfl, Nat.le_of_ble_eq_true rfl⟩ ⟨_, 0, (lw_mid hLI hC).1, rfl, rfl⟩ (fun rv_ S1 M_159 hq_159 => ?_)
  obtain ⟨eS_, hR⟩ := hq_159 _ rfl
  replace eS_ := eS_.symm
  subst eS_
  obtain ⟨v2, rfl⟩ : ∃ v, rv_ = some (.inl v) := ⟨_, hR.2.2.1⟩
  obtain ⟨hL2, v, e1, e2⟩ := lw_step (sp := fun V => spTurned V _) (by omega) hLI (kTurned _) hC hR
  have hve : v1 = v2 := by cases e1; cases e2; rfl
  try dsimp only [Option.toList, List.cons_append, List.nil_append]
  refine xt_ceq (t := 1042) rfl (fun hc_162 => ?_) (fun hc_162 => ?_)
  · skip
    refine xt_blk rfl rfl (by dsimp only [List.take]) ?_
    refine xt_inc rfl (by dsimp only [x_sto]) ?_
    refine xt_goto (t := 18) rfl ?_
    refine xt_cut rfl rfl (by dsimp only [List.take]) ?_
    exact ⟨600 - (i + 1), by omega, i + 1, by omega, hL2, rfl, rfl, rfl, rfl, rfl, by rw [nI_add, show 6 * i + 6 = 6 * (i + 1) by omega], rfl⟩
  · exact absurd hve hc_162
set_option maxHeartbeats 4000000 in
set_option maxRecDepth 100000 in
theorem law_c1 {L i : Nat} {xs : Nat → Int32} {M : x_M} (hL : L ≤ 3072) (h6 : 6 * i + 6 ≤ L) (hi : i ≤ 512) (hLI : LI i M) : x_go (X_law L xs) lwZ b_L_law [18] (fun pc ls st S M cs sl => ∃ μ, μ < 600 - i ∧ lwI μ pc ls st S M cs sl) 30 167 [.inr (.inr 5), .inr (.inl 0), .inr (.inl 53), .inl (nI (6 * i))] [] SH M 71 2480 := by
  refine xt_blk rfl rfl (by dsimp only [List.take]) ?_
  refine xt_aln1 rfl (by decide) ?_
  refine xt_acn0 rfl ?_
  refine xt_iln3 rfl ?_
  refine xt_ic ?_
  refine xt_add ?_
  refine xt_kal rfl (show vp_in _ L from g7 hL h6 (by decide)) ?_
  refine xt_acn0 rfl ?_
  refine xt_iln3 rfl ?_
  refine xt_ic ?_
  refine xt_add ?_
  refine xt_kal rfl (show vp_in _ L from g7 hL h6 (by decide)) ?_
  refine xt_v3 (key := 55) (q := q_X6_composed) rfl rfl rfl rfl rfl ⟨Nat.le_of_ble_eq_true rfl, Nat.le_of_ble_eq_true rfl⟩ ⟨_, _, rfl, rfl⟩ (fun rv_ S1 M_178 hq_178 => ?_)
  obtain ⟨eS_, hC0⟩ := hq_178 _ _ rfl
  replace eS_ := eS_.symm
  subst eS_
  have hC := CE_composed hC0
  obtain ⟨v1, rfl⟩ : ∃ v, rv_ = some (.inl v) := ⟨_, hC.2.2.1⟩
  try dsimp only [Option.toList, List.cons_append, List.nil_append]
  refine xt_aln2 rfl (by decide) ?_
  refine xt_acn0 rfl ?_
  refine xt_iln3 rfl ?_
  refine xt_ic ?_
  refine xt_add ?_
  refine xt_kal rfl (show vp_in _ L from g7 hL h6 (by decide)) ?_
  refine xt_acn0 rfl ?_
  refine xt_iln3 rfl ?_
  refine xt_ic ?_
  refine xt_add ?_
  refine xt_kal rfl (show vp_in _ L from g7 hL h6 (by decide)) ?_
  refine xt_v3 (key := 67) (q := q_X7_composed) rfl rfl rfl rfl rfl ⟨Nat.le_of_ble_eq_true rfl, Nat.le_of_ble_eq_true rfl⟩ ⟨_, _, 0, (lw_mid hLI hC).1, rfl, rfl⟩ (fun rv_ S1 M_192 hq_192 => ?_)
  obtain ⟨eS_, hR⟩ := hq_192 _ _ rfl
  replace eS_ := eS_.symm
  subst eS_
  obtain ⟨v2, rfl⟩ : ∃ v, rv_ = some (.inl v) := ⟨_, hR.2.2.1⟩
  obtain ⟨hL2, v, e1, e2⟩ := lw_step (sp := fun V => spComposed V _ _) (by omega) hLI (kComposed _ _) hC hR
  have hve : v1 = v2 := by cases e1; cases e2; rfl
  try dsimp only [Option.toList, List.cons_append, List.nil_append]
  refine xt_ceq (t := 1042) rfl (fun hc_195 => ?_) (fun hc_195 => ?_)
  · skip
    refine xt_blk rfl rfl (by dsimp only [List.take]) ?_
    refine xt_inc rfl (by dsimp only [x_sto]) ?_
    refine xt_goto (t := 18) rfl ?_
    refine xt_cut rfl rfl (by dsimp only [List.take]) ?_
    exact ⟨600 - (i + 1), by omega, i + 1, by omega, hL2, rfl, rfl, rfl, rfl, rfl, by rw [nI_add, show 6 * i + 6 = 6 * (i + 1) by omega], rfl⟩
  · exact absurd hve hc_195
set_option maxHeartbeats 4000000 in
set_option maxRecDepth 100000 in
theorem law_c2 {L i : Nat} {xs : Nat → Int32} {M : x_M} (hL : L ≤ 3072) (h6 : 6 * i + 6 ≤ L) (hi : i ≤ 512) (hLI : LI i M) : x_go (X_law L xs) lwZ b_L_law [18] (fun pc ls st S M cs sl => ∃ μ, μ < 600 - i ∧ lwI μ pc ls st S M cs sl) 30 200 [.inr (.inr 5), .inr (.inl 0), .inr (.inl 53), .inl (nI (6 * i))] [] SH M 71 2480 := by
  refine xt_blk rfl rfl (by dsimp only [List.take]) ?_
  refine xt_aln1 rfl (by decide) ?_
  refine xt_acn0 rfl ?_
  refine xt_iln3 rfl ?_
  refine xt_ic ?_
  refine xt_add ?_
  refine xt_kal rfl (show vp_in _ L from g7 hL h6 (by decide)) ?_
  refine xt_acn0 rfl ?_
  refine xt_iln3 rfl ?_
  refine xt_ic ?_
  refine xt_add ?_
  refine xt_kal rfl (show vp_in _ L from g7 hL h6 (by decide)) ?_
  refine xt_v3 (key := 70) (q := q_X6_near) rfl rfl rfl rfl rfl ⟨Nat.le_of_ble_eq_true rfl, Nat.le_of_ble_eq_true rfl⟩ ⟨_, _, i, hLI.1, rfl, rfl⟩ (fun rv_ S1 M_211 hq_211 => ?_)
  obtain ⟨eS_, hC0⟩ := hq_211 _ _ rfl
  replace eS_ := eS_.symm
  subst eS_
  have hC := hC0
  obtain ⟨v1, rfl⟩ : ∃ v, rv_ = some (.inl v) := ⟨_, hC.2.2.1⟩
  try dsimp only [Option.toList, List.cons_append, List.nil_append]
  refine xt_aln2 rfl (by decide) ?_
  refine xt_acn0 rfl ?_
  refine xt_iln3 rfl ?_
  refine xt_ic ?_
  refine xt_add ?_
  refine xt_kal rfl (show vp_in _ L from g7 hL h6 (by decide)) ?_
  refine xt_acn0 rfl ?_
  refine xt_iln3 rfl ?_
  refine xt_ic ?_
  refine xt_add ?_
  refine xt_kal rfl (show vp_in _ L from g7 hL h6 (by decide)) ?_
  refine xt_v3 (key := 79) (q := q_X7_near) rfl rfl rfl rfl rfl ⟨Nat.le_of_ble_eq_true rfl, Nat.le_of_ble_eq_true rfl⟩ ⟨_, _, 0, (lw_mid hLI hC).1, rfl, rfl⟩ (fun rv_ S1 M_225 hq_225 => ?_)
  obtain ⟨eS_, hR⟩ := hq_225 _ _ rfl
  replace eS_ := eS_.symm
  subst eS_
  obtain ⟨v2, rfl⟩ : ∃ v, rv_ = some (.inl v) := ⟨_, hR.2.2.1⟩
  obtain ⟨hL2, v, e1, e2⟩ := lw_step (sp := fun V => spNear V _ _) (by omega) hLI (kNear _ _) hC hR
  have hve : v1 = v2 := by cases e1; cases e2; rfl
  try dsimp only [Option.toList, List.cons_append, List.nil_append]
  refine xt_ceq (t := 1042) rfl (fun hc_228 => ?_) (fun hc_228 => ?_)
  · skip
    refine xt_blk rfl rfl (by dsimp only [List.take]) ?_
    refine xt_inc rfl (by dsimp only [x_sto]) ?_
    refine xt_goto (t := 18) rfl ?_
    refine xt_cut rfl rfl (by dsimp only [List.take]) ?_
    exact ⟨600 - (i + 1), by omega, i + 1, by omega, hL2, rfl, rfl, rfl, rfl, rfl, by rw [nI_add, show 6 * i + 6 = 6 * (i + 1) by omega], rfl⟩
  · exact absurd hve hc_228
set_option maxHeartbeats 4000000 in
set_option maxRecDepth 100000 in
theorem law_c3 {L i : Nat} {xs : Nat → Int32} {M : x_M} (hL : L ≤ 3072) (h6 : 6 * i + 6 ≤ L) (hi : i ≤ 512) (hLI : LI i M) : x_go (X_law L xs) lwZ b_L_law [18] (fun pc ls st S M cs sl => ∃ μ, μ < 600 - i ∧ lwI μ pc ls st S M cs sl) 30 233 [.inr (.inr 5), .inr (.inl 0), .inr (.inl 53), .inl (nI (6 * i))] [] SH M 71 2480 := by
  refine xt_blk rfl rfl (by dsimp only [List.take]) ?_
  refine xt_aln1 rfl (by decide) ?_
  refine xt_acn0 rfl ?_
  refine xt_iln3 rfl ?_
  refine xt_ic ?_
  refine xt_add ?_
  refine xt_kal rfl (show vp_in _ L from g7 hL h6 (by decide)) ?_
  refine xt_acn0 rfl ?_
  refine xt_iln3 rfl ?_
  refine xt_ic ?_
  refine xt_add ?_
  refine xt_kal rfl (show vp_in _ L from g7 hL h6 (by decide)) ?_
  refine xt_v3 (key := 82) (q := q_X6_steps) rfl rfl rfl rfl rfl ⟨Nat.le_of_ble_eq_true rfl, Nat.le_of_ble_eq_true rfl⟩ ⟨_, _, rfl, rfl⟩ (fun rv_ S1 M_244 hq_244 => ?_)
  obtain ⟨eS_, hC0⟩ := hq_244 _ _ rfl
  replace eS_ := eS_.symm
  subst eS_
  have hC := CE_steps hC0
  obtain ⟨v1, rfl⟩ : ∃ v, rv_ = some (.inl v) := ⟨_, hC.2.2.1⟩
  try dsimp only [Option.toList, List.cons_append, List.nil_append]
  refine xt_aln2 rfl (by decide) ?_
  refine xt_acn0 rfl ?_
  refine xt_iln3 rfl ?_
  refine xt_ic ?_
  refine xt_add ?_
  refine xt_kal rfl (show vp_in _ L from g7 hL h6 (by decide)) ?_
  refine xt_acn0 rfl ?_
  refine xt_iln3 rfl ?_
  refine xt_ic ?_
  refine xt_add ?_
  refine xt_kal rfl (show vp_in _ L from g7 hL h6 (by decide)) ?_
  refine xt_v3 (key := 91) (q := q_X7_steps) rfl rfl rfl rfl rfl ⟨Nat.le_of_ble_eq_true rfl, Nat.le_of_ble_eq_true rfl⟩ ⟨_, _, 0, (lw_mid hLI hC).1, rfl, rfl⟩ (fun rv_ S1 M_258 hq_258 => ?_)
  obtain ⟨eS_, hR⟩ := hq_258 _ _ rfl
  replace eS_ := eS_.symm
  subst eS_
  obtain ⟨v2, rfl⟩ : ∃ v, rv_ = some (.inl v) := ⟨_, hR.2.2.1⟩
  obtain ⟨hL2, v, e1, e2⟩ := lw_step (sp := fun V => spSteps V _ _) (by omega) hLI (kSteps _ _) hC hR
  have hve : v1 = v2 := by cases e1; cases e2; rfl
  try dsimp only [Option.toList, List.cons_append, List.nil_append]
  refine xt_ceq (t := 1042) rfl (fun hc_261 => ?_) (fun hc_261 => ?_)
  · skip
    refine xt_blk rfl rfl (by dsimp only [List.take]) ?_
    refine xt_inc rfl (by dsimp only [x_sto]) ?_
    refine xt_goto (t := 18) rfl ?_
    refine xt_cut rfl rfl (by dsimp only [List.take]) ?_
    exact ⟨600 - (i + 1), by omega, i + 1, by omega, hL2, rfl, rfl, rfl, rfl, rfl, by rw [nI_add, show 6 * i + 6 = 6 * (i + 1) by omega], rfl⟩
  · exact absurd hve hc_261
set_option maxHeartbeats 4000000 in
set_option maxRecDepth 100000 in
theorem law_c4 {L i : Nat} {xs : Nat → Int32} {M : x_M} (hL : L ≤ 3072) (h6 : 6 * i + 6 ≤ L) (hi : i ≤ 512) (hLI : LI i M) : x_go (X_law L xs) lwZ b_L_law [18] (fun pc ls st S M cs sl => ∃ μ, μ < 600 - i ∧ lwI μ pc ls st S M cs sl) 30 266 [.inr (.inr 5), .inr (.inl 0), .inr (.inl 53), .inl (nI (6 * i))] [] SH M 71 2480 := by
  refine xt_blk rfl rfl (by dsimp only [List.take]) ?_
  refine xt_aln1 rfl (by decide) ?_
  refine xt_acn0 rfl ?_
  refine xt_iln3 rfl ?_
  refine xt_ic ?_
  refine xt_add ?_
  refine xt_kal rfl (show vp_in _ L from g7 hL h6 (by decide)) ?_
  refine xt_acn0 rfl ?_
  refine xt_iln3 rfl ?_
  refine xt_ic ?_
  refine xt_add ?_
  refine xt_kal rfl (show vp_in _ L from g7 hL h6 (by decide)) ?_
  refine xt_acn0 rfl ?_
  refine xt_iln3 rfl ?_
  refine xt_ic ?_
  refine xt_add ?_
  refine xt_kal rfl (show vp_in _ L from g7 hL h6 (by decide)) ?_
  refine xt_acn0 rfl ?_
  refine xt_iln3 rfl ?_
  refine xt_ic ?_
  refine xt_add ?_
  refine xt_kal rfl (show vp_in _ L from g7 hL h6 (by decide)) ?_
  refine xt_v5 (key := 94) (q := q_X6_tell) rfl rfl rfl rfl rfl ⟨Nat.le_of_ble_eq_true rfl, Nat.le_of_ble_eq_true rfl⟩ ⟨_, _, _, _, i, hLI.1, rfl, rfl⟩ (fun rv_ S1 M_287 hq_287 => ?_)
  obtain ⟨eS_, hC0⟩ := hq_287 _ _ _ _ rfl
  replace eS_ := eS_.symm
  subst eS_
  have hC := hC0
  obtain ⟨v1, rfl⟩ : ∃ v, rv_ = some (.inl v) := ⟨_, hC.2.2.1⟩
  try dsimp only [Option.toList, List.cons_append, List.nil_append]
  refine xt_aln2 rfl (by decide) ?_
  refine xt_acn0 rfl ?_
  refine xt_iln3 rfl ?_
  refine xt_ic ?_
  refine xt_add ?_
  refine xt_kal rfl (show vp_in _ L from g7 hL h6 (by decide)) ?_
  refine xt_acn0 rfl ?_
  refine xt_iln3 rfl ?_
  refine xt_ic ?_
  refine xt_add ?_
  refine xt_kal rfl (show vp_in _ L from g7 hL h6 (by decide)) ?_
  refine xt_acn0 rfl ?_
  refine xt_iln3 rfl ?_
  refine xt_ic ?_
  refine xt_add ?_
  refine xt_kal rfl (show vp_in _ L from g7 hL h6 (by decide)) ?_
  refine xt_acn0 rfl ?_
  refine xt_iln3 rfl ?_
  refine xt_ic ?_
  refine xt_add ?_
  refine xt_kal rfl (show vp_in _ L from g7 hL h6 (by decide)) ?_
  refine xt_v5 (key := 106) (q := q_X7_tell) rfl rfl rfl rfl rfl ⟨Nat.le_of_ble_eq_true rfl, Nat.le_of_ble_eq_true rfl⟩ ⟨_, _, _, _, 0, (lw_mid hLI hC).1, rfl, rfl⟩ (fun rv_ S1 M_311 hq_311 => ?_)
  obtain ⟨eS_, hR⟩ := hq_311 _ _ _ _ rfl
  replace eS_ := eS_.symm
  subst eS_
  obtain ⟨v2, rfl⟩ : ∃ v, rv_ = some (.inl v) := ⟨_, hR.2.2.1⟩
  obtain ⟨hL2, v, e1, e2⟩ := lw_step (sp := fun V => spTell V _ _ _ _) (by omega) hLI (kTell _ _ _ _) hC hR
  have hve : v1 = v2 := by cases e1; cases e2; rfl
  try dsimp only [Option.toList, List.cons_append, List.nil_append]
  refine xt_ceq (t := 1042) rfl (fun hc_314 => ?_) (fun hc_314 => ?_)
  · skip
    refine xt_blk rfl rfl (by dsimp only [List.take]) ?_
    refine xt_inc rfl (by dsimp only [x_sto]) ?_
    refine xt_goto (t := 18) rfl ?_
    refine xt_cut rfl rfl (by dsimp only [List.take]) ?_
    exact ⟨600 - (i + 1), by omega, i + 1, by omega, hL2, rfl, rfl, rfl, rfl, rfl, by rw [nI_add, show 6 * i + 6 = 6 * (i + 1) by omega], rfl⟩
  · exact absurd hve hc_314
set_option maxHeartbeats 4000000 in
set_option maxRecDepth 100000 in
theorem law_c5 {L i : Nat} {xs : Nat → Int32} {M : x_M} (hL : L ≤ 3072) (h6 : 6 * i + 6 ≤ L) (hi : i ≤ 512) (hLI : LI i M) : x_go (X_law L xs) lwZ b_L_law [18] (fun pc ls st S M cs sl => ∃ μ, μ < 600 - i ∧ lwI μ pc ls st S M cs sl) 30 319 [.inr (.inr 5), .inr (.inl 0), .inr (.inl 53), .inl (nI (6 * i))] [] SH M 71 2480 := by
  refine xt_blk rfl rfl (by dsimp only [List.take]) ?_
  refine xt_aln1 rfl (by decide) ?_
  refine xt_acn0 rfl ?_
  refine xt_iln3 rfl ?_
  refine xt_ic ?_
  refine xt_add ?_
  refine xt_kal rfl (show vp_in _ L from g7 hL h6 (by decide)) ?_
  refine xt_acn0 rfl ?_
  refine xt_iln3 rfl ?_
  refine xt_ic ?_
  refine xt_add ?_
  refine xt_kal rfl (show vp_in _ L from g7 hL h6 (by decide)) ?_
  refine xt_eq (t := 337) rfl (fun hc_330 => ?_) (fun hc_330 => ?_)
  · skip
    refine xt_blk rfl rfl (by dsimp only [List.take]) ?_
    refine xt_ic ?_
    refine xt_nil (t := 338) rfl ?_
    refine xt_blk rfl rfl (by dsimp only [List.take]) ?_
    refine xt_v3 (key := 109) (q := q_X6_silent) rfl rfl rfl rfl rfl ⟨Nat.le_of_ble_eq_true rfl, Nat.le_of_ble_eq_true rfl⟩ ⟨_, _, i, hLI.1, rfl, rfl⟩ (fun rv_ S1 M_338 hq_338 => ?_)
    obtain ⟨eS_, hC0⟩ := hq_338 _ _ rfl
    replace eS_ := eS_.symm
    subst eS_
    have hC := hC0
    obtain ⟨v1, rfl⟩ : ∃ v, rv_ = some (.inl v) := ⟨_, hC.2.2.1⟩
    try dsimp only [Option.toList, List.cons_append, List.nil_append]
    refine xt_aln2 rfl (by decide) ?_
    refine xt_acn0 rfl ?_
    refine xt_iln3 rfl ?_
    refine xt_ic ?_
    refine xt_add ?_
    refine xt_kal rfl (show vp_in _ L from g7 hL h6 (by decide)) ?_
    refine xt_acn0 rfl ?_
    refine xt_iln3 rfl ?_
    refine xt_ic ?_
    refine xt_add ?_
    refine xt_kal rfl (show vp_in _ L from g7 hL h6 (by decide)) ?_
    refine xt_eq (t := 359) rfl (fun hc_352 => ?_) (fun hc_352 => ?_)
    · skip
      refine xt_blk rfl rfl (by dsimp only [List.take]) ?_
      refine xt_ic ?_
      refine xt_nil (t := 360) rfl ?_
      refine xt_blk rfl rfl (by dsimp only [List.take]) ?_
      refine xt_v3 (key := 121) (q := q_X7_silent) rfl rfl rfl rfl rfl ⟨Nat.le_of_ble_eq_true rfl, Nat.le_of_ble_eq_true rfl⟩ ⟨_, _, 0, (lw_mid hLI hC).1, rfl, rfl⟩ (fun rv_ S1 M_360 hq_360 => ?_)
      obtain ⟨eS_, hR⟩ := hq_360 _ _ rfl
      replace eS_ := eS_.symm
      subst eS_
      obtain ⟨v2, rfl⟩ : ∃ v, rv_ = some (.inl v) := ⟨_, hR.2.2.1⟩
      obtain ⟨hL2, v, e1, e2⟩ := lw_step (sp := fun V => spSilent V _ _) (by omega) hLI (kSilent _ _) hC hR
      have hve : v1 = v2 := by cases e1; cases e2; rfl
      try dsimp only [Option.toList, List.cons_append, List.nil_append]
      refine xt_ceq (t := 1042) rfl (fun hc_363 => ?_) (fun hc_363 => ?_)
      · skip
        refine xt_blk rfl rfl (by dsimp only [List.take]) ?_
        refine xt_inc rfl (by dsimp only [x_sto]) ?_
        refine xt_goto (t := 18) rfl ?_
        refine xt_cut rfl rfl (by dsimp only [List.take]) ?_
        exact ⟨600 - (i + 1), by omega, i + 1, by omega, hL2, rfl, rfl, rfl, rfl, rfl, by rw [nI_add, show 6 * i + 6 = 6 * (i + 1) by omega], rfl⟩
      · exact absurd hve hc_363
    · skip
      exact absurd hc_330 hc_352
  · skip
    refine xt_ic ?_
    refine xt_goto (t := 338) rfl ?_
    refine xt_blk rfl rfl (by dsimp only [List.take]) ?_
    refine xt_v3 (key := 109) (q := q_X6_silent) rfl rfl rfl rfl rfl ⟨Nat.le_of_ble_eq_true rfl, Nat.le_of_ble_eq_true rfl⟩ ⟨_, _, i, hLI.1, rfl, rfl⟩ (fun rv_ S1 M_338 hq_338 => ?_)
    obtain ⟨eS_, hC0⟩ := hq_338 _ _ rfl
    replace eS_ := eS_.symm
    subst eS_
    have hC := hC0
    obtain ⟨v1, rfl⟩ : ∃ v, rv_ = some (.inl v) := ⟨_, hC.2.2.1⟩
    try dsimp only [Option.toList, List.cons_append, List.nil_append]
    refine xt_aln2 rfl (by decide) ?_
    refine xt_acn0 rfl ?_
    refine xt_iln3 rfl ?_
    refine xt_ic ?_
    refine xt_add ?_
    refine xt_kal rfl (show vp_in _ L from g7 hL h6 (by decide)) ?_
    refine xt_acn0 rfl ?_
    refine xt_iln3 rfl ?_
    refine xt_ic ?_
    refine xt_add ?_
    refine xt_kal rfl (show vp_in _ L from g7 hL h6 (by decide)) ?_
    refine xt_eq (t := 359) rfl (fun hc_352 => ?_) (fun hc_352 => ?_)
    · skip
      exact absurd hc_352 hc_330
    · skip
      refine xt_ic ?_
      refine xt_goto (t := 360) rfl ?_
      refine xt_blk rfl rfl (by dsimp only [List.take]) ?_
      refine xt_v3 (key := 121) (q := q_X7_silent) rfl rfl rfl rfl rfl ⟨Nat.le_of_ble_eq_true rfl, Nat.le_of_ble_eq_true rfl⟩ ⟨_, _, 0, (lw_mid hLI hC).1, rfl, rfl⟩ (fun rv_ S1 M_360 hq_360 => ?_)
      obtain ⟨eS_, hR⟩ := hq_360 _ _ rfl
      replace eS_ := eS_.symm
      subst eS_
      obtain ⟨v2, rfl⟩ : ∃ v, rv_ = some (.inl v) := ⟨_, hR.2.2.1⟩
      obtain ⟨hL2, v, e1, e2⟩ := lw_step (sp := fun V => spSilent V _ _) (by omega) hLI (kSilent _ _) hC hR
      have hve : v1 = v2 := by cases e1; cases e2; rfl
      try dsimp only [Option.toList, List.cons_append, List.nil_append]
      refine xt_ceq (t := 1042) rfl (fun hc_363 => ?_) (fun hc_363 => ?_)
      · skip
        refine xt_blk rfl rfl (by dsimp only [List.take]) ?_
        refine xt_inc rfl (by dsimp only [x_sto]) ?_
        refine xt_goto (t := 18) rfl ?_
        refine xt_cut rfl rfl (by dsimp only [List.take]) ?_
        exact ⟨600 - (i + 1), by omega, i + 1, by omega, hL2, rfl, rfl, rfl, rfl, rfl, by rw [nI_add, show 6 * i + 6 = 6 * (i + 1) by omega], rfl⟩
      · exact absurd hve hc_363
set_option maxHeartbeats 4000000 in
set_option maxRecDepth 100000 in
theorem law_c6 {L i : Nat} {xs : Nat → Int32} {M : x_M} (hL : L ≤ 3072) (h6 : 6 * i + 6 ≤ L) (hi : i ≤ 512) (hLI : LI i M) : x_go (X_law L xs) lwZ b_L_law [18] (fun pc ls st S M cs sl => ∃ μ, μ < 600 - i ∧ lwI μ pc ls st S M cs sl) 30 368 [.inr (.inr 5), .inr (.inl 0), .inr (.inl 53), .inl (nI (6 * i))] [] SH M 71 2480 := by
  refine xt_blk rfl rfl (by dsimp only [List.take]) ?_
  refine xt_aln1 rfl (by decide) ?_
  refine xt_acn0 rfl ?_
  refine xt_iln3 rfl ?_
  refine xt_ic ?_
  refine xt_add ?_
  refine xt_kal rfl (show vp_in _ L from g7 hL h6 (by decide)) ?_
  refine xt_acn0 rfl ?_
  refine xt_iln3 rfl ?_
  refine xt_ic ?_
  refine xt_add ?_
  refine xt_kal rfl (show vp_in _ L from g7 hL h6 (by decide)) ?_
  refine xt_v3 (key := 124) (q := q_X6_statement) rfl rfl rfl rfl rfl ⟨Nat.le_of_ble_eq_true rfl, Nat.le_of_ble_eq_true rfl⟩ ⟨_, _, i, hLI.1, rfl, rfl⟩ (fun rv_ S1 M_379 hq_379 => ?_)
  obtain ⟨eS_, hC0⟩ := hq_379 _ _ rfl
  replace eS_ := eS_.symm
  subst eS_
  have hC := hC0
  obtain ⟨v1, rfl⟩ : ∃ v, rv_ = some (.inl v) := ⟨_, hC.2.2.1⟩
  try dsimp only [Option.toList, List.cons_append, List.nil_append]
  refine xt_aln2 rfl (by decide) ?_
  refine xt_acn0 rfl ?_
  refine xt_iln3 rfl ?_
  refine xt_ic ?_
  refine xt_add ?_
  refine xt_kal rfl (show vp_in _ L from g7 hL h6 (by decide)) ?_
  refine xt_acn0 rfl ?_
  refine xt_iln3 rfl ?_
  refine xt_ic ?_
  refine xt_add ?_
  refine xt_kal rfl (show vp_in _ L from g7 hL h6 (by decide)) ?_
  refine xt_v3 (key := 133) (q := q_X7_statement) rfl rfl rfl rfl rfl ⟨Nat.le_of_ble_eq_true rfl, Nat.le_of_ble_eq_true rfl⟩ ⟨_, _, 0, (lw_mid hLI hC).1, rfl, rfl⟩ (fun rv_ S1 M_393 hq_393 => ?_)
  obtain ⟨eS_, hR⟩ := hq_393 _ _ rfl
  replace eS_ := eS_.symm
  subst eS_
  obtain ⟨v2, rfl⟩ : ∃ v, rv_ = some (.inl v) := ⟨_, hR.2.2.1⟩
  obtain ⟨hL2, v, e1, e2⟩ := lw_step (sp := fun V => spStatement V _ _) (by omega) hLI (kStatement _ _) hC hR
  have hve : v1 = v2 := by cases e1; cases e2; rfl
  try dsimp only [Option.toList, List.cons_append, List.nil_append]
  refine xt_ceq (t := 1042) rfl (fun hc_396 => ?_) (fun hc_396 => ?_)
  · skip
    refine xt_blk rfl rfl (by dsimp only [List.take]) ?_
    refine xt_inc rfl (by dsimp only [x_sto]) ?_
    refine xt_goto (t := 18) rfl ?_
    refine xt_cut rfl rfl (by dsimp only [List.take]) ?_
    exact ⟨600 - (i + 1), by omega, i + 1, by omega, hL2, rfl, rfl, rfl, rfl, rfl, by rw [nI_add, show 6 * i + 6 = 6 * (i + 1) by omega], rfl⟩
  · exact absurd hve hc_396
set_option maxHeartbeats 4000000 in
set_option maxRecDepth 100000 in
theorem law_c7 {L i : Nat} {xs : Nat → Int32} {M : x_M} (hL : L ≤ 3072) (h6 : 6 * i + 6 ≤ L) (hi : i ≤ 512) (hLI : LI i M) : x_go (X_law L xs) lwZ b_L_law [18] (fun pc ls st S M cs sl => ∃ μ, μ < 600 - i ∧ lwI μ pc ls st S M cs sl) 30 401 [.inr (.inr 5), .inr (.inl 0), .inr (.inl 53), .inl (nI (6 * i))] [] SH M 71 2480 := by
  refine xt_blk rfl rfl (by dsimp only [List.take]) ?_
  refine xt_aln1 rfl (by decide) ?_
  refine xt_acn0 rfl ?_
  refine xt_iln3 rfl ?_
  refine xt_ic ?_
  refine xt_add ?_
  refine xt_kal rfl (show vp_in _ L from g7 hL h6 (by decide)) ?_
  refine xt_acn0 rfl ?_
  refine xt_iln3 rfl ?_
  refine xt_ic ?_
  refine xt_add ?_
  refine xt_kal rfl (show vp_in _ L from g7 hL h6 (by decide)) ?_
  refine xt_acn0 rfl ?_
  refine xt_iln3 rfl ?_
  refine xt_ic ?_
  refine xt_add ?_
  refine xt_kal rfl (show vp_in _ L from g7 hL h6 (by decide)) ?_
  refine xt_v4 (key := 136) (q := q_X6_told) rfl rfl rfl rfl rfl ⟨Nat.le_of_ble_eq_true rfl, Nat.le_of_ble_eq_true rfl⟩ ⟨_, _, _, i, hLI.1, rfl, rfl⟩ (fun rv_ S1 M_417 hq_417 => ?_)
  obtain ⟨eS_, hC0⟩ := hq_417 _ _ _ rfl
  replace eS_ := eS_.symm
  subst eS_
  have hC := hC0
  obtain ⟨v1, rfl⟩ : ∃ v, rv_ = some (.inl v) := ⟨_, hC.2.2.1⟩
  try dsimp only [Option.toList, List.cons_append, List.nil_append]
  refine xt_aln2 rfl (by decide) ?_
  refine xt_acn0 rfl ?_
  refine xt_iln3 rfl ?_
  refine xt_ic ?_
  refine xt_add ?_
  refine xt_kal rfl (show vp_in _ L from g7 hL h6 (by decide)) ?_
  refine xt_acn0 rfl ?_
  refine xt_iln3 rfl ?_
  refine xt_ic ?_
  refine xt_add ?_
  refine xt_kal rfl (show vp_in _ L from g7 hL h6 (by decide)) ?_
  refine xt_acn0 rfl ?_
  refine xt_iln3 rfl ?_
  refine xt_ic ?_
  refine xt_add ?_
  refine xt_kal rfl (show vp_in _ L from g7 hL h6 (by decide)) ?_
  refine xt_v4 (key := 148) (q := q_X7_told) rfl rfl rfl rfl rfl ⟨Nat.le_of_ble_eq_true rfl, Nat.le_of_ble_eq_true rfl⟩ ⟨_, _, _, 0, (lw_mid hLI hC).1, rfl, rfl⟩ (fun rv_ S1 M_436 hq_436 => ?_)
  obtain ⟨eS_, hR⟩ := hq_436 _ _ _ rfl
  replace eS_ := eS_.symm
  subst eS_
  obtain ⟨v2, rfl⟩ : ∃ v, rv_ = some (.inl v) := ⟨_, hR.2.2.1⟩
  obtain ⟨hL2, v, e1, e2⟩ := lw_step (sp := fun V => spTold V _ _ _) (by omega) hLI (kTold _ _ _) hC hR
  have hve : v1 = v2 := by cases e1; cases e2; rfl
  try dsimp only [Option.toList, List.cons_append, List.nil_append]
  refine xt_ceq (t := 1042) rfl (fun hc_439 => ?_) (fun hc_439 => ?_)
  · skip
    refine xt_blk rfl rfl (by dsimp only [List.take]) ?_
    refine xt_inc rfl (by dsimp only [x_sto]) ?_
    refine xt_goto (t := 18) rfl ?_
    refine xt_cut rfl rfl (by dsimp only [List.take]) ?_
    exact ⟨600 - (i + 1), by omega, i + 1, by omega, hL2, rfl, rfl, rfl, rfl, rfl, by rw [nI_add, show 6 * i + 6 = 6 * (i + 1) by omega], rfl⟩
  · exact absurd hve hc_439
set_option maxHeartbeats 4000000 in
set_option maxRecDepth 100000 in
theorem law_c8 {L i : Nat} {xs : Nat → Int32} {M : x_M} (hL : L ≤ 3072) (h6 : 6 * i + 6 ≤ L) (hi : i ≤ 512) (hLI : LI i M) : x_go (X_law L xs) lwZ b_L_law [18] (fun pc ls st S M cs sl => ∃ μ, μ < 600 - i ∧ lwI μ pc ls st S M cs sl) 30 444 [.inr (.inr 5), .inr (.inl 0), .inr (.inl 53), .inl (nI (6 * i))] [] SH M 71 2480 := by
  refine xt_blk rfl rfl (by dsimp only [List.take]) ?_
  refine xt_aln1 rfl (by decide) ?_
  refine xt_acn0 rfl ?_
  refine xt_iln3 rfl ?_
  refine xt_ic ?_
  refine xt_add ?_
  refine xt_kal rfl (show vp_in _ L from g7 hL h6 (by decide)) ?_
  refine xt_acn0 rfl ?_
  refine xt_iln3 rfl ?_
  refine xt_ic ?_
  refine xt_add ?_
  refine xt_kal rfl (show vp_in _ L from g7 hL h6 (by decide)) ?_
  refine xt_acn0 rfl ?_
  refine xt_iln3 rfl ?_
  refine xt_ic ?_
  refine xt_add ?_
  refine xt_kal rfl (show vp_in _ L from g7 hL h6 (by decide)) ?_
  refine xt_v4 (key := 151) (q := q_X6_closed) rfl rfl rfl rfl rfl ⟨Nat.le_of_ble_eq_true rfl, Nat.le_of_ble_eq_true rfl⟩ ⟨_, _, _, i, hLI.1, rfl, rfl⟩ (fun rv_ S1 M_460 hq_460 => ?_)
  obtain ⟨eS_, hC0⟩ := hq_460 _ _ _ rfl
  replace eS_ := eS_.symm
  subst eS_
  have hC := hC0
  obtain ⟨v1, rfl⟩ : ∃ v, rv_ = some (.inl v) := ⟨_, hC.2.2.1⟩
  try dsimp only [Option.toList, List.cons_append, List.nil_append]
  refine xt_aln2 rfl (by decide) ?_
  refine xt_acn0 rfl ?_
  refine xt_iln3 rfl ?_
  refine xt_ic ?_
  refine xt_add ?_
  refine xt_kal rfl (show vp_in _ L from g7 hL h6 (by decide)) ?_
  refine xt_acn0 rfl ?_
  refine xt_iln3 rfl ?_
  refine xt_ic ?_
  refine xt_add ?_
  refine xt_kal rfl (show vp_in _ L from g7 hL h6 (by decide)) ?_
  refine xt_acn0 rfl ?_
  refine xt_iln3 rfl ?_
  refine xt_ic ?_
  refine xt_add ?_
  refine xt_kal rfl (show vp_in _ L from g7 hL h6 (by decide)) ?_
  refine xt_v4 (key := 160) (q := q_X7_closed) rfl rfl rfl rfl rfl ⟨Nat.le_of_ble_eq_true rfl, Nat.le_of_ble_eq_true rfl⟩ ⟨_, _, _, 0, (lw_mid hLI hC).1, rfl, rfl⟩ (fun rv_ S1 M_479 hq_479 => ?_)
  obtain ⟨eS_, hR⟩ := hq_479 _ _ _ rfl
  replace eS_ := eS_.symm
  subst eS_
  obtain ⟨v2, rfl⟩ : ∃ v, rv_ = some (.inl v) := ⟨_, hR.2.2.1⟩
  obtain ⟨hL2, v, e1, e2⟩ := lw_step (sp := fun V => spClosed V _ _ _) (by omega) hLI (kClosed _ _ _) hC hR
  have hve : v1 = v2 := by cases e1; cases e2; rfl
  try dsimp only [Option.toList, List.cons_append, List.nil_append]
  refine xt_ceq (t := 1042) rfl (fun hc_482 => ?_) (fun hc_482 => ?_)
  · skip
    refine xt_blk rfl rfl (by dsimp only [List.take]) ?_
    refine xt_inc rfl (by dsimp only [x_sto]) ?_
    refine xt_goto (t := 18) rfl ?_
    refine xt_cut rfl rfl (by dsimp only [List.take]) ?_
    exact ⟨600 - (i + 1), by omega, i + 1, by omega, hL2, rfl, rfl, rfl, rfl, rfl, by rw [nI_add, show 6 * i + 6 = 6 * (i + 1) by omega], rfl⟩
  · exact absurd hve hc_482
set_option maxHeartbeats 4000000 in
set_option maxRecDepth 100000 in
theorem law_c9 {L i : Nat} {xs : Nat → Int32} {M : x_M} (hL : L ≤ 3072) (h6 : 6 * i + 6 ≤ L) (hi : i ≤ 512) (hLI : LI i M) : x_go (X_law L xs) lwZ b_L_law [18] (fun pc ls st S M cs sl => ∃ μ, μ < 600 - i ∧ lwI μ pc ls st S M cs sl) 30 487 [.inr (.inr 5), .inr (.inl 0), .inr (.inl 53), .inl (nI (6 * i))] [] SH M 71 2480 := by
  refine xt_blk rfl rfl (by dsimp only [List.take]) ?_
  refine xt_aln1 rfl (by decide) ?_
  refine xt_acn0 rfl ?_
  refine xt_iln3 rfl ?_
  refine xt_ic ?_
  refine xt_add ?_
  refine xt_kal rfl (show vp_in _ L from g7 hL h6 (by decide)) ?_
  refine xt_v2 (key := 163) (q := q_X6_canBe) rfl rfl rfl rfl rfl ⟨Nat.le_of_ble_eq_true rfl, Nat.le_of_ble_eq_true rfl⟩ ⟨_, i, hLI.1, rfl, rfl⟩ (fun rv_ S1 M_493 hq_493 => ?_)
  obtain ⟨eS_, hC0⟩ := hq_493 _ rfl
  replace eS_ := eS_.symm
  subst eS_
  have hC := hC0
  obtain ⟨v1, rfl⟩ : ∃ v, rv_ = some (.inl v) := ⟨_, hC.2.2.1⟩
  try dsimp only [Option.toList, List.cons_append, List.nil_append]
  refine xt_aln2 rfl (by decide) ?_
  refine xt_acn0 rfl ?_
  refine xt_iln3 rfl ?_
  refine xt_ic ?_
  refine xt_add ?_
  refine xt_kal rfl (show vp_in _ L from g7 hL h6 (by decide)) ?_
  refine xt_v2 (key := 172) (q := q_X7_canBe) rfl rfl rfl rfl rfl ⟨Nat.le_of_ble_eq_true rfl, Nat.le_of_ble_eq_true rfl⟩ ⟨_, 0, (lw_mid hLI hC).1, rfl, rfl⟩ (fun rv_ S1 M_502 hq_502 => ?_)
  obtain ⟨eS_, hR⟩ := hq_502 _ rfl
  replace eS_ := eS_.symm
  subst eS_
  obtain ⟨v2, rfl⟩ : ∃ v, rv_ = some (.inl v) := ⟨_, hR.2.2.1⟩
  obtain ⟨hL2, v, e1, e2⟩ := lw_step (sp := fun V => spCanBe V _) (by omega) hLI (kCanBe _) hC hR
  have hve : v1 = v2 := by cases e1; cases e2; rfl
  try dsimp only [Option.toList, List.cons_append, List.nil_append]
  refine xt_ceq (t := 1042) rfl (fun hc_505 => ?_) (fun hc_505 => ?_)
  · skip
    refine xt_blk rfl rfl (by dsimp only [List.take]) ?_
    refine xt_inc rfl (by dsimp only [x_sto]) ?_
    refine xt_goto (t := 18) rfl ?_
    refine xt_cut rfl rfl (by dsimp only [List.take]) ?_
    exact ⟨600 - (i + 1), by omega, i + 1, by omega, hL2, rfl, rfl, rfl, rfl, rfl, by rw [nI_add, show 6 * i + 6 = 6 * (i + 1) by omega], rfl⟩
  · exact absurd hve hc_505
set_option maxHeartbeats 4000000 in
set_option maxRecDepth 100000 in
theorem law_c10 {L i : Nat} {xs : Nat → Int32} {M : x_M} (hL : L ≤ 3072) (h6 : 6 * i + 6 ≤ L) (hi : i ≤ 512) (hLI : LI i M) : x_go (X_law L xs) lwZ b_L_law [18] (fun pc ls st S M cs sl => ∃ μ, μ < 600 - i ∧ lwI μ pc ls st S M cs sl) 30 510 [.inr (.inr 5), .inr (.inl 0), .inr (.inl 53), .inl (nI (6 * i))] [] SH M 71 2480 := by
  refine xt_blk rfl rfl (by dsimp only [List.take]) ?_
  refine xt_aln1 rfl (by decide) ?_
  refine xt_acn0 rfl ?_
  refine xt_iln3 rfl ?_
  refine xt_ic ?_
  refine xt_add ?_
  refine xt_kal rfl (show vp_in _ L from g7 hL h6 (by decide)) ?_
  refine xt_acn0 rfl ?_
  refine xt_iln3 rfl ?_
  refine xt_ic ?_
  refine xt_add ?_
  refine xt_kal rfl (show vp_in _ L from g7 hL h6 (by decide)) ?_
  refine xt_acn0 rfl ?_
  refine xt_iln3 rfl ?_
  refine xt_ic ?_
  refine xt_add ?_
  refine xt_kal rfl (show vp_in _ L from g7 hL h6 (by decide)) ?_
  refine xt_v4 (key := 175) (q := q_X6_can) rfl rfl rfl rfl rfl ⟨Nat.le_of_ble_eq_true rfl, Nat.le_of_ble_eq_true rfl⟩ ⟨_, _, _, i, hLI.1, rfl, rfl⟩ (fun rv_ S1 M_526 hq_526 => ?_)
  obtain ⟨eS_, hC0⟩ := hq_526 _ _ _ rfl
  replace eS_ := eS_.symm
  subst eS_
  have hC := hC0
  obtain ⟨v1, rfl⟩ : ∃ v, rv_ = some (.inl v) := ⟨_, hC.2.2.1⟩
  try dsimp only [Option.toList, List.cons_append, List.nil_append]
  refine xt_aln2 rfl (by decide) ?_
  refine xt_acn0 rfl ?_
  refine xt_iln3 rfl ?_
  refine xt_ic ?_
  refine xt_add ?_
  refine xt_kal rfl (show vp_in _ L from g7 hL h6 (by decide)) ?_
  refine xt_acn0 rfl ?_
  refine xt_iln3 rfl ?_
  refine xt_ic ?_
  refine xt_add ?_
  refine xt_kal rfl (show vp_in _ L from g7 hL h6 (by decide)) ?_
  refine xt_acn0 rfl ?_
  refine xt_iln3 rfl ?_
  refine xt_ic ?_
  refine xt_add ?_
  refine xt_kal rfl (show vp_in _ L from g7 hL h6 (by decide)) ?_
  refine xt_v4 (key := 184) (q := q_X7_can) rfl rfl rfl rfl rfl ⟨Nat.le_of_ble_eq_true rfl, Nat.le_of_ble_eq_true rfl⟩ ⟨_, _, _, 0, (lw_mid hLI hC).1, rfl, rfl⟩ (fun rv_ S1 M_545 hq_545 => ?_)
  obtain ⟨eS_, hR⟩ := hq_545 _ _ _ rfl
  replace eS_ := eS_.symm
  subst eS_
  obtain ⟨v2, rfl⟩ : ∃ v, rv_ = some (.inl v) := ⟨_, hR.2.2.1⟩
  obtain ⟨hL2, v, e1, e2⟩ := lw_step (sp := fun V => spCan V _ _ _) (by omega) hLI (kCan _ _ _) hC hR
  have hve : v1 = v2 := by cases e1; cases e2; rfl
  try dsimp only [Option.toList, List.cons_append, List.nil_append]
  refine xt_ceq (t := 1042) rfl (fun hc_548 => ?_) (fun hc_548 => ?_)
  · skip
    refine xt_blk rfl rfl (by dsimp only [List.take]) ?_
    refine xt_inc rfl (by dsimp only [x_sto]) ?_
    refine xt_goto (t := 18) rfl ?_
    refine xt_cut rfl rfl (by dsimp only [List.take]) ?_
    exact ⟨600 - (i + 1), by omega, i + 1, by omega, hL2, rfl, rfl, rfl, rfl, rfl, by rw [nI_add, show 6 * i + 6 = 6 * (i + 1) by omega], rfl⟩
  · exact absurd hve hc_548
set_option maxHeartbeats 4000000 in
set_option maxRecDepth 100000 in
theorem law_c11 {L i : Nat} {xs : Nat → Int32} {M : x_M} (hL : L ≤ 3072) (h6 : 6 * i + 6 ≤ L) (hi : i ≤ 512) (hLI : LI i M) : x_go (X_law L xs) lwZ b_L_law [18] (fun pc ls st S M cs sl => ∃ μ, μ < 600 - i ∧ lwI μ pc ls st S M cs sl) 30 553 [.inr (.inr 5), .inr (.inl 0), .inr (.inl 53), .inl (nI (6 * i))] [] SH M 71 2480 := by
  refine xt_blk rfl rfl (by dsimp only [List.take]) ?_
  refine xt_aln1 rfl (by decide) ?_
  refine xt_acn0 rfl ?_
  refine xt_iln3 rfl ?_
  refine xt_ic ?_
  refine xt_add ?_
  refine xt_kal rfl (show vp_in _ L from g7 hL h6 (by decide)) ?_
  refine xt_acn0 rfl ?_
  refine xt_iln3 rfl ?_
  refine xt_ic ?_
  refine xt_add ?_
  refine xt_kal rfl (show vp_in _ L from g7 hL h6 (by decide)) ?_
  refine xt_acn0 rfl ?_
  refine xt_iln3 rfl ?_
  refine xt_ic ?_
  refine xt_add ?_
  refine xt_kal rfl (show vp_in _ L from g7 hL h6 (by decide)) ?_
  refine xt_v4 (key := 187) (q := q_X6_drawing) rfl rfl rfl rfl rfl ⟨Nat.le_of_ble_eq_true rfl, Nat.le_of_ble_eq_true rfl⟩ ⟨_, _, _, i, hLI.1, rfl, rfl⟩ (fun rv_ S1 M_569 hq_569 => ?_)
  obtain ⟨eS_, hC0⟩ := hq_569 _ _ _ rfl
  replace eS_ := eS_.symm
  subst eS_
  have hC := hC0
  obtain ⟨v1, rfl⟩ : ∃ v, rv_ = some (.inl v) := ⟨_, hC.2.2.1⟩
  try dsimp only [Option.toList, List.cons_append, List.nil_append]
  refine xt_aln2 rfl (by decide) ?_
  refine xt_acn0 rfl ?_
  refine xt_iln3 rfl ?_
  refine xt_ic ?_
  refine xt_add ?_
  refine xt_kal rfl (show vp_in _ L from g7 hL h6 (by decide)) ?_
  refine xt_acn0 rfl ?_
  refine xt_iln3 rfl ?_
  refine xt_ic ?_
  refine xt_add ?_
  refine xt_kal rfl (show vp_in _ L from g7 hL h6 (by decide)) ?_
  refine xt_acn0 rfl ?_
  refine xt_iln3 rfl ?_
  refine xt_ic ?_
  refine xt_add ?_
  refine xt_kal rfl (show vp_in _ L from g7 hL h6 (by decide)) ?_
  refine xt_v4 (key := 196) (q := q_X7_drawing) rfl rfl rfl rfl rfl ⟨Nat.le_of_ble_eq_true rfl, Nat.le_of_ble_eq_true rfl⟩ ⟨_, _, _, 0, (lw_mid hLI hC).1, rfl, rfl⟩ (fun rv_ S1 M_588 hq_588 => ?_)
  obtain ⟨eS_, hR⟩ := hq_588 _ _ _ rfl
  replace eS_ := eS_.symm
  subst eS_
  obtain ⟨v2, rfl⟩ : ∃ v, rv_ = some (.inl v) := ⟨_, hR.2.2.1⟩
  obtain ⟨hL2, v, e1, e2⟩ := lw_step (sp := fun V => spDrawing V _ _ _) (by omega) hLI (kDrawing _ _ _) hC hR
  have hve : v1 = v2 := by cases e1; cases e2; rfl
  try dsimp only [Option.toList, List.cons_append, List.nil_append]
  refine xt_ceq (t := 1042) rfl (fun hc_591 => ?_) (fun hc_591 => ?_)
  · skip
    refine xt_blk rfl rfl (by dsimp only [List.take]) ?_
    refine xt_inc rfl (by dsimp only [x_sto]) ?_
    refine xt_goto (t := 18) rfl ?_
    refine xt_cut rfl rfl (by dsimp only [List.take]) ?_
    exact ⟨600 - (i + 1), by omega, i + 1, by omega, hL2, rfl, rfl, rfl, rfl, rfl, by rw [nI_add, show 6 * i + 6 = 6 * (i + 1) by omega], rfl⟩
  · exact absurd hve hc_591
