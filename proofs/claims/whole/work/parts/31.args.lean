/-! LOOKING AT ARGUMENTS, in both classes -/
/-- a number below N -/
def Th (N : Nat) (x : Int32) : Prop := ∃ n, n < N ∧ x = nI n
theorem Th_lt {N : Nat} (hN : N < 2 ^ 31) {x : Int32} : Th N x ↔ 0 ≤ x ∧ x < nI N := by
  constructor
  · rintro ⟨n, hn, rfl⟩
    exact ⟨nI_pos' (by omega), nI_lt hn hN⟩
  · rintro ⟨h1, h2⟩
    obtain ⟨j, hj, rfl⟩ := nI_of (Int32.not_lt.mpr h1)
    exact ⟨j, (nI_ltI hj hN).mp h2, rfl⟩
theorem Th_le {N : Nat} (hN : N < 2 ^ 31 - 1) {x : Int32} : Th (N + 1) x ↔ 0 ≤ x ∧ x ≤ nI N := by
  constructor
  · rintro ⟨n, hn, rfl⟩
    exact ⟨nI_pos' (by omega), nI_le (by omega) (by omega)⟩
  · rintro ⟨h1, h2⟩
    obtain ⟨j, hj, rfl⟩ := nI_of (Int32.not_lt.mpr h1)
    exact ⟨j, by have := (nI_leI hj (by omega)).mp h2; omega, rfl⟩
def Two (a b : Int32) : Prop := Th 6 a ∧ Th 6 b ∧ a ≠ b
def q_X6_isThing : x_K := (1, fun as S M => ∃ (x : Int32), as = [.inl x], fun as S M rv_ S' M' => ∀ (x : Int32), as = [.inl x] → S' = S ∧ M' = M ∧ (((Th 6 x) ∧ rv_ = some (.inl (nI 1))) ∨ (¬ (Th 6 x) ∧ rv_ = some (.inl (nI 0)))), 0, 0)
def b_X6_isThing : x_B := [(0, 1, [(.iload_n 0, 1), (.ifCond .lt 13, 3), (.iload_n 0, 1), (.bipush 6, 2), (.if_icmp .ge 7, 3), (.iconst 1, 1), (.goto 4, 3)]),
  (14, 1, [(.iconst 0, 1)]),
  (15, 1, [(.ireturn, 1)])]
theorem b_X6_isThing_ok : x_okB cX6_isThing 1 b_X6_isThing = true := by decide +kernel
def X_X6_isThing : x_X := ([], [], [], [], [], (0, 0), x_kn, x_kf, 5, false)
theorem X_X6_isThing_ok : x_okT RX6 X_X6_isThing = true := by decide +kernel
theorem k_X6_isThing (l : Launch) : ∀ z ∈ X_X6_isThing.2.2.2.2.1, x_Cal l (x_rm 1 0 0) cX6_isThing RX6 1 z.1 z.2 := fun _ h => absurd h List.not_mem_nil
set_option maxHeartbeats 4000000 in
set_option maxRecDepth 100000 in
theorem c_X6_isThing (l : Launch) : x_CT l yX6_isThing cX6_isThing 1 (some .boolean) 1 q_X6_isThing := by
  refine x_meth (X := X_X6_isThing) (bl := b_X6_isThing) (cut := []) (own := RX6) 30 (by decide) rfl X_X6_isThing_ok b_X6_isThing_ok rfl (Nat.le_of_ble_eq_true rfl) (k_X6_isThing l) ?_
  rintro as S M - ⟨x, rfl⟩
  refine ⟨fun _ _ _ _ _ _ _ _ => False, ?_, ?_⟩
  · skip
    refine xt_blk rfl rfl (by dsimp only [List.take]) ?_
    refine xt_iln0 rfl ?_
    refine xt_lt (t := 14) rfl (fun hc_1 => ?_) (fun hc_1 => ?_)
    · skip
      refine xt_blk rfl rfl (by dsimp only [List.take]) ?_
      refine xt_ic ?_
      refine xt_nil (t := 15) rfl ?_
      refine xt_blk rfl rfl (by dsimp only [List.take]) ?_
      refine xt_rz (by decide) rfl (Nat.le_refl _) ?_
      intro x2 e2
      simp only [List.cons.injEq, Sum.inl.injEq, and_true] at e2
      subst e2
      exact ⟨rfl, rfl, Or.inr ⟨fun q => Int32.not_le.mpr hc_1 ((Th_lt (by decide)).mp q).1, rfl⟩⟩
    · skip
      refine xt_iln0 rfl ?_
      refine xt_bi ?_
      refine xt_cge (t := 14) rfl (fun hc_7 => ?_) (fun hc_7 => ?_)
      · skip
        refine xt_blk rfl rfl (by dsimp only [List.take]) ?_
        refine xt_ic ?_
        refine xt_nil (t := 15) rfl ?_
        refine xt_blk rfl rfl (by dsimp only [List.take]) ?_
        refine xt_rz (by decide) rfl (Nat.le_refl _) ?_
        intro x2 e2
        simp only [List.cons.injEq, Sum.inl.injEq, and_true] at e2
        subst e2
        exact ⟨rfl, rfl, Or.inr ⟨fun q => Int32.not_lt.mpr hc_7 ((Th_lt (by decide)).mp q).2, rfl⟩⟩
      · skip
        refine xt_ic ?_
        refine xt_goto (t := 15) rfl ?_
        refine xt_blk rfl rfl (by dsimp only [List.take]) ?_
        refine xt_rz (by decide) rfl (Nat.le_refl _) ?_
        intro x2 e2
        simp only [List.cons.injEq, Sum.inl.injEq, and_true] at e2
        subst e2
        exact ⟨rfl, rfl, Or.inl ⟨(Th_lt (by decide)).mpr ⟨Int32.not_lt.mp hc_1, Int32.not_le.mp hc_7⟩, rfl⟩⟩
  · intro μ pc ls st S2 M2 cs sl h; exact h.elim
def q_X6_isWay : x_K := (1, fun as S M => ∃ (x : Int32), as = [.inl x], fun as S M rv_ S' M' => ∀ (x : Int32), as = [.inl x] → S' = S ∧ M' = M ∧ (((Th 2 x) ∧ rv_ = some (.inl (nI 1))) ∨ (¬ (Th 2 x) ∧ rv_ = some (.inl (nI 0)))), 0, 0)
def b_X6_isWay : x_B := [(0, 1, [(.iload_n 0, 1), (.ifCond .lt 12, 3), (.iload_n 0, 1), (.iconst 2, 1), (.if_icmp .ge 7, 3), (.iconst 1, 1), (.goto 4, 3)]),
  (13, 1, [(.iconst 0, 1)]),
  (14, 1, [(.ireturn, 1)])]
theorem b_X6_isWay_ok : x_okB cX6_isWay 1 b_X6_isWay = true := by decide +kernel
def X_X6_isWay : x_X := ([], [], [], [], [], (0, 0), x_kn, x_kf, 5, false)
theorem X_X6_isWay_ok : x_okT RX6 X_X6_isWay = true := by decide +kernel
theorem k_X6_isWay (l : Launch) : ∀ z ∈ X_X6_isWay.2.2.2.2.1, x_Cal l (x_rm 1 0 0) cX6_isWay RX6 1 z.1 z.2 := fun _ h => absurd h List.not_mem_nil
set_option maxHeartbeats 4000000 in
set_option maxRecDepth 100000 in
theorem c_X6_isWay (l : Launch) : x_CT l yX6_isWay cX6_isWay 1 (some .boolean) 1 q_X6_isWay := by
  refine x_meth (X := X_X6_isWay) (bl := b_X6_isWay) (cut := []) (own := RX6) 30 (by decide) rfl X_X6_isWay_ok b_X6_isWay_ok rfl (Nat.le_of_ble_eq_true rfl) (k_X6_isWay l) ?_
  rintro as S M - ⟨x, rfl⟩
  refine ⟨fun _ _ _ _ _ _ _ _ => False, ?_, ?_⟩
  · skip
    refine xt_blk rfl rfl (by dsimp only [List.take]) ?_
    refine xt_iln0 rfl ?_
    refine xt_lt (t := 13) rfl (fun hc_1 => ?_) (fun hc_1 => ?_)
    · skip
      refine xt_blk rfl rfl (by dsimp only [List.take]) ?_
      refine xt_ic ?_
      refine xt_nil (t := 14) rfl ?_
      refine xt_blk rfl rfl (by dsimp only [List.take]) ?_
      refine xt_rz (by decide) rfl (Nat.le_refl _) ?_
      intro x2 e2
      simp only [List.cons.injEq, Sum.inl.injEq, and_true] at e2
      subst e2
      exact ⟨rfl, rfl, Or.inr ⟨fun q => Int32.not_le.mpr hc_1 ((Th_lt (by decide)).mp q).1, rfl⟩⟩
    · skip
      refine xt_iln0 rfl ?_
      refine xt_ic ?_
      refine xt_cge (t := 13) rfl (fun hc_6 => ?_) (fun hc_6 => ?_)
      · skip
        refine xt_blk rfl rfl (by dsimp only [List.take]) ?_
        refine xt_ic ?_
        refine xt_nil (t := 14) rfl ?_
        refine xt_blk rfl rfl (by dsimp only [List.take]) ?_
        refine xt_rz (by decide) rfl (Nat.le_refl _) ?_
        intro x2 e2
        simp only [List.cons.injEq, Sum.inl.injEq, and_true] at e2
        subst e2
        exact ⟨rfl, rfl, Or.inr ⟨fun q => Int32.not_lt.mpr hc_6 ((Th_lt (by decide)).mp q).2, rfl⟩⟩
      · skip
        refine xt_ic ?_
        refine xt_goto (t := 14) rfl ?_
        refine xt_blk rfl rfl (by dsimp only [List.take]) ?_
        refine xt_rz (by decide) rfl (Nat.le_refl _) ?_
        intro x2 e2
        simp only [List.cons.injEq, Sum.inl.injEq, and_true] at e2
        subst e2
        exact ⟨rfl, rfl, Or.inl ⟨(Th_lt (by decide)).mpr ⟨Int32.not_lt.mp hc_1, Int32.not_le.mp hc_6⟩, rfl⟩⟩
  · intro μ pc ls st S2 M2 cs sl h; exact h.elim
def q_X6_isWord : x_K := (1, fun as S M => ∃ (x : Int32), as = [.inl x], fun as S M rv_ S' M' => ∀ (x : Int32), as = [.inl x] → S' = S ∧ M' = M ∧ (((Th 8 x) ∧ rv_ = some (.inl (nI 1))) ∨ (¬ (Th 8 x) ∧ rv_ = some (.inl (nI 0)))), 0, 0)
def b_X6_isWord : x_B := [(0, 1, [(.iload_n 0, 1), (.ifCond .lt 13, 3), (.iload_n 0, 1), (.bipush 8, 2), (.if_icmp .ge 7, 3), (.iconst 1, 1), (.goto 4, 3)]),
  (14, 1, [(.iconst 0, 1)]),
  (15, 1, [(.ireturn, 1)])]
theorem b_X6_isWord_ok : x_okB cX6_isWord 1 b_X6_isWord = true := by decide +kernel
def X_X6_isWord : x_X := ([], [], [], [], [], (0, 0), x_kn, x_kf, 5, false)
theorem X_X6_isWord_ok : x_okT RX6 X_X6_isWord = true := by decide +kernel
theorem k_X6_isWord (l : Launch) : ∀ z ∈ X_X6_isWord.2.2.2.2.1, x_Cal l (x_rm 1 0 0) cX6_isWord RX6 1 z.1 z.2 := fun _ h => absurd h List.not_mem_nil
set_option maxHeartbeats 4000000 in
set_option maxRecDepth 100000 in
theorem c_X6_isWord (l : Launch) : x_CT l yX6_isWord cX6_isWord 1 (some .boolean) 1 q_X6_isWord := by
  refine x_meth (X := X_X6_isWord) (bl := b_X6_isWord) (cut := []) (own := RX6) 30 (by decide) rfl X_X6_isWord_ok b_X6_isWord_ok rfl (Nat.le_of_ble_eq_true rfl) (k_X6_isWord l) ?_
  rintro as S M - ⟨x, rfl⟩
  refine ⟨fun _ _ _ _ _ _ _ _ => False, ?_, ?_⟩
  · skip
    refine xt_blk rfl rfl (by dsimp only [List.take]) ?_
    refine xt_iln0 rfl ?_
    refine xt_lt (t := 14) rfl (fun hc_1 => ?_) (fun hc_1 => ?_)
    · skip
      refine xt_blk rfl rfl (by dsimp only [List.take]) ?_
      refine xt_ic ?_
      refine xt_nil (t := 15) rfl ?_
      refine xt_blk rfl rfl (by dsimp only [List.take]) ?_
      refine xt_rz (by decide) rfl (Nat.le_refl _) ?_
      intro x2 e2
      simp only [List.cons.injEq, Sum.inl.injEq, and_true] at e2
      subst e2
      exact ⟨rfl, rfl, Or.inr ⟨fun q => Int32.not_le.mpr hc_1 ((Th_lt (by decide)).mp q).1, rfl⟩⟩
    · skip
      refine xt_iln0 rfl ?_
      refine xt_bi ?_
      refine xt_cge (t := 14) rfl (fun hc_7 => ?_) (fun hc_7 => ?_)
      · skip
        refine xt_blk rfl rfl (by dsimp only [List.take]) ?_
        refine xt_ic ?_
        refine xt_nil (t := 15) rfl ?_
        refine xt_blk rfl rfl (by dsimp only [List.take]) ?_
        refine xt_rz (by decide) rfl (Nat.le_refl _) ?_
        intro x2 e2
        simp only [List.cons.injEq, Sum.inl.injEq, and_true] at e2
        subst e2
        exact ⟨rfl, rfl, Or.inr ⟨fun q => Int32.not_lt.mpr hc_7 ((Th_lt (by decide)).mp q).2, rfl⟩⟩
      · skip
        refine xt_ic ?_
        refine xt_goto (t := 15) rfl ?_
        refine xt_blk rfl rfl (by dsimp only [List.take]) ?_
        refine xt_rz (by decide) rfl (Nat.le_refl _) ?_
        intro x2 e2
        simp only [List.cons.injEq, Sum.inl.injEq, and_true] at e2
        subst e2
        exact ⟨rfl, rfl, Or.inl ⟨(Th_lt (by decide)).mpr ⟨Int32.not_lt.mp hc_1, Int32.not_le.mp hc_7⟩, rfl⟩⟩
  · intro μ pc ls st S2 M2 cs sl h; exact h.elim
def q_X6_isRelation : x_K := (1, fun as S M => ∃ (x : Int32), as = [.inl x], fun as S M rv_ S' M' => ∀ (x : Int32), as = [.inl x] → S' = S ∧ M' = M ∧ (((Th 13 x) ∧ rv_ = some (.inl (nI 1))) ∨ (¬ (Th 13 x) ∧ rv_ = some (.inl (nI 0)))), 0, 0)
def b_X6_isRelation : x_B := [(0, 1, [(.iload_n 0, 1), (.ifCond .lt 13, 3), (.iload_n 0, 1), (.bipush 13, 2), (.if_icmp .ge 7, 3), (.iconst 1, 1), (.goto 4, 3)]),
  (14, 1, [(.iconst 0, 1)]),
  (15, 1, [(.ireturn, 1)])]
theorem b_X6_isRelation_ok : x_okB cX6_isRelation 1 b_X6_isRelation = true := by decide +kernel
def X_X6_isRelation : x_X := ([], [], [], [], [], (0, 0), x_kn, x_kf, 5, false)
theorem X_X6_isRelation_ok : x_okT RX6 X_X6_isRelation = true := by decide +kernel
theorem k_X6_isRelation (l : Launch) : ∀ z ∈ X_X6_isRelation.2.2.2.2.1, x_Cal l (x_rm 1 0 0) cX6_isRelation RX6 1 z.1 z.2 := fun _ h => absurd h List.not_mem_nil
set_option maxHeartbeats 4000000 in
set_option maxRecDepth 100000 in
theorem c_X6_isRelation (l : Launch) : x_CT l yX6_isRelation cX6_isRelation 1 (some .boolean) 1 q_X6_isRelation := by
  refine x_meth (X := X_X6_isRelation) (bl := b_X6_isRelation) (cut := []) (own := RX6) 30 (by decide) rfl X_X6_isRelation_ok b_X6_isRelation_ok rfl (Nat.le_of_ble_eq_true rfl) (k_X6_isRelation l) ?_
  rintro as S M - ⟨x, rfl⟩
  refine ⟨fun _ _ _ _ _ _ _ _ => False, ?_, ?_⟩
  · skip
    refine xt_blk rfl rfl (by dsimp only [List.take]) ?_
    refine xt_iln0 rfl ?_
    refine xt_lt (t := 14) rfl (fun hc_1 => ?_) (fun hc_1 => ?_)
    · skip
      refine xt_blk rfl rfl (by dsimp only [List.take]) ?_
      refine xt_ic ?_
      refine xt_nil (t := 15) rfl ?_
      refine xt_blk rfl rfl (by dsimp only [List.take]) ?_
      refine xt_rz (by decide) rfl (Nat.le_refl _) ?_
      intro x2 e2
      simp only [List.cons.injEq, Sum.inl.injEq, and_true] at e2
      subst e2
      exact ⟨rfl, rfl, Or.inr ⟨fun q => Int32.not_le.mpr hc_1 ((Th_lt (by decide)).mp q).1, rfl⟩⟩
    · skip
      refine xt_iln0 rfl ?_
      refine xt_bi ?_
      refine xt_cge (t := 14) rfl (fun hc_7 => ?_) (fun hc_7 => ?_)
      · skip
        refine xt_blk rfl rfl (by dsimp only [List.take]) ?_
        refine xt_ic ?_
        refine xt_nil (t := 15) rfl ?_
        refine xt_blk rfl rfl (by dsimp only [List.take]) ?_
        refine xt_rz (by decide) rfl (Nat.le_refl _) ?_
        intro x2 e2
        simp only [List.cons.injEq, Sum.inl.injEq, and_true] at e2
        subst e2
        exact ⟨rfl, rfl, Or.inr ⟨fun q => Int32.not_lt.mpr hc_7 ((Th_lt (by decide)).mp q).2, rfl⟩⟩
      · skip
        refine xt_ic ?_
        refine xt_goto (t := 15) rfl ?_
        refine xt_blk rfl rfl (by dsimp only [List.take]) ?_
        refine xt_rz (by decide) rfl (Nat.le_refl _) ?_
        intro x2 e2
        simp only [List.cons.injEq, Sum.inl.injEq, and_true] at e2
        subst e2
        exact ⟨rfl, rfl, Or.inl ⟨(Th_lt (by decide)).mpr ⟨Int32.not_lt.mp hc_1, Int32.not_le.mp hc_7⟩, rfl⟩⟩
  · intro μ pc ls st S2 M2 cs sl h; exact h.elim
def q_X6_isSet : x_K := (1, fun as S M => ∃ (x : Int32), as = [.inl x], fun as S M rv_ S' M' => ∀ (x : Int32), as = [.inl x] → S' = S ∧ M' = M ∧ (((Th 8192 x) ∧ rv_ = some (.inl (nI 1))) ∨ (¬ (Th 8192 x) ∧ rv_ = some (.inl (nI 0)))), 0, 0)
def b_X6_isSet : x_B := [(0, 1, [(.iload_n 0, 1), (.ifCond .lt 14, 3), (.iload_n 0, 1), (.sipush 8191, 3), (.if_icmp .gt 7, 3), (.iconst 1, 1), (.goto 4, 3)]),
  (15, 1, [(.iconst 0, 1)]),
  (16, 1, [(.ireturn, 1)])]
theorem b_X6_isSet_ok : x_okB cX6_isSet 1 b_X6_isSet = true := by decide +kernel
def X_X6_isSet : x_X := ([], [], [], [], [], (0, 0), x_kn, x_kf, 5, false)
theorem X_X6_isSet_ok : x_okT RX6 X_X6_isSet = true := by decide +kernel
theorem k_X6_isSet (l : Launch) : ∀ z ∈ X_X6_isSet.2.2.2.2.1, x_Cal l (x_rm 1 0 0) cX6_isSet RX6 1 z.1 z.2 := fun _ h => absurd h List.not_mem_nil
set_option maxHeartbeats 4000000 in
set_option maxRecDepth 100000 in
theorem c_X6_isSet (l : Launch) : x_CT l yX6_isSet cX6_isSet 1 (some .boolean) 1 q_X6_isSet := by
  refine x_meth (X := X_X6_isSet) (bl := b_X6_isSet) (cut := []) (own := RX6) 30 (by decide) rfl X_X6_isSet_ok b_X6_isSet_ok rfl (Nat.le_of_ble_eq_true rfl) (k_X6_isSet l) ?_
  rintro as S M - ⟨x, rfl⟩
  refine ⟨fun _ _ _ _ _ _ _ _ => False, ?_, ?_⟩
  · skip
    refine xt_blk rfl rfl (by dsimp only [List.take]) ?_
    refine xt_iln0 rfl ?_
    refine xt_lt (t := 15) rfl (fun hc_1 => ?_) (fun hc_1 => ?_)
    · skip
      refine xt_blk rfl rfl (by dsimp only [List.take]) ?_
      refine xt_ic ?_
      refine xt_nil (t := 16) rfl ?_
      refine xt_blk rfl rfl (by dsimp only [List.take]) ?_
      refine xt_rz (by decide) rfl (Nat.le_refl _) ?_
      intro x2 e2
      simp only [List.cons.injEq, Sum.inl.injEq, and_true] at e2
      subst e2
      exact ⟨rfl, rfl, Or.inr ⟨fun q => Int32.not_le.mpr hc_1 ((Th_le (N := 8191) (by decide)).mp q).1, rfl⟩⟩
    · skip
      refine xt_iln0 rfl ?_
      refine xt_si ?_
      refine xt_cgt (t := 15) rfl (fun hc_8 => ?_) (fun hc_8 => ?_)
      · skip
        refine xt_blk rfl rfl (by dsimp only [List.take]) ?_
        refine xt_ic ?_
        refine xt_nil (t := 16) rfl ?_
        refine xt_blk rfl rfl (by dsimp only [List.take]) ?_
        refine xt_rz (by decide) rfl (Nat.le_refl _) ?_
        intro x2 e2
        simp only [List.cons.injEq, Sum.inl.injEq, and_true] at e2
        subst e2
        exact ⟨rfl, rfl, Or.inr ⟨fun q => Int32.not_le.mpr hc_8 ((Th_le (N := 8191) (by decide)).mp q).2, rfl⟩⟩
      · skip
        refine xt_ic ?_
        refine xt_goto (t := 16) rfl ?_
        refine xt_blk rfl rfl (by dsimp only [List.take]) ?_
        refine xt_rz (by decide) rfl (Nat.le_refl _) ?_
        intro x2 e2
        simp only [List.cons.injEq, Sum.inl.injEq, and_true] at e2
        subst e2
        exact ⟨rfl, rfl, Or.inl ⟨(Th_le (N := 8191) (by decide)).mpr ⟨Int32.not_lt.mp hc_1, Int32.not_lt.mp hc_8⟩, rfl⟩⟩
  · intro μ pc ls st S2 M2 cs sl h; exact h.elim
def q_X7_in : x_K := (3, fun as S M => ∃ (v : Int32) (lo : Int32) (hi : Int32), as = [.inl v, .inl lo, .inl hi], fun as S M rv_ S' M' => ∀ (v : Int32) (lo : Int32) (hi : Int32), as = [.inl v, .inl lo, .inl hi] → S' = S ∧ M' = M ∧ (((lo ≤ v ∧ v ≤ hi) ∧ rv_ = some (.inl (nI 1))) ∨ (¬ (lo ≤ v ∧ v ≤ hi) ∧ rv_ = some (.inl (nI 0)))), 0, 0)
def b_X7_in : x_B := [(0, 3, [(.iload_n 0, 1), (.iload_n 1, 1), (.if_icmp .lt 12, 3), (.iload_n 0, 1), (.iload_n 2, 1), (.if_icmp .gt 7, 3), (.iconst 1, 1), (.goto 4, 3)]),
  (14, 3, [(.iconst 0, 1)]),
  (15, 3, [(.ireturn, 1)])]
theorem b_X7_in_ok : x_okB cX7_in 3 b_X7_in = true := by decide +kernel
def X_X7_in : x_X := ([], [], [], [], [], (0, 0), x_kn, x_kf, 5, false)
theorem X_X7_in_ok : x_okT RX7 X_X7_in = true := by decide +kernel
theorem k_X7_in (l : Launch) : ∀ z ∈ X_X7_in.2.2.2.2.1, x_Cal l (x_rm 1 0 0) cX7_in RX7 3 z.1 z.2 := fun _ h => absurd h List.not_mem_nil
set_option maxHeartbeats 4000000 in
set_option maxRecDepth 100000 in
theorem c_X7_in (l : Launch) : x_CT l yX7_in cX7_in 3 (some .boolean) 1 q_X7_in := by
  refine x_meth (X := X_X7_in) (bl := b_X7_in) (cut := []) (own := RX7) 30 (by decide) rfl X_X7_in_ok b_X7_in_ok rfl (Nat.le_of_ble_eq_true rfl) (k_X7_in l) ?_
  rintro as S M - ⟨v, lo, hi, rfl⟩
  refine ⟨fun _ _ _ _ _ _ _ _ => False, ?_, ?_⟩
  · skip
    refine xt_blk rfl rfl (by dsimp only [List.take]) ?_
    refine xt_iln0 rfl ?_
    refine xt_iln1 rfl ?_
    refine xt_clt (t := 14) rfl (fun hc_2 => ?_) (fun hc_2 => ?_)
    · skip
      refine xt_blk rfl rfl (by dsimp only [List.take]) ?_
      refine xt_ic ?_
      refine xt_nil (t := 15) rfl ?_
      refine xt_blk rfl rfl (by dsimp only [List.take]) ?_
      refine xt_rz (by decide) rfl (Nat.le_refl _) ?_
      intro v2 lo2 hi2 e2
      simp only [List.cons.injEq, Sum.inl.injEq, and_true] at e2
      obtain ⟨rfl, rfl, rfl⟩ := e2
      exact ⟨rfl, rfl, Or.inr ⟨fun q => Int32.not_le.mpr hc_2 q.1, rfl⟩⟩
    · skip
      refine xt_iln0 rfl ?_
      refine xt_iln2 rfl ?_
      refine xt_cgt (t := 14) rfl (fun hc_7 => ?_) (fun hc_7 => ?_)
      · skip
        refine xt_blk rfl rfl (by dsimp only [List.take]) ?_
        refine xt_ic ?_
        refine xt_nil (t := 15) rfl ?_
        refine xt_blk rfl rfl (by dsimp only [List.take]) ?_
        refine xt_rz (by decide) rfl (Nat.le_refl _) ?_
        intro v2 lo2 hi2 e2
        simp only [List.cons.injEq, Sum.inl.injEq, and_true] at e2
        obtain ⟨rfl, rfl, rfl⟩ := e2
        exact ⟨rfl, rfl, Or.inr ⟨fun q => Int32.not_le.mpr hc_7 q.2, rfl⟩⟩
      · skip
        refine xt_ic ?_
        refine xt_goto (t := 15) rfl ?_
        refine xt_blk rfl rfl (by dsimp only [List.take]) ?_
        refine xt_rz (by decide) rfl (Nat.le_refl _) ?_
        intro v2 lo2 hi2 e2
        simp only [List.cons.injEq, Sum.inl.injEq, and_true] at e2
        obtain ⟨rfl, rfl, rfl⟩ := e2
        exact ⟨rfl, rfl, Or.inl ⟨⟨Int32.not_lt.mp hc_2, Int32.not_lt.mp hc_7⟩, rfl⟩⟩
  · intro μ pc ls st S2 M2 cs sl h; exact h.elim
theorem in_Th {N : Nat} (hN : N < 2 ^ 31 - 1) {x v : Int32} (h : ((nI 0 ≤ x ∧ x ≤ nI N) ∧ v = nI 1) ∨ (¬ (nI 0 ≤ x ∧ x ≤ nI N) ∧ v = nI 0)) : (Th (N + 1) x ∧ v = nI 1) ∨ (¬ Th (N + 1) x ∧ v = nI 0) := by
  rcases h with ⟨h1, h2⟩ | ⟨h1, h2⟩
  · exact Or.inl ⟨(Th_le hN).mpr h1, h2⟩
  · exact Or.inr ⟨fun q => h1 ((Th_le hN).mp q), h2⟩
def q_X7_isThing : x_K := (1, fun as S M => ∃ (x : Int32), as = [.inl x], fun as S M rv_ S' M' => ∀ (x : Int32), as = [.inl x] → S' = S ∧ M' = M ∧ (((Th 6 x) ∧ rv_ = some (.inl (nI 1))) ∨ (¬ (Th 6 x) ∧ rv_ = some (.inl (nI 0)))), 0, 0)
def b_X7_isThing : x_B := [(0, 1, [(.iload_n 0, 1), (.iconst 0, 1), (.iconst 5, 1), (.invokestatic 85, 3), (.ireturn, 1)])]
theorem b_X7_isThing_ok : x_okB cX7_isThing 1 b_X7_isThing = true := by decide +kernel
def X_X7_isThing : x_X := ([], [], [], [], [(255, q_X7_in)], (0, 0), x_kn, x_kf, 5, false)
theorem X_X7_isThing_ok : x_okT RX7 X_X7_isThing = true := by decide +kernel
theorem k_X7_isThing (l : Launch) : ∀ z ∈ X_X7_isThing.2.2.2.2.1, x_Cal l (x_rm 2 0 0) cX7_isThing RX7 1 z.1 z.2 := List.forall_mem_cons.mpr ⟨x_cal_S (idx := 85) (c_X7_in l) ⟨by decide, by decide⟩ (by decide +kernel) (by decide +kernel) (by decide +kernel) (by decide +kernel) (by decide +kernel), fun _ h => absurd h List.not_mem_nil⟩
set_option maxHeartbeats 4000000 in
set_option maxRecDepth 100000 in
theorem c_X7_isThing (l : Launch) : x_CT l yX7_isThing cX7_isThing 1 (some .boolean) 2 q_X7_isThing := by
  refine x_meth (X := X_X7_isThing) (bl := b_X7_isThing) (cut := []) (own := RX7) 30 (by decide) rfl X_X7_isThing_ok b_X7_isThing_ok rfl (Nat.le_of_ble_eq_true rfl) (k_X7_isThing l) ?_
  rintro as S M - ⟨x, rfl⟩
  refine ⟨fun _ _ _ _ _ _ _ _ => False, ?_, ?_⟩
  · skip
    refine xt_blk rfl rfl (by dsimp only [List.take]) ?_
    refine xt_iln0 rfl ?_
    refine xt_ic ?_
    refine xt_ic ?_
    refine xt_v3 (key := 255) (q := q_X7_in) rfl rfl rfl rfl rfl ⟨Nat.le_of_ble_eq_true rfl, Nat.le_of_ble_eq_true rfl⟩ ⟨_, _, _, rfl⟩ (fun rv_ S1 M1 hq_3 => ?_)
    obtain ⟨eS_, eM_, h_in⟩ := hq_3 _ _ _ rfl
    replace eS_ := eS_.symm
    replace eM_ := eM_.symm
    subst eS_ eM_
    have hex_in : ∃ v, rv_ = some (.inl v) := by rcases h_in with ⟨-, e⟩ | ⟨-, e⟩ <;> exact ⟨_, e⟩
    obtain ⟨v_in, rfl⟩ := hex_in
    simp only [Option.some.injEq, Sum.inl.injEq] at h_in
    try dsimp only [Option.toList, List.cons_append, List.nil_append]
    refine xt_rz (by rcases h_in with ⟨-, rfl⟩ | ⟨-, rfl⟩ <;> decide) rfl (Nat.le_refl _) ?_
    intro x2 e2
    simp only [List.cons.injEq, Sum.inl.injEq, and_true] at e2
    subst e2
    refine ⟨rfl, rfl, ?_⟩
    simp only [Option.some.injEq, Sum.inl.injEq]
    exact in_Th (N := 5) (by decide) h_in
  · intro μ pc ls st S2 M2 cs sl h; exact h.elim
def q_X7_isWay : x_K := (1, fun as S M => ∃ (x : Int32), as = [.inl x], fun as S M rv_ S' M' => ∀ (x : Int32), as = [.inl x] → S' = S ∧ M' = M ∧ (((Th 2 x) ∧ rv_ = some (.inl (nI 1))) ∨ (¬ (Th 2 x) ∧ rv_ = some (.inl (nI 0)))), 0, 0)
def b_X7_isWay : x_B := [(0, 1, [(.iload_n 0, 1), (.iconst 0, 1), (.iconst 1, 1), (.invokestatic 85, 3), (.ireturn, 1)])]
theorem b_X7_isWay_ok : x_okB cX7_isWay 1 b_X7_isWay = true := by decide +kernel
def X_X7_isWay : x_X := ([], [], [], [], [(255, q_X7_in)], (0, 0), x_kn, x_kf, 5, false)
theorem X_X7_isWay_ok : x_okT RX7 X_X7_isWay = true := by decide +kernel
theorem k_X7_isWay (l : Launch) : ∀ z ∈ X_X7_isWay.2.2.2.2.1, x_Cal l (x_rm 2 0 0) cX7_isWay RX7 1 z.1 z.2 := List.forall_mem_cons.mpr ⟨x_cal_S (idx := 85) (c_X7_in l) ⟨by decide, by decide⟩ (by decide +kernel) (by decide +kernel) (by decide +kernel) (by decide +kernel) (by decide +kernel), fun _ h => absurd h List.not_mem_nil⟩
set_option maxHeartbeats 4000000 in
set_option maxRecDepth 100000 in
theorem c_X7_isWay (l : Launch) : x_CT l yX7_isWay cX7_isWay 1 (some .boolean) 2 q_X7_isWay := by
  refine x_meth (X := X_X7_isWay) (bl := b_X7_isWay) (cut := []) (own := RX7) 30 (by decide) rfl X_X7_isWay_ok b_X7_isWay_ok rfl (Nat.le_of_ble_eq_true rfl) (k_X7_isWay l) ?_
  rintro as S M - ⟨x, rfl⟩
  refine ⟨fun _ _ _ _ _ _ _ _ => False, ?_, ?_⟩
  · skip
    refine xt_blk rfl rfl (by dsimp only [List.take]) ?_
    refine xt_iln0 rfl ?_
    refine xt_ic ?_
    refine xt_ic ?_
    refine xt_v3 (key := 255) (q := q_X7_in) rfl rfl rfl rfl rfl ⟨Nat.le_of_ble_eq_true rfl, Nat.le_of_ble_eq_true rfl⟩ ⟨_, _, _, rfl⟩ (fun rv_ S1 M1 hq_3 => ?_)
    obtain ⟨eS_, eM_, h_in⟩ := hq_3 _ _ _ rfl
    replace eS_ := eS_.symm
    replace eM_ := eM_.symm
    subst eS_ eM_
    have hex_in : ∃ v, rv_ = some (.inl v) := by rcases h_in with ⟨-, e⟩ | ⟨-, e⟩ <;> exact ⟨_, e⟩
    obtain ⟨v_in, rfl⟩ := hex_in
    simp only [Option.some.injEq, Sum.inl.injEq] at h_in
    try dsimp only [Option.toList, List.cons_append, List.nil_append]
    refine xt_rz (by rcases h_in with ⟨-, rfl⟩ | ⟨-, rfl⟩ <;> decide) rfl (Nat.le_refl _) ?_
    intro x2 e2
    simp only [List.cons.injEq, Sum.inl.injEq, and_true] at e2
    subst e2
    refine ⟨rfl, rfl, ?_⟩
    simp only [Option.some.injEq, Sum.inl.injEq]
    exact in_Th (N := 1) (by decide) h_in
  · intro μ pc ls st S2 M2 cs sl h; exact h.elim
def q_X7_isWord : x_K := (1, fun as S M => ∃ (x : Int32), as = [.inl x], fun as S M rv_ S' M' => ∀ (x : Int32), as = [.inl x] → S' = S ∧ M' = M ∧ (((Th 8 x) ∧ rv_ = some (.inl (nI 1))) ∨ (¬ (Th 8 x) ∧ rv_ = some (.inl (nI 0)))), 0, 0)
def b_X7_isWord : x_B := [(0, 1, [(.iload_n 0, 1), (.iconst 0, 1), (.bipush 7, 2), (.invokestatic 85, 3), (.ireturn, 1)])]
theorem b_X7_isWord_ok : x_okB cX7_isWord 1 b_X7_isWord = true := by decide +kernel
def X_X7_isWord : x_X := ([], [], [], [], [(255, q_X7_in)], (0, 0), x_kn, x_kf, 5, false)
theorem X_X7_isWord_ok : x_okT RX7 X_X7_isWord = true := by decide +kernel
theorem k_X7_isWord (l : Launch) : ∀ z ∈ X_X7_isWord.2.2.2.2.1, x_Cal l (x_rm 2 0 0) cX7_isWord RX7 1 z.1 z.2 := List.forall_mem_cons.mpr ⟨x_cal_S (idx := 85) (c_X7_in l) ⟨by decide, by decide⟩ (by decide +kernel) (by decide +kernel) (by decide +kernel) (by decide +kernel) (by decide +kernel), fun _ h => absurd h List.not_mem_nil⟩
set_option maxHeartbeats 4000000 in
set_option maxRecDepth 100000 in
theorem c_X7_isWord (l : Launch) : x_CT l yX7_isWord cX7_isWord 1 (some .boolean) 2 q_X7_isWord := by
  refine x_meth (X := X_X7_isWord) (bl := b_X7_isWord) (cut := []) (own := RX7) 30 (by decide) rfl X_X7_isWord_ok b_X7_isWord_ok rfl (Nat.le_of_ble_eq_true rfl) (k_X7_isWord l) ?_
  rintro as S M - ⟨x, rfl⟩
  refine ⟨fun _ _ _ _ _ _ _ _ => False, ?_, ?_⟩
  · skip
    refine xt_blk rfl rfl (by dsimp only [List.take]) ?_
    refine xt_iln0 rfl ?_
    refine xt_ic ?_
    refine xt_bi ?_
    refine xt_v3 (key := 255) (q := q_X7_in) rfl rfl rfl rfl rfl ⟨Nat.le_of_ble_eq_true rfl, Nat.le_of_ble_eq_true rfl⟩ ⟨_, _, _, rfl⟩ (fun rv_ S1 M1 hq_4 => ?_)
    obtain ⟨eS_, eM_, h_in⟩ := hq_4 _ _ _ rfl
    replace eS_ := eS_.symm
    replace eM_ := eM_.symm
    subst eS_ eM_
    have hex_in : ∃ v, rv_ = some (.inl v) := by rcases h_in with ⟨-, e⟩ | ⟨-, e⟩ <;> exact ⟨_, e⟩
    obtain ⟨v_in, rfl⟩ := hex_in
    simp only [Option.some.injEq, Sum.inl.injEq] at h_in
    try dsimp only [Option.toList, List.cons_append, List.nil_append]
    refine xt_rz (by rcases h_in with ⟨-, rfl⟩ | ⟨-, rfl⟩ <;> decide) rfl (Nat.le_refl _) ?_
    intro x2 e2
    simp only [List.cons.injEq, Sum.inl.injEq, and_true] at e2
    subst e2
    refine ⟨rfl, rfl, ?_⟩
    simp only [Option.some.injEq, Sum.inl.injEq]
    exact in_Th (N := 7) (by decide) h_in
  · intro μ pc ls st S2 M2 cs sl h; exact h.elim
def q_X6_areTwoThings : x_K := (2, fun as S M => ∃ (a : Int32) (b : Int32), as = [.inl a, .inl b], fun as S M rv_ S' M' => ∀ (a : Int32) (b : Int32), as = [.inl a, .inl b] → S' = S ∧ M' = M ∧ (((Two a b) ∧ rv_ = some (.inl (nI 1))) ∨ (¬ (Two a b) ∧ rv_ = some (.inl (nI 0)))), 0, 0)
def b_X6_areTwoThings : x_B := [(0, 2, [(.iload_n 0, 1), (.invokestatic 133, 3), (.ifCond .eq 19, 3), (.iload_n 1, 1), (.invokestatic 133, 3), (.ifCond .eq 12, 3), (.iload_n 0, 1), (.iload_n 1, 1), (.if_icmp .eq 7, 3), (.iconst 1, 1), (.goto 4, 3)]),
  (23, 2, [(.iconst 0, 1)]),
  (24, 2, [(.ireturn, 1)])]
theorem b_X6_areTwoThings_ok : x_okB cX6_areTwoThings 2 b_X6_areTwoThings = true := by decide +kernel
def X_X6_areTwoThings : x_X := ([], [], [], [], [(399, q_X6_isThing)], (0, 0), x_kn, x_kf, 5, false)
theorem X_X6_areTwoThings_ok : x_okT RX6 X_X6_areTwoThings = true := by decide +kernel
theorem k_X6_areTwoThings (l : Launch) : ∀ z ∈ X_X6_areTwoThings.2.2.2.2.1, x_Cal l (x_rm 2 0 0) cX6_areTwoThings RX6 2 z.1 z.2 := List.forall_mem_cons.mpr ⟨x_cal_S (idx := 133) (c_X6_isThing l) ⟨by decide, by decide⟩ (by decide +kernel) (by decide +kernel) (by decide +kernel) (by decide +kernel) (by decide +kernel), fun _ h => absurd h List.not_mem_nil⟩
set_option maxHeartbeats 4000000 in
set_option maxRecDepth 100000 in
theorem c_X6_areTwoThings (l : Launch) : x_CT l yX6_areTwoThings cX6_areTwoThings 2 (some .boolean) 2 q_X6_areTwoThings := by
  refine x_meth (X := X_X6_areTwoThings) (bl := b_X6_areTwoThings) (cut := []) (own := RX6) 30 (by decide) rfl X_X6_areTwoThings_ok b_X6_areTwoThings_ok rfl (Nat.le_of_ble_eq_true rfl) (k_X6_areTwoThings l) ?_
  rintro as S M - ⟨a, b, rfl⟩
  refine ⟨fun _ _ _ _ _ _ _ _ => False, ?_, ?_⟩
  · skip
    refine xt_blk rfl rfl (by dsimp only [List.take]) ?_
    refine xt_iln0 rfl ?_
    refine xt_v1 (key := 399) (q := q_X6_isThing) rfl rfl rfl rfl rfl ⟨Nat.le_of_ble_eq_true rfl, Nat.le_of_ble_eq_true rfl⟩ ⟨_, rfl⟩ (fun rv_ S1 M1 hq_1 => ?_)
    obtain ⟨eS_, eM_, h_a⟩ := hq_1 _ rfl
    replace eS_ := eS_.symm
    replace eM_ := eM_.symm
    subst eS_ eM_
    have hex_a : ∃ v, rv_ = some (.inl v) := by rcases h_a with ⟨-, e⟩ | ⟨-, e⟩ <;> exact ⟨_, e⟩
    obtain ⟨v_a, rfl⟩ := hex_a
    simp only [Option.some.injEq, Sum.inl.injEq] at h_a
    try dsimp only [Option.toList, List.cons_append, List.nil_append]
    refine xt_eq (t := 23) rfl (fun hc_4 => ?_) (fun hc_4 => ?_)
    · skip
      refine xt_blk rfl rfl (by dsimp only [List.take]) ?_
      refine xt_ic ?_
      refine xt_nil (t := 24) rfl ?_
      refine xt_blk rfl rfl (by dsimp only [List.take]) ?_
      refine xt_rz (by decide) rfl (Nat.le_refl _) ?_
      intro a2 b2 e2
      simp only [List.cons.injEq, Sum.inl.injEq, and_true] at e2
      obtain ⟨rfl, rfl⟩ := e2
      exact ⟨rfl, rfl, Or.inr ⟨fun q => by rcases h_a with ⟨-, e⟩ | ⟨n, -⟩; rw [e] at hc_4; exact absurd hc_4 (by decide); exact n q.1, rfl⟩⟩
    · skip
      refine xt_iln1 rfl ?_
      refine xt_v1 (key := 399) (q := q_X6_isThing) rfl rfl rfl rfl rfl ⟨Nat.le_of_ble_eq_true rfl, Nat.le_of_ble_eq_true rfl⟩ ⟨_, rfl⟩ (fun rv_ S1 M1 hq_8 => ?_)
      obtain ⟨eS_, eM_, h_b⟩ := hq_8 _ rfl
      replace eS_ := eS_.symm
      replace eM_ := eM_.symm
      subst eS_ eM_
      have hex_b : ∃ v, rv_ = some (.inl v) := by rcases h_b with ⟨-, e⟩ | ⟨-, e⟩ <;> exact ⟨_, e⟩
      obtain ⟨v_b, rfl⟩ := hex_b
      simp only [Option.some.injEq, Sum.inl.injEq] at h_b
      try dsimp only [Option.toList, List.cons_append, List.nil_append]
      refine xt_eq (t := 23) rfl (fun hc_11 => ?_) (fun hc_11 => ?_)
      · skip
        refine xt_blk rfl rfl (by dsimp only [List.take]) ?_
        refine xt_ic ?_
        refine xt_nil (t := 24) rfl ?_
        refine xt_blk rfl rfl (by dsimp only [List.take]) ?_
        refine xt_rz (by decide) rfl (Nat.le_refl _) ?_
        intro a2 b2 e2
        simp only [List.cons.injEq, Sum.inl.injEq, and_true] at e2
        obtain ⟨rfl, rfl⟩ := e2
        exact ⟨rfl, rfl, Or.inr ⟨fun q => by rcases h_b with ⟨-, e⟩ | ⟨n, -⟩; rw [e] at hc_11; exact absurd hc_11 (by decide); exact n q.2.1, rfl⟩⟩
      · skip
        refine xt_iln0 rfl ?_
        refine xt_iln1 rfl ?_
        refine xt_ceq (t := 23) rfl (fun hc_16 => ?_) (fun hc_16 => ?_)
        · skip
          refine xt_blk rfl rfl (by dsimp only [List.take]) ?_
          refine xt_ic ?_
          refine xt_nil (t := 24) rfl ?_
          refine xt_blk rfl rfl (by dsimp only [List.take]) ?_
          refine xt_rz (by decide) rfl (Nat.le_refl _) ?_
          intro a2 b2 e2
          simp only [List.cons.injEq, Sum.inl.injEq, and_true] at e2
          obtain ⟨rfl, rfl⟩ := e2
          exact ⟨rfl, rfl, Or.inr ⟨fun q => q.2.2 hc_16, rfl⟩⟩
        · skip
          refine xt_ic ?_
          refine xt_goto (t := 24) rfl ?_
          refine xt_blk rfl rfl (by dsimp only [List.take]) ?_
          refine xt_rz (by decide) rfl (Nat.le_refl _) ?_
          intro a2 b2 e2
          simp only [List.cons.injEq, Sum.inl.injEq, and_true] at e2
          obtain ⟨rfl, rfl⟩ := e2
          refine ⟨rfl, rfl, Or.inl ⟨⟨?_, ?_, hc_16⟩, rfl⟩⟩
          · rcases h_a with ⟨y, -⟩ | ⟨-, e⟩
            · exact y
            · exact absurd (by rw [e]; rfl) hc_4
          · rcases h_b with ⟨y, -⟩ | ⟨-, e⟩
            · exact y
            · exact absurd (by rw [e]; rfl) hc_11
  · intro μ pc ls st S2 M2 cs sl h; exact h.elim
def q_X7_areTwo : x_K := (2, fun as S M => ∃ (a : Int32) (b : Int32), as = [.inl a, .inl b], fun as S M rv_ S' M' => ∀ (a : Int32) (b : Int32), as = [.inl a, .inl b] → S' = S ∧ M' = M ∧ (((Two a b) ∧ rv_ = some (.inl (nI 1))) ∨ (¬ (Two a b) ∧ rv_ = some (.inl (nI 0)))), 0, 0)
def b_X7_areTwo : x_B := [(0, 2, [(.iload_n 0, 1), (.invokestatic 100, 3), (.ifCond .eq 19, 3), (.iload_n 1, 1), (.invokestatic 100, 3), (.ifCond .eq 12, 3), (.iload_n 0, 1), (.iload_n 1, 1), (.if_icmp .eq 7, 3), (.iconst 1, 1), (.goto 4, 3)]),
  (23, 2, [(.iconst 0, 1)]),
  (24, 2, [(.ireturn, 1)])]
theorem b_X7_areTwo_ok : x_okB cX7_areTwo 2 b_X7_areTwo = true := by decide +kernel
def X_X7_areTwo : x_X := ([], [], [], [], [(300, q_X7_isThing)], (0, 0), x_kn, x_kf, 5, false)
theorem X_X7_areTwo_ok : x_okT RX7 X_X7_areTwo = true := by decide +kernel
theorem k_X7_areTwo (l : Launch) : ∀ z ∈ X_X7_areTwo.2.2.2.2.1, x_Cal l (x_rm 3 0 0) cX7_areTwo RX7 2 z.1 z.2 := List.forall_mem_cons.mpr ⟨x_cal_S (idx := 100) (c_X7_isThing l) ⟨by decide, by decide⟩ (by decide +kernel) (by decide +kernel) (by decide +kernel) (by decide +kernel) (by decide +kernel), fun _ h => absurd h List.not_mem_nil⟩
set_option maxHeartbeats 4000000 in
set_option maxRecDepth 100000 in
theorem c_X7_areTwo (l : Launch) : x_CT l yX7_areTwo cX7_areTwo 2 (some .boolean) 3 q_X7_areTwo := by
  refine x_meth (X := X_X7_areTwo) (bl := b_X7_areTwo) (cut := []) (own := RX7) 30 (by decide) rfl X_X7_areTwo_ok b_X7_areTwo_ok rfl (Nat.le_of_ble_eq_true rfl) (k_X7_areTwo l) ?_
  rintro as S M - ⟨a, b, rfl⟩
  refine ⟨fun _ _ _ _ _ _ _ _ => False, ?_, ?_⟩
  · skip
    refine xt_blk rfl rfl (by dsimp only [List.take]) ?_
    refine xt_iln0 rfl ?_
    refine xt_v1 (key := 300) (q := q_X7_isThing) rfl rfl rfl rfl rfl ⟨Nat.le_of_ble_eq_true rfl, Nat.le_of_ble_eq_true rfl⟩ ⟨_, rfl⟩ (fun rv_ S1 M1 hq_1 => ?_)
    obtain ⟨eS_, eM_, h_a⟩ := hq_1 _ rfl
    replace eS_ := eS_.symm
    replace eM_ := eM_.symm
    subst eS_ eM_
    have hex_a : ∃ v, rv_ = some (.inl v) := by rcases h_a with ⟨-, e⟩ | ⟨-, e⟩ <;> exact ⟨_, e⟩
    obtain ⟨v_a, rfl⟩ := hex_a
    simp only [Option.some.injEq, Sum.inl.injEq] at h_a
    try dsimp only [Option.toList, List.cons_append, List.nil_append]
    refine xt_eq (t := 23) rfl (fun hc_4 => ?_) (fun hc_4 => ?_)
    · skip
      refine xt_blk rfl rfl (by dsimp only [List.take]) ?_
      refine xt_ic ?_
      refine xt_nil (t := 24) rfl ?_
      refine xt_blk rfl rfl (by dsimp only [List.take]) ?_
      refine xt_rz (by decide) rfl (Nat.le_refl _) ?_
      intro a2 b2 e2
      simp only [List.cons.injEq, Sum.inl.injEq, and_true] at e2
      obtain ⟨rfl, rfl⟩ := e2
      exact ⟨rfl, rfl, Or.inr ⟨fun q => by rcases h_a with ⟨-, e⟩ | ⟨n, -⟩; rw [e] at hc_4; exact absurd hc_4 (by decide); exact n q.1, rfl⟩⟩
    · skip
      refine xt_iln1 rfl ?_
      refine xt_v1 (key := 300) (q := q_X7_isThing) rfl rfl rfl rfl rfl ⟨Nat.le_of_ble_eq_true rfl, Nat.le_of_ble_eq_true rfl⟩ ⟨_, rfl⟩ (fun rv_ S1 M1 hq_8 => ?_)
      obtain ⟨eS_, eM_, h_b⟩ := hq_8 _ rfl
      replace eS_ := eS_.symm
      replace eM_ := eM_.symm
      subst eS_ eM_
      have hex_b : ∃ v, rv_ = some (.inl v) := by rcases h_b with ⟨-, e⟩ | ⟨-, e⟩ <;> exact ⟨_, e⟩
      obtain ⟨v_b, rfl⟩ := hex_b
      simp only [Option.some.injEq, Sum.inl.injEq] at h_b
      try dsimp only [Option.toList, List.cons_append, List.nil_append]
      refine xt_eq (t := 23) rfl (fun hc_11 => ?_) (fun hc_11 => ?_)
      · skip
        refine xt_blk rfl rfl (by dsimp only [List.take]) ?_
        refine xt_ic ?_
        refine xt_nil (t := 24) rfl ?_
        refine xt_blk rfl rfl (by dsimp only [List.take]) ?_
        refine xt_rz (by decide) rfl (Nat.le_refl _) ?_
        intro a2 b2 e2
        simp only [List.cons.injEq, Sum.inl.injEq, and_true] at e2
        obtain ⟨rfl, rfl⟩ := e2
        exact ⟨rfl, rfl, Or.inr ⟨fun q => by rcases h_b with ⟨-, e⟩ | ⟨n, -⟩; rw [e] at hc_11; exact absurd hc_11 (by decide); exact n q.2.1, rfl⟩⟩
      · skip
        refine xt_iln0 rfl ?_
        refine xt_iln1 rfl ?_
        refine xt_ceq (t := 23) rfl (fun hc_16 => ?_) (fun hc_16 => ?_)
        · skip
          refine xt_blk rfl rfl (by dsimp only [List.take]) ?_
          refine xt_ic ?_
          refine xt_nil (t := 24) rfl ?_
          refine xt_blk rfl rfl (by dsimp only [List.take]) ?_
          refine xt_rz (by decide) rfl (Nat.le_refl _) ?_
          intro a2 b2 e2
          simp only [List.cons.injEq, Sum.inl.injEq, and_true] at e2
          obtain ⟨rfl, rfl⟩ := e2
          exact ⟨rfl, rfl, Or.inr ⟨fun q => q.2.2 hc_16, rfl⟩⟩
        · skip
          refine xt_ic ?_
          refine xt_goto (t := 24) rfl ?_
          refine xt_blk rfl rfl (by dsimp only [List.take]) ?_
          refine xt_rz (by decide) rfl (Nat.le_refl _) ?_
          intro a2 b2 e2
          simp only [List.cons.injEq, Sum.inl.injEq, and_true] at e2
          obtain ⟨rfl, rfl⟩ := e2
          refine ⟨rfl, rfl, Or.inl ⟨⟨?_, ?_, hc_16⟩, rfl⟩⟩
          · rcases h_a with ⟨y, -⟩ | ⟨-, e⟩
            · exact y
            · exact absurd (by rw [e]; rfl) hc_4
          · rcases h_b with ⟨y, -⟩ | ⟨-, e⟩
            · exact y
            · exact absurd (by rw [e]; rfl) hc_11
  · intro μ pc ls st S2 M2 cs sl h; exact h.elim
def q_X6_refusalAlong : x_K := (3, fun as S M => ∃ (w a b : Int32), as = [.inl w, .inl a, .inl b], fun as S M rv_ S' M' => ∀ (w a b : Int32), as = [.inl w, .inl a, .inl b] → S' = S ∧ M' = M ∧ ((¬ Two a b ∧ rv_ = some (.inl (-(nI 1)))) ∨ (Two a b ∧ Th 2 w ∧ rv_ = some (.inl (nI 0))) ∨ (Two a b ∧ ¬ Th 2 w ∧ rv_ = some (.inl (-(nI 2))))), 0, 0)
def b_X6_refusalAlong : x_B := [(0, 3, [(.iload_n 1, 1), (.iload_n 2, 1), (.invokestatic 81, 3), (.ifCond .ne 5, 3), (.iconst (-1), 1), (.ireturn, 1)]),
  (10, 3, [(.iload_n 0, 1), (.invokestatic 124, 3), (.ifCond .eq 7, 3), (.iconst 0, 1), (.goto 5, 3)]),
  (21, 3, [(.bipush (-2), 2)]),
  (23, 3, [(.ireturn, 1)])]
theorem b_X6_refusalAlong_ok : x_okB cX6_refusalAlong 3 b_X6_refusalAlong = true := by decide +kernel
def X_X6_refusalAlong : x_X := ([], [], [], [], [(243, q_X6_areTwoThings), (372, q_X6_isWay)], (0, 0), x_kn, x_kf, 5, false)
theorem X_X6_refusalAlong_ok : x_okT RX6 X_X6_refusalAlong = true := by decide +kernel
theorem k_X6_refusalAlong (l : Launch) : ∀ z ∈ X_X6_refusalAlong.2.2.2.2.1, x_Cal l (x_rm 3 0 0) cX6_refusalAlong RX6 3 z.1 z.2 := List.forall_mem_cons.mpr ⟨x_cal_S (idx := 81) (c_X6_areTwoThings l) ⟨by decide, by decide⟩ (by decide +kernel) (by decide +kernel) (by decide +kernel) (by decide +kernel) (by decide +kernel), List.forall_mem_cons.mpr ⟨x_cal_S (idx := 124) (c_X6_isWay l) ⟨by decide, by decide⟩ (by decide +kernel) (by decide +kernel) (by decide +kernel) (by decide +kernel) (by decide +kernel), fun _ h => absurd h List.not_mem_nil⟩⟩
set_option maxHeartbeats 4000000 in
set_option maxRecDepth 100000 in
theorem c_X6_refusalAlong (l : Launch) : x_CT l yX6_refusalAlong cX6_refusalAlong 3 (some .int) 3 q_X6_refusalAlong := by
  refine x_meth (X := X_X6_refusalAlong) (bl := b_X6_refusalAlong) (cut := []) (own := RX6) 30 (by decide) rfl X_X6_refusalAlong_ok b_X6_refusalAlong_ok rfl (Nat.le_of_ble_eq_true rfl) (k_X6_refusalAlong l) ?_
  rintro as S M - ⟨w, a, b, rfl⟩
  refine ⟨fun _ _ _ _ _ _ _ _ => False, ?_, ?_⟩
  · skip
    refine xt_blk rfl rfl (by dsimp only [List.take]) ?_
    refine xt_iln1 rfl ?_
    refine xt_iln2 rfl ?_
    refine xt_v2 (key := 243) (q := q_X6_areTwoThings) rfl rfl rfl rfl rfl ⟨Nat.le_of_ble_eq_true rfl, Nat.le_of_ble_eq_true rfl⟩ ⟨_, _, rfl⟩ (fun rv_ S1 M1 hq_2 => ?_)
    obtain ⟨eS_, eM_, h_t⟩ := hq_2 _ _ rfl
    replace eS_ := eS_.symm
    replace eM_ := eM_.symm
    subst eS_ eM_
    have hex_t : ∃ v, rv_ = some (.inl v) := by rcases h_t with ⟨-, e⟩ | ⟨-, e⟩ <;> exact ⟨_, e⟩
    obtain ⟨v_t, rfl⟩ := hex_t
    simp only [Option.some.injEq, Sum.inl.injEq] at h_t
    try dsimp only [Option.toList, List.cons_append, List.nil_append]
    refine xt_ne (t := 10) rfl (fun hc_5 => ?_) (fun hc_5 => ?_)
    · skip
      refine xt_blk rfl rfl (by dsimp only [List.take]) ?_
      refine xt_iln0 rfl ?_
      refine xt_v1 (key := 372) (q := q_X6_isWay) rfl rfl rfl rfl rfl ⟨Nat.le_of_ble_eq_true rfl, Nat.le_of_ble_eq_true rfl⟩ ⟨_, rfl⟩ (fun rv_ S1 M1 hq_11 => ?_)
      obtain ⟨eS_, eM_, h_w⟩ := hq_11 _ rfl
      replace eS_ := eS_.symm
      replace eM_ := eM_.symm
      subst eS_ eM_
      have hex_w : ∃ v, rv_ = some (.inl v) := by rcases h_w with ⟨-, e⟩ | ⟨-, e⟩ <;> exact ⟨_, e⟩
      obtain ⟨v_w, rfl⟩ := hex_w
      simp only [Option.some.injEq, Sum.inl.injEq] at h_w
      try dsimp only [Option.toList, List.cons_append, List.nil_append]
      refine xt_eq (t := 21) rfl (fun hc_14 => ?_) (fun hc_14 => ?_)
      · skip
        refine xt_blk rfl rfl (by dsimp only [List.take]) ?_
        refine xt_bim rfl ?_
        refine xt_nil (t := 23) rfl ?_
        refine xt_blk rfl rfl (by dsimp only [List.take]) ?_
        refine xt_ri rfl (Nat.le_refl _) ?_
        have h2 : Two a b := by
          rcases h_t with ⟨y, -⟩ | ⟨-, e⟩
          · exact y
          · exact absurd (by rw [e]; rfl) hc_5
        intro w2 a2 b2 e2
        simp only [List.cons.injEq, Sum.inl.injEq, and_true] at e2
        obtain ⟨rfl, rfl, rfl⟩ := e2
        exact ⟨rfl, rfl, Or.inr (Or.inr ⟨h2, fun q => by rcases h_w with ⟨-, e⟩ | ⟨n, -⟩; rw [e] at hc_14; exact absurd hc_14 (by decide); exact n q, rfl⟩)⟩
      · skip
        refine xt_ic ?_
        refine xt_goto (t := 23) rfl ?_
        refine xt_blk rfl rfl (by dsimp only [List.take]) ?_
        refine xt_ri rfl (Nat.le_refl _) ?_
        have h2 : Two a b := by
          rcases h_t with ⟨y, -⟩ | ⟨-, e⟩
          · exact y
          · exact absurd (by rw [e]; rfl) hc_5
        intro w2 a2 b2 e2
        simp only [List.cons.injEq, Sum.inl.injEq, and_true] at e2
        obtain ⟨rfl, rfl, rfl⟩ := e2
        exact ⟨rfl, rfl, Or.inr (Or.inl ⟨h2, by rcases h_w with ⟨y, -⟩ | ⟨-, e⟩; exact y; exact absurd (by rw [e]; rfl) hc_14, rfl⟩)⟩
    · skip
      refine xt_icm rfl ?_
      refine xt_ri rfl (Nat.le_refl _) ?_
      intro w2 a2 b2 e2
      simp only [List.cons.injEq, Sum.inl.injEq, and_true] at e2
      obtain ⟨rfl, rfl, rfl⟩ := e2
      exact ⟨rfl, rfl, Or.inl ⟨fun q => by rcases h_t with ⟨-, e⟩ | ⟨n, -⟩; rw [e] at hc_5; exact absurd hc_5 (by decide); exact n q, rfl⟩⟩
  · intro μ pc ls st S2 M2 cs sl h; exact h.elim
def q_X7_wrong : x_K := (3, fun as S M => ∃ (w a b : Int32), as = [.inl w, .inl a, .inl b], fun as S M rv_ S' M' => ∀ (w a b : Int32), as = [.inl w, .inl a, .inl b] → S' = S ∧ M' = M ∧ ((¬ Two a b ∧ rv_ = some (.inl (-(nI 1)))) ∨ (Two a b ∧ Th 2 w ∧ rv_ = some (.inl (nI 0))) ∨ (Two a b ∧ ¬ Th 2 w ∧ rv_ = some (.inl (-(nI 2))))), 0, 0)
def b_X7_wrong : x_B := [(0, 3, [(.iload_n 1, 1), (.iload_n 2, 1), (.invokestatic 108, 3), (.ifCond .ne 7, 3), (.iconst (-1), 1), (.goto 16, 3)]),
  (12, 3, [(.iload_n 0, 1), (.invokestatic 135, 3), (.ifCond .eq 7, 3), (.iconst 0, 1), (.goto 5, 3)]),
  (23, 3, [(.bipush (-2), 2)]),
  (25, 3, [(.ireturn, 1)])]
theorem b_X7_wrong_ok : x_okB cX7_wrong 3 b_X7_wrong = true := by decide +kernel
def X_X7_wrong : x_X := ([], [], [], [], [(324, q_X7_areTwo), (405, q_X7_isWay)], (0, 0), x_kn, x_kf, 5, false)
theorem X_X7_wrong_ok : x_okT RX7 X_X7_wrong = true := by decide +kernel
theorem k_X7_wrong (l : Launch) : ∀ z ∈ X_X7_wrong.2.2.2.2.1, x_Cal l (x_rm 4 0 0) cX7_wrong RX7 3 z.1 z.2 := List.forall_mem_cons.mpr ⟨x_cal_S (idx := 108) (c_X7_areTwo l) ⟨by decide, by decide⟩ (by decide +kernel) (by decide +kernel) (by decide +kernel) (by decide +kernel) (by decide +kernel), List.forall_mem_cons.mpr ⟨x_cal_S (idx := 135) (c_X7_isWay l) ⟨by decide, by decide⟩ (by decide +kernel) (by decide +kernel) (by decide +kernel) (by decide +kernel) (by decide +kernel), fun _ h => absurd h List.not_mem_nil⟩⟩
set_option maxHeartbeats 4000000 in
set_option maxRecDepth 100000 in
theorem c_X7_wrong (l : Launch) : x_CT l yX7_wrong cX7_wrong 3 (some .int) 4 q_X7_wrong := by
  refine x_meth (X := X_X7_wrong) (bl := b_X7_wrong) (cut := []) (own := RX7) 30 (by decide) rfl X_X7_wrong_ok b_X7_wrong_ok rfl (Nat.le_of_ble_eq_true rfl) (k_X7_wrong l) ?_
  rintro as S M - ⟨w, a, b, rfl⟩
  refine ⟨fun _ _ _ _ _ _ _ _ => False, ?_, ?_⟩
  · skip
    refine xt_blk rfl rfl (by dsimp only [List.take]) ?_
    refine xt_iln1 rfl ?_
    refine xt_iln2 rfl ?_
    refine xt_v2 (key := 324) (q := q_X7_areTwo) rfl rfl rfl rfl rfl ⟨Nat.le_of_ble_eq_true rfl, Nat.le_of_ble_eq_true rfl⟩ ⟨_, _, rfl⟩ (fun rv_ S1 M1 hq_2 => ?_)
    obtain ⟨eS_, eM_, h_t⟩ := hq_2 _ _ rfl
    replace eS_ := eS_.symm
    replace eM_ := eM_.symm
    subst eS_ eM_
    have hex_t : ∃ v, rv_ = some (.inl v) := by rcases h_t with ⟨-, e⟩ | ⟨-, e⟩ <;> exact ⟨_, e⟩
    obtain ⟨v_t, rfl⟩ := hex_t
    simp only [Option.some.injEq, Sum.inl.injEq] at h_t
    try dsimp only [Option.toList, List.cons_append, List.nil_append]
    refine xt_ne (t := 12) rfl (fun hc_5 => ?_) (fun hc_5 => ?_)
    · skip
      refine xt_blk rfl rfl (by dsimp only [List.take]) ?_
      refine xt_iln0 rfl ?_
      refine xt_v1 (key := 405) (q := q_X7_isWay) rfl rfl rfl rfl rfl ⟨Nat.le_of_ble_eq_true rfl, Nat.le_of_ble_eq_true rfl⟩ ⟨_, rfl⟩ (fun rv_ S1 M1 hq_13 => ?_)
      obtain ⟨eS_, eM_, h_w⟩ := hq_13 _ rfl
      replace eS_ := eS_.symm
      replace eM_ := eM_.symm
      subst eS_ eM_
      have hex_w : ∃ v, rv_ = some (.inl v) := by rcases h_w with ⟨-, e⟩ | ⟨-, e⟩ <;> exact ⟨_, e⟩
      obtain ⟨v_w, rfl⟩ := hex_w
      simp only [Option.some.injEq, Sum.inl.injEq] at h_w
      try dsimp only [Option.toList, List.cons_append, List.nil_append]
      refine xt_eq (t := 23) rfl (fun hc_16 => ?_) (fun hc_16 => ?_)
      · skip
        refine xt_blk rfl rfl (by dsimp only [List.take]) ?_
        refine xt_bim rfl ?_
        refine xt_nil (t := 25) rfl ?_
        refine xt_blk rfl rfl (by dsimp only [List.take]) ?_
        refine xt_ri rfl (Nat.le_refl _) ?_
        have h2 : Two a b := by
          rcases h_t with ⟨y, -⟩ | ⟨-, e⟩
          · exact y
          · exact absurd (by rw [e]; rfl) hc_5
        intro w2 a2 b2 e2
        simp only [List.cons.injEq, Sum.inl.injEq, and_true] at e2
        obtain ⟨rfl, rfl, rfl⟩ := e2
        exact ⟨rfl, rfl, Or.inr (Or.inr ⟨h2, fun q => by rcases h_w with ⟨-, e⟩ | ⟨n, -⟩; rw [e] at hc_16; exact absurd hc_16 (by decide); exact n q, rfl⟩)⟩
      · skip
        refine xt_ic ?_
        refine xt_goto (t := 25) rfl ?_
        refine xt_blk rfl rfl (by dsimp only [List.take]) ?_
        refine xt_ri rfl (Nat.le_refl _) ?_
        have h2 : Two a b := by
          rcases h_t with ⟨y, -⟩ | ⟨-, e⟩
          · exact y
          · exact absurd (by rw [e]; rfl) hc_5
        intro w2 a2 b2 e2
        simp only [List.cons.injEq, Sum.inl.injEq, and_true] at e2
        obtain ⟨rfl, rfl, rfl⟩ := e2
        exact ⟨rfl, rfl, Or.inr (Or.inl ⟨h2, by rcases h_w with ⟨y, -⟩ | ⟨-, e⟩; exact y; exact absurd (by rw [e]; rfl) hc_16, rfl⟩)⟩
    · skip
      refine xt_icm rfl ?_
      refine xt_goto (t := 25) rfl ?_
      refine xt_blk rfl rfl (by dsimp only [List.take]) ?_
      refine xt_ri rfl (Nat.le_refl _) ?_
      intro w2 a2 b2 e2
      simp only [List.cons.injEq, Sum.inl.injEq, and_true] at e2
      obtain ⟨rfl, rfl, rfl⟩ := e2
      exact ⟨rfl, rfl, Or.inl ⟨fun q => by rcases h_t with ⟨-, e⟩ | ⟨n, -⟩; rw [e] at hc_5; exact absurd hc_5 (by decide); exact n q, rfl⟩⟩
  · intro μ pc ls st S2 M2 cs sl h; exact h.elim
