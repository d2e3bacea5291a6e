/-! STATEMENTS: what is kept; BOXES -/
def q_X4_size : x_K := (1, fun as S M => S = SH ∧ as = [.inr (.inl 1)], fun as S M rv_ S' M' => as = [.inr (.inl 1)] → S' = S ∧ M' = M ∧ rv_ = some (.inl (M 1 4)), 0, 0)
theorem r_X4_size : ∀ as S M, q_X4_size.2.1 as S M → ∃ (k : Nat) (as' : List x_V) (fs : List (Option Nat)), as = .inr (.inl k) :: as' ∧ S[k]? = some (.inl (2, fs)) := by
  rintro as S M ⟨rfl, rfl⟩
  exact ⟨1, _, _, rfl, rfl⟩
def b_X4_size : x_B := [(0, 1, [(.aload_n 0, 1), (.getfield 27, 3), (.ireturn, 1)])]
theorem b_X4_size_ok : x_okB cX4_size 1 b_X4_size = true := by decide +kernel
def X_X4_size : x_X := ([(27, 2, 4)], [], [], [], [], (0, 0), x_kn, x_kf, 5, false)
theorem X_X4_size_ok : x_okT RX4 X_X4_size = true := by decide +kernel
theorem k_X4_size (l : Launch) : ∀ z ∈ X_X4_size.2.2.2.2.1, x_Cal l (x_rm 1 0 0) cX4_size RX4 1 z.1 z.2 := fun _ h => absurd h List.not_mem_nil
set_option maxHeartbeats 4000000 in
set_option maxRecDepth 100000 in
theorem c_X4_size (l : Launch) : x_CT l yX4_size cX4_size 1 (some .int) 1 q_X4_size := by
  refine x_meth (X := X_X4_size) (bl := b_X4_size) (cut := []) (own := RX4) 30 (by decide) rfl X_X4_size_ok b_X4_size_ok rfl (Nat.le_of_ble_eq_true rfl) (k_X4_size l) ?_
  rintro as S M - ⟨rfl, rfl⟩
  refine ⟨fun _ _ _ _ _ _ _ _ => False, ?_, ?_⟩
  · skip
    refine xt_blk rfl rfl (by dsimp only [List.take]) ?_
    refine xt_aln0 rfl (by first | decide | omega | assumption) ?_
    refine xt_gfi (q := (2, 4)) rfl (by first | rfl | assumption) rfl ?_
    refine xt_ri rfl (Nat.le_refl _) ?_
    intro e2
    clear e2
    exact ⟨rfl, rfl, rfl⟩
  · intro μ pc ls st S2 M2 cs sl h; exact h.elim
def q_X4_changes : x_K := (1, fun as S M => S = SH ∧ as = [.inr (.inl 1)], fun as S M rv_ S' M' => as = [.inr (.inl 1)] → S' = S ∧ M' = M ∧ rv_ = some (.inl (M 1 5)), 0, 0)
theorem r_X4_changes : ∀ as S M, q_X4_changes.2.1 as S M → ∃ (k : Nat) (as' : List x_V) (fs : List (Option Nat)), as = .inr (.inl k) :: as' ∧ S[k]? = some (.inl (2, fs)) := by
  rintro as S M ⟨rfl, rfl⟩
  exact ⟨1, _, _, rfl, rfl⟩
def b_X4_changes : x_B := [(0, 1, [(.aload_n 0, 1), (.getfield 31, 3), (.ireturn, 1)])]
theorem b_X4_changes_ok : x_okB cX4_changes 1 b_X4_changes = true := by decide +kernel
def X_X4_changes : x_X := ([(31, 2, 5)], [], [], [], [], (0, 0), x_kn, x_kf, 5, false)
theorem X_X4_changes_ok : x_okT RX4 X_X4_changes = true := by decide +kernel
theorem k_X4_changes (l : Launch) : ∀ z ∈ X_X4_changes.2.2.2.2.1, x_Cal l (x_rm 1 0 0) cX4_changes RX4 1 z.1 z.2 := fun _ h => absurd h List.not_mem_nil
set_option maxHeartbeats 4000000 in
set_option maxRecDepth 100000 in
theorem c_X4_changes (l : Launch) : x_CT l yX4_changes cX4_changes 1 (some .int) 1 q_X4_changes := by
  refine x_meth (X := X_X4_changes) (bl := b_X4_changes) (cut := []) (own := RX4) 30 (by decide) rfl X_X4_changes_ok b_X4_changes_ok rfl (Nat.le_of_ble_eq_true rfl) (k_X4_changes l) ?_
  rintro as S M - ⟨rfl, rfl⟩
  refine ⟨fun _ _ _ _ _ _ _ _ => False, ?_, ?_⟩
  · skip
    refine xt_blk rfl rfl (by dsimp only [List.take]) ?_
    refine xt_aln0 rfl (by first | decide | omega | assumption) ?_
    refine xt_gfi (q := (2, 5)) rfl (by first | rfl | assumption) rfl ?_
    refine xt_ri rfl (Nat.le_refl _) ?_
    intro e2
    clear e2
    exact ⟨rfl, rfl, rfl⟩
  · intro μ pc ls st S2 M2 cs sl h; exact h.elim
def q_X4_firstOf : x_K := (2, fun as S M => ∃ (i : Nat), i < 30 ∧ S = SH ∧ as = [.inr (.inl 1), .inl (nI i)], fun as S M rv_ S' M' => ∀ (i : Nat), i < 30 → as = [.inr (.inl 1), .inl (nI i)] → S' = S ∧ M' = M ∧ rv_ = some (.inl (M 2 i)), 0, 0)
theorem r_X4_firstOf : ∀ as S M, q_X4_firstOf.2.1 as S M → ∃ (k : Nat) (as' : List x_V) (fs : List (Option Nat)), as = .inr (.inl k) :: as' ∧ S[k]? = some (.inl (2, fs)) := by
  rintro as S M ⟨i, hi, rfl, rfl⟩
  exact ⟨1, _, _, rfl, rfl⟩
def b_X4_firstOf : x_B := [(0, 2, [(.aload_n 0, 1), (.getfield 9, 3), (.iload_n 1, 1), (.iaload, 1), (.ireturn, 1)])]
theorem b_X4_firstOf_ok : x_okB cX4_firstOf 2 b_X4_firstOf = true := by decide +kernel
def X_X4_firstOf : x_X := ([(9, 2, 0)], [], [], [], [], (0, 0), x_kn, x_kf, 5, false)
theorem X_X4_firstOf_ok : x_okT RX4 X_X4_firstOf = true := by decide +kernel
theorem k_X4_firstOf (l : Launch) : ∀ z ∈ X_X4_firstOf.2.2.2.2.1, x_Cal l (x_rm 1 0 0) cX4_firstOf RX4 2 z.1 z.2 := fun _ h => absurd h List.not_mem_nil
set_option maxHeartbeats 4000000 in
set_option maxRecDepth 100000 in
theorem c_X4_firstOf (l : Launch) : x_CT l yX4_firstOf cX4_firstOf 2 (some .int) 1 q_X4_firstOf := by
  refine x_meth (X := X_X4_firstOf) (bl := b_X4_firstOf) (cut := []) (own := RX4) 30 (by decide) rfl X_X4_firstOf_ok b_X4_firstOf_ok rfl (Nat.le_of_ble_eq_true rfl) (k_X4_firstOf l) ?_
  rintro as S M - ⟨i, hi, rfl, rfl⟩
  refine ⟨fun _ _ _ _ _ _ _ _ => False, ?_, ?_⟩
  · skip
    refine xt_blk rfl rfl (by dsimp only [List.take]) ?_
    refine xt_aln0 rfl (by first | decide | omega | assumption) ?_
    refine xt_gfr (q := (2, 0)) rfl (by first | rfl | assumption) rfl ?_
    refine xt_iln1 rfl ?_
    refine xt_ial (by first | rfl | assumption) (show vp_in _ 30 from vp_in_nI (by omega) (by decide)) ?_
    refine xt_ri rfl (Nat.le_refl _) ?_
    intro i2 h2i e2
    simp only [List.cons.injEq, Sum.inl.injEq, Sum.inr.injEq, and_true, true_and] at e2
    have e2i := e2
    rw [nI_eq (by omega) (by omega)] at e2i
    subst e2i
    exact ⟨rfl, rfl, by rw [nI_clamp (by omega)]⟩
  · intro μ pc ls st S2 M2 cs sl h; exact h.elim
def q_X4_secondOf : x_K := (2, fun as S M => ∃ (i : Nat), i < 30 ∧ S = SH ∧ as = [.inr (.inl 1), .inl (nI i)], fun as S M rv_ S' M' => ∀ (i : Nat), i < 30 → as = [.inr (.inl 1), .inl (nI i)] → S' = S ∧ M' = M ∧ rv_ = some (.inl (M 3 i)), 0, 0)
theorem r_X4_secondOf : ∀ as S M, q_X4_secondOf.2.1 as S M → ∃ (k : Nat) (as' : List x_V) (fs : List (Option Nat)), as = .inr (.inl k) :: as' ∧ S[k]? = some (.inl (2, fs)) := by
  rintro as S M ⟨i, hi, rfl, rfl⟩
  exact ⟨1, _, _, rfl, rfl⟩
def b_X4_secondOf : x_B := [(0, 2, [(.aload_n 0, 1), (.getfield 15, 3), (.iload_n 1, 1), (.iaload, 1), (.ireturn, 1)])]
theorem b_X4_secondOf_ok : x_okB cX4_secondOf 2 b_X4_secondOf = true := by decide +kernel
def X_X4_secondOf : x_X := ([(15, 2, 1)], [], [], [], [], (0, 0), x_kn, x_kf, 5, false)
theorem X_X4_secondOf_ok : x_okT RX4 X_X4_secondOf = true := by decide +kernel
theorem k_X4_secondOf (l : Launch) : ∀ z ∈ X_X4_secondOf.2.2.2.2.1, x_Cal l (x_rm 1 0 0) cX4_secondOf RX4 2 z.1 z.2 := fun _ h => absurd h List.not_mem_nil
set_option maxHeartbeats 4000000 in
set_option maxRecDepth 100000 in
theorem c_X4_secondOf (l : Launch) : x_CT l yX4_secondOf cX4_secondOf 2 (some .int) 1 q_X4_secondOf := by
  refine x_meth (X := X_X4_secondOf) (bl := b_X4_secondOf) (cut := []) (own := RX4) 30 (by decide) rfl X_X4_secondOf_ok b_X4_secondOf_ok rfl (Nat.le_of_ble_eq_true rfl) (k_X4_secondOf l) ?_
  rintro as S M - ⟨i, hi, rfl, rfl⟩
  refine ⟨fun _ _ _ _ _ _ _ _ => False, ?_, ?_⟩
  · skip
    refine xt_blk rfl rfl (by dsimp only [List.take]) ?_
    refine xt_aln0 rfl (by first | decide | omega | assumption) ?_
    refine xt_gfr (q := (2, 1)) rfl (by first | rfl | assumption) rfl ?_
    refine xt_iln1 rfl ?_
    refine xt_ial (by first | rfl | assumption) (show vp_in _ 30 from vp_in_nI (by omega) (by decide)) ?_
    refine xt_ri rfl (Nat.le_refl _) ?_
    intro i2 h2i e2
    simp only [List.cons.injEq, Sum.inl.injEq, Sum.inr.injEq, and_true, true_and] at e2
    have e2i := e2
    rw [nI_eq (by omega) (by omega)] at e2i
    subst e2i
    exact ⟨rfl, rfl, by rw [nI_clamp (by omega)]⟩
  · intro μ pc ls st S2 M2 cs sl h; exact h.elim
def q_X4_isTold : x_K := (2, fun as S M => ∃ (i : Nat), i < 30 ∧ S = SH ∧ (∀ j, j < 30 → M 7 j = nI 0 ∨ M 7 j = nI 1) ∧ as = [.inr (.inl 1), .inl (nI i)], fun as S M rv_ S' M' => ∀ (i : Nat), i < 30 → as = [.inr (.inl 1), .inl (nI i)] → S' = S ∧ M' = M ∧ rv_ = some (.inl (M 7 i)), 0, 0)
theorem r_X4_isTold : ∀ as S M, q_X4_isTold.2.1 as S M → ∃ (k : Nat) (as' : List x_V) (fs : List (Option Nat)), as = .inr (.inl k) :: as' ∧ S[k]? = some (.inl (2, fs)) := by
  rintro as S M ⟨i, hi, rfl, hpre, rfl⟩
  exact ⟨1, _, _, rfl, rfl⟩
def b_X4_isTold : x_B := [(0, 2, [(.aload_n 0, 1), (.getfield 23, 3), (.iload_n 1, 1), (.baload, 1), (.ireturn, 1)])]
theorem b_X4_isTold_ok : x_okB cX4_isTold 2 b_X4_isTold = true := by decide +kernel
def X_X4_isTold : x_X := ([(23, 2, 3)], [], [], [], [], (0, 0), x_kn, x_kf, 5, false)
theorem X_X4_isTold_ok : x_okT RX4 X_X4_isTold = true := by decide +kernel
theorem k_X4_isTold (l : Launch) : ∀ z ∈ X_X4_isTold.2.2.2.2.1, x_Cal l (x_rm 1 0 0) cX4_isTold RX4 2 z.1 z.2 := fun _ h => absurd h List.not_mem_nil
set_option maxHeartbeats 4000000 in
set_option maxRecDepth 100000 in
theorem c_X4_isTold (l : Launch) : x_CT l yX4_isTold cX4_isTold 2 (some .boolean) 1 q_X4_isTold := by
  refine x_meth (X := X_X4_isTold) (bl := b_X4_isTold) (cut := []) (own := RX4) 30 (by decide) rfl X_X4_isTold_ok b_X4_isTold_ok rfl (Nat.le_of_ble_eq_true rfl) (k_X4_isTold l) ?_
  rintro as S M - ⟨i, hi, rfl, hpre, rfl⟩
  refine ⟨fun _ _ _ _ _ _ _ _ => False, ?_, ?_⟩
  · skip
    refine xt_blk rfl rfl (by dsimp only [List.take]) ?_
    refine xt_aln0 rfl (by first | decide | omega | assumption) ?_
    refine xt_gfr (q := (2, 3)) rfl (by first | rfl | assumption) rfl ?_
    refine xt_iln1 rfl ?_
    refine xt_bal (by first | rfl | assumption) (show vp_in _ 30 from vp_in_nI (by omega) (by decide)) ?_
    refine xt_rz (by rw [nI_clamp (by omega)]; exact hpre i hi) rfl (Nat.le_refl _) ?_
    intro i2 h2i e2
    simp only [List.cons.injEq, Sum.inl.injEq, Sum.inr.injEq, and_true, true_and] at e2
    have e2i := e2
    rw [nI_eq (by omega) (by omega)] at e2i
    subst e2i
    exact ⟨rfl, rfl, by rw [nI_clamp (by omega)]⟩
  · intro μ pc ls st S2 M2 cs sl h; exact h.elim
def q_X4_isFull : x_K := (1, fun as S M => S = SH ∧ (∃ n, n ≤ 30 ∧ M 1 4 = nI n) ∧ as = [.inr (.inl 1)], fun as S M rv_ S' M' => ∀ n, n ≤ 30 → M 1 4 = nI n → as = [.inr (.inl 1)] → S' = S ∧ M' = M ∧ rv_ = some (.inl (if 30 ≤ n then nI 1 else nI 0)), 0, 0)
theorem r_X4_isFull : ∀ as S M, q_X4_isFull.2.1 as S M → ∃ (k : Nat) (as' : List x_V) (fs : List (Option Nat)), as = .inr (.inl k) :: as' ∧ S[k]? = some (.inl (2, fs)) := by
  rintro as S M ⟨rfl, hpre, rfl⟩
  exact ⟨1, _, _, rfl, rfl⟩
def b_X4_isFull : x_B := [(0, 1, [(.aload_n 0, 1), (.getfield 27, 3), (.bipush 30, 2), (.if_icmp .lt 7, 3), (.iconst 1, 1), (.goto 4, 3)]),
  (13, 1, [(.iconst 0, 1)]),
  (14, 1, [(.ireturn, 1)])]
theorem b_X4_isFull_ok : x_okB cX4_isFull 1 b_X4_isFull = true := by decide +kernel
def X_X4_isFull : x_X := ([(27, 2, 4)], [], [], [], [], (0, 0), x_kn, x_kf, 5, false)
theorem X_X4_isFull_ok : x_okT RX4 X_X4_isFull = true := by decide +kernel
theorem k_X4_isFull (l : Launch) : ∀ z ∈ X_X4_isFull.2.2.2.2.1, x_Cal l (x_rm 1 0 0) cX4_isFull RX4 1 z.1 z.2 := fun _ h => absurd h List.not_mem_nil
set_option maxHeartbeats 4000000 in
set_option maxRecDepth 100000 in
theorem c_X4_isFull (l : Launch) : x_CT l yX4_isFull cX4_isFull 1 (some .boolean) 1 q_X4_isFull := by
  refine x_meth (X := X_X4_isFull) (bl := b_X4_isFull) (cut := []) (own := RX4) 30 (by decide) rfl X_X4_isFull_ok b_X4_isFull_ok rfl (Nat.le_of_ble_eq_true rfl) (k_X4_isFull l) ?_
  rintro as S M - ⟨rfl, hpre, rfl⟩
  refine ⟨fun _ _ _ _ _ _ _ _ => False, ?_, ?_⟩
  · skip
    refine xt_blk rfl rfl (by dsimp only [List.take]) ?_
    refine xt_aln0 rfl (by first | decide | omega | assumption) ?_
    refine xt_gfi (q := (2, 4)) rfl (by first | rfl | assumption) rfl ?_
    refine xt_bi ?_
    refine xt_clt (t := 13) rfl (fun hc_6 => ?_) (fun hc_6 => ?_)
    · skip
      refine xt_blk rfl rfl (by dsimp only [List.take]) ?_
      refine xt_ic ?_
      refine xt_nil (t := 14) rfl ?_
      refine xt_blk rfl rfl (by dsimp only [List.take]) ?_
      refine xt_rz (by decide) rfl (Nat.le_refl _) ?_
      obtain ⟨n, hn, hsz⟩ := hpre
      rw [hsz, nI_ltI (by omega) (by omega)] at hc_6
      intro n2 hn2 hsz2 e2
      rw [hsz, nI_eq (by omega) (by omega)] at hsz2
      subst hsz2
      exact ⟨rfl, rfl, by rw [if_neg (by omega)]⟩
    · skip
      refine xt_ic ?_
      refine xt_goto (t := 14) rfl ?_
      refine xt_blk rfl rfl (by dsimp only [List.take]) ?_
      refine xt_rz (by decide) rfl (Nat.le_refl _) ?_
      obtain ⟨n, hn, hsz⟩ := hpre
      rw [hsz, nI_ltI (by omega) (by omega)] at hc_6
      intro n2 hn2 hsz2 e2
      rw [hsz, nI_eq (by omega) (by omega)] at hsz2
      subst hsz2
      exact ⟨rfl, rfl, by rw [if_pos (by omega)]⟩
  · intro μ pc ls st S2 M2 cs sl h; exact h.elim
def q_X4_has : x_K := (2, fun as S M => ∃ (x : Int32), S = SH ∧ (∃ n, n ≤ 30 ∧ M 1 4 = nI n) ∧ as = [.inr (.inl 1), .inl x], fun as S M rv_ S' M' => ∀ (x : Int32), ∀ n, n ≤ 30 → M 1 4 = nI n → as = [.inr (.inl 1), .inl x] → S' = S ∧ M' = M ∧ rv_ = some (.inl (if 0 ≤ x ∧ x < nI n then nI 1 else nI 0)), 0, 0)
theorem r_X4_has : ∀ as S M, q_X4_has.2.1 as S M → ∃ (k : Nat) (as' : List x_V) (fs : List (Option Nat)), as = .inr (.inl k) :: as' ∧ S[k]? = some (.inl (2, fs)) := by
  rintro as S M ⟨x, rfl, hpre, rfl⟩
  exact ⟨1, _, _, rfl, rfl⟩
def b_X4_has : x_B := [(0, 2, [(.iload_n 1, 1), (.ifCond .lt 15, 3), (.iload_n 1, 1), (.aload_n 0, 1), (.getfield 27, 3), (.if_icmp .ge 7, 3), (.iconst 1, 1), (.goto 4, 3)]),
  (16, 2, [(.iconst 0, 1)]),
  (17, 2, [(.ireturn, 1)])]
theorem b_X4_has_ok : x_okB cX4_has 2 b_X4_has = true := by decide +kernel
def X_X4_has : x_X := ([(27, 2, 4)], [], [], [], [], (0, 0), x_kn, x_kf, 5, false)
theorem X_X4_has_ok : x_okT RX4 X_X4_has = true := by decide +kernel
theorem k_X4_has (l : Launch) : ∀ z ∈ X_X4_has.2.2.2.2.1, x_Cal l (x_rm 1 0 0) cX4_has RX4 2 z.1 z.2 := fun _ h => absurd h List.not_mem_nil
set_option maxHeartbeats 4000000 in
set_option maxRecDepth 100000 in
theorem c_X4_has (l : Launch) : x_CT l yX4_has cX4_has 2 (some .boolean) 1 q_X4_has := by
  refine x_meth (X := X_X4_has) (bl := b_X4_has) (cut := []) (own := RX4) 30 (by decide) rfl X_X4_has_ok b_X4_has_ok rfl (Nat.le_of_ble_eq_true rfl) (k_X4_has l) ?_
  rintro as S M - ⟨x, rfl, hpre, rfl⟩
  refine ⟨fun _ _ _ _ _ _ _ _ => False, ?_, ?_⟩
  · skip
    refine xt_blk rfl rfl (by dsimp only [List.take]) ?_
    refine xt_iln1 rfl ?_
    refine xt_lt (t := 16) rfl (fun hc_1 => ?_) (fun hc_1 => ?_)
    · skip
      refine xt_blk rfl rfl (by dsimp only [List.take]) ?_
      refine xt_ic ?_
      refine xt_nil (t := 17) rfl ?_
      refine xt_blk rfl rfl (by dsimp only [List.take]) ?_
      refine xt_rz (by decide) rfl (Nat.le_refl _) ?_
      intro x2 n2 hn2 hsz2 e2
      simp only [List.cons.injEq, Sum.inl.injEq, and_true, true_and] at e2
      subst e2
      rw [← hsz2]
      exact ⟨rfl, rfl, by rw [if_neg (fun q => Int32.not_le.mpr hc_1 q.1)]⟩
    · skip
      refine xt_iln1 rfl ?_
      refine xt_aln0 rfl (by first | decide | omega | assumption) ?_
      refine xt_gfi (q := (2, 4)) rfl (by first | rfl | assumption) rfl ?_
      refine xt_cge (t := 16) rfl (fun hc_9 => ?_) (fun hc_9 => ?_)
      · skip
        refine xt_blk rfl rfl (by dsimp only [List.take]) ?_
        refine xt_ic ?_
        refine xt_nil (t := 17) rfl ?_
        refine xt_blk rfl rfl (by dsimp only [List.take]) ?_
        refine xt_rz (by decide) rfl (Nat.le_refl _) ?_
        intro x2 n2 hn2 hsz2 e2
        simp only [List.cons.injEq, Sum.inl.injEq, and_true, true_and] at e2
        subst e2
        rw [← hsz2]
        exact ⟨rfl, rfl, by rw [if_neg (fun q => Int32.not_lt.mpr hc_9 q.2)]⟩
      · skip
        refine xt_ic ?_
        refine xt_goto (t := 17) rfl ?_
        refine xt_blk rfl rfl (by dsimp only [List.take]) ?_
        refine xt_rz (by decide) rfl (Nat.le_refl _) ?_
        intro x2 n2 hn2 hsz2 e2
        simp only [List.cons.injEq, Sum.inl.injEq, and_true, true_and] at e2
        subst e2
        rw [← hsz2]
        exact ⟨rfl, rfl, by rw [if_pos ⟨Int32.not_lt.mp hc_1, Int32.not_le.mp hc_9⟩]⟩
  · intro μ pc ls st S2 M2 cs sl h; exact h.elim
theorem SHs (w : Nat) (hw : w < 2) : SH[5 + w]? = some (.inr (.inl (false, 30))) := by
  rcases (show w = 0 ∨ w = 1 by omega) with rfl | rfl <;> rfl
theorem sts : ∀ w, w < 2 → ([5, 6] : List Nat).getD w 0 = 5 + w := by decide
def q_X4_setOf : x_K := (3, fun as S M => ∃ (i : Nat) (w : Nat), i < 30 ∧ w < 2 ∧ S = SH ∧ as = [.inr (.inl 1), .inl (nI i), .inl (nI w)], fun as S M rv_ S' M' => ∀ (i : Nat) (w : Nat), i < 30 → w < 2 → as = [.inr (.inl 1), .inl (nI i), .inl (nI w)] → S' = S ∧ M' = M ∧ rv_ = some (.inl (M (5 + w) i)), 0, 0)
theorem r_X4_setOf : ∀ as S M, q_X4_setOf.2.1 as S M → ∃ (k : Nat) (as' : List x_V) (fs : List (Option Nat)), as = .inr (.inl k) :: as' ∧ S[k]? = some (.inl (2, fs)) := by
  rintro as S M ⟨i, w, hi, hw, rfl, rfl⟩
  exact ⟨1, _, _, rfl, rfl⟩
def b_X4_setOf : x_B := [(0, 3, [(.aload_n 0, 1), (.getfield 20, 3), (.iload_n 2, 1), (.aaload, 1), (.iload_n 1, 1), (.iaload, 1), (.ireturn, 1)])]
theorem b_X4_setOf_ok : x_okB cX4_setOf 3 b_X4_setOf = true := by decide +kernel
def X_X4_setOf : x_X := ([(20, 2, 2)], [], [], [], [], (0, 0), x_kn, x_kf, 5, false)
theorem X_X4_setOf_ok : x_okT RX4 X_X4_setOf = true := by decide +kernel
theorem k_X4_setOf (l : Launch) : ∀ z ∈ X_X4_setOf.2.2.2.2.1, x_Cal l (x_rm 1 0 0) cX4_setOf RX4 3 z.1 z.2 := fun _ h => absurd h List.not_mem_nil
set_option maxHeartbeats 4000000 in
set_option maxRecDepth 100000 in
theorem c_X4_setOf (l : Launch) : x_CT l yX4_setOf cX4_setOf 3 (some .int) 1 q_X4_setOf := by
  refine x_meth (X := X_X4_setOf) (bl := b_X4_setOf) (cut := []) (own := RX4) 30 (by decide) rfl X_X4_setOf_ok b_X4_setOf_ok rfl (Nat.le_of_ble_eq_true rfl) (k_X4_setOf l) ?_
  rintro as S M - ⟨i, w, hi, hw, rfl, rfl⟩
  refine ⟨fun _ _ _ _ _ _ _ _ => False, ?_, ?_⟩
  · skip
    refine xt_blk rfl rfl (by dsimp only [List.take]) ?_
    refine xt_aln0 rfl (by first | decide | omega | assumption) ?_
    refine xt_gfr (q := (2, 2)) rfl (by first | rfl | exact SHs w hw) rfl ?_
    refine xt_iln2 rfl ?_
    refine xt_ral (r := 5 + w) rfl (show vp_in _ 2 from vp_in_nI (by omega) (by decide)) (by rw [nI_clamp (by omega)]; exact sts w hw) (by omega) ?_
    refine xt_iln1 rfl ?_
    refine xt_ial (by first | rfl | exact SHs w hw) (show vp_in _ 30 from vp_in_nI (by omega) (by decide)) ?_
    refine xt_ri rfl (Nat.le_refl _) ?_
    intro i2 w2 h2i h2w e2
    simp only [List.cons.injEq, Sum.inl.injEq, Sum.inr.injEq, and_true, true_and] at e2
    obtain ⟨e2i, e2w⟩ := e2
    rw [nI_eq (by omega) (by omega)] at e2i
    subst e2i
    rw [nI_eq (by omega) (by omega)] at e2w
    subst e2w
    exact ⟨rfl, rfl, by rw [nI_clamp (by omega)]⟩
  · intro μ pc ls st S2 M2 cs sl h; exact h.elim
def tbf (t : Nat → Int32) : Nat → Nat
  | 0 => 0
  | i + 1 => if t i = 0 then tbf t i else tbf t i ||| 2 ^ i
theorem tbf_lt (t : Nat → Int32) : ∀ i, tbf t i < 2 ^ i
  | 0 => by simp [tbf]
  | i + 1 => by
    have h := tbf_lt t i
    have h2 : 2 ^ i < 2 ^ (i + 1) := Nat.pow_lt_pow_right (by decide) (by omega)
    unfold tbf
    split
    · omega
    · exact Nat.or_lt_two_pow (by omega) h2
def q_X4_toldBits : x_K := (1, fun as S M => S = SH ∧ (∃ n, n ≤ 30 ∧ M 1 4 = nI n) ∧ as = [.inr (.inl 1)], fun as S M rv_ S' M' => ∀ n, n ≤ 30 → M 1 4 = nI n → as = [.inr (.inl 1)] → S' = S ∧ M' = M ∧ rv_ = some (.inl (nI (tbf (M 7) n))), 0, 0)
theorem r_X4_toldBits : ∀ as S M, q_X4_toldBits.2.1 as S M → ∃ (k : Nat) (as' : List x_V) (fs : List (Option Nat)), as = .inr (.inl k) :: as' ∧ S[k]? = some (.inl (2, fs)) := by
  rintro as S M ⟨rfl, hpre, rfl⟩
  exact ⟨1, _, _, rfl, rfl⟩
def b_X4_toldBits : x_B := [(0, 1, [(.iconst 0, 1), (.istore_n 1, 1), (.iconst 0, 1), (.istore_n 2, 1)]),
  (4, 3, [(.iload_n 2, 1), (.aload_n 0, 1), (.getfield 27, 3), (.if_icmp .ge 24, 3), (.aload_n 0, 1), (.getfield 23, 3), (.iload_n 2, 1), (.baload, 1), (.ifCond .eq 9, 3), (.iload_n 1, 1), (.iconst 1, 1), (.iload_n 2, 1), (.ishl, 1), (.ior, 1), (.istore_n 1, 1)]),
  (27, 3, [(.iinc 2 1, 3), (.goto (-26), 3)]),
  (33, 3, [(.iload_n 1, 1), (.ireturn, 1)])]
theorem b_X4_toldBits_ok : x_okB cX4_toldBits 3 b_X4_toldBits = true := by decide +kernel
def X_X4_toldBits : x_X := ([(27, 2, 4), (23, 2, 3)], [], [], [], [], (0, 0), x_kn, x_kf, 5, false)
theorem X_X4_toldBits_ok : x_okT RX4 X_X4_toldBits = true := by decide +kernel
theorem k_X4_toldBits (l : Launch) : ∀ z ∈ X_X4_toldBits.2.2.2.2.1, x_Cal l (x_rm 1 0 0) cX4_toldBits RX4 3 z.1 z.2 := fun _ h => absurd h List.not_mem_nil
set_option maxHeartbeats 4000000 in
set_option maxRecDepth 100000 in
theorem c_X4_toldBits (l : Launch) : x_CT l yX4_toldBits cX4_toldBits 3 (some .int) 1 q_X4_toldBits := by
  refine x_meth (X := X_X4_toldBits) (bl := b_X4_toldBits) (cut := [4]) (own := RX4) 30 (by decide) rfl X_X4_toldBits_ok b_X4_toldBits_ok rfl (Nat.le_of_ble_eq_true rfl) (k_X4_toldBits l) ?_
  rintro as S M - ⟨rfl, hpre, rfl⟩
  refine ⟨fun μ pc ls st S' M' cs sl => ∃ n i, n ≤ 30 ∧ M 1 4 = nI n ∧ i ≤ n ∧ pc = 4 ∧ st = [] ∧ S' = SH ∧ M' = M ∧ cs = 0 ∧ sl = 0 ∧ ls = [.inr (.inl 1), .inl (nI (tbf (M 7) i)), .inl (nI i)] ∧ μ = n - i, ?_, ?_⟩
  · skip
    refine xt_blk rfl rfl (by dsimp only [List.take]) ?_
    refine xt_ic ?_
    refine xt_isn1 rfl (by dsimp only [x_sto]) ?_
    refine xt_ic ?_
    refine xt_isn2 rfl (by dsimp only [x_sto]) ?_
    refine xt_nil (t := 4) rfl ?_
    refine xt_cut rfl rfl (by dsimp only [List.take]) ?_
    obtain ⟨n, hn, hsz⟩ := hpre
    exact ⟨n, n, 0, hn, hsz, by omega, rfl, rfl, rfl, rfl, rfl, rfl, rfl, rfl⟩
  · rintro μ pc ls st S2 M2 cs sl (⟨n, i, hn, hsz, hi, rfl, rfl, rfl, rfl, rfl, rfl, rfl, rfl⟩)
    · refine ⟨_, rfl, ?_⟩
      refine xt_iln2 rfl ?_
      refine xt_aln0 rfl (by first | decide | omega | assumption) ?_
      refine xt_gfi (q := (2, 4)) rfl (by first | rfl | assumption) rfl ?_
      refine xt_cge (t := 33) rfl (fun hc_9 => ?_) (fun hc_9 => ?_)
      · skip
        refine xt_blk rfl rfl (by dsimp only [List.take]) ?_
        refine xt_iln1 rfl ?_
        refine xt_ri rfl (Nat.le_refl _) ?_
        have h30 : i = n := by rw [hsz, nI_leI (by omega) (by omega)] at hc_9; omega
        subst h30
        intro n2 hn2 hsz2 e2
        rw [hsz, nI_eq (by omega) (by omega)] at hsz2
        subst hsz2
        exact ⟨rfl, rfl, rfl⟩
      · skip
        refine xt_aln0 rfl (by first | decide | omega | assumption) ?_
        refine xt_gfr (q := (2, 3)) rfl (by first | rfl | assumption) rfl ?_
        refine xt_iln2 rfl ?_
        refine xt_bal (by first | rfl | assumption) (show vp_in _ 30 from vp_in_nI (by rw [hsz, nI_leI (by omega) (by omega)] at hc_9; omega) (by decide)) ?_
        refine xt_eq (t := 27) rfl (fun hc_18 => ?_) (fun hc_18 => ?_)
        · skip
          refine xt_blk rfl rfl (by dsimp only [List.take]) ?_
          refine xt_inc rfl (by dsimp only [x_sto]) ?_
          refine xt_goto (t := 4) rfl ?_
          refine xt_cut rfl rfl (by dsimp only [List.take]) ?_
          have hlt : i < n := by rw [hsz, nI_leI (by omega) (by omega)] at hc_9; omega
          have hp1 : 2 ^ i < 2 ^ 31 := Nat.pow_lt_pow_right (by decide) (by omega)
          rw [nI_clamp (by omega)] at hc_18
          exact ⟨n - (i + 1), by omega, n, i + 1, hn, hsz, by omega, rfl, rfl, rfl, rfl, rfl, rfl, by rw [nI_add]; simp only [tbf]; rw [if_pos hc_18], rfl⟩
        · skip
          refine xt_iln1 rfl ?_
          refine xt_ic ?_
          refine xt_iln2 rfl ?_
          refine xt_shl ?_
          refine xt_or ?_
          refine xt_isn1 rfl (by dsimp only [x_sto]) ?_
          refine xt_nil (t := 27) rfl ?_
          refine xt_blk rfl rfl (by dsimp only [List.take]) ?_
          refine xt_inc rfl (by dsimp only [x_sto]) ?_
          refine xt_goto (t := 4) rfl ?_
          refine xt_cut rfl rfl (by dsimp only [List.take]) ?_
          have hlt : i < n := by rw [hsz, nI_leI (by omega) (by omega)] at hc_9; omega
          have hp1 : 2 ^ i < 2 ^ 31 := Nat.pow_lt_pow_right (by decide) (by omega)
          rw [nI_clamp (by omega)] at hc_18
          exact ⟨n - (i + 1), by omega, n, i + 1, hn, hsz, by omega, rfl, rfl, rfl, rfl, rfl, rfl, by rw [n_shl (by omega) (by omega), Nat.one_mul, n_or, nI_add]; simp only [tbf]; rw [if_neg hc_18], rfl⟩
def mAdd (M : x_M) (n : Nat) (a b o u : Int32) : x_M := fun k => if k = 1 then upd (upd (M 1) 4 (nI (n + 1))) 5 (M 1 5 + nI 1) else if k = 7 then upd (M 7) n (nI 1) else if k = 6 then upd (M 6) n u else if k = 5 then upd (M 5) n o else if k = 3 then upd (M 3) n b else if k = 2 then upd (M 2) n a else M k
def q_X4_add : x_K := (5, fun as S M => ∃ (a : Int32) (b : Int32) (o : Int32) (u : Int32), S = SH ∧ (∃ n, n < 30 ∧ M 1 4 = nI n) ∧ as = [.inr (.inl 1), .inl a, .inl b, .inl o, .inl u], fun as S M rv_ S' M' => ∀ (a : Int32) (b : Int32) (o : Int32) (u : Int32), ∀ n, n < 30 → M 1 4 = nI n → as = [.inr (.inl 1), .inl a, .inl b, .inl o, .inl u] → S' = S ∧ M' = mAdd M n a b o u ∧ rv_ = some (.inl (nI n)), 0, 0)
theorem r_X4_add : ∀ as S M, q_X4_add.2.1 as S M → ∃ (k : Nat) (as' : List x_V) (fs : List (Option Nat)), as = .inr (.inl k) :: as' ∧ S[k]? = some (.inl (2, fs)) := by
  rintro as S M ⟨a, b, o, u, rfl, hpre, rfl⟩
  exact ⟨1, _, _, rfl, rfl⟩
def b_X4_add : x_B := [(0, 5, [(.aload_n 0, 1), (.invokevirtual 34, 3), (.ifCond .eq 6, 3), (.bipush (-6), 2), (.ireturn, 1)]),
  (10, 5, [(.aload_n 0, 1), (.getfield 27, 3), (.istore 5, 2), (.aload_n 0, 1), (.getfield 9, 3), (.iload 5, 2), (.iload_n 1, 1), (.iastore, 1), (.aload_n 0, 1), (.getfield 15, 3), (.iload 5, 2), (.iload_n 2, 1), (.iastore, 1), (.aload_n 0, 1), (.getfield 20, 3), (.iconst 0, 1), (.aaload, 1), (.iload 5, 2), (.iload_n 3, 1), (.iastore, 1), (.aload_n 0, 1), (.getfield 20, 3), (.iconst 1, 1), (.aaload, 1), (.iload 5, 2), (.iload 4, 2), (.iastore, 1), (.aload_n 0, 1), (.getfield 23, 3), (.iload 5, 2), (.iconst 1, 1), (.bastore, 1), (.aload_n 0, 1), (.dup, 1), (.getfield 27, 3), (.iconst 1, 1), (.iadd, 1), (.putfield 27, 3), (.aload_n 0, 1), (.dup, 1), (.getfield 31, 3), (.iconst 1, 1), (.iadd, 1), (.putfield 31, 3), (.iload 5, 2), (.ireturn, 1)])]
theorem b_X4_add_ok : x_okB cX4_add 6 b_X4_add = true := by decide +kernel
def X_X4_add : x_X := ([(27, 2, 4), (9, 2, 0), (15, 2, 1), (20, 2, 2), (23, 2, 3), (31, 2, 5)], [], [], [], [(103, q_X4_isFull)], (0, 0), x_kn, x_kf, 5, false)
theorem X_X4_add_ok : x_okT RX4 X_X4_add = true := by decide +kernel
theorem k_X4_add (l : Launch) : ∀ z ∈ X_X4_add.2.2.2.2.1, x_Cal l (x_rm 2 0 0) cX4_add RX4 6 z.1 z.2 := List.forall_mem_cons.mpr ⟨x_cal_V (idx := 34) (ci := 2) (n := 0) (c_X4_isFull l) ⟨by decide, by decide⟩ (by decide +kernel) (by decide +kernel) (by decide +kernel) (by decide +kernel) (by decide +kernel) rfl rfl rfl (by decide +kernel) r_X4_isFull, fun _ h => absurd h List.not_mem_nil⟩
set_option maxHeartbeats 4000000 in
set_option maxRecDepth 100000 in
theorem c_X4_add (l : Launch) : x_CT l yX4_add cX4_add 6 (some .int) 2 q_X4_add := by
  refine x_meth (X := X_X4_add) (bl := b_X4_add) (cut := []) (own := RX4) 30 (by decide) rfl X_X4_add_ok b_X4_add_ok rfl (Nat.le_of_ble_eq_true rfl) (k_X4_add l) ?_
  rintro as S M - ⟨a, b, o, u, rfl, hpre, rfl⟩
  refine ⟨fun _ _ _ _ _ _ _ _ => False, ?_, ?_⟩
  · skip
    refine xt_blk rfl rfl (by dsimp only [List.take]) ?_
    refine xt_aln0 rfl (by first | decide | omega | assumption) ?_
    refine xt_v1 (key := 103) (q := q_X4_isFull) rfl rfl rfl rfl rfl ⟨Nat.le_of_ble_eq_true rfl, Nat.le_of_ble_eq_true rfl⟩ (by obtain ⟨n, hn, hsz⟩ := hpre; exact ⟨rfl, ⟨n, by omega, hsz⟩, rfl⟩) (fun rv_ S1 M1 hq_1 => ?_)
    obtain ⟨n, hn30, hsz⟩ := hpre
    obtain ⟨eS_, eM_, rfl⟩ := hq_1 n (by omega) hsz rfl
    replace eS_ := eS_.symm
    replace eM_ := eM_.symm
    subst eS_ eM_
    try dsimp only [Option.toList, List.cons_append, List.nil_append]
    refine xt_eq (t := 10) rfl (fun hc_4 => ?_) (fun hc_4 => ?_)
    · skip
      refine xt_blk rfl rfl (by dsimp only [List.take]) ?_
      refine xt_aln0 rfl (by first | decide | omega | assumption) ?_
      refine xt_gfi (q := (2, 4)) rfl (by first | rfl | assumption) rfl ?_
      refine xt_ist rfl (by dsimp only [x_sto]) ?_
      refine xt_aln0 rfl (by first | decide | omega | assumption) ?_
      refine xt_gfr (q := (2, 0)) rfl (by first | rfl | assumption) rfl ?_
      refine xt_ild rfl ?_
      refine xt_iln1 rfl ?_
      refine xt_ias (by first | rfl | assumption) (show vp_in _ 30 from by first | (rw [hsz]; exact vp_in_nI hn30 (by decide)) | (simp only [x_row]; rw [hsz]; exact vp_in_nI hn30 (by decide))) ?_
      refine xt_aln0 rfl (by first | decide | omega | assumption) ?_
      refine xt_gfr (q := (2, 1)) rfl (by first | rfl | assumption) rfl ?_
      refine xt_ild rfl ?_
      refine xt_iln2 rfl ?_
      refine xt_ias (by first | rfl | assumption) (show vp_in _ 30 from by first | (rw [hsz]; exact vp_in_nI hn30 (by decide)) | (simp only [x_row]; rw [hsz]; exact vp_in_nI hn30 (by decide))) ?_
      refine xt_aln0 rfl (by first | decide | omega | assumption) ?_
      refine xt_gfr (q := (2, 2)) rfl (by first | rfl | assumption) rfl ?_
      refine xt_ic ?_
      refine xt_ral (r := 5) rfl (show vp_in _ 2 from vp_in_nI (by decide) (by decide)) rfl (by decide) ?_
      refine xt_ild rfl ?_
      refine xt_iln3 rfl ?_
      refine xt_ias (by first | rfl | assumption) (show vp_in _ 30 from by first | (rw [hsz]; exact vp_in_nI hn30 (by decide)) | (simp only [x_row]; rw [hsz]; exact vp_in_nI hn30 (by decide))) ?_
      refine xt_aln0 rfl (by first | decide | omega | assumption) ?_
      refine xt_gfr (q := (2, 2)) rfl (by first | rfl | assumption) rfl ?_
      refine xt_ic ?_
      refine xt_ral (r := 6) rfl (show vp_in _ 2 from vp_in_nI (by decide) (by decide)) rfl (by decide) ?_
      refine xt_ild rfl ?_
      refine xt_ild rfl ?_
      refine xt_ias (by first | rfl | assumption) (show vp_in _ 30 from by first | (rw [hsz]; exact vp_in_nI hn30 (by decide)) | (simp only [x_row]; rw [hsz]; exact vp_in_nI hn30 (by decide))) ?_
      refine xt_aln0 rfl (by first | decide | omega | assumption) ?_
      refine xt_gfr (q := (2, 3)) rfl (by first | rfl | assumption) rfl ?_
      refine xt_ild rfl ?_
      refine xt_ic ?_
      refine xt_bas (by first | rfl | assumption) (show vp_in _ 30 from by first | (rw [hsz]; exact vp_in_nI hn30 (by decide)) | (simp only [x_row]; rw [hsz]; exact vp_in_nI hn30 (by decide))) (Or.inr rfl) ?_
      refine xt_aln0 rfl (by first | decide | omega | assumption) ?_
      refine xt_dup ?_
      refine xt_gfi (q := (2, 4)) rfl (by first | rfl | assumption) rfl ?_
      refine xt_ic ?_
      refine xt_add ?_
      refine xt_pfi (q := (2, 4)) rfl (by first | rfl | assumption) rfl (by decide) (Or.inl rfl) ?_
      refine xt_aln0 rfl (by first | decide | omega | assumption) ?_
      refine xt_dup ?_
      refine xt_gfi (q := (2, 5)) rfl (by first | rfl | assumption) rfl ?_
      refine xt_ic ?_
      refine xt_add ?_
      refine xt_pfi (q := (2, 5)) rfl (by first | rfl | assumption) rfl (by decide) (Or.inl rfl) ?_
      refine xt_ild rfl ?_
      refine xt_ri rfl (Nat.le_refl _) ?_
      intro a2 b2 o2 u2 n2 hn2 hsz2 e2
      simp only [List.cons.injEq, Sum.inl.injEq, and_true, true_and] at e2
      obtain ⟨rfl, rfl, rfl, rfl⟩ := e2
      rw [hsz, nI_eq (by omega) (by omega)] at hsz2
      subst hsz2
      refine ⟨rfl, ?_, by rw [hsz]⟩
      funext k
      simp only [mAdd, x_row, hsz, nI_clamp (show n < 2 ^ 31 by omega)]
      by_cases k1 : k = 1
      · subst k1; simp [upd, hsz, nI_add]
      · by_cases k7 : k = 7
        · subst k7; simp
        · by_cases k6 : k = 6
          · subst k6; simp
          · by_cases k5 : k = 5
            · subst k5; simp
            · by_cases k3 : k = 3
              · subst k3; simp
              · by_cases k2 : k = 2
                · subst k2; simp
                · simp [k1, k7, k6, k5, k3, k2]
    · skip
      refine xt_bim rfl ?_
      refine xt_ri rfl (Nat.le_refl _) ?_
      exact absurd (by rw [if_neg (by omega)]; rfl) hc_4
  · intro μ pc ls st S2 M2 cs sl h; exact h.elim
