/-! THE REFERENCE: early, relation -/
def erI (a z b y : Int32) : Int32 := if z < b then nI 0 else if z = b then nI 1 else if a < b ∧ z < y then nI 2 else if a = b ∧ z < y then nI 3 else if b < a ∧ z < y then nI 4 else if b < a ∧ z = y then nI 5 else if a = b ∧ z = y then nI 6 else -(nI 1)
theorem sg1 {x y : Int32} : x < y ↔ sgI x y = 1 := by
  unfold sgI
  constructor
  · intro h; rw [if_pos h]
  · intro h
    by_cases q : x < y
    · exact q
    · rw [if_neg q] at h
      split at h <;> omega
theorem sg2 {x y : Int32} : x = y ↔ sgI x y = 2 := by
  unfold sgI
  constructor
  · intro h; subst h; rw [if_neg (fun q => Int32.lt_irrefl q), if_pos rfl]
  · intro h
    by_cases q : x < y
    · rw [if_pos q] at h; omega
    · rw [if_neg q] at h
      by_cases q2 : x = y
      · exact q2
      · rw [if_neg q2] at h; omega
theorem sg4 {x y : Int32} : y < x ↔ sgI x y = 4 := by
  constructor
  · intro h
    unfold sgI
    rw [if_neg (fun q => Int32.lt_asymm h q), if_neg (fun q => by subst q; exact Int32.lt_irrefl h)]
  · intro h
    have h1 : ¬ x < y := fun q => by rw [sg1] at q; omega
    have h2 : ¬ x = y := fun q => by rw [sg2] at q; omega
    rcases Int32.lt_or_eq_of_le (Int32.not_lt.mp h1) with q | q
    · exact q
    · exact absurd q.symm h2
theorem sg3 (x y : Int32) : sgI x y = 1 ∨ sgI x y = 2 ∨ sgI x y = 4 := by
  unfold sgI; split
  · exact Or.inl rfl
  · split
    · exact Or.inr (Or.inl rfl)
    · exact Or.inr (Or.inr rfl)
def erS (p r s : Nat) : Int32 := if r = 1 then nI 0 else if r = 2 then nI 1 else if p = 1 ∧ s = 1 then nI 2 else if p = 2 ∧ s = 1 then nI 3 else if p = 4 ∧ s = 1 then nI 4 else if p = 4 ∧ s = 2 then nI 5 else if p = 2 ∧ s = 2 then nI 6 else -(nI 1)
theorem erI_S (a z b y : Int32) : erI a z b y = erS (sgI a b) (sgI z b) (sgI z y) := by
  unfold erI erS
  simp only [sg1 (x := z) (y := b), sg2 (x := z) (y := b), sg1 (x := a) (y := b), sg2 (x := a) (y := b), sg4 (x := a) (y := b), sg1 (x := z) (y := y), sg2 (x := z) (y := y)]
theorem sgI_c (x y : Int32) : sgI y x = (if sgI x y = 1 then 4 else if sgI x y = 2 then 2 else 1) := by
  rcases sg3 x y with h | h | h
  · rw [h, if_pos rfl]; exact sg4.mp (sg1.mpr h)
  · rw [h, if_neg (by decide), if_pos rfl]; exact sg2.mp (sg2.mpr h).symm
  · rw [h, if_neg (by decide), if_neg (by decide)]; exact sg1.mp (sg4.mpr h)
def flp (x : Nat) : Nat := if x = 1 then 4 else if x = 2 then 2 else 1
def rlS (p q r s : Nat) : Int32 := if q = 2 ∨ q = 4 then (if q = 4 then nI 12 else nI 11) else if 0 ≤ erS p r s then erS p r s else nI 12 - erS (flp p) (flp q) (flp s)
theorem rlS_ok (p q r s : Nat) (hp : p = 1 ∨ p = 2 ∨ p = 4) (hq : q = 1 ∨ q = 2 ∨ q = 4) (hr : r = 1 ∨ r = 2 ∨ r = 4) (hs : s = 1 ∨ s = 2 ∨ s = 4) (c1 : (p = 1 ∨ p = 2) → q = 1) (c2 : (q = 2 ∨ q = 4) → p = 4 ∧ s = 4 ∧ r = 4) (c3 : (r = 1 ∨ r = 2) → p = 1 ∧ q = 1 ∧ s = 1) (c4 : (s = 2 ∨ s = 4) → r = 4) (c5 : (p = 2 ∨ p = 4) → r = 4) :
    rlS p q r s = nI (bwf ((p * 4096 ||| q * 256) ||| r * 16 ||| s) 13) := by
  rcases hp with rfl | rfl | rfl <;> rcases hq with rfl | rfl | rfl <;> rcases hr with rfl | rfl | rfl <;> rcases hs with rfl | rfl | rfl <;> first | decide | (exact absurd (c1 (by decide)) (by decide)) | (exact absurd (c2 (by decide)) (by decide)) | (exact absurd (c3 (by decide)) (by decide)) | (exact absurd (c4 (by decide)) (by decide)) | (exact absurd (c5 (by decide)) (by decide))
theorem rl_ok {a z b y : Int32} (h1 : a < z) (h2 : b < y) : rlS (sgI a b) (sgI a y) (sgI z b) (sgI z y) = nI (bw a z b y) := by
  unfold bw sgs
  have g1 := Int32.lt_iff_toInt_lt.mp h1
  have g2 := Int32.lt_iff_toInt_lt.mp h2
  have T : ∀ x y : Int32, (sgI x y = 1 ∧ x.toInt < y.toInt) ∨ (sgI x y = 2 ∧ x.toInt = y.toInt) ∨ (sgI x y = 4 ∧ y.toInt < x.toInt) := fun x y => by
    rcases sg3 x y with h | h | h
    · exact Or.inl ⟨h, Int32.lt_iff_toInt_lt.mp (sg1.mpr h)⟩
    · exact Or.inr (Or.inl ⟨h, by rw [sg2.mpr h]⟩)
    · exact Or.inr (Or.inr ⟨h, Int32.lt_iff_toInt_lt.mp (sg4.mpr h)⟩)
  have t1 := T a b
  have t2 := T a y
  have t3 := T z b
  have t4 := T z y
  apply rlS_ok _ _ _ _ (sg3 a b) (sg3 a y) (sg3 z b) (sg3 z y) <;> omega
theorem sgI_nI {x y : Nat} (hx : x < 2 ^ 31) (hy : y < 2 ^ 31) : sgI (nI x) (nI y) = sgN x y := by
  unfold sgI sgN
  by_cases h : x < y
  · rw [if_pos h, if_pos ((nI_ltI hx hy).mpr h)]
  · rw [if_neg h, if_neg (fun q => h ((nI_ltI hx hy).mp q))]
    by_cases h2 : x = y
    · rw [if_pos h2, if_pos (by rw [h2])]
    · rw [if_neg h2, if_neg (fun q => h2 ((nI_eq hx hy).mp q))]
theorem bw_nI {a z b y : Nat} (h1 : a < 2 ^ 31) (h2 : z < 2 ^ 31) (h3 : b < 2 ^ 31) (h4 : y < 2 ^ 31) : bw (nI a) (nI z) (nI b) (nI y) = rN a z b y := by
  unfold bw sgs rN
  rw [sgI_nI h1 h3, sgI_nI h1 h4, sgI_nI h2 h3, sgI_nI h2 h4]
def q_X7_early : x_K := (4, fun as S M => ∃ (a : Int32) (z : Int32) (b : Int32) (y : Int32), as = [.inl a, .inl z, .inl b, .inl y], fun as S M rv_ S' M' => ∀ (a : Int32) (z : Int32) (b : Int32) (y : Int32), as = [.inl a, .inl z, .inl b, .inl y] → S' = S ∧ M' = M ∧ rv_ = some (.inl (erI a z b y)), 0, 0)
def b_X7_early : x_B := [(0, 4, [(.iload_n 1, 1), (.iload_n 2, 1), (.if_icmp .ge 5, 3), (.iconst 0, 1), (.ireturn, 1)]),
  (7, 4, [(.iload_n 1, 1), (.iload_n 2, 1), (.if_icmp .ne 5, 3), (.iconst 1, 1), (.ireturn, 1)]),
  (14, 4, [(.iload_n 0, 1), (.iload_n 2, 1), (.if_icmp .ge 10, 3), (.iload_n 1, 1), (.iload_n 3, 1), (.if_icmp .ge 5, 3), (.iconst 2, 1), (.ireturn, 1)]),
  (26, 4, [(.iload_n 0, 1), (.iload_n 2, 1), (.if_icmp .ne 10, 3), (.iload_n 1, 1), (.iload_n 3, 1), (.if_icmp .ge 5, 3), (.iconst 3, 1), (.ireturn, 1)]),
  (38, 4, [(.iload_n 0, 1), (.iload_n 2, 1), (.if_icmp .le 10, 3), (.iload_n 1, 1), (.iload_n 3, 1), (.if_icmp .ge 5, 3), (.iconst 4, 1), (.ireturn, 1)]),
  (50, 4, [(.iload_n 0, 1), (.iload_n 2, 1), (.if_icmp .le 10, 3), (.iload_n 1, 1), (.iload_n 3, 1), (.if_icmp .ne 5, 3), (.iconst 5, 1), (.ireturn, 1)]),
  (62, 4, [(.iload_n 0, 1), (.iload_n 2, 1), (.if_icmp .ne 13, 3), (.iload_n 1, 1), (.iload_n 3, 1), (.if_icmp .ne 8, 3), (.bipush 6, 2), (.goto 4, 3)]),
  (77, 4, [(.iconst (-1), 1)]),
  (78, 4, [(.ireturn, 1)])]
theorem b_X7_early_ok : x_okB cX7_early 4 b_X7_early = true := by decide +kernel
def X_X7_early : x_X := ([], [], [], [], [], (0, 0), x_kn, x_kf, 5, false)
theorem X_X7_early_ok : x_okT RX7 X_X7_early = true := by decide +kernel
theorem k_X7_early (l : Launch) : ∀ z ∈ X_X7_early.2.2.2.2.1, x_Cal l (x_rm 1 0 0) cX7_early RX7 4 z.1 z.2 := fun _ h => absurd h List.not_mem_nil
set_option maxHeartbeats 4000000 in
set_option maxRecDepth 100000 in
theorem c_X7_early (l : Launch) : x_CT l yX7_early cX7_early 4 (some .int) 1 q_X7_early := by
  refine x_meth (X := X_X7_early) (bl := b_X7_early) (cut := []) (own := RX7) 30 (by decide) rfl X_X7_early_ok b_X7_early_ok rfl (Nat.le_of_ble_eq_true rfl) (k_X7_early l) ?_
  rintro as S M - ⟨a, z, b, y, rfl⟩
  refine ⟨fun _ _ _ _ _ _ _ _ => False, ?_, ?_⟩
  · skip
    refine xt_blk rfl rfl (by dsimp only [List.take]) ?_
    refine xt_iln1 rfl ?_
    refine xt_iln2 rfl ?_
    refine xt_cge (t := 7) rfl (fun hc_2 => ?_) (fun hc_2 => ?_)
    · skip
      refine xt_blk rfl rfl (by dsimp only [List.take]) ?_
      refine xt_iln1 rfl ?_
      refine xt_iln2 rfl ?_
      refine xt_cne (t := 14) rfl (fun hc_9 => ?_) (fun hc_9 => ?_)
      · skip
        refine xt_blk rfl rfl (by dsimp only [List.take]) ?_
        refine xt_iln0 rfl ?_
        refine xt_iln2 rfl ?_
        refine xt_cge (t := 26) rfl (fun hc_16 => ?_) (fun hc_16 => ?_)
        · skip
          refine xt_blk rfl rfl (by dsimp only [List.take]) ?_
          refine xt_iln0 rfl ?_
          refine xt_iln2 rfl ?_
          refine xt_cne (t := 38) rfl (fun hc_28 => ?_) (fun hc_28 => ?_)
          · skip
            refine xt_blk rfl rfl (by dsimp only [List.take]) ?_
            refine xt_iln0 rfl ?_
            refine xt_iln2 rfl ?_
            refine xt_cle (t := 50) rfl (fun hc_40 => ?_) (fun hc_40 => ?_)
            · skip
              refine xt_blk rfl rfl (by dsimp only [List.take]) ?_
              refine xt_iln0 rfl ?_
              refine xt_iln2 rfl ?_
              refine xt_cle (t := 62) rfl (fun hc_52 => ?_) (fun hc_52 => ?_)
              · skip
                refine xt_blk rfl rfl (by dsimp only [List.take]) ?_
                refine xt_iln0 rfl ?_
                refine xt_iln2 rfl ?_
                refine xt_cne (t := 77) rfl (fun hc_64 => ?_) (fun hc_64 => ?_)
                · skip
                  refine xt_blk rfl rfl (by dsimp only [List.take]) ?_
                  refine xt_icm rfl ?_
                  refine xt_nil (t := 78) rfl ?_
                  refine xt_blk rfl rfl (by dsimp only [List.take]) ?_
                  refine xt_ri rfl (Nat.le_refl _) ?_
                  intro a2 z2 b2 y2 e2
                  simp only [List.cons.injEq, Sum.inl.injEq, and_true] at e2
                  obtain ⟨e2a, e2z, e2b, e2y⟩ := e2
                  subst e2a
                  subst e2z
                  subst e2b
                  subst e2y
                  refine ⟨rfl, rfl, ?_⟩
                  unfold erI
                  try simp only [Int32.not_lt, Int32.not_le] at *
                  repeat' split
                  all_goals first | rfl | (exfalso; simp only [Int32.lt_iff_toInt_lt, Int32.le_iff_toInt_le, ← Int32.toInt_inj] at *; omega)
                · skip
                  refine xt_iln1 rfl ?_
                  refine xt_iln3 rfl ?_
                  refine xt_cne (t := 77) rfl (fun hc_69 => ?_) (fun hc_69 => ?_)
                  · skip
                    refine xt_blk rfl rfl (by dsimp only [List.take]) ?_
                    refine xt_icm rfl ?_
                    refine xt_nil (t := 78) rfl ?_
                    refine xt_blk rfl rfl (by dsimp only [List.take]) ?_
                    refine xt_ri rfl (Nat.le_refl _) ?_
                    intro a2 z2 b2 y2 e2
                    simp only [List.cons.injEq, Sum.inl.injEq, and_true] at e2
                    obtain ⟨e2a, e2z, e2b, e2y⟩ := e2
                    subst e2a
                    subst e2z
                    subst e2b
                    subst e2y
                    refine ⟨rfl, rfl, ?_⟩
                    unfold erI
                    try simp only [Int32.not_lt, Int32.not_le] at *
                    repeat' split
                    all_goals first | rfl | (exfalso; simp only [Int32.lt_iff_toInt_lt, Int32.le_iff_toInt_le, ← Int32.toInt_inj] at *; omega)
                  · skip
                    refine xt_bi ?_
                    refine xt_goto (t := 78) rfl ?_
                    refine xt_blk rfl rfl (by dsimp only [List.take]) ?_
                    refine xt_ri rfl (Nat.le_refl _) ?_
                    intro a2 z2 b2 y2 e2
                    simp only [List.cons.injEq, Sum.inl.injEq, and_true] at e2
                    obtain ⟨e2a, e2z, e2b, e2y⟩ := e2
                    subst e2a
                    subst e2z
                    subst e2b
                    subst e2y
                    refine ⟨rfl, rfl, ?_⟩
                    unfold erI
                    try simp only [Int32.not_lt, Int32.not_le] at *
                    repeat' split
                    all_goals first | rfl | (exfalso; simp only [Int32.lt_iff_toInt_lt, Int32.le_iff_toInt_le, ← Int32.toInt_inj] at *; omega)
              · skip
                refine xt_iln1 rfl ?_
                refine xt_iln3 rfl ?_
                refine xt_cne (t := 62) rfl (fun hc_57 => ?_) (fun hc_57 => ?_)
                · skip
                  refine xt_blk rfl rfl (by dsimp only [List.take]) ?_
                  refine xt_iln0 rfl ?_
                  refine xt_iln2 rfl ?_
                  refine xt_cne (t := 77) rfl (fun hc_64 => ?_) (fun hc_64 => ?_)
                  · skip
                    refine xt_blk rfl rfl (by dsimp only [List.take]) ?_
                    refine xt_icm rfl ?_
                    refine xt_nil (t := 78) rfl ?_
                    refine xt_blk rfl rfl (by dsimp only [List.take]) ?_
                    refine xt_ri rfl (Nat.le_refl _) ?_
                    intro a2 z2 b2 y2 e2
                    simp only [List.cons.injEq, Sum.inl.injEq, and_true] at e2
                    obtain ⟨e2a, e2z, e2b, e2y⟩ := e2
                    subst e2a
                    subst e2z
                    subst e2b
                    subst e2y
                    refine ⟨rfl, rfl, ?_⟩
                    unfold erI
                    try simp only [Int32.not_lt, Int32.not_le] at *
                    repeat' split
                    all_goals first | rfl | (exfalso; simp only [Int32.lt_iff_toInt_lt, Int32.le_iff_toInt_le, ← Int32.toInt_inj] at *; omega)
                  · skip
                    refine xt_iln1 rfl ?_
                    refine xt_iln3 rfl ?_
                    refine xt_cne (t := 77) rfl (fun hc_69 => ?_) (fun hc_69 => ?_)
                    · skip
                      refine xt_blk rfl rfl (by dsimp only [List.take]) ?_
                      refine xt_icm rfl ?_
                      refine xt_nil (t := 78) rfl ?_
                      refine xt_blk rfl rfl (by dsimp only [List.take]) ?_
                      refine xt_ri rfl (Nat.le_refl _) ?_
                      intro a2 z2 b2 y2 e2
                      simp only [List.cons.injEq, Sum.inl.injEq, and_true] at e2
                      obtain ⟨e2a, e2z, e2b, e2y⟩ := e2
                      subst e2a
                      subst e2z
                      subst e2b
                      subst e2y
                      refine ⟨rfl, rfl, ?_⟩
                      unfold erI
                      try simp only [Int32.not_lt, Int32.not_le] at *
                      repeat' split
                      all_goals first | rfl | (exfalso; simp only [Int32.lt_iff_toInt_lt, Int32.le_iff_toInt_le, ← Int32.toInt_inj] at *; omega)
                    · skip
                      refine xt_bi ?_
                      refine xt_goto (t := 78) rfl ?_
                      refine xt_blk rfl rfl (by dsimp only [List.take]) ?_
                      refine xt_ri rfl (Nat.le_refl _) ?_
                      intro a2 z2 b2 y2 e2
                      simp only [List.cons.injEq, Sum.inl.injEq, and_true] at e2
                      obtain ⟨e2a, e2z, e2b, e2y⟩ := e2
                      subst e2a
                      subst e2z
                      subst e2b
                      subst e2y
                      refine ⟨rfl, rfl, ?_⟩
                      unfold erI
                      try simp only [Int32.not_lt, Int32.not_le] at *
                      repeat' split
                      all_goals first | rfl | (exfalso; simp only [Int32.lt_iff_toInt_lt, Int32.le_iff_toInt_le, ← Int32.toInt_inj] at *; omega)
                · skip
                  refine xt_ic ?_
                  refine xt_ri rfl (Nat.le_refl _) ?_
                  intro a2 z2 b2 y2 e2
                  simp only [List.cons.injEq, Sum.inl.injEq, and_true] at e2
                  obtain ⟨e2a, e2z, e2b, e2y⟩ := e2
                  subst e2a
                  subst e2z
                  subst e2b
                  subst e2y
                  refine ⟨rfl, rfl, ?_⟩
                  unfold erI
                  try simp only [Int32.not_lt, Int32.not_le] at *
                  repeat' split
                  all_goals first | rfl | (exfalso; simp only [Int32.lt_iff_toInt_lt, Int32.le_iff_toInt_le, ← Int32.toInt_inj] at *; omega)
            · skip
              refine xt_iln1 rfl ?_
              refine xt_iln3 rfl ?_
              refine xt_cge (t := 50) rfl (fun hc_45 => ?_) (fun hc_45 => ?_)
              · skip
                refine xt_blk rfl rfl (by dsimp only [List.take]) ?_
                refine xt_iln0 rfl ?_
                refine xt_iln2 rfl ?_
                refine xt_cle (t := 62) rfl (fun hc_52 => ?_) (fun hc_52 => ?_)
                · skip
                  refine xt_blk rfl rfl (by dsimp only [List.take]) ?_
                  refine xt_iln0 rfl ?_
                  refine xt_iln2 rfl ?_
                  refine xt_cne (t := 77) rfl (fun hc_64 => ?_) (fun hc_64 => ?_)
                  · skip
                    refine xt_blk rfl rfl (by dsimp only [List.take]) ?_
                    refine xt_icm rfl ?_
                    refine xt_nil (t := 78) rfl ?_
                    refine xt_blk rfl rfl (by dsimp only [List.take]) ?_
                    refine xt_ri rfl (Nat.le_refl _) ?_
                    intro a2 z2 b2 y2 e2
                    simp only [List.cons.injEq, Sum.inl.injEq, and_true] at e2
                    obtain ⟨e2a, e2z, e2b, e2y⟩ := e2
                    subst e2a
                    subst e2z
                    subst e2b
                    subst e2y
                    refine ⟨rfl, rfl, ?_⟩
                    unfold erI
                    try simp only [Int32.not_lt, Int32.not_le] at *
                    repeat' split
                    all_goals first | rfl | (exfalso; simp only [Int32.lt_iff_toInt_lt, Int32.le_iff_toInt_le, ← Int32.toInt_inj] at *; omega)
                  · skip
                    refine xt_iln1 rfl ?_
                    refine xt_iln3 rfl ?_
                    refine xt_cne (t := 77) rfl (fun hc_69 => ?_) (fun hc_69 => ?_)
                    · skip
                      refine xt_blk rfl rfl (by dsimp only [List.take]) ?_
                      refine xt_icm rfl ?_
                      refine xt_nil (t := 78) rfl ?_
                      refine xt_blk rfl rfl (by dsimp only [List.take]) ?_
                      refine xt_ri rfl (Nat.le_refl _) ?_
                      intro a2 z2 b2 y2 e2
                      simp only [List.cons.injEq, Sum.inl.injEq, and_true] at e2
                      obtain ⟨e2a, e2z, e2b, e2y⟩ := e2
                      subst e2a
                      subst e2z
                      subst e2b
                      subst e2y
                      refine ⟨rfl, rfl, ?_⟩
                      unfold erI
                      try simp only [Int32.not_lt, Int32.not_le] at *
                      repeat' split
                      all_goals first | rfl | (exfalso; simp only [Int32.lt_iff_toInt_lt, Int32.le_iff_toInt_le, ← Int32.toInt_inj] at *; omega)
                    · skip
                      refine xt_bi ?_
                      refine xt_goto (t := 78) rfl ?_
                      refine xt_blk rfl rfl (by dsimp only [List.take]) ?_
                      refine xt_ri rfl (Nat.le_refl _) ?_
                      intro a2 z2 b2 y2 e2
                      simp only [List.cons.injEq, Sum.inl.injEq, and_true] at e2
                      obtain ⟨e2a, e2z, e2b, e2y⟩ := e2
                      subst e2a
                      subst e2z
                      subst e2b
                      subst e2y
                      refine ⟨rfl, rfl, ?_⟩
                      unfold erI
                      try simp only [Int32.not_lt, Int32.not_le] at *
                      repeat' split
                      all_goals first | rfl | (exfalso; simp only [Int32.lt_iff_toInt_lt, Int32.le_iff_toInt_le, ← Int32.toInt_inj] at *; omega)
                · skip
                  refine xt_iln1 rfl ?_
                  refine xt_iln3 rfl ?_
                  refine xt_cne (t := 62) rfl (fun hc_57 => ?_) (fun hc_57 => ?_)
                  · skip
                    refine xt_blk rfl rfl (by dsimp only [List.take]) ?_
                    refine xt_iln0 rfl ?_
                    refine xt_iln2 rfl ?_
                    refine xt_cne (t := 77) rfl (fun hc_64 => ?_) (fun hc_64 => ?_)
                    · skip
                      refine xt_blk rfl rfl (by dsimp only [List.take]) ?_
                      refine xt_icm rfl ?_
                      refine xt_nil (t := 78) rfl ?_
                      refine xt_blk rfl rfl (by dsimp only [List.take]) ?_
                      refine xt_ri rfl (Nat.le_refl _) ?_
                      intro a2 z2 b2 y2 e2
                      simp only [List.cons.injEq, Sum.inl.injEq, and_true] at e2
                      obtain ⟨e2a, e2z, e2b, e2y⟩ := e2
                      subst e2a
                      subst e2z
                      subst e2b
                      subst e2y
                      refine ⟨rfl, rfl, ?_⟩
                      unfold erI
                      try simp only [Int32.not_lt, Int32.not_le] at *
                      repeat' split
                      all_goals first | rfl | (exfalso; simp only [Int32.lt_iff_toInt_lt, Int32.le_iff_toInt_le, ← Int32.toInt_inj] at *; omega)
                    · skip
                      refine xt_iln1 rfl ?_
                      refine xt_iln3 rfl ?_
                      refine xt_cne (t := 77) rfl (fun hc_69 => ?_) (fun hc_69 => ?_)
                      · skip
                        refine xt_blk rfl rfl (by dsimp only [List.take]) ?_
                        refine xt_icm rfl ?_
                        refine xt_nil (t := 78) rfl ?_
                        refine xt_blk rfl rfl (by dsimp only [List.take]) ?_
                        refine xt_ri rfl (Nat.le_refl _) ?_
                        intro a2 z2 b2 y2 e2
                        simp only [List.cons.injEq, Sum.inl.injEq, and_true] at e2
                        obtain ⟨e2a, e2z, e2b, e2y⟩ := e2
                        subst e2a
                        subst e2z
                        subst e2b
                        subst e2y
                        refine ⟨rfl, rfl, ?_⟩
                        unfold erI
                        try simp only [Int32.not_lt, Int32.not_le] at *
                        repeat' split
                        all_goals first | rfl | (exfalso; simp only [Int32.lt_iff_toInt_lt, Int32.le_iff_toInt_le, ← Int32.toInt_inj] at *; omega)
                      · skip
                        refine xt_bi ?_
                        refine xt_goto (t := 78) rfl ?_
                        refine xt_blk rfl rfl (by dsimp only [List.take]) ?_
                        refine xt_ri rfl (Nat.le_refl _) ?_
                        intro a2 z2 b2 y2 e2
                        simp only [List.cons.injEq, Sum.inl.injEq, and_true] at e2
                        obtain ⟨e2a, e2z, e2b, e2y⟩ := e2
                        subst e2a
                        subst e2z
                        subst e2b
                        subst e2y
                        refine ⟨rfl, rfl, ?_⟩
                        unfold erI
                        try simp only [Int32.not_lt, Int32.not_le] at *
                        repeat' split
                        all_goals first | rfl | (exfalso; simp only [Int32.lt_iff_toInt_lt, Int32.le_iff_toInt_le, ← Int32.toInt_inj] at *; omega)
                  · skip
                    refine xt_ic ?_
                    refine xt_ri rfl (Nat.le_refl _) ?_
                    intro a2 z2 b2 y2 e2
                    simp only [List.cons.injEq, Sum.inl.injEq, and_true] at e2
                    obtain ⟨e2a, e2z, e2b, e2y⟩ := e2
                    subst e2a
                    subst e2z
                    subst e2b
                    subst e2y
                    refine ⟨rfl, rfl, ?_⟩
                    unfold erI
                    try simp only [Int32.not_lt, Int32.not_le] at *
                    repeat' split
                    all_goals first | rfl | (exfalso; simp only [Int32.lt_iff_toInt_lt, Int32.le_iff_toInt_le, ← Int32.toInt_inj] at *; omega)
              · skip
                refine xt_ic ?_
                refine xt_ri rfl (Nat.le_refl _) ?_
                intro a2 z2 b2 y2 e2
                simp only [List.cons.injEq, Sum.inl.injEq, and_true] at e2
                obtain ⟨e2a, e2z, e2b, e2y⟩ := e2
                subst e2a
                subst e2z
                subst e2b
                subst e2y
                refine ⟨rfl, rfl, ?_⟩
                unfold erI
                try simp only [Int32.not_lt, Int32.not_le] at *
                repeat' split
                all_goals first | rfl | (exfalso; simp only [Int32.lt_iff_toInt_lt, Int32.le_iff_toInt_le, ← Int32.toInt_inj] at *; omega)
          · skip
            refine xt_iln1 rfl ?_
            refine xt_iln3 rfl ?_
            refine xt_cge (t := 38) rfl (fun hc_33 => ?_) (fun hc_33 => ?_)
            · skip
              refine xt_blk rfl rfl (by dsimp only [List.take]) ?_
              refine xt_iln0 rfl ?_
              refine xt_iln2 rfl ?_
              refine xt_cle (t := 50) rfl (fun hc_40 => ?_) (fun hc_40 => ?_)
              · skip
                refine xt_blk rfl rfl (by dsimp only [List.take]) ?_
                refine xt_iln0 rfl ?_
                refine xt_iln2 rfl ?_
                refine xt_cle (t := 62) rfl (fun hc_52 => ?_) (fun hc_52 => ?_)
                · skip
                  refine xt_blk rfl rfl (by dsimp only [List.take]) ?_
                  refine xt_iln0 rfl ?_
                  refine xt_iln2 rfl ?_
                  refine xt_cne (t := 77) rfl (fun hc_64 => ?_) (fun hc_64 => ?_)
                  · skip
                    refine xt_blk rfl rfl (by dsimp only [List.take]) ?_
                    refine xt_icm rfl ?_
                    refine xt_nil (t := 78) rfl ?_
                    refine xt_blk rfl rfl (by dsimp only [List.take]) ?_
                    refine xt_ri rfl (Nat.le_refl _) ?_
                    intro a2 z2 b2 y2 e2
                    simp only [List.cons.injEq, Sum.inl.injEq, and_true] at e2
                    obtain ⟨e2a, e2z, e2b, e2y⟩ := e2
                    subst e2a
                    subst e2z
                    subst e2b
                    subst e2y
                    refine ⟨rfl, rfl, ?_⟩
                    unfold erI
                    try simp only [Int32.not_lt, Int32.not_le] at *
                    repeat' split
                    all_goals first | rfl | (exfalso; simp only [Int32.lt_iff_toInt_lt, Int32.le_iff_toInt_le, ← Int32.toInt_inj] at *; omega)
                  · skip
                    refine xt_iln1 rfl ?_
                    refine xt_iln3 rfl ?_
                    refine xt_cne (t := 77) rfl (fun hc_69 => ?_) (fun hc_69 => ?_)
                    · skip
                      refine xt_blk rfl rfl (by dsimp only [List.take]) ?_
                      refine xt_icm rfl ?_
                      refine xt_nil (t := 78) rfl ?_
                      refine xt_blk rfl rfl (by dsimp only [List.take]) ?_
                      refine xt_ri rfl (Nat.le_refl _) ?_
                      intro a2 z2 b2 y2 e2
                      simp only [List.cons.injEq, Sum.inl.injEq, and_true] at e2
                      obtain ⟨e2a, e2z, e2b, e2y⟩ := e2
                      subst e2a
                      subst e2z
                      subst e2b
                      subst e2y
                      refine ⟨rfl, rfl, ?_⟩
                      unfold erI
                      try simp only [Int32.not_lt, Int32.not_le] at *
                      repeat' split
                      all_goals first | rfl | (exfalso; simp only [Int32.lt_iff_toInt_lt, Int32.le_iff_toInt_le, ← Int32.toInt_inj] at *; omega)
                    · skip
                      refine xt_bi ?_
                      refine xt_goto (t := 78) rfl ?_
                      refine xt_blk rfl rfl (by dsimp only [List.take]) ?_
                      refine xt_ri rfl (Nat.le_refl _) ?_
                      intro a2 z2 b2 y2 e2
                      simp only [List.cons.injEq, Sum.inl.injEq, and_true] at e2
                      obtain ⟨e2a, e2z, e2b, e2y⟩ := e2
                      subst e2a
                      subst e2z
                      subst e2b
                      subst e2y
                      refine ⟨rfl, rfl, ?_⟩
                      unfold erI
                      try simp only [Int32.not_lt, Int32.not_le] at *
                      repeat' split
                      all_goals first | rfl | (exfalso; simp only [Int32.lt_iff_toInt_lt, Int32.le_iff_toInt_le, ← Int32.toInt_inj] at *; omega)
                · skip
                  refine xt_iln1 rfl ?_
                  refine xt_iln3 rfl ?_
                  refine xt_cne (t := 62) rfl (fun hc_57 => ?_) (fun hc_57 => ?_)
                  · skip
                    refine xt_blk rfl rfl (by dsimp only [List.take]) ?_
                    refine xt_iln0 rfl ?_
                    refine xt_iln2 rfl ?_
                    refine xt_cne (t := 77) rfl (fun hc_64 => ?_) (fun hc_64 => ?_)
                    · skip
                      refine xt_blk rfl rfl (by dsimp only [List.take]) ?_
                      refine xt_icm rfl ?_
                      refine xt_nil (t := 78) rfl ?_
                      refine xt_blk rfl rfl (by dsimp only [List.take]) ?_
                      refine xt_ri rfl (Nat.le_refl _) ?_
                      intro a2 z2 b2 y2 e2
                      simp only [List.cons.injEq, Sum.inl.injEq, and_true] at e2
                      obtain ⟨e2a, e2z, e2b, e2y⟩ := e2
                      subst e2a
                      subst e2z
                      subst e2b
                      subst e2y
                      refine ⟨rfl, rfl, ?_⟩
                      unfold erI
                      try simp only [Int32.not_lt, Int32.not_le] at *
                      repeat' split
                      all_goals first | rfl | (exfalso; simp only [Int32.lt_iff_toInt_lt, Int32.le_iff_toInt_le, ← Int32.toInt_inj] at *; omega)
                    · skip
                      refine xt_iln1 rfl ?_
                      refine xt_iln3 rfl ?_
                      refine xt_cne (t := 77) rfl (fun hc_69 => ?_) (fun hc_69 => ?_)
                      · skip
                        refine xt_blk rfl rfl (by dsimp only [List.take]) ?_
                        refine xt_icm rfl ?_
                        refine xt_nil (t := 78) rfl ?_
                        refine xt_blk rfl rfl (by dsimp only [List.take]) ?_
                        refine xt_ri rfl (Nat.le_refl _) ?_
                        intro a2 z2 b2 y2 e2
                        simp only [List.cons.injEq, Sum.inl.injEq, and_true] at e2
                        obtain ⟨e2a, e2z, e2b, e2y⟩ := e2
                        subst e2a
                        subst e2z
                        subst e2b
                        subst e2y
                        refine ⟨rfl, rfl, ?_⟩
                        unfold erI
                        try simp only [Int32.not_lt, Int32.not_le] at *
                        repeat' split
                        all_goals first | rfl | (exfalso; simp only [Int32.lt_iff_toInt_lt, Int32.le_iff_toInt_le, ← Int32.toInt_inj] at *; omega)
                      · skip
                        refine xt_bi ?_
                        refine xt_goto (t := 78) rfl ?_
                        refine xt_blk rfl rfl (by dsimp only [List.take]) ?_
                        refine xt_ri rfl (Nat.le_refl _) ?_
                        intro a2 z2 b2 y2 e2
                        simp only [List.cons.injEq, Sum.inl.injEq, and_true] at e2
                        obtain ⟨e2a, e2z, e2b, e2y⟩ := e2
                        subst e2a
                        subst e2z
                        subst e2b
                        subst e2y
                        refine ⟨rfl, rfl, ?_⟩
                        unfold erI
                        try simp only [Int32.not_lt, Int32.not_le] at *
                        repeat' split
                        all_goals first | rfl | (exfalso; simp only [Int32.lt_iff_toInt_lt, Int32.le_iff_toInt_le, ← Int32.toInt_inj] at *; omega)
                  · skip
                    refine xt_ic ?_
                    refine xt_ri rfl (Nat.le_refl _) ?_
                    intro a2 z2 b2 y2 e2
                    simp only [List.cons.injEq, Sum.inl.injEq, and_true] at e2
                    obtain ⟨e2a, e2z, e2b, e2y⟩ := e2
                    subst e2a
                    subst e2z
                    subst e2b
                    subst e2y
                    refine ⟨rfl, rfl, ?_⟩
                    unfold erI
                    try simp only [Int32.not_lt, Int32.not_le] at *
                    repeat' split
                    all_goals first | rfl | (exfalso; simp only [Int32.lt_iff_toInt_lt, Int32.le_iff_toInt_le, ← Int32.toInt_inj] at *; omega)
              · skip
                refine xt_iln1 rfl ?_
                refine xt_iln3 rfl ?_
                refine xt_cge (t := 50) rfl (fun hc_45 => ?_) (fun hc_45 => ?_)
                · skip
                  refine xt_blk rfl rfl (by dsimp only [List.take]) ?_
                  refine xt_iln0 rfl ?_
                  refine xt_iln2 rfl ?_
                  refine xt_cle (t := 62) rfl (fun hc_52 => ?_) (fun hc_52 => ?_)
                  · skip
                    refine xt_blk rfl rfl (by dsimp only [List.take]) ?_
                    refine xt_iln0 rfl ?_
                    refine xt_iln2 rfl ?_
                    refine xt_cne (t := 77) rfl (fun hc_64 => ?_) (fun hc_64 => ?_)
                    · skip
                      refine xt_blk rfl rfl (by dsimp only [List.take]) ?_
                      refine xt_icm rfl ?_
                      refine xt_nil (t := 78) rfl ?_
                      refine xt_blk rfl rfl (by dsimp only [List.take]) ?_
                      refine xt_ri rfl (Nat.le_refl _) ?_
                      intro a2 z2 b2 y2 e2
                      simp only [List.cons.injEq, Sum.inl.injEq, and_true] at e2
                      obtain ⟨e2a, e2z, e2b, e2y⟩ := e2
                      subst e2a
                      subst e2z
                      subst e2b
                      subst e2y
                      refine ⟨rfl, rfl, ?_⟩
                      unfold erI
                      try simp only [Int32.not_lt, Int32.not_le] at *
                      repeat' split
                      all_goals first | rfl | (exfalso; simp only [Int32.lt_iff_toInt_lt, Int32.le_iff_toInt_le, ← Int32.toInt_inj] at *; omega)
                    · skip
                      refine xt_iln1 rfl ?_
                      refine xt_iln3 rfl ?_
                      refine xt_cne (t := 77) rfl (fun hc_69 => ?_) (fun hc_69 => ?_)
                      · skip
                        refine xt_blk rfl rfl (by dsimp only [List.take]) ?_
                        refine xt_icm rfl ?_
                        refine xt_nil (t := 78) rfl ?_
                        refine xt_blk rfl rfl (by dsimp only [List.take]) ?_
                        refine xt_ri rfl (Nat.le_refl _) ?_
                        intro a2 z2 b2 y2 e2
                        simp only [List.cons.injEq, Sum.inl.injEq, and_true] at e2
                        obtain ⟨e2a, e2z, e2b, e2y⟩ := e2
                        subst e2a
                        subst e2z
                        subst e2b
                        subst e2y
                        refine ⟨rfl, rfl, ?_⟩
                        unfold erI
                        try simp only [Int32.not_lt, Int32.not_le] at *
                        repeat' split
                        all_goals first | rfl | (exfalso; simp only [Int32.lt_iff_toInt_lt, Int32.le_iff_toInt_le, ← Int32.toInt_inj] at *; omega)
                      · skip
                        refine xt_bi ?_
                        refine xt_goto (t := 78) rfl ?_
                        refine xt_blk rfl rfl (by dsimp only [List.take]) ?_
                        refine xt_ri rfl (Nat.le_refl _) ?_
                        intro a2 z2 b2 y2 e2
                        simp only [List.cons.injEq, Sum.inl.injEq, and_true] at e2
                        obtain ⟨e2a, e2z, e2b, e2y⟩ := e2
                        subst e2a
                        subst e2z
                        subst e2b
                        subst e2y
                        refine ⟨rfl, rfl, ?_⟩
                        unfold erI
                        try simp only [Int32.not_lt, Int32.not_le] at *
                        repeat' split
                        all_goals first | rfl | (exfalso; simp only [Int32.lt_iff_toInt_lt, Int32.le_iff_toInt_le, ← Int32.toInt_inj] at *; omega)
                  · skip
                    refine xt_iln1 rfl ?_
                    refine xt_iln3 rfl ?_
                    refine xt_cne (t := 62) rfl (fun hc_57 => ?_) (fun hc_57 => ?_)
                    · skip
                      refine xt_blk rfl rfl (by dsimp only [List.take]) ?_
                      refine xt_iln0 rfl ?_
                      refine xt_iln2 rfl ?_
                      refine xt_cne (t := 77) rfl (fun hc_64 => ?_) (fun hc_64 => ?_)
                      · skip
                        refine xt_blk rfl rfl (by dsimp only [List.take]) ?_
                        refine xt_icm rfl ?_
                        refine xt_nil (t := 78) rfl ?_
                        refine xt_blk rfl rfl (by dsimp only [List.take]) ?_
                        refine xt_ri rfl (Nat.le_refl _) ?_
                        intro a2 z2 b2 y2 e2
                        simp only [List.cons.injEq, Sum.inl.injEq, and_true] at e2
                        obtain ⟨e2a, e2z, e2b, e2y⟩ := e2
                        subst e2a
                        subst e2z
                        subst e2b
                        subst e2y
                        refine ⟨rfl, rfl, ?_⟩
                        unfold erI
                        try simp only [Int32.not_lt, Int32.not_le] at *
                        repeat' split
                        all_goals first | rfl | (exfalso; simp only [Int32.lt_iff_toInt_lt, Int32.le_iff_toInt_le, ← Int32.toInt_inj] at *; omega)
                      · skip
                        refine xt_iln1 rfl ?_
                        refine xt_iln3 rfl ?_
                        refine xt_cne (t := 77) rfl (fun hc_69 => ?_) (fun hc_69 => ?_)
                        · skip
                          refine xt_blk rfl rfl (by dsimp only [List.take]) ?_
                          refine xt_icm rfl ?_
                          refine xt_nil (t := 78) rfl ?_
                          refine xt_blk rfl rfl (by dsimp only [List.take]) ?_
                          refine xt_ri rfl (Nat.le_refl _) ?_
                          intro a2 z2 b2 y2 e2
                          simp only [List.cons.injEq, Sum.inl.injEq, and_true] at e2
                          obtain ⟨e2a, e2z, e2b, e2y⟩ := e2
                          subst e2a
                          subst e2z
                          subst e2b
                          subst e2y
                          refine ⟨rfl, rfl, ?_⟩
                          unfold erI
                          try simp only [Int32.not_lt, Int32.not_le] at *
                          repeat' split
                          all_goals first | rfl | (exfalso; simp only [Int32.lt_iff_toInt_lt, Int32.le_iff_toInt_le, ← Int32.toInt_inj] at *; omega)
                        · skip
                          refine xt_bi ?_
                          refine xt_goto (t := 78) rfl ?_
                          refine xt_blk rfl rfl (by dsimp only [List.take]) ?_
                          refine xt_ri rfl (Nat.le_refl _) ?_
                          intro a2 z2 b2 y2 e2
                          simp only [List.cons.injEq, Sum.inl.injEq, and_true] at e2
                          obtain ⟨e2a, e2z, e2b, e2y⟩ := e2
                          subst e2a
                          subst e2z
                          subst e2b
                          subst e2y
                          refine ⟨rfl, rfl, ?_⟩
                          unfold erI
                          try simp only [Int32.not_lt, Int32.not_le] at *
                          repeat' split
                          all_goals first | rfl | (exfalso; simp only [Int32.lt_iff_toInt_lt, Int32.le_iff_toInt_le, ← Int32.toInt_inj] at *; omega)
                    · skip
                      refine xt_ic ?_
                      refine xt_ri rfl (Nat.le_refl _) ?_
                      intro a2 z2 b2 y2 e2
                      simp only [List.cons.injEq, Sum.inl.injEq, and_true] at e2
                      obtain ⟨e2a, e2z, e2b, e2y⟩ := e2
                      subst e2a
                      subst e2z
                      subst e2b
                      subst e2y
                      refine ⟨rfl, rfl, ?_⟩
                      unfold erI
                      try simp only [Int32.not_lt, Int32.not_le] at *
                      repeat' split
                      all_goals first | rfl | (exfalso; simp only [Int32.lt_iff_toInt_lt, Int32.le_iff_toInt_le, ← Int32.toInt_inj] at *; omega)
                · skip
                  refine xt_ic ?_
                  refine xt_ri rfl (Nat.le_refl _) ?_
                  intro a2 z2 b2 y2 e2
                  simp only [List.cons.injEq, Sum.inl.injEq, and_true] at e2
                  obtain ⟨e2a, e2z, e2b, e2y⟩ := e2
                  subst e2a
                  subst e2z
                  subst e2b
                  subst e2y
                  refine ⟨rfl, rfl, ?_⟩
                  unfold erI
                  try simp only [Int32.not_lt, Int32.not_le] at *
                  repeat' split
                  all_goals first | rfl | (exfalso; simp only [Int32.lt_iff_toInt_lt, Int32.le_iff_toInt_le, ← Int32.toInt_inj] at *; omega)
            · skip
              refine xt_ic ?_
              refine xt_ri rfl (Nat.le_refl _) ?_
              intro a2 z2 b2 y2 e2
              simp only [List.cons.injEq, Sum.inl.injEq, and_true] at e2
              obtain ⟨e2a, e2z, e2b, e2y⟩ := e2
              subst e2a
              subst e2z
              subst e2b
              subst e2y
              refine ⟨rfl, rfl, ?_⟩
              unfold erI
              try simp only [Int32.not_lt, Int32.not_le] at *
              repeat' split
              all_goals first | rfl | (exfalso; simp only [Int32.lt_iff_toInt_lt, Int32.le_iff_toInt_le, ← Int32.toInt_inj] at *; omega)
        · skip
          refine xt_iln1 rfl ?_
          refine xt_iln3 rfl ?_
          refine xt_cge (t := 26) rfl (fun hc_21 => ?_) (fun hc_21 => ?_)
          · skip
            refine xt_blk rfl rfl (by dsimp only [List.take]) ?_
            refine xt_iln0 rfl ?_
            refine xt_iln2 rfl ?_
            refine xt_cne (t := 38) rfl (fun hc_28 => ?_) (fun hc_28 => ?_)
            · skip
              refine xt_blk rfl rfl (by dsimp only [List.take]) ?_
              refine xt_iln0 rfl ?_
              refine xt_iln2 rfl ?_
              refine xt_cle (t := 50) rfl (fun hc_40 => ?_) (fun hc_40 => ?_)
              · skip
                refine xt_blk rfl rfl (by dsimp only [List.take]) ?_
                refine xt_iln0 rfl ?_
                refine xt_iln2 rfl ?_
                refine xt_cle (t := 62) rfl (fun hc_52 => ?_) (fun hc_52 => ?_)
                · skip
                  refine xt_blk rfl rfl (by dsimp only [List.take]) ?_
                  refine xt_iln0 rfl ?_
                  refine xt_iln2 rfl ?_
                  refine xt_cne (t := 77) rfl (fun hc_64 => ?_) (fun hc_64 => ?_)
                  · skip
                    refine xt_blk rfl rfl (by dsimp only [List.take]) ?_
                    refine xt_icm rfl ?_
                    refine xt_nil (t := 78) rfl ?_
                    refine xt_blk rfl rfl (by dsimp only [List.take]) ?_
                    refine xt_ri rfl (Nat.le_refl _) ?_
                    intro a2 z2 b2 y2 e2
                    simp only [List.cons.injEq, Sum.inl.injEq, and_true] at e2
                    obtain ⟨e2a, e2z, e2b, e2y⟩ := e2
                    subst e2a
                    subst e2z
                    subst e2b
                    subst e2y
                    refine ⟨rfl, rfl, ?_⟩
                    unfold erI
                    try simp only [Int32.not_lt, Int32.not_le] at *
                    repeat' split
                    all_goals first | rfl | (exfalso; simp only [Int32.lt_iff_toInt_lt, Int32.le_iff_toInt_le, ← Int32.toInt_inj] at *; omega)
                  · skip
                    refine xt_iln1 rfl ?_
                    refine xt_iln3 rfl ?_
                    refine xt_cne (t := 77) rfl (fun hc_69 => ?_) (fun hc_69 => ?_)
                    · skip
                      refine xt_blk rfl rfl (by dsimp only [List.take]) ?_
                      refine xt_icm rfl ?_
                      refine xt_nil (t := 78) rfl ?_
                      refine xt_blk rfl rfl (by dsimp only [List.take]) ?_
                      refine xt_ri rfl (Nat.le_refl _) ?_
                      intro a2 z2 b2 y2 e2
                      simp only [List.cons.injEq, Sum.inl.injEq, and_true] at e2
                      obtain ⟨e2a, e2z, e2b, e2y⟩ := e2
                      subst e2a
                      subst e2z
                      subst e2b
                      subst e2y
                      refine ⟨rfl, rfl, ?_⟩
                      unfold erI
                      try simp only [Int32.not_lt, Int32.not_le] at *
                      repeat' split
                      all_goals first | rfl | (exfalso; simp only [Int32.lt_iff_toInt_lt, Int32.le_iff_toInt_le, ← Int32.toInt_inj] at *; omega)
                    · skip
                      refine xt_bi ?_
                      refine xt_goto (t := 78) rfl ?_
                      refine xt_blk rfl rfl (by dsimp only [List.take]) ?_
                      refine xt_ri rfl (Nat.le_refl _) ?_
                      intro a2 z2 b2 y2 e2
                      simp only [List.cons.injEq, Sum.inl.injEq, and_true] at e2
                      obtain ⟨e2a, e2z, e2b, e2y⟩ := e2
                      subst e2a
                      subst e2z
                      subst e2b
                      subst e2y
                      refine ⟨rfl, rfl, ?_⟩
                      unfold erI
                      try simp only [Int32.not_lt, Int32.not_le] at *
                      repeat' split
                      all_goals first | rfl | (exfalso; simp only [Int32.lt_iff_toInt_lt, Int32.le_iff_toInt_le, ← Int32.toInt_inj] at *; omega)
                · skip
                  refine xt_iln1 rfl ?_
                  refine xt_iln3 rfl ?_
                  refine xt_cne (t := 62) rfl (fun hc_57 => ?_) (fun hc_57 => ?_)
                  · skip
                    refine xt_blk rfl rfl (by dsimp only [List.take]) ?_
                    refine xt_iln0 rfl ?_
                    refine xt_iln2 rfl ?_
                    refine xt_cne (t := 77) rfl (fun hc_64 => ?_) (fun hc_64 => ?_)
                    · skip
                      refine xt_blk rfl rfl (by dsimp only [List.take]) ?_
                      refine xt_icm rfl ?_
                      refine xt_nil (t := 78) rfl ?_
                      refine xt_blk rfl rfl (by dsimp only [List.take]) ?_
                      refine xt_ri rfl (Nat.le_refl _) ?_
                      intro a2 z2 b2 y2 e2
                      simp only [List.cons.injEq, Sum.inl.injEq, and_true] at e2
                      obtain ⟨e2a, e2z, e2b, e2y⟩ := e2
                      subst e2a
                      subst e2z
                      subst e2b
                      subst e2y
                      refine ⟨rfl, rfl, ?_⟩
                      unfold erI
                      try simp only [Int32.not_lt, Int32.not_le] at *
                      repeat' split
                      all_goals first | rfl | (exfalso; simp only [Int32.lt_iff_toInt_lt, Int32.le_iff_toInt_le, ← Int32.toInt_inj] at *; omega)
                    · skip
                      refine xt_iln1 rfl ?_
                      refine xt_iln3 rfl ?_
                      refine xt_cne (t := 77) rfl (fun hc_69 => ?_) (fun hc_69 => ?_)
                      · skip
                        refine xt_blk rfl rfl (by dsimp only [List.take]) ?_
                        refine xt_icm rfl ?_
                        refine xt_nil (t := 78) rfl ?_
                        refine xt_blk rfl rfl (by dsimp only [List.take]) ?_
                        refine xt_ri rfl (Nat.le_refl _) ?_
                        intro a2 z2 b2 y2 e2
                        simp only [List.cons.injEq, Sum.inl.injEq, and_true] at e2
                        obtain ⟨e2a, e2z, e2b, e2y⟩ := e2
                        subst e2a
                        subst e2z
                        subst e2b
                        subst e2y
                        refine ⟨rfl, rfl, ?_⟩
                        unfold erI
                        try simp only [Int32.not_lt, Int32.not_le] at *
                        repeat' split
                        all_goals first | rfl | (exfalso; simp only [Int32.lt_iff_toInt_lt, Int32.le_iff_toInt_le, ← Int32.toInt_inj] at *; omega)
                      · skip
                        refine xt_bi ?_
                        refine xt_goto (t := 78) rfl ?_
                        refine xt_blk rfl rfl (by dsimp only [List.take]) ?_
                        refine xt_ri rfl (Nat.le_refl _) ?_
                        intro a2 z2 b2 y2 e2
                        simp only [List.cons.injEq, Sum.inl.injEq, and_true] at e2
                        obtain ⟨e2a, e2z, e2b, e2y⟩ := e2
                        subst e2a
                        subst e2z
                        subst e2b
                        subst e2y
                        refine ⟨rfl, rfl, ?_⟩
                        unfold erI
                        try simp only [Int32.not_lt, Int32.not_le] at *
                        repeat' split
                        all_goals first | rfl | (exfalso; simp only [Int32.lt_iff_toInt_lt, Int32.le_iff_toInt_le, ← Int32.toInt_inj] at *; omega)
                  · skip
                    refine xt_ic ?_
                    refine xt_ri rfl (Nat.le_refl _) ?_
                    intro a2 z2 b2 y2 e2
                    simp only [List.cons.injEq, Sum.inl.injEq, and_true] at e2
                    obtain ⟨e2a, e2z, e2b, e2y⟩ := e2
                    subst e2a
                    subst e2z
                    subst e2b
                    subst e2y
                    refine ⟨rfl, rfl, ?_⟩
                    unfold erI
                    try simp only [Int32.not_lt, Int32.not_le] at *
                    repeat' split
                    all_goals first | rfl | (exfalso; simp only [Int32.lt_iff_toInt_lt, Int32.le_iff_toInt_le, ← Int32.toInt_inj] at *; omega)
              · skip
                refine xt_iln1 rfl ?_
                refine xt_iln3 rfl ?_
                refine xt_cge (t := 50) rfl (fun hc_45 => ?_) (fun hc_45 => ?_)
                · skip
                  refine xt_blk rfl rfl (by dsimp only [List.take]) ?_
                  refine xt_iln0 rfl ?_
                  refine xt_iln2 rfl ?_
                  refine xt_cle (t := 62) rfl (fun hc_52 => ?_) (fun hc_52 => ?_)
                  · skip
                    refine xt_blk rfl rfl (by dsimp only [List.take]) ?_
                    refine xt_iln0 rfl ?_
                    refine xt_iln2 rfl ?_
                    refine xt_cne (t := 77) rfl (fun hc_64 => ?_) (fun hc_64 => ?_)
                    · skip
                      refine xt_blk rfl rfl (by dsimp only [List.take]) ?_
                      refine xt_icm rfl ?_
                      refine xt_nil (t := 78) rfl ?_
                      refine xt_blk rfl rfl (by dsimp only [List.take]) ?_
                      refine xt_ri rfl (Nat.le_refl _) ?_
                      intro a2 z2 b2 y2 e2
                      simp only [List.cons.injEq, Sum.inl.injEq, and_true] at e2
                      obtain ⟨e2a, e2z, e2b, e2y⟩ := e2
                      subst e2a
                      subst e2z
                      subst e2b
                      subst e2y
                      refine ⟨rfl, rfl, ?_⟩
                      unfold erI
                      try simp only [Int32.not_lt, Int32.not_le] at *
                      repeat' split
                      all_goals first | rfl | (exfalso; simp only [Int32.lt_iff_toInt_lt, Int32.le_iff_toInt_le, ← Int32.toInt_inj] at *; omega)
                    · skip
                      refine xt_iln1 rfl ?_
                      refine xt_iln3 rfl ?_
                      refine xt_cne (t := 77) rfl (fun hc_69 => ?_) (fun hc_69 => ?_)
                      · skip
                        refine xt_blk rfl rfl (by dsimp only [List.take]) ?_
                        refine xt_icm rfl ?_
                        refine xt_nil (t := 78) rfl ?_
                        refine xt_blk rfl rfl (by dsimp only [List.take]) ?_
                        refine xt_ri rfl (Nat.le_refl _) ?_
                        intro a2 z2 b2 y2 e2
                        simp only [List.cons.injEq, Sum.inl.injEq, and_true] at e2
                        obtain ⟨e2a, e2z, e2b, e2y⟩ := e2
                        subst e2a
                        subst e2z
                        subst e2b
                        subst e2y
                        refine ⟨rfl, rfl, ?_⟩
                        unfold erI
                        try simp only [Int32.not_lt, Int32.not_le] at *
                        repeat' split
                        all_goals first | rfl | (exfalso; simp only [Int32.lt_iff_toInt_lt, Int32.le_iff_toInt_le, ← Int32.toInt_inj] at *; omega)
                      · skip
                        refine xt_bi ?_
                        refine xt_goto (t := 78) rfl ?_
                        refine xt_blk rfl rfl (by dsimp only [List.take]) ?_
                        refine xt_ri rfl (Nat.le_refl _) ?_
                        intro a2 z2 b2 y2 e2
                        simp only [List.cons.injEq, Sum.inl.injEq, and_true] at e2
                        obtain ⟨e2a, e2z, e2b, e2y⟩ := e2
                        subst e2a
                        subst e2z
                        subst e2b
                        subst e2y
                        refine ⟨rfl, rfl, ?_⟩
                        unfold erI
                        try simp only [Int32.not_lt, Int32.not_le] at *
                        repeat' split
                        all_goals first | rfl | (exfalso; simp only [Int32.lt_iff_toInt_lt, Int32.le_iff_toInt_le, ← Int32.toInt_inj] at *; omega)
                  · skip
                    refine xt_iln1 rfl ?_
                    refine xt_iln3 rfl ?_
                    refine xt_cne (t := 62) rfl (fun hc_57 => ?_) (fun hc_57 => ?_)
                    · skip
                      refine xt_blk rfl rfl (by dsimp only [List.take]) ?_
                      refine xt_iln0 rfl ?_
                      refine xt_iln2 rfl ?_
                      refine xt_cne (t := 77) rfl (fun hc_64 => ?_) (fun hc_64 => ?_)
                      · skip
                        refine xt_blk rfl rfl (by dsimp only [List.take]) ?_
                        refine xt_icm rfl ?_
                        refine xt_nil (t := 78) rfl ?_
                        refine xt_blk rfl rfl (by dsimp only [List.take]) ?_
                        refine xt_ri rfl (Nat.le_refl _) ?_
                        intro a2 z2 b2 y2 e2
                        simp only [List.cons.injEq, Sum.inl.injEq, and_true] at e2
                        obtain ⟨e2a, e2z, e2b, e2y⟩ := e2
                        subst e2a
                        subst e2z
                        subst e2b
                        subst e2y
                        refine ⟨rfl, rfl, ?_⟩
                        unfold erI
                        try simp only [Int32.not_lt, Int32.not_le] at *
                        repeat' split
                        all_goals first | rfl | (exfalso; simp only [Int32.lt_iff_toInt_lt, Int32.le_iff_toInt_le, ← Int32.toInt_inj] at *; omega)
                      · skip
                        refine xt_iln1 rfl ?_
                        refine xt_iln3 rfl ?_
                        refine xt_cne (t := 77) rfl (fun hc_69 => ?_) (fun hc_69 => ?_)
                        · skip
                          refine xt_blk rfl rfl (by dsimp only [List.take]) ?_
                          refine xt_icm rfl ?_
                          refine xt_nil (t := 78) rfl ?_
                          refine xt_blk rfl rfl (by dsimp only [List.take]) ?_
                          refine xt_ri rfl (Nat.le_refl _) ?_
                          intro a2 z2 b2 y2 e2
                          simp only [List.cons.injEq, Sum.inl.injEq, and_true] at e2
                          obtain ⟨e2a, e2z, e2b, e2y⟩ := e2
                          subst e2a
                          subst e2z
                          subst e2b
                          subst e2y
                          refine ⟨rfl, rfl, ?_⟩
                          unfold erI
                          try simp only [Int32.not_lt, Int32.not_le] at *
                          repeat' split
                          all_goals first | rfl | (exfalso; simp only [Int32.lt_iff_toInt_lt, Int32.le_iff_toInt_le, ← Int32.toInt_inj] at *; omega)
                        · skip
                          refine xt_bi ?_
                          refine xt_goto (t := 78) rfl ?_
                          refine xt_blk rfl rfl (by dsimp only [List.take]) ?_
                          refine xt_ri rfl (Nat.le_refl _) ?_
                          intro a2 z2 b2 y2 e2
                          simp only [List.cons.injEq, Sum.inl.injEq, and_true] at e2
                          obtain ⟨e2a, e2z, e2b, e2y⟩ := e2
                          subst e2a
                          subst e2z
                          subst e2b
                          subst e2y
                          refine ⟨rfl, rfl, ?_⟩
                          unfold erI
                          try simp only [Int32.not_lt, Int32.not_le] at *
                          repeat' split
                          all_goals first | rfl | (exfalso; simp only [Int32.lt_iff_toInt_lt, Int32.le_iff_toInt_le, ← Int32.toInt_inj] at *; omega)
                    · skip
                      refine xt_ic ?_
                      refine xt_ri rfl (Nat.le_refl _) ?_
                      intro a2 z2 b2 y2 e2
                      simp only [List.cons.injEq, Sum.inl.injEq, and_true] at e2
                      obtain ⟨e2a, e2z, e2b, e2y⟩ := e2
                      subst e2a
                      subst e2z
                      subst e2b
                      subst e2y
                      refine ⟨rfl, rfl, ?_⟩
                      unfold erI
                      try simp only [Int32.not_lt, Int32.not_le] at *
                      repeat' split
                      all_goals first | rfl | (exfalso; simp only [Int32.lt_iff_toInt_lt, Int32.le_iff_toInt_le, ← Int32.toInt_inj] at *; omega)
                · skip
                  refine xt_ic ?_
                  refine xt_ri rfl (Nat.le_refl _) ?_
                  intro a2 z2 b2 y2 e2
                  simp only [List.cons.injEq, Sum.inl.injEq, and_true] at e2
                  obtain ⟨e2a, e2z, e2b, e2y⟩ := e2
                  subst e2a
                  subst e2z
                  subst e2b
                  subst e2y
                  refine ⟨rfl, rfl, ?_⟩
                  unfold erI
                  try simp only [Int32.not_lt, Int32.not_le] at *
                  repeat' split
                  all_goals first | rfl | (exfalso; simp only [Int32.lt_iff_toInt_lt, Int32.le_iff_toInt_le, ← Int32.toInt_inj] at *; omega)
            · skip
              refine xt_iln1 rfl ?_
              refine xt_iln3 rfl ?_
              refine xt_cge (t := 38) rfl (fun hc_33 => ?_) (fun hc_33 => ?_)
              · skip
                refine xt_blk rfl rfl (by dsimp only [List.take]) ?_
                refine xt_iln0 rfl ?_
                refine xt_iln2 rfl ?_
                refine xt_cle (t := 50) rfl (fun hc_40 => ?_) (fun hc_40 => ?_)
                · skip
                  refine xt_blk rfl rfl (by dsimp only [List.take]) ?_
                  refine xt_iln0 rfl ?_
                  refine xt_iln2 rfl ?_
                  refine xt_cle (t := 62) rfl (fun hc_52 => ?_) (fun hc_52 => ?_)
                  · skip
                    refine xt_blk rfl rfl (by dsimp only [List.take]) ?_
                    refine xt_iln0 rfl ?_
                    refine xt_iln2 rfl ?_
                    refine xt_cne (t := 77) rfl (fun hc_64 => ?_) (fun hc_64 => ?_)
                    · skip
                      refine xt_blk rfl rfl (by dsimp only [List.take]) ?_
                      refine xt_icm rfl ?_
                      refine xt_nil (t := 78) rfl ?_
                      refine xt_blk rfl rfl (by dsimp only [List.take]) ?_
                      refine xt_ri rfl (Nat.le_refl _) ?_
                      intro a2 z2 b2 y2 e2
                      simp only [List.cons.injEq, Sum.inl.injEq, and_true] at e2
                      obtain ⟨e2a, e2z, e2b, e2y⟩ := e2
                      subst e2a
                      subst e2z
                      subst e2b
                      subst e2y
                      refine ⟨rfl, rfl, ?_⟩
                      unfold erI
                      try simp only [Int32.not_lt, Int32.not_le] at *
                      repeat' split
                      all_goals first | rfl | (exfalso; simp only [Int32.lt_iff_toInt_lt, Int32.le_iff_toInt_le, ← Int32.toInt_inj] at *; omega)
                    · skip
                      refine xt_iln1 rfl ?_
                      refine xt_iln3 rfl ?_
                      refine xt_cne (t := 77) rfl (fun hc_69 => ?_) (fun hc_69 => ?_)
                      · skip
                        refine xt_blk rfl rfl (by dsimp only [List.take]) ?_
                        refine xt_icm rfl ?_
                        refine xt_nil (t := 78) rfl ?_
                        refine xt_blk rfl rfl (by dsimp only [List.take]) ?_
                        refine xt_ri rfl (Nat.le_refl _) ?_
                        intro a2 z2 b2 y2 e2
                        simp only [List.cons.injEq, Sum.inl.injEq, and_true] at e2
                        obtain ⟨e2a, e2z, e2b, e2y⟩ := e2
                        subst e2a
                        subst e2z
                        subst e2b
                        subst e2y
                        refine ⟨rfl, rfl, ?_⟩
                        unfold erI
                        try simp only [Int32.not_lt, Int32.not_le] at *
                        repeat' split
                        all_goals first | rfl | (exfalso; simp only [Int32.lt_iff_toInt_lt, Int32.le_iff_toInt_le, ← Int32.toInt_inj] at *; omega)
                      · skip
                        refine xt_bi ?_
                        refine xt_goto (t := 78) rfl ?_
                        refine xt_blk rfl rfl (by dsimp only [List.take]) ?_
                        refine xt_ri rfl (Nat.le_refl _) ?_
                        intro a2 z2 b2 y2 e2
                        simp only [List.cons.injEq, Sum.inl.injEq, and_true] at e2
                        obtain ⟨e2a, e2z, e2b, e2y⟩ := e2
                        subst e2a
                        subst e2z
                        subst e2b
                        subst e2y
                        refine ⟨rfl, rfl, ?_⟩
                        unfold erI
                        try simp only [Int32.not_lt, Int32.not_le] at *
                        repeat' split
                        all_goals first | rfl | (exfalso; simp only [Int32.lt_iff_toInt_lt, Int32.le_iff_toInt_le, ← Int32.toInt_inj] at *; omega)
                  · skip
                    refine xt_iln1 rfl ?_
                    refine xt_iln3 rfl ?_
                    refine xt_cne (t := 62) rfl (fun hc_57 => ?_) (fun hc_57 => ?_)
                    · skip
                      refine xt_blk rfl rfl (by dsimp only [List.take]) ?_
                      refine xt_iln0 rfl ?_
                      refine xt_iln2 rfl ?_
                      refine xt_cne (t := 77) rfl (fun hc_64 => ?_) (fun hc_64 => ?_)
                      · skip
                        refine xt_blk rfl rfl (by dsimp only [List.take]) ?_
                        refine xt_icm rfl ?_
                        refine xt_nil (t := 78) rfl ?_
                        refine xt_blk rfl rfl (by dsimp only [List.take]) ?_
                        refine xt_ri rfl (Nat.le_refl _) ?_
                        intro a2 z2 b2 y2 e2
                        simp only [List.cons.injEq, Sum.inl.injEq, and_true] at e2
                        obtain ⟨e2a, e2z, e2b, e2y⟩ := e2
                        subst e2a
                        subst e2z
                        subst e2b
                        subst e2y
                        refine ⟨rfl, rfl, ?_⟩
                        unfold erI
                        try simp only [Int32.not_lt, Int32.not_le] at *
                        repeat' split
                        all_goals first | rfl | (exfalso; simp only [Int32.lt_iff_toInt_lt, Int32.le_iff_toInt_le, ← Int32.toInt_inj] at *; omega)
                      · skip
                        refine xt_iln1 rfl ?_
                        refine xt_iln3 rfl ?_
                        refine xt_cne (t := 77) rfl (fun hc_69 => ?_) (fun hc_69 => ?_)
                        · skip
                          refine xt_blk rfl rfl (by dsimp only [List.take]) ?_
                          refine xt_icm rfl ?_
                          refine xt_nil (t := 78) rfl ?_
                          refine xt_blk rfl rfl (by dsimp only [List.take]) ?_
                          refine xt_ri rfl (Nat.le_refl _) ?_
                          intro a2 z2 b2 y2 e2
                          simp only [List.cons.injEq, Sum.inl.injEq, and_true] at e2
                          obtain ⟨e2a, e2z, e2b, e2y⟩ := e2
                          subst e2a
                          subst e2z
                          subst e2b
                          subst e2y
                          refine ⟨rfl, rfl, ?_⟩
                          unfold erI
                          try simp only [Int32.not_lt, Int32.not_le] at *
                          repeat' split
                          all_goals first | rfl | (exfalso; simp only [Int32.lt_iff_toInt_lt, Int32.le_iff_toInt_le, ← Int32.toInt_inj] at *; omega)
                        · skip
                          refine xt_bi ?_
                          refine xt_goto (t := 78) rfl ?_
                          refine xt_blk rfl rfl (by dsimp only [List.take]) ?_
                          refine xt_ri rfl (Nat.le_refl _) ?_
                          intro a2 z2 b2 y2 e2
                          simp only [List.cons.injEq, Sum.inl.injEq, and_true] at e2
                          obtain ⟨e2a, e2z, e2b, e2y⟩ := e2
                          subst e2a
                          subst e2z
                          subst e2b
                          subst e2y
                          refine ⟨rfl, rfl, ?_⟩
                          unfold erI
                          try simp only [Int32.not_lt, Int32.not_le] at *
                          repeat' split
                          all_goals first | rfl | (exfalso; simp only [Int32.lt_iff_toInt_lt, Int32.le_iff_toInt_le, ← Int32.toInt_inj] at *; omega)
                    · skip
                      refine xt_ic ?_
                      refine xt_ri rfl (Nat.le_refl _) ?_
                      intro a2 z2 b2 y2 e2
                      simp only [List.cons.injEq, Sum.inl.injEq, and_true] at e2
                      obtain ⟨e2a, e2z, e2b, e2y⟩ := e2
                      subst e2a
                      subst e2z
                      subst e2b
                      subst e2y
                      refine ⟨rfl, rfl, ?_⟩
                      unfold erI
                      try simp only [Int32.not_lt, Int32.not_le] at *
                      repeat' split
                      all_goals first | rfl | (exfalso; simp only [Int32.lt_iff_toInt_lt, Int32.le_iff_toInt_le, ← Int32.toInt_inj] at *; omega)
                · skip
                  refine xt_iln1 rfl ?_
                  refine xt_iln3 rfl ?_
                  refine xt_cge (t := 50) rfl (fun hc_45 => ?_) (fun hc_45 => ?_)
                  · skip
                    refine xt_blk rfl rfl (by dsimp only [List.take]) ?_
                    refine xt_iln0 rfl ?_
                    refine xt_iln2 rfl ?_
                    refine xt_cle (t := 62) rfl (fun hc_52 => ?_) (fun hc_52 => ?_)
                    · skip
                      refine xt_blk rfl rfl (by dsimp only [List.take]) ?_
                      refine xt_iln0 rfl ?_
                      refine xt_iln2 rfl ?_
                      refine xt_cne (t := 77) rfl (fun hc_64 => ?_) (fun hc_64 => ?_)
                      · skip
                        refine xt_blk rfl rfl (by dsimp only [List.take]) ?_
                        refine xt_icm rfl ?_
                        refine xt_nil (t := 78) rfl ?_
                        refine xt_blk rfl rfl (by dsimp only [List.take]) ?_
                        refine xt_ri rfl (Nat.le_refl _) ?_
                        intro a2 z2 b2 y2 e2
                        simp only [List.cons.injEq, Sum.inl.injEq, and_true] at e2
                        obtain ⟨e2a, e2z, e2b, e2y⟩ := e2
                        subst e2a
                        subst e2z
                        subst e2b
                        subst e2y
                        refine ⟨rfl, rfl, ?_⟩
                        unfold erI
                        try simp only [Int32.not_lt, Int32.not_le] at *
                        repeat' split
                        all_goals first | rfl | (exfalso; simp only [Int32.lt_iff_toInt_lt, Int32.le_iff_toInt_le, ← Int32.toInt_inj] at *; omega)
                      · skip
                        refine xt_iln1 rfl ?_
                        refine xt_iln3 rfl ?_
                        refine xt_cne (t := 77) rfl (fun hc_69 => ?_) (fun hc_69 => ?_)
                        · skip
                          refine xt_blk rfl rfl (by dsimp only [List.take]) ?_
                          refine xt_icm rfl ?_
                          refine xt_nil (t := 78) rfl ?_
                          refine xt_blk rfl rfl (by dsimp only [List.take]) ?_
                          refine xt_ri rfl (Nat.le_refl _) ?_
                          intro a2 z2 b2 y2 e2
                          simp only [List.cons.injEq, Sum.inl.injEq, and_true] at e2
                          obtain ⟨e2a, e2z, e2b, e2y⟩ := e2
                          subst e2a
                          subst e2z
                          subst e2b
                          subst e2y
                          refine ⟨rfl, rfl, ?_⟩
                          unfold erI
                          try simp only [Int32.not_lt, Int32.not_le] at *
                          repeat' split
                          all_goals first | rfl | (exfalso; simp only [Int32.lt_iff_toInt_lt, Int32.le_iff_toInt_le, ← Int32.toInt_inj] at *; omega)
                        · skip
                          refine xt_bi ?_
                          refine xt_goto (t := 78) rfl ?_
                          refine xt_blk rfl rfl (by dsimp only [List.take]) ?_
                          refine xt_ri rfl (Nat.le_refl _) ?_
                          intro a2 z2 b2 y2 e2
                          simp only [List.cons.injEq, Sum.inl.injEq, and_true] at e2
                          obtain ⟨e2a, e2z, e2b, e2y⟩ := e2
                          subst e2a
                          subst e2z
                          subst e2b
                          subst e2y
                          refine ⟨rfl, rfl, ?_⟩
                          unfold erI
                          try simp only [Int32.not_lt, Int32.not_le] at *
                          repeat' split
                          all_goals first | rfl | (exfalso; simp only [Int32.lt_iff_toInt_lt, Int32.le_iff_toInt_le, ← Int32.toInt_inj] at *; omega)
                    · skip
                      refine xt_iln1 rfl ?_
                      refine xt_iln3 rfl ?_
                      refine xt_cne (t := 62) rfl (fun hc_57 => ?_) (fun hc_57 => ?_)
                      · skip
                        refine xt_blk rfl rfl (by dsimp only [List.take]) ?_
                        refine xt_iln0 rfl ?_
                        refine xt_iln2 rfl ?_
                        refine xt_cne (t := 77) rfl (fun hc_64 => ?_) (fun hc_64 => ?_)
                        · skip
                          refine xt_blk rfl rfl (by dsimp only [List.take]) ?_
                          refine xt_icm rfl ?_
                          refine xt_nil (t := 78) rfl ?_
                          refine xt_blk rfl rfl (by dsimp only [List.take]) ?_
                          refine xt_ri rfl (Nat.le_refl _) ?_
                          intro a2 z2 b2 y2 e2
                          simp only [List.cons.injEq, Sum.inl.injEq, and_true] at e2
                          obtain ⟨e2a, e2z, e2b, e2y⟩ := e2
                          subst e2a
                          subst e2z
                          subst e2b
                          subst e2y
                          refine ⟨rfl, rfl, ?_⟩
                          unfold erI
                          try simp only [Int32.not_lt, Int32.not_le] at *
                          repeat' split
                          all_goals first | rfl | (exfalso; simp only [Int32.lt_iff_toInt_lt, Int32.le_iff_toInt_le, ← Int32.toInt_inj] at *; omega)
                        · skip
                          refine xt_iln1 rfl ?_
                          refine xt_iln3 rfl ?_
                          refine xt_cne (t := 77) rfl (fun hc_69 => ?_) (fun hc_69 => ?_)
                          · skip
                            refine xt_blk rfl rfl (by dsimp only [List.take]) ?_
                            refine xt_icm rfl ?_
                            refine xt_nil (t := 78) rfl ?_
                            refine xt_blk rfl rfl (by dsimp only [List.take]) ?_
                            refine xt_ri rfl (Nat.le_refl _) ?_
                            intro a2 z2 b2 y2 e2
                            simp only [List.cons.injEq, Sum.inl.injEq, and_true] at e2
                            obtain ⟨e2a, e2z, e2b, e2y⟩ := e2
                            subst e2a
                            subst e2z
                            subst e2b
                            subst e2y
                            refine ⟨rfl, rfl, ?_⟩
                            unfold erI
                            try simp only [Int32.not_lt, Int32.not_le] at *
                            repeat' split
                            all_goals first | rfl | (exfalso; simp only [Int32.lt_iff_toInt_lt, Int32.le_iff_toInt_le, ← Int32.toInt_inj] at *; omega)
                          · skip
                            refine xt_bi ?_
                            refine xt_goto (t := 78) rfl ?_
                            refine xt_blk rfl rfl (by dsimp only [List.take]) ?_
                            refine xt_ri rfl (Nat.le_refl _) ?_
                            intro a2 z2 b2 y2 e2
                            simp only [List.cons.injEq, Sum.inl.injEq, and_true] at e2
                            obtain ⟨e2a, e2z, e2b, e2y⟩ := e2
                            subst e2a
                            subst e2z
                            subst e2b
                            subst e2y
                            refine ⟨rfl, rfl, ?_⟩
                            unfold erI
                            try simp only [Int32.not_lt, Int32.not_le] at *
                            repeat' split
                            all_goals first | rfl | (exfalso; simp only [Int32.lt_iff_toInt_lt, Int32.le_iff_toInt_le, ← Int32.toInt_inj] at *; omega)
                      · skip
                        refine xt_ic ?_
                        refine xt_ri rfl (Nat.le_refl _) ?_
                        intro a2 z2 b2 y2 e2
                        simp only [List.cons.injEq, Sum.inl.injEq, and_true] at e2
                        obtain ⟨e2a, e2z, e2b, e2y⟩ := e2
                        subst e2a
                        subst e2z
                        subst e2b
                        subst e2y
                        refine ⟨rfl, rfl, ?_⟩
                        unfold erI
                        try simp only [Int32.not_lt, Int32.not_le] at *
                        repeat' split
                        all_goals first | rfl | (exfalso; simp only [Int32.lt_iff_toInt_lt, Int32.le_iff_toInt_le, ← Int32.toInt_inj] at *; omega)
                  · skip
                    refine xt_ic ?_
                    refine xt_ri rfl (Nat.le_refl _) ?_
                    intro a2 z2 b2 y2 e2
                    simp only [List.cons.injEq, Sum.inl.injEq, and_true] at e2
                    obtain ⟨e2a, e2z, e2b, e2y⟩ := e2
                    subst e2a
                    subst e2z
                    subst e2b
                    subst e2y
                    refine ⟨rfl, rfl, ?_⟩
                    unfold erI
                    try simp only [Int32.not_lt, Int32.not_le] at *
                    repeat' split
                    all_goals first | rfl | (exfalso; simp only [Int32.lt_iff_toInt_lt, Int32.le_iff_toInt_le, ← Int32.toInt_inj] at *; omega)
              · skip
                refine xt_ic ?_
                refine xt_ri rfl (Nat.le_refl _) ?_
                intro a2 z2 b2 y2 e2
                simp only [List.cons.injEq, Sum.inl.injEq, and_true] at e2
                obtain ⟨e2a, e2z, e2b, e2y⟩ := e2
                subst e2a
                subst e2z
                subst e2b
                subst e2y
                refine ⟨rfl, rfl, ?_⟩
                unfold erI
                try simp only [Int32.not_lt, Int32.not_le] at *
                repeat' split
                all_goals first | rfl | (exfalso; simp only [Int32.lt_iff_toInt_lt, Int32.le_iff_toInt_le, ← Int32.toInt_inj] at *; omega)
          · skip
            refine xt_ic ?_
            refine xt_ri rfl (Nat.le_refl _) ?_
            intro a2 z2 b2 y2 e2
            simp only [List.cons.injEq, Sum.inl.injEq, and_true] at e2
            obtain ⟨e2a, e2z, e2b, e2y⟩ := e2
            subst e2a
            subst e2z
            subst e2b
            subst e2y
            refine ⟨rfl, rfl, ?_⟩
            unfold erI
            try simp only [Int32.not_lt, Int32.not_le] at *
            repeat' split
            all_goals first | rfl | (exfalso; simp only [Int32.lt_iff_toInt_lt, Int32.le_iff_toInt_le, ← Int32.toInt_inj] at *; omega)
      · skip
        refine xt_ic ?_
        refine xt_ri rfl (Nat.le_refl _) ?_
        intro a2 z2 b2 y2 e2
        simp only [List.cons.injEq, Sum.inl.injEq, and_true] at e2
        obtain ⟨e2a, e2z, e2b, e2y⟩ := e2
        subst e2a
        subst e2z
        subst e2b
        subst e2y
        refine ⟨rfl, rfl, ?_⟩
        unfold erI
        try simp only [Int32.not_lt, Int32.not_le] at *
        repeat' split
        all_goals first | rfl | (exfalso; simp only [Int32.lt_iff_toInt_lt, Int32.le_iff_toInt_le, ← Int32.toInt_inj] at *; omega)
    · skip
      refine xt_ic ?_
      refine xt_ri rfl (Nat.le_refl _) ?_
      intro a2 z2 b2 y2 e2
      simp only [List.cons.injEq, Sum.inl.injEq, and_true] at e2
      obtain ⟨e2a, e2z, e2b, e2y⟩ := e2
      subst e2a
      subst e2z
      subst e2b
      subst e2y
      refine ⟨rfl, rfl, ?_⟩
      unfold erI
      try simp only [Int32.not_lt, Int32.not_le] at *
      repeat' split
      all_goals first | rfl | (exfalso; simp only [Int32.lt_iff_toInt_lt, Int32.le_iff_toInt_le, ← Int32.toInt_inj] at *; omega)
  · intro μ pc ls st S2 M2 cs sl h; exact h.elim
def q_X7_relation : x_K := (4, fun as S M => ∃ (a z b y : Int32), a < z ∧ b < y ∧ as = [.inl a, .inl z, .inl b, .inl y], fun as S M rv_ S' M' => ∀ (a z b y : Int32), a < z → b < y → as = [.inl a, .inl z, .inl b, .inl y] → S' = S ∧ M' = M ∧ rv_ = some (.inl (nI (bw a z b y))), 0, 0)
def b_X7_relation : x_B := [(0, 4, [(.iload_n 3, 1), (.iload_n 0, 1), (.if_icmp .gt 16, 3), (.iload_n 3, 1), (.iload_n 0, 1), (.if_icmp .ge 8, 3), (.bipush 12, 2), (.goto 5, 3)]),
  (15, 4, [(.bipush 11, 2)]),
  (17, 4, [(.ireturn, 1)]),
  (18, 4, [(.iload_n 0, 1), (.iload_n 1, 1), (.iload_n 2, 1), (.iload_n 3, 1), (.invokestatic 74, 3), (.istore 4, 2), (.iload 4, 2), (.ifCond .lt 8, 3), (.iload 4, 2), (.goto 13, 3)]),
  (37, 5, [(.bipush 12, 2), (.iload_n 2, 1), (.iload_n 3, 1), (.iload_n 0, 1), (.iload_n 1, 1), (.invokestatic 74, 3), (.isub, 1)]),
  (47, 5, [(.ireturn, 1)])]
theorem b_X7_relation_ok : x_okB cX7_relation 5 b_X7_relation = true := by decide +kernel
def X_X7_relation : x_X := ([], [], [], [], [(222, q_X7_early)], (0, 0), x_kn, x_kf, 5, false)
theorem X_X7_relation_ok : x_okT RX7 X_X7_relation = true := by decide +kernel
theorem k_X7_relation (l : Launch) : ∀ z ∈ X_X7_relation.2.2.2.2.1, x_Cal l (x_rm 2 0 0) cX7_relation RX7 5 z.1 z.2 := List.forall_mem_cons.mpr ⟨x_cal_S (idx := 74) (c_X7_early l) ⟨by decide, by decide⟩ (by decide +kernel) (by decide +kernel) (by decide +kernel) (by decide +kernel) (by decide +kernel), fun _ h => absurd h List.not_mem_nil⟩
set_option maxHeartbeats 4000000 in
set_option maxRecDepth 100000 in
theorem c_X7_relation (l : Launch) : x_CT l yX7_relation cX7_relation 5 (some .int) 2 q_X7_relation := by
  refine x_meth (X := X_X7_relation) (bl := b_X7_relation) (cut := []) (own := RX7) 30 (by decide) rfl X_X7_relation_ok b_X7_relation_ok rfl (Nat.le_of_ble_eq_true rfl) (k_X7_relation l) ?_
  rintro as S M - ⟨a, z, b, y, h1, h2, rfl⟩
  refine ⟨fun _ _ _ _ _ _ _ _ => False, ?_, ?_⟩
  · skip
    refine xt_blk rfl rfl (by dsimp only [List.take]) ?_
    refine xt_iln3 rfl ?_
    refine xt_iln0 rfl ?_
    refine xt_cgt (t := 18) rfl (fun hc_2 => ?_) (fun hc_2 => ?_)
    · skip
      refine xt_blk rfl rfl (by dsimp only [List.take]) ?_
      refine xt_iln0 rfl ?_
      refine xt_iln1 rfl ?_
      refine xt_iln2 rfl ?_
      refine xt_iln3 rfl ?_
      refine xt_v4 (key := 222) (q := q_X7_early) rfl rfl rfl rfl rfl ⟨Nat.le_of_ble_eq_true rfl, Nat.le_of_ble_eq_true rfl⟩ ⟨_, _, _, _, rfl⟩ (fun rv_ S1 M1 hq_22 => ?_)
      obtain ⟨eS_, eM_, rfl⟩ := hq_22 _ _ _ _ rfl
      replace eS_ := eS_.symm
      replace eM_ := eM_.symm
      subst eS_ eM_
      try dsimp only [Option.toList, List.cons_append, List.nil_append]
      refine xt_ist rfl (by dsimp only [x_sto]) ?_
      refine xt_ild rfl ?_
      refine xt_lt (t := 37) rfl (fun hc_29 => ?_) (fun hc_29 => ?_)
      · skip
        refine xt_blk rfl rfl (by dsimp only [List.take]) ?_
        refine xt_bi ?_
        refine xt_iln2 rfl ?_
        refine xt_iln3 rfl ?_
        refine xt_iln0 rfl ?_
        refine xt_iln1 rfl ?_
        refine xt_v4 (key := 222) (q := q_X7_early) rfl rfl rfl rfl rfl ⟨Nat.le_of_ble_eq_true rfl, Nat.le_of_ble_eq_true rfl⟩ ⟨_, _, _, _, rfl⟩ (fun rv_ S1 M1 hq_43 => ?_)
        obtain ⟨eS_, eM_, rfl⟩ := hq_43 _ _ _ _ rfl
        replace eS_ := eS_.symm
        replace eM_ := eM_.symm
        subst eS_ eM_
        try dsimp only [Option.toList, List.cons_append, List.nil_append]
        refine xt_sub ?_
        refine xt_nil (t := 47) rfl ?_
        refine xt_blk rfl rfl (by dsimp only [List.take]) ?_
        refine xt_ri rfl (Nat.le_refl _) ?_
        intro a2 z2 b2 y2 hh1 hh2 e2
        simp only [List.cons.injEq, Sum.inl.injEq, and_true] at e2
        obtain ⟨rfl, rfl, rfl, rfl⟩ := e2
        refine ⟨rfl, rfl, ?_⟩
        rw [← rl_ok h1 h2]
        unfold rlS
        have e2 : sgI a y = 1 := sg1.mp hc_2
        rw [if_neg (by omega)]
        rw [← erI_S, if_neg (Int32.not_le.mpr hc_29)]
        have e3 := erI_S b y a z
        rw [sgI_c a b, sgI_c a y, sgI_c z y] at e3
        rw [e3]
        rfl
      · skip
        refine xt_ild rfl ?_
        refine xt_goto (t := 47) rfl ?_
        refine xt_blk rfl rfl (by dsimp only [List.take]) ?_
        refine xt_ri rfl (Nat.le_refl _) ?_
        intro a2 z2 b2 y2 hh1 hh2 e2
        simp only [List.cons.injEq, Sum.inl.injEq, and_true] at e2
        obtain ⟨rfl, rfl, rfl, rfl⟩ := e2
        refine ⟨rfl, rfl, ?_⟩
        rw [← rl_ok h1 h2]
        unfold rlS
        have e2 : sgI a y = 1 := sg1.mp hc_2
        rw [if_neg (by omega)]
        rw [← erI_S, if_pos (Int32.not_lt.mp hc_29)]
    · skip
      refine xt_iln3 rfl ?_
      refine xt_iln0 rfl ?_
      refine xt_cge (t := 15) rfl (fun hc_7 => ?_) (fun hc_7 => ?_)
      · skip
        refine xt_blk rfl rfl (by dsimp only [List.take]) ?_
        refine xt_bi ?_
        refine xt_nil (t := 17) rfl ?_
        refine xt_blk rfl rfl (by dsimp only [List.take]) ?_
        refine xt_ri rfl (Nat.le_refl _) ?_
        intro a2 z2 b2 y2 hh1 hh2 e2
        simp only [List.cons.injEq, Sum.inl.injEq, and_true] at e2
        obtain ⟨rfl, rfl, rfl, rfl⟩ := e2
        refine ⟨rfl, rfl, ?_⟩
        rw [← rl_ok h1 h2]
        unfold rlS
        have e2 : sgI a y = 2 := sg2.mp (Int32.le_antisymm hc_7 (Int32.not_lt.mp hc_2))
        rw [if_pos (Or.inl e2), e2]
        rfl
      · skip
        refine xt_bi ?_
        refine xt_goto (t := 17) rfl ?_
        refine xt_blk rfl rfl (by dsimp only [List.take]) ?_
        refine xt_ri rfl (Nat.le_refl _) ?_
        intro a2 z2 b2 y2 hh1 hh2 e2
        simp only [List.cons.injEq, Sum.inl.injEq, and_true] at e2
        obtain ⟨rfl, rfl, rfl, rfl⟩ := e2
        refine ⟨rfl, rfl, ?_⟩
        rw [← rl_ok h1 h2]
        unfold rlS
        have e2 : sgI a y = 4 := sg4.mp (Int32.not_le.mp hc_7)
        rw [if_pos (Or.inr e2), e2]
        rfl
  · intro μ pc ls st S2 M2 cs sl h; exact h.elim
