/-! THE SHAPE of all that the law makes; Integer.bitCount; Search.pairToSplit -/
def SH : List x_S := [.inl (4, [some 1, some 26, some 33, some 40, some 43, some 52]),
  .inl (2, [some 2, some 3, some 4, some 7, none, none]),
  .inr (.inl (false, 30)),
  .inr (.inl (false, 30)),
  .inr (.inr [5, 6]),
  .inr (.inl (false, 30)),
  .inr (.inl (false, 30)),
  .inr (.inl (true, 30)),
  .inl (1, [some 9]),
  .inr (.inr [10, 11, 12, 13, 14, 15, 16, 17, 18, 19, 20, 21, 22, 23, 24, 25]),
  .inr (.inl (false, 36)),
  .inr (.inl (false, 36)),
  .inr (.inl (false, 36)),
  .inr (.inl (false, 36)),
  .inr (.inl (false, 36)),
  .inr (.inl (false, 36)),
  .inr (.inl (false, 36)),
  .inr (.inl (false, 36)),
  .inr (.inl (false, 36)),
  .inr (.inl (false, 36)),
  .inr (.inl (false, 36)),
  .inr (.inl (false, 36)),
  .inr (.inl (false, 36)),
  .inr (.inl (false, 36)),
  .inr (.inl (false, 36)),
  .inr (.inl (false, 36)),
  .inl (3, [none, some 1, some 8, some 27, some 28, some 29, some 30, some 31, some 32, none, none, none, none]),
  .inr (.inl (false, 36)),
  .inr (.inl (false, 36)),
  .inr (.inl (false, 36)),
  .inr (.inl (false, 36)),
  .inr (.inl (false, 36)),
  .inr (.inl (false, 12)),
  .inl (3, [none, some 1, some 8, some 34, some 35, some 36, some 37, some 38, some 39, none, none, none, none]),
  .inr (.inl (false, 36)),
  .inr (.inl (false, 36)),
  .inr (.inl (false, 36)),
  .inr (.inl (false, 36)),
  .inr (.inl (false, 36)),
  .inr (.inl (false, 12)),
  .inl (0, [some 41, some 42]),
  .inr (.inl (false, 24)),
  .inr (.inl (true, 6)),
  .inr (.inr [44, 45, 46, 47, 48, 49, 50, 51]),
  .inr (.inl (false, 2)),
  .inr (.inl (false, 2)),
  .inr (.inl (false, 2)),
  .inr (.inl (false, 2)),
  .inr (.inl (false, 2)),
  .inr (.inl (false, 2)),
  .inr (.inl (false, 2)),
  .inr (.inl (false, 2)),
  .inr (.inl (false, 7)),
  .inl (5, [some 54, some 55, some 56, some 57, none, some 58, some 59, some 60, some 61, some 62, some 63, some 64, some 65, some 66, some 67, some 68, some 69, some 70]),
  .inr (.inl (false, 169)),
  .inr (.inl (false, 52)),
  .inr (.inl (false, 13)),
  .inr (.inl (false, 169)),
  .inr (.inl (false, 30)),
  .inr (.inl (false, 30)),
  .inr (.inl (false, 60)),
  .inr (.inl (true, 30)),
  .inr (.inl (false, 16)),
  .inr (.inl (true, 6)),
  .inr (.inl (false, 24)),
  .inr (.inl (false, 7)),
  .inr (.inl (false, 4)),
  .inr (.inl (false, 576)),
  .inr (.inl (false, 15)),
  .inr (.inl (false, 15)),
  .inr (.inl (false, 16))]
def us (a : Int32) (k : Nat) : Int32 := (a.toUInt32 >>> ((nI k).toUInt32 &&& Int32.toUInt32 31)).toInt32
def bcI (x : Int32) : Int32 :=
  let a := x - (us x 1 &&& 1431655765)
  let b := (a &&& 858993459) + (us a 2 &&& 858993459)
  let c := (b + us b 4) &&& 252645135
  let d := c + us c 8
  let e := d + us d 16
  e &&& nI 63
def q_J6_bitCount : x_K := (1, fun as S M => ∃ (x : Int32), as = [.inl x], fun as S M rv_ S' M' => ∀ (x : Int32), as = [.inl x] → S' = S ∧ M' = M ∧ rv_ = some (.inl (bcI x)), 0, 0)
def b_J6_bitCount : x_B := [(0, 1, [(.iload_n 0, 1), (.iload_n 0, 1), (.iconst 1, 1), (.iushr, 1), (.ldc_w 265, 3), (.iand, 1), (.isub, 1), (.istore_n 0, 1), (.iload_n 0, 1), (.ldc_w 266, 3), (.iand, 1), (.iload_n 0, 1), (.iconst 2, 1), (.iushr, 1), (.ldc_w 266, 3), (.iand, 1), (.iadd, 1), (.istore_n 0, 1), (.iload_n 0, 1), (.iload_n 0, 1), (.iconst 4, 1), (.iushr, 1), (.iadd, 1), (.ldc_w 267, 3), (.iand, 1), (.istore_n 0, 1), (.iload_n 0, 1), (.iload_n 0, 1), (.bipush 8, 2), (.iushr, 1), (.iadd, 1), (.istore_n 0, 1), (.iload_n 0, 1), (.iload_n 0, 1), (.bipush 16, 2), (.iushr, 1), (.iadd, 1), (.istore_n 0, 1), (.iload_n 0, 1), (.bipush 63, 2), (.iand, 1), (.ireturn, 1)])]
theorem b_J6_bitCount_ok : x_okB cJ6_bitCount_0f7a4 1 b_J6_bitCount = true := by decide +kernel
def X_J6_bitCount : x_X := ([], [], [(265, 1431655765), (266, 858993459), (267, 252645135)], [], [], (0, 0), x_kn, x_kf, 5, false)
theorem X_J6_bitCount_ok : x_okT RJ6 X_J6_bitCount = true := by decide +kernel
theorem k_J6_bitCount (l : Launch) : ∀ z ∈ X_J6_bitCount.2.2.2.2.1, x_Cal l (x_rm 1 0 0) cJ6_bitCount_0f7a4 RJ6 1 z.1 z.2 := fun _ h => absurd h List.not_mem_nil
set_option maxHeartbeats 4000000 in
set_option maxRecDepth 100000 in
theorem c_J6_bitCount (l : Launch) : x_CT l yJ6_bitCount_0f7a4 cJ6_bitCount_0f7a4 1 (some .int) 1 q_J6_bitCount := by
  refine x_meth (X := X_J6_bitCount) (bl := b_J6_bitCount) (cut := []) (own := RJ6) 30 (by decide) rfl X_J6_bitCount_ok b_J6_bitCount_ok rfl (by decide) (k_J6_bitCount l) ?_
  rintro as S M - ⟨x, rfl⟩
  refine ⟨fun _ _ _ _ _ _ _ _ => False, ?_, ?_⟩
  · skip
    refine xt_blk rfl rfl (by dsimp only [List.take]) ?_
    refine xt_iln0 rfl ?_
    refine xt_iln0 rfl ?_
    refine xt_ic ?_
    refine xt_usr ?_
    refine xt_ldw (v := 1431655765) rfl ?_
    refine xt_and ?_
    refine xt_sub ?_
    refine xt_isn0 rfl (by dsimp only [x_sto]) ?_
    refine xt_iln0 rfl ?_
    refine xt_ldw (v := 858993459) rfl ?_
    refine xt_and ?_
    refine xt_iln0 rfl ?_
    refine xt_ic ?_
    refine xt_usr ?_
    refine xt_ldw (v := 858993459) rfl ?_
    refine xt_and ?_
    refine xt_add ?_
    refine xt_isn0 rfl (by dsimp only [x_sto]) ?_
    refine xt_iln0 rfl ?_
    refine xt_iln0 rfl ?_
    refine xt_ic ?_
    refine xt_usr ?_
    refine xt_add ?_
    refine xt_ldw (v := 252645135) rfl ?_
    refine xt_and ?_
    refine xt_isn0 rfl (by dsimp only [x_sto]) ?_
    refine xt_iln0 rfl ?_
    refine xt_iln0 rfl ?_
    refine xt_bi ?_
    refine xt_usr ?_
    refine xt_add ?_
    refine xt_isn0 rfl (by dsimp only [x_sto]) ?_
    refine xt_iln0 rfl ?_
    refine xt_iln0 rfl ?_
    refine xt_bi ?_
    refine xt_usr ?_
    refine xt_add ?_
    refine xt_isn0 rfl (by dsimp only [x_sto]) ?_
    refine xt_iln0 rfl ?_
    refine xt_bi ?_
    refine xt_and ?_
    refine xt_ri rfl (Nat.le_refl _) ?_
    intro x2 e2
    simp only [List.cons.injEq, Sum.inl.injEq, and_true] at e2
    have e2x := e2
    subst e2x
    exact ⟨rfl, rfl, rfl⟩
  · intro μ pc ls st S2 M2 cs sl h; exact h.elim
theorem bc_all : ∀ a, a < 128 → ∀ b, b < 64 → bcI (nI (a * 64 + b)) = nI (pcn (a * 64 + b) 13) := by decide +kernel
theorem bc_ok {n : Nat} (h : n < 8192) : bcI (nI n) = nI (pcn n 13) := by
  have := bc_all (n / 64) (by omega) (n % 64) (by omega)
  rw [show n / 64 * 64 + n % 64 = n by omega] at this
  exact this
/-- the set of pair p -/
def pf (f : Nat → Nat) (p : Nat) : Nat := f (fsT p * 6 + scT p)
def q_X3_pairToSplit : x_K := (1, fun as S M => ∃ (k : Nat) (f : Nat → Nat), k < 1000 ∧ S[k]? = some (.inr (.inl (false, 36))) ∧ (∀ j, j < 36 → f j < 8192 ∧ M k j = nI (f j)) ∧ as = [.inr (.inl k)], fun as S M rv_ S' M' => ∀ (k : Nat) (f : Nat → Nat), (∀ j, j < 36 → f j < 8192 ∧ M k j = nI (f j)) → as = [.inr (.inl k)] → S' = S ∧ M' = M ∧ ((∃ p, p < 15 ∧ ¬ pln (pf f p) ∧ rv_ = some (.inl (nI p))) ∨ ((∀ p, p < 15 → pln (pf f p)) ∧ rv_ = some (.inl (-(nI 1))))), 0, 0)
def b_X3_pairToSplit : x_B := [(0, 1, [(.iconst (-1), 1), (.istore_n 1, 1), (.bipush 14, 2), (.istore_n 2, 1), (.iconst 0, 1), (.istore_n 3, 1)]),
  (7, 4, [(.iload_n 3, 1), (.bipush 15, 2), (.if_icmp .ge 51, 3), (.aload_n 0, 1), (.iload_n 3, 1), (.invokestatic 44, 3), (.bipush 6, 2), (.imul, 1), (.iload_n 3, 1), (.invokestatic 48, 3), (.iadd, 1), (.iaload, 1), (.istore 4, 2), (.iload 4, 2), (.invokestatic 51, 3), (.istore 5, 2), (.iload 5, 2), (.iload_n 2, 1), (.if_icmp .ge 16, 3), (.iload 4, 2), (.invokestatic 56, 3), (.ifCond .ne 8, 3), (.iload_n 3, 1), (.istore_n 1, 1), (.iload 5, 2), (.istore_n 2, 1)]),
  (55, 6, [(.iinc 3 1, 3), (.goto (-51), 3)]),
  (61, 4, [(.iload_n 1, 1), (.ireturn, 1)])]
theorem b_X3_pairToSplit_ok : x_okB cX3_pairToSplit 6 b_X3_pairToSplit = true := by decide +kernel
def X_X3_pairToSplit : x_X := ([], [], [], [], [(132, q_X1_firstOf), (144, q_X1_secondOf), (153, q_J6_bitCount), (168, q_X2_isPlain)], (0, 0), x_kn, x_kf, 5, false)
theorem X_X3_pairToSplit_ok : x_okT RX3 X_X3_pairToSplit = true := by decide +kernel
theorem k_X3_pairToSplit (l : Launch) : ∀ z ∈ X_X3_pairToSplit.2.2.2.2.1, x_Cal l (x_rm 3 0 0) cX3_pairToSplit RX3 6 z.1 z.2 := List.forall_mem_cons.mpr ⟨x_cal_S (idx := 44) (c_X1_firstOf l) ⟨by decide, by decide⟩ (by decide +kernel) (by decide +kernel) (by decide +kernel) (by decide +kernel) (by decide +kernel), List.forall_mem_cons.mpr ⟨x_cal_S (idx := 48) (c_X1_secondOf l) ⟨by decide, by decide⟩ (by decide +kernel) (by decide +kernel) (by decide +kernel) (by decide +kernel) (by decide +kernel), List.forall_mem_cons.mpr ⟨x_cal_S (idx := 51) (c_J6_bitCount l) ⟨by decide, by decide⟩ (by decide +kernel) (by decide +kernel) (by decide +kernel) (by decide +kernel) (by decide +kernel), List.forall_mem_cons.mpr ⟨x_cal_S (idx := 56) (c_X2_isPlain l) ⟨by decide, by decide⟩ (by decide +kernel) (by decide +kernel) (by decide +kernel) (by decide +kernel) (by decide +kernel), fun _ h => absurd h List.not_mem_nil⟩⟩⟩⟩
set_option maxHeartbeats 4000000 in
set_option maxRecDepth 100000 in
theorem c_X3_pairToSplit (l : Launch) : x_CT l yX3_pairToSplit cX3_pairToSplit 6 (some .int) 3 q_X3_pairToSplit := by
  refine x_meth (X := X_X3_pairToSplit) (bl := b_X3_pairToSplit) (cut := [7]) (own := RX3) 30 (by decide) rfl X_X3_pairToSplit_ok b_X3_pairToSplit_ok rfl (by decide) (k_X3_pairToSplit l) ?_
  rintro as S M - ⟨k, f, hk, hsh, hf, rfl⟩
  refine ⟨fun μ pc ls st S' M' cs sl => ∃ p best fw, p ≤ 15 ∧ fw ≤ 14 ∧ ((best = -(nI 1) ∧ fw = 14 ∧ ∀ q, q < p → pln (pf f q)) ∨ (∃ b, b < 15 ∧ ¬ pln (pf f b) ∧ best = nI b)) ∧ pc = 7 ∧ st = [] ∧ S' = S ∧ M' = M ∧ cs = 0 ∧ sl = 0 ∧ ls = [.inr (.inl k), .inl best, .inl (nI fw), .inl (nI p)] ∧ μ = 15 - p, ?_, ?_⟩
  · skip
    refine xt_blk rfl rfl (by dsimp only [List.take]) ?_
    refine xt_icm rfl ?_
    refine xt_isn1 rfl (by dsimp only [x_sto]) ?_
    refine xt_bi ?_
    refine xt_isn2 rfl (by dsimp only [x_sto]) ?_
    refine xt_ic ?_
    refine xt_isn3 rfl (by dsimp only [x_sto]) ?_
    refine xt_nil (t := 7) rfl ?_
    refine xt_cut rfl rfl (by dsimp only [List.take]) ?_
    exact ⟨15, 0, -(nI 1), 14, by omega, by omega, Or.inl ⟨rfl, rfl, fun q hq => by omega⟩, rfl, rfl, rfl, rfl, rfl, rfl, rfl, rfl⟩
  · rintro μ pc ls st S2 M2 cs sl (⟨p, best, fw, hp, hfw, hbest, rfl, rfl, rfl, rfl, rfl, rfl, rfl, rfl⟩)
    · refine ⟨_, rfl, ?_⟩
      refine xt_iln3 rfl ?_
      refine xt_bi ?_
      refine xt_cge (t := 61) rfl (fun hc_10 => ?_) (fun hc_10 => ?_)
      · skip
        refine xt_blk rfl rfl (by dsimp only [List.take]) ?_
        refine xt_iln1 rfl ?_
        refine xt_ri rfl (Nat.le_refl _) ?_
        have h15 : p = 15 := by rw [nI_leI (by omega) (by omega)] at hc_10; omega
        subst h15
        intro k2 f2 hf2 e2
        simp only [List.cons.injEq, Sum.inr.injEq, Sum.inl.injEq, and_true] at e2
        subst e2
        have ef : ∀ q, q < 15 → pf f q = pf f2 q := fun q hq => by
          obtain ⟨f1, f2', f3, f4⟩ := fs_ok q hq
          have hj : fsT q * 6 + scT q < 36 := by omega
          have h1 := (hf _ hj).2
          rw [(hf2 _ hj).2] at h1
          exact ((nI_eq (by have := (hf2 _ hj).1; omega) (by have := (hf _ hj).1; omega)).mp h1).symm
        refine ⟨rfl, rfl, ?_⟩
        rcases hbest with ⟨h1, -, h2⟩ | ⟨b, hb1, hb2, hb3⟩
        · exact Or.inr ⟨fun q hq => by rw [← ef q hq]; exact h2 q hq, by rw [h1]⟩
        · exact Or.inl ⟨b, hb1, by rw [← ef b hb1]; exact hb2, by rw [hb3]⟩
      · skip
        refine xt_aln0 rfl (by first | decide | omega | assumption) ?_
        refine xt_iln3 rfl ?_
        refine xt_v1 (key := 132) (q := q_X1_firstOf) rfl rfl rfl rfl rfl (by decide) ⟨p, (by rw [nI_leI (by omega) (by omega)] at hc_10; omega), rfl⟩ (fun rv_ S1 M1 hq_15 => ?_)
        obtain ⟨eS_, eM_, rfl⟩ := hq_15 p (by rw [nI_leI (by omega) (by omega)] at hc_10; omega) rfl
        replace eS_ := eS_.symm
        replace eM_ := eM_.symm
        subst eS_ eM_
        dsimp only [Option.toList, List.cons_append, List.nil_append]
        refine xt_bi ?_
        refine xt_mul ?_
        refine xt_iln3 rfl ?_
        refine xt_v1 (key := 144) (q := q_X1_secondOf) rfl rfl rfl rfl rfl (by decide) ⟨p, (by rw [nI_leI (by omega) (by omega)] at hc_10; omega), rfl⟩ (fun rv_ S1 M1 hq_22 => ?_)
        obtain ⟨eS_, eM_, rfl⟩ := hq_22 p (by rw [nI_leI (by omega) (by omega)] at hc_10; omega) rfl
        replace eS_ := eS_.symm
        replace eM_ := eM_.symm
        subst eS_ eM_
        dsimp only [Option.toList, List.cons_append, List.nil_append]
        refine xt_add ?_
        refine xt_ial (by first | rfl | assumption) (by
              have hp15 : p < 15 := by rw [nI_leI (by omega) (by omega)] at hc_10; omega
              obtain ⟨f1, f2', f3, f4⟩ := fs_ok p hp15
              exact n_ixi f1 f2') ?_
        refine xt_ist rfl (by dsimp only [x_sto]) ?_
        refine xt_ild rfl ?_
        refine xt_v1 (key := 153) (q := q_J6_bitCount) rfl rfl rfl rfl rfl (by decide) ⟨_, rfl⟩ (fun rv_ S1 M1 hq_31 => ?_)
        have hp15 : p < 15 := (by rw [nI_leI (by omega) (by omega)] at hc_10; omega)
        obtain ⟨f1, f2', f3, f4⟩ := fs_ok p hp15
        have eset : M2 k (nI (x_k3.getD p 0) * nI 6 + nI (x_k4.getD p 0)).toNatClampNeg = nI (pf f p) := by
          show M2 k (nI (fsT p) * nI 6 + nI (scT p)).toNatClampNeg = _
          rw [n_ixc f1 f2']
          exact (hf _ (by omega)).2
        have hset : pf f p < 8192 := (hf _ (by omega)).1
        obtain ⟨eS_, eM_, rfl⟩ := hq_31 _ rfl
        replace eS_ := eS_.symm
        replace eM_ := eM_.symm
        subst eS_ eM_
        rw [eset, bc_ok hset]
        dsimp only [Option.toList, List.cons_append, List.nil_append]
        refine xt_ist rfl (by dsimp only [x_sto]) ?_
        refine xt_ild rfl ?_
        refine xt_iln2 rfl ?_
        refine xt_cge (t := 55) rfl (fun hc_39 => ?_) (fun hc_39 => ?_)
        · skip
          refine xt_blk rfl rfl (by dsimp only [List.take]) ?_
          refine xt_inc rfl (by dsimp only [x_sto]) ?_
          refine xt_goto (t := 7) rfl ?_
          refine xt_cut rfl rfl (by dsimp only [List.take]) ?_
          have hlt : p < 15 := by rw [nI_leI (by omega) (by omega)] at hc_10; omega
          have hge : fw ≤ pcn (pf f p) 13 := by rw [nI_leI (by have := pcn_13 (pf f p) 13; omega) (by have := pcn_13 (pf f p) 13; omega)] at hc_39; exact hc_39
          rcases hbest with ⟨-, h14, -⟩ | ⟨b, hb1, hb2, hb3⟩
          · have := pcn_13 (pf f p) 13; omega
          · exact ⟨15 - (p + 1), by omega, p + 1, best, fw, by omega, by omega, Or.inr ⟨b, by omega, hb2, hb3⟩, rfl, rfl, rfl, rfl, rfl, rfl, by rw [nI_add], rfl⟩
        · skip
          refine xt_ild rfl ?_
          refine xt_v1 (key := 168) (q := q_X2_isPlain) rfl rfl rfl rfl rfl (by decide) ⟨pf f p, hset, rfl⟩ (fun rv_ S1 M1 hq_44 => ?_)
          obtain ⟨eS_, eM_, hcs⟩ := hq_44 (pf f p) hset rfl
          replace eS_ := eS_.symm
          replace eM_ := eM_.symm
          subst eS_ eM_
          have hex : ∃ v, rv_ = some (.inl v) := by rcases hcs with ⟨-, e⟩ | ⟨-, e⟩ <;> exact ⟨_, e⟩
          obtain ⟨v, rfl⟩ := hex
          dsimp only [Option.toList, List.cons_append, List.nil_append]
          refine xt_ne (t := 55) rfl (fun hc_47 => ?_) (fun hc_47 => ?_)
          · skip
            refine xt_blk rfl rfl (by dsimp only [List.take]) ?_
            refine xt_inc rfl (by dsimp only [x_sto]) ?_
            refine xt_goto (t := 7) rfl ?_
            refine xt_cut rfl rfl (by dsimp only [List.take]) ?_
            have hlt : p < 15 := by rw [nI_leI (by omega) (by omega)] at hc_10; omega
            have hpl : pln (pf f p) := by
              rcases hcs with ⟨q, -⟩ | ⟨-, e⟩
              · exact q
              · cases e; exact absurd rfl hc_47
            refine ⟨15 - (p + 1), by omega, p + 1, best, fw, by omega, by omega, ?_, rfl, rfl, rfl, rfl, rfl, rfl, by rw [nI_add], rfl⟩
            rcases hbest with ⟨h1, h14, h2⟩ | ⟨b, hb1, hb2, hb3⟩
            · refine Or.inl ⟨h1, h14, fun q hq => ?_⟩
              by_cases e : q = p
              · rw [e]; exact hpl
              · exact h2 q (by omega)
            · exact Or.inr ⟨b, by omega, hb2, hb3⟩
          · skip
            refine xt_iln3 rfl ?_
            refine xt_isn1 rfl (by dsimp only [x_sto]) ?_
            refine xt_ild rfl ?_
            refine xt_isn2 rfl (by dsimp only [x_sto]) ?_
            refine xt_nil (t := 55) rfl ?_
            refine xt_blk rfl rfl (by dsimp only [List.take]) ?_
            refine xt_inc rfl (by dsimp only [x_sto]) ?_
            refine xt_goto (t := 7) rfl ?_
            refine xt_cut rfl rfl (by dsimp only [List.take]) ?_
            have hlt : p < 15 := by rw [nI_leI (by omega) (by omega)] at hc_10; omega
            have hpl : ¬ pln (pf f p) := by
              rcases hcs with ⟨-, e⟩ | ⟨q, -⟩
              · cases e; exact absurd hc_47 (by decide)
              · exact q
            have := pcn_13 (pf f p) 13
            exact ⟨15 - (p + 1), by omega, p + 1, nI p, pcn (pf f p) 13, by omega, by omega, Or.inr ⟨p, by omega, hpl, rfl⟩, rfl, rfl, rfl, rfl, rfl, rfl, by rw [nI_add], rfl⟩
