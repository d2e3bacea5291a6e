/-! CONSTRUCTORS, the small ones -/
def Sg (n : Nat) (o : List (Nat × Nat × List (Option Nat))) : List x_S := o.foldl (fun S q => S.set q.1 (.inl (q.2.1, q.2.2))) (SH.take n)
section XC
variable {X : x_X} {Z : Instr → List x_V → List x_S → x_M → Nat → Nat → Prop} {J : x_J} {c : List (Instr × Nat)} {pc n : Nat} {ls st : List x_V} {S S' : List x_S} {M : x_M} {cs sl a b : Nat}
theorem xt_new {k ci p : Nat} (e : x_lk X.2.2.2.1 k = some ci) (h1 : ci < 6) (hp : S.length = p) (h2 : p < 1000) (hS : S ++ [.inl (ci, x_nf ci)] = S') (ha : cs + 1 = a) (hb : sl + (x_nf ci).length = b) (h3 : a ≤ X.2.2.2.2.2.1.1) (h4 : b ≤ X.2.2.2.2.2.1.2)
    (h : x_wp X Z J c (pc + n) ls (.inr (.inl p) :: st) S' (x_row M p (fun _ => 0)) a b) : x_wp X Z J ((.new k, n) :: c) pc ls st S M cs sl := by
  subst hp ha hb hS
  show x_nwo (x_lk X.2.2.2.1 k) X S M cs sl _
  rw [e]
  exact ⟨h1, h2, h3, h4, h⟩
theorem xt_nwa {t : Jvm.ClassFile.ArrayType} {v p : Nat} (ht : t = .int ∨ t = .boolean) (hv : v ≤ 1000) (hp : S.length = p) (h2 : p < 1000) (hS : S ++ [.inr (.inl (decide (t = .boolean), v))] = S') (ha : cs + 1 = a) (hb : sl + v = b) (h3 : a ≤ X.2.2.2.2.2.1.1) (h4 : b ≤ X.2.2.2.2.2.1.2)
    (h : x_wp X Z J c (pc + n) ls (.inr (.inl p) :: st) S' (x_row M p (fun _ => 0)) a b) : x_wp X Z J ((.newarray t, n) :: c) pc ls (.inl (nI v) :: st) S M cs sl := by
  subst hp ha hb hS
  have e : (nI v).toNatClampNeg = v := nI_clamp (by omega)
  refine ⟨ht, nI_pos (by omega), by rw [e]; exact hv, h2, h3, by rw [e]; exact h4, ?_⟩
  rw [e]
  exact h
theorem xt_mna {k d u v p : Nat} (e : x_lk X.2.2.2.1 k = some 99) (hv : v ≤ 1000) (hu : u ≤ 1000) (hp : S.length = p) (h2 : p + 1 + u ≤ 1000) (hS : (S ++ [.inr (.inr ((List.range u).map (fun i => p + 1 + i)))]) ++ List.replicate u (.inr (.inl (false, v))) = S') (ha : cs + 1 + u = a) (hb : sl + u + u * v = b) (h3 : a ≤ X.2.2.2.2.2.1.1) (h4 : b ≤ X.2.2.2.2.2.1.2)
    (h : x_wp X Z J c (pc + n) ls (.inr (.inl p) :: st) S' (x_zr M p (1 + u)) a b) : x_wp X Z J ((.multianewarray k d, n) :: c) pc ls (.inl (nI v) :: .inl (nI u) :: st) S M cs sl := by
  subst hp ha hb hS
  have e1 : (nI v).toNatClampNeg = v := nI_clamp (by omega)
  have e2 : (nI u).toNatClampNeg = u := nI_clamp (by omega)
  show x_mna (x_lk X.2.2.2.1 k) X S M cs sl (fun st S M cs sl => x_wp X Z J c (pc + n) ls st S M cs sl) (.inl (nI v) :: .inl (nI u) :: st)
  rw [e]
  refine ⟨rfl, nI_pos (by omega), nI_pos (by omega), by rw [e1]; exact hv, by rw [e2]; exact h2, by rw [e2]; omega, by rw [e1, e2]; omega, ?_⟩
  rw [e1, e2]
  exact h
theorem xt_al1 {i : Instr} {key A B : Nat} {q : x_K} {a1 : x_V} (hi : x_key i = some key) (e : x_lk X.2.2.2.2.1 key = some q) (h1 : q.1 = 1) (h2 : Nat.ble st.length 8 = true) (h3 : q.2.2.2 = (A, B)) (ha : cs + A = a) (hb : sl + B = b) (h4 : a ≤ X.2.2.2.2.2.1.1) (h4b : b ≤ X.2.2.2.2.2.1.2) (h5 : q.2.1 [a1] S M)
    (h : ∀ (r : Option x_V) (S' : List x_S) (M' : x_M), q.2.2.1 [a1] S M r S' M' → x_wp X Z J c (pc + n) ls (r.toList ++ st) S' M' a b) : x_wp X Z J ((i, n) :: c) pc ls (a1 :: st) S M cs sl := by
  obtain ⟨q1, q2, q3, q4⟩ := q
  cases h3
  cases h1
  subst ha hb
  have hle := Nat.le_of_ble_eq_true h2
  exact xt_inv hi e (Nat.ble_eq.mpr (by simp)) (Nat.ble_eq.mpr (by simp; omega)) h4 h4b (by simpa using h5) (by simpa using h)
theorem xt_al4 {i : Instr} {key A B : Nat} {q : x_K} {a1 a2 a3 a4 : x_V} (hi : x_key i = some key) (e : x_lk X.2.2.2.2.1 key = some q) (h1 : q.1 = 4) (h2 : Nat.ble st.length 8 = true) (h3 : q.2.2.2 = (A, B)) (ha : cs + A = a) (hb : sl + B = b) (h4 : a ≤ X.2.2.2.2.2.1.1) (h4b : b ≤ X.2.2.2.2.2.1.2) (h5 : q.2.1 [a1, a2, a3, a4] S M)
    (h : ∀ (r : Option x_V) (S' : List x_S) (M' : x_M), q.2.2.1 [a1, a2, a3, a4] S M r S' M' → x_wp X Z J c (pc + n) ls (r.toList ++ st) S' M' a b) : x_wp X Z J ((i, n) :: c) pc ls (a4 :: a3 :: a2 :: a1 :: st) S M cs sl := by
  obtain ⟨q1, q2, q3, q4⟩ := q
  cases h3
  cases h1
  subst ha hb
  have hle := Nat.le_of_ble_eq_true h2
  exact xt_inv hi e (Nat.ble_eq.mpr (by simp)) (Nat.ble_eq.mpr (by simp; omega)) h4 h4b (by simpa using h5) (by simpa using h)
end XC
theorem x_zr_in {M : x_M} {a n k : Nat} (h : a ≤ k ∧ k < a + n) : x_zr M a n k = fun _ => 0 := if_pos h
theorem x_zr_out {M : x_M} {a n k : Nat} (h : ¬ (a ≤ k ∧ k < a + n)) : x_zr M a n k = M k := if_neg h
def q_X4_init : x_K := (1, fun as S M => S = Sg 2 [(0, 4, [some 9999, some 9999, some 9999, some 9999, some 9999, some 9999]), (1, 2, [some 9999, some 9999, some 9999, some 9999, none, none])] ∧ as = [.inr (.inl 1)], fun as S M rv_ S' M' => as = [.inr (.inl 1)] → S' = Sg 8 [(0, 4, [some 9999, some 9999, some 9999, some 9999, some 9999, some 9999])] ∧ (∀ k, 1 < k → k < 8 → M' k = fun _ => 0) ∧ (∀ k, k ≤ 1 ∨ 8 ≤ k → M' k = M k) ∧ rv_ = none, 6, 152)
theorem r_X4_init : ∀ as S M, q_X4_init.2.1 as S M → ∃ (k : Nat) (as' : List x_V), as = .inr (.inl k) :: as' ∧ k < 1000 := by
  rintro as S M ⟨rfl, rfl⟩
  exact ⟨1, _, rfl, by decide⟩
def b_X4_init : x_B := [(0, 1, [(.aload_n 0, 1), (.invokespecial 3, 3), (.aload_n 0, 1), (.bipush 30, 2), (.newarray .int, 2), (.putfield 9, 3), (.aload_n 0, 1), (.bipush 30, 2), (.newarray .int, 2), (.putfield 15, 3), (.aload_n 0, 1), (.iconst 2, 1), (.bipush 30, 2), (.multianewarray 18 2, 4), (.putfield 20, 3), (.aload_n 0, 1), (.bipush 30, 2), (.newarray .boolean, 2), (.putfield 23, 3), (.return_, 1)])]
theorem b_X4_init_ok : x_okB cX4_init 1 b_X4_init = true := by decide +kernel
def X_X4_init : x_X := ([(9, 2, 0), (15, 2, 1), (20, 2, 2), (23, 2, 3)], [], [], [(18, 99)], [(11, x_qO)], (6, 152), x_kn, x_kf, 5, true)
theorem X_X4_init_ok : x_okT RX4 X_X4_init = true := by decide +kernel
theorem k_X4_init (l : Launch) : ∀ z ∈ X_X4_init.2.2.2.2.1, x_Cal l (x_rm 1 6 152) cX4_init RX4 1 z.1 z.2 := List.forall_mem_cons.mpr ⟨x_cal_O (idx := 3) ⟨by decide, by decide⟩ (by decide +kernel) (by decide +kernel) (by decide +kernel), fun _ h => absurd h List.not_mem_nil⟩
set_option maxHeartbeats 8000000 in
set_option maxRecDepth 100000 in
theorem c_X4_init (l : Launch) : x_CT l yX4_init cX4_init 1 none 1 q_X4_init := by
  refine x_meth (X := X_X4_init) (bl := b_X4_init) (cut := []) (own := RX4) 30 (by decide) rfl X_X4_init_ok b_X4_init_ok rfl (Nat.le_of_ble_eq_true rfl) (k_X4_init l) ?_
  rintro as S M - ⟨rfl, rfl⟩
  · skip
    refine ⟨fun _ _ _ _ _ _ _ _ => False, ?_, ?_⟩
    · skip
      refine xt_blk rfl rfl (by dsimp only [List.take]) ?_
      refine xt_aln0 rfl (by decide) ?_
      refine xt_v1 (key := 11) (q := x_qO) rfl rfl rfl rfl rfl ⟨Nat.le_of_ble_eq_true rfl, Nat.le_of_ble_eq_true rfl⟩ ⟨1, by decide, rfl⟩ (fun rv_ S1 M_1 hq_1 => ?_)
      obtain ⟨er_, eS_, eM_⟩ := hq_1
      subst er_ eS_ eM_
      try dsimp only [Option.toList, List.cons_append, List.nil_append]
      refine xt_aln0 rfl (by decide) ?_
      refine xt_bi ?_
      refine xt_nwa (v := 30) (p := 2) (S' := Sg 3 [(0, 4, [some 9999, some 9999, some 9999, some 9999, some 9999, some 9999]), (1, 2, [some 9999, some 9999, some 9999, some 9999, none, none])]) (a := 1) (b := 30) (Or.inl rfl) (by decide) (by rfl) (by decide) (by rfl) rfl rfl (Nat.le_of_ble_eq_true rfl) (Nat.le_of_ble_eq_true rfl) ?_
      refine xt_pfr (q := (2, 0)) (S' := Sg 3 [(0, 4, [some 9999, some 9999, some 9999, some 9999, some 9999, some 9999]), (1, 2, [some 2, some 9999, some 9999, some 9999, none, none])]) rfl (by rfl) rfl (by decide) (by decide) rfl (by rfl) ?_
      refine xt_aln0 rfl (by decide) ?_
      refine xt_bi ?_
      refine xt_nwa (v := 30) (p := 3) (S' := Sg 4 [(0, 4, [some 9999, some 9999, some 9999, some 9999, some 9999, some 9999]), (1, 2, [some 2, some 9999, some 9999, some 9999, none, none])]) (a := 2) (b := 60) (Or.inl rfl) (by decide) (by rfl) (by decide) (by rfl) rfl rfl (Nat.le_of_ble_eq_true rfl) (Nat.le_of_ble_eq_true rfl) ?_
      refine xt_pfr (q := (2, 1)) (S' := Sg 4 [(0, 4, [some 9999, some 9999, some 9999, some 9999, some 9999, some 9999]), (1, 2, [some 2, some 3, some 9999, some 9999, none, none])]) rfl (by rfl) rfl (by decide) (by decide) rfl (by rfl) ?_
      refine xt_aln0 rfl (by decide) ?_
      refine xt_ic ?_
      refine xt_bi ?_
      refine xt_mna (u := 2) (v := 30) (p := 4) (S' := Sg 7 [(0, 4, [some 9999, some 9999, some 9999, some 9999, some 9999, some 9999]), (1, 2, [some 2, some 3, some 9999, some 9999, none, none])]) (a := 5) (b := 122) rfl (by decide) (by decide) (by rfl) (by decide) (by rfl) rfl rfl (Nat.le_of_ble_eq_true rfl) (Nat.le_of_ble_eq_true rfl) ?_
      refine xt_pfr (q := (2, 2)) (S' := Sg 7 [(0, 4, [some 9999, some 9999, some 9999, some 9999, some 9999, some 9999]), (1, 2, [some 2, some 3, some 4, some 9999, none, none])]) rfl (by rfl) rfl (by decide) (by decide) rfl (by rfl) ?_
      refine xt_aln0 rfl (by decide) ?_
      refine xt_bi ?_
      refine xt_nwa (v := 30) (p := 7) (S' := Sg 8 [(0, 4, [some 9999, some 9999, some 9999, some 9999, some 9999, some 9999]), (1, 2, [some 2, some 3, some 4, some 9999, none, none])]) (a := 6) (b := 152) (Or.inr rfl) (by decide) (by rfl) (by decide) (by rfl) rfl rfl (Nat.le_of_ble_eq_true rfl) (Nat.le_of_ble_eq_true rfl) ?_
      refine xt_pfr (q := (2, 3)) (S' := Sg 8 [(0, 4, [some 9999, some 9999, some 9999, some 9999, some 9999, some 9999])]) rfl (by rfl) rfl (by decide) (by decide) rfl (by rfl) ?_
      refine xt_rv rfl (Nat.le_of_ble_eq_true rfl) ?_
      intro e2
      refine ⟨rfl, fun k h1 h2 => ?_, fun k hk => ?_, rfl⟩
      · rcases (show k = 2 ∨ k = 3 ∨ k = 4 ∨ k = 5 ∨ k = 6 ∨ k = 7 by omega) with rfl | rfl | rfl | rfl | rfl | rfl <;> rfl
      · rw [x_row_ne _ _ (by omega), x_zr_out (by omega), x_row_ne _ _ (by omega), x_row_ne _ _ (by omega)]
    · intro μ pc ls st S2 M2 cs sl h; exact h.elim
def q_X3_init : x_K := (1, fun as S M => S = Sg 9 [(0, 4, [some 1, some 9999, some 9999, some 9999, some 9999, some 9999]), (8, 1, [some 9999])] ∧ as = [.inr (.inl 8)], fun as S M rv_ S' M' => as = [.inr (.inl 8)] → S' = Sg 26 [(0, 4, [some 1, some 9999, some 9999, some 9999, some 9999, some 9999])] ∧ (∀ k, 8 < k → k < 26 → M' k = fun _ => 0) ∧ (∀ k, k ≤ 8 ∨ 26 ≤ k → M' k = M k) ∧ rv_ = none, 17, 592)
theorem r_X3_init : ∀ as S M, q_X3_init.2.1 as S M → ∃ (k : Nat) (as' : List x_V), as = .inr (.inl k) :: as' ∧ k < 1000 := by
  rintro as S M ⟨rfl, rfl⟩
  exact ⟨8, _, rfl, by decide⟩
def b_X3_init : x_B := [(0, 1, [(.aload_n 0, 1), (.invokespecial 5, 3), (.aload_n 0, 1), (.bipush 16, 2), (.bipush 36, 2), (.multianewarray 13 2, 4), (.putfield 15, 3), (.return_, 1)])]
theorem b_X3_init_ok : x_okB cX3_init 1 b_X3_init = true := by decide +kernel
def X_X3_init : x_X := ([(15, 1, 0)], [], [], [(13, 99)], [(17, x_qO)], (17, 592), x_kn, x_kf, 5, true)
theorem X_X3_init_ok : x_okT RX3 X_X3_init = true := by decide +kernel
theorem k_X3_init (l : Launch) : ∀ z ∈ X_X3_init.2.2.2.2.1, x_Cal l (x_rm 1 17 592) cX3_init RX3 1 z.1 z.2 := List.forall_mem_cons.mpr ⟨x_cal_O (idx := 5) ⟨by decide, by decide⟩ (by decide +kernel) (by decide +kernel) (by decide +kernel), fun _ h => absurd h List.not_mem_nil⟩
set_option maxHeartbeats 8000000 in
set_option maxRecDepth 100000 in
theorem c_X3_init (l : Launch) : x_CT l yX3_init cX3_init 1 none 1 q_X3_init := by
  refine x_meth (X := X_X3_init) (bl := b_X3_init) (cut := []) (own := RX3) 30 (by decide) rfl X_X3_init_ok b_X3_init_ok rfl (Nat.le_of_ble_eq_true rfl) (k_X3_init l) ?_
  rintro as S M - ⟨rfl, rfl⟩
  · skip
    refine ⟨fun _ _ _ _ _ _ _ _ => False, ?_, ?_⟩
    · skip
      refine xt_blk rfl rfl (by dsimp only [List.take]) ?_
      refine xt_aln0 rfl (by decide) ?_
      refine xt_v1 (key := 17) (q := x_qO) rfl rfl rfl rfl rfl ⟨Nat.le_of_ble_eq_true rfl, Nat.le_of_ble_eq_true rfl⟩ ⟨8, by decide, rfl⟩ (fun rv_ S1 M_1 hq_1 => ?_)
      obtain ⟨er_, eS_, eM_⟩ := hq_1
      subst er_ eS_ eM_
      try dsimp only [Option.toList, List.cons_append, List.nil_append]
      refine xt_aln0 rfl (by decide) ?_
      refine xt_bi ?_
      refine xt_bi ?_
      refine xt_mna (u := 16) (v := 36) (p := 9) (S' := Sg 26 [(0, 4, [some 1, some 9999, some 9999, some 9999, some 9999, some 9999]), (8, 1, [some 9999])]) (a := 17) (b := 592) rfl (by decide) (by decide) (by rfl) (by decide) (by rfl) rfl rfl (Nat.le_of_ble_eq_true rfl) (Nat.le_of_ble_eq_true rfl) ?_
      refine xt_pfr (q := (1, 0)) (S' := Sg 26 [(0, 4, [some 1, some 9999, some 9999, some 9999, some 9999, some 9999])]) rfl (by rfl) rfl (by decide) (by decide) rfl (by rfl) ?_
      refine xt_rv rfl (Nat.le_of_ble_eq_true rfl) ?_
      intro e2
      refine ⟨rfl, fun k h1 h2 => ?_, fun k hk => ?_, rfl⟩
      · exact x_zr_in (by omega)
      · exact x_zr_out (by omega)
    · intro μ pc ls st S2 M2 cs sl h; exact h.elim
def q_X0_init : x_K := (1, fun as S M => S = Sg 41 [(0, 4, [some 1, some 26, some 33, some 9999, some 9999, some 9999]), (40, 0, [some 9999, some 9999])] ∧ as = [.inr (.inl 40)], fun as S M rv_ S' M' => as = [.inr (.inl 40)] → S' = Sg 43 [(0, 4, [some 1, some 26, some 33, some 9999, some 9999, some 9999])] ∧ (∀ k, 40 < k → k < 43 → M' k = fun _ => 0) ∧ (∀ k, k ≤ 40 ∨ 43 ≤ k → M' k = M k) ∧ rv_ = none, 2, 30)
theorem r_X0_init : ∀ as S M, q_X0_init.2.1 as S M → ∃ (k : Nat) (as' : List x_V), as = .inr (.inl k) :: as' ∧ k < 1000 := by
  rintro as S M ⟨rfl, rfl⟩
  exact ⟨40, _, rfl, by decide⟩
def b_X0_init : x_B := [(0, 1, [(.aload_n 0, 1), (.invokespecial 3, 3), (.aload_n 0, 1), (.bipush 24, 2), (.newarray .int, 2), (.putfield 11, 3), (.aload_n 0, 1), (.bipush 6, 2), (.newarray .boolean, 2), (.putfield 15, 3), (.return_, 1)])]
theorem b_X0_init_ok : x_okB cX0_init 1 b_X0_init = true := by decide +kernel
def X_X0_init : x_X := ([(11, 0, 0), (15, 0, 1)], [], [], [], [(11, x_qO)], (2, 30), x_kn, x_kf, 5, true)
theorem X_X0_init_ok : x_okT RX0 X_X0_init = true := by decide +kernel
theorem k_X0_init (l : Launch) : ∀ z ∈ X_X0_init.2.2.2.2.1, x_Cal l (x_rm 1 2 30) cX0_init RX0 1 z.1 z.2 := List.forall_mem_cons.mpr ⟨x_cal_O (idx := 3) ⟨by decide, by decide⟩ (by decide +kernel) (by decide +kernel) (by decide +kernel), fun _ h => absurd h List.not_mem_nil⟩
set_option maxHeartbeats 8000000 in
set_option maxRecDepth 100000 in
theorem c_X0_init (l : Launch) : x_CT l yX0_init cX0_init 1 none 1 q_X0_init := by
  refine x_meth (X := X_X0_init) (bl := b_X0_init) (cut := []) (own := RX0) 30 (by decide) rfl X_X0_init_ok b_X0_init_ok rfl (Nat.le_of_ble_eq_true rfl) (k_X0_init l) ?_
  rintro as S M - ⟨rfl, rfl⟩
  · skip
    refine ⟨fun _ _ _ _ _ _ _ _ => False, ?_, ?_⟩
    · skip
      refine xt_blk rfl rfl (by dsimp only [List.take]) ?_
      refine xt_aln0 rfl (by decide) ?_
      refine xt_v1 (key := 11) (q := x_qO) rfl rfl rfl rfl rfl ⟨Nat.le_of_ble_eq_true rfl, Nat.le_of_ble_eq_true rfl⟩ ⟨40, by decide, rfl⟩ (fun rv_ S1 M_1 hq_1 => ?_)
      obtain ⟨er_, eS_, eM_⟩ := hq_1
      subst er_ eS_ eM_
      try dsimp only [Option.toList, List.cons_append, List.nil_append]
      refine xt_aln0 rfl (by decide) ?_
      refine xt_bi ?_
      refine xt_nwa (v := 24) (p := 41) (S' := Sg 42 [(0, 4, [some 1, some 26, some 33, some 9999, some 9999, some 9999]), (40, 0, [some 9999, some 9999])]) (a := 1) (b := 24) (Or.inl rfl) (by decide) (by rfl) (by decide) (by rfl) rfl rfl (Nat.le_of_ble_eq_true rfl) (Nat.le_of_ble_eq_true rfl) ?_
      refine xt_pfr (q := (0, 0)) (S' := Sg 42 [(0, 4, [some 1, some 26, some 33, some 9999, some 9999, some 9999]), (40, 0, [some 41, some 9999])]) rfl (by rfl) rfl (by decide) (by decide) rfl (by rfl) ?_
      refine xt_aln0 rfl (by decide) ?_
      refine xt_bi ?_
      refine xt_nwa (v := 6) (p := 42) (S' := Sg 43 [(0, 4, [some 1, some 26, some 33, some 9999, some 9999, some 9999]), (40, 0, [some 41, some 9999])]) (a := 2) (b := 30) (Or.inr rfl) (by decide) (by rfl) (by decide) (by rfl) rfl rfl (Nat.le_of_ble_eq_true rfl) (Nat.le_of_ble_eq_true rfl) ?_
      refine xt_pfr (q := (0, 1)) (S' := Sg 43 [(0, 4, [some 1, some 26, some 33, some 9999, some 9999, some 9999])]) rfl (by rfl) rfl (by decide) (by decide) rfl (by rfl) ?_
      refine xt_rv rfl (Nat.le_of_ble_eq_true rfl) ?_
      intro e2
      refine ⟨rfl, fun k h1 h2 => ?_, fun k hk => ?_, rfl⟩
      · rcases (show k = 41 ∨ k = 42 by omega) with rfl | rfl <;> rfl
      · rw [x_row_ne _ _ (by omega), x_row_ne _ _ (by omega)]
    · intro μ pc ls st S2 M2 cs sl h; exact h.elim
def SWa (q : Nat) : List x_S := if q = 26 then Sg 27 [(0, 4, [some 1, some 9999, some 9999, some 9999, some 9999, some 9999]), (26, 3, [none, some 9999, some 9999, some 9999, some 9999, some 9999, some 9999, some 9999, some 9999, none, none, none, none])] else Sg 34 [(0, 4, [some 1, some 26, some 9999, some 9999, some 9999, some 9999]), (33, 3, [none, some 9999, some 9999, some 9999, some 9999, some 9999, some 9999, some 9999, some 9999, none, none, none, none])]
def SWb (q : Nat) : List x_S := if q = 26 then Sg 33 [(0, 4, [some 1, some 9999, some 9999, some 9999, some 9999, some 9999])] else Sg 40 [(0, 4, [some 1, some 26, some 9999, some 9999, some 9999, some 9999])]
def q_X5_init : x_K := (4, fun as S M => ∃ (q : Nat), isWy q ∧ S = SWa q ∧ as = [.inr (.inl q), .inl (nI (wo q)), .inr (.inl 1), .inr (.inl 8)], fun as S M rv_ S' M' => ∀ (q : Nat), isWy q → as = [.inr (.inl q), .inl (nI (wo q)), .inr (.inl 1), .inr (.inl 8)] → S' = SWb q ∧ (M' q 0 = nI (wo q) ∧ M' q 9 = -(nI 1)) ∧ (∀ k, q < k → k ≤ q + 6 → M' k = fun _ => 0) ∧ (∀ k, k < q ∨ q + 6 < k → M' k = M k) ∧ rv_ = none, 6, 192)
theorem r_X5_init : ∀ as S M, q_X5_init.2.1 as S M → ∃ (k : Nat) (as' : List x_V), as = .inr (.inl k) :: as' ∧ k < 1000 := by
  rintro as S M ⟨q, hw, rfl, rfl⟩
  exact ⟨q, _, rfl, by have := isWy_lt hw; omega⟩
def b_X5_init : x_B := [(0, 4, [(.aload_n 0, 1), (.invokespecial 3, 3), (.aload_n 0, 1), (.iload_n 1, 1), (.putfield 9, 3), (.aload_n 0, 1), (.aload_n 2, 1), (.putfield 15, 3), (.aload_n 0, 1), (.aload_n 3, 1), (.putfield 19, 3), (.aload_n 0, 1), (.bipush 36, 2), (.newarray .int, 2), (.putfield 25, 3), (.aload_n 0, 1), (.bipush 36, 2), (.newarray .int, 2), (.putfield 29, 3), (.aload_n 0, 1), (.bipush 36, 2), (.newarray .int, 2), (.putfield 32, 3), (.aload_n 0, 1), (.bipush 36, 2), (.newarray .int, 2), (.putfield 35, 3), (.aload_n 0, 1), (.bipush 36, 2), (.newarray .int, 2), (.putfield 38, 3), (.aload_n 0, 1), (.bipush 12, 2), (.newarray .int, 2), (.putfield 41, 3), (.aload_n 0, 1), (.iconst (-1), 1), (.putfield 44, 3), (.return_, 1)])]
theorem b_X5_init_ok : x_okB cX5_init 4 b_X5_init = true := by decide +kernel
def X_X5_init : x_X := ([(9, 3, 0), (15, 3, 1), (19, 3, 2), (25, 3, 3), (29, 3, 4), (32, 3, 5), (35, 3, 6), (38, 3, 7), (41, 3, 8), (44, 3, 9)], [], [], [], [(11, x_qO)], (6, 192), x_kn, x_kf, 5, true)
theorem X_X5_init_ok : x_okT RX5 X_X5_init = true := by decide +kernel
theorem k_X5_init (l : Launch) : ∀ z ∈ X_X5_init.2.2.2.2.1, x_Cal l (x_rm 1 6 192) cX5_init RX5 4 z.1 z.2 := List.forall_mem_cons.mpr ⟨x_cal_O (idx := 3) ⟨by decide, by decide⟩ (by decide +kernel) (by decide +kernel) (by decide +kernel), fun _ h => absurd h List.not_mem_nil⟩
set_option maxHeartbeats 8000000 in
set_option maxRecDepth 100000 in
theorem c_X5_init (l : Launch) : x_CT l yX5_init cX5_init 4 none 1 q_X5_init := by
  refine x_meth (X := X_X5_init) (bl := b_X5_init) (cut := []) (own := RX5) 30 (by decide) rfl X_X5_init_ok b_X5_init_ok rfl (Nat.le_of_ble_eq_true rfl) (k_X5_init l) ?_
  rintro as S M - ⟨q, (rfl | rfl), rfl, rfl⟩
  · skip
    refine ⟨fun _ _ _ _ _ _ _ _ => False, ?_, ?_⟩
    · skip
      refine xt_blk rfl rfl (by dsimp only [List.take]) ?_
      refine xt_aln0 rfl (by decide) ?_
      refine xt_v1 (key := 11) (q := x_qO) rfl rfl rfl rfl rfl ⟨Nat.le_of_ble_eq_true rfl, Nat.le_of_ble_eq_true rfl⟩ ⟨26, by decide, rfl⟩ (fun rv_ S1 M_1 hq_1 => ?_)
      obtain ⟨er_, eS_, eM_⟩ := hq_1
      subst er_ eS_ eM_
      try dsimp only [Option.toList, List.cons_append, List.nil_append]
      refine xt_aln0 rfl (by decide) ?_
      refine xt_iln1 rfl ?_
      refine xt_pfi (q := (3, 0)) rfl (by rfl) rfl (by decide) (Or.inl rfl) ?_
      refine xt_aln0 rfl (by decide) ?_
      refine xt_aln2 rfl (by decide) ?_
      refine xt_pfr (q := (3, 1)) (S' := Sg 27 [(0, 4, [some 1, some 9999, some 9999, some 9999, some 9999, some 9999]), (26, 3, [none, some 1, some 9999, some 9999, some 9999, some 9999, some 9999, some 9999, some 9999, none, none, none, none])]) rfl (by rfl) rfl (by decide) (by decide) rfl (by rfl) ?_
      refine xt_aln0 rfl (by decide) ?_
      refine xt_aln3 rfl (by decide) ?_
      refine xt_pfr (q := (3, 2)) (S' := Sg 27 [(0, 4, [some 1, some 9999, some 9999, some 9999, some 9999, some 9999]), (26, 3, [none, some 1, some 8, some 9999, some 9999, some 9999, some 9999, some 9999, some 9999, none, none, none, none])]) rfl (by rfl) rfl (by decide) (by decide) rfl (by rfl) ?_
      refine xt_aln0 rfl (by decide) ?_
      refine xt_bi ?_
      refine xt_nwa (v := 36) (p := 27) (S' := Sg 28 [(0, 4, [some 1, some 9999, some 9999, some 9999, some 9999, some 9999]), (26, 3, [none, some 1, some 8, some 9999, some 9999, some 9999, some 9999, some 9999, some 9999, none, none, none, none])]) (a := 1) (b := 36) (Or.inl rfl) (by decide) (by rfl) (by decide) (by rfl) rfl rfl (Nat.le_of_ble_eq_true rfl) (Nat.le_of_ble_eq_true rfl) ?_
      refine xt_pfr (q := (3, 3)) (S' := Sg 28 [(0, 4, [some 1, some 9999, some 9999, some 9999, some 9999, some 9999]), (26, 3, [none, some 1, some 8, some 27, some 9999, some 9999, some 9999, some 9999, some 9999, none, none, none, none])]) rfl (by rfl) rfl (by decide) (by decide) rfl (by rfl) ?_
      refine xt_aln0 rfl (by decide) ?_
      refine xt_bi ?_
      refine xt_nwa (v := 36) (p := 28) (S' := Sg 29 [(0, 4, [some 1, some 9999, some 9999, some 9999, some 9999, some 9999]), (26, 3, [none, some 1, some 8, some 27, some 9999, some 9999, some 9999, some 9999, some 9999, none, none, none, none])]) (a := 2) (b := 72) (Or.inl rfl) (by decide) (by rfl) (by decide) (by rfl) rfl rfl (Nat.le_of_ble_eq_true rfl) (Nat.le_of_ble_eq_true rfl) ?_
      refine xt_pfr (q := (3, 4)) (S' := Sg 29 [(0, 4, [some 1, some 9999, some 9999, some 9999, some 9999, some 9999]), (26, 3, [none, some 1, some 8, some 27, some 28, some 9999, some 9999, some 9999, some 9999, none, none, none, none])]) rfl (by rfl) rfl (by decide) (by decide) rfl (by rfl) ?_
      refine xt_aln0 rfl (by decide) ?_
      refine xt_bi ?_
      refine xt_nwa (v := 36) (p := 29) (S' := Sg 30 [(0, 4, [some 1, some 9999, some 9999, some 9999, some 9999, some 9999]), (26, 3, [none, some 1, some 8, some 27, some 28, some 9999, some 9999, some 9999, some 9999, none, none, none, none])]) (a := 3) (b := 108) (Or.inl rfl) (by decide) (by rfl) (by decide) (by rfl) rfl rfl (Nat.le_of_ble_eq_true rfl) (Nat.le_of_ble_eq_true rfl) ?_
      refine xt_pfr (q := (3, 5)) (S' := Sg 30 [(0, 4, [some 1, some 9999, some 9999, some 9999, some 9999, some 9999]), (26, 3, [none, some 1, some 8, some 27, some 28, some 29, some 9999, some 9999, some 9999, none, none, none, none])]) rfl (by rfl) rfl (by decide) (by decide) rfl (by rfl) ?_
      refine xt_aln0 rfl (by decide) ?_
      refine xt_bi ?_
      refine xt_nwa (v := 36) (p := 30) (S' := Sg 31 [(0, 4, [some 1, some 9999, some 9999, some 9999, some 9999, some 9999]), (26, 3, [none, some 1, some 8, some 27, some 28, some 29, some 9999, some 9999, some 9999, none, none, none, none])]) (a := 4) (b := 144) (Or.inl rfl) (by decide) (by rfl) (by decide) (by rfl) rfl rfl (Nat.le_of_ble_eq_true rfl) (Nat.le_of_ble_eq_true rfl) ?_
      refine xt_pfr (q := (3, 6)) (S' := Sg 31 [(0, 4, [some 1, some 9999, some 9999, some 9999, some 9999, some 9999]), (26, 3, [none, some 1, some 8, some 27, some 28, some 29, some 30, some 9999, some 9999, none, none, none, none])]) rfl (by rfl) rfl (by decide) (by decide) rfl (by rfl) ?_
      refine xt_aln0 rfl (by decide) ?_
      refine xt_bi ?_
      refine xt_nwa (v := 36) (p := 31) (S' := Sg 32 [(0, 4, [some 1, some 9999, some 9999, some 9999, some 9999, some 9999]), (26, 3, [none, some 1, some 8, some 27, some 28, some 29, some 30, some 9999, some 9999, none, none, none, none])]) (a := 5) (b := 180) (Or.inl rfl) (by decide) (by rfl) (by decide) (by rfl) rfl rfl (Nat.le_of_ble_eq_true rfl) (Nat.le_of_ble_eq_true rfl) ?_
      refine xt_pfr (q := (3, 7)) (S' := Sg 32 [(0, 4, [some 1, some 9999, some 9999, some 9999, some 9999, some 9999]), (26, 3, [none, some 1, some 8, some 27, some 28, some 29, some 30, some 31, some 9999, none, none, none, none])]) rfl (by rfl) rfl (by decide) (by decide) rfl (by rfl) ?_
      refine xt_aln0 rfl (by decide) ?_
      refine xt_bi ?_
      refine xt_nwa (v := 12) (p := 32) (S' := Sg 33 [(0, 4, [some 1, some 9999, some 9999, some 9999, some 9999, some 9999]), (26, 3, [none, some 1, some 8, some 27, some 28, some 29, some 30, some 31, some 9999, none, none, none, none])]) (a := 6) (b := 192) (Or.inl rfl) (by decide) (by rfl) (by decide) (by rfl) rfl rfl (Nat.le_of_ble_eq_true rfl) (Nat.le_of_ble_eq_true rfl) ?_
      refine xt_pfr (q := (3, 8)) (S' := Sg 33 [(0, 4, [some 1, some 9999, some 9999, some 9999, some 9999, some 9999])]) rfl (by rfl) rfl (by decide) (by decide) rfl (by rfl) ?_
      refine xt_aln0 rfl (by decide) ?_
      refine xt_icm rfl ?_
      refine xt_pfi (q := (3, 9)) rfl (by rfl) rfl (by decide) (Or.inl rfl) ?_
      refine xt_rv rfl (Nat.le_of_ble_eq_true rfl) ?_
      intro q2 hw2 e2
      simp only [List.cons.injEq, Sum.inr.injEq, Sum.inl.injEq, and_true] at e2
      obtain ⟨rfl, -⟩ := e2
      refine ⟨rfl, ⟨rfl, rfl⟩, fun k h1 h2 => ?_, fun k hk => ?_, rfl⟩
      · rcases (show k = 27 ∨ k = 28 ∨ k = 29 ∨ k = 30 ∨ k = 31 ∨ k = 32 by omega) with rfl | rfl | rfl | rfl | rfl | rfl <;> rfl
      · rw [x_row_ne _ _ (by omega), x_row_ne _ _ (by omega), x_row_ne _ _ (by omega), x_row_ne _ _ (by omega), x_row_ne _ _ (by omega), x_row_ne _ _ (by omega), x_row_ne _ _ (by omega), x_row_ne _ _ (by omega)]
    · intro μ pc ls st S2 M2 cs sl h; exact h.elim
  · skip
    refine ⟨fun _ _ _ _ _ _ _ _ => False, ?_, ?_⟩
    · skip
      refine xt_blk rfl rfl (by dsimp only [List.take]) ?_
      refine xt_aln0 rfl (by decide) ?_
      refine xt_v1 (key := 11) (q := x_qO) rfl rfl rfl rfl rfl ⟨Nat.le_of_ble_eq_true rfl, Nat.le_of_ble_eq_true rfl⟩ ⟨33, by decide, rfl⟩ (fun rv_ S1 M_1 hq_1 => ?_)
      obtain ⟨er_, eS_, eM_⟩ := hq_1
      subst er_ eS_ eM_
      try dsimp only [Option.toList, List.cons_append, List.nil_append]
      refine xt_aln0 rfl (by decide) ?_
      refine xt_iln1 rfl ?_
      refine xt_pfi (q := (3, 0)) rfl (by rfl) rfl (by decide) (Or.inl rfl) ?_
      refine xt_aln0 rfl (by decide) ?_
      refine xt_aln2 rfl (by decide) ?_
      refine xt_pfr (q := (3, 1)) (S' := Sg 34 [(0, 4, [some 1, some 26, some 9999, some 9999, some 9999, some 9999]), (33, 3, [none, some 1, some 9999, some 9999, some 9999, some 9999, some 9999, some 9999, some 9999, none, none, none, none])]) rfl (by rfl) rfl (by decide) (by decide) rfl (by rfl) ?_
      refine xt_aln0 rfl (by decide) ?_
      refine xt_aln3 rfl (by decide) ?_
      refine xt_pfr (q := (3, 2)) (S' := Sg 34 [(0, 4, [some 1, some 26, some 9999, some 9999, some 9999, some 9999]), (33, 3, [none, some 1, some 8, some 9999, some 9999, some 9999, some 9999, some 9999, some 9999, none, none, none, none])]) rfl (by rfl) rfl (by decide) (by decide) rfl (by rfl) ?_
      refine xt_aln0 rfl (by decide) ?_
      refine xt_bi ?_
      refine xt_nwa (v := 36) (p := 34) (S' := Sg 35 [(0, 4, [some 1, some 26, some 9999, some 9999, some 9999, some 9999]), (33, 3, [none, some 1, some 8, some 9999, some 9999, some 9999, some 9999, some 9999, some 9999, none, none, none, none])]) (a := 1) (b := 36) (Or.inl rfl) (by decide) (by rfl) (by decide) (by rfl) rfl rfl (Nat.le_of_ble_eq_true rfl) (Nat.le_of_ble_eq_true rfl) ?_
      refine xt_pfr (q := (3, 3)) (S' := Sg 35 [(0, 4, [some 1, some 26, some 9999, some 9999, some 9999, some 9999]), (33, 3, [none, some 1, some 8, some 34, some 9999, some 9999, some 9999, some 9999, some 9999, none, none, none, none])]) rfl (by rfl) rfl (by decide) (by decide) rfl (by rfl) ?_
      refine xt_aln0 rfl (by decide) ?_
      refine xt_bi ?_
      refine xt_nwa (v := 36) (p := 35) (S' := Sg 36 [(0, 4, [some 1, some 26, some 9999, some 9999, some 9999, some 9999]), (33, 3, [none, some 1, some 8, some 34, some 9999, some 9999, some 9999, some 9999, some 9999, none, none, none, none])]) (a := 2) (b := 72) (Or.inl rfl) (by decide) (by rfl) (by decide) (by rfl) rfl rfl (Nat.le_of_ble_eq_true rfl) (Nat.le_of_ble_eq_true rfl) ?_
      refine xt_pfr (q := (3, 4)) (S' := Sg 36 [(0, 4, [some 1, some 26, some 9999, some 9999, some 9999, some 9999]), (33, 3, [none, some 1, some 8, some 34, some 35, some 9999, some 9999, some 9999, some 9999, none, none, none, none])]) rfl (by rfl) rfl (by decide) (by decide) rfl (by rfl) ?_
      refine xt_aln0 rfl (by decide) ?_
      refine xt_bi ?_
      refine xt_nwa (v := 36) (p := 36) (S' := Sg 37 [(0, 4, [some 1, some 26, some 9999, some 9999, some 9999, some 9999]), (33, 3, [none, some 1, some 8, some 34, some 35, some 9999, some 9999, some 9999, some 9999, none, none, none, none])]) (a := 3) (b := 108) (Or.inl rfl) (by decide) (by rfl) (by decide) (by rfl) rfl rfl (Nat.le_of_ble_eq_true rfl) (Nat.le_of_ble_eq_true rfl) ?_
      refine xt_pfr (q := (3, 5)) (S' := Sg 37 [(0, 4, [some 1, some 26, some 9999, some 9999, some 9999, some 9999]), (33, 3, [none, some 1, some 8, some 34, some 35, some 36, some 9999, some 9999, some 9999, none, none, none, none])]) rfl (by rfl) rfl (by decide) (by decide) rfl (by rfl) ?_
      refine xt_aln0 rfl (by decide) ?_
      refine xt_bi ?_
      refine xt_nwa (v := 36) (p := 37) (S' := Sg 38 [(0, 4, [some 1, some 26, some 9999, some 9999, some 9999, some 9999]), (33, 3, [none, some 1, some 8, some 34, some 35, some 36, some 9999, some 9999, some 9999, none, none, none, none])]) (a := 4) (b := 144) (Or.inl rfl) (by decide) (by rfl) (by decide) (by rfl) rfl rfl (Nat.le_of_ble_eq_true rfl) (Nat.le_of_ble_eq_true rfl) ?_
      refine xt_pfr (q := (3, 6)) (S' := Sg 38 [(0, 4, [some 1, some 26, some 9999, some 9999, some 9999, some 9999]), (33, 3, [none, some 1, some 8, some 34, some 35, some 36, some 37, some 9999, some 9999, none, none, none, none])]) rfl (by rfl) rfl (by decide) (by decide) rfl (by rfl) ?_
      refine xt_aln0 rfl (by decide) ?_
      refine xt_bi ?_
      refine xt_nwa (v := 36) (p := 38) (S' := Sg 39 [(0, 4, [some 1, some 26, some 9999, some 9999, some 9999, some 9999]), (33, 3, [none, some 1, some 8, some 34, some 35, some 36, some 37, some 9999, some 9999, none, none, none, none])]) (a := 5) (b := 180) (Or.inl rfl) (by decide) (by rfl) (by decide) (by rfl) rfl rfl (Nat.le_of_ble_eq_true rfl) (Nat.le_of_ble_eq_true rfl) ?_
      refine xt_pfr (q := (3, 7)) (S' := Sg 39 [(0, 4, [some 1, some 26, some 9999, some 9999, some 9999, some 9999]), (33, 3, [none, some 1, some 8, some 34, some 35, some 36, some 37, some 38, some 9999, none, none, none, none])]) rfl (by rfl) rfl (by decide) (by decide) rfl (by rfl) ?_
      refine xt_aln0 rfl (by decide) ?_
      refine xt_bi ?_
      refine xt_nwa (v := 12) (p := 39) (S' := Sg 40 [(0, 4, [some 1, some 26, some 9999, some 9999, some 9999, some 9999]), (33, 3, [none, some 1, some 8, some 34, some 35, some 36, some 37, some 38, some 9999, none, none, none, none])]) (a := 6) (b := 192) (Or.inl rfl) (by decide) (by rfl) (by decide) (by rfl) rfl rfl (Nat.le_of_ble_eq_true rfl) (Nat.le_of_ble_eq_true rfl) ?_
      refine xt_pfr (q := (3, 8)) (S' := Sg 40 [(0, 4, [some 1, some 26, some 9999, some 9999, some 9999, some 9999])]) rfl (by rfl) rfl (by decide) (by decide) rfl (by rfl) ?_
      refine xt_aln0 rfl (by decide) ?_
      refine xt_icm rfl ?_
      refine xt_pfi (q := (3, 9)) rfl (by rfl) rfl (by decide) (Or.inl rfl) ?_
      refine xt_rv rfl (Nat.le_of_ble_eq_true rfl) ?_
      intro q2 hw2 e2
      simp only [List.cons.injEq, Sum.inr.injEq, Sum.inl.injEq, and_true] at e2
      obtain ⟨rfl, -⟩ := e2
      refine ⟨rfl, ⟨rfl, rfl⟩, fun k h1 h2 => ?_, fun k hk => ?_, rfl⟩
      · rcases (show k = 34 ∨ k = 35 ∨ k = 36 ∨ k = 37 ∨ k = 38 ∨ k = 39 by omega) with rfl | rfl | rfl | rfl | rfl | rfl <;> rfl
      · rw [x_row_ne _ _ (by omega), x_row_ne _ _ (by omega), x_row_ne _ _ (by omega), x_row_ne _ _ (by omega), x_row_ne _ _ (by omega), x_row_ne _ _ (by omega), x_row_ne _ _ (by omega), x_row_ne _ _ (by omega)]
    · intro μ pc ls st S2 M2 cs sl h; exact h.elim
