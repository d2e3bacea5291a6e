/-! RELATIONS: the leaves -/
/-- bit i of n -/
def bi (n i : Nat) : Nat := n / 2 ^ i % 2
theorem bi_lt (n i : Nat) : bi n i < 2 := Nat.mod_lt _ (by decide)
def tq (n : Nat) : Nat → Nat
  | 0 => 0
  | i + 1 => 2 * tq n i + bi n i
def tn (n : Nat) : Nat := tq n 13
theorem tq_lt (n : Nat) : ∀ i, tq n i < 2 ^ i
  | 0 => by simp [tq]
  | i + 1 => by
    have h1 := tq_lt n i
    have h2 := bi_lt n i
    rw [Nat.pow_succ]
    unfold tq
    omega
theorem tn_lt (n : Nat) : tn n < 8192 := tq_lt n 13
theorem n_pw {i : Nat} (h : i ≤ 13) : 2 ^ i ≤ 8192 := Nat.pow_le_pow_right (by decide) h
theorem n_or2 {a b : Nat} (hb : b < 2) : 2 * a ||| b = 2 * a + b := by
  have := Nat.two_pow_add_eq_or_of_lt (i := 1) (b := b) (by omega) a
  rw [Nat.pow_one] at this
  exact this.symm
/-- T over the bits of n below i, together -/
def fo (T : Nat → Nat) (n : Nat) : Nat → Nat
  | 0 => 0
  | i + 1 => if bi n i = 1 then fo T n i ||| T i else fo T n i
theorem fo_lt {T : Nat → Nat} {n k : Nat} (hT : ∀ j, T j < 2 ^ k) : ∀ i, fo T n i < 2 ^ k
  | 0 => Nat.two_pow_pos k
  | i + 1 => by
    unfold fo
    split
    · exact Nat.or_lt_two_pow (fo_lt hT i) (hT i)
    · exact fo_lt hT i
theorem x_kf_eq (c j : Nat) : x_kf c j = nI ((x_kt c).getD j 0) := rfl
def sgT (j : Nat) : Nat := x_k0.getD j 0
def cmT (j : Nat) : Nat := x_k1.getD j 0
def neT (j : Nat) : Nat := x_k2.getD j 0
theorem getD_lt {L : List Nat} {b : Nat} (h : L.all (fun x => decide (x < b)) = true) (hb : 0 < b) (j : Nat) : L.getD j 0 < b := by
  rw [List.getD_eq_getElem?_getD]
  cases hj : L[j]? with
  | none => exact hb
  | some x => exact of_decide_eq_true (List.all_eq_true.mp h x (List.mem_of_getElem? hj))
theorem sgT_lt (j : Nat) : sgT j < 2 ^ 15 := getD_lt (by decide) (by decide) j
theorem cmT_lt (j : Nat) : cmT j < 2 ^ 13 := getD_lt (by decide) (by decide) j
theorem neT_lt (j : Nat) : neT j < 2 ^ 13 := getD_lt (by decide) (by decide) j
def q_X2_turn : x_K := (1, fun as _ _ => ∃ n, n < 8192 ∧ as = [.inl (nI n)], fun as S M r S' M' => ∀ n, n < 8192 → as = [.inl (nI n)] → S' = S ∧ M' = M ∧ r = some (.inl (nI (tn n))), 0, 0)
def b_X2_turn : x_B := [(0, 1, [(.iconst 0, 1), (.istore_n 1, 1), (.iconst 0, 1), (.istore_n 2, 1)]),
  (4, 3, [(.iload_n 2, 1), (.bipush 13, 2), (.if_icmp .ge 19, 3), (.iload_n 1, 1), (.iconst 1, 1), (.ishl, 1), (.iload_n 0, 1), (.iload_n 2, 1), (.ishr, 1), (.iconst 1, 1), (.iand, 1), (.ior, 1), (.istore_n 1, 1), (.iinc 2 1, 3), (.goto (-19), 3)]),
  (26, 3, [(.iload_n 1, 1), (.ireturn, 1)])]
theorem b_X2_turn_ok : x_okB cX2_turn 3 b_X2_turn = true := by decide +kernel
def X_X2_turn : x_X := ([], [], [], [], [], (0, 0), x_kn, x_kf, 5, false)
theorem X_X2_turn_ok : x_okT RX2 X_X2_turn = true := by decide +kernel
theorem k_X2_turn (l : Launch) : ∀ z ∈ X_X2_turn.2.2.2.2.1, x_Cal l (x_rm 1 0 0) cX2_turn RX2 3 z.1 z.2 := fun _ h => absurd h List.not_mem_nil
set_option maxHeartbeats 4000000 in
set_option maxRecDepth 100000 in
theorem c_X2_turn (l : Launch) : x_CT l yX2_turn cX2_turn 3 (some .int) 1 q_X2_turn := by
  refine x_meth (X := X_X2_turn) (bl := b_X2_turn) (cut := [4]) (own := RX2) 30 (by decide) rfl X_X2_turn_ok b_X2_turn_ok rfl (by decide) (k_X2_turn l) ?_
  rintro as S M - ⟨n, hn, rfl⟩
  refine ⟨fun μ pc ls st S' M' cs sl => ∃ i, i ≤ 13 ∧ pc = 4 ∧ st = [] ∧ S' = S ∧ M' = M ∧ cs = 0 ∧ sl = 0 ∧ ls = [.inl (nI n), .inl (nI (tq n i)), .inl (nI i)] ∧ μ = 13 - i, ?_, ?_⟩
  · skip
    refine xt_blk rfl rfl (by dsimp only [List.take]) ?_
    refine xt_ic ?_
    refine xt_isn1 rfl (by dsimp only [x_sto]) ?_
    refine xt_ic ?_
    refine xt_isn2 rfl (by dsimp only [x_sto]) ?_
    refine xt_nil (t := 4) rfl ?_
    refine xt_cut rfl rfl (by dsimp only [List.take]) ?_
    exact ⟨13, 0, by omega, rfl, rfl, rfl, rfl, rfl, rfl, rfl, rfl⟩
  · rintro μ pc ls st S2 M2 cs sl (⟨i, hi, rfl, rfl, rfl, rfl, rfl, rfl, rfl, rfl⟩)
    · refine ⟨_, rfl, ?_⟩
      refine xt_iln2 rfl ?_
      refine xt_bi ?_
      refine xt_cge (t := 26) rfl (fun hc_7 => ?_) (fun hc_7 => ?_)
      · skip
        refine xt_blk rfl rfl (by dsimp only [List.take]) ?_
        refine xt_iln1 rfl ?_
        refine xt_ri rfl (Nat.le_refl _) ?_
        have h13 : i = 13 := by rw [nI_leI (by omega) (by omega)] at hc_7; omega
        subst h13
        intro n2 hn2 e2
        have e3 : n = n2 := by simpa [nI_eq (show n < 2 ^ 31 by omega) (show n2 < 2 ^ 31 by omega)] using e2
        subst e3
        exact ⟨rfl, rfl, rfl⟩
      · skip
        refine xt_iln1 rfl ?_
        refine xt_ic ?_
        refine xt_shl ?_
        refine xt_iln0 rfl ?_
        refine xt_iln2 rfl ?_
        refine xt_shr ?_
        refine xt_ic ?_
        refine xt_and ?_
        refine xt_or ?_
        refine xt_isn1 rfl (by dsimp only [x_sto]) ?_
        refine xt_inc rfl (by dsimp only [x_sto]) ?_
        refine xt_goto (t := 4) rfl ?_
        refine xt_cut rfl rfl (by dsimp only [List.take]) ?_
        have hlt : i < 13 := by rw [nI_leI (by omega) (by omega)] at hc_7; omega
        have hp := n_pw hi
        have ht := tq_lt n i
        have hb := bi_lt n i
        have e : nI (tq n i) <<< (nI 1 &&& 31) ||| nI n >>> (nI i &&& 31) &&& nI 1 = nI (tq n (i + 1)) := by
          rw [n_bit (by omega) (by omega), n_shl (by omega) (by omega), n_or]
          show nI (tq n i * 2 ||| bi n i) = _
          rw [Nat.mul_comm, n_or2 hb]
          rfl
        exact ⟨13 - (i + 1), by omega, i + 1, by omega, rfl, rfl, rfl, rfl, rfl, rfl, by rw [e, nI_add], rfl⟩
