/-! THE REFERENCE: findNear -/
def mvN (i j x : Nat) : Nat := if j = i / 2 then (if i % 2 = 0 then x + 1 else x - 1) else x
def m0 (k i : Nat) : Nat := mvN i 0 (k % 8 + 1)
def m1 (k i : Nat) : Nat := mvN i 1 (k / 8 % 8 + 1)
def m2 (k i : Nat) : Nat := mvN i 2 (k / 64 % 8 + 1)
def m3 (k i : Nat) : Nat := mvN i 3 (k / 512 + 1)
def rO (k : Nat) : Nat := rN (k % 8) (k / 8 % 8) (k / 64 % 8) (k / 512)
def rM (k i : Nat) : Nat := rN (m0 k i) (m1 k i) (m2 k i) (m3 k i)
def nrC (k i : Nat) : Bool := !(Nat.blt (k % 8) (k / 8 % 8) && Nat.blt (k / 64 % 8) (k / 512) && Nat.blt (m0 k i) (m1 k i) && Nat.blt (m2 k i) (m3 k i)) || Nat.beq (rM k i) (rO k) || (neT (rO k)).testBit (rM k i)
theorem nrC_ok : ∀ h, h < 64 → ∀ l, l < 64 → ∀ i, i < 8 → nrC (h * 64 + l) i = true := by decide +kernel
theorem nr_ok {k i : Nat} (hk : k < 4096) (hi : i < 8) (h1 : k % 8 < k / 8 % 8) (h2 : k / 64 % 8 < k / 512) (h3 : m0 k i < m1 k i) (h4 : m2 k i < m3 k i) (hne : ¬ rM k i = rO k) : (neT (rO k)).testBit (rM k i) = true := by
  have q := nrC_ok (k / 64) (by omega) (k % 64) (by omega) i hi
  rw [show k / 64 * 64 + k % 64 = k by omega] at q
  unfold nrC at q
  rw [Nat.blt_eq.mpr h1, Nat.blt_eq.mpr h2, Nat.blt_eq.mpr h3, Nat.blt_eq.mpr h4] at q
  simp only [Bool.and_self, Bool.not_true, Bool.false_or, Bool.or_eq_true] at q
  rcases q with q | q
  · exact absurd (Nat.eq_of_beq_eq_true q) hne
  · exact q
def neW : List (List Nat) := [[0, 13378, 0, 0, 0, 0, 0, 0, 0, 0, 0, 0, 0], [12868, 0, 12866, 8773, 0, 0, 0, 8770, 0, 0, 0, 0, 0], [0, 12931, 0, 12928, 0, 0, 0, 12930, 0, 0, 0, 0, 0], [0, 8260, 8257, 0, 8261, 0, 8258, 0, 0, 0, 0, 0, 0], [0, 0, 0, 12425, 0, 12426, 0, 0, 0, 0, 0, 0, 0], [0, 0, 0, 0, 8334, 0, 8329, 0, 0, 0, 8330, 8335, 0], [0, 0, 0, 4166, 0, 4165, 0, 4161, 0, 4162, 0, 0, 0], [0, 8835, 8838, 0, 0, 0, 8832, 0, 8834, 0, 0, 0, 0], [0, 0, 0, 0, 0, 0, 0, 8899, 0, 8896, 0, 0, 0], [0, 0, 0, 0, 0, 0, 4227, 0, 4225, 0, 4229, 4224, 0], [0, 0, 0, 0, 0, 8395, 0, 0, 0, 8393, 0, 8392, 0], [0, 0, 0, 0, 0, 4238, 0, 0, 0, 4233, 4302, 0, 4296], [0, 0, 0, 0, 0, 0, 0, 0, 0, 0, 0, 4305, 0]]
def neWc (r s : Nat) : Bool := let n := (neW.getD r []).getD s 0
  Nat.blt n 32768 && Nat.blt (n / 8 % 8) (n / 8 / 8 % 8) && Nat.blt (n / 8 / 64 % 8) (n / 8 / 512) && Nat.blt (m0 (n / 8) (n % 8)) (m1 (n / 8) (n % 8)) && Nat.blt (m2 (n / 8) (n % 8)) (m3 (n / 8) (n % 8)) && Nat.beq (rO (n / 8)) r && Nat.beq (rM (n / 8) (n % 8)) s && !(Nat.beq r s)
theorem neW_ok : ∀ r, r < 13 → ∀ s, s < 13 → ((neT r).testBit s = true → neWc r s = true) := by decide +kernel
def nV (k i : Nat) : Prop := k % 8 < k / 8 % 8 ∧ k / 64 % 8 < k / 512 ∧ m0 k i < m1 k i ∧ m2 k i < m3 k i ∧ ¬ rM k i = rO k
theorem ne_ex {r s : Nat} (hr : r < 13) (hs : s < 13) (h : (neT r).testBit s = true) : ∃ k i, k < 4096 ∧ i < 8 ∧ nV k i ∧ rO k = r ∧ rM k i = s := by
  have q := neW_ok r hr s hs h
  unfold neWc at q
  simp only [Bool.and_eq_true] at q
  obtain ⟨⟨⟨⟨⟨⟨⟨q0, q1⟩, q2⟩, q3⟩, q4⟩, q5⟩, q6⟩, q7⟩ := q
  have e5 := Nat.eq_of_beq_eq_true q5
  have e6 := Nat.eq_of_beq_eq_true q6
  have q0 := Nat.blt_eq.mp q0
  refine ⟨_, _, by omega, Nat.mod_lt _ (by decide), ⟨Nat.blt_eq.mp q1, Nat.blt_eq.mp q2, Nat.blt_eq.mp q3, Nat.blt_eq.mp q4, fun e => ?_⟩, e5, e6⟩
  rw [e5, e6] at e
  subst e
  rw [Nat.beq_refl] at q7
  cases q7
def NeS (g : Nat → Int32) : Prop := ∀ j, j < 13 → ∃ v, g j = nI v ∧ v < 8192 ∧ sb v (neT j)
def NQ (g : Nat → Int32) (n : Nat) : Prop := ∀ k i, k < 4096 → i < 8 → k * 8 + i < n → nV k i → Bs g (rO k) (rM k i)
theorem NQ_n {g : Nat → Int32} {k i : Nat} (hi : i < 8) (h : NQ g (k * 8 + i)) (hq : nV k i → Bs g (rO k) (rM k i)) : NQ g (k * 8 + (i + 1)) := fun k2 i2 h1 h2 h3 h4 => by
  by_cases e : k2 * 8 + i2 < k * 8 + i
  · exact h k2 i2 h1 h2 e h4
  · have e1 : k2 = k ∧ i2 = i := by omega
    obtain ⟨rfl, rfl⟩ := e1
    exact hq h4
theorem NQ_s {g : Nat → Int32} (hS : NeS g) {k i v : Nat} (hk : k < 4096) (hi : i < 8) (h : NQ g (k * 8 + i)) (hv : nV k i) (hg : g (rO k) = nI v) (hl : v < 8192) : NeS (upd g (rO k) (nI (v ||| 2 ^ rM k i))) ∧ NQ (upd g (rO k) (nI (v ||| 2 ^ rM k i))) (k * 8 + (i + 1)) := by
  have r13 : rO k < 13 := rN_lt _ _ _ _
  have s13 : rM k i < 13 := rN_lt _ _ _ _
  have hp : 2 ^ rM k i < 2 ^ 13 := Nat.pow_lt_pow_right (by decide) s13
  have hlt : v ||| 2 ^ rM k i < 8192 := Nat.or_lt_two_pow (n := 13) hl hp
  have hgr : ∀ j t, Bs g j t → Bs (upd g (rO k) (nI (v ||| 2 ^ rM k i))) j t := fun j t q => by
    obtain ⟨u, hu1, hu2, hu3⟩ := q
    by_cases e : j = rO k
    · subst e
      rw [hg, nI_eq (by omega) (by omega)] at hu1
      subst hu1
      exact ⟨_, by unfold upd; rw [if_pos rfl], hlt, by rw [Nat.testBit_or, hu3]; rfl⟩
    · exact ⟨u, by unfold upd; rw [if_neg e]; exact hu1, hu2, hu3⟩
  refine ⟨fun j hj => ?_, NQ_n hi (fun k2 i2 h1 h2 h3 h4 => hgr _ _ (h k2 i2 h1 h2 h3 h4)) (fun _ => ⟨_, by unfold upd; rw [if_pos rfl], hlt, by rw [Nat.testBit_or, Nat.testBit_two_pow_self]; simp⟩)⟩
  by_cases e : j = rO k
  · subst e
    refine ⟨_, by unfold upd; rw [if_pos rfl], hlt, sb_tb.mpr (fun t ht => ?_)⟩
    rw [Nat.testBit_or, Nat.testBit_two_pow, Bool.or_eq_true, decide_eq_true_iff] at ht
    rcases ht with ht | ht
    · obtain ⟨u, hu1, hu2, hu3⟩ := hS _ hj
      rw [hg, nI_eq (by omega) (by omega)] at hu1
      subst hu1
      exact sb_tb.mp hu3 t ht
    · subst ht
      exact nr_ok hk hi hv.1 hv.2.1 hv.2.2.1 hv.2.2.2.1 hv.2.2.2.2
  · obtain ⟨u, hu⟩ := hS j hj
    exact ⟨u, by unfold upd; rw [if_neg e]; exact hu.1, hu.2⟩
theorem ne_fin {g : Nat → Int32} (hS : NeS g) (h : NQ g 32768) : ∀ j, j < 13 → g j = nI (neT j) := fun j hj => by
  obtain ⟨v, h1, h2, h3⟩ := hS j hj
  have e : v = neT j := by
    refine tb_ext h2 (neT_lt j) (fun t ht => ⟨fun q => sb_tb.mp h3 t q, fun q => ?_⟩)
    obtain ⟨k, i, hk, hi, hv, e1, e2⟩ := ne_ex hj ht q
    obtain ⟨u, u1, u2, u3⟩ := h k i hk hi (by omega) hv
    rw [e1, h1, nI_eq (by omega) (by omega)] at u1
    rw [e2] at u3
    rw [u1]; exact u3
  rw [h1, e]
def F4 (f : Nat → Int32) (v0 v1 v2 v3 : Int32) : Nat → Int32 := upd (upd (upd (upd f 0 v0) 1 v1) 2 v2) 3 v3
theorem F4_0 (f : Nat → Int32) (v0 v1 v2 v3 : Int32) : F4 f v0 v1 v2 v3 0 = v0 := by simp [F4, upd]
theorem F4_1 (f : Nat → Int32) (v0 v1 v2 v3 : Int32) : F4 f v0 v1 v2 v3 1 = v1 := by simp [F4, upd]
theorem F4_2 (f : Nat → Int32) (v0 v1 v2 v3 : Int32) : F4 f v0 v1 v2 v3 2 = v2 := by simp [F4, upd]
theorem F4_3 (f : Nat → Int32) (v0 v1 v2 v3 : Int32) : F4 f v0 v1 v2 v3 3 = v3 := by simp [F4, upd]
theorem c_0 : (nI 0).toNatClampNeg = 0 := nI_clamp (by decide)
theorem c_1 : (nI 1).toNatClampNeg = 1 := nI_clamp (by decide)
theorem c_2 : (nI 2).toNatClampNeg = 2 := nI_clamp (by decide)
theorem c_3 : (nI 3).toNatClampNeg = 3 := nI_clamp (by decide)
def sh (m : Nat) : Int32 := nI m - nI 1
theorem sh_lt : ∀ m, m < 10 → ∀ n, n < 10 → (sh m < sh n ↔ m < n) := by decide
theorem sh_sg : ∀ m, m < 10 → ∀ n, n < 10 → sgI (sh m) (sh n) = sgN m n := by decide
theorem bw_sh {a z b y : Nat} (ha : a < 10) (hz : z < 10) (hb : b < 10) (hy : y < 10) : bw (sh a) (sh z) (sh b) (sh y) = rN a z b y := by
  unfold bw sgs rN
  rw [sh_sg a ha b hb, sh_sg a ha y hy, sh_sg z hz b hb, sh_sg z hz y hy]
theorem sh_p : ∀ x, x < 8 → nI x + nI 1 = sh (x + 1 + 1) := by decide
theorem sh_m : ∀ x, x < 8 → nI x + -(nI 1) = sh (x + 1 - 1) := by decide
theorem sh_0 : ∀ x, x < 8 → nI x = sh (x + 1) := by decide
def dI (i : Nat) : Int32 := if i % 2 = 0 then nI 1 else -(nI 1)
theorem sh_mv {i j x : Nat} (hx : x < 8) : (if j = i / 2 then nI x + dI i else nI x) = sh (mvN i j (x + 1)) := by
  unfold mvN dI
  split
  · split
    · exact sh_p x hx
    · exact sh_m x hx
  · exact sh_0 x hx
theorem mv_lt {i j x : Nat} (hx : x < 8) : mvN i j (x + 1) < 10 := by
  unfold mvN; split <;> (try split) <;> omega
theorem G_v {f : Nat → Int32} {x0 x1 x2 x3 i : Nat} (h0 : x0 < 8) (h1 : x1 < 8) (h2 : x2 < 8) (h3 : x3 < 8) (hi : i < 8) {G : Nat → Int32} (hG : G = upd (F4 f (nI x0) (nI x1) (nI x2) (nI x3)) (i / 2) (F4 f (nI x0) (nI x1) (nI x2) (nI x3) (i / 2) + dI i)) : G 0 = sh (mvN i 0 (x0 + 1)) ∧ G 1 = sh (mvN i 1 (x1 + 1)) ∧ G 2 = sh (mvN i 2 (x2 + 1)) ∧ G 3 = sh (mvN i 3 (x3 + 1)) := by
  subst hG
  refine ⟨?_, ?_, ?_, ?_⟩
  · rw [← sh_mv h0]; unfold upd; split
    · rename_i e; rw [← e, F4_0]
    · exact F4_0 _ _ _ _ _
  · rw [← sh_mv h1]; unfold upd; split
    · rename_i e; rw [← e, F4_1]
    · exact F4_1 _ _ _ _ _
  · rw [← sh_mv h2]; unfold upd; split
    · rename_i e; rw [← e, F4_2]
    · exact F4_2 _ _ _ _ _
  · rw [← sh_mv h3]; unfold upd; split
    · rename_i e; rw [← e, F4_3]
    · exact F4_3 _ _ _ _ _
theorem four_mem (m : x_M) (v0 v1 v2 v3 : Int32) : x_row (x_row (x_row (x_row (m) 66 (upd ((m) 66) (nI 0).toNatClampNeg v0)) 66 (upd ((x_row (m) 66 (upd ((m) 66) (nI 0).toNatClampNeg v0)) 66) (nI 1).toNatClampNeg v1)) 66 (upd ((x_row (x_row (m) 66 (upd ((m) 66) (nI 0).toNatClampNeg v0)) 66 (upd ((x_row (m) 66 (upd ((m) 66) (nI 0).toNatClampNeg v0)) 66) (nI 1).toNatClampNeg v1)) 66) (nI 2).toNatClampNeg v2)) 66 (upd ((x_row (x_row (x_row (m) 66 (upd ((m) 66) (nI 0).toNatClampNeg v0)) 66 (upd ((x_row (m) 66 (upd ((m) 66) (nI 0).toNatClampNeg v0)) 66) (nI 1).toNatClampNeg v1)) 66 (upd ((x_row (x_row (m) 66 (upd ((m) 66) (nI 0).toNatClampNeg v0)) 66 (upd ((x_row (m) 66 (upd ((m) 66) (nI 0).toNatClampNeg v0)) 66) (nI 1).toNatClampNeg v1)) 66) (nI 2).toNatClampNeg v2)) 66) (nI 3).toNatClampNeg v3) = x_row m 66 (F4 (m 66) v0 v1 v2 v3) := by
  simp only [x_row_self, x_row_row, c_0, c_1, c_2, c_3]
  rfl
theorem four_mv (m : x_M) (F : Nat → Int32) (j : Int32) (d : Int32) : x_row (x_row m 66 F) 66 (upd (x_row m 66 F 66) j.toNatClampNeg (x_row m 66 F 66 j.toNatClampNeg + d)) = x_row m 66 (upd F j.toNatClampNeg (F j.toNatClampNeg + d)) := by
  simp only [x_row_self, x_row_row]
def q_X7_findNear : x_K := (1, fun as S M => M 56 = (fun _ => 0) ∧ S = SH ∧ as = [.inr (.inl 53)], fun as S M rv_ S' M' => as = [.inr (.inl 53)] → S' = S ∧ (∀ j, j ≠ 56 → j ≠ 66 → M' j = M j) ∧ T56 M' ∧ rv_ = none, 0, 0)
theorem r_X7_findNear : ∀ as S M, q_X7_findNear.2.1 as S M → ∃ (k : Nat) (as' : List x_V) (fs : List (Option Nat)), as = .inr (.inl k) :: as' ∧ S[k]? = some (.inl (5, fs)) := by
  rintro as S M ⟨-, rfl, rfl⟩
  exact ⟨53, _, _, rfl, rfl⟩
def b_X7_findNear : x_B := [(0, 1, [(.iconst 0, 1), (.istore_n 1, 1)]),
  (2, 2, [(.iload_n 1, 1), (.sipush 4096, 3), (.if_icmp .ge 232, 3), (.iconst 0, 1), (.istore_n 2, 1)]),
  (11, 3, [(.iload_n 2, 1), (.bipush 8, 2), (.if_icmp .ge 218, 3), (.aload_n 0, 1), (.getfield 47, 3), (.iconst 0, 1), (.iload_n 1, 1), (.bipush 8, 2), (.irem, 1), (.iastore, 1), (.aload_n 0, 1), (.getfield 47, 3), (.iconst 1, 1), (.iload_n 1, 1), (.bipush 8, 2), (.idiv, 1), (.bipush 8, 2), (.irem, 1), (.iastore, 1), (.aload_n 0, 1), (.getfield 47, 3), (.iconst 2, 1), (.iload_n 1, 1), (.bipush 64, 2), (.idiv, 1), (.bipush 8, 2), (.irem, 1), (.iastore, 1), (.aload_n 0, 1), (.getfield 47, 3), (.iconst 3, 1), (.iload_n 1, 1), (.sipush 512, 3), (.idiv, 1), (.iastore, 1), (.aload_n 0, 1), (.getfield 47, 3), (.iconst 0, 1), (.iaload, 1), (.aload_n 0, 1), (.getfield 47, 3), (.iconst 1, 1), (.iaload, 1), (.if_icmp .ge 150, 3), (.aload_n 0, 1), (.getfield 47, 3), (.iconst 2, 1), (.iaload, 1), (.aload_n 0, 1), (.getfield 47, 3), (.iconst 3, 1), (.iaload, 1), (.if_icmp .ge 135, 3), (.aload_n 0, 1), (.getfield 47, 3), (.iconst 0, 1), (.iaload, 1), (.aload_n 0, 1), (.getfield 47, 3), (.iconst 1, 1), (.iaload, 1), (.aload_n 0, 1), (.getfield 47, 3), (.iconst 2, 1), (.iaload, 1), (.aload_n 0, 1), (.getfield 47, 3), (.iconst 3, 1), (.iaload, 1), (.invokestatic 78, 3), (.istore_n 3, 1), (.aload_n 0, 1), (.getfield 47, 3), (.iload_n 2, 1), (.iconst 2, 1), (.idiv, 1), (.dup2, 1), (.iaload, 1), (.iload_n 2, 1), (.iconst 2, 1), (.irem, 1), (.ifCond .ne 7, 3), (.iconst 1, 1), (.goto 4, 3)]),
  (141, 4, [(.iconst (-1), 1)]),
  (142, 4, [(.iadd, 1), (.iastore, 1), (.aload_n 0, 1), (.getfield 47, 3), (.iconst 0, 1), (.iaload, 1), (.aload_n 0, 1), (.getfield 47, 3), (.iconst 1, 1), (.iaload, 1), (.if_icmp .ge 70, 3), (.aload_n 0, 1), (.getfield 47, 3), (.iconst 2, 1), (.iaload, 1), (.aload_n 0, 1), (.getfield 47, 3), (.iconst 3, 1), (.iaload, 1), (.if_icmp .ge 55, 3), (.aload_n 0, 1), (.getfield 47, 3), (.iconst 0, 1), (.iaload, 1), (.aload_n 0, 1), (.getfield 47, 3), (.iconst 1, 1), (.iaload, 1), (.aload_n 0, 1), (.getfield 47, 3), (.iconst 2, 1), (.iaload, 1), (.aload_n 0, 1), (.getfield 47, 3), (.iconst 3, 1), (.iaload, 1), (.invokestatic 78, 3), (.istore 4, 2), (.aload_n 0, 1), (.getfield 16, 3), (.iload_n 3, 1), (.dup2, 1), (.iaload, 1), (.iload 4, 2), (.iload_n 3, 1), (.if_icmp .ne 7, 3), (.iconst 0, 1), (.goto 7, 3)]),
  (220, 5, [(.iconst 1, 1), (.iload 4, 2), (.ishl, 1)]),
  (224, 5, [(.ior, 1), (.iastore, 1)]),
  (226, 3, [(.iinc 2 1, 3), (.goto (-218), 3)]),
  (232, 3, [(.iinc 1 1, 3), (.goto (-233), 3)]),
  (238, 2, [(.return_, 1)])]
theorem b_X7_findNear_ok : x_okB cX7_findNear 5 b_X7_findNear = true := by decide +kernel
def X_X7_findNear : x_X := ([(47, 5, 13), (16, 5, 2)], [], [], [], [(234, q_X7_relation)], (0, 0), x_kn, x_kf, 5, false)
theorem X_X7_findNear_ok : x_okT RX7 X_X7_findNear = true := by decide +kernel
theorem k_X7_findNear (l : Launch) : ∀ z ∈ X_X7_findNear.2.2.2.2.1, x_Cal l (x_rm 3 0 0) cX7_findNear RX7 5 z.1 z.2 := List.forall_mem_cons.mpr ⟨x_cal_S (idx := 78) (c_X7_relation l) ⟨by decide, by decide⟩ (by decide +kernel) (by decide +kernel) (by decide +kernel) (by decide +kernel) (by decide +kernel), fun _ h => absurd h List.not_mem_nil⟩
set_option maxHeartbeats 4000000 in
set_option maxRecDepth 100000 in
theorem c_X7_findNear (l : Launch) : x_CT l yX7_findNear cX7_findNear 5 none 3 q_X7_findNear := by
  refine x_meth (X := X_X7_findNear) (bl := b_X7_findNear) (cut := [2, 11]) (own := RX7) 30 (by decide) rfl X_X7_findNear_ok b_X7_findNear_ok rfl (Nat.le_of_ble_eq_true rfl) (k_X7_findNear l) ?_
  rintro as S M - ⟨h56, rfl, rfl⟩
  refine ⟨fun μ pc ls st S' M' cs sl => (∃ (k : Nat), k ≤ 4096 ∧ (∀ j, j ≠ 56 → j ≠ 66 → M' j = M j) ∧ NeS (M' 56) ∧ NQ (M' 56) (k * 8) ∧ pc = 2 ∧ st = [] ∧ S' = SH ∧ cs = 0 ∧ sl = 0 ∧ ls = [.inr (.inl 53), .inl (nI k)] ∧ μ = 20 * (4096 - k) + 10) ∨ (∃ (k i : Nat), k < 4096 ∧ i ≤ 8 ∧ (∀ j, j ≠ 56 → j ≠ 66 → M' j = M j) ∧ NeS (M' 56) ∧ NQ (M' 56) (k * 8 + i) ∧ pc = 11 ∧ st = [] ∧ S' = SH ∧ cs = 0 ∧ sl = 0 ∧ ls = [.inr (.inl 53), .inl (nI k), .inl (nI i)] ∧ μ = 20 * (4096 - k) + (8 - i)), ?_, ?_⟩
  · skip
    refine xt_blk rfl rfl (by dsimp only [List.take]) ?_
    refine xt_ic ?_
    refine xt_isn1 rfl (by dsimp only [x_sto]) ?_
    refine xt_nil (t := 2) rfl ?_
    refine xt_cut rfl rfl (by dsimp only [List.take]) ?_
    exact ⟨_, Or.inl ⟨0, by omega, fun _ _ _ => rfl, by rw [h56]; exact fun j hj => ⟨0, rfl, by decide, by unfold sb; rw [Nat.zero_and]⟩, fun k i _ _ h => by omega, rfl, rfl, rfl, rfl, rfl, rfl, rfl⟩⟩
  · rintro μ pc ls st S2 M2 cs sl (⟨k, hk, hfr, hS, hQ, rfl, rfl, rfl, rfl, rfl, rfl, rfl⟩ | ⟨k, i, hk, hi, hfr, hS, hQ, rfl, rfl, rfl, rfl, rfl, rfl, rfl⟩)
    · refine ⟨_, rfl, ?_⟩
      refine xt_iln1 rfl ?_
      refine xt_si ?_
      refine xt_cge (t := 238) rfl (fun hc_6 => ?_) (fun hc_6 => ?_)
      · skip
        refine xt_blk rfl rfl (by dsimp only [List.take]) ?_
        refine xt_rv rfl (Nat.le_refl _) ?_
        intro e2
        have hk4 : k = 4096 := by rw [nI_leI (by omega) (by omega)] at hc_6; omega
        subst hk4
        exact ⟨rfl, hfr, ne_fin hS hQ, rfl⟩
      · skip
        have hk4 : k < 4096 := by rw [nI_leI (by omega) (by omega)] at hc_6; omega
        refine xt_ic ?_
        refine xt_isn2 rfl (by dsimp only [x_sto]) ?_
        refine xt_nil (t := 11) rfl ?_
        refine xt_cut rfl rfl (by dsimp only [List.take]) ?_
        exact ⟨20 * (4096 - k) + (8 - 0), by omega, Or.inr ⟨k, 0, hk4, by omega, hfr, hS, hQ, rfl, rfl, rfl, rfl, rfl, rfl, rfl⟩⟩
    · refine ⟨_, rfl, ?_⟩
      refine xt_iln2 rfl ?_
      refine xt_bi ?_
      refine xt_cge (t := 232) rfl (fun hc_14 => ?_) (fun hc_14 => ?_)
      · skip
        refine xt_blk rfl rfl (by dsimp only [List.take]) ?_
        refine xt_inc rfl (by dsimp only [x_sto]) ?_
        refine xt_goto (t := 2) rfl ?_
        refine xt_cut rfl rfl (by dsimp only [List.take]) ?_
        have hi8 : i = 8 := by rw [nI_leI (by omega) (by omega)] at hc_14; omega
        subst hi8
        exact ⟨20 * (4096 - (k + 1)) + 10, by omega, Or.inl ⟨k + 1, by omega, hfr, hS, by rw [show (k + 1) * 8 = k * 8 + 8 by omega]; exact hQ, rfl, rfl, rfl, rfl, rfl, by rw [nI_add], rfl⟩⟩
      · skip
        have hi8 : i < 8 := by rw [nI_leI (by omega) (by omega)] at hc_14; omega
        have e0 : nI k - nI k / nI 8 * nI 8 = nI (k % 8) := pk_rem (by omega) (by decide) (by decide)
        have e1 : nI k / nI 8 - nI k / nI 8 / nI 8 * nI 8 = nI (k / 8 % 8) := by rw [pk_div (show k < 2 ^ 31 by omega) (by decide) (by decide)]; exact pk_rem (by omega) (by decide) (by decide)
        have e2 : nI k / nI 64 - nI k / nI 64 / nI 8 * nI 8 = nI (k / 64 % 8) := by rw [pk_div (show k < 2 ^ 31 by omega) (by decide) (by decide)]; exact pk_rem (by omega) (by decide) (by decide)
        have e3 : nI k / nI 512 = nI (k / 512) := pk_div (by omega) (by decide) (by decide)
        have L0 : ∀ m : x_M, (x_row m 66 (F4 (m 66) (nI (k % 8)) (nI (k / 8 % 8)) (nI (k / 64 % 8)) (nI (k / 512)))) 66 (nI 0).toNatClampNeg = nI (k % 8) := fun m => by rw [x_row_self, c_0, F4_0]
        have L1 : ∀ m : x_M, (x_row m 66 (F4 (m 66) (nI (k % 8)) (nI (k / 8 % 8)) (nI (k / 64 % 8)) (nI (k / 512)))) 66 (nI 1).toNatClampNeg = nI (k / 8 % 8) := fun m => by rw [x_row_self, c_1, F4_1]
        have L2 : ∀ m : x_M, (x_row m 66 (F4 (m 66) (nI (k % 8)) (nI (k / 8 % 8)) (nI (k / 64 % 8)) (nI (k / 512)))) 66 (nI 2).toNatClampNeg = nI (k / 64 % 8) := fun m => by rw [x_row_self, c_2, F4_2]
        have L3 : ∀ m : x_M, (x_row m 66 (F4 (m 66) (nI (k % 8)) (nI (k / 8 % 8)) (nI (k / 64 % 8)) (nI (k / 512)))) 66 (nI 3).toNatClampNeg = nI (k / 512) := fun m => by rw [x_row_self, c_3, F4_3]
        have ed : nI i / nI 2 = nI (i / 2) := pk_div (by omega) (by decide) (by decide)
        have er : nI i - nI i / nI 2 * nI 2 = nI (i % 2) := pk_rem (by omega) (by decide) (by decide)
        refine xt_aln0 rfl (by first | decide | omega | assumption) ?_
        refine xt_gfr (q := (5, 13)) rfl (by first | rfl | assumption) rfl ?_
        refine xt_ic ?_
        refine xt_iln1 rfl ?_
        refine xt_bi ?_
        refine xt_rem (by decide) ?_
        refine xt_ias (by first | rfl | assumption) (show vp_in (nI 0) 4 from vp_in_nI (by decide) (by decide)) ?_
        refine xt_aln0 rfl (by first | decide | omega | assumption) ?_
        refine xt_gfr (q := (5, 13)) rfl (by first | rfl | assumption) rfl ?_
        refine xt_ic ?_
        refine xt_iln1 rfl ?_
        refine xt_bi ?_
        refine xt_div (by decide) ?_
        refine xt_bi ?_
        refine xt_rem (by decide) ?_
        refine xt_ias (by first | rfl | assumption) (show vp_in (nI 1) 4 from vp_in_nI (by decide) (by decide)) ?_
        refine xt_aln0 rfl (by first | decide | omega | assumption) ?_
        refine xt_gfr (q := (5, 13)) rfl (by first | rfl | assumption) rfl ?_
        refine xt_ic ?_
        refine xt_iln1 rfl ?_
        refine xt_bi ?_
        refine xt_div (by decide) ?_
        refine xt_bi ?_
        refine xt_rem (by decide) ?_
        refine xt_ias (by first | rfl | assumption) (show vp_in (nI 2) 4 from vp_in_nI (by decide) (by decide)) ?_
        refine xt_aln0 rfl (by first | decide | omega | assumption) ?_
        refine xt_gfr (q := (5, 13)) rfl (by first | rfl | assumption) rfl ?_
        refine xt_ic ?_
        refine xt_iln1 rfl ?_
        refine xt_si ?_
        refine xt_div (by decide) ?_
        refine xt_ias (by first | rfl | assumption) (show vp_in (nI 3) 4 from vp_in_nI (by decide) (by decide)) ?_
        rw [four_mem, e0, e1, e2, e3]
        refine id ?_
        refine xt_aln0 rfl (by first | decide | omega | assumption) ?_
        refine xt_gfr (q := (5, 13)) rfl (by first | rfl | assumption) rfl ?_
        refine xt_ic ?_
        refine xt_ial (by first | rfl | assumption) (show vp_in (nI 0) 4 from vp_in_nI (by decide) (by decide)) ?_
        refine xt_aln0 rfl (by first | decide | omega | assumption) ?_
        refine xt_gfr (q := (5, 13)) rfl (by first | rfl | assumption) rfl ?_
        refine xt_ic ?_
        refine xt_ial (by first | rfl | assumption) (show vp_in (nI 1) 4 from vp_in_nI (by decide) (by decide)) ?_
        refine xt_cge (t := 226) rfl (fun hc_76 => ?_) (fun hc_76 => ?_)
        · skip
          rw [L0, L1, nI_leI (by omega) (by omega)] at hc_76
          refine xt_blk rfl rfl (by dsimp only [List.take]) ?_
          refine xt_inc rfl (by dsimp only [x_sto]) ?_
          refine xt_goto (t := 11) rfl ?_
          refine xt_cut rfl rfl (by dsimp only [List.take]) ?_
          exact ⟨20 * (4096 - k) + (8 - (i + 1)), by omega, Or.inr ⟨k, i + 1, hk, by omega, fun j a b => by rw [x_row_ne _ _ b]; exact hfr j a b, by rw [x_row_ne _ _ (by decide)]; exact hS, by rw [x_row_ne _ _ (by decide)]; exact NQ_n hi8 hQ (fun q => absurd q.1 (by omega)), rfl, rfl, rfl, rfl, rfl, by rw [nI_add], rfl⟩⟩
        · skip
          rw [L0, L1, nI_leI (by omega) (by omega)] at hc_76
          have hv1 : k % 8 < k / 8 % 8 := by omega
          refine xt_aln0 rfl (by first | decide | omega | assumption) ?_
          refine xt_gfr (q := (5, 13)) rfl (by first | rfl | assumption) rfl ?_
          refine xt_ic ?_
          refine xt_ial (by first | rfl | assumption) (show vp_in (nI 2) 4 from vp_in_nI (by decide) (by decide)) ?_
          refine xt_aln0 rfl (by first | decide | omega | assumption) ?_
          refine xt_gfr (q := (5, 13)) rfl (by first | rfl | assumption) rfl ?_
          refine xt_ic ?_
          refine xt_ial (by first | rfl | assumption) (show vp_in (nI 3) 4 from vp_in_nI (by decide) (by decide)) ?_
          refine xt_cge (t := 226) rfl (fun hc_91 => ?_) (fun hc_91 => ?_)
          · skip
            rw [L2, L3, nI_leI (by omega) (by omega)] at hc_91
            refine xt_blk rfl rfl (by dsimp only [List.take]) ?_
            refine xt_inc rfl (by dsimp only [x_sto]) ?_
            refine xt_goto (t := 11) rfl ?_
            refine xt_cut rfl rfl (by dsimp only [List.take]) ?_
            exact ⟨20 * (4096 - k) + (8 - (i + 1)), by omega, Or.inr ⟨k, i + 1, hk, by omega, fun j a b => by rw [x_row_ne _ _ b]; exact hfr j a b, by rw [x_row_ne _ _ (by decide)]; exact hS, by rw [x_row_ne _ _ (by decide)]; exact NQ_n hi8 hQ (fun q => absurd q.2.1 (by omega)), rfl, rfl, rfl, rfl, rfl, by rw [nI_add], rfl⟩⟩
          · skip
            rw [L2, L3, nI_leI (by omega) (by omega)] at hc_91
            have hv2 : k / 64 % 8 < k / 512 := by omega
            refine xt_aln0 rfl (by first | decide | omega | assumption) ?_
            refine xt_gfr (q := (5, 13)) rfl (by first | rfl | assumption) rfl ?_
            refine xt_ic ?_
            refine xt_ial (by first | rfl | assumption) (show vp_in (nI 0) 4 from vp_in_nI (by decide) (by decide)) ?_
            refine xt_aln0 rfl (by first | decide | omega | assumption) ?_
            refine xt_gfr (q := (5, 13)) rfl (by first | rfl | assumption) rfl ?_
            refine xt_ic ?_
            refine xt_ial (by first | rfl | assumption) (show vp_in (nI 1) 4 from vp_in_nI (by decide) (by decide)) ?_
            refine xt_aln0 rfl (by first | decide | omega | assumption) ?_
            refine xt_gfr (q := (5, 13)) rfl (by first | rfl | assumption) rfl ?_
            refine xt_ic ?_
            refine xt_ial (by first | rfl | assumption) (show vp_in (nI 2) 4 from vp_in_nI (by decide) (by decide)) ?_
            refine xt_aln0 rfl (by first | decide | omega | assumption) ?_
            refine xt_gfr (q := (5, 13)) rfl (by first | rfl | assumption) rfl ?_
            refine xt_ic ?_
            refine xt_ial (by first | rfl | assumption) (show vp_in (nI 3) 4 from vp_in_nI (by decide) (by decide)) ?_
            refine xt_v4 (key := 234) (q := q_X7_relation) rfl rfl rfl rfl rfl ⟨Nat.le_of_ble_eq_true rfl, Nat.le_of_ble_eq_true rfl⟩ ⟨_, _, _, _, by rw [L0, L1]; exact nI_lt hv1 (by omega), by rw [L2, L3]; exact nI_lt hv2 (by omega), rfl⟩ (fun rv_ S1 M_118 hq_118 => ?_)
            obtain ⟨eS_, eM_, rfl⟩ := hq_118 _ _ _ _ (by rw [L0, L1]; exact nI_lt hv1 (by omega)) (by rw [L2, L3]; exact nI_lt hv2 (by omega)) rfl
            replace eS_ := eS_.symm
            replace eM_ := eM_.symm
            subst eS_ eM_
            rw [L0, L1, L2, L3, bw_nI (by omega) (by omega) (by omega) (by omega)]
            have r13 : rO k < 13 := rN_lt _ _ _ _
            rw [show rN (k % 8) (k / 8 % 8) (k / 64 % 8) (k / 512) = rO k from rfl]
            try dsimp only [Option.toList, List.cons_append, List.nil_append]
            refine xt_isn3 rfl (by dsimp only [x_sto]) ?_
            refine xt_aln0 rfl (by first | decide | omega | assumption) ?_
            refine xt_gfr (q := (5, 13)) rfl (by first | rfl | assumption) rfl ?_
            refine xt_iln2 rfl ?_
            refine xt_ic ?_
            refine xt_div (by decide) ?_
            refine xt_dup2 ?_
            refine xt_ial (by first | rfl | assumption) (show vp_in _ 4 from by rw [ed]; exact vp_in_nI (by omega) (by decide)) ?_
            refine xt_iln2 rfl ?_
            refine xt_ic ?_
            refine xt_rem (by decide) ?_
            refine xt_ne (t := 141) rfl (fun hc_134 => ?_) (fun hc_134 => ?_)
            · skip
              rw [er, n_eq0 (by omega)] at hc_134
              have hdI : dI i = -(nI 1) := if_neg hc_134
              refine xt_blk rfl rfl (by dsimp only [List.take]) ?_
              refine xt_icm rfl ?_
              refine xt_nil (t := 142) rfl ?_
              refine xt_blk rfl rfl (by dsimp only [List.take]) ?_
              refine xt_add ?_
              refine xt_ias (by first | rfl | assumption) (show vp_in _ 4 from by rw [ed]; exact vp_in_nI (by omega) (by decide)) ?_
              rw [← hdI, four_mv, ed, nI_clamp (show i / 2 < 2 ^ 31 by omega)]
              obtain ⟨G, hG⟩ : ∃ G, G = upd (F4 (M2 66) (nI (k % 8)) (nI (k / 8 % 8)) (nI (k / 64 % 8)) (nI (k / 512))) (i / 2) (F4 (M2 66) (nI (k % 8)) (nI (k / 8 % 8)) (nI (k / 64 % 8)) (nI (k / 512)) (i / 2) + dI i) := ⟨_, rfl⟩
              rw [← hG]
              obtain ⟨g0, g1, g2, g3⟩ := G_v (by omega) (by omega) (by omega) (by omega) hi8 hG
              have K0 : x_row M2 66 G 66 (nI 0).toNatClampNeg = sh (mvN i 0 (k % 8 + 1)) := by rw [x_row_self, c_0, g0]
              have K1 : x_row M2 66 G 66 (nI 1).toNatClampNeg = sh (mvN i 1 (k / 8 % 8 + 1)) := by rw [x_row_self, c_1, g1]
              have K2 : x_row M2 66 G 66 (nI 2).toNatClampNeg = sh (mvN i 2 (k / 64 % 8 + 1)) := by rw [x_row_self, c_2, g2]
              have K3 : x_row M2 66 G 66 (nI 3).toNatClampNeg = sh (mvN i 3 (k / 512 + 1)) := by rw [x_row_self, c_3, g3]
              refine id ?_
              refine xt_aln0 rfl (by first | decide | omega | assumption) ?_
              refine xt_gfr (q := (5, 13)) rfl (by first | rfl | assumption) rfl ?_
              refine xt_ic ?_
              refine xt_ial (by first | rfl | assumption) (show vp_in (nI 0) 4 from vp_in_nI (by decide) (by decide)) ?_
              refine xt_aln0 rfl (by first | decide | omega | assumption) ?_
              refine xt_gfr (q := (5, 13)) rfl (by first | rfl | assumption) rfl ?_
              refine xt_ic ?_
              refine xt_ial (by first | rfl | assumption) (show vp_in (nI 1) 4 from vp_in_nI (by decide) (by decide)) ?_
              refine xt_cge (t := 226) rfl (fun hc_156 => ?_) (fun hc_156 => ?_)
              · skip
                rw [K0, K1] at hc_156
                have hv3 : ¬ m0 k i < m1 k i := fun q => Int32.not_lt.mpr hc_156 ((sh_lt _ (mv_lt (by omega)) _ (mv_lt (by omega))).mpr q)
                refine xt_blk rfl rfl (by dsimp only [List.take]) ?_
                refine xt_inc rfl (by dsimp only [x_sto]) ?_
                refine xt_goto (t := 11) rfl ?_
                refine xt_cut rfl rfl (by dsimp only [List.take]) ?_
                exact ⟨20 * (4096 - k) + (8 - (i + 1)), by omega, Or.inr ⟨k, i + 1, hk, by omega, fun j a b => by rw [x_row_ne _ _ b]; exact hfr j a b, by rw [x_row_ne _ _ (by decide)]; exact hS, by rw [x_row_ne _ _ (by decide)]; exact NQ_n hi8 hQ (fun q => absurd q.2.2.1 hv3), rfl, rfl, rfl, rfl, rfl, by rw [nI_add], rfl⟩⟩
              · skip
                rw [K0, K1] at hc_156
                have hs1 := Int32.not_le.mp hc_156
                have hv3 : m0 k i < m1 k i := (sh_lt _ (mv_lt (by omega)) _ (mv_lt (by omega))).mp hs1
                refine xt_aln0 rfl (by first | decide | omega | assumption) ?_
                refine xt_gfr (q := (5, 13)) rfl (by first | rfl | assumption) rfl ?_
                refine xt_ic ?_
                refine xt_ial (by first | rfl | assumption) (show vp_in (nI 2) 4 from vp_in_nI (by decide) (by decide)) ?_
                refine xt_aln0 rfl (by first | decide | omega | assumption) ?_
                refine xt_gfr (q := (5, 13)) rfl (by first | rfl | assumption) rfl ?_
                refine xt_ic ?_
                refine xt_ial (by first | rfl | assumption) (show vp_in (nI 3) 4 from vp_in_nI (by decide) (by decide)) ?_
                refine xt_cge (t := 226) rfl (fun hc_171 => ?_) (fun hc_171 => ?_)
                · skip
                  rw [K2, K3] at hc_171
                  have hv4 : ¬ m2 k i < m3 k i := fun q => Int32.not_lt.mpr hc_171 ((sh_lt _ (mv_lt (by omega)) _ (mv_lt (by omega))).mpr q)
                  refine xt_blk rfl rfl (by dsimp only [List.take]) ?_
                  refine xt_inc rfl (by dsimp only [x_sto]) ?_
                  refine xt_goto (t := 11) rfl ?_
                  refine xt_cut rfl rfl (by dsimp only [List.take]) ?_
                  exact ⟨20 * (4096 - k) + (8 - (i + 1)), by omega, Or.inr ⟨k, i + 1, hk, by omega, fun j a b => by rw [x_row_ne _ _ b]; exact hfr j a b, by rw [x_row_ne _ _ (by decide)]; exact hS, by rw [x_row_ne _ _ (by decide)]; exact NQ_n hi8 hQ (fun q => absurd q.2.2.2.1 hv4), rfl, rfl, rfl, rfl, rfl, by rw [nI_add], rfl⟩⟩
                · skip
                  rw [K2, K3] at hc_171
                  have hs2 := Int32.not_le.mp hc_171
                  have hv4 : m2 k i < m3 k i := (sh_lt _ (mv_lt (by omega)) _ (mv_lt (by omega))).mp hs2
                  refine xt_aln0 rfl (by first | decide | omega | assumption) ?_
                  refine xt_gfr (q := (5, 13)) rfl (by first | rfl | assumption) rfl ?_
                  refine xt_ic ?_
                  refine xt_ial (by first | rfl | assumption) (show vp_in (nI 0) 4 from vp_in_nI (by decide) (by decide)) ?_
                  refine xt_aln0 rfl (by first | decide | omega | assumption) ?_
                  refine xt_gfr (q := (5, 13)) rfl (by first | rfl | assumption) rfl ?_
                  refine xt_ic ?_
                  refine xt_ial (by first | rfl | assumption) (show vp_in (nI 1) 4 from vp_in_nI (by decide) (by decide)) ?_
                  refine xt_aln0 rfl (by first | decide | omega | assumption) ?_
                  refine xt_gfr (q := (5, 13)) rfl (by first | rfl | assumption) rfl ?_
                  refine xt_ic ?_
                  refine xt_ial (by first | rfl | assumption) (show vp_in (nI 2) 4 from vp_in_nI (by decide) (by decide)) ?_
                  refine xt_aln0 rfl (by first | decide | omega | assumption) ?_
                  refine xt_gfr (q := (5, 13)) rfl (by first | rfl | assumption) rfl ?_
                  refine xt_ic ?_
                  refine xt_ial (by first | rfl | assumption) (show vp_in (nI 3) 4 from vp_in_nI (by decide) (by decide)) ?_
                  refine xt_v4 (key := 234) (q := q_X7_relation) rfl rfl rfl rfl rfl ⟨Nat.le_of_ble_eq_true rfl, Nat.le_of_ble_eq_true rfl⟩ ⟨_, _, _, _, by rw [K0, K1]; exact hs1, by rw [K2, K3]; exact hs2, rfl⟩ (fun rv_ S1 M_198 hq_198 => ?_)
                  obtain ⟨eS_, eM_, rfl⟩ := hq_198 _ _ _ _ (by rw [K0, K1]; exact hs1) (by rw [K2, K3]; exact hs2) rfl
                  replace eS_ := eS_.symm
                  replace eM_ := eM_.symm
                  subst eS_ eM_
                  rw [K0, K1, K2, K3, bw_sh (mv_lt (by omega)) (mv_lt (by omega)) (mv_lt (by omega)) (mv_lt (by omega))]
                  have s13 : rM k i < 13 := rN_lt _ _ _ _
                  rw [show rN (mvN i 0 (k % 8 + 1)) (mvN i 1 (k / 8 % 8 + 1)) (mvN i 2 (k / 64 % 8 + 1)) (mvN i 3 (k / 512 + 1)) = rM k i from rfl]
                  obtain ⟨v, hgv, hvl, -⟩ := hS (rO k) r13
                  try dsimp only [Option.toList, List.cons_append, List.nil_append]
                  refine xt_ist rfl (by dsimp only [x_sto]) ?_
                  refine xt_aln0 rfl (by first | decide | omega | assumption) ?_
                  refine xt_gfr (q := (5, 2)) rfl (by first | rfl | assumption) rfl ?_
                  refine xt_iln3 rfl ?_
                  refine xt_dup2 ?_
                  refine xt_ial (by first | rfl | assumption) (show vp_in _ 13 from vp_in_nI r13 (by decide)) ?_
                  refine xt_ild rfl ?_
                  refine xt_iln3 rfl ?_
                  refine xt_cne (t := 220) rfl (fun hc_213 => ?_) (fun hc_213 => ?_)
                  · skip
                    refine xt_blk rfl rfl (by dsimp only [List.take]) ?_
                    refine xt_ic ?_
                    refine xt_ild rfl ?_
                    refine xt_shl ?_
                    refine xt_nil (t := 224) rfl ?_
                    refine xt_blk rfl rfl (by dsimp only [List.take]) ?_
                    refine xt_or ?_
                    refine xt_ias (by first | rfl | assumption) (show vp_in _ 13 from vp_in_nI r13 (by decide)) ?_
                    refine xt_nil (t := 226) rfl ?_
                    refine xt_blk rfl rfl (by dsimp only [List.take]) ?_
                    refine xt_inc rfl (by dsimp only [x_sto]) ?_
                    refine xt_goto (t := 11) rfl ?_
                    refine xt_cut rfl rfl (by dsimp only [List.take]) ?_
                    rw [nI_eq (by omega) (by omega)] at hc_213
                    have hp : 2 ^ rM k i < 2 ^ 13 := Nat.pow_lt_pow_right (by decide) s13
                    have es : nI 1 <<< (nI (rM k i) &&& 31) = nI (2 ^ rM k i) := by rw [n_shl (by omega) (by omega), Nat.one_mul]
                    have em : (x_row M2 66 G) 56 = M2 56 := x_row_ne _ _ (by decide)
                    rw [es, nI_clamp (show rO k < 2 ^ 31 by omega), em, hgv, n_or]
                    obtain ⟨s1, s2⟩ := NQ_s hS hk hi8 hQ ⟨hv1, hv2, hv3, hv4, hc_213⟩ hgv hvl
                    exact ⟨20 * (4096 - k) + (8 - (i + 1)), by omega, Or.inr ⟨k, i + 1, hk, by omega, fun j a b => by rw [x_row_ne _ _ a, x_row_ne _ _ b]; exact hfr j a b, by rw [x_row_self]; exact s1, by rw [x_row_self]; exact s2, rfl, rfl, rfl, rfl, rfl, by rw [nI_add], rfl⟩⟩
                  · skip
                    refine xt_ic ?_
                    refine xt_goto (t := 224) rfl ?_
                    refine xt_blk rfl rfl (by dsimp only [List.take]) ?_
                    refine xt_or ?_
                    refine xt_ias (by first | rfl | assumption) (show vp_in _ 13 from vp_in_nI r13 (by decide)) ?_
                    refine xt_nil (t := 226) rfl ?_
                    refine xt_blk rfl rfl (by dsimp only [List.take]) ?_
                    refine xt_inc rfl (by dsimp only [x_sto]) ?_
                    refine xt_goto (t := 11) rfl ?_
                    refine xt_cut rfl rfl (by dsimp only [List.take]) ?_
                    rw [nI_eq (by omega) (by omega)] at hc_213
                    have em : (x_row M2 66 G) 56 = M2 56 := x_row_ne _ _ (by decide)
                    have e0' : x_row (x_row M2 66 G) 56 (upd ((x_row M2 66 G) 56) (nI (rO k)).toNatClampNeg ((x_row M2 66 G) 56 (nI (rO k)).toNatClampNeg ||| nI 0)) = x_row M2 66 G := by
                      rw [nI_clamp (show rO k < 2 ^ 31 by omega), em, hgv, n_or, Nat.or_zero, upd_id _ _ _ hgv]
                      funext j
                      by_cases e : j = 56
                      · subst e; rw [x_row_self, em]
                      · rw [x_row_ne _ _ e]
                    rw [e0']
                    exact ⟨20 * (4096 - k) + (8 - (i + 1)), by omega, Or.inr ⟨k, i + 1, hk, by omega, fun j a b => by rw [x_row_ne _ _ b]; exact hfr j a b, by rw [x_row_ne _ _ (by decide)]; exact hS, by rw [x_row_ne _ _ (by decide)]; exact NQ_n hi8 hQ (fun q => absurd q.2.2.2.2 (fun x => x hc_213)), rfl, rfl, rfl, rfl, rfl, by rw [nI_add], rfl⟩⟩
            · skip
              rw [er, n_eq0 (by omega)] at hc_134
              have hdI : dI i = nI 1 := if_pos hc_134
              refine xt_ic ?_
              refine xt_goto (t := 142) rfl ?_
              refine xt_blk rfl rfl (by dsimp only [List.take]) ?_
              refine xt_add ?_
              refine xt_ias (by first | rfl | assumption) (show vp_in _ 4 from by rw [ed]; exact vp_in_nI (by omega) (by decide)) ?_
              rw [← hdI, four_mv, ed, nI_clamp (show i / 2 < 2 ^ 31 by omega)]
              obtain ⟨G, hG⟩ : ∃ G, G = upd (F4 (M2 66) (nI (k % 8)) (nI (k / 8 % 8)) (nI (k / 64 % 8)) (nI (k / 512))) (i / 2) (F4 (M2 66) (nI (k % 8)) (nI (k / 8 % 8)) (nI (k / 64 % 8)) (nI (k / 512)) (i / 2) + dI i) := ⟨_, rfl⟩
              rw [← hG]
              obtain ⟨g0, g1, g2, g3⟩ := G_v (by omega) (by omega) (by omega) (by omega) hi8 hG
              have K0 : x_row M2 66 G 66 (nI 0).toNatClampNeg = sh (mvN i 0 (k % 8 + 1)) := by rw [x_row_self, c_0, g0]
              have K1 : x_row M2 66 G 66 (nI 1).toNatClampNeg = sh (mvN i 1 (k / 8 % 8 + 1)) := by rw [x_row_self, c_1, g1]
              have K2 : x_row M2 66 G 66 (nI 2).toNatClampNeg = sh (mvN i 2 (k / 64 % 8 + 1)) := by rw [x_row_self, c_2, g2]
              have K3 : x_row M2 66 G 66 (nI 3).toNatClampNeg = sh (mvN i 3 (k / 512 + 1)) := by rw [x_row_self, c_3, g3]
              refine id ?_
              refine xt_aln0 rfl (by first | decide | omega | assumption) ?_
              refine xt_gfr (q := (5, 13)) rfl (by first | rfl | assumption) rfl ?_
              refine xt_ic ?_
              refine xt_ial (by first | rfl | assumption) (show vp_in (nI 0) 4 from vp_in_nI (by decide) (by decide)) ?_
              refine xt_aln0 rfl (by first | decide | omega | assumption) ?_
              refine xt_gfr (q := (5, 13)) rfl (by first | rfl | assumption) rfl ?_
              refine xt_ic ?_
              refine xt_ial (by first | rfl | assumption) (show vp_in (nI 1) 4 from vp_in_nI (by decide) (by decide)) ?_
              refine xt_cge (t := 226) rfl (fun hc_156 => ?_) (fun hc_156 => ?_)
              · skip
                rw [K0, K1] at hc_156
                have hv3 : ¬ m0 k i < m1 k i := fun q => Int32.not_lt.mpr hc_156 ((sh_lt _ (mv_lt (by omega)) _ (mv_lt (by omega))).mpr q)
                refine xt_blk rfl rfl (by dsimp only [List.take]) ?_
                refine xt_inc rfl (by dsimp only [x_sto]) ?_
                refine xt_goto (t := 11) rfl ?_
                refine xt_cut rfl rfl (by dsimp only [List.take]) ?_
                exact ⟨20 * (4096 - k) + (8 - (i + 1)), by omega, Or.inr ⟨k, i + 1, hk, by omega, fun j a b => by rw [x_row_ne _ _ b]; exact hfr j a b, by rw [x_row_ne _ _ (by decide)]; exact hS, by rw [x_row_ne _ _ (by decide)]; exact NQ_n hi8 hQ (fun q => absurd q.2.2.1 hv3), rfl, rfl, rfl, rfl, rfl, by rw [nI_add], rfl⟩⟩
              · skip
                rw [K0, K1] at hc_156
                have hs1 := Int32.not_le.mp hc_156
                have hv3 : m0 k i < m1 k i := (sh_lt _ (mv_lt (by omega)) _ (mv_lt (by omega))).mp hs1
                refine xt_aln0 rfl (by first | decide | omega | assumption) ?_
                refine xt_gfr (q := (5, 13)) rfl (by first | rfl | assumption) rfl ?_
                refine xt_ic ?_
                refine xt_ial (by first | rfl | assumption) (show vp_in (nI 2) 4 from vp_in_nI (by decide) (by decide)) ?_
                refine xt_aln0 rfl (by first | decide | omega | assumption) ?_
                refine xt_gfr (q := (5, 13)) rfl (by first | rfl | assumption) rfl ?_
                refine xt_ic ?_
                refine xt_ial (by first | rfl | assumption) (show vp_in (nI 3) 4 from vp_in_nI (by decide) (by decide)) ?_
                refine xt_cge (t := 226) rfl (fun hc_171 => ?_) (fun hc_171 => ?_)
                · skip
                  rw [K2, K3] at hc_171
                  have hv4 : ¬ m2 k i < m3 k i := fun q => Int32.not_lt.mpr hc_171 ((sh_lt _ (mv_lt (by omega)) _ (mv_lt (by omega))).mpr q)
                  refine xt_blk rfl rfl (by dsimp only [List.take]) ?_
                  refine xt_inc rfl (by dsimp only [x_sto]) ?_
                  refine xt_goto (t := 11) rfl ?_
                  refine xt_cut rfl rfl (by dsimp only [List.take]) ?_
                  exact ⟨20 * (4096 - k) + (8 - (i + 1)), by omega, Or.inr ⟨k, i + 1, hk, by omega, fun j a b => by rw [x_row_ne _ _ b]; exact hfr j a b, by rw [x_row_ne _ _ (by decide)]; exact hS, by rw [x_row_ne _ _ (by decide)]; exact NQ_n hi8 hQ (fun q => absurd q.2.2.2.1 hv4), rfl, rfl, rfl, rfl, rfl, by rw [nI_add], rfl⟩⟩
                · skip
                  rw [K2, K3] at hc_171
                  have hs2 := Int32.not_le.mp hc_171
                  have hv4 : m2 k i < m3 k i := (sh_lt _ (mv_lt (by omega)) _ (mv_lt (by omega))).mp hs2
                  refine xt_aln0 rfl (by first | decide | omega | assumption) ?_
                  refine xt_gfr (q := (5, 13)) rfl (by first | rfl | assumption) rfl ?_
                  refine xt_ic ?_
                  refine xt_ial (by first | rfl | assumption) (show vp_in (nI 0) 4 from vp_in_nI (by decide) (by decide)) ?_
                  refine xt_aln0 rfl (by first | decide | omega | assumption) ?_
                  refine xt_gfr (q := (5, 13)) rfl (by first | rfl | assumption) rfl ?_
                  refine xt_ic ?_
                  refine xt_ial (by first | rfl | assumption) (show vp_in (nI 1) 4 from vp_in_nI (by decide) (by decide)) ?_
                  refine xt_aln0 rfl (by first | decide | omega | assumption) ?_
                  refine xt_gfr (q := (5, 13)) rfl (by first | rfl | assumption) rfl ?_
                  refine xt_ic ?_
                  refine xt_ial (by first | rfl | assumption) (show vp_in (nI 2) 4 from vp_in_nI (by decide) (by decide)) ?_
                  refine xt_aln0 rfl (by first | decide | omega | assumption) ?_
                  refine xt_gfr (q := (5, 13)) rfl (by first | rfl | assumption) rfl ?_
                  refine xt_ic ?_
                  refine xt_ial (by first | rfl | assumption) (show vp_in (nI 3) 4 from vp_in_nI (by decide) (by decide)) ?_
                  refine xt_v4 (key := 234) (q := q_X7_relation) rfl rfl rfl rfl rfl ⟨Nat.le_of_ble_eq_true rfl, Nat.le_of_ble_eq_true rfl⟩ ⟨_, _, _, _, by rw [K0, K1]; exact hs1, by rw [K2, K3]; exact hs2, rfl⟩ (fun rv_ S1 M_198 hq_198 => ?_)
                  obtain ⟨eS_, eM_, rfl⟩ := hq_198 _ _ _ _ (by rw [K0, K1]; exact hs1) (by rw [K2, K3]; exact hs2) rfl
                  replace eS_ := eS_.symm
                  replace eM_ := eM_.symm
                  subst eS_ eM_
                  rw [K0, K1, K2, K3, bw_sh (mv_lt (by omega)) (mv_lt (by omega)) (mv_lt (by omega)) (mv_lt (by omega))]
                  have s13 : rM k i < 13 := rN_lt _ _ _ _
                  rw [show rN (mvN i 0 (k % 8 + 1)) (mvN i 1 (k / 8 % 8 + 1)) (mvN i 2 (k / 64 % 8 + 1)) (mvN i 3 (k / 512 + 1)) = rM k i from rfl]
                  obtain ⟨v, hgv, hvl, -⟩ := hS (rO k) r13
                  try dsimp only [Option.toList, List.cons_append, List.nil_append]
                  refine xt_ist rfl (by dsimp only [x_sto]) ?_
                  refine xt_aln0 rfl (by first | decide | omega | assumption) ?_
                  refine xt_gfr (q := (5, 2)) rfl (by first | rfl | assumption) rfl ?_
                  refine xt_iln3 rfl ?_
                  refine xt_dup2 ?_
                  refine xt_ial (by first | rfl | assumption) (show vp_in _ 13 from vp_in_nI r13 (by decide)) ?_
                  refine xt_ild rfl ?_
                  refine xt_iln3 rfl ?_
                  refine xt_cne (t := 220) rfl (fun hc_213 => ?_) (fun hc_213 => ?_)
                  · skip
                    refine xt_blk rfl rfl (by dsimp only [List.take]) ?_
                    refine xt_ic ?_
                    refine xt_ild rfl ?_
                    refine xt_shl ?_
                    refine xt_nil (t := 224) rfl ?_
                    refine xt_blk rfl rfl (by dsimp only [List.take]) ?_
                    refine xt_or ?_
                    refine xt_ias (by first | rfl | assumption) (show vp_in _ 13 from vp_in_nI r13 (by decide)) ?_
                    refine xt_nil (t := 226) rfl ?_
                    refine xt_blk rfl rfl (by dsimp only [List.take]) ?_
                    refine xt_inc rfl (by dsimp only [x_sto]) ?_
                    refine xt_goto (t := 11) rfl ?_
                    refine xt_cut rfl rfl (by dsimp only [List.take]) ?_
                    rw [nI_eq (by omega) (by omega)] at hc_213
                    have hp : 2 ^ rM k i < 2 ^ 13 := Nat.pow_lt_pow_right (by decide) s13
                    have es : nI 1 <<< (nI (rM k i) &&& 31) = nI (2 ^ rM k i) := by rw [n_shl (by omega) (by omega), Nat.one_mul]
                    have em : (x_row M2 66 G) 56 = M2 56 := x_row_ne _ _ (by decide)
                    rw [es, nI_clamp (show rO k < 2 ^ 31 by omega), em, hgv, n_or]
                    obtain ⟨s1, s2⟩ := NQ_s hS hk hi8 hQ ⟨hv1, hv2, hv3, hv4, hc_213⟩ hgv hvl
                    exact ⟨20 * (4096 - k) + (8 - (i + 1)), by omega, Or.inr ⟨k, i + 1, hk, by omega, fun j a b => by rw [x_row_ne _ _ a, x_row_ne _ _ b]; exact hfr j a b, by rw [x_row_self]; exact s1, by rw [x_row_self]; exact s2, rfl, rfl, rfl, rfl, rfl, by rw [nI_add], rfl⟩⟩
                  · skip
                    refine xt_ic ?_
                    refine xt_goto (t := 224) rfl ?_
                    refine xt_blk rfl rfl (by dsimp only [List.take]) ?_
                    refine xt_or ?_
                    refine xt_ias (by first | rfl | assumption) (show vp_in _ 13 from vp_in_nI r13 (by decide)) ?_
                    refine xt_nil (t := 226) rfl ?_
                    refine xt_blk rfl rfl (by dsimp only [List.take]) ?_
                    refine xt_inc rfl (by dsimp only [x_sto]) ?_
                    refine xt_goto (t := 11) rfl ?_
                    refine xt_cut rfl rfl (by dsimp only [List.take]) ?_
                    rw [nI_eq (by omega) (by omega)] at hc_213
                    have em : (x_row M2 66 G) 56 = M2 56 := x_row_ne _ _ (by decide)
                    have e0' : x_row (x_row M2 66 G) 56 (upd ((x_row M2 66 G) 56) (nI (rO k)).toNatClampNeg ((x_row M2 66 G) 56 (nI (rO k)).toNatClampNeg ||| nI 0)) = x_row M2 66 G := by
                      rw [nI_clamp (show rO k < 2 ^ 31 by omega), em, hgv, n_or, Nat.or_zero, upd_id _ _ _ hgv]
                      funext j
                      by_cases e : j = 56
                      · subst e; rw [x_row_self, em]
                      · rw [x_row_ne _ _ e]
                    rw [e0']
                    exact ⟨20 * (4096 - k) + (8 - (i + 1)), by omega, Or.inr ⟨k, i + 1, hk, by omega, fun j a b => by rw [x_row_ne _ _ b]; exact hfr j a b, by rw [x_row_ne _ _ (by decide)]; exact hS, by rw [x_row_ne _ _ (by decide)]; exact NQ_n hi8 hQ (fun q => absurd q.2.2.2.2 (fun x => x hc_213)), rfl, rfl, rfl, rfl, rfl, by rw [nI_add], rfl⟩⟩
