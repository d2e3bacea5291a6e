/-! WAY: what it keeps; refresh, toldSet, closedSet -/
def nv (x : Int32) : Nat := x.toNatClampNeg
theorem nv_nI {k : Nat} (h : k < 2 ^ 31) : nv (nI k) = k := nI_clamp h
theorem m1_ne {v : Nat} (h : v < 2 ^ 31) : ¬ nI v = -(nI 1) := fun e => by
  have h1 : nv (nI v) = nv (-(nI 1)) := by rw [e]
  have h0 : nv (-(nI 1)) = 0 := by decide
  rw [nv_nI h, h0] at h1
  subst h1
  revert e
  decide
def nN (M : x_M) : Nat := nv (M 1 4)
def nA (M : x_M) (i : Nat) : Nat := nv (M 2 i)
def nB (M : x_M) (i : Nat) : Nat := nv (M 3 i)
def nS (M : x_M) (w i : Nat) : Nat := nv (M (5 + w) i)
def OkM (M : x_M) : Prop := nN M ≤ 30 ∧ M 1 4 = nI (nN M) ∧ ∀ w, w < 2 → Sts M w (nN M) (nA M) (nB M) (nS M w)
/-- the net that is told along a way -/
def tF (M : x_M) (w : Nat) : Nat → Nat := wnF (nA M) (nB M) (nS M w) (tbf (M 7) (nN M)) (nN M)
noncomputable def coM (M : x_M) (w : Nat) : Nat := ckF (nA M) (nB M) (nS M w) (nN M) (tbf (M 7) (nN M)) (nN M)
def wo (q : Nat) : Nat := if q = 26 then 0 else 1
theorem wo_lt (q : Nat) : wo q < 2 := by unfold wo; split <;> decide
theorem OkM_n {M : x_M} (h : OkM M) {w : Nat} (hw : w < 2) : Okn (nN M) (nA M) (nB M) (nS M w) := fun i hi => ⟨(h.2.2 w hw i hi).1, (h.2.2 w hw i hi).2.1, (h.2.2 w hw i hi).2.2.1, (h.2.2 w hw i hi).2.2.2.1⟩
theorem tF_ok {M : x_M} (h : OkM M) {w : Nat} (hw : w < 2) : Bd (tF M w) ∧ Sy (tF M w) ∧ ∀ a, a < 6 → tF M w (a * 6 + a) = 64 := wnF_ok (OkM_n h hw) _ (Nat.le_refl _)
/-- rows that the statements lie in are the same -/
def St7 (M M' : x_M) : Prop := ∀ k, k < 8 → M' k = M k
theorem St7_w {M M' : x_M} (h : St7 M M') {w : Nat} (hw : w < 2) : nN M' = nN M ∧ nA M' = nA M ∧ nB M' = nB M ∧ nS M' w = nS M w ∧ tF M' w = tF M w ∧ coM M' w = coM M w := by
  have e1 : nN M' = nN M := by unfold nN; rw [h 1 (by decide)]
  have e2 : nA M' = nA M := by funext i; unfold nA; rw [h 2 (by decide)]
  have e3 : nB M' = nB M := by funext i; unfold nB; rw [h 3 (by decide)]
  have e4 : nS M' w = nS M w := by funext i; unfold nS; rw [h (5 + w) (by omega)]
  refine ⟨e1, e2, e3, e4, ?_, ?_⟩
  · unfold tF; rw [e1, e2, e3, e4, h 7 (by decide)]
  · unfold coM; rw [e1, e2, e3, e4, h 7 (by decide)]
theorem St7_ok {M M' : x_M} (h : St7 M M') (hk : OkM M) : OkM M' := by
  obtain ⟨a1, a2, a3⟩ := hk
  have e := St7_w h (w := 0) (by decide)
  refine ⟨by rw [e.1]; exact a1, by rw [e.1, h 1 (by decide)]; exact a2, fun w hw i hi => ?_⟩
  obtain ⟨e1, e2, e3, e4, -, -⟩ := St7_w h hw
  rw [e1] at hi
  rw [e2, e3, e4, h 2 (by decide), h 3 (by decide), h (5 + w) (by omega)]
  exact a3 w hw i hi
def PoV (M : x_M) (q : Nat) (f g : Nat → Nat) : Prop := (M q 10 = -(nI 1) ∧ Cn f g) ∨ (M q 10 = nI 1 ∧ Cn f g ∧ Sat f) ∨ (M q 10 = nI 0 ∧ ¬ Sat f)
def CaV (M : x_M) (q : Nat) (f : Nat → Nat) : Prop := ∀ a b, a < 6 → b < 6 → a ≠ b → M (q + 5) (a * 6 + b) = -(nI 1) ∨ ∃ v, M (q + 5) (a * 6 + b) = nI v ∧ CanV f a b v
def CoV (M : x_M) (q c : Nat) : Prop := M q 11 = -(nI 1) ∨ (c < 2 ^ 31 ∧ M q 11 = nI c)
def FiV (M : x_M) (q : Nat) (f : Nat → Nat) : Prop := M q 12 = nI 0 ∨ (M q 12 = nI 1 ∧ ∃ s g, At M (q + 3) g ∧ FI f 15 s g ∧ ∀ e, e < 12 → M (q + 6) e = nI (rkf g e 12))
def WW (M : x_M) (q : Nat) (f : Nat → Nat) (c : Nat) : Prop := At M (q + 1) f ∧ (∃ g, At M (q + 2) g ∧ Cl f g ∧ PoV M q f g) ∧ CaV M q f ∧ CoV M q c ∧ FiV M q f
def WV (M : x_M) (q : Nat) (f : Nat → Nat) (c : Nat) : Prop := M q 9 = M 1 5 → WW M q f c
def WP (M : x_M) (q : Nat) : Prop := isWy q ∧ OkM M ∧ M q 0 = nI (wo q) ∧ WV M q (tF M (wo q)) (coM M (wo q))
def Ed (M : x_M) (q : Nat) (M' : x_M) : Prop := (∀ k, (k < 10 ∨ 25 < k) → (k < q ∨ q + 6 < k) → M' k = M k) ∧ M' q 0 = M q 0 ∧ M' q 9 = M 1 5 ∧ WW M' q (tF M (wo q)) (coM M (wo q))
theorem Ed_7 {M M' : x_M} {q : Nat} (hw : isWy q) (h : Ed M q M') : St7 M M' := fun k hk => h.1 k (by omega) (by rcases hw with rfl | rfl <;> omega)
theorem Ed_WP {M M' : x_M} {q : Nat} (hp : WP M q) (h : Ed M q M') : WP M' q := by
  obtain ⟨a1, a2, a3, a4⟩ := hp
  have h7 := Ed_7 a1 h
  obtain ⟨-, -, -, -, e5, e6⟩ := St7_w h7 (wo_lt q)
  exact ⟨a1, St7_ok h7 a2, h.2.1.trans a3, fun _ => by rw [e5, e6]; exact h.2.2.2⟩
/-- later steps that change only the way's own rows, and keep what it knows -/
theorem Ed_next {M M' M2 : x_M} {q : Nat} (hw : isWy q) (h : Ed M q M') (h1 : ∀ k, (k < 10 ∨ 25 < k) → (k < q ∨ q + 6 < k) → M2 k = M' k) (h2 : M2 q 0 = M' q 0) (h3 : M2 q 9 = M' q 9) (h4 : WW M2 q (tF M (wo q)) (coM M (wo q))) : Ed M q M2 :=
  ⟨fun k a b => (h1 k a b).trans (h.1 k a b), h2.trans h.2.1, h3.trans h.2.2.1, h4⟩
theorem WW_keep {M M2 : x_M} {q c : Nat} {f : Nat → Nat} (h : WW M q f c) (h1 : ∀ k, q ≤ k → k ≤ q + 6 → k ≠ q + 4 → M2 k = M k) : WW M2 q f c := by
  have e0 := h1 q (by omega) (by omega) (by omega)
  have e1 := h1 (q + 1) (by omega) (by omega) (by omega)
  have e2 := h1 (q + 2) (by omega) (by omega) (by omega)
  have e3 := h1 (q + 3) (by omega) (by omega) (by omega)
  have e5 := h1 (q + 5) (by omega) (by omega) (by omega)
  have e6 := h1 (q + 6) (by omega) (by omega) (by omega)
  unfold WW PoV CaV CoV FiV At
  rw [e0, e1, e2, e3, e5, e6]
  exact h
def q_X5_refresh : x_K := (1, fun as S M => ∃ (q : Nat) , WP M q ∧ S = SH ∧ as = [.inr (.inl q)], fun as S M rv_ S' M' => ∀ (q : Nat) , as = [.inr (.inl q)] → S' = S ∧ Ed M q M' ∧ rv_ = none, 0, 0)
theorem r_X5_refresh : ∀ as S M, q_X5_refresh.2.1 as S M → ∃ (k : Nat) (as' : List x_V) (fs : List (Option Nat)), as = .inr (.inl k) :: as' ∧ S[k]? = some (.inl (3, fs)) := by
  rintro as S M ⟨q, hp, rfl, rfl⟩
  exact ⟨q, _, _, rfl, SHw hp.1⟩
def b_X5_refresh : x_B := [(0, 1, [(.aload_n 0, 1), (.getfield 44, 3), (.aload_n 0, 1), (.getfield 15, 3), (.invokevirtual 107, 3), (.if_icmp .ne 4, 3), (.return_, 1)]),
  (15, 1, [(.aload_n 0, 1), (.aload_n 0, 1), (.getfield 15, 3), (.invokevirtual 107, 3), (.putfield 44, 3), (.aload_n 0, 1), (.getfield 15, 3), (.aload_n 0, 1), (.getfield 9, 3), (.aload_n 0, 1), (.getfield 15, 3), (.invokevirtual 112, 3), (.aload_n 0, 1), (.getfield 25, 3), (.invokevirtual 115, 3), (.aload_n 0, 1), (.getfield 25, 3), (.iconst 0, 1), (.aload_n 0, 1), (.getfield 29, 3), (.iconst 0, 1), (.bipush 36, 2), (.invokestatic 75, 3), (.aload_n 0, 1), (.aload_n 0, 1), (.getfield 29, 3), (.sipush 32767, 3), (.invokestatic 119, 3), (.ifCond .eq 7, 3), (.iconst (-1), 1), (.goto 4, 3)]),
  (81, 1, [(.iconst 0, 1)]),
  (82, 1, [(.putfield 50, 3), (.aload_n 0, 1), (.iconst (-1), 1), (.putfield 100, 3), (.aload_n 0, 1), (.iconst 0, 1), (.putfield 71, 3), (.aload_n 0, 1), (.getfield 38, 3), (.iconst (-1), 1), (.invokestatic 123, 3), (.return_, 1)])]
theorem b_X5_refresh_ok : x_okB cX5_refresh 1 b_X5_refresh = true := by decide +kernel
def X_X5_refresh : x_X := ([(44, 3, 9), (15, 3, 1), (9, 3, 0), (25, 3, 3), (29, 3, 4), (50, 3, 10), (100, 3, 11), (71, 3, 12), (38, 3, 7)], [], [], [], [(322, q_X4_changes), (337, q_X4_toldBits), (346, q_X4_writeNet), (225, x_qC), (357, q_X1_close), (369, q_J7_fill)], (0, 0), x_kn, x_kf, 5, false)
theorem X_X5_refresh_ok : x_okT RX5 X_X5_refresh = true := by decide +kernel
theorem k_X5_refresh (l : Launch) : ∀ z ∈ X_X5_refresh.2.2.2.2.1, x_Cal l (x_rm 4 0 0) cX5_refresh RX5 1 z.1 z.2 := List.forall_mem_cons.mpr ⟨x_cal_V (idx := 107) (ci := 2) (n := 0) (c_X4_changes l) ⟨by decide, by decide⟩ (by decide +kernel) (by decide +kernel) (by decide +kernel) (by decide +kernel) (by decide +kernel) rfl rfl rfl (by decide +kernel) r_X4_changes, List.forall_mem_cons.mpr ⟨x_cal_V (idx := 112) (ci := 2) (n := 0) (c_X4_toldBits l) ⟨by decide, by decide⟩ (by decide +kernel) (by decide +kernel) (by decide +kernel) (by decide +kernel) (by decide +kernel) rfl rfl rfl (by decide +kernel) r_X4_toldBits, List.forall_mem_cons.mpr ⟨x_cal_V (idx := 115) (ci := 2) (n := 3) (c_X4_writeNet l) ⟨by decide, by decide⟩ (by decide +kernel) (by decide +kernel) (by decide +kernel) (by decide +kernel) (by decide +kernel) rfl rfl rfl (by decide +kernel) r_X4_writeNet, List.forall_mem_cons.mpr ⟨x_cal_C (idx := 75) ⟨by decide, by decide⟩ (by decide +kernel) (by decide +kernel) (by decide +kernel) (by decide +kernel), List.forall_mem_cons.mpr ⟨x_cal_S (idx := 119) (c_X1_close l) ⟨by decide, by decide⟩ (by decide +kernel) (by decide +kernel) (by decide +kernel) (by decide +kernel) (by decide +kernel), List.forall_mem_cons.mpr ⟨x_cal_S (idx := 123) (c_J7_fill l) ⟨by decide, by decide⟩ (by decide +kernel) (by decide +kernel) (by decide +kernel) (by decide +kernel) (by decide +kernel), fun _ h => absurd h List.not_mem_nil⟩⟩⟩⟩⟩⟩
set_option maxHeartbeats 4000000 in
set_option maxRecDepth 100000 in
theorem c_X5_refresh (l : Launch) : x_CT l yX5_refresh cX5_refresh 1 none 4 q_X5_refresh := by
  refine x_meth (X := X_X5_refresh) (bl := b_X5_refresh) (cut := []) (own := RX5) 30 (by decide) rfl X_X5_refresh_ok b_X5_refresh_ok rfl (Nat.le_of_ble_eq_true rfl) (k_X5_refresh l) ?_
  rintro as S M - ⟨q, hp, rfl, rfl⟩
  obtain ⟨hw, hok, hwf0, hwv⟩ := hp
  have hsz1 : (x_row M q (upd (M q) 9 (M 1 5))) 1 4 = nI (nN M) := by rw [x_row_ne _ _ (by rcases hw with rfl | rfl <;> decide)]; exact hok.2.1
  have hst1 : Sts (x_row M q (upd (M q) 9 (M 1 5))) (wo q) (nN M) (nA M) (nB M) (nS M (wo q)) := fun i hi => by
    rw [x_row_ne _ _ (show 2 ≠ q by rcases hw with rfl | rfl <;> decide), x_row_ne _ _ (show 3 ≠ q by rcases hw with rfl | rfl <;> decide), x_row_ne _ _ (show 5 + wo q ≠ q by rcases hw with rfl | rfl <;> decide)]
    exact hok.2.2 _ (wo_lt q) i hi
  have hwf : (x_row M q (upd (M q) 9 (M 1 5))) q 0 = nI (wo q) := by rw [x_row_self]; exact hwf0
  have htb : tbf (M 7) (nN M) < 2 ^ 30 := Nat.lt_of_lt_of_le (tbf_lt _ _) (Nat.pow_le_pow_right (by decide) hok.1)
  have htF := tF_ok hok (wo_lt q)
  refine ⟨fun _ _ _ _ _ _ _ _ => False, ?_, ?_⟩
  · skip
    refine xt_blk rfl rfl (by dsimp only [List.take]) ?_
    refine xt_aln0 rfl (by first | decide | omega | assumption | (have := isWy_lt hw; omega)) ?_
    refine xt_gfi (q := (3, 9)) rfl (by first | exact SHw hw | exact SHw1 hw | exact SHw2 hw | exact SHw3 hw | exact SHw4 hw | exact SHw5 hw | exact SHw6 hw | rfl | assumption) rfl ?_
    refine xt_aln0 rfl (by first | decide | omega | assumption | (have := isWy_lt hw; omega)) ?_
    refine xt_gfr (q := (3, 1)) rfl (by first | exact SHw hw | exact SHw1 hw | exact SHw2 hw | exact SHw3 hw | exact SHw4 hw | exact SHw5 hw | exact SHw6 hw | rfl | assumption) rfl ?_
    refine xt_v1 (key := 322) (q := q_X4_changes) rfl rfl rfl rfl rfl ⟨Nat.le_of_ble_eq_true rfl, Nat.le_of_ble_eq_true rfl⟩ ⟨rfl, rfl⟩ (fun rv_ S1 M1 hq_8 => ?_)
    obtain ⟨eS_, eM_, rfl⟩ := hq_8 rfl
    replace eS_ := eS_.symm
    replace eM_ := eM_.symm
    subst eS_ eM_
    try dsimp only [Option.toList, List.cons_append, List.nil_append]
    refine xt_cne (t := 15) rfl (fun hc_11 => ?_) (fun hc_11 => ?_)
    · skip
      refine xt_blk rfl rfl (by dsimp only [List.take]) ?_
      refine xt_aln0 rfl (by first | decide | omega | assumption | (have := isWy_lt hw; omega)) ?_
      refine xt_aln0 rfl (by first | decide | omega | assumption | (have := isWy_lt hw; omega)) ?_
      refine xt_gfr (q := (3, 1)) rfl (by first | exact SHw hw | exact SHw1 hw | exact SHw2 hw | exact SHw3 hw | exact SHw4 hw | exact SHw5 hw | exact SHw6 hw | rfl | assumption) rfl ?_
      refine xt_v1 (key := 322) (q := q_X4_changes) rfl rfl rfl rfl rfl ⟨Nat.le_of_ble_eq_true rfl, Nat.le_of_ble_eq_true rfl⟩ ⟨rfl, rfl⟩ (fun rv_ S1 M1 hq_20 => ?_)
      obtain ⟨eS_, eM_, rfl⟩ := hq_20 rfl
      replace eS_ := eS_.symm
      replace eM_ := eM_.symm
      subst eS_ eM_
      try dsimp only [Option.toList, List.cons_append, List.nil_append]
      refine xt_pfi (q := (3, 9)) rfl (by first | exact SHw hw | exact SHw1 hw | exact SHw2 hw | exact SHw3 hw | exact SHw4 hw | exact SHw5 hw | exact SHw6 hw | rfl | assumption) rfl (by decide) (Or.inl rfl) ?_
      refine xt_aln0 rfl (by first | decide | omega | assumption | (have := isWy_lt hw; omega)) ?_
      refine xt_gfr (q := (3, 1)) rfl (by first | exact SHw hw | exact SHw1 hw | exact SHw2 hw | exact SHw3 hw | exact SHw4 hw | exact SHw5 hw | exact SHw6 hw | rfl | assumption) rfl ?_
      refine xt_aln0 rfl (by first | decide | omega | assumption | (have := isWy_lt hw; omega)) ?_
      refine xt_gfi (q := (3, 0)) rfl (by first | exact SHw hw | exact SHw1 hw | exact SHw2 hw | exact SHw3 hw | exact SHw4 hw | exact SHw5 hw | exact SHw6 hw | rfl | assumption) rfl ?_
      refine xt_aln0 rfl (by first | decide | omega | assumption | (have := isWy_lt hw; omega)) ?_
      refine xt_gfr (q := (3, 1)) rfl (by first | exact SHw hw | exact SHw1 hw | exact SHw2 hw | exact SHw3 hw | exact SHw4 hw | exact SHw5 hw | exact SHw6 hw | rfl | assumption) rfl ?_
      refine xt_v1 (key := 337) (q := q_X4_toldBits) rfl rfl rfl rfl rfl ⟨Nat.le_of_ble_eq_true rfl, Nat.le_of_ble_eq_true rfl⟩ ⟨rfl, ⟨nN M, hok.1, hsz1⟩, rfl⟩ (fun rv_ S1 M1 hq_38 => ?_)
      obtain ⟨eS_, eM_, rfl⟩ := hq_38 (nN M) hok.1 hsz1 rfl
      replace eS_ := eS_.symm
      replace eM_ := eM_.symm
      subst eS_ eM_
      have e7 : (x_row M q (upd (M q) 9 (M 1 5))) 7 = M 7 := x_row_ne _ _ (by rcases hw with rfl | rfl <;> decide)
      rw [e7]
      try dsimp only [Option.toList, List.cons_append, List.nil_append]
      refine xt_aln0 rfl (by first | decide | omega | assumption | (have := isWy_lt hw; omega)) ?_
      refine xt_gfr (q := (3, 3)) rfl (by first | exact SHw hw | exact SHw1 hw | exact SHw2 hw | exact SHw3 hw | exact SHw4 hw | exact SHw5 hw | exact SHw6 hw | rfl | assumption) rfl ?_
      refine xt_v4 (key := 346) (q := q_X4_writeNet) rfl rfl rfl rfl rfl ⟨Nat.le_of_ble_eq_true rfl, Nat.le_of_ble_eq_true rfl⟩ ⟨wo q, tbf (M 7) (nN M), q + 1, nN M, nA M, nB M, nS M (wo q), wo_lt q, htb, by have := isWy_lt hw; omega, rfl, SHw1 hw, hok.1, hsz1, hst1, by rw [hwf]⟩ (fun rv_ S1 M1 hq_45 => ?_)
      obtain ⟨eS_, ⟨gI, eM_, hgI⟩, rfl⟩ := hq_45 (wo q) (tbf (M 7) (nN M)) (q + 1) (nN M) (nA M) (nB M) (nS M (wo q)) (wo_lt q) htb hok.1 hsz1 hst1 (by rw [hwf])
      replace eS_ := eS_.symm
      replace eM_ := eM_.symm
      subst eS_ eM_
      replace hgI : ∀ j, j < 36 → gI j = nI (tF M (wo q) j) := hgI
      try dsimp only [Option.toList, List.cons_append, List.nil_append]
      refine xt_aln0 rfl (by first | decide | omega | assumption | (have := isWy_lt hw; omega)) ?_
      refine xt_gfr (q := (3, 3)) rfl (by first | exact SHw hw | exact SHw1 hw | exact SHw2 hw | exact SHw3 hw | exact SHw4 hw | exact SHw5 hw | exact SHw6 hw | rfl | assumption) rfl ?_
      refine xt_ic ?_
      refine xt_aln0 rfl (by first | decide | omega | assumption | (have := isWy_lt hw; omega)) ?_
      refine xt_gfr (q := (3, 4)) rfl (by first | exact SHw hw | exact SHw1 hw | exact SHw2 hw | exact SHw3 hw | exact SHw4 hw | exact SHw5 hw | exact SHw6 hw | rfl | assumption) rfl ?_
      refine xt_ic ?_
      refine xt_bi ?_
      refine xt_v5 (key := 225) (q := x_qC) rfl rfl rfl rfl rfl ⟨Nat.le_of_ble_eq_true rfl, Nat.le_of_ble_eq_true rfl⟩ ⟨q + 1, q + 2, rfl, SHw1 hw, SHw2 hw⟩ (fun rv_ S1 M1 hq_60 => ?_)
      obtain ⟨er, eS_, eM_⟩ := hq_60
      replace eS_ := eS_.symm
      subst eS_
      have eM1 := eM_ (q + 1) (q + 2) rfl
      subst er
      subst eM1
      rw [x_row_self]
      try dsimp only [Option.toList, List.cons_append, List.nil_append]
      refine xt_aln0 rfl (by first | decide | omega | assumption | (have := isWy_lt hw; omega)) ?_
      refine xt_aln0 rfl (by first | decide | omega | assumption | (have := isWy_lt hw; omega)) ?_
      refine xt_gfr (q := (3, 4)) rfl (by first | exact SHw hw | exact SHw1 hw | exact SHw2 hw | exact SHw3 hw | exact SHw4 hw | exact SHw5 hw | exact SHw6 hw | rfl | assumption) rfl ?_
      refine xt_si ?_
      refine xt_v2 (key := 357) (q := q_X1_close) rfl rfl rfl rfl rfl ⟨Nat.le_of_ble_eq_true rfl, Nat.le_of_ble_eq_true rfl⟩ ⟨q + 2, 32767, tF M (wo q), by have := isWy_lt hw; omega, by decide, SHw2 hw, (fun j hj => ⟨htF.1 j hj, by rw [x_row_self]; unfold x_cp; rw [if_pos hj]; exact hgI j hj⟩), htF.2.1, IV_all _, NE_all _, rfl⟩ (fun rv_ S1 M1 hq_71 => ?_)
      obtain ⟨eS_, gI2, eM_, hcc⟩ := hq_71 (q + 2) 32767 (tF M (wo q)) (fun j hj => ⟨htF.1 j hj, by rw [x_row_self]; unfold x_cp; rw [if_pos hj]; exact hgI j hj⟩) rfl
      replace eS_ := eS_.symm
      replace eM_ := eM_.symm
      subst eS_ eM_
      rw [x_row_row]
      have hex : ∃ v, rv_ = some (.inl v) := by rcases hcc with ⟨e, -⟩ | ⟨e, -⟩ <;> exact ⟨_, e⟩
      obtain ⟨v, rfl⟩ := hex
      try dsimp only [Option.toList, List.cons_append, List.nil_append]
      refine xt_eq (t := 81) rfl (fun hc_74 => ?_) (fun hc_74 => ?_)
      · skip
        refine xt_blk rfl rfl (by dsimp only [List.take]) ?_
        refine xt_ic ?_
        refine xt_nil (t := 82) rfl ?_
        refine xt_blk rfl rfl (by dsimp only [List.take]) ?_
        refine xt_pfi (q := (3, 10)) rfl (by first | exact SHw hw | exact SHw1 hw | exact SHw2 hw | exact SHw3 hw | exact SHw4 hw | exact SHw5 hw | exact SHw6 hw | rfl | assumption) rfl (by decide) (Or.inl rfl) ?_
        refine xt_aln0 rfl (by first | decide | omega | assumption | (have := isWy_lt hw; omega)) ?_
        refine xt_icm rfl ?_
        refine xt_pfi (q := (3, 11)) rfl (by first | exact SHw hw | exact SHw1 hw | exact SHw2 hw | exact SHw3 hw | exact SHw4 hw | exact SHw5 hw | exact SHw6 hw | rfl | assumption) rfl (by decide) (Or.inl rfl) ?_
        refine xt_aln0 rfl (by first | decide | omega | assumption | (have := isWy_lt hw; omega)) ?_
        refine xt_ic ?_
        refine xt_pfi (q := (3, 12)) rfl (by first | exact SHw hw | exact SHw1 hw | exact SHw2 hw | exact SHw3 hw | exact SHw4 hw | exact SHw5 hw | exact SHw6 hw | rfl | assumption) rfl (by decide) (Or.inr ⟨rfl, Or.inl rfl⟩) ?_
        refine xt_aln0 rfl (by first | decide | omega | assumption | (have := isWy_lt hw; omega)) ?_
        refine xt_gfr (q := (3, 7)) rfl (by first | exact SHw hw | exact SHw1 hw | exact SHw2 hw | exact SHw3 hw | exact SHw4 hw | exact SHw5 hw | exact SHw6 hw | rfl | assumption) rfl ?_
        refine xt_icm rfl ?_
        refine xt_v2 (key := 369) (q := q_J7_fill) rfl rfl rfl rfl rfl ⟨Nat.le_of_ble_eq_true rfl, Nat.le_of_ble_eq_true rfl⟩ ⟨q + 5, 36, _, by have := isWy_lt hw; omega, by decide, SHw5 hw, rfl⟩ (fun rv_ S1 M1 hq_100 => ?_)
        obtain ⟨eS_, eM_, rfl⟩ := hq_100 (q + 5) 36 _ (SHw5 hw) rfl
        replace eS_ := eS_.symm
        replace eM_ := eM_.symm
        subst eS_ eM_
        try dsimp only [Option.toList, List.cons_append, List.nil_append]
        refine xt_rv rfl (Nat.le_refl _) ?_
        intro q2 e2
        simp only [List.cons.injEq, Sum.inr.injEq, Sum.inl.injEq, and_true] at e2
        subst e2
        have hcl : ∃ g, (∀ j, j < 36 → g j < 8192 ∧ gI2 j = nI (g j)) ∧ Cl (tF M (wo q)) g ∧ ¬ Sat (tF M (wo q)) := by
          rcases hcc with ⟨e, -⟩ | ⟨-, z, F⟩
          · cases e; exact absurd hc_74 (by decide)
          · exact ⟨fun _ => 0, fun j hj => ⟨show (0 : Nat) < 8192 by decide, z j hj⟩, Or.inr ⟨F, fun _ _ => rfl⟩, Sat_fail F⟩
        obtain ⟨g, hg1, hg2, hg3⟩ := hcl
        refine ⟨rfl, ⟨fun k k1 k2 => ?_, ?_, ?_, ?_, ⟨g, ?_, hg2, ?_⟩, ?_, ?_, ?_⟩, rfl⟩
        · repeat rw [x_row_ne _ _ (by omega)]
        · rcases hw with rfl | rfl <;> simp [x_row, upd]
        · rcases hw with rfl | rfl <;> simp [x_row, upd]
        · intro j hj
          refine ⟨htF.1 j hj, ?_⟩
          rw [← hgI j hj]
          rcases hw with rfl | rfl <;> simp [x_row, upd]
        · intro j hj
          refine ⟨(hg1 j hj).1, ?_⟩
          rw [← (hg1 j hj).2]
          rcases hw with rfl | rfl <;> simp [x_row, upd]
        · exact Or.inr (Or.inr ⟨by rcases hw with rfl | rfl <;> simp [x_row, upd], hg3⟩)
        · intro a b ha hb hab
          left
          rw [x_row_self]
          unfold x_cp
          rw [if_pos (by omega)]
        · left
          rcases hw with rfl | rfl <;> simp [x_row, upd]
        · left
          rcases hw with rfl | rfl <;> simp [x_row, upd]
      · skip
        refine xt_icm rfl ?_
        refine xt_goto (t := 82) rfl ?_
        refine xt_blk rfl rfl (by dsimp only [List.take]) ?_
        refine xt_pfi (q := (3, 10)) rfl (by first | exact SHw hw | exact SHw1 hw | exact SHw2 hw | exact SHw3 hw | exact SHw4 hw | exact SHw5 hw | exact SHw6 hw | rfl | assumption) rfl (by decide) (Or.inl rfl) ?_
        refine xt_aln0 rfl (by first | decide | omega | assumption | (have := isWy_lt hw; omega)) ?_
        refine xt_icm rfl ?_
        refine xt_pfi (q := (3, 11)) rfl (by first | exact SHw hw | exact SHw1 hw | exact SHw2 hw | exact SHw3 hw | exact SHw4 hw | exact SHw5 hw | exact SHw6 hw | rfl | assumption) rfl (by decide) (Or.inl rfl) ?_
        refine xt_aln0 rfl (by first | decide | omega | assumption | (have := isWy_lt hw; omega)) ?_
        refine xt_ic ?_
        refine xt_pfi (q := (3, 12)) rfl (by first | exact SHw hw | exact SHw1 hw | exact SHw2 hw | exact SHw3 hw | exact SHw4 hw | exact SHw5 hw | exact SHw6 hw | rfl | assumption) rfl (by decide) (Or.inr ⟨rfl, Or.inl rfl⟩) ?_
        refine xt_aln0 rfl (by first | decide | omega | assumption | (have := isWy_lt hw; omega)) ?_
        refine xt_gfr (q := (3, 7)) rfl (by first | exact SHw hw | exact SHw1 hw | exact SHw2 hw | exact SHw3 hw | exact SHw4 hw | exact SHw5 hw | exact SHw6 hw | rfl | assumption) rfl ?_
        refine xt_icm rfl ?_
        refine xt_v2 (key := 369) (q := q_J7_fill) rfl rfl rfl rfl rfl ⟨Nat.le_of_ble_eq_true rfl, Nat.le_of_ble_eq_true rfl⟩ ⟨q + 5, 36, _, by have := isWy_lt hw; omega, by decide, SHw5 hw, rfl⟩ (fun rv_ S1 M1 hq_100 => ?_)
        obtain ⟨eS_, eM_, rfl⟩ := hq_100 (q + 5) 36 _ (SHw5 hw) rfl
        replace eS_ := eS_.symm
        replace eM_ := eM_.symm
        subst eS_ eM_
        try dsimp only [Option.toList, List.cons_append, List.nil_append]
        refine xt_rv rfl (Nat.le_refl _) ?_
        intro q2 e2
        simp only [List.cons.injEq, Sum.inr.injEq, Sum.inl.injEq, and_true] at e2
        subst e2
        have hcl : ∃ g, (∀ j, j < 36 → g j < 8192 ∧ gI2 j = nI (g j)) ∧ Cl (tF M (wo q)) g ∧ Cn (tF M (wo q)) g := by
          rcases hcc with ⟨-, g, z1, z2, z3, z4, z5, z6⟩ | ⟨e, -⟩
          · exact ⟨g, fun j hj => ⟨z1 j hj, z2 j hj⟩, Or.inl ⟨z1, z3, z4, z5, z6⟩, ⟨z1, z3, z4, z5, z6⟩⟩
          · cases e; exact absurd rfl hc_74
        obtain ⟨g, hg1, hg2, hg3⟩ := hcl
        refine ⟨rfl, ⟨fun k k1 k2 => ?_, ?_, ?_, ?_, ⟨g, ?_, hg2, ?_⟩, ?_, ?_, ?_⟩, rfl⟩
        · repeat rw [x_row_ne _ _ (by omega)]
        · rcases hw with rfl | rfl <;> simp [x_row, upd]
        · rcases hw with rfl | rfl <;> simp [x_row, upd]
        · intro j hj
          refine ⟨htF.1 j hj, ?_⟩
          rw [← hgI j hj]
          rcases hw with rfl | rfl <;> simp [x_row, upd]
        · intro j hj
          refine ⟨(hg1 j hj).1, ?_⟩
          rw [← (hg1 j hj).2]
          rcases hw with rfl | rfl <;> simp [x_row, upd]
        · exact Or.inl ⟨by rcases hw with rfl | rfl <;> simp [x_row, upd], hg3⟩
        · intro a b ha hb hab
          left
          rw [x_row_self]
          unfold x_cp
          rw [if_pos (by omega)]
        · left
          rcases hw with rfl | rfl <;> simp [x_row, upd]
        · left
          rcases hw with rfl | rfl <;> simp [x_row, upd]
    · skip
      refine xt_rv rfl (Nat.le_refl _) ?_
      intro q2 e2
      simp only [List.cons.injEq, Sum.inr.injEq, Sum.inl.injEq, and_true] at e2
      subst e2
      exact ⟨rfl, ⟨fun _ _ _ => rfl, rfl, hc_11, hwv hc_11⟩, rfl⟩
  · intro μ pc ls st S2 M2 cs sl h; exact h.elim
def q_X5_toldSet : x_K := (3, fun as S M => ∃ (q : Nat) (a : Nat) (b : Nat), WP M q ∧ S = SH ∧ a < 6 ∧ b < 6 ∧ as = [.inr (.inl q), .inl (nI a), .inl (nI b)], fun as S M rv_ S' M' => ∀ (q : Nat) (a : Nat) (b : Nat), a < 6 → b < 6 → as = [.inr (.inl q), .inl (nI a), .inl (nI b)] → S' = S ∧ Ed M q M' ∧ rv_ = some (.inl (nI (tF M (wo q) (a * 6 + b)))), 0, 0)
theorem r_X5_toldSet : ∀ as S M, q_X5_toldSet.2.1 as S M → ∃ (k : Nat) (as' : List x_V) (fs : List (Option Nat)), as = .inr (.inl k) :: as' ∧ S[k]? = some (.inl (3, fs)) := by
  rintro as S M ⟨q, a, b, hp, rfl, -, -, rfl⟩
  exact ⟨q, _, _, rfl, SHw hp.1⟩
def b_X5_toldSet : x_B := [(0, 3, [(.aload_n 0, 1), (.invokevirtual 47, 3), (.aload_n 0, 1), (.getfield 25, 3), (.iload_n 1, 1), (.bipush 6, 2), (.imul, 1), (.iload_n 2, 1), (.iadd, 1), (.iaload, 1), (.ireturn, 1)])]
theorem b_X5_toldSet_ok : x_okB cX5_toldSet 3 b_X5_toldSet = true := by decide +kernel
def X_X5_toldSet : x_X := ([(25, 3, 3)], [], [], [], [(142, q_X5_refresh)], (0, 0), x_kn, x_kf, 5, false)
theorem X_X5_toldSet_ok : x_okT RX5 X_X5_toldSet = true := by decide +kernel
theorem k_X5_toldSet (l : Launch) : ∀ z ∈ X_X5_toldSet.2.2.2.2.1, x_Cal l (x_rm 5 0 0) cX5_toldSet RX5 3 z.1 z.2 := List.forall_mem_cons.mpr ⟨x_cal_V (idx := 47) (ci := 3) (n := 0) (c_X5_refresh l) ⟨by decide, by decide⟩ (by decide +kernel) (by decide +kernel) (by decide +kernel) (by decide +kernel) (by decide +kernel) rfl rfl rfl (by decide +kernel) r_X5_refresh, fun _ h => absurd h List.not_mem_nil⟩
set_option maxHeartbeats 4000000 in
set_option maxRecDepth 100000 in
theorem c_X5_toldSet (l : Launch) : x_CT l yX5_toldSet cX5_toldSet 3 (some .int) 5 q_X5_toldSet := by
  refine x_meth (X := X_X5_toldSet) (bl := b_X5_toldSet) (cut := []) (own := RX5) 30 (by decide) rfl X_X5_toldSet_ok b_X5_toldSet_ok rfl (Nat.le_of_ble_eq_true rfl) (k_X5_toldSet l) ?_
  rintro as S M - ⟨q, a, b, hp, rfl, ha, hb, rfl⟩
  have hw := hp.1
  refine ⟨fun _ _ _ _ _ _ _ _ => False, ?_, ?_⟩
  · skip
    refine xt_blk rfl rfl (by dsimp only [List.take]) ?_
    refine xt_aln0 rfl (by first | decide | omega | assumption | (have := isWy_lt hw; omega)) ?_
    refine xt_v1 (key := 142) (q := q_X5_refresh) rfl rfl rfl rfl rfl ⟨Nat.le_of_ble_eq_true rfl, Nat.le_of_ble_eq_true rfl⟩ ⟨q, hp, rfl, rfl⟩ (fun rv_ S1 M1 hq_1 => ?_)
    obtain ⟨eS_, hEd, rfl⟩ := hq_1 q rfl
    replace eS_ := eS_.symm
    subst eS_
    try dsimp only [Option.toList, List.cons_append, List.nil_append]
    refine xt_aln0 rfl (by first | decide | omega | assumption | (have := isWy_lt hw; omega)) ?_
    refine xt_gfr (q := (3, 3)) rfl (by first | exact SHw hw | exact SHw1 hw | exact SHw2 hw | exact SHw3 hw | exact SHw4 hw | exact SHw5 hw | exact SHw6 hw | rfl | assumption) rfl ?_
    refine xt_iln1 rfl ?_
    refine xt_bi ?_
    refine xt_mul ?_
    refine xt_iln2 rfl ?_
    refine xt_add ?_
    refine xt_ial (by first | exact SHw hw | exact SHw1 hw | exact SHw2 hw | exact SHw3 hw | exact SHw4 hw | exact SHw5 hw | exact SHw6 hw | rfl | assumption) (n_ixi ha hb) ?_
    refine xt_ri rfl (Nat.le_refl _) ?_
    intro q2 a2 b2 h2a h2b e2
    simp only [List.cons.injEq, Sum.inr.injEq, Sum.inl.injEq, and_true] at e2
    obtain ⟨rfl, ea, eb⟩ := e2
    rw [nI_eq (by omega) (by omega)] at ea eb
    subst ea eb
    exact ⟨rfl, hEd, by rw [n_ixc ha hb, (hEd.2.2.2.1 _ (by omega)).2]⟩
  · intro μ pc ls st S2 M2 cs sl h; exact h.elim
def q_X5_closedSet : x_K := (3, fun as S M => ∃ (q : Nat) (a : Nat) (b : Nat), WP M q ∧ S = SH ∧ a < 6 ∧ b < 6 ∧ as = [.inr (.inl q), .inl (nI a), .inl (nI b)], fun as S M rv_ S' M' => ∀ (q : Nat) (a : Nat) (b : Nat), a < 6 → b < 6 → as = [.inr (.inl q), .inl (nI a), .inl (nI b)] → S' = S ∧ Ed M q M' ∧ ∃ g, Bd g ∧ Cl (tF M (wo q)) g ∧ rv_ = some (.inl (nI (g (a * 6 + b)))), 0, 0)
theorem r_X5_closedSet : ∀ as S M, q_X5_closedSet.2.1 as S M → ∃ (k : Nat) (as' : List x_V) (fs : List (Option Nat)), as = .inr (.inl k) :: as' ∧ S[k]? = some (.inl (3, fs)) := by
  rintro as S M ⟨q, a, b, hp, rfl, -, -, rfl⟩
  exact ⟨q, _, _, rfl, SHw hp.1⟩
def b_X5_closedSet : x_B := [(0, 3, [(.aload_n 0, 1), (.invokevirtual 47, 3), (.aload_n 0, 1), (.getfield 29, 3), (.iload_n 1, 1), (.bipush 6, 2), (.imul, 1), (.iload_n 2, 1), (.iadd, 1), (.iaload, 1), (.ireturn, 1)])]
theorem b_X5_closedSet_ok : x_okB cX5_closedSet 3 b_X5_closedSet = true := by decide +kernel
def X_X5_closedSet : x_X := ([(29, 3, 4)], [], [], [], [(142, q_X5_refresh)], (0, 0), x_kn, x_kf, 5, false)
theorem X_X5_closedSet_ok : x_okT RX5 X_X5_closedSet = true := by decide +kernel
theorem k_X5_closedSet (l : Launch) : ∀ z ∈ X_X5_closedSet.2.2.2.2.1, x_Cal l (x_rm 5 0 0) cX5_closedSet RX5 3 z.1 z.2 := List.forall_mem_cons.mpr ⟨x_cal_V (idx := 47) (ci := 3) (n := 0) (c_X5_refresh l) ⟨by decide, by decide⟩ (by decide +kernel) (by decide +kernel) (by decide +kernel) (by decide +kernel) (by decide +kernel) rfl rfl rfl (by decide +kernel) r_X5_refresh, fun _ h => absurd h List.not_mem_nil⟩
set_option maxHeartbeats 4000000 in
set_option maxRecDepth 100000 in
theorem c_X5_closedSet (l : Launch) : x_CT l yX5_closedSet cX5_closedSet 3 (some .int) 5 q_X5_closedSet := by
  refine x_meth (X := X_X5_closedSet) (bl := b_X5_closedSet) (cut := []) (own := RX5) 30 (by decide) rfl X_X5_closedSet_ok b_X5_closedSet_ok rfl (Nat.le_of_ble_eq_true rfl) (k_X5_closedSet l) ?_
  rintro as S M - ⟨q, a, b, hp, rfl, ha, hb, rfl⟩
  have hw := hp.1
  refine ⟨fun _ _ _ _ _ _ _ _ => False, ?_, ?_⟩
  · skip
    refine xt_blk rfl rfl (by dsimp only [List.take]) ?_
    refine xt_aln0 rfl (by first | decide | omega | assumption | (have := isWy_lt hw; omega)) ?_
    refine xt_v1 (key := 142) (q := q_X5_refresh) rfl rfl rfl rfl rfl ⟨Nat.le_of_ble_eq_true rfl, Nat.le_of_ble_eq_true rfl⟩ ⟨q, hp, rfl, rfl⟩ (fun rv_ S1 M1 hq_1 => ?_)
    obtain ⟨eS_, hEd, rfl⟩ := hq_1 q rfl
    replace eS_ := eS_.symm
    subst eS_
    try dsimp only [Option.toList, List.cons_append, List.nil_append]
    refine xt_aln0 rfl (by first | decide | omega | assumption | (have := isWy_lt hw; omega)) ?_
    refine xt_gfr (q := (3, 4)) rfl (by first | exact SHw hw | exact SHw1 hw | exact SHw2 hw | exact SHw3 hw | exact SHw4 hw | exact SHw5 hw | exact SHw6 hw | rfl | assumption) rfl ?_
    refine xt_iln1 rfl ?_
    refine xt_bi ?_
    refine xt_mul ?_
    refine xt_iln2 rfl ?_
    refine xt_add ?_
    refine xt_ial (by first | exact SHw hw | exact SHw1 hw | exact SHw2 hw | exact SHw3 hw | exact SHw4 hw | exact SHw5 hw | exact SHw6 hw | rfl | assumption) (n_ixi ha hb) ?_
    refine xt_ri rfl (Nat.le_refl _) ?_
    intro q2 a2 b2 h2a h2b e2
    simp only [List.cons.injEq, Sum.inr.injEq, Sum.inl.injEq, and_true] at e2
    obtain ⟨rfl, ea, eb⟩ := e2
    rw [nI_eq (by omega) (by omega)] at ea eb
    subst ea eb
    obtain ⟨g, g1, g2, -⟩ := hEd.2.2.2.2.1
    exact ⟨rfl, hEd, g, fun j hj => (g1 j hj).1, g2, by rw [n_ixc ha hb, (g1 _ (by omega)).2]⟩
  · intro μ pc ls st S2 M2 cs sl h; exact h.elim
