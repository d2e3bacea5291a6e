/-! THE LAW'S START: classes, arrays, constant tables -/
def x_fl : List Jvm.Cond := flatC (Jvm.Cond.and given_1 narrow_1)
def x_tm (c : Nat) : Term := .static (x_kC c) (x_kN c) "[I"
def x_po (c : Nat) : Nat := match c with
  | 0 => 231
  | 1 => 7
  | 2 => 179
  | 3 => 195
  | _ => 213
def x_em (c j : Nat) : Jvm.Cond := Jvm.Cond.eq (.elem (x_tm c) (.int (Int32.ofNat j))) (.int (x_kf c j))
theorem x_s0 : (x_fl.drop 231).take 13 = (List.range 13).map (x_em 0) := by decide +kernel
theorem x_s1 : (x_fl.drop 7).take 169 = (List.range 169).map (x_em 1) := by decide +kernel
theorem x_s2 : (x_fl.drop 179).take 13 = (List.range 13).map (x_em 2) := by decide +kernel
theorem x_s3 : (x_fl.drop 195).take 15 = (List.range 15).map (x_em 3) := by decide +kernel
theorem x_s4 : (x_fl.drop 213).take 15 = (List.range 15).map (x_em 4) := by decide +kernel
theorem x_sall (c : Nat) (hc : c < 5) : (x_fl.drop (x_po c)).take (x_kn c) = (List.range (x_kn c)).map (x_em c) := by
  rcases (show c = 0 ∨ c = 1 ∨ c = 2 ∨ c = 3 ∨ c = 4 by omega) with rfl | rfl | rfl | rfl | rfl
  · exact x_s0
  · exact x_s1
  · exact x_s2
  · exact x_s3
  · exact x_s4
theorem x_el_in (c : Nat) (hc : c < 5) (j : Nat) (hj : j < x_kn c) : x_em c j ∈ x_fl := by
  have h : x_em c j ∈ (List.range (x_kn c)).map (x_em c) := List.mem_map.mpr ⟨j, List.mem_range.mpr hj, rfl⟩
  rw [← x_sall c hc] at h
  exact List.mem_of_mem_drop (List.mem_of_mem_take h)
theorem x_ln_in : ∀ c, c < 5 → x_fl[x_po c - 1]? = some (Jvm.Cond.eq (.length (x_tm c)) (.int (Int32.ofNat (x_kn c)))) ∧ x_fl[x_po c - 2]? = some (Jvm.Cond.arrayOf (x_tm c) .int) := by decide +kernel
theorem x_st_in : ∀ c, c < 5 → Jvm.Cond.laysStatic (x_kC c) (x_kN c) "[I" ∈ lw_tbl ∧ Jvm.Cond.initialized (x_kC c) ∈ lw_tbl := by decide +kernel
theorem x_ws0 : ∀ w ∈ u_ws RX0 TX0 2, w ∈ lw_tbl := by decide +kernel
theorem x_ws3 : ∀ w ∈ u_ws RX3 TX3 1, w ∈ lw_tbl := by decide +kernel
theorem x_ws4 : ∀ w ∈ u_ws RX4 TX4 6, w ∈ lw_tbl := by decide +kernel
theorem x_ws5 : ∀ w ∈ u_ws RX5 TX5 13, w ∈ lw_tbl := by decide +kernel
theorem x_ws6 : ∀ w ∈ u_ws RX6 TX6 6, w ∈ lw_tbl := by decide +kernel
theorem x_ws7 : ∀ w ∈ u_ws RX7 TX7 18, w ∈ lw_tbl := by decide +kernel
theorem x_win : Jvm.Cond.instantiable RX0 2 ∈ lw_tbl ∧ Jvm.Cond.instantiable RX3 1 ∈ lw_tbl ∧ Jvm.Cond.instantiable RX4 6 ∈ lw_tbl ∧ Jvm.Cond.instantiable RX5 13 ∈ lw_tbl ∧ Jvm.Cond.instantiable RX6 6 ∈ lw_tbl ∧ Jvm.Cond.instantiable RX7 18 ∈ lw_tbl ∧ Jvm.Cond.arrayClass .int ∈ lw_tbl ∧ Jvm.Cond.arrayClass .boolean ∈ lw_tbl ∧ Jvm.Cond.arrayOver (.array .int) ∈ lw_tbl := by decide +kernel
theorem x_arr {s : State} {c : ClassId} {k : Class} {comp : ClassId} {ty : FieldType} (h1 : s.vm.classes[c]? = some k) (h2 : k.kind = .array comp ty) : ArrOfT s c ty := fun n z => ⟨fun k => (by unfold arrV; intro h; cases h), k, h1, comp, h2⟩
theorem law_env {s : State} {b L : Nat} {xs : Nat → Int32} (hts : ∀ w ∈ lw_tbl, w.before #[Value.ref b] s = true) (hgv : (Jvm.Cond.and given_1 narrow_1).before #[Value.ref b] s = true) (hX : va_X b L xs s s.heap) (hL : L ≤ 3072) (hbl : b < s.heap.size) :
    ∃ G : x_G, G.2.2.1 = s.heap.size ∧ G.2.2.2 5 = b ∧ x_U G s ∧ x_C G s s.heap ∧ va_T .int b L (fun j => .int (xs j)) (x_A G) s s.heap := by
  have hA : ∀ q : Nat, q < s.heap.size → ¬ (fun q : Nat => s.heap.size ≤ q) q := fun q h => Nat.not_le.mpr h
  obtain ⟨w0, w3, w4, w5, w6, w7, wi, wb, wo⟩ := x_win
  obtain ⟨c0, i0, k0⟩ := u_known (C := RX0) (T := TX0) (N := 2) (n := 2) hts x_ws0 (hts _ w0)
  obtain ⟨c1, i1, k1⟩ := u_known (C := RX3) (T := TX3) (N := 1) (n := 1) hts x_ws3 (hts _ w3)
  obtain ⟨c2, i2, k2⟩ := u_known (C := RX4) (T := TX4) (N := 6) (n := 6) hts x_ws4 (hts _ w4)
  obtain ⟨c3, i3, k3⟩ := u_known (C := RX5) (T := TX5) (N := 13) (n := 13) hts x_ws5 (hts _ w5)
  obtain ⟨c4, i4, k4⟩ := u_known (C := RX6) (T := TX6) (N := 6) (n := 6) hts x_ws6 (hts _ w6)
  obtain ⟨c5, i5, k5⟩ := u_known (C := RX7) (T := TX7) (N := 18) (n := 18) hts x_ws7 (hts _ w7)
  obtain ⟨aI, kI, pI, fI, gI, eI⟩ := Cond.arrayClass_spec (hts _ wi)
  obtain ⟨aB, kB, pB, fB, gB, eB⟩ := Cond.arrayClass_spec (hts _ wb)
  obtain ⟨pA, aA, kA, -, gA, eA, fA⟩ := Cond.arrayOver_specA (hts _ wo)
  have hfl := flat_of_before _ hgv
  have hel : ∀ c, c < 5 → ∀ j, j < x_kn c → (Term.elem (x_tm c) (.int (Int32.ofNat j))).eval #[Value.ref b] s none [] s = some (.int (x_kf c j)) := fun c hc j hj => va_eqt (hfl _ (x_el_in c hc j hj))
  have hT : ∀ c, c < 5 → ∃ t : Nat, va_T .int t (x_kn c) (fun j => .int (x_kf c j)) (fun q : Nat => s.heap.size ≤ q) s s.heap ∧ va_Z (x_kC c) (x_kN c) "[I" (.ref t) (fun q : Nat => s.heap.size ≤ q) s s.heap := fun c hc => by
    have hN : x_kn c < 2 ^ 31 := by
      rcases (show c = 0 ∨ c = 1 ∨ c = 2 ∨ c = 3 ∨ c = 4 by omega) with rfl | rfl | rfl | rfl | rfl <;> decide
    obtain ⟨h1, h2⟩ := x_ln_in c hc
    obtain ⟨t, e1, e2⟩ := va_Tof (A := fun q : Nat => s.heap.size ≤ q) (f := fun j => .int (x_kf c j)) hN (hfl _ (List.mem_of_getElem? h2)) (va_eqt (hfl _ (List.mem_of_getElem? h1))) (hel c hc) hA
    exact ⟨t, e2, va_Zref (hts _ (x_st_in c hc).1) (hts _ (x_st_in c hc).2) e1 hA⟩
  obtain ⟨t0, ht0⟩ := hT 0 (by decide)
  obtain ⟨t1, ht1⟩ := hT 1 (by decide)
  obtain ⟨t2, ht2⟩ := hT 2 (by decide)
  obtain ⟨t3, ht3⟩ := hT 3 (by decide)
  obtain ⟨t4, ht4⟩ := hT 4 (by decide)
  refine ⟨((fun k => if k = 0 then c0 else if k = 1 then c1 else if k = 2 then c2 else if k = 3 then c3 else if k = 4 then c4 else c5, fun k => if k = 0 then i0 else if k = 1 then i1 else if k = 2 then i2 else if k = 3 then i3 else if k = 4 then i4 else i5), (aI, aB, aA), s.heap.size, fun k => if k = 0 then t0 else if k = 1 then t1 else if k = 2 then t2 else if k = 3 then t3 else if k = 4 then t4 else b), rfl, rfl, ⟨⟨?_, ?_⟩, ?_⟩, ?_, ?_⟩
  · intro k q hq
    match k, hq with
    | 0, hq => cases hq; exact k0
    | 1, hq => cases hq; exact k1
    | 2, hq => cases hq; exact k2
    | 3, hq => cases hq; exact k3
    | 4, hq => cases hq; exact k4
    | 5, hq => cases hq; exact k5
    | k + 6, hq => simp [x_cl] at hq
  · intro k q hq
    match k, hq with
    | 0, hq => cases hq; exact ⟨x_arr gI eI, fI⟩
    | 1, hq => cases hq; exact ⟨x_arr gB eB, fB⟩
    | 2, hq => cases hq; exact ⟨x_arr gA eA, fA⟩
    | k + 3, hq => simp [x_tys] at hq
  · have := hts _ wo
    unfold x_AO Cond.before Cond.holds at *
    simpa [Cond.value] using this
  · intro c hc
    rcases (show c = 0 ∨ c = 1 ∨ c = 2 ∨ c = 3 ∨ c = 4 by omega) with rfl | rfl | rfl | rfl | rfl
    · exact ht0
    · exact ht1
    · exact ht2
    · exact ht3
    · exact ht4
  · obtain ⟨scr, h1, h2, h3, h4, h5⟩ := hX
    exact ⟨scr, h1, h2, h3, by omega, by rw [h4], h5, hA b hbl⟩
