section XO
variable {p : Program} {l : Launch} {e : Env} {R : Room} {s : State} {m : MethodId} {args : Array Value} {below : List Frame} {meth : Method} {c : Code} {cc : ByteArray} {own : String} {nL : Nat} {G : x_G} {X : x_X} {Q : State → Prop}
theorem x_pl {S : List x_S} {M : x_M} {H : Heap} {k : Nat} {x : x_S} (hH : x_H G S M H) (h : S[k]? = some x) : x_v G (.inr (.inl k)) = .ref (x_ad G k) := x_v_pl (List.getElem?_eq_some_iff.mp h).1 hH.2
theorem x_pl2 {k : Nat} (h : k < 1000) : x_v G (.inr (.inl k)) = .ref (x_ad G k) := x_v_pl h (Nat.le_refl _)
theorem x_H_row {S : List x_S} {M : x_M} {H H1 : Heap} {k : Nat} {x : x_S} {f : Nat → Int32} (hH : x_H G S M H) (h : S[k]? = some x) (hP : va_P G.1 x_cl ((x_ws G S M).set k (x_ad G k, x_e G f x)) H1) : x_H G S (x_row M k f) H1 := by
  rw [x_ws_row h] at hP
  exact ⟨hP, hH.2⟩
theorem x_H_set {S : List x_S} {M : x_M} {H H1 : Heap} {k : Nat} {x y : x_S} (hH : x_H G S M H) (h : S[k]? = some x) (hP : va_P G.1 x_cl ((x_ws G S M).set k (x_ad G k, x_e G (M k) y)) H1) : x_H G (S.set k y) M H1 := by
  rw [x_ws_set h] at hP
  exact ⟨hP, by rw [List.length_set]; exact hH.2⟩
theorem x_H_size {S : List x_S} {M : x_M} {H : Heap} (hH : x_H G S M H) (h0 : G.2.2.1 ≤ H.size) : G.2.2.1 + S.length ≤ H.size := by
  rcases Nat.eq_zero_or_pos S.length with h | h
  · omega
  · have hk : S.length - 1 < S.length := by omega
    have := (hH.1 _ _ (x_ws_get (List.getElem?_eq_getElem hk))).lt
    simp only [x_ad] at this
    omega
theorem x_sf_eq {S : List x_S} {k sl r ci : Nat} {fs : List (Option Nat)} (h : S[k]? = some (.inl (ci, fs))) : x_sf S k sl r = S.set k (.inl (ci, fs.set sl (some r))) := by
  unfold x_sf
  rw [h]
set_option maxHeartbeats 4000000 in
/-- getfield -/
theorem x_s_gf (E : x_Env p l e R s m args below meth c cc own nL G X) (hT : x_okT own X = true) 
    {k pc : Nat} {ls st : List x_V} {S : List x_S} {M : x_M} {cs sl : Nat} {K : List x_V → List x_V → List x_S → x_M → Nat → Nat → Prop} (hK : ∀ ls st S M cs sl, K ls st S M cs sl → x_Y p l e R s m args below meth c nL G Q (pc + 3) ls st S M cs sl) (hd : decode cc pc = .ok (.getfield k, 3)) (h : x_gf (x_lk X.1 k) S M (fun st => K ls st S M cs sl) st) : x_Y p l e R s m args below meth c nL G Q pc ls st S M cs sl := by
  intro H locs lsA hH hz hS hl
  obtain ⟨hx, hb, hml, hown, hts, hU, hC, hk, ha0, hini⟩ := E
  unfold x_gf at h
  split at h
  · rename_i k0 st0
    split at h
    · rename_i q hq
      obtain ⟨⟨fs, f, h1, h2⟩, h3⟩ := h
      have hok : x_okF own (k, q) = true := by
        simp only [x_okT, Bool.and_eq_true, List.all_eq_true] at hT
        exact hT.1.1.1.1 _ (x_lk_mem hq)
      unfold x_okF at hok
      split at hok
      · rename_i r hr
        simp only [Bool.and_eq_true, decide_eq_true_eq] at hok
        have hcl := x_clf _ _ hr
        have hW := hK _ _ _ _ _ _ h3 H locs lsA hH hz hS hl
        rw [List.map_cons, x_fd_v h1 h2] at hW
        rw [List.map_cons, x_pl hH h1]
        exact va_get (ref := (r.2.1 q.2).1) (C := r.1) (T := r.2.1) (N := r.2.2) hx hb hts hcl.1 hown hU.1 hH.1 k0 (x_ws_get h1) hr q.2 hok.1 (hts _ hok.2) (fun _ h => h) (x_fs_get h2) hd hW
      · cases hok
    · exact h.elim
  · exact h.elim
set_option maxHeartbeats 4000000 in
/-- putfield -/
theorem x_s_pf (E : x_Env p l e R s m args below meth c cc own nL G X) (hT : x_okT own X = true) 
    {k pc : Nat} {ls st : List x_V} {S : List x_S} {M : x_M} {cs sl : Nat} {K : List x_V → List x_V → List x_S → x_M → Nat → Nat → Prop} (hK : ∀ ls st S M cs sl, K ls st S M cs sl → x_Y p l e R s m args below meth c nL G Q (pc + 3) ls st S M cs sl) (hd : decode cc pc = .ok (.putfield k, 3)) (h : x_pf (x_lk X.1 k) X.2.2.2.2.2.2.2.2.2 S M (fun st S M => K ls st S M cs sl) st) : x_Y p l e R s m args below meth c nL G Q pc ls st S M cs sl := by
  intro H locs lsA hH hz hS hl
  obtain ⟨hx, hb, hml, hown, hts, hU, hC, hk, ha0, hini⟩ := E
  unfold x_pf at h
  have words : ∀ q, x_lk X.1 k = some q → ∃ r, x_cl[q.1]? = some r ∧ q.2 < r.2.2 ∧ Cond.fieldLink own k (r.2.1 q.2).1 (r.2.1 q.2).2.1 (r.2.1 q.2).2.2.1 ∈ x_tbl ∧ ((X.2.2.2.2.2.2.2.2.2 = true) → (r.2.1 q.2).2.2.2 = true → (r.2.1 q.2).1 = own) := by
    intro q hq
    simp only [x_okT, Bool.and_eq_true, List.all_eq_true] at hT
    have hok := hT.1.1.1.1 _ (x_lk_mem hq)
    have hop := hT.1.1.1.2 _ (x_lk_mem hq)
    unfold x_okF at hok
    unfold x_okP at hop
    split at hok
    · rename_i r hr
      rw [hr] at hop
      simp only [Bool.and_eq_true, decide_eq_true_eq] at hok
      refine ⟨r, hr, hok.1, hok.2, fun g1 g2 => ?_⟩
      simpa [g1, g2] using hop
    · cases hok
  split at h
  · rename_i x k0 st0
    split at h
    · rename_i q hq
      obtain ⟨⟨fs, h1, h2⟩, h3, h4, h5⟩ := h
      obtain ⟨r, hr, g1, g2, g3⟩ := words q hq
      have hcl := x_clf _ _ hr
      have hfl : q.2 < (x_fs G (M k0) fs).length := by
        simp only [x_fs, List.length_mapIdx]
        exact (List.getElem?_eq_some_iff.mp h2).1
      have hn : narrow (x_ty q.1 q.2) (.int x) = .int x ∧ fits (x_ty q.1 q.2) (.int x) = true := by
        rcases h4 with h4 | ⟨h4, rfl | rfl⟩
        · rw [h4]; exact ⟨rfl, rfl⟩
        · rw [h4]; exact ⟨rfl, rfl⟩
        · rw [h4]; exact ⟨rfl, rfl⟩
      rw [List.map_cons, List.map_cons, x_pl hH h1]
      have fin : x_fi q.1 q.2 = (r.2.1 q.2).2.2.2 := by unfold x_fi; rw [hr]
      have goal2 : ∀ (H1 : Heap) (locs1 : List Loc), va_P G.1 x_cl ((x_ws G S M).set k0 (x_ad G k0, .inr (q.1, (x_fs G (M k0) fs).set q.2 (.int x)))) H1 → va_D (x_A G) ((x_ws G S M).set k0 (x_ad G k0, .inr (q.1, (x_fs G (M k0) fs).set q.2 (.int x)))) → va_S (x_A G) s.heap H1 locs1 → W p l e R s m args below meth c H1 locs1 cs sl Q (F0 m (pc + 3) lsA (List.map (x_v G) st0)) := by
        intro H1 locs1 hP1 _ hS1
        rw [x_fs_int h2] at hP1
        exact hK _ _ _ _ _ _ h5 H1 locs1 lsA (x_H_row hH h1 hP1) hz hS1 hl
      by_cases hf : (r.2.1 q.2).2.2.2 = true
      · have hi : X.2.2.2.2.2.2.2.2.2 = true := by
          rcases h3 with h3 | h3
          · rw [fin, hf] at h3; cases h3
          · exact h3
        exact va_putF (ref := (r.2.1 q.2).1) (C := r.1) (T := r.2.1) (N := r.2.2) (ci := q.1) hx hb hts hcl.1 (x_ty q.1) hcl.2.1 hcl.2.2.1 hown hU.1 hH.1 (x_ws_D G S M) hS k0 (x_ws_get h1) hr q.2 g1 (hts _ g2) (fun _ h => h) hf (hini hi) (g3 hi hf) (hcl.2.1 _ g1) hn.1 hn.2 hfl hd goal2
      · exact va_put (ref := (r.2.1 q.2).1) (C := r.1) (T := r.2.1) (N := r.2.2) (ci := q.1) hx hb hts hcl.1 (x_ty q.1) hcl.2.1 hcl.2.2.1 hown hU.1 hH.1 (x_ws_D G S M) hS k0 (x_ws_get h1) hr q.2 g1 (hts _ g2) (fun _ h => h) (by simpa using hf) (hcl.2.1 _ g1) hn.1 hn.2 hfl hd goal2
    · exact h.elim
  · rename_i r1 k0 st0
    split at h
    · rename_i q hq
      obtain ⟨⟨fs, r0, h1, h2⟩, hr1, h3, h4, h5⟩ := h
      obtain ⟨r, hr, g1, g2, g3⟩ := words q hq
      have hcl := x_clf _ _ hr
      have hfl0 : q.2 < fs.length := (List.getElem?_eq_some_iff.mp h2).1
      have hfl : q.2 < (x_fs G (M k0) fs).length := by
        simp only [x_fs, List.length_mapIdx]
        exact hfl0
      have hn : narrow (x_ty q.1 q.2) (x_v G (.inr (.inl r1))) = x_v G (.inr (.inl r1)) ∧ fits (x_ty q.1 q.2) (x_v G (.inr (.inl r1))) = true := by
        rw [x_pl2 hr1]
        generalize x_ty q.1 q.2 = ty at h4
        cases ty <;> first | exact ⟨rfl, rfl⟩ | (simp [defaultValue] at h4; done)
      rw [List.map_cons, List.map_cons, x_pl hH h1]
      have fin : x_fi q.1 q.2 = (r.2.1 q.2).2.2.2 := by unfold x_fi; rw [hr]
      have goal2 : ∀ (H1 : Heap) (locs1 : List Loc), va_P G.1 x_cl ((x_ws G S M).set k0 (x_ad G k0, .inr (q.1, (x_fs G (M k0) fs).set q.2 (x_v G (.inr (.inl r1)))))) H1 → va_D (x_A G) ((x_ws G S M).set k0 (x_ad G k0, .inr (q.1, (x_fs G (M k0) fs).set q.2 (x_v G (.inr (.inl r1)))))) → va_S (x_A G) s.heap H1 locs1 → W p l e R s m args below meth c H1 locs1 cs sl Q (F0 m (pc + 3) lsA (List.map (x_v G) st0)) := by
        intro H1 locs1 hP1 _ hS1
        rw [x_fs_ref hfl0] at hP1
        rw [x_sf_eq h1] at h5
        exact hK _ _ _ _ _ _ h5 H1 locs1 lsA (x_H_set hH h1 hP1) (by rw [List.length_set]; exact hz) hS1 hl
      by_cases hf : (r.2.1 q.2).2.2.2 = true
      · have hi : X.2.2.2.2.2.2.2.2.2 = true := by
          rcases h3 with h3 | h3
          · rw [fin, hf] at h3; cases h3
          · exact h3
        exact va_putF (ref := (r.2.1 q.2).1) (C := r.1) (T := r.2.1) (N := r.2.2) (ci := q.1) hx hb hts hcl.1 (x_ty q.1) hcl.2.1 hcl.2.2.1 hown hU.1 hH.1 (x_ws_D G S M) hS k0 (x_ws_get h1) hr q.2 g1 (hts _ g2) (fun _ h => h) hf (hini hi) (g3 hi hf) (hcl.2.1 _ g1) hn.1 hn.2 hfl hd goal2
      · exact va_put (ref := (r.2.1 q.2).1) (C := r.1) (T := r.2.1) (N := r.2.2) (ci := q.1) hx hb hts hcl.1 (x_ty q.1) hcl.2.1 hcl.2.2.1 hown hU.1 hH.1 (x_ws_D G S M) hS k0 (x_ws_get h1) hr q.2 g1 (hts _ g2) (fun _ h => h) (by simpa using hf) (hcl.2.1 _ g1) hn.1 hn.2 hfl hd goal2
    · exact h.elim
  · exact h.elim
set_option maxHeartbeats 4000000 in
/-- iaload, baload -/
theorem x_s_ald (E : x_Env p l e R s m args below meth c cc own nL G X)  (b : Bool)
    {pc : Nat} {ls st : List x_V} {S : List x_S} {M : x_M} {cs sl : Nat} {K : List x_V → List x_V → List x_S → x_M → Nat → Nat → Prop} (hK : ∀ ls st S M cs sl, K ls st S M cs sl → x_Y p l e R s m args below meth c nL G Q (pc + 1) ls st S M cs sl) (hd : decode cc pc = .ok (if b then .baload else .iaload, 1)) (h : x_ald b X S M (fun st => K ls st S M cs sl) st) : x_Y p l e R s m args below meth c nL G Q pc ls st S M cs sl := by
  intro H locs lsA hH hz hS hl
  obtain ⟨hx, hb, hml, hown, hts, hU, hC, hk, ha0, hini⟩ := E
  unfold x_ald at h
  split at h
  · obtain ⟨⟨n, h1, h2⟩, h3⟩ := h
    rw [List.map_cons, List.map_cons, x_pl hH h1]
    cases b with
    | false => exact va_iald hx hb hU.1 hH.1 _ 0 (x_ws_get h1) rfl h2 hd (hK _ _ _ _ _ _ h3 H locs lsA hH hz hS hl)
    | true => exact va_zald hx hb hU.1 hH.1 _ 1 (x_ws_get h1) rfl h2 hd (hK _ _ _ _ _ _ h3 H locs lsA hH hz hS hl)
  · obtain ⟨rfl, h1, h2, h3⟩ := h
    exact va_ti hx hb (hk _ h1) hS h2 rfl hd (hK _ _ _ _ _ _ h3 H locs lsA hH hz hS hl)
  · exact h.elim
set_option maxHeartbeats 4000000 in
/-- aaload -/
theorem x_s_rld (E : x_Env p l e R s m args below meth c cc own nL G X) 
    {pc : Nat} {ls st : List x_V} {S : List x_S} {M : x_M} {cs sl : Nat} {K : List x_V → List x_V → List x_S → x_M → Nat → Nat → Prop} (hK : ∀ ls st S M cs sl, K ls st S M cs sl → x_Y p l e R s m args below meth c nL G Q (pc + 1) ls st S M cs sl) (hd : decode cc pc = .ok (.aaload, 1)) (h : x_rld S (fun st => K ls st S M cs sl) st) : x_Y p l e R s m args below meth c nL G Q pc ls st S M cs sl := by
  intro H locs lsA hH hz hS hl
  obtain ⟨hx, hb, hml, hown, hts, hU, hC, hk, ha0, hini⟩ := E
  unfold x_rld at h
  split at h
  · rename_i i k st0
    obtain ⟨⟨g, h1, h2, h4⟩, h3⟩ := h
    have hW := hK _ _ _ _ _ _ h3 H locs lsA hH hz hS hl
    have he : x_el S k i.toNatClampNeg = g.getD i.toNatClampNeg 0 := by unfold x_el; rw [h1]
    rw [List.map_cons, he, x_pl2 h4] at hW
    rw [List.map_cons, List.map_cons, x_pl hH h1]
    have hlt : i.toNatClampNeg < g.length := Nat.not_le.mp fun q => h2 (Or.inr q)
    exact W.aald (v := .ref (x_ad G (g.getD i.toNatClampNeg 0))) (ty := .array .int) hx hb (hH.1 k _ (x_ws_get h1)) ((hU.1.2 2 _ rfl).1 g.length (fun j => va_rf (some (x_ad G (g.getD j 0))))) rfl (fun q => by cases q) (by show ¬ (i < 0 ∨ (arrV _ _ _).slots.size ≤ _); rw [arrV_size]; exact h2) (by show (arrV _ _ _).slots[_]? = _; rw [arrV_read _ _ hlt]; rfl) rfl rfl hd hW
  · exact h.elim
set_option maxHeartbeats 4000000 in
/-- iastore, bastore -/
theorem x_s_ast (E : x_Env p l e R s m args below meth c cc own nL G X)  (b : Bool)
    {pc : Nat} {ls st : List x_V} {S : List x_S} {M : x_M} {cs sl : Nat} {K : List x_V → List x_V → List x_S → x_M → Nat → Nat → Prop} (hK : ∀ ls st S M cs sl, K ls st S M cs sl → x_Y p l e R s m args below meth c nL G Q (pc + 1) ls st S M cs sl) (hd : decode cc pc = .ok (if b then .bastore else .iastore, 1)) (h : x_ast b S M (fun st M => K ls st S M cs sl) st) : x_Y p l e R s m args below meth c nL G Q pc ls st S M cs sl := by
  intro H locs lsA hH hz hS hl
  obtain ⟨hx, hb, hml, hown, hts, hU, hC, hk, ha0, hini⟩ := E
  unfold x_ast at h
  split at h
  · rename_i x i k st0
    obtain ⟨⟨n, h1, h2⟩, h4, h3⟩ := h
    rw [List.map_cons, List.map_cons, List.map_cons, x_pl hH h1]
    cases b with
    | false => exact va_iast hx hb hU.1 hH.1 (x_ws_D G S M) hS _ 0 (x_ws_get h1) rfl h2 hd (fun H1 locs1 hP1 _ hS1 => hK _ _ _ _ _ _ h3 H1 locs1 lsA (x_H_row hH h1 hP1) hz hS1 hl)
    | true =>
      have hv : vp_nar .boolean x = x := by
        rcases h4 rfl with rfl | rfl <;> rfl
      exact va_zast hx hb hU.1 hH.1 (x_ws_D G S M) hS _ 1 (x_ws_get h1) rfl h2 hd (fun H1 locs1 hP1 _ hS1 => by
        rw [hv] at hP1
        exact hK _ _ _ _ _ _ h3 H1 locs1 lsA (x_H_row hH h1 hP1) hz hS1 hl)
  · exact h.elim
set_option maxHeartbeats 4000000 in
/-- arraylength -/
theorem x_s_aln (E : x_Env p l e R s m args below meth c cc own nL G X) 
    {pc : Nat} {ls st : List x_V} {S : List x_S} {M : x_M} {cs sl : Nat} {K : List x_V → List x_V → List x_S → x_M → Nat → Nat → Prop} (hK : ∀ ls st S M cs sl, K ls st S M cs sl → x_Y p l e R s m args below meth c nL G Q (pc + 1) ls st S M cs sl) (hd : decode cc pc = .ok (.arraylength, 1)) (h : x_aln X S (fun st => K ls st S M cs sl) st) : x_Y p l e R s m args below meth c nL G Q pc ls st S M cs sl := by
  intro H locs lsA hH hz hS hl
  obtain ⟨hx, hb, hml, hown, hts, hU, hC, hk, ha0, hini⟩ := E
  unfold x_aln at h
  split at h
  · rename_i k st0
    obtain ⟨⟨q, h1⟩, h3⟩ := h
    have he : x_ln S k = q.2 := by unfold x_ln; rw [h1]
    rw [he] at h3
    rw [List.map_cons, x_pl hH h1]
    obtain ⟨b, n⟩ := q
    cases b with
    | false => exact va_alen hx hb hU.1 hH.1 _ 0 (x_ws_get h1) rfl rfl hd (hK _ _ _ _ _ _ h3 H locs lsA hH hz hS hl)
    | true => exact va_alen hx hb hU.1 hH.1 _ 1 (x_ws_get h1) rfl rfl hd (hK _ _ _ _ _ _ h3 H locs lsA hH hz hS hl)
  · obtain ⟨h1, h3⟩ := h
    exact va_tlen hx hb (hk _ h1) hS rfl hd (hK _ _ _ _ _ _ h3 H locs lsA hH hz hS hl)
  · exact h.elim
end XO
