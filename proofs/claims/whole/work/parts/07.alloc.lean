section XA
variable {p : Program} {l : Launch} {e : Env} {R : Room} {s : State} {m : MethodId} {args : Array Value} {below : List Frame} {meth : Method} {c : Code} {cc : ByteArray} {own : String} {nL : Nat} {G : x_G} {X : x_X} {Q : State → Prop}
theorem x_H_app {S : List x_S} {M : x_M} {H H1 : Heap} {x : x_S} {f : Nat → Int32} (hH : x_H G S M H) (hs : S.length < 1000) (hold : ∀ q, q < H.size → H1[q]? = H[q]?) (hnew : va_at G.1 x_cl (x_ad G S.length, x_e G f x) H1) : x_H G (S ++ [x]) (x_row M S.length f) H1 := by
  refine ⟨?_, by simp; omega⟩
  rw [x_ws_app]
  refine va_P.app (hH.1.kept (fun k q hk => hold q.1 ((hH.1 k q hk).lt))) (fun k q hk => ?_)
  have hz : k < 1 := (List.getElem?_eq_some_iff.mp hk).1
  rw [show k = 0 by omega] at hk
  cases hk
  exact hnew
theorem x_S_new {A : Nat → Prop} {H0 H H1 : Heap} {locs : List Loc} (hS : va_S A H0 H locs) (hz : H.size ≤ H1.size) (hold : ∀ q, q < H.size → H1[q]? = H[q]?) : va_S A H0 H1 locs :=
  ⟨Nat.le_trans hS.1 hz, fun q h1 h2 => (hold q (Nat.lt_of_lt_of_le h1 hS.1)).trans (hS.2.1 q h1 h2), hS.2.2⟩
theorem x_size (E : x_Env p l e R s m args below meth c cc own nL G X) {S : List x_S} {M : x_M} {H : Heap} {locs : List Loc} {cs sl : Nat} {T : State} (hH : x_H G S M H) (hz : s.heap.size + cs = G.2.2.1 + S.length) (hS : va_S (x_A G) s.heap H locs) (hT : T.heap = H) (Xs : Stand p l e R s m args below meth c T locs cs sl) : H.size = x_ad G S.length := by
  have h1 := Xs.heapSize
  have h2 := x_H_size hH (Nat.le_trans E.2.2.2.2.2.2.2.2.1 hS.1)
  rw [hT] at h1
  simp only [x_ad]
  omega
set_option maxHeartbeats 4000000 in
/-- newarray -/
theorem x_s_nwa (E : x_Env p l e R s m args below meth c cc own nL G X) (hR : R.cells = X.2.2.2.2.2.1.1 ∧ R.slots = X.2.2.2.2.2.1.2) 
    {t : Jvm.ClassFile.ArrayType} {pc : Nat} {ls st : List x_V} {S : List x_S} {M : x_M} {cs sl : Nat} {K : List x_V → List x_V → List x_S → x_M → Nat → Nat → Prop} (hK : ∀ ls st S M cs sl, K ls st S M cs sl → x_Y p l e R s m args below meth c nL G Q (pc + 2) ls st S M cs sl) (hd : decode cc pc = .ok (.newarray t, 2)) (h : x_nwa t X S M cs sl (fun st S M cs sl => K ls st S M cs sl) st) : x_Y p l e R s m args below meth c nL G Q pc ls st S M cs sl := by
  intro H locs lsA hH hz hS hl T hT Xs
  have hsz := x_size E hH hz hS hT Xs
  revert T
  show W p l e R s m args below meth c H locs cs sl Q (F0 m pc lsA (st.map (x_v G)))
  obtain ⟨hx, hb, hml, hown, hts, hU, hC, hk, ha0, hini⟩ := E
  unfold x_nwa at h
  split at h
  · rename_i v st0
    obtain ⟨h1, h2, h3, h4, h5, h6, h7⟩ := h
    have hrest : ∀ (b : Bool) (cA : ClassId) (H1 : Heap), (if b then G.2.1.2.1 else G.2.1.1) = cA → decide (t = .boolean) = b → H1[x_ad G S.length]? = some (arrV cA v.toNatClampNeg (fun _ => .int 0)) → H1.size = x_ad G S.length + 1 → (∀ q, q < x_ad G S.length → H1[q]? = H[q]?) →
        W p l e R s m args below meth c H1 locs (cs + 1) (sl + v.toNatClampNeg) Q (F0 m (pc + 2) lsA (.ref (x_ad G S.length) :: st0.map (x_v G))) := by
      intro b cA H1 e1 e2 e3 e4 e5
      have hW := hK _ _ _ _ _ _ h7 H1 locs lsA (x_H_app hH h4 (fun q hq => e5 q (by rw [← hsz]; exact hq)) (by
        rw [e2]
        show H1[x_ad G S.length]? = some (vp_cell _ _)
        rw [e1]
        exact e3)) (by simp; omega) (x_S_new hS (by omega) (fun q hq => e5 q (by rw [← hsz]; exact hq))) hl
      rw [List.map_cons, x_pl2 h4] at hW
      exact hW
    rw [List.map_cons]
    rcases h1 with rfl | rfl
    · refine va_newaK (atype := .int) hx hb (hts _ x_in_int) rfl hd rfl h2 rfl (by show v.toNatClampNeg * 4 ≤ _; omega) (by rw [hR.1]; exact h5) (by rw [hR.2]; exact h6) hsz fun H1 cA e1 z1 o1 hAr hNm => ?_
      have hc : G.2.1.1 = cA := Option.some.inj ((hU.1.2 0 _ rfl).2.symm.trans hNm)
      exact hrest false cA H1 hc (by decide) e1 z1 o1
    · refine va_newaK (atype := .boolean) hx hb (hts _ x_in_boo) rfl hd rfl h2 rfl (by show v.toNatClampNeg * 1 ≤ _; omega) (by rw [hR.1]; exact h5) (by rw [hR.2]; exact h6) hsz fun H1 cA e1 z1 o1 hAr hNm => ?_
      have hc : G.2.1.2.1 = cA := Option.some.inj ((hU.1.2 1 _ rfl).2.symm.trans hNm)
      exact hrest true cA H1 hc (by decide) e1 z1 o1
  · exact h.elim
set_option maxHeartbeats 4000000 in
/-- new -/
theorem x_s_nwo (E : x_Env p l e R s m args below meth c cc own nL G X) (hT : x_okT own X = true) (hR : R.cells = X.2.2.2.2.2.1.1 ∧ R.slots = X.2.2.2.2.2.1.2) 
    {k pc : Nat} {ls st : List x_V} {S : List x_S} {M : x_M} {cs sl : Nat} {K : List x_V → List x_V → List x_S → x_M → Nat → Nat → Prop} (hK : ∀ ls st S M cs sl, K ls st S M cs sl → x_Y p l e R s m args below meth c nL G Q (pc + 3) ls st S M cs sl) (hd : decode cc pc = .ok (.new k, 3)) (h : x_nwo (x_lk X.2.2.2.1 k) X S M cs sl (fun S' M cs sl => K ls (.inr (.inl S.length) :: st) S' M cs sl)) : x_Y p l e R s m args below meth c nL G Q pc ls st S M cs sl := by
  intro H locs lsA hH hz hS hl T hT' Xs
  have hsz := x_size E hH hz hS hT' Xs
  revert T
  show W p l e R s m args below meth c H locs cs sl Q (F0 m pc lsA (st.map (x_v G)))
  obtain ⟨hx, hb, hml, hown, hts, hU, hC, hk, ha0, hini⟩ := E
  unfold x_nwo at h
  split at h
  · rename_i ci hci
    obtain ⟨h1, h4, h5, h6, h7⟩ := h
    have hok : x_okN own (k, ci) = true := by
      simp only [x_okT, Bool.and_eq_true, List.all_eq_true] at hT
      exact hT.2 _ (x_lk_mem hci)
    unfold x_okN at hok
    rw [if_neg (by show ¬ ci = 99; omega)] at hok
    split at hok
    · rename_i r hr
      simp only [Bool.and_eq_true, decide_eq_true_eq] at hok
      have hcl := x_clf _ _ hr
      have hKn := hU.1.1 ci _ hr
      rw [hcl.2.2.2] at h6 h7
      refine W.newcK hx hb hown (hts _ hok.1.1) (hts _ hok.1.2) (hts _ hok.2) rfl hd (by rw [hR.1]; exact h5) (by rw [hR.2]; exact h6) hKn.2.1 hsz fun H1 kC hkC e1 z1 o1 => ?_
      have hW := hK _ _ _ _ _ _ h7 H1 locs lsA (x_H_app hH h4 (fun q hq => o1 q (by rw [← hsz]; exact hq)) ⟨_, hr, (u_born (x_ty ci) hts hcl.1 hKn hkC e1 hcl.2.1).to (x_nf_ok G ci r hr)⟩) (by simp; omega) (x_S_new hS (by omega) (fun q hq => o1 q (by rw [← hsz]; exact hq))) hl
      rw [List.map_cons, x_pl2 h4] at hW
      exact hW
    · cases hok
  · exact h.elim
set_option maxHeartbeats 4000000 in
/-- invoke -/
theorem x_s_inv (E : x_Env p l e R s m args below meth c cc own nL G X) (hR : R.cells = X.2.2.2.2.2.1.1 ∧ R.slots = X.2.2.2.2.2.1.2) (hC : ∀ q ∈ X.2.2.2.2.1, x_Cal l R cc own nL q.1 q.2) 
    {i : Instr} {key pc : Nat} (hi : x_key i = some key) {ls st : List x_V} {S : List x_S} {M : x_M} {cs sl : Nat} {K : List x_V → List x_V → List x_S → x_M → Nat → Nat → Prop} (hK : ∀ ls st S M cs sl, K ls st S M cs sl → x_Y p l e R s m args below meth c nL G Q (pc + 3) ls st S M cs sl) (hd : decode cc pc = .ok (i, 3)) (h : x_inv (x_lk X.2.2.2.2.1 key) X S M cs sl st (fun st S M cs sl => K ls st S M cs sl)) : x_Y p l e R s m args below meth c nL G Q pc ls st S M cs sl := by
  intro H locs lsA hH hz hS hl
  unfold x_inv at h
  split at h
  · rename_i q hq
    obtain ⟨⟨h1, h2, h3, h4⟩, h5, h6⟩ := h
    have hcal := hC _ (x_lk_mem hq) p e s m args below meth c G X E Q i pc (st.take q.1).reverse (st.drop q.1) S M cs sl H locs lsA hi hd (by simp; omega) (by simp; omega) h5 (by rw [hR.1]; exact h3) (by rw [hR.2]; exact h4) hH hz hS hl.1 (fun r S' M' H' locs' g1 g2 g3 g4 => hK _ _ _ _ _ _ (h6 r S' M' g1) H' locs' lsA g2 (by have g5 : S'.length = S.length + q.2.2.2.1 := g3; show s.heap.size + (cs + q.2.2.2.1) = _; omega) g4 hl)
    rw [List.reverse_reverse, List.take_append_drop] at hcal
    exact hcal
  · exact h.elim
theorem x_arrV {c : ClassId} {N : Nat} {f g : Nat → Value} (h : ∀ j, j < N → f j = g j) : arrV c N f = arrV c N g := by
  unfold arrV
  congr 1
  apply congrArg
  funext j
  exact h j.val j.isLt
theorem x_outer (c : ClassId) (N h0 : Nat) : ∀ i : Nat, Jvm.Free.Multi.outerC c N h0 i = arrV c N (fun j => va_rf (if j < i then some (h0 + 1 + j) else none))
  | 0 => by
    show ({ cls := c, slots := Array.replicate N .null, vm := .none } : Cell) = _
    rw [arrV_new]
    exact x_arrV (fun j _ => by simp [va_rf])
  | i + 1 => by
    show (Jvm.Free.Multi.outerC c N h0 i).setSlot i (.ref (h0 + 1 + i)) = _
    rw [x_outer c N h0 i, arrV_store]
    refine x_arrV (fun j _ => ?_)
    by_cases e : j = i
    · subst e
      simp [updV, va_rf]
    · by_cases h : j < i
      · simp [updV, e, h, Nat.lt_succ_of_lt h]
      · simp [updV, e, h, show ¬ j < i + 1 by omega]
set_option maxHeartbeats 4000000 in
/-- multianewarray -/
theorem x_s_mna (E : x_Env p l e R s m args below meth c cc own nL G X) (hT : x_okT own X = true) (hR : R.cells = X.2.2.2.2.2.1.1 ∧ R.slots = X.2.2.2.2.2.1.2) 
    {k pc : Nat} {ls st : List x_V} {S : List x_S} {M : x_M} {cs sl : Nat} {K : List x_V → List x_V → List x_S → x_M → Nat → Nat → Prop} (hK : ∀ ls st S M cs sl, K ls st S M cs sl → x_Y p l e R s m args below meth c nL G Q (pc + 4) ls st S M cs sl) (hd : decode cc pc = .ok (.multianewarray k 2, 4)) (h : x_mna (x_lk X.2.2.2.1 k) X S M cs sl (fun st S M cs sl => K ls st S M cs sl) st) : x_Y p l e R s m args below meth c nL G Q pc ls st S M cs sl := by
  intro H locs lsA hH hz hS hl T hT' Xs
  have hsz := x_size E hH hz hS hT' Xs
  obtain ⟨hx, hb, hml, hown, hts, hU, hC, hk, ha0, hini⟩ := E
  unfold x_mna at h
  split at h
  · rename_i v u st0
    split at h
    · rename_i ci hci
      obtain ⟨rfl, h1, h2, h3, h4, h5, h6, h7⟩ := h
      have hok : x_okN own (k, 99) = true := by
        simp only [x_okT, Bool.and_eq_true, List.all_eq_true] at hT
        exact hT.2 _ (x_lk_mem hci)
      unfold x_okN at hok
      rw [if_pos rfl] at hok
      have hlink := hts _ (of_decide_eq_true hok)
      generalize hN : u.toNatClampNeg = N at h4 h5 h6 h7
      generalize hV : v.toNatClampNeg = V at h3 h6 h7
      obtain ⟨vm₁, cA, comp, -, fA, fC, -, -, X', step⟩ := Xs.multianewarray2F hx (ty := .int) (own := own) (index := k) hown hlink (show (Cond.arrayOver (.array .int)).before args s = true from hU.2) (hts _ x_in_int) (g := F0 m pc lsA (List.map (x_v G) (.inl v :: .inl u :: st0))) rfl (by rw [hb]; exact hd) (n := u) (k := v) rfl h1 h2 (by rw [hN]; omega) (by rw [hV]; show V * 4 ≤ _; omega) (by rw [hV]; omega) rfl rfl (by rw [hR.1, hN]; exact h5) (by rw [hR.2, hN, hV]; exact h6)
      rw [hN, hV] at X' step
      have ecA : G.2.1.2.2 = cA := Option.some.inj ((hU.1.2 2 _ rfl).2.symm.trans fA)
      have ecI : G.2.1.1 = comp := Option.some.inj ((hU.1.2 0 _ rfl).2.symm.trans fC)
      generalize hF : Jvm.Free.Multi.fill (T.setVm vm₁) cA comp N V (defaultValue .int) N = F at X' step
      have hTh : (T.setVm vm₁).heap = H := hT'
      obtain ⟨f1, f2, -, -⟩ := Jvm.Free.Multi.fill_facts (T.setVm vm₁) cA comp N V (defaultValue .int) N
      rw [hF, hTh] at f1 f2
      have hold : ∀ x : Nat, x < H.size → F.heap[x]? = H[x]? := fun x hx => by
        have := Jvm.Free.Multi.fill_old (T.setVm vm₁) cA comp N V (defaultValue .int) (a := x) (by rw [hTh]; exact hx) N
        rw [hF, hTh] at this
        exact this
      have hrow : ∀ j : Nat, j < N → F.heap[H.size + 1 + j]? = some (arrV comp V (fun _ => .int 0)) := fun j hj => by
        have := Jvm.Free.Multi.fill_inner (T.setVm vm₁) cA comp N V (defaultValue .int) N j hj
        rw [hF, hTh] at this
        rw [this, ← arrV_new]
        rfl
      have hlen : ((S ++ [(.inr (.inr ((List.range N).map (fun i => S.length + 1 + i))) : x_S)]) ++ List.replicate N (.inr (.inl (false, V)) : x_S)).length = S.length + 1 + N := by simp; omega
      have hH2 : x_H G ((S ++ [(.inr (.inr ((List.range N).map (fun i => S.length + 1 + i))) : x_S)]) ++ List.replicate N (.inr (.inl (false, V)) : x_S)) (x_zr M S.length (1 + N)) F.heap := by
        refine ⟨fun i q hq => ?_, by rw [hlen]; omega⟩
        obtain ⟨x, hx1, rfl⟩ := x_ws_at hq
        rcases Nat.lt_trichotomy i S.length with hi | hi | hi
        · rw [List.getElem?_append_left (by simp; omega), List.getElem?_append_left hi] at hx1
          have hm : x_zr M S.length (1 + N) i = M i := by unfold x_zr; rw [if_neg (by omega)]
          rw [hm]
          have hq2 := hH.1 i _ (x_ws_get hx1)
          exact hq2.kept (hold _ hq2.lt)
        · subst hi
          rw [List.getElem?_append_left (by simp)] at hx1
          simp at hx1
          subst hx1
          show F.heap[x_ad G S.length]? = some (vp_cell _ _)
          rw [← hsz, f2, x_outer, ecA]
          simp only [vp_cell, List.length_map, List.length_range]
          refine congrArg some (x_arrV (fun j hj => ?_))
          rw [if_pos hj, List.getD_eq_getElem?_getD, List.getElem?_map, List.getElem?_range hj]
          have ej : H.size + 1 + j = x_ad G (S.length + 1 + j) := by
            simp only [x_ad] at hsz ⊢
            omega
          simp [va_rf, ej]
        · have hi2 : i < S.length + 1 + N := by rw [← hlen]; exact (List.getElem?_eq_some_iff.mp hx1).1
          rw [List.getElem?_append_right (by simp; omega)] at hx1
          have hx2 := (List.getElem?_eq_some_iff.mp hx1).2
          rw [List.getElem_replicate] at hx2
          subst hx2
          have hm : x_zr M S.length (1 + N) i = fun _ => 0 := by unfold x_zr; rw [if_pos (by omega)]
          rw [hm]
          show F.heap[x_ad G i]? = some (vp_cell _ _)
          have hr := hrow (i - S.length - 1) (by omega)
          simp only [x_ad] at hsz ⊢
          rw [show H.size + 1 + (i - S.length - 1) = G.2.2.1 + i by omega] at hr
          rw [hr, ← ecI]
          rfl
      have hW := hK _ _ _ _ _ _ h7 F.heap locs lsA hH2 (by rw [hlen]; omega) (x_S_new hS (by rw [f1]; omega) hold) hl F rfl X'
      obtain ⟨t, a1, b1⟩ := hW
      refine ⟨t, step t ?_, b1⟩
      rw [List.map_cons, x_pl2 (show S.length < 1000 by omega), ← hsz, ← hT'] at a1
      exact a1
    · exact h.elim
  · exact h.elim
end XA
