section XC
variable {l : Launch} {R : Room} {cc : ByteArray} {own : String} {nL : Nat}
theorem x_key_S {i : Instr} {idx : Nat} (h : x_key i = some (3 * idx)) : i = .invokestatic idx := by
  unfold x_key at h
  split at h
  · rename_i k
    have := Option.some.inj h
    rw [show k = idx by omega]
  · have := Option.some.inj h; omega
  · have := Option.some.inj h; omega
  · cases h
theorem x_key_V {i : Instr} {idx : Nat} (h : x_key i = some (3 * idx + 1)) : i = .invokevirtual idx := by
  unfold x_key at h
  split at h
  · have := Option.some.inj h; omega
  · rename_i k
    have := Option.some.inj h
    rw [show k = idx by omega]
  · have := Option.some.inj h; omega
  · cases h
theorem x_key_I {i : Instr} {idx : Nat} (h : x_key i = some (3 * idx + 2)) : i = .invokespecial idx := by
  unfold x_key at h
  split at h
  · have := Option.some.inj h; omega
  · have := Option.some.inj h; omega
  · rename_i k
    have := Option.some.inj h
    rw [show k = idx by omega]
  · cases h
theorem x_rest8 (G : x_G) : ∀ rest : List x_V, ((rest.map (x_v G)).map fun v => v.category).sum = rest.length
  | [] => rfl
  | a :: r => by
    simp only [List.map_cons, List.sum_cons, List.length_cons, x_v_cat, x_rest8 G r]
    omega
theorem x_goodIn {ws : List Cond} (h : ∀ w ∈ ws, w ∈ x_tbl) : GoodIn x_tbl ws := fun w hw => ⟨h w hw, good_of_word (List.mem_filter.mp (h w hw)).2⟩
/-- what a run of a callee gives -/
theorem x_after {p : Program} {e : Env} {s : State} {m : MethodId} {args : Array Value} {below : List Frame} {meth : Method} {c : Code} {G : x_G} {q : x_K} {as rest : List x_V} {S : List x_S} {M : x_M} {cs sl : Nat} {H : Heap} {locs : List Loc} {lsA : Array Slot} {Q : State → Prop} {pc : Nat} {st0 : List Value} {av : Array Value}
    (run : va_Run p l e R s m args below meth c H locs cs sl q.2.2.2.1 q.2.2.2.2 (F0 m pc lsA st0) (rest.map (x_v G)) (x_Qc G q as S M av) (x_A G)) (hS : va_S (x_A G) s.heap H locs)
    (kk : ∀ (r : Option x_V) (S' : List x_S) (M' : x_M) (H' : Heap) (locs' : List Loc), q.2.2.1 as S M r S' M' → x_H G S' M' H' → S'.length = S.length + q.2.2.2.1 → va_S (x_A G) s.heap H' locs' → W p l e R s m args below meth c H' locs' (cs + q.2.2.2.1) (sl + q.2.2.2.2) Q (F0 m (pc + 3) lsA ((r.toList ++ rest).map (x_v G)))) :
    W p l e R s m args below meth c H locs cs sl Q (F0 m pc lsA st0) := by
  intro T hT X
  obtain ⟨v, st₀, t, T', L, h0, X', hL, e1, e2, ⟨r, S', M', ho, hp, hH', hlen, hz, hk⟩, st⟩ := run T hT X
  cases ho
  rw [h0] at hz hk
  have hS' : va_S (x_A G) s.heap T'.heap (locs ++ L) := ⟨Nat.le_trans hS.1 (by rw [e1]; exact hz), fun q h1 h2 => by rw [e1, hk q (Nat.lt_of_lt_of_le h1 hS.1) h2]; exact hS.2.1 q h1 h2, fun q hq => by
    rcases List.mem_append.mp hq with h | h
    · exact hS.2.2 q h
    · exact hL q h⟩
  obtain ⟨t2, a1, b1⟩ := kk r S' M' T'.heap (locs ++ L) hp (by rw [e1]; exact hH') hlen hS' T' rfl X'
  refine ⟨t2, st t2 ?_, b1⟩
  have es : (r.toList ++ rest).map (x_v G) = (r.map (x_v G)).toList ++ rest.map (x_v G) := by cases r <;> simp
  rw [es] at a1
  exact a1
theorem x_start {p : Program} {e : Env} {s : State} {m : MethodId} {args : Array Value} {below : List Frame} {meth : Method} {c : Code} {G : x_G} {X : x_X} (E : x_Env p l e R s m args below meth c cc own nL G X) {S : List x_S} {M : x_M} {H : Heap} {locs : List Loc} (hH : x_H G S M H) (hsz : H.size = x_ad G S.length) (hS : va_S (x_A G) s.heap H locs) :
    ∀ U : State, U.heap = H → s.WarmedH U.vm → x_I G S M U := by
  intro U hU hW
  obtain ⟨hx, hb, hml, hown, hts, hUU, hC, hk, ha0, hini⟩ := E
  exact ⟨x_U_moved hW.alike hUU, by rw [hU]; exact x_C_moved hW.alike (x_C_kept hC (fun a h1 h2 => hS.2.1 a h1 h2)), by rw [hU]; exact hH, by rw [hU]; exact hsz⟩
/-- a static method -/
theorem x_cal_S {y : MethodName} {cy : ByteArray} {maxL h idx : Nat} {ret : Option FieldType} {q : x_K} (hM : x_CT l y cy maxL ret h q) (hR : h + 1 ≤ R.frames ∧ 8 + (maxL + 11) + 40 * h ≤ R.locals)
    (w1 : Cond.methodLink own idx y ∈ x_tbl) (w2 : Cond.static y ∈ x_tbl) (w3 : Cond.initialized y.cls ∈ x_tbl) (w4 : Cond.code y cy maxL ret ∈ x_tbl)
    (hd : y.cls ≠ "java/lang/invoke/MethodHandle" ∧ y.cls ≠ "java/lang/invoke/VarHandle" ∧ (parseMethodDescriptor y.desc).map (fun d => d.parameters.length) = some q.1) : x_Cal l R cc own nL (3 * idx) q := by
  intro p e s m args below meth c G X E Q i pc as rest S M cs sl H locs lsA hi hdg hlen hrest hpre hcs hsl hH hz hS hls kk T hT Xs
  have hsz := x_size E hH hz hS hT Xs
  have E' := E
  obtain ⟨hx, hb, hml, hown, hts, hUU, hC, hk, ha0, hini⟩ := E'
  have hi' : i = .invokestatic idx := x_key_S hi
  subst hi'
  have hG : GoodIn x_tbl (va_wsS own idx y (Cond.code y cy maxL ret :: x_tbl)) := x_goodIn (fun w hw => by
    simp only [va_wsS, List.mem_append, List.mem_cons, List.not_mem_nil, or_false] at hw
    rcases hw with (rfl | rfl | rfl) | rfl | hw <;> assumption)
  have run := va_runS (rest := rest.map (x_v G)) (g := F0 m pc lsA ((as.reverse ++ rest).map (x_v G))) (cells := cs) (slots := sl) (locs := locs) (H := H) (e := e) (below := below) (meth := meth) ⟨hx, hb, hml, hown, hts⟩ (hM G as S M hlen hpre) (va_cwS (R := R) q.1 hts hG rfl rfl rfl hd hR) ⟨x_blind G S M _, fun U hU hW => ⟨rfl, x_start E hH hsz hS U hU hW⟩⟩ rfl (by rw [List.length_map]; exact hlen) hls (by simp) (lv_room (by rw [x_rest8]; exact hrest)) hdg ⟨hcs, hsl⟩
  exact x_after run hS kk T hT Xs
/-- a method of an object -/
theorem x_cal_V {y : MethodName} {cy : ByteArray} {maxL h idx : Nat} {ret : Option FieldType} {q : x_K} {ci n : Nat} {r0 : vw_C} (hM : x_CT l y cy maxL ret h q) (hR : h + 1 ≤ R.frames ∧ 8 + (maxL + 11) + 40 * h ≤ R.locals)
    (w1 : Cond.methodLink own idx y ∈ x_tbl) (w2 : Cond.instanceMethod y ∈ x_tbl) (w5 : Cond.selects y.cls y y ∈ x_tbl) (w3 : Cond.initialized y.cls ∈ x_tbl) (w4 : Cond.code y cy maxL ret ∈ x_tbl) (hcl : x_cl[ci]? = some r0) (hrc : r0.1 = y.cls) (hn : q.1 = n + 1)
    (hd : y.cls ≠ "java/lang/invoke/MethodHandle" ∧ y.cls ≠ "java/lang/invoke/VarHandle" ∧ (parseMethodDescriptor y.desc).map (fun d => d.parameters.length) = some n)
    (hrecv : ∀ as S M, q.2.1 as S M → ∃ (k : Nat) (as' : List x_V) (fs : List (Option Nat)), as = .inr (.inl k) :: as' ∧ S[k]? = some (.inl (ci, fs))) : x_Cal l R cc own nL (3 * idx + 1) q := by
  intro p e s m args below meth c G X E Q i pc as rest S M cs sl H locs lsA hi hdg hlen hrest hpre hcs hsl hH hz hS hls kk T hT Xs
  have hsz := x_size E hH hz hS hT Xs
  have E' := E
  obtain ⟨hx, hb, hml, hown, hts, hUU, hC, hk, ha0, hini⟩ := E'
  have hi' : i = .invokevirtual idx := x_key_V hi
  subst hi'
  obtain ⟨k, as', fs, rfl, hk1⟩ := hrecv as S M hpre
  have hMM := hM G _ S M hlen hpre
  have hG : GoodIn x_tbl (wsV own idx y.cls y (Cond.code y cy maxL ret :: x_tbl)) := x_goodIn (fun w hw => by
    simp only [wsV, List.mem_append, List.mem_cons, List.not_mem_nil, or_false] at hw
    rcases hw with (rfl | rfl | rfl | rfl) | rfl | hw <;> assumption)
  have hst : ((Sum.inr (Sum.inl k) :: as').reverse ++ rest).map (x_v G) = (as'.map (x_v G)).reverse ++ .ref (x_ad G k) :: rest.map (x_v G) := by
    simp [x_pl hH hk1]
  have hrec : ∃ cellB : Cell, H[x_ad G k]? = some cellB ∧ cellB.vm.isStatics = false ∧ s.vm.findClass y.cls = some cellB.cls := by
    rw [← hrc]
    exact va_recv hUU.1 hH.1 hcl (x_ws_get hk1)
  have ea : (List.map (x_v G) (Sum.inr (Sum.inl k) :: as')) = .ref (x_ad G k) :: as'.map (x_v G) := by rw [List.map_cons, x_pl hH hk1]
  rw [ea] at hMM
  have run := va_runV (b := x_ad G k) (As := as'.map (x_v G)) (rest := rest.map (x_v G)) (g := F0 m pc lsA (((Sum.inr (Sum.inl k) :: as').reverse ++ rest).map (x_v G))) (cells := cs) (slots := sl) (locs := locs) (H := H) (e := e) (below := below) (meth := meth) ⟨hx, hb, hml, hown, hts⟩ hMM (cwV (R := R) n hts hG rfl rfl rfl ⟨rfl, hd⟩ hR) ⟨x_blind G S M _, hrec, fun U hU hW => ⟨rfl, x_start E hH hsz hS U hU hW⟩⟩ rfl (by rw [List.length_map]; simp at hlen; omega) hls hst (lv_room (by rw [x_rest8]; exact hrest)) hdg ⟨hcs, hsl⟩
  exact x_after run hS kk T hT Xs
/-- a constructor -/
theorem x_cal_I {y : MethodName} {cy : ByteArray} {maxL h idx : Nat} {q : x_K} {n : Nat} (hM : x_CT l y cy maxL none h q) (hR : h + 1 ≤ R.frames ∧ 8 + (maxL + 11) + 40 * h ≤ R.locals)
    (w1 : Cond.methodLink own idx y ∈ x_tbl) (w2 : Cond.instanceMethod y ∈ x_tbl) (w3 : Cond.initialized y.cls ∈ x_tbl) (w4 : Cond.code y cy maxL none ∈ x_tbl) (hy1 : y.name = "<init>") (hn : q.1 = n + 1)
    (hd : y.cls ≠ "java/lang/invoke/MethodHandle" ∧ y.cls ≠ "java/lang/invoke/VarHandle" ∧ (parseMethodDescriptor y.desc).map (fun d => d.parameters.length) = some n)
    (hrecv : ∀ as S M, q.2.1 as S M → ∃ (k : Nat) (as' : List x_V), as = .inr (.inl k) :: as' ∧ k < 1000) : x_Cal l R cc own nL (3 * idx + 2) q := by
  intro p e s m args below meth c G X E Q i pc as rest S M cs sl H locs lsA hi hdg hlen hrest hpre hcs hsl hH hz hS hls kk T hT Xs
  have hsz := x_size E hH hz hS hT Xs
  have E' := E
  obtain ⟨hx, hb, hml, hown, hts, hUU, hC, hk, ha0, hini⟩ := E'
  have hi' : i = .invokespecial idx := x_key_I hi
  subst hi'
  obtain ⟨k, as', rfl, hk1⟩ := hrecv as S M hpre
  have hMM := hM G _ S M hlen hpre
  have hG : GoodIn x_tbl (Cond.code y cy maxL none :: x_tbl) := x_goodIn (fun w hw => by
    simp only [List.mem_cons] at hw
    rcases hw with rfl | hw <;> assumption)
  have hst : ((Sum.inr (Sum.inl k) :: as').reverse ++ rest).map (x_v G) = (as'.map (x_v G)).reverse ++ .ref (x_ad G k) :: rest.map (x_v G) := by
    simp [x_pl2 hk1]
  have ea : (List.map (x_v G) (Sum.inr (Sum.inl k) :: as')) = .ref (x_ad G k) :: as'.map (x_v G) := by rw [List.map_cons, x_pl2 hk1]
  rw [ea] at hMM
  have run := va_runI (b := x_ad G k) (As := as'.map (x_v G)) (rest := rest.map (x_v G)) (g := F0 m pc lsA (((Sum.inr (Sum.inl k) :: as').reverse ++ rest).map (x_v G))) (cells := cs) (slots := sl) (locs := locs) (H := H) (e := e) (below := below) (meth := meth) ⟨hx, hb, hml, hown, hts⟩ hMM (cwI (R := R) n hts hG rfl rfl rfl (hts _ w3) (hts _ w1) (hts _ w2) hy1 hd hR) ⟨x_blind G S M _, fun U hU hW => ⟨rfl, x_start E hH hsz hS U hU hW⟩⟩ rfl (by rw [List.length_map]; simp at hlen; omega) hls hst (lv_room (by rw [x_rest8]; exact hrest)) hdg ⟨hcs, hsl⟩
  exact x_after run hS kk T hT Xs
/-- Object() -/
def x_qO : x_K := (1, fun as _ _ => ∃ k, k < 1000 ∧ as = [.inr (.inl k)], fun _ S M r S' M' => r = none ∧ S' = S ∧ M' = M, 0, 0)
theorem x_cal_O {idx : Nat} (hR : 1 ≤ R.frames ∧ 40 ≤ R.locals) (w1 : Cond.methodLink own idx Lib.objectInit ∈ x_tbl) (w2 : Cond.instanceMethod Lib.objectInit ∈ x_tbl) (w3 : Cond.code Lib.objectInit ⟨#[0xb1]⟩ 1 none ∈ x_tbl) : x_Cal l R cc own nL (3 * idx + 2) x_qO := by
  intro p e s m args below meth c G X E Q i pc as rest S M cs sl H locs lsA hi hdg hlen hrest hpre hcs hsl hH hz hS hls kk
  have E' := E
  obtain ⟨hx, hb, hml, hown, hts, hUU, hC, hk, ha0, hini⟩ := E'
  have hi' : i = .invokespecial idx := x_key_I hi
  subst hi'
  obtain ⟨k, hk1, rfl⟩ := hpre
  have hst : (([Sum.inr (Sum.inl k)] : List x_V).reverse ++ rest).map (x_v G) = .ref (x_ad G k) :: rest.map (x_v G) := by
    simp [x_pl2 hk1]
  rw [hst]
  exact W.objInit hx hb hown (hts _ w1) (hts _ w2) (hts _ w3) rfl (hls.trans hml.symm) rfl hdg hR.1 (by rw [x_rest8]; show 2 * 0 + _ + 12 ≤ _; omega) (kk none S M H locs ⟨rfl, rfl, rfl⟩ hH rfl hS)
/-- System.arraycopy of two nets -/
def x_cp (f g : Nat → Int32) (n : Nat) : Nat → Int32 := fun k => if k < n then f k else g k
def x_qC : x_K := (5, fun as S _ => ∃ a b, as = [.inr (.inl a), .inl (nI 0), .inr (.inl b), .inl (nI 0), .inl (nI 36)] ∧ S[a]? = some (.inr (.inl (false, 36))) ∧ S[b]? = some (.inr (.inl (false, 36))),
  fun as S M r S' M' => r = none ∧ S' = S ∧ ∀ a b, as = [.inr (.inl a), .inl (nI 0), .inr (.inl b), .inl (nI 0), .inl (nI 36)] → M' = x_row M b (x_cp (M a) (M b) 36), 0, 0)
theorem x_cal_C {idx : Nat} (hR : 1 ≤ R.frames ∧ 40 ≤ R.locals) (w1 : Cond.methodLink own idx arraycopyName ∈ x_tbl) (w2 : Cond.native arraycopyName ∈ x_tbl) (w3 : Cond.static arraycopyName ∈ x_tbl) (w4 : Cond.initialized "java/lang/System" ∈ x_tbl) : x_Cal l R cc own nL (3 * idx) x_qC := by
  intro p e s m args below meth c G X E Q i pc as rest S M cs sl H locs lsA hi hdg hlen hrest hpre hcs hsl hH hz hS hls kk
  have E' := E
  obtain ⟨hx, hb, hml, hown, hts, hUU, hC, hk, ha0, hini⟩ := E'
  have hi' : i = .invokestatic idx := x_key_S hi
  subst hi'
  obtain ⟨a, b, rfl, h1, h2⟩ := hpre
  have hst : (([.inr (.inl a), .inl (nI 0), .inr (.inl b), .inl (nI 0), .inl (nI 36)] : List x_V).reverse ++ rest).map (x_v G) = .int (nI 36) :: .int (nI 0) :: .ref (x_ad G b) :: .int (nI 0) :: .ref (x_ad G a) :: rest.map (x_v G) := by
    have ha := x_pl hH h1
    have hb2 := x_pl hH h2
    simp only [List.reverse_cons, List.reverse_nil, List.nil_append, List.cons_append, List.map_cons, ha, hb2]
    rfl
  rw [hst]
  have e36 : (nI 36).toNatClampNeg = 36 := by decide
  have e0 : (nI 0).toNatClampNeg = 0 := by decide
  have hsum := x_rest8 G rest
  have hnat : nativeFrameWords "java/lang/System" "arraycopy" 5 ≤ 20 := by decide +kernel
  refine va_copyi (rest := rest.map (x_v G)) hx hb (hml.trans hls.symm) hown (hts _ w1) (hts _ w2) (hts _ w3) (hts _ w4) hUU.1 hH.1 (x_ws_D G S M) hS a b 0 0 (x_ws_get h1) (x_ws_get h2) rfl rfl rfl (sp := nI 0) (dp := nI 0) (n := nI 36) (by decide) (by decide) (by decide) (by rw [e36, e0]; decide) (by rw [e36, e0]; decide) (fun i _ => rfl) hR.1 (by rw [hsum]; omega) hdg (fun H1 locs1 hP1 _ hS1 => ?_)
  refine kk none S (x_row M b (x_cp (M a) (M b) 36)) H1 locs1 ⟨rfl, rfl, fun a' b' e1 => ?_⟩ (x_H_row hH h2 ?_) rfl hS1
  · simp at e1
    rw [e1.1, e1.2]
  · have ec : va_cpy (M a) (M b) (nI 0).toNatClampNeg (nI 0).toNatClampNeg (nI 36).toNatClampNeg = x_cp (M a) (M b) 36 := by
      rw [e36, e0]
      funext k
      simp [va_cpy, x_cp]
    rw [ec] at hP1
    exact hP1
end XC
