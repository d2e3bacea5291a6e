/-! WHY THE SMALL MACHINE'S STEPS ARE THE MACHINE'S -/
def x_kC (c : Nat) : String := if c < 3 then RX2 else RX1
def x_kN (c : Nat) : String := match c with
  | 0 => "SIGNS"
  | 1 => "COMPOSED"
  | 2 => "NEAR"
  | 3 => "FIRST"
  | _ => "SECOND"
def x_kn (c : Nat) : Nat := match c with
  | 0 => 13
  | 1 => 169
  | 2 => 13
  | _ => 15
def x_k0 : List Nat := [0x1111, 0x1121, 0x1141, 0x2141, 0x4141, 0x4142, 0x2142, 0x1142, 0x1144, 0x2144, 0x4144, 0x4244, 0x4444]
def x_k1 : List Nat := [
            1, 1, 1, 1, 31, 31, 1, 1, 1, 1, 31, 31, 8191,
            1, 1, 1, 2, 28, 28, 2, 1, 1, 2, 28, 224, 7936,
            1, 1, 7, 4, 28, 28, 4, 7, 391, 388, 2044, 1792, 7936,
            1, 1, 7, 8, 16, 16, 8, 7, 391, 584, 1072, 2048, 4096,
            1, 1, 31, 16, 16, 16, 16, 31, 8191, 7216, 7216, 4096, 4096,
            1, 2, 28, 16, 16, 32, 32, 224, 7936, 7168, 7168, 4096, 4096,
            1, 2, 4, 8, 16, 32, 64, 128, 256, 512, 1024, 2048, 4096,
            1, 2, 4, 4, 28, 224, 128, 128, 256, 256, 1792, 1792, 7936,
            391, 388, 388, 388, 2044, 1792, 256, 256, 256, 256, 1792, 1792, 7936,
            391, 388, 388, 584, 1072, 1024, 512, 256, 256, 512, 1024, 2048, 4096,
            391, 388, 2044, 1072, 1072, 1024, 1024, 1792, 7936, 7168, 7168, 4096, 4096,
            391, 584, 1072, 1072, 1072, 2048, 2048, 2048, 4096, 4096, 4096, 4096, 4096,
            8191, 7216, 7216, 7216, 7216, 4096, 4096, 4096, 4096, 4096, 4096, 4096, 4096]
def x_k2 : List Nat := [2, 141, 138, 86, 40, 3152, 680, 326, 640, 3392, 2592, 5664, 2048]
def x_k3 : List Nat := [0, 0, 0, 0, 0, 1, 1, 1, 1, 2, 2, 2, 3, 3, 4]
def x_k4 : List Nat := [1, 2, 3, 4, 5, 2, 3, 4, 5, 3, 4, 5, 4, 5, 5]
def x_kt (c : Nat) : List Nat := match c with
  | 0 => x_k0
  | 1 => x_k1
  | 2 => x_k2
  | 3 => x_k3
  | _ => x_k4
def x_kf (c j : Nat) : Int32 := nI ((x_kt c).getD j 0)
def x_C (G : x_G) (U : State) (H : Heap) : Prop := ∀ c : Nat, c < 5 → va_T .int (G.2.2.2 c) (x_kn c) (fun j => .int (x_kf c j)) (x_A G) U H ∧ va_Z (x_kC c) (x_kN c) "[I" (.ref (G.2.2.2 c)) (x_A G) U H
def x_I (G : x_G) (S : List x_S) (M : x_M) (U : State) : Prop := x_U G U ∧ x_C G U U.heap ∧ x_H G S M U.heap ∧ U.heap.size = G.2.2.1 + S.length
/-- a method's contract -/
def x_rm (h mc ms : Nat) : Room := { frames := h, cells := mc, slots := ms, locals := 40 * h }
def x_Qc (G : x_G) (q : x_K) (as : List x_V) (S : List x_S) (M : x_M) : Array Value → State → Outcome → State → Prop := fun _ st o t => ∃ (r : Option x_V) (S' : List x_S) (M' : x_M), o = .returned (r.map (x_v G)) ∧ q.2.2.1 as S M r S' M' ∧ x_H G S' M' t.heap ∧ S'.length = S.length + q.2.2.2.1 ∧ va_F (x_A G) st t
def x_CT (l : Launch) (y : MethodName) (cc : ByteArray) (maxL : Nat) (ret : Option FieldType) (h : Nat) (q : x_K) : Prop :=
  ∀ (G : x_G) (as : List x_V) (S : List x_S) (M : x_M), as.length = q.1 → q.2.1 as S M →
    Met l y (Cond.code y cc maxL ret :: x_tbl) (x_rm h q.2.2.2.1 q.2.2.2.2) (va_Pc (as.map (x_v G)) (x_I G S M)) (x_Qc G q as S M) q.2.2.2.1 q.2.2.2.2 (x_A G)
def x_Env (p : Program) (l : Launch) (e : Env) (R : Room) (s : State) (m : MethodId) (args : Array Value) (below : List Frame) (meth : Method) (c : Code) (cc : ByteArray) (own : String) (nL : Nat) (G : x_G) (X : x_X) : Prop :=
  p.tables.exec = Jvm.exec ∧ c.code = cc ∧ c.maxLocals = nL ∧ s.vm.findClass own = some m.cls ∧ (∀ w ∈ x_tbl, w.before args s = true) ∧ x_U G s ∧ x_C G s s.heap ∧
  (∀ k : Nat, k < X.2.2.2.2.2.2.2.2.1 → va_T .int (G.2.2.2 k) (X.2.2.2.2.2.2.1 k) (fun j => .int (X.2.2.2.2.2.2.2.1 k j)) (x_A G) s s.heap) ∧ G.2.2.1 ≤ s.heap.size ∧ (X.2.2.2.2.2.2.2.2.2 = true → meth.name = "<init>")
def x_Y (p : Program) (l : Launch) (e : Env) (R : Room) (s : State) (m : MethodId) (args : Array Value) (below : List Frame) (meth : Method) (c : Code) (nL : Nat) (G : x_G) (Q : State → Prop) : x_J := fun pc ls st S M cs sl =>
  ∀ (H : Heap) (locs : List Loc) (lsA : Array Slot), x_H G S M H → s.heap.size + cs = G.2.2.1 + S.length → va_S (x_A G) s.heap H locs → lv_has lsA nL (x_lv G ls) → W p l e R s m args below meth c H locs cs sl Q (F0 m pc lsA (st.map (x_v G)))
/-- a call's row -/
def x_Cal (l : Launch) (R : Room) (cc : ByteArray) (own : String) (nL : Nat) (key : Nat) (q : x_K) : Prop :=
  ∀ (p : Program) (e : Env) (s : State) (m : MethodId) (args : Array Value) (below : List Frame) (meth : Method) (c : Code) (G : x_G) (X : x_X), x_Env p l e R s m args below meth c cc own nL G X →
  ∀ (Q : State → Prop) (i : Instr) (pc : Nat) (as rest : List x_V) (S : List x_S) (M : x_M) (cs sl : Nat) (H : Heap) (locs : List Loc) (lsA : Array Slot), x_key i = some key → decode cc pc = .ok (i, 3) → as.length = q.1 → rest.length ≤ 8 → q.2.1 as S M →
    cs + q.2.2.2.1 ≤ R.cells → sl + q.2.2.2.2 ≤ R.slots → x_H G S M H → s.heap.size + cs = G.2.2.1 + S.length → va_S (x_A G) s.heap H locs → lsA.size = nL →
    (∀ (r : Option x_V) (S' : List x_S) (M' : x_M) (H' : Heap) (locs' : List Loc), q.2.2.1 as S M r S' M' → x_H G S' M' H' → S'.length = S.length + q.2.2.2.1 → va_S (x_A G) s.heap H' locs' → W p l e R s m args below meth c H' locs' (cs + q.2.2.2.1) (sl + q.2.2.2.2) Q (F0 m (pc + 3) lsA ((r.toList ++ rest).map (x_v G)))) →
    W p l e R s m args below meth c H locs cs sl Q (F0 m pc lsA ((as.reverse ++ rest).map (x_v G)))
/-- the tables' words -/
def x_okF (own : String) (q : Nat × Nat × Nat) : Bool := match x_cl[q.2.1]? with
  | some r => decide (q.2.2 < r.2.2) && decide (Cond.fieldLink own q.1 (r.2.1 q.2.2).1 (r.2.1 q.2.2).2.1 (r.2.1 q.2.2).2.2.1 ∈ x_tbl)
  | none => false
def x_okP (own : String) (ini : Bool) (q : Nat × Nat × Nat) : Bool := match x_cl[q.2.1]? with
  | some r => !ini || !(r.2.1 q.2.2).2.2.2 || decide ((r.2.1 q.2.2).1 = own)
  | none => false
def x_okS (own : String) (q : Nat × Nat) : Bool := decide (q.2 < 5) && decide (Cond.fieldLink own q.1 (x_kC q.2) (x_kN q.2) "[I" ∈ x_tbl)
def x_okN (own : String) (q : Nat × Nat) : Bool := if q.2 = 99 then decide (Cond.classLink own q.1 "[[I" ∈ x_tbl) else match x_cl[q.2]? with
  | some r => decide (Cond.classLink own q.1 r.1 ∈ x_tbl) && decide (Cond.instantiable r.1 r.2.2 ∈ x_tbl) && decide (Cond.initialized r.1 ∈ x_tbl)
  | none => false
def x_okT (own : String) (X : x_X) : Bool := X.1.all (x_okF own) && X.1.all (x_okP own X.2.2.2.2.2.2.2.2.2) && X.2.1.all (x_okS own) && X.2.2.1.all (fun q => decide (Cond.constant own q.1 q.2 ∈ x_tbl)) && X.2.2.2.1.all (x_okN own)
theorem x_in_int : Cond.arrayClass .int ∈ x_tbl := by decide +kernel
theorem x_in_boo : Cond.arrayClass .boolean ∈ x_tbl := by decide +kernel
theorem x_i0 : ∀ w ∈ u_ws RX0 TX0 2, w ∈ x_tbl := by decide +kernel
theorem x_i1 : ∀ w ∈ u_ws RX3 TX3 1, w ∈ x_tbl := by decide +kernel
theorem x_i2 : ∀ w ∈ u_ws RX4 TX4 6, w ∈ x_tbl := by decide +kernel
theorem x_i3 : ∀ w ∈ u_ws RX5 TX5 13, w ∈ x_tbl := by decide +kernel
theorem x_i4 : ∀ w ∈ u_ws RX6 TX6 6, w ∈ x_tbl := by decide +kernel
theorem x_i5 : ∀ w ∈ u_ws RX7 TX7 18, w ∈ x_tbl := by decide +kernel
theorem x_clf : ∀ (ci : Nat) (r : vw_C), x_cl[ci]? = some r → (∀ w ∈ u_ws r.1 r.2.1 r.2.2, w ∈ x_tbl) ∧ (∀ k, k < r.2.2 → parseFieldDescriptor (r.2.1 k).2.2.1 = some (x_ty ci k)) ∧ (∀ a, a < r.2.2 → ∀ b, b < r.2.2 → a ≠ b → (r.2.1 a).2.1 ≠ (r.2.1 b).2.1) ∧ (x_nf ci).length = r.2.2 := by
  intro ci r h
  match ci, h with
  | 0, h => cases h; exact ⟨x_i0, tyX0_ok, nmX0, rfl⟩
  | 1, h => cases h; exact ⟨x_i1, tyX3_ok, nmX3, rfl⟩
  | 2, h => cases h; exact ⟨x_i2, tyX4_ok, nmX4, rfl⟩
  | 3, h => cases h; exact ⟨x_i3, tyX5_ok, nmX5, rfl⟩
  | 4, h => cases h; exact ⟨x_i4, tyX6_ok, nmX6, rfl⟩
  | 5, h => cases h; exact ⟨x_i5, tyX7_ok, nmX7, rfl⟩
  | n + 6, h => simp [x_cl] at h
theorem x_tgt {pc : Nat} {off : Int} (h : 0 ≤ (pc : Int) + off) : (pc : Int) + off = (x_tg pc off : Int) := by
  simp only [x_tg]
  omega
theorem x_fd_v {G : x_G} {S : List x_S} {M : x_M} {k sl ci : Nat} {fs : List (Option Nat)} {f : Option Nat} (h : S[k]? = some (.inl (ci, fs))) (hf : fs[sl]? = some f) : x_v G (x_fd S M k sl) = x_f1 G (M k) sl f := by
  unfold x_fd
  rw [h]
  dsimp only
  rw [hf]
  cases f <;> rfl
def x_nfb (ci N : Nat) : Prop := ∀ j, j < N → ((x_nf ci)[j]? = some none ∧ defaultValue (x_ty ci j) = .int 0) ∨ ((x_nf ci)[j]? = some (some 9999) ∧ defaultValue (x_ty ci j) = .null)
theorem x_nf0 : x_nfb 0 2 := by unfold x_nfb; decide +kernel
theorem x_nf1 : x_nfb 1 1 := by unfold x_nfb; decide +kernel
theorem x_nf2 : x_nfb 2 6 := by unfold x_nfb; decide +kernel
theorem x_nf3 : x_nfb 3 13 := by unfold x_nfb; decide +kernel
theorem x_nf4 : x_nfb 4 6 := by unfold x_nfb; decide +kernel
theorem x_nf5 : x_nfb 5 18 := by unfold x_nfb; decide +kernel
theorem x_nf_all (ci : Nat) (r : vw_C) (h : x_cl[ci]? = some r) : x_nfb ci r.2.2 := by
  match ci, h with
  | 0, h => cases h; exact x_nf0
  | 1, h => cases h; exact x_nf1
  | 2, h => cases h; exact x_nf2
  | 3, h => cases h; exact x_nf3
  | 4, h => cases h; exact x_nf4
  | 5, h => cases h; exact x_nf5
  | n + 6, h => simp [x_cl] at h
theorem x_nf_ok (G : x_G) (ci : Nat) (r : vw_C) (h : x_cl[ci]? = some r) : ∀ j, j < r.2.2 → defaultValue (x_ty ci j) = vp_V (x_fs G (fun _ => 0) (x_nf ci)) j := by
  intro j hj
  rcases x_nf_all ci r h j hj with ⟨h1, h2⟩ | ⟨h1, h2⟩
  · rw [h2]
    simp only [vp_V, List.getD_eq_getElem?_getD, x_fs_get h1]
    rfl
  · rw [h2]
    simp only [vp_V, List.getD_eq_getElem?_getD, x_fs_get h1]
    simp [x_f1, x_v]
