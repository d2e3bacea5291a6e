/-! THE SMALL MACHINE: values, shapes, memory; a world of cells that lie side by side from one address on -/
abbrev x_V : Type := Int32 ⊕ (Nat ⊕ Nat)
abbrev x_S : Type := (Nat × List (Option Nat)) ⊕ ((Bool × Nat) ⊕ List Nat)
abbrev x_M : Type := Nat → Nat → Int32
abbrev x_G : Type := va_G × (ClassId × ClassId × ClassId) × Nat × (Nat → Nat)
def x_row (M : x_M) (k : Nat) (f : Nat → Int32) : x_M := fun a => if a = k then f else M a
def x_cl : List vw_C := [(RX0, TX0, 2), (RX3, TX3, 1), (RX4, TX4, 6), (RX5, TX5, 13), (RX6, TX6, 6), (RX7, TX7, 18)]
def x_ty (ci : Nat) : Nat → FieldType := match ci with
  | 0 => tyX0
  | 1 => tyX3
  | 2 => tyX4
  | 3 => tyX5
  | 4 => tyX6
  | _ => tyX7
def x_ad (G : x_G) (k : Nat) : Nat := G.2.2.1 + k
def x_v (G : x_G) : x_V → Value
  | .inl x => .int x
  | .inr (.inl k) => if k = 9999 then .null else .ref (x_ad G k)
  | .inr (.inr c) => .ref (G.2.2.2 c)
def x_f1 (G : x_G) (f : Nat → Int32) (j : Nat) (o : Option Nat) : Value := match o with
  | none => .int (f j)
  | some r => x_v G (.inr (.inl r))
def x_fs (G : x_G) (f : Nat → Int32) (fs : List (Option Nat)) : List Value := fs.mapIdx (x_f1 G f)
def x_e (G : x_G) (f : Nat → Int32) : x_S → va_E
  | .inl q => .inr (q.1, x_fs G f q.2)
  | .inr (.inl q) => .inl (if q.1 then G.2.1.2.1 else G.2.1.1, q.2, .inl f)
  | .inr (.inr g) => .inl (G.2.1.2.2, g.length, .inr (.inr (.inr (.inr (fun j => some (x_ad G (g.getD j 0)))))))
def x_ws (G : x_G) (S : List x_S) (M : x_M) : va_W := S.mapIdx (fun k x => (x_ad G k, x_e G (M k) x))
def x_A (G : x_G) : Nat → Prop := fun q => G.2.2.1 ≤ q
def x_H (G : x_G) (S : List x_S) (M : x_M) (H : Heap) : Prop := va_P G.1 x_cl (x_ws G S M) H ∧ S.length ≤ 1000
def x_tys (G : x_G) : List (ClassId × FieldType) := [(G.2.1.1, .int), (G.2.1.2.1, .boolean), (G.2.1.2.2, .array .int)]
def x_AO (U : State) : Prop := (Cond.arrayOver (.array .int)).before #[] U = true
def x_U (G : x_G) (U : State) : Prop := va_K G.1 x_cl (x_tys G) U ∧ x_AO U
theorem x_row_self (M : x_M) (k : Nat) (f : Nat → Int32) : x_row M k f k = f := if_pos rfl
theorem x_row_ne (M : x_M) {k a : Nat} (f : Nat → Int32) (h : a ≠ k) : x_row M k f a = M a := if_neg h
theorem x_ws_get {G : x_G} {S : List x_S} {M : x_M} {k : Nat} {x : x_S} (h : S[k]? = some x) : (x_ws G S M)[k]? = some (x_ad G k, x_e G (M k) x) := by
  simp [x_ws, h]
theorem x_ws_len (G : x_G) (S : List x_S) (M : x_M) : (x_ws G S M).length = S.length := by simp [x_ws]
theorem x_ws_at {G : x_G} {S : List x_S} {M : x_M} {k : Nat} {q : Nat × va_E} (h : (x_ws G S M)[k]? = some q) : ∃ x, S[k]? = some x ∧ q = (x_ad G k, x_e G (M k) x) := by
  simp only [x_ws, List.getElem?_mapIdx] at h
  cases hx : S[k]? with
  | none => rw [hx] at h; cases h
  | some x => rw [hx] at h; exact ⟨x, rfl, (Option.some.inj h).symm⟩
theorem x_ws_D (G : x_G) (S : List x_S) (M : x_M) : va_D (x_A G) (x_ws G S M) := by
  refine ⟨fun i j p q hi hj hpq => ?_, fun k q hk => ?_⟩
  · obtain ⟨x, -, rfl⟩ := x_ws_at hi
    obtain ⟨y, -, rfl⟩ := x_ws_at hj
    simp only [x_ad] at hpq
    omega
  · obtain ⟨x, -, rfl⟩ := x_ws_at hk
    simp [x_A, x_ad]
theorem x_ws_row {G : x_G} {S : List x_S} {M : x_M} {k : Nat} {x : x_S} (h : S[k]? = some x) (f : Nat → Int32) : (x_ws G S M).set k (x_ad G k, x_e G f x) = x_ws G S (x_row M k f) := by
  apply List.ext_getElem?
  intro i
  by_cases hi : i = k
  · subst hi
    rw [x_ws_get h, x_row_self, List.getElem?_set_self (by rw [x_ws_len]; exact (List.getElem?_eq_some_iff.mp h).1)]
  · rw [List.getElem?_set_ne (Ne.symm hi)]
    simp [x_ws, x_row_ne M f hi]
theorem x_ws_set {G : x_G} {S : List x_S} {M : x_M} {k : Nat} {x : x_S} (h : S[k]? = some x) (y : x_S) : (x_ws G S M).set k (x_ad G k, x_e G (M k) y) = x_ws G (S.set k y) M := by
  apply List.ext_getElem?
  intro i
  have hl := (List.getElem?_eq_some_iff.mp h).1
  by_cases hi : i = k
  · subst hi
    rw [List.getElem?_set_self (by rw [x_ws_len]; exact hl), x_ws_get (List.getElem?_set_self hl)]
  · rw [List.getElem?_set_ne (Ne.symm hi)]
    simp [x_ws, List.getElem?_set_ne (Ne.symm hi)]
theorem x_ws_app (G : x_G) (S : List x_S) (M : x_M) (x : x_S) (f : Nat → Int32) : x_ws G (S ++ [x]) (x_row M S.length f) = x_ws G S M ++ [(x_ad G S.length, x_e G f x)] := by
  apply List.ext_getElem?
  intro i
  rcases Nat.lt_trichotomy i S.length with h | h | h
  · rw [List.getElem?_append_left (by rw [x_ws_len]; exact h)]
    simp only [x_ws, List.getElem?_mapIdx, List.getElem?_append_left h, x_row_ne M f (Nat.ne_of_lt h)]
  · subst h
    rw [List.getElem?_append_right (by rw [x_ws_len]; exact Nat.le_refl _), x_ws_len, Nat.sub_self]
    simp [x_ws, x_row_self]
  · rw [List.getElem?_eq_none (by rw [x_ws_len]; simp; omega), List.getElem?_eq_none (by simp [x_ws_len]; omega)]
theorem x_fs_int {G : x_G} {f : Nat → Int32} {fs : List (Option Nat)} {j : Nat} (h : fs[j]? = some none) (v : Int32) : (x_fs G f fs).set j (.int v) = x_fs G (upd f j v) fs := by
  apply List.ext_getElem?
  intro i
  have hl := (List.getElem?_eq_some_iff.mp h).1
  by_cases hi : i = j
  · subst hi
    rw [List.getElem?_set_self (by simp [x_fs]; exact hl)]
    simp [x_fs, h, x_f1, upd]
  · rw [List.getElem?_set_ne (Ne.symm hi)]
    simp only [x_fs, List.getElem?_mapIdx]
    cases fs[i]? with
    | none => rfl
    | some o => cases o <;> simp [x_f1, upd, hi]
theorem x_fs_ref {G : x_G} {f : Nat → Int32} {fs : List (Option Nat)} {j : Nat} (h : j < fs.length) (r : Nat) : (x_fs G f fs).set j (x_v G (.inr (.inl r))) = x_fs G f (fs.set j (some r)) := by
  apply List.ext_getElem?
  intro i
  by_cases hi : i = j
  · subst hi
    rw [List.getElem?_set_self (by simp [x_fs]; exact h)]
    simp [x_fs, x_f1, h]
  · rw [List.getElem?_set_ne (Ne.symm hi)]
    simp only [x_fs, List.getElem?_mapIdx, List.getElem?_set_ne (Ne.symm hi)]
theorem x_fs_get {G : x_G} {f : Nat → Int32} {fs : List (Option Nat)} {j : Nat} {o : Option Nat} (h : fs[j]? = some o) : (x_fs G f fs)[j]? = some (x_f1 G f j o) := by
  simp [x_fs, h]
theorem x_v_pl {G : x_G} {k n : Nat} (h : k < n) (hn : n ≤ 1000) : x_v G (.inr (.inl k)) = .ref (x_ad G k) := by
  simp only [x_v]
  rw [if_neg (by omega)]
/-! locals -/
def x_lv (G : x_G) (ls : List x_V) : List (Nat × Value) := ls.mapIdx (fun k v => (k, x_v G v))
def x_sto : List x_V → Nat → x_V → List x_V
  | [], _, v => [v]
  | _ :: ls, 0, v => v :: ls
  | a :: ls, k + 1, v => a :: x_sto ls k v
theorem x_sto_get : ∀ (ls : List x_V) (k : Nat) (v : x_V), k ≤ ls.length → ∀ j : Nat, (x_sto ls k v)[j]? = if j = k then some v else ls[j]?
  | [], k, v, h, j => by
    have hk : k = 0 := by simpa using h
    subst hk
    cases j <;> simp [x_sto]
  | a :: ls, 0, v, h, j => by cases j <;> simp [x_sto]
  | a :: ls, k + 1, v, h, j => by
    cases j with
    | zero => simp [x_sto]
    | succ j =>
      simp only [x_sto, List.getElem?_cons_succ]
      rw [x_sto_get ls k v (by simpa using h) j]
      by_cases hj : j = k <;> simp [hj]
theorem x_v_cat (G : x_G) (v : x_V) : (x_v G v).category = 1 := by
  rcases v with x | k | c
  · rfl
  · simp only [x_v]; split <;> rfl
  · rfl
theorem x_lv_mem {G : x_G} {ls : List x_V} {q : Nat × Value} : q ∈ x_lv G ls ↔ ∃ v, ls[q.1]? = some v ∧ q.2 = x_v G v := by
  simp only [x_lv, List.mem_mapIdx]
  constructor
  · rintro ⟨i, hi, rfl⟩
    exact ⟨ls[i], by simp [hi], rfl⟩
  · rintro ⟨v, h1, h2⟩
    obtain ⟨hi, he⟩ := List.getElem?_eq_some_iff.mp h1
    refine ⟨q.1, hi, ?_⟩
    rw [he, ← h2]
theorem x_lv_at {G : x_G} {ls : List x_V} {lsA : Array Slot} {nL k : Nat} {v : x_V} (h : lv_has lsA nL (x_lv G ls)) (hk : ls[k]? = some v) : lsA[k]? = some (.val (x_v G v)) :=
  h.2.2 (k, x_v G v) (x_lv_mem.mpr ⟨v, hk, rfl⟩)
theorem x_lv_sub {G : x_G} {ls ls' : List x_V} {lsA : Array Slot} {nL : Nat} (h : lv_has lsA nL (x_lv G ls)) (hs : ∀ (k : Nat) (v : x_V), ls'[k]? = some v → ls[k]? = some v) : lv_has lsA nL (x_lv G ls') :=
  ⟨h.1, h.2.1, fun q hq => by
    obtain ⟨v, h1, h2⟩ := x_lv_mem.mp hq
    exact h.2.2 q (x_lv_mem.mpr ⟨v, hs _ _ h1, h2⟩)⟩
theorem x_lv_take {G : x_G} {ls : List x_V} {lsA : Array Slot} {nL : Nat} (n : Nat) (h : lv_has lsA nL (x_lv G ls)) : lv_has lsA nL (x_lv G (ls.take n)) :=
  x_lv_sub h (fun k v hk => by
    rw [List.getElem?_take] at hk
    split at hk
    · exact hk
    · cases hk)
theorem x_lv_sto {G : x_G} {ls : List x_V} {lsA : Array Slot} {nL k : Nat} {v : x_V} {lv' : List (Nat × Value)} (hk : k ≤ ls.length)
    (hl : (k, x_v G v) :: (x_lv G ls).filter (fun q => !(q.1 == k) && !(q.1 + 1 == k && q.2.category == 2)) = lv') (h : lv_has lsA nL lv') : lv_has lsA nL (x_lv G (x_sto ls k v)) := by
  refine ⟨h.1, h.2.1, fun q hq => ?_⟩
  obtain ⟨w, h1, h2⟩ := x_lv_mem.mp hq
  refine h.2.2 q ?_
  rw [← hl]
  rw [x_sto_get ls k v hk] at h1
  by_cases hqk : q.1 = k
  · rw [if_pos hqk] at h1
    have hw : w = v := (Option.some.inj h1).symm
    have : q = (k, x_v G v) := by
      rw [← hqk, ← hw, ← h2]
    rw [this]
    exact List.mem_cons_self
  · rw [if_neg hqk] at h1
    refine List.mem_cons_of_mem _ (List.mem_filter.mpr ⟨x_lv_mem.mpr ⟨w, h1, h2⟩, ?_⟩)
    have hc : q.2.category = 1 := by rw [h2]; exact x_v_cat G w
    simp [hqk, hc]
