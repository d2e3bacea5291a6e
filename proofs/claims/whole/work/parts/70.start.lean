/-! THE CLAIM OUT OF ONE WALK OF THE LAW'S BODY. Your part is whole_start (and what it stands on); all else here is the same for every law, but numbers. -/
def R_law : String := "SpaceWordsLaw"
def lw_P (b : Addr) (xs : List Int32) (args : Array Value) (s : State) : Prop := args = #[.ref b] ∧ s.IntsAt b xs ∧ xs.length ≤ 3072 ∧ (Jvm.Cond.and given_1 narrow_1).before args s = true
def lw_Q (_ : Array Value) (s : State) (o : Outcome) (t : State) : Prop := o = .returned (some (.int 1)) ∧ Framed s o t [] 600000 7302250
def lw_Z (below : List Frame) (a : Array Value) (s : State) : State → Prop := fun t => ∃ o, t.status = .running ∧ Ended t below o ∧ lw_Q a s o t
/-- the law's own end, with 1 on the stack, nothing written that was there before, its room as the claim has it -/
theorem lw_ret {p : Program} {l : Launch} {e : Env} {s : State} {m : MethodId} {below : List Frame} {meth : Method} {c : Code} {b : Nat} (hx : p.tables.exec = Jvm.exec) (hb : c.code = code) (hr : meth.sig.returnType = ret) (hlocks : meth.locks = false) {pc : Nat} {H : Heap} {ls : Array Slot} (hdg : decode code pc = .ok (.ireturn, 1)) : W p l e room_1 s m #[Value.ref b] below meth c H [] 600000 7302250 (lw_Z below #[Value.ref b] s) (F0 m pc ls [.int 1]) := by
  intro T hT X
  obtain ⟨fs, hret, hrun, hended, hW, hframe⟩ := X.leave (v := some (.int 1)) (hlocks := hlocks) (fun h => by rw [hr] at h; cases h)
  have hmeth' : T.vm.method? m = some meth := X.method'
  refine ⟨T.setFrames fs, ?_, .returned (some (.int 1)), hrun, hended, rfl, ⟨_, rfl⟩, hW, hframe⟩
  jvm_step X.here [X.here.top, hx, hb, hdg, hmeth', hr, ret, narrow_b1]
  (try refine ⟨rfl, ?_⟩); (try refine ⟨rfl, ?_⟩)
  first | (intro acts; rw [hret _ acts rfl rfl rfl]) | rw [hret _ _ rfl rfl rfl]
  exact Steps.refl _
/-- what holds at the law's entry: the machine, the code, the tables' words (any of lw_tbl by 'hts w (by decide +kernel)'), the script of L ints xs at the cell b, what the Statement gives of the start (any of its parts by flat_of_before) -/
def lw_At (p : Program) (s : State) (m : MethodId) (meth : Method) (c : Code) (b L : Nat) (xs : Nat → Int32) : Prop :=
  p.tables.exec = Jvm.exec ∧ c.code = code ∧ meth.sig.returnType = ret ∧ c.maxLocals = 4 ∧ s.vm.findClass R_law = some m.cls ∧ (∀ w ∈ lw_tbl, w.before #[Value.ref b] s = true) ∧ va_X b L xs s s.heap ∧ b < s.heap.size ∧ meth.locks = false ∧ (Jvm.Cond.and given_1 narrow_1).before #[Value.ref b] s = true
/-! THE LAW: from its entry to its end -/
theorem lwI_go {L : Nat} {xs : Nat → Int32} (hL : L ≤ 3072) : ∀ μ pc ls st S M cs sl, lwI μ pc ls st S M cs sl → ∃ b, x_lk b_L_law pc = some b ∧ x_wp (X_law L xs) lwZ (x_go (X_law L xs) lwZ b_L_law [18] (fun pc ls st S M cs sl => ∃ μ', μ' < μ ∧ lwI μ' pc ls st S M cs sl) 30) b.2 pc ls st S M cs sl := by
  rintro μ pc ls st S M cs sl ⟨i, hi, hLI, rfl, rfl, rfl, rfl, rfl, rfl, rfl⟩
  exact law_18 hL hi hLI
theorem law_T {G : x_G} {s : State} {b L : Nat} {xs : Nat → Int32} (hC : x_C G s s.heap) (h5 : G.2.2.2 5 = b) (hT : va_T .int b L (fun j => .int (xs j)) (x_A G) s s.heap) : ∀ k : Nat, k < 6 → va_T .int (G.2.2.2 k) (if k = 5 then L else x_kn k) (fun j => .int (if k = 5 then xs j else x_kf k j)) (x_A G) s s.heap := by
  intro k hk
  by_cases q : k = 5
  · subst q
    simp only [if_pos]
    rw [h5]
    exact hT
  · simp only [if_neg q]
    exact (hC k (by omega)).1
/-- from the entry, for every script of at most 3072 ints, the law comes to its end with true -/
theorem whole_start {p : Program} {e : Env} {s : State} {m : MethodId} {below : List Frame} {meth : Method} {c : Code} (l : Launch) {b L : Nat} {xs : Nat → Int32} (hL : L ≤ 3072) (C0 : lw_At p s m meth c b L xs) : W p l e room_1 s m #[Value.ref b] below meth c s.heap [] 0 0 (lw_Z below #[Value.ref b] s) (entryFrame m ([Value.ref b] : List Value).toArray 4) := by
  obtain ⟨hx, hb, hr, hml, hown, hts, hX, hbl, hlocks, hgv⟩ := C0
  obtain ⟨G, hG0, hG5, hU, hC, hT⟩ := law_env hts hgv hX hL hbl
  have E : x_Env p l e room_1 s m #[Value.ref b] below meth c code RL 4 G (X_law L xs) :=
    ⟨hx, hb, hml, hown, fun w hw => hts w (List.mem_filter.mp hw).1, hU, hC, law_T hC hG5 hT, by omega, fun h => Bool.noConfusion h⟩
  have hR : room_1.cells = (X_law L xs).2.2.2.2.2.1.1 ∧ room_1.slots = (X_law L xs).2.2.2.2.2.1.2 := ⟨rfl, rfl⟩
  have hZ : ∀ i pc ls st S M cs sl, decode code pc = .ok (i, 1) → lwZ i st S M cs sl → x_Y p l e room_1 s m #[Value.ref b] below meth c 4 G (lw_Z below #[Value.ref b] s) pc ls st S M cs sl := by
    rintro i pc ls st S M cs sl hd ⟨rfl, rfl, h1, h2⟩ H locs lsA hH hz hS hl
    refine va_forget (fun q hq => by have := hS.2.2 q hq; unfold x_A at this; omega) ?_
    refine W.widen (k := 600000) (n := 7302250) h1 h2 ?_
    exact lw_ret hx hb hr hlocks hd
  have hI : ∀ μ pc ls st S M cs sl, lwI μ pc ls st S M cs sl → x_Y p l e room_1 s m #[Value.ref b] below meth c 4 G (lw_Z below #[Value.ref b] s) pc ls st S M cs sl := by
    intro μ
    induction μ using Nat.strongRecOn with
    | _ μ ih =>
      intro pc ls st S M cs sl hi
      obtain ⟨q, hq1, hq2⟩ := lwI_go (xs := xs) hL μ pc ls st S M cs sl hi
      have hok : x_okc code 4 pc q.2 = true := List.all_eq_true.mp b_L_law_ok _ (x_lk_mem hq1)
      exact x_wp_ok E (X_law_ok L xs) hR (k_law l) hZ (x_go_ok E (X_law_ok L xs) hR (k_law l) hZ b_L_law_ok (fun pc ls st S M cs sl hh => by obtain ⟨μ', hlt, hi'⟩ := hh; exact ih μ' hlt _ _ _ _ _ _ _ hi') 30) q.2 pc hok _ _ _ _ _ _ hq2
  have hgo := x_go_ok E (X_law_ok L xs) hR (k_law l) hZ b_L_law_ok (fun pc ls st S M cs sl hh => by obtain ⟨μ', hi'⟩ := hh; exact hI μ' _ _ _ _ _ _ _ hi') 30 0 [.inr (.inr 5)] [] [] (fun _ _ => 0) 0 0 (law_0 L xs)
  have hl := lv_entry ([.ref b]) (n := 4) (Nat.le_of_ble_eq_true rfl)
  rw [lg_entry_eq]
  refine hgo s.heap [] _ ⟨fun k q h => by simp [x_ws] at h, Nat.zero_le _⟩ (by rw [hG0]; rfl) va_S.rf ?_
  refine ⟨hl.1, hl.2.1, fun z hz => hl.2.2 z ?_⟩
  obtain ⟨v, hv1, hv2⟩ := x_lv_mem.mp hz
  have hz0 : z.1 = 0 := by
    have := (List.getElem?_eq_some_iff.mp hv1).1
    simpa using this
  rw [hz0] at hv1
  have hv3 : v = .inr (.inr 5) := (Option.some.inj hv1).symm
  have hz2 : z = (0, .ref b) := Prod.ext hz0 (by rw [hv2, hv3]; show Value.ref (G.2.2.2 5) = _; rw [hG5])
  rw [hz2]
  exact List.mem_cons_self
