theorem x_AO_moved {u U : State} (hvm : u.vm.Alike U.vm) (h : x_AO u) : x_AO U := by
  unfold x_AO Cond.before Cond.holds at h ⊢
  simp only [Cond.value, beq_iff_eq] at h ⊢
  rw [hvm.findClass] 
  cases hc : u.vm.findClass (FieldType.array .int).toString with
  | none => rw [hc] at h; simp at h
  | some comp =>
    rw [hc] at h
    simp only [Option.bind_some, Option.bind_eq_some_iff, Option.map_eq_some_iff] at h ⊢
    obtain ⟨c, hi, k, hk, hb⟩ := h
    obtain ⟨k', hk', he⟩ := hvm.2.2 _ _ hk
    refine ⟨c, ?_, k', hk', ?_⟩
    · have e1 := va_idx_bare U.vm comp
      have e2 := va_idx_bare u.vm comp
      first | rw [hvm.bare_eq] at e2 | rw [← hvm.bare_eq] at e2
      exact (e1.symm.trans e2).trans hi
    · have hkind : k'.kind = k.kind := by rw [he]
      rw [hkind, hvm.findClass]
      exact hb
theorem x_U_moved {G : x_G} {u U : State} (hvm : u.vm.Alike U.vm) (h : x_U G u) : x_U G U := ⟨h.1.moved hvm, x_AO_moved hvm h.2⟩
theorem x_C_moved {G : x_G} {u U : State} {H : Heap} (hvm : u.vm.Alike U.vm) (h : x_C G u H) : x_C G U H := fun c hc => ⟨(h c hc).1.moved hvm, (h c hc).2.moved hvm⟩
theorem x_C_kept {G : x_G} {U : State} {H H1 : Heap} (h : x_C G U H) (hq : ∀ a : Nat, a < H.size → ¬ x_A G a → H1[a]? = H[a]?) : x_C G U H1 := fun c hc => ⟨(h c hc).1.kept hq, (h c hc).2.kept hq⟩
theorem x_I_moved {G : x_G} {S : List x_S} {M : x_M} {u U : State} (hvm : u.vm.Alike U.vm) (hh : U.heap = u.heap) (h : x_I G S M u) : x_I G S M U :=
  ⟨x_U_moved hvm h.1, by rw [hh]; exact x_C_moved hvm h.2.1, by rw [hh]; exact h.2.2.1, by rw [hh]; exact h.2.2.2⟩
theorem x_blind (G : x_G) (S : List x_S) (M : x_M) (av : List Value) : FrameBlind (va_Pc av (x_I G S M)) := fun a U g mk h => ⟨h.1, x_I_moved (u := U) (U := U.calling g mk a) (Vm.Alike.refl U.vm) rfl h.2⟩
section XG
variable {p : Program} {l : Launch} {e : Env} {R : Room} {s : State} {m : MethodId} {args : Array Value} {below : List Frame} {meth : Method} {c : Code} {cc : ByteArray} {own : String} {nL : Nat} {G : x_G} {X : x_X} {Q : State → Prop}
theorem x_Y_take {pc : Nat} {ls st : List x_V} {S : List x_S} {M : x_M} {cs sl : Nat} (n : Nat) (h : x_Y p l e R s m args below meth c nL G Q pc (ls.take n) st S M cs sl) : x_Y p l e R s m args below meth c nL G Q pc ls st S M cs sl := fun H locs lsA hH hz hS hl => h H locs lsA hH hz hS (x_lv_take n hl)
theorem x_go_ok (E : x_Env p l e R s m args below meth c cc own nL G X) (hT : x_okT own X = true) (hR : R.cells = X.2.2.2.2.2.1.1 ∧ R.slots = X.2.2.2.2.2.1.2) (hC : ∀ q ∈ X.2.2.2.2.1, x_Cal l R cc own nL q.1 q.2)
    {Z : Instr → List x_V → List x_S → x_M → Nat → Nat → Prop} (hZ : ∀ i pc ls st S M cs sl, decode cc pc = .ok (i, 1) → Z i st S M cs sl → x_Y p l e R s m args below meth c nL G Q pc ls st S M cs sl)
    {bl : x_B} (hB : x_okB cc nL bl = true) {cut : List Nat} {I : x_J} (hI : ∀ pc ls st S M cs sl, I pc ls st S M cs sl → x_Y p l e R s m args below meth c nL G Q pc ls st S M cs sl) :
    ∀ (f : Nat) pc ls st S M cs sl, x_go X Z bl cut I f pc ls st S M cs sl → x_Y p l e R s m args below meth c nL G Q pc ls st S M cs sl
  | 0, pc, ls, st, S, M, cs, sl, h => by
    unfold x_go at h
    split at h
    · rename_i q hq
      split at h
      · exact x_Y_take _ (hI _ _ _ _ _ _ _ h)
      · exact h.elim
    · exact h.elim
  | f + 1, pc, ls, st, S, M, cs, sl, h => by
    unfold x_go at h
    split at h
    · rename_i q hq
      split at h
      · exact x_Y_take _ (hI _ _ _ _ _ _ _ h)
      · have hok : x_okc cc nL pc q.2 = true := List.all_eq_true.mp hB _ (x_lk_mem hq)
        exact x_Y_take _ (x_wp_ok E hT hR hC hZ (x_go_ok E hT hR hC hZ hB hI f) q.2 pc hok _ _ _ _ _ _ h)
    · exact h.elim
end XG
/-- a method's end -/
def x_Z (ret : Option FieldType) (q : x_K) (as : List x_V) (S : List x_S) (M : x_M) (i : Instr) (st : List x_V) (S' : List x_S) (M' : x_M) (cs sl : Nat) : Prop := match i, st with
  | .ireturn, [.inl v] => (ret = some .int ∨ (ret = some .boolean ∧ (v = 0 ∨ v = 1))) ∧ cs = q.2.2.2.1 ∧ sl ≤ q.2.2.2.2 ∧ q.2.2.1 as S M (some (.inl v)) S' M'
  | .areturn, [.inr (.inl r)] => (∃ n, ret = some (.object n)) ∧ r < 1000 ∧ cs = q.2.2.2.1 ∧ sl ≤ q.2.2.2.2 ∧ q.2.2.1 as S M (some (.inr (.inl r))) S' M'
  | .return_, [] => ret = none ∧ cs = q.2.2.2.1 ∧ sl ≤ q.2.2.2.2 ∧ q.2.2.1 as S M none S' M'
  | _, _ => False
theorem x_args_mem (G : x_G) : ∀ (as : List x_V) (i : Nat) (k : Nat) (v : x_V), as[k]? = some v → (i + k, x_v G v) ∈ lv_args i (as.map (x_v G))
  | [], i, k, v, h => by simp at h
  | a :: as, i, k, v, h => by
    rw [List.map_cons]
    unfold lv_args
    rw [if_neg (by rw [x_v_cat]; decide)]
    cases k with
    | zero =>
      simp at h
      subst h
      exact List.mem_cons_self
    | succ k =>
      rw [List.getElem?_cons_succ] at h
      have := x_args_mem G as (i + 1) k v h
      rw [show i + (k + 1) = i + 1 + k by omega]
      exact List.mem_cons_of_mem _ this
theorem x_sl_len (G : x_G) : ∀ as : List x_V, (lg_sl (as.map (x_v G))).length = as.length
  | [] => rfl
  | a :: as => by
    have := x_sl_len G as
    simp only [lg_sl, List.map_cons, List.flatMap_cons, x_v_cat] at this ⊢
    simp [this]
/-- THE METHOD THEOREM: the entry, and every cut, with a number that falls -/
theorem x_meth {l : Launch} {y : MethodName} {cc : ByteArray} {maxL : Nat} {ret : Option FieldType} {h : Nat} {q : x_K} {own : String} {X : x_X} {bl : x_B} {cut : List Nat} (F : Nat)
    (hy : plainName y.cls = true) (ho : y.cls = own) (hT : x_okT own X = true) (hB : x_okB cc maxL bl = true) (hX : X.2.2.2.2.2 = ((q.2.2.2.1, q.2.2.2.2), x_kn, x_kf, 5, decide (y.name = "<init>"))) (hn : q.1 ≤ maxL)
    (hC : ∀ z ∈ X.2.2.2.2.1, x_Cal l (x_rm h q.2.2.2.1 q.2.2.2.2) cc own maxL z.1 z.2)
    (hm : ∀ as S M, as.length = q.1 → q.2.1 as S M → ∃ I : Nat → x_J, x_go X (x_Z ret q as S M) bl cut (fun pc ls st S' M' cs sl => ∃ μ, I μ pc ls st S' M' cs sl) F 0 as [] S M 0 0 ∧
      ∀ μ pc ls st S' M' cs sl, I μ pc ls st S' M' cs sl → ∃ b, x_lk bl pc = some b ∧ x_wp X (x_Z ret q as S M) (x_go X (x_Z ret q as S M) bl cut (fun pc ls st S' M' cs sl => ∃ μ', μ' < μ ∧ I μ' pc ls st S' M' cs sl) F) b.2 pc ls st S' M' cs sl) :
    x_CT l y cc maxL ret h q := by
  intro G as S M hlen hpre
  obtain ⟨I, h0, h1⟩ := hm as S M hlen hpre
  refine Met.ofW (cc := cc) (maxL := maxL) (ret := ret) hy rfl ?_
  intro p e s m args below meth c s₁ B hml hv
  obtain ⟨rfl, hU, hCc, hH, hsz⟩ := hv
  have hts := atoms_spec (ws := Cond.code y cc maxL ret :: x_tbl) B.pre
  have hown : s.vm.findClass own = some m.cls := by rw [← ho]; exact findClass_of_methodNamed B.named
  have hr := B.returns
  have hlocks := B.notSynchronized
  have E : x_Env p l e (x_rm h q.2.2.2.1 q.2.2.2.2) s m (as.map (x_v G)).toArray below meth c cc own maxL G X := by
    refine ⟨B.exec, B.bytes, hml, hown, fun w hw => hts w (List.mem_cons_of_mem _ hw), hU, hCc, ?_, by omega, ?_⟩
    · rw [hX]
      exact fun k hk => (hCc k hk).1
    · rw [hX]
      intro hi
      rw [(name_of_methodNamed B.named B.method).1]
      exact of_decide_eq_true hi
  have hR : (x_rm h q.2.2.2.1 q.2.2.2.2).cells = X.2.2.2.2.2.1.1 ∧ (x_rm h q.2.2.2.1 q.2.2.2.2).slots = X.2.2.2.2.2.1.2 := by
    rw [hX]
    exact ⟨rfl, rfl⟩
  have hZ : ∀ i pc ls st S' M' cs sl, decode cc pc = .ok (i, 1) → x_Z ret q as S M i st S' M' cs sl → x_Y p l e (x_rm h q.2.2.2.1 q.2.2.2.2) s m (as.map (x_v G)).toArray below meth c maxL G (MQ below (x_Qc G q as S M) (as.map (x_v G)).toArray s q.2.2.2.1 q.2.2.2.2 (x_A G)) pc ls st S' M' cs sl := by
    intro i pc ls st S' M' cs sl hd hz H locs lsA hH' hzz hS hl
    have hend : ∀ r : Option x_V, cs = q.2.2.2.1 → q.2.2.1 as S M r S' M' → ∀ t : State, t.heap = H → s.WarmedH t.vm → x_Qc G q as S M (as.map (x_v G)).toArray s (.returned (r.map (x_v G))) t :=
      fun r hcs hp t ht _ => ⟨r, S', M', rfl, hp, by rw [ht]; exact hH', by omega, hS.F ht⟩
    unfold x_Z at hz
    split at hz
    · rename_i v
      obtain ⟨hret, hcs, hsl, hp⟩ := hz
      refine W.widen (k := q.2.2.2.1) (n := q.2.2.2.2) (by omega) hsl ?_
      rcases hret with hret | ⟨hret, hv⟩
      · rw [hret] at hr
        exact W.iret (v := v) B.exec B.bytes hr (hend (some (.inl v)) hcs hp) hS.2.2 hd
      · rw [hret] at hr
        exact W.zret (v := v) (ty := .boolean) B.exec B.bytes hr (by rcases hv with rfl | rfl <;> rfl) (hend (some (.inl v)) hcs hp) hS.2.2 hd
    · rename_i r
      obtain ⟨⟨n, hret⟩, hr1, hcs, hsl, hp⟩ := hz
      refine W.widen (k := q.2.2.2.1) (n := q.2.2.2.2) (by omega) hsl ?_
      rw [hret] at hr
      exact W.aret (v := x_v G (.inr (.inl r))) B.exec B.bytes hr (Or.inl ⟨n, rfl⟩) (Or.inr ⟨_, x_pl2 hr1⟩) (hend (some (.inr (.inl r))) hcs hp) hS.2.2 hd
    · obtain ⟨hret, hcs, hsl, hp⟩ := hz
      refine W.widen (k := q.2.2.2.1) (n := q.2.2.2.2) (by omega) hsl ?_
      rw [hret] at hr
      exact W.vret B.exec B.bytes hr (hend none hcs hp) hS.2.2 hd
    · exact hz.elim
  have hI : ∀ μ pc ls st S' M' cs sl, I μ pc ls st S' M' cs sl → x_Y p l e (x_rm h q.2.2.2.1 q.2.2.2.2) s m (as.map (x_v G)).toArray below meth c maxL G (MQ below (x_Qc G q as S M) (as.map (x_v G)).toArray s q.2.2.2.1 q.2.2.2.2 (x_A G)) pc ls st S' M' cs sl := by
    intro μ
    induction μ using Nat.strongRecOn with
    | _ μ ih =>
      intro pc ls st S' M' cs sl hi
      obtain ⟨b, hb1, hb2⟩ := h1 μ pc ls st S' M' cs sl hi
      have hok : x_okc cc maxL pc b.2 = true := List.all_eq_true.mp hB _ (x_lk_mem hb1)
      exact x_wp_ok E hT hR hC hZ (x_go_ok E hT hR hC hZ hB (fun pc ls st S M cs sl hh => by obtain ⟨μ', hlt, hi'⟩ := hh; exact ih μ' hlt _ _ _ _ _ _ _ hi') F) b.2 pc hok _ _ _ _ _ _ hb2
  have hgo := x_go_ok E hT hR hC hZ hB (fun pc ls st S M cs sl hh => by obtain ⟨μ', hi'⟩ := hh; exact hI μ' _ _ _ _ _ _ _ hi') F 0 as [] S M 0 0 h0
  rw [lg_entry_eq]
  refine hgo s.heap [] _ hH (by omega) va_S.rf ?_
  have hl := lv_entry (as.map (x_v G)) (n := maxL) (by rw [x_sl_len]; omega)
  refine ⟨hl.1, hl.2.1, fun z hz => hl.2.2 z ?_⟩
  obtain ⟨v, hv1, hv2⟩ := x_lv_mem.mp hz
  have := x_args_mem G as 0 z.1 v hv1
  rw [Nat.zero_add, ← hv2] at this
  exact this
