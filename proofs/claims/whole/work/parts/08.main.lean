section XM
variable {p : Program} {l : Launch} {e : Env} {R : Room} {s : State} {m : MethodId} {args : Array Value} {below : List Frame} {meth : Method} {c : Code} {cc : ByteArray} {own : String} {nL : Nat} {G : x_G} {X : x_X} {Q : State → Prop}
set_option maxHeartbeats 16000000 in
set_option maxRecDepth 10000 in
/-- one instruction -/
theorem x_op_ok (E : x_Env p l e R s m args below meth c cc own nL G X) (hT : x_okT own X = true) (hR : R.cells = X.2.2.2.2.2.1.1 ∧ R.slots = X.2.2.2.2.2.1.2) (hC : ∀ q ∈ X.2.2.2.2.1, x_Cal l R cc own nL q.1 q.2)
    {Z : Instr → List x_V → List x_S → x_M → Nat → Nat → Prop} (hZ : ∀ i pc ls st S M cs sl, decode cc pc = .ok (i, 1) → Z i st S M cs sl → x_Y p l e R s m args below meth c nL G Q pc ls st S M cs sl) {K J : x_J}
    (hJ : ∀ pc ls st S M cs sl, J pc ls st S M cs sl → x_Y p l e R s m args below meth c nL G Q pc ls st S M cs sl)
    {i : Instr} {n pc : Nat} (hK : ∀ ls st S M cs sl, K (pc + n) ls st S M cs sl → x_Y p l e R s m args below meth c nL G Q (pc + n) ls st S M cs sl) {ls st : List x_V} {S : List x_S} {M : x_M} {cs sl : Nat} (hd : decode cc pc = .ok (i, n)) (ho : x_okI nL pc i n = true) (h : x_op X Z K J i n pc ls st S M cs sl) : x_Y p l e R s m args below meth c nL G Q pc ls st S M cs sl := by
  have E' := E
  obtain ⟨hx, hb, hml, hown, hts, hU, hCc, hk, ha0, hini⟩ := E'
  have ldi : ∀ (k : Nat) (K' : x_V → Prop), x_ldi ls k K' → ∃ x, ls[k]? = some (.inl x) ∧ K' (.inl x) := by
    intro k K' h
    unfold x_ldi at h
    split at h
    · rename_i x hx; exact ⟨x, hx, h⟩
    · exact h.elim
  have lda : ∀ (k : Nat) (K' : x_V → Prop), x_lda ls k K' → ∃ v a, ls[k]? = some v ∧ x_v G v = .ref a ∧ K' v := by
    intro k K' h
    unfold x_lda at h
    split at h
    · rename_i x hx; exact ⟨_, _, hx, x_pl2 h.1, h.2⟩
    · rename_i x hx; exact ⟨_, _, hx, rfl, h⟩
    · exact h.elim
  have sti : ∀ (k : Nat) (K' : List x_V → List x_V → Prop), x_sti ls k K' st → ∃ x st0, st = .inl x :: st0 ∧ k ≤ ls.length ∧ K' (x_sto ls k (.inl x)) st0 := by
    intro k K' h
    unfold x_sti at h
    split at h
    · exact ⟨_, _, rfl, h.1, h.2⟩
    · exact h.elim
  have sta : ∀ (k : Nat) (K' : List x_V → List x_V → Prop), x_sta ls k K' st → ∃ r st0, st = .inr (.inl r) :: st0 ∧ k ≤ ls.length ∧ r < 1000 ∧ K' (x_sto ls k (.inr (.inl r))) st0 := by
    intro k K' h
    unfold x_sta at h
    split at h
    · exact ⟨_, _, rfl, h.1, h.2.1, h.2.2⟩
    · exact h.elim
  have bin : ∀ (f : Int32 → Int32 → Int32) (K' : List x_V → Prop), x_bin f K' st → ∃ a b st0, st = .inl b :: .inl a :: st0 ∧ K' (.inl (f a b) :: st0) := by
    intro f K' h
    unfold x_bin at h
    split at h
    · exact ⟨_, _, _, rfl, h⟩
    · exact h.elim
  have div : ∀ (f : Int32 → Int32 → Int32) (K' : List x_V → Prop), x_div f K' st → ∃ a b st0, st = .inl b :: .inl a :: st0 ∧ (¬ b = 0) ∧ K' (.inl (f a b) :: st0) := by
    intro f K' h
    unfold x_div at h
    split at h
    · exact ⟨_, _, _, rfl, h.1, h.2⟩
    · exact h.elim
  cases i <;> first | exact False.elim h | skip
  all_goals simp only [x_okI, Bool.and_eq_true, beq_iff_eq, decide_eq_true_eq] at ho
  all_goals simp only [x_op] at h
  case iconst v => obtain ⟨rfl, hv⟩ := ho; intro H locs lsA hH hz hS hl; exact lv_iconst hx hb hd hv (hK _ _ _ _ _ _ h H locs lsA hH hz hS hl)
  case bipush v => obtain ⟨rfl, hv⟩ := ho; intro H locs lsA hH hz hS hl; exact lv_bipush hx hb hd hv (hK _ _ _ _ _ _ h H locs lsA hH hz hS hl)
  case sipush v => obtain ⟨rfl, hv⟩ := ho; intro H locs lsA hH hz hS hl; exact lv_sipush hx hb hd hv (hK _ _ _ _ _ _ h H locs lsA hH hz hS hl)
  case ldc k =>
    subst ho
    intro H locs lsA hH hz hS hl
    split at h
    · rename_i v hv
      have hw : Cond.constant own k v ∈ x_tbl := by
        simp only [x_okT, Bool.and_eq_true, List.all_eq_true, decide_eq_true_eq] at hT
        exact hT.1.2 _ (x_lk_mem hv)
      exact lv_ldc hx hb hown (hts _ hw) hd (hK _ _ _ _ _ _ h H locs lsA hH hz hS hl)
    · exact h.elim
  case ldc_w k =>
    subst ho
    intro H locs lsA hH hz hS hl
    split at h
    · rename_i v hv
      have hw : Cond.constant own k v ∈ x_tbl := by
        simp only [x_okT, Bool.and_eq_true, List.all_eq_true, decide_eq_true_eq] at hT
        exact hT.1.2 _ (x_lk_mem hv)
      exact lv_ldcw hx hb hown (hts _ hw) hd (hK _ _ _ _ _ _ h H locs lsA hH hz hS hl)
    · exact h.elim
  case iload_n k => subst ho; obtain ⟨x, h1, h2⟩ := ldi _ _ h; intro H locs lsA hH hz hS hl; exact lv_iload_n hx hb hd rfl (x_lv_at hl h1) (hK _ _ _ _ _ _ h2 H locs lsA hH hz hS hl)
  case iload k => subst ho; obtain ⟨x, h1, h2⟩ := ldi _ _ h; intro H locs lsA hH hz hS hl; exact lv_iload hx hb hd (x_lv_at hl h1) (hK _ _ _ _ _ _ h2 H locs lsA hH hz hS hl)
  case aload_n k =>
    subst ho
    obtain ⟨v, a, h1, e1, h2⟩ := lda _ _ h
    intro H locs lsA hH hz hS hl
    have hW := hK _ _ _ _ _ _ h2 H locs lsA hH hz hS hl
    have h3 := x_lv_at hl h1
    rw [List.map_cons, e1] at hW
    rw [e1] at h3
    exact lv_aload_n hx hb hd rfl h3 hW
  case aload k =>
    subst ho
    obtain ⟨v, a, h1, e1, h2⟩ := lda _ _ h
    intro H locs lsA hH hz hS hl
    have hW := hK _ _ _ _ _ _ h2 H locs lsA hH hz hS hl
    have h3 := x_lv_at hl h1
    rw [List.map_cons, e1] at hW
    rw [e1] at h3
    exact lv_aload hx hb hd h3 hW
  case istore_n k => obtain ⟨rfl, hkn⟩ := ho; obtain ⟨x, st0, rfl, h1, h2⟩ := sti _ _ h; intro H locs lsA hH hz hS hl; exact lv_istore_n hx hb hd rfl hl hkn rfl (fun ls' hl' => hK _ _ _ _ _ _ h2 H locs ls' hH hz hS (x_lv_sto h1 rfl hl'))
  case istore k => obtain ⟨rfl, hkn⟩ := ho; obtain ⟨x, st0, rfl, h1, h2⟩ := sti _ _ h; intro H locs lsA hH hz hS hl; exact lv_istore hx hb hd hl hkn rfl (fun ls' hl' => hK _ _ _ _ _ _ h2 H locs ls' hH hz hS (x_lv_sto h1 rfl hl'))
  case astore_n k =>
    obtain ⟨rfl, hkn⟩ := ho
    obtain ⟨r, st0, rfl, h1, hr, h2⟩ := sta _ _ h
    intro H locs lsA hH hz hS hl
    rw [List.map_cons, x_pl2 hr]
    exact lv_astore_n hx hb hd rfl hl hkn rfl (fun ls' hl' => hK _ _ _ _ _ _ h2 H locs ls' hH hz hS (x_lv_sto h1 (by rw [x_pl2 hr]) hl'))
  case astore k =>
    obtain ⟨rfl, hkn⟩ := ho
    obtain ⟨r, st0, rfl, h1, hr, h2⟩ := sta _ _ h
    intro H locs lsA hH hz hS hl
    rw [List.map_cons, x_pl2 hr]
    exact lv_astore hx hb hd hl hkn rfl (fun ls' hl' => hK _ _ _ _ _ _ h2 H locs ls' hH hz hS (x_lv_sto h1 (by rw [x_pl2 hr]) hl'))
  case iinc k d =>
    obtain ⟨⟨rfl, hkn⟩, hv⟩ := ho
    simp only [x_inc] at h
    split at h
    · rename_i x h1
      intro H locs lsA hH hz hS hl
      have hlen := (List.getElem?_eq_some_iff.mp h1).1
      exact lv_iinc hx hb hd hl (k := k) (x := x) (by simp [x_lv, h1, x_v]) (by rw [hv]) hkn rfl (fun ls' hl' => hK _ _ _ _ _ _ h H locs ls' hH hz hS (x_lv_sto (Nat.le_of_lt hlen) rfl hl'))
    · exact h.elim
  case iadd => subst ho; obtain ⟨a, b, st0, rfl, h2⟩ := bin _ _ h; intro H locs lsA hH hz hS hl; exact lv_iadd hx hb hd (hK _ _ _ _ _ _ h2 H locs lsA hH hz hS hl)
  case isub => subst ho; obtain ⟨a, b, st0, rfl, h2⟩ := bin _ _ h; intro H locs lsA hH hz hS hl; exact lv_isub hx hb hd (hK _ _ _ _ _ _ h2 H locs lsA hH hz hS hl)
  case imul => subst ho; obtain ⟨a, b, st0, rfl, h2⟩ := bin _ _ h; intro H locs lsA hH hz hS hl; exact lv_imul hx hb hd (hK _ _ _ _ _ _ h2 H locs lsA hH hz hS hl)
  case iand => subst ho; obtain ⟨a, b, st0, rfl, h2⟩ := bin _ _ h; intro H locs lsA hH hz hS hl; exact lv_iand hx hb hd (hK _ _ _ _ _ _ h2 H locs lsA hH hz hS hl)
  case ior => subst ho; obtain ⟨a, b, st0, rfl, h2⟩ := bin _ _ h; intro H locs lsA hH hz hS hl; exact lv_ior hx hb hd (hK _ _ _ _ _ _ h2 H locs lsA hH hz hS hl)
  case ixor => subst ho; obtain ⟨a, b, st0, rfl, h2⟩ := bin _ _ h; intro H locs lsA hH hz hS hl; exact lv_ixor hx hb hd (hK _ _ _ _ _ _ h2 H locs lsA hH hz hS hl)
  case ishl => subst ho; obtain ⟨a, b, st0, rfl, h2⟩ := bin _ _ h; intro H locs lsA hH hz hS hl; exact lv_ishl hx hb hd (hK _ _ _ _ _ _ h2 H locs lsA hH hz hS hl)
  case ishr => subst ho; obtain ⟨a, b, st0, rfl, h2⟩ := bin _ _ h; intro H locs lsA hH hz hS hl; exact lv_ishr hx hb hd (hK _ _ _ _ _ _ h2 H locs lsA hH hz hS hl)
  case iushr => subst ho; obtain ⟨a, b, st0, rfl, h2⟩ := bin _ _ h; intro H locs lsA hH hz hS hl; exact lv_iushr hx hb hd rfl (hK _ _ _ _ _ _ h2 H locs lsA hH hz hS hl)
  case idiv => subst ho; obtain ⟨a, b, st0, rfl, h1, h2⟩ := div _ _ h; intro H locs lsA hH hz hS hl; exact lv_idiv hx hb hd h1 (hK _ _ _ _ _ _ h2 H locs lsA hH hz hS hl)
  case irem => subst ho; obtain ⟨a, b, st0, rfl, h1, h2⟩ := div _ _ h; intro H locs lsA hH hz hS hl; exact lv_irem hx hb hd h1 (hK _ _ _ _ _ _ h2 H locs lsA hH hz hS hl)
  case ineg =>
    subst ho
    simp only [x_un] at h
    split at h
    · intro H locs lsA hH hz hS hl; exact lv_ineg hx hb hd (hK _ _ _ _ _ _ h H locs lsA hH hz hS hl)
    · exact h.elim
  case dup =>
    subst ho
    simp only [x_du1] at h
    split at h
    · intro H locs lsA hH hz hS hl; exact lv_dup hx hb hd (x_v_cat G _) (hK _ _ _ _ _ _ h H locs lsA hH hz hS hl)
    · exact h.elim
  case dup2 =>
    subst ho
    simp only [x_du2] at h
    split at h
    · intro H locs lsA hH hz hS hl; exact lv_dup2_11 hx hb hd (x_v_cat G _) (x_v_cat G _) (hK _ _ _ _ _ _ h H locs lsA hH hz hS hl)
    · exact h.elim
  case goto off => obtain ⟨rfl, ht⟩ := ho; intro H locs lsA hH hz hS hl; exact lv_goto hx hb hd (x_tgt ht) (hJ _ _ _ _ _ _ _ h H locs lsA hH hz hS hl)
  case ifCond o off =>
    obtain ⟨rfl, ht⟩ := ho
    simp only [x_if1] at h
    split at h
    · intro H locs lsA hH hz hS hl
      have kt := fun g => hJ _ _ _ _ _ _ _ (h.1 g) H locs lsA hH hz hS hl
      have kf := fun g => hK _ _ _ _ _ _ (h.2 g) H locs lsA hH hz hS hl
      cases o
      · exact lv_if_eq hx hb hd (x_tgt ht) kt kf
      · exact lv_if_ne hx hb hd (x_tgt ht) kt kf
      · exact lv_if_lt hx hb hd (x_tgt ht) kt kf
      · exact lv_if_ge hx hb hd (x_tgt ht) kt kf
      · exact lv_if_gt hx hb hd (x_tgt ht) kt kf
      · exact lv_if_le hx hb hd (x_tgt ht) kt kf
    · exact h.elim
  case if_icmp o off =>
    obtain ⟨rfl, ht⟩ := ho
    simp only [x_if2] at h
    split at h
    · intro H locs lsA hH hz hS hl
      have kt := fun g => hJ _ _ _ _ _ _ _ (h.1 g) H locs lsA hH hz hS hl
      have kf := fun g => hK _ _ _ _ _ _ (h.2 g) H locs lsA hH hz hS hl
      cases o
      · exact lv_icmp_eq hx hb hd (x_tgt ht) kt kf
      · exact lv_icmp_ne hx hb hd (x_tgt ht) kt kf
      · exact lv_icmp_lt hx hb hd (x_tgt ht) kt kf
      · exact lv_icmp_ge hx hb hd (x_tgt ht) kt kf
      · exact lv_icmp_gt hx hb hd (x_tgt ht) kt kf
      · exact lv_icmp_le hx hb hd (x_tgt ht) kt kf
    · exact h.elim
  case tableswitch d lo hi offs =>
    obtain ⟨⟨ht, hlo⟩, hall⟩ := ho
    simp only [x_sw] at h
    split at h
    · rename_i x st0
      intro H locs lsA hH hz hS hl
      by_cases hout : x.toInt < lo ∨ hi < x.toInt
      · exact lv_tableOut hx hb hd hout (x_tgt ht) (hJ _ _ _ _ _ _ _ (h.1 hout) H locs lsA hH hz hS hl)
      · have h1 : ¬ x.toInt < lo := fun g => hout (Or.inl g)
        have h2 : ¬ hi < x.toInt := fun g => hout (Or.inr g)
        have hj : (x.toInt - lo).toNat < offs.size := by omega
        have hof : offs[(x.toInt - lo).toNat]? = some offs[(x.toInt - lo).toNat] := Array.getElem?_eq_getElem hj
        have hof2 : offs.toList[(x.toInt - lo).toNat]? = some offs[(x.toInt - lo).toNat] := by rw [Array.getElem?_toList]; exact hof
        have ht2 : 0 ≤ (pc : Int) + offs[(x.toInt - lo).toNat] := by
          have := List.all_eq_true.mp hall _ (List.mem_of_getElem? hof2)
          simpa using this
        exact lv_tableIn hx hb hd h1 h2 hof (x_tgt ht2) (hJ _ _ _ _ _ _ _ (h.2 _ _ hof2 (by omega)) H locs lsA hH hz hS hl)
    · exact h.elim
  case getfield k => subst ho; exact x_s_gf E hT hK hd h
  case putfield k => subst ho; exact x_s_pf E hT hK hd h
  case getstatic k =>
    subst ho
    split at h
    · rename_i k0 hk0
      have hw : k0 < 5 ∧ Cond.fieldLink own k (x_kC k0) (x_kN k0) "[I" ∈ x_tbl := by
        simp only [x_okT, Bool.and_eq_true, List.all_eq_true] at hT
        have := hT.1.1.2 _ (x_lk_mem hk0)
        simpa only [x_okS, Bool.and_eq_true, decide_eq_true_eq] using this
      intro H locs lsA hH hz hS hl
      exact va_gets hx hb (hCc k0 hw.1).2 hS hown (hts _ hw.2) (fun _ h => h) hd (hK _ _ _ _ _ _ h H locs lsA hH hz hS hl)
    · exact h.elim
  case iaload => subst ho; exact x_s_ald E false hK hd h
  case baload => subst ho; exact x_s_ald E true hK hd h
  case aaload => subst ho; exact x_s_rld E hK hd h
  case iastore => subst ho; exact x_s_ast E false hK hd h
  case bastore => subst ho; exact x_s_ast E true hK hd h
  case arraylength => subst ho; exact x_s_aln E hK hd h
  case newarray t => subst ho; exact x_s_nwa E hR hK hd h
  case new k => subst ho; exact x_s_nwo E hT hR hK hd h
  case multianewarray k d => obtain ⟨rfl, rfl⟩ := ho; exact x_s_mna E hT hR hK hd h
  case invokestatic k => subst ho; exact x_s_inv E hR hC rfl hK hd h
  case invokevirtual k => subst ho; exact x_s_inv E hR hC rfl hK hd h
  case invokespecial k => subst ho; exact x_s_inv E hR hC rfl hK hd h
  case ireturn => subst ho; exact hZ _ _ _ _ _ _ _ _ hd h
  case areturn => subst ho; exact hZ _ _ _ _ _ _ _ _ hd h
  case return_ => subst ho; exact hZ _ _ _ _ _ _ _ _ hd h
/-- a stretch -/
theorem x_wp_ok (E : x_Env p l e R s m args below meth c cc own nL G X) (hT : x_okT own X = true) (hR : R.cells = X.2.2.2.2.2.1.1 ∧ R.slots = X.2.2.2.2.2.1.2) (hC : ∀ q ∈ X.2.2.2.2.1, x_Cal l R cc own nL q.1 q.2)
    {Z : Instr → List x_V → List x_S → x_M → Nat → Nat → Prop} (hZ : ∀ i pc ls st S M cs sl, decode cc pc = .ok (i, 1) → Z i st S M cs sl → x_Y p l e R s m args below meth c nL G Q pc ls st S M cs sl) {J : x_J}
    (hJ : ∀ pc ls st S M cs sl, J pc ls st S M cs sl → x_Y p l e R s m args below meth c nL G Q pc ls st S M cs sl) :
    ∀ (co : List (Instr × Nat)) (pc0 : Nat), x_okc cc nL pc0 co = true → ∀ ls st S M cs sl, x_wp X Z J co pc0 ls st S M cs sl → x_Y p l e R s m args below meth c nL G Q pc0 ls st S M cs sl
  | [], pc0, _, ls, st, S, M, cs, sl, h => hJ _ _ _ _ _ _ _ h
  | (i, n) :: co, pc0, ho, ls, st, S, M, cs, sl, h => by
    simp only [x_okc, Bool.and_eq_true, decide_eq_true_eq] at ho
    have ih := x_wp_ok E hT hR hC hZ hJ co (pc0 + n) ho.2
    exact x_op_ok E hT hR hC hZ (K := x_wp X Z J co) (J := J) hJ (fun ls st S M cs sl h => ih ls st S M cs sl h) ho.1.1 ho.1.2 h
end XM
