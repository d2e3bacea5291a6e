/-! THE STEPS, BY ROWS: a goal 'x_wp .. (i :: c) ..' out of the goal behind i -/
section XT
variable {X : x_X} {Z : Instr → List x_V → List x_S → x_M → Nat → Nat → Prop} {J : x_J} {c : List (Instr × Nat)} {pc n : Nat} {ls st : List x_V} {S : List x_S} {M : x_M} {cs sl : Nat}
theorem xt_ic {k : Nat} (h : x_wp X Z J c (pc + n) ls (.inl (nI (OfNat.ofNat k)) :: st) S M cs sl) : x_wp X Z J ((.iconst (@OfNat.ofNat Int k instOfNat), n) :: c) pc ls st S M cs sl := by
  have e : x_q (@OfNat.ofNat Int k instOfNat) = nI (OfNat.ofNat k) := by
    show x_q (Int.ofNat k) = nI k
    simp [x_q]
  show x_wp X Z J c (pc + n) ls (.inl (x_q (@OfNat.ofNat Int k instOfNat)) :: st) S M cs sl
  rw [e]; exact h
theorem xt_bi {k : Nat} (h : x_wp X Z J c (pc + n) ls (.inl (nI (OfNat.ofNat k)) :: st) S M cs sl) : x_wp X Z J ((.bipush (@OfNat.ofNat Int k instOfNat), n) :: c) pc ls st S M cs sl := xt_ic h
theorem xt_si {k : Nat} (h : x_wp X Z J c (pc + n) ls (.inl (nI (OfNat.ofNat k)) :: st) S M cs sl) : x_wp X Z J ((.sipush (@OfNat.ofNat Int k instOfNat), n) :: c) pc ls st S M cs sl := xt_ic h
theorem x_q_neg {k : Nat} (hk : 0 < k) : x_q (-(@OfNat.ofNat Int k instOfNat)) = -(nI (OfNat.ofNat k)) := by
  have h0 : ¬ (0 : Int) ≤ -(Int.ofNat k) := by
    simp; omega
  show (if (0 : Int) ≤ -(Int.ofNat k) then nI (-(Int.ofNat k)).toNat else -(nI (- -(Int.ofNat k)).toNat)) = -(nI k)
  rw [if_neg h0]
  simp
theorem xt_icm {k : Nat} (hk : Nat.blt 0 k = true) (h : x_wp X Z J c (pc + n) ls (.inl (-(nI (OfNat.ofNat k))) :: st) S M cs sl) : x_wp X Z J ((.iconst (-(@OfNat.ofNat Int k instOfNat)), n) :: c) pc ls st S M cs sl := by
  show x_wp X Z J c (pc + n) ls (.inl (x_q (-(@OfNat.ofNat Int k instOfNat))) :: st) S M cs sl
  rw [x_q_neg (Nat.blt_eq.mp hk)]; exact h
theorem xt_bim {k : Nat} (hk : Nat.blt 0 k = true) (h : x_wp X Z J c (pc + n) ls (.inl (-(nI (OfNat.ofNat k))) :: st) S M cs sl) : x_wp X Z J ((.bipush (-(@OfNat.ofNat Int k instOfNat)), n) :: c) pc ls st S M cs sl := xt_icm hk h
theorem xt_ldc {k : Nat} {v : Int32} (e : x_lk X.2.2.1 k = some v) (h : x_wp X Z J c (pc + n) ls (.inl v :: st) S M cs sl) : x_wp X Z J ((.ldc k, n) :: c) pc ls st S M cs sl := by
  show (match x_lk X.2.2.1 k with | some v => x_wp X Z J c (pc + n) ls (.inl v :: st) S M cs sl | none => False)
  rw [e]; exact h
theorem xt_ldw {k : Nat} {v : Int32} (e : x_lk X.2.2.1 k = some v) (h : x_wp X Z J c (pc + n) ls (.inl v :: st) S M cs sl) : x_wp X Z J ((.ldc_w k, n) :: c) pc ls st S M cs sl := xt_ldc e h
theorem xt_ild {k : Nat} {x : Int32} (e : ls[k]? = some (.inl x)) (h : x_wp X Z J c (pc + n) ls (.inl x :: st) S M cs sl) : x_wp X Z J ((.iload k, n) :: c) pc ls st S M cs sl := by
  show x_ldi ls k (fun v => x_wp X Z J c (pc + n) ls (v :: st) S M cs sl)
  unfold x_ldi
  rw [e]; exact h
theorem xt_ald {k : Nat} {r : Nat} (e : ls[k]? = some (.inr (.inl r))) (hr : r < 1000) (h : x_wp X Z J c (pc + n) ls (.inr (.inl r) :: st) S M cs sl) : x_wp X Z J ((.aload k, n) :: c) pc ls st S M cs sl := by
  show x_lda ls k (fun v => x_wp X Z J c (pc + n) ls (v :: st) S M cs sl)
  unfold x_lda
  rw [e]; exact ⟨hr, h⟩
theorem xt_ist {k : Nat} {x : Int32} {ls' : List x_V} (e : Nat.ble k ls.length = true) (e2 : x_sto ls k (.inl x) = ls') (h : x_wp X Z J c (pc + n) ls' st S M cs sl) : x_wp X Z J ((.istore k, n) :: c) pc ls (.inl x :: st) S M cs sl := by subst e2; exact ⟨Nat.le_of_ble_eq_true e, h⟩
theorem xt_ast {k : Nat} {r : Nat} {ls' : List x_V} (e : Nat.ble k ls.length = true) (hr : r < 1000) (e2 : x_sto ls k (.inr (.inl r)) = ls') (h : x_wp X Z J c (pc + n) ls' st S M cs sl) : x_wp X Z J ((.astore k, n) :: c) pc ls (.inr (.inl r) :: st) S M cs sl := by subst e2; exact ⟨Nat.le_of_ble_eq_true e, hr, h⟩
theorem xt_iln0 {x : Int32} (e : ls[0]? = some (.inl x)) (h : x_wp X Z J c (pc + n) ls (.inl x :: st) S M cs sl) : x_wp X Z J ((.iload_n 0, n) :: c) pc ls st S M cs sl := xt_ild (k := 0) e h
theorem xt_aln0 {r : Nat} (e : ls[0]? = some (.inr (.inl r))) (hr : r < 1000) (h : x_wp X Z J c (pc + n) ls (.inr (.inl r) :: st) S M cs sl) : x_wp X Z J ((.aload_n 0, n) :: c) pc ls st S M cs sl := xt_ald (k := 0) e hr h
theorem xt_isn0 {x : Int32} {ls' : List x_V} (e : Nat.ble 0 ls.length = true) (e2 : x_sto ls 0 (.inl x) = ls') (h : x_wp X Z J c (pc + n) ls' st S M cs sl) : x_wp X Z J ((.istore_n 0, n) :: c) pc ls (.inl x :: st) S M cs sl := xt_ist (k := 0) e e2 h
theorem xt_asn0 {r : Nat} {ls' : List x_V} (e : Nat.ble 0 ls.length = true) (hr : r < 1000) (e2 : x_sto ls 0 (.inr (.inl r)) = ls') (h : x_wp X Z J c (pc + n) ls' st S M cs sl) : x_wp X Z J ((.astore_n 0, n) :: c) pc ls (.inr (.inl r) :: st) S M cs sl := xt_ast (k := 0) e hr e2 h
theorem xt_iln1 {x : Int32} (e : ls[1]? = some (.inl x)) (h : x_wp X Z J c (pc + n) ls (.inl x :: st) S M cs sl) : x_wp X Z J ((.iload_n 1, n) :: c) pc ls st S M cs sl := xt_ild (k := 1) e h
theorem xt_aln1 {r : Nat} (e : ls[1]? = some (.inr (.inl r))) (hr : r < 1000) (h : x_wp X Z J c (pc + n) ls (.inr (.inl r) :: st) S M cs sl) : x_wp X Z J ((.aload_n 1, n) :: c) pc ls st S M cs sl := xt_ald (k := 1) e hr h
theorem xt_isn1 {x : Int32} {ls' : List x_V} (e : Nat.ble 1 ls.length = true) (e2 : x_sto ls 1 (.inl x) = ls') (h : x_wp X Z J c (pc + n) ls' st S M cs sl) : x_wp X Z J ((.istore_n 1, n) :: c) pc ls (.inl x :: st) S M cs sl := xt_ist (k := 1) e e2 h
theorem xt_asn1 {r : Nat} {ls' : List x_V} (e : Nat.ble 1 ls.length = true) (hr : r < 1000) (e2 : x_sto ls 1 (.inr (.inl r)) = ls') (h : x_wp X Z J c (pc + n) ls' st S M cs sl) : x_wp X Z J ((.astore_n 1, n) :: c) pc ls (.inr (.inl r) :: st) S M cs sl := xt_ast (k := 1) e hr e2 h
theorem xt_iln2 {x : Int32} (e : ls[2]? = some (.inl x)) (h : x_wp X Z J c (pc + n) ls (.inl x :: st) S M cs sl) : x_wp X Z J ((.iload_n 2, n) :: c) pc ls st S M cs sl := xt_ild (k := 2) e h
theorem xt_aln2 {r : Nat} (e : ls[2]? = some (.inr (.inl r))) (hr : r < 1000) (h : x_wp X Z J c (pc + n) ls (.inr (.inl r) :: st) S M cs sl) : x_wp X Z J ((.aload_n 2, n) :: c) pc ls st S M cs sl := xt_ald (k := 2) e hr h
theorem xt_isn2 {x : Int32} {ls' : List x_V} (e : Nat.ble 2 ls.length = true) (e2 : x_sto ls 2 (.inl x) = ls') (h : x_wp X Z J c (pc + n) ls' st S M cs sl) : x_wp X Z J ((.istore_n 2, n) :: c) pc ls (.inl x :: st) S M cs sl := xt_ist (k := 2) e e2 h
theorem xt_asn2 {r : Nat} {ls' : List x_V} (e : Nat.ble 2 ls.length = true) (hr : r < 1000) (e2 : x_sto ls 2 (.inr (.inl r)) = ls') (h : x_wp X Z J c (pc + n) ls' st S M cs sl) : x_wp X Z J ((.astore_n 2, n) :: c) pc ls (.inr (.inl r) :: st) S M cs sl := xt_ast (k := 2) e hr e2 h
theorem xt_iln3 {x : Int32} (e : ls[3]? = some (.inl x)) (h : x_wp X Z J c (pc + n) ls (.inl x :: st) S M cs sl) : x_wp X Z J ((.iload_n 3, n) :: c) pc ls st S M cs sl := xt_ild (k := 3) e h
theorem xt_aln3 {r : Nat} (e : ls[3]? = some (.inr (.inl r))) (hr : r < 1000) (h : x_wp X Z J c (pc + n) ls (.inr (.inl r) :: st) S M cs sl) : x_wp X Z J ((.aload_n 3, n) :: c) pc ls st S M cs sl := xt_ald (k := 3) e hr h
theorem xt_isn3 {x : Int32} {ls' : List x_V} (e : Nat.ble 3 ls.length = true) (e2 : x_sto ls 3 (.inl x) = ls') (h : x_wp X Z J c (pc + n) ls' st S M cs sl) : x_wp X Z J ((.istore_n 3, n) :: c) pc ls (.inl x :: st) S M cs sl := xt_ist (k := 3) e e2 h
theorem xt_asn3 {r : Nat} {ls' : List x_V} (e : Nat.ble 3 ls.length = true) (hr : r < 1000) (e2 : x_sto ls 3 (.inr (.inl r)) = ls') (h : x_wp X Z J c (pc + n) ls' st S M cs sl) : x_wp X Z J ((.astore_n 3, n) :: c) pc ls (.inr (.inl r) :: st) S M cs sl := xt_ast (k := 3) e hr e2 h
theorem xt_acn0 {r : Nat} (e : ls[0]? = some (.inr (.inr r))) (h : x_wp X Z J c (pc + n) ls (.inr (.inr r) :: st) S M cs sl) : x_wp X Z J ((.aload_n 0, n) :: c) pc ls st S M cs sl := by
  show x_lda ls 0 (fun v => x_wp X Z J c (pc + n) ls (v :: st) S M cs sl)
  unfold x_lda
  rw [e]; exact h
theorem xt_inc {k d : Nat} {x : Int32} {ls' : List x_V} (e : ls[k]? = some (.inl x)) (e3 : x_sto ls k (.inl (x + nI (OfNat.ofNat d))) = ls') (h : x_wp X Z J c (pc + n) ls' st S M cs sl) : x_wp X Z J ((.iinc k (@OfNat.ofNat Int d instOfNat), n) :: c) pc ls st S M cs sl := by
  subst e3
  show x_inc ls k (@OfNat.ofNat Int d instOfNat) (fun ls => x_wp X Z J c (pc + n) ls st S M cs sl)
  unfold x_inc
  rw [e]
  have e2 : x_q (@OfNat.ofNat Int d instOfNat) = nI (OfNat.ofNat d) := by
    show x_q (Int.ofNat d) = nI d
    simp [x_q]
  rw [e2]; exact h
theorem xt_dec {k d : Nat} {x : Int32} {ls' : List x_V} (hk : Nat.blt 0 d = true) (e : ls[k]? = some (.inl x)) (e3 : x_sto ls k (.inl (x + -(nI (OfNat.ofNat d)))) = ls') (h : x_wp X Z J c (pc + n) ls' st S M cs sl) : x_wp X Z J ((.iinc k (-(@OfNat.ofNat Int d instOfNat)), n) :: c) pc ls st S M cs sl := by
  subst e3
  show x_inc ls k (-(@OfNat.ofNat Int d instOfNat)) (fun ls => x_wp X Z J c (pc + n) ls st S M cs sl)
  unfold x_inc
  rw [e, x_q_neg (Nat.blt_eq.mp hk)]; exact h
theorem xt_add {a b : Int32} (h : x_wp X Z J c (pc + n) ls (.inl (a + b) :: st) S M cs sl) : x_wp X Z J ((.iadd, n) :: c) pc ls (.inl b :: .inl a :: st) S M cs sl := h
theorem xt_sub {a b : Int32} (h : x_wp X Z J c (pc + n) ls (.inl (a - b) :: st) S M cs sl) : x_wp X Z J ((.isub, n) :: c) pc ls (.inl b :: .inl a :: st) S M cs sl := h
theorem xt_mul {a b : Int32} (h : x_wp X Z J c (pc + n) ls (.inl (a * b) :: st) S M cs sl) : x_wp X Z J ((.imul, n) :: c) pc ls (.inl b :: .inl a :: st) S M cs sl := h
theorem xt_and {a b : Int32} (h : x_wp X Z J c (pc + n) ls (.inl (a &&& b) :: st) S M cs sl) : x_wp X Z J ((.iand, n) :: c) pc ls (.inl b :: .inl a :: st) S M cs sl := h
theorem xt_or {a b : Int32} (h : x_wp X Z J c (pc + n) ls (.inl (a ||| b) :: st) S M cs sl) : x_wp X Z J ((.ior, n) :: c) pc ls (.inl b :: .inl a :: st) S M cs sl := h
theorem xt_xor {a b : Int32} (h : x_wp X Z J c (pc + n) ls (.inl (a ^^^ b) :: st) S M cs sl) : x_wp X Z J ((.ixor, n) :: c) pc ls (.inl b :: .inl a :: st) S M cs sl := h
theorem xt_shl {a b : Int32} (h : x_wp X Z J c (pc + n) ls (.inl (a <<< (b &&& 31)) :: st) S M cs sl) : x_wp X Z J ((.ishl, n) :: c) pc ls (.inl b :: .inl a :: st) S M cs sl := h
theorem xt_shr {a b : Int32} (h : x_wp X Z J c (pc + n) ls (.inl (a >>> (b &&& 31)) :: st) S M cs sl) : x_wp X Z J ((.ishr, n) :: c) pc ls (.inl b :: .inl a :: st) S M cs sl := h
theorem xt_usr {a b : Int32} (h : x_wp X Z J c (pc + n) ls (.inl ((a.toUInt32 >>> (b.toUInt32 &&& Int32.toUInt32 31)).toInt32) :: st) S M cs sl) : x_wp X Z J ((.iushr, n) :: c) pc ls (.inl b :: .inl a :: st) S M cs sl := h
theorem xt_div {a b : Int32} (hb : ¬ b = 0) (h : x_wp X Z J c (pc + n) ls (.inl (a / b) :: st) S M cs sl) : x_wp X Z J ((.idiv, n) :: c) pc ls (.inl b :: .inl a :: st) S M cs sl := ⟨hb, h⟩
theorem xt_rem {a b : Int32} (hb : ¬ b = 0) (h : x_wp X Z J c (pc + n) ls (.inl (a - a / b * b) :: st) S M cs sl) : x_wp X Z J ((.irem, n) :: c) pc ls (.inl b :: .inl a :: st) S M cs sl := ⟨hb, h⟩
theorem xt_neg {a : Int32} (h : x_wp X Z J c (pc + n) ls (.inl (-a) :: st) S M cs sl) : x_wp X Z J ((.ineg, n) :: c) pc ls (.inl a :: st) S M cs sl := h
theorem xt_dup {a : x_V} (h : x_wp X Z J c (pc + n) ls (a :: a :: st) S M cs sl) : x_wp X Z J ((.dup, n) :: c) pc ls (a :: st) S M cs sl := h
theorem xt_dup2 {a b : x_V} (h : x_wp X Z J c (pc + n) ls (a :: b :: a :: b :: st) S M cs sl) : x_wp X Z J ((.dup2, n) :: c) pc ls (a :: b :: st) S M cs sl := h
theorem xt_goto {off : Int} {t : Nat} (e : x_tg pc off = t) (h : J t ls st S M cs sl) : x_wp X Z J ((.goto off, n) :: c) pc ls st S M cs sl := by subst e; exact h
theorem xt_nil {t : Nat} (e : pc = t) (h : J t ls st S M cs sl) : x_wp X Z J [] pc ls st S M cs sl := by subst e; exact h
theorem xt_eq {off : Int} {t : Nat} {x : Int32} (e : x_tg pc off = t) (h1 : x = 0 → J t ls st S M cs sl) (h2 : ¬ x = 0 → x_wp X Z J c (pc + n) ls st S M cs sl) : x_wp X Z J ((.ifCond .eq off, n) :: c) pc ls (.inl x :: st) S M cs sl := by subst e; exact ⟨h1, h2⟩
theorem xt_ne {off : Int} {t : Nat} {x : Int32} (e : x_tg pc off = t) (h1 : ¬ x = 0 → J t ls st S M cs sl) (h2 : x = 0 → x_wp X Z J c (pc + n) ls st S M cs sl) : x_wp X Z J ((.ifCond .ne off, n) :: c) pc ls (.inl x :: st) S M cs sl := by subst e; exact ⟨h1, h2⟩
theorem xt_lt {off : Int} {t : Nat} {x : Int32} (e : x_tg pc off = t) (h1 : x < 0 → J t ls st S M cs sl) (h2 : ¬ x < 0 → x_wp X Z J c (pc + n) ls st S M cs sl) : x_wp X Z J ((.ifCond .lt off, n) :: c) pc ls (.inl x :: st) S M cs sl := by subst e; exact ⟨h1, h2⟩
theorem xt_ge {off : Int} {t : Nat} {x : Int32} (e : x_tg pc off = t) (h1 : 0 ≤ x → J t ls st S M cs sl) (h2 : ¬ 0 ≤ x → x_wp X Z J c (pc + n) ls st S M cs sl) : x_wp X Z J ((.ifCond .ge off, n) :: c) pc ls (.inl x :: st) S M cs sl := by subst e; exact ⟨h1, h2⟩
theorem xt_gt {off : Int} {t : Nat} {x : Int32} (e : x_tg pc off = t) (h1 : 0 < x → J t ls st S M cs sl) (h2 : ¬ 0 < x → x_wp X Z J c (pc + n) ls st S M cs sl) : x_wp X Z J ((.ifCond .gt off, n) :: c) pc ls (.inl x :: st) S M cs sl := by subst e; exact ⟨h1, h2⟩
theorem xt_le {off : Int} {t : Nat} {x : Int32} (e : x_tg pc off = t) (h1 : x ≤ 0 → J t ls st S M cs sl) (h2 : ¬ x ≤ 0 → x_wp X Z J c (pc + n) ls st S M cs sl) : x_wp X Z J ((.ifCond .le off, n) :: c) pc ls (.inl x :: st) S M cs sl := by subst e; exact ⟨h1, h2⟩
theorem xt_ceq {off : Int} {t : Nat} {x y : Int32} (e : x_tg pc off = t) (h1 : x = y → J t ls st S M cs sl) (h2 : ¬ x = y → x_wp X Z J c (pc + n) ls st S M cs sl) : x_wp X Z J ((.if_icmp .eq off, n) :: c) pc ls (.inl y :: .inl x :: st) S M cs sl := by subst e; exact ⟨h1, h2⟩
theorem xt_cne {off : Int} {t : Nat} {x y : Int32} (e : x_tg pc off = t) (h1 : ¬ x = y → J t ls st S M cs sl) (h2 : x = y → x_wp X Z J c (pc + n) ls st S M cs sl) : x_wp X Z J ((.if_icmp .ne off, n) :: c) pc ls (.inl y :: .inl x :: st) S M cs sl := by subst e; exact ⟨h1, h2⟩
theorem xt_clt {off : Int} {t : Nat} {x y : Int32} (e : x_tg pc off = t) (h1 : x < y → J t ls st S M cs sl) (h2 : ¬ x < y → x_wp X Z J c (pc + n) ls st S M cs sl) : x_wp X Z J ((.if_icmp .lt off, n) :: c) pc ls (.inl y :: .inl x :: st) S M cs sl := by subst e; exact ⟨h1, h2⟩
theorem xt_cge {off : Int} {t : Nat} {x y : Int32} (e : x_tg pc off = t) (h1 : y ≤ x → J t ls st S M cs sl) (h2 : ¬ y ≤ x → x_wp X Z J c (pc + n) ls st S M cs sl) : x_wp X Z J ((.if_icmp .ge off, n) :: c) pc ls (.inl y :: .inl x :: st) S M cs sl := by subst e; exact ⟨h1, h2⟩
theorem xt_cgt {off : Int} {t : Nat} {x y : Int32} (e : x_tg pc off = t) (h1 : y < x → J t ls st S M cs sl) (h2 : ¬ y < x → x_wp X Z J c (pc + n) ls st S M cs sl) : x_wp X Z J ((.if_icmp .gt off, n) :: c) pc ls (.inl y :: .inl x :: st) S M cs sl := by subst e; exact ⟨h1, h2⟩
theorem xt_cle {off : Int} {t : Nat} {x y : Int32} (e : x_tg pc off = t) (h1 : x ≤ y → J t ls st S M cs sl) (h2 : ¬ x ≤ y → x_wp X Z J c (pc + n) ls st S M cs sl) : x_wp X Z J ((.if_icmp .le off, n) :: c) pc ls (.inl y :: .inl x :: st) S M cs sl := by subst e; exact ⟨h1, h2⟩
theorem xt_gf {k : Nat} {q : Nat × Nat} {fs : List (Option Nat)} {f : Option Nat} {p : Nat} {v : x_V} (e : x_lk X.1 k = some q) (h1 : S[p]? = some (.inl (q.1, fs))) (h2 : fs[q.2]? = some f) (h3 : x_fd S M p q.2 = v) (h : x_wp X Z J c (pc + n) ls (v :: st) S M cs sl) : x_wp X Z J ((.getfield k, n) :: c) pc ls (.inr (.inl p) :: st) S M cs sl := by
  subst h3
  show x_gf (x_lk X.1 k) S M (fun st => x_wp X Z J c (pc + n) ls st S M cs sl) (.inr (.inl p) :: st)
  rw [e]; exact ⟨⟨fs, f, h1, h2⟩, h⟩
theorem xt_pfi {k : Nat} {q : Nat × Nat} {fs : List (Option Nat)} {p : Nat} {x : Int32} (e : x_lk X.1 k = some q) (h1 : S[p]? = some (.inl (q.1, fs))) (h2 : fs[q.2]? = some none) (h3 : x_fi q.1 q.2 = false ∨ X.2.2.2.2.2.2.2.2.2 = true) (h4 : x_ty q.1 q.2 = .int ∨ (x_ty q.1 q.2 = .boolean ∧ (x = 0 ∨ x = 1))) (h : x_wp X Z J c (pc + n) ls st S (x_row M p (upd (M p) q.2 x)) cs sl) : x_wp X Z J ((.putfield k, n) :: c) pc ls (.inl x :: .inr (.inl p) :: st) S M cs sl := by
  show x_pf (x_lk X.1 k) X.2.2.2.2.2.2.2.2.2 S M (fun st S M => x_wp X Z J c (pc + n) ls st S M cs sl) (.inl x :: .inr (.inl p) :: st)
  rw [e]; exact ⟨⟨fs, h1, h2⟩, h3, h4, h⟩
theorem xt_pfr {k : Nat} {q : Nat × Nat} {fs : List (Option Nat)} {p r r0 : Nat} {S' : List x_S} (e : x_lk X.1 k = some q) (h1 : S[p]? = some (.inl (q.1, fs))) (h2 : fs[q.2]? = some (some r0)) (hr : r < 1000) (h3 : x_fi q.1 q.2 = false ∨ X.2.2.2.2.2.2.2.2.2 = true) (h4 : defaultValue (x_ty q.1 q.2) = .null) (h5 : x_sf S p q.2 r = S') (h : x_wp X Z J c (pc + n) ls st S' M cs sl) : x_wp X Z J ((.putfield k, n) :: c) pc ls (.inr (.inl r) :: .inr (.inl p) :: st) S M cs sl := by
  subst h5
  show x_pf (x_lk X.1 k) X.2.2.2.2.2.2.2.2.2 S M (fun st S M => x_wp X Z J c (pc + n) ls st S M cs sl) (.inr (.inl r) :: .inr (.inl p) :: st)
  rw [e]; exact ⟨⟨fs, r0, h1, h2⟩, hr, h3, h4, h⟩
theorem xt_gs {k q : Nat} (e : x_lk X.2.1 k = some q) (h : x_wp X Z J c (pc + n) ls (.inr (.inr q) :: st) S M cs sl) : x_wp X Z J ((.getstatic k, n) :: c) pc ls st S M cs sl := by
  show (match x_lk X.2.1 k with | some q => x_wp X Z J c (pc + n) ls (.inr (.inr q) :: st) S M cs sl | none => False)
  rw [e]; exact h
theorem xt_ial {i : Int32} {p m : Nat} (h1 : S[p]? = some (.inr (.inl (false, m)))) (h2 : vp_in i m) (h : x_wp X Z J c (pc + n) ls (.inl (M p i.toNatClampNeg) :: st) S M cs sl) : x_wp X Z J ((.iaload, n) :: c) pc ls (.inl i :: .inr (.inl p) :: st) S M cs sl := ⟨⟨m, h1, h2⟩, h⟩
theorem xt_bal {i : Int32} {p m : Nat} (h1 : S[p]? = some (.inr (.inl (true, m)))) (h2 : vp_in i m) (h : x_wp X Z J c (pc + n) ls (.inl (M p i.toNatClampNeg) :: st) S M cs sl) : x_wp X Z J ((.baload, n) :: c) pc ls (.inl i :: .inr (.inl p) :: st) S M cs sl := ⟨⟨m, h1, h2⟩, h⟩
theorem xt_kal {i : Int32} {p : Nat} (h1 : Nat.blt p X.2.2.2.2.2.2.2.2.1 = true) (h2 : vp_in i (X.2.2.2.2.2.2.1 p)) (h : x_wp X Z J c (pc + n) ls (.inl (X.2.2.2.2.2.2.2.1 p i.toNatClampNeg) :: st) S M cs sl) : x_wp X Z J ((.iaload, n) :: c) pc ls (.inl i :: .inr (.inr p) :: st) S M cs sl := ⟨rfl, Nat.blt_eq.mp h1, h2, h⟩
theorem xt_ral {i : Int32} {p r : Nat} {g : List Nat} (h1 : S[p]? = some (.inr (.inr g))) (h2 : vp_in i g.length) (h3 : g.getD i.toNatClampNeg 0 = r) (h4 : r < 1000) (h : x_wp X Z J c (pc + n) ls (.inr (.inl r) :: st) S M cs sl) : x_wp X Z J ((.aaload, n) :: c) pc ls (.inl i :: .inr (.inl p) :: st) S M cs sl := by
  subst h3
  refine ⟨⟨g, h1, h2, h4⟩, ?_⟩
  have e : x_el S p i.toNatClampNeg = g.getD i.toNatClampNeg 0 := by unfold x_el; rw [h1]
  rw [e]; exact h
theorem xt_ias {i x : Int32} {p m : Nat} (h1 : S[p]? = some (.inr (.inl (false, m)))) (h2 : vp_in i m) (h : x_wp X Z J c (pc + n) ls st S (x_row M p (upd (M p) i.toNatClampNeg x)) cs sl) : x_wp X Z J ((.iastore, n) :: c) pc ls (.inl x :: .inl i :: .inr (.inl p) :: st) S M cs sl := ⟨⟨m, h1, h2⟩, fun e => (by cases e), h⟩
theorem xt_bas {i x : Int32} {p m : Nat} (h1 : S[p]? = some (.inr (.inl (true, m)))) (h2 : vp_in i m) (h3 : x = 0 ∨ x = 1) (h : x_wp X Z J c (pc + n) ls st S (x_row M p (upd (M p) i.toNatClampNeg x)) cs sl) : x_wp X Z J ((.bastore, n) :: c) pc ls (.inl x :: .inl i :: .inr (.inl p) :: st) S M cs sl := ⟨⟨m, h1, h2⟩, fun _ => h3, h⟩
theorem xt_len {p m : Nat} {b : Bool} (h1 : S[p]? = some (.inr (.inl (b, m)))) (h : x_wp X Z J c (pc + n) ls (.inl (nI m) :: st) S M cs sl) : x_wp X Z J ((.arraylength, n) :: c) pc ls (.inr (.inl p) :: st) S M cs sl := by
  refine ⟨⟨_, h1⟩, ?_⟩
  have e : x_ln S p = m := by unfold x_ln; rw [h1]
  rw [e]; exact h
theorem xt_lek {p : Nat} (h1 : Nat.blt p X.2.2.2.2.2.2.2.2.1 = true) (h : x_wp X Z J c (pc + n) ls (.inl (nI (X.2.2.2.2.2.2.1 p)) :: st) S M cs sl) : x_wp X Z J ((.arraylength, n) :: c) pc ls (.inr (.inr p) :: st) S M cs sl := ⟨Nat.blt_eq.mp h1, h⟩
theorem xt_inv {i : Instr} {key : Nat} {q : x_K} (hi : x_key i = some key) (e : x_lk X.2.2.2.2.1 key = some q) (h1 : Nat.ble q.1 st.length = true) (h2 : Nat.ble (st.length - q.1) 8 = true) (h3 : cs + q.2.2.2.1 ≤ X.2.2.2.2.2.1.1) (h4 : sl + q.2.2.2.2 ≤ X.2.2.2.2.2.1.2) (h5 : q.2.1 (st.take q.1).reverse S M)
    (h : ∀ (r : Option x_V) (S' : List x_S) (M' : x_M), q.2.2.1 (st.take q.1).reverse S M r S' M' → x_wp X Z J c (pc + n) ls (r.toList ++ st.drop q.1) S' M' (cs + q.2.2.2.1) (sl + q.2.2.2.2)) : x_wp X Z J ((i, n) :: c) pc ls st S M cs sl := by
  have key2 : x_inv (x_lk X.2.2.2.2.1 key) X S M cs sl st (fun st S M cs sl => x_wp X Z J c (pc + n) ls st S M cs sl) := by
    rw [e]
    exact ⟨⟨Nat.le_of_ble_eq_true h1, Nat.le_of_ble_eq_true h2, h3, h4⟩, h5, h⟩
  unfold x_key at hi
  split at hi <;> first | (cases hi; exact key2) | (cases hi; done)
theorem xt_ret {i : Instr} (hi : i = .ireturn ∨ i = .areturn ∨ i = .return_) (h : Z i st S M cs sl) : x_wp X Z J ((i, n) :: c) pc ls st S M cs sl := by
  rcases hi with rfl | rfl | rfl <;> exact h
theorem xt_gfi {k : Nat} {q : Nat × Nat} {fs : List (Option Nat)} {p : Nat} (e : x_lk X.1 k = some q) (h1 : S[p]? = some (.inl (q.1, fs))) (h2 : fs[q.2]? = some none) (h : x_wp X Z J c (pc + n) ls (.inl (M p q.2) :: st) S M cs sl) : x_wp X Z J ((.getfield k, n) :: c) pc ls (.inr (.inl p) :: st) S M cs sl :=
  xt_gf e h1 h2 (by unfold x_fd; rw [h1]; dsimp only; rw [h2]) h
theorem xt_gfr {k : Nat} {q : Nat × Nat} {fs : List (Option Nat)} {p r : Nat} (e : x_lk X.1 k = some q) (h1 : S[p]? = some (.inl (q.1, fs))) (h2 : fs[q.2]? = some (some r)) (h : x_wp X Z J c (pc + n) ls (.inr (.inl r) :: st) S M cs sl) : x_wp X Z J ((.getfield k, n) :: c) pc ls (.inr (.inl p) :: st) S M cs sl :=
  xt_gf e h1 h2 (by unfold x_fd; rw [h1]; dsimp only; rw [h2]) h
theorem xt_v0 {i : Instr} {key : Nat} {q : x_K} (hi : x_key i = some key) (e : x_lk X.2.2.2.2.1 key = some q) (h1 : q.1 = 0) (h2 : Nat.ble st.length 8 = true) (h3 : q.2.2.2 = (0, 0)) (h4 : cs ≤ X.2.2.2.2.2.1.1 ∧ sl ≤ X.2.2.2.2.2.1.2) (h5 : q.2.1 [] S M)
    (h : ∀ (r : Option x_V) (S' : List x_S) (M' : x_M), q.2.2.1 [] S M r S' M' → x_wp X Z J c (pc + n) ls (r.toList ++ st) S' M' cs sl) : x_wp X Z J ((i, n) :: c) pc ls (st) S M cs sl := by
  obtain ⟨q1, q2, q3, q4⟩ := q
  cases h3
  cases h1
  have hle := Nat.le_of_ble_eq_true h2
  exact xt_inv hi e (Nat.ble_eq.mpr (by simp)) (Nat.ble_eq.mpr (by simp; omega)) h4.1 h4.2 (by simpa using h5) (by simpa using h)
theorem xt_v1 {i : Instr} {key : Nat} {q : x_K} {a1 : x_V} (hi : x_key i = some key) (e : x_lk X.2.2.2.2.1 key = some q) (h1 : q.1 = 1) (h2 : Nat.ble st.length 8 = true) (h3 : q.2.2.2 = (0, 0)) (h4 : cs ≤ X.2.2.2.2.2.1.1 ∧ sl ≤ X.2.2.2.2.2.1.2) (h5 : q.2.1 [a1] S M)
    (h : ∀ (r : Option x_V) (S' : List x_S) (M' : x_M), q.2.2.1 [a1] S M r S' M' → x_wp X Z J c (pc + n) ls (r.toList ++ st) S' M' cs sl) : x_wp X Z J ((i, n) :: c) pc ls (a1 :: st) S M cs sl := by
  obtain ⟨q1, q2, q3, q4⟩ := q
  cases h3
  cases h1
  have hle := Nat.le_of_ble_eq_true h2
  exact xt_inv hi e (Nat.ble_eq.mpr (by simp)) (Nat.ble_eq.mpr (by simp; omega)) h4.1 h4.2 (by simpa using h5) (by simpa using h)
theorem xt_v2 {i : Instr} {key : Nat} {q : x_K} {a1 a2 : x_V} (hi : x_key i = some key) (e : x_lk X.2.2.2.2.1 key = some q) (h1 : q.1 = 2) (h2 : Nat.ble st.length 8 = true) (h3 : q.2.2.2 = (0, 0)) (h4 : cs ≤ X.2.2.2.2.2.1.1 ∧ sl ≤ X.2.2.2.2.2.1.2) (h5 : q.2.1 [a1, a2] S M)
    (h : ∀ (r : Option x_V) (S' : List x_S) (M' : x_M), q.2.2.1 [a1, a2] S M r S' M' → x_wp X Z J c (pc + n) ls (r.toList ++ st) S' M' cs sl) : x_wp X Z J ((i, n) :: c) pc ls (a2 :: a1 :: st) S M cs sl := by
  obtain ⟨q1, q2, q3, q4⟩ := q
  cases h3
  cases h1
  have hle := Nat.le_of_ble_eq_true h2
  exact xt_inv hi e (Nat.ble_eq.mpr (by simp)) (Nat.ble_eq.mpr (by simp; omega)) h4.1 h4.2 (by simpa using h5) (by simpa using h)
theorem xt_v3 {i : Instr} {key : Nat} {q : x_K} {a1 a2 a3 : x_V} (hi : x_key i = some key) (e : x_lk X.2.2.2.2.1 key = some q) (h1 : q.1 = 3) (h2 : Nat.ble st.length 8 = true) (h3 : q.2.2.2 = (0, 0)) (h4 : cs ≤ X.2.2.2.2.2.1.1 ∧ sl ≤ X.2.2.2.2.2.1.2) (h5 : q.2.1 [a1, a2, a3] S M)
    (h : ∀ (r : Option x_V) (S' : List x_S) (M' : x_M), q.2.2.1 [a1, a2, a3] S M r S' M' → x_wp X Z J c (pc + n) ls (r.toList ++ st) S' M' cs sl) : x_wp X Z J ((i, n) :: c) pc ls (a3 :: a2 :: a1 :: st) S M cs sl := by
  obtain ⟨q1, q2, q3, q4⟩ := q
  cases h3
  cases h1
  have hle := Nat.le_of_ble_eq_true h2
  exact xt_inv hi e (Nat.ble_eq.mpr (by simp)) (Nat.ble_eq.mpr (by simp; omega)) h4.1 h4.2 (by simpa using h5) (by simpa using h)
theorem xt_v4 {i : Instr} {key : Nat} {q : x_K} {a1 a2 a3 a4 : x_V} (hi : x_key i = some key) (e : x_lk X.2.2.2.2.1 key = some q) (h1 : q.1 = 4) (h2 : Nat.ble st.length 8 = true) (h3 : q.2.2.2 = (0, 0)) (h4 : cs ≤ X.2.2.2.2.2.1.1 ∧ sl ≤ X.2.2.2.2.2.1.2) (h5 : q.2.1 [a1, a2, a3, a4] S M)
    (h : ∀ (r : Option x_V) (S' : List x_S) (M' : x_M), q.2.2.1 [a1, a2, a3, a4] S M r S' M' → x_wp X Z J c (pc + n) ls (r.toList ++ st) S' M' cs sl) : x_wp X Z J ((i, n) :: c) pc ls (a4 :: a3 :: a2 :: a1 :: st) S M cs sl := by
  obtain ⟨q1, q2, q3, q4⟩ := q
  cases h3
  cases h1
  have hle := Nat.le_of_ble_eq_true h2
  exact xt_inv hi e (Nat.ble_eq.mpr (by simp)) (Nat.ble_eq.mpr (by simp; omega)) h4.1 h4.2 (by simpa using h5) (by simpa using h)
theorem xt_v5 {i : Instr} {key : Nat} {q : x_K} {a1 a2 a3 a4 a5 : x_V} (hi : x_key i = some key) (e : x_lk X.2.2.2.2.1 key = some q) (h1 : q.1 = 5) (h2 : Nat.ble st.length 8 = true) (h3 : q.2.2.2 = (0, 0)) (h4 : cs ≤ X.2.2.2.2.2.1.1 ∧ sl ≤ X.2.2.2.2.2.1.2) (h5 : q.2.1 [a1, a2, a3, a4, a5] S M)
    (h : ∀ (r : Option x_V) (S' : List x_S) (M' : x_M), q.2.2.1 [a1, a2, a3, a4, a5] S M r S' M' → x_wp X Z J c (pc + n) ls (r.toList ++ st) S' M' cs sl) : x_wp X Z J ((i, n) :: c) pc ls (a5 :: a4 :: a3 :: a2 :: a1 :: st) S M cs sl := by
  obtain ⟨q1, q2, q3, q4⟩ := q
  cases h3
  cases h1
  have hle := Nat.le_of_ble_eq_true h2
  exact xt_inv hi e (Nat.ble_eq.mpr (by simp)) (Nat.ble_eq.mpr (by simp; omega)) h4.1 h4.2 (by simpa using h5) (by simpa using h)
theorem xt_v6 {i : Instr} {key : Nat} {q : x_K} {a1 a2 a3 a4 a5 a6 : x_V} (hi : x_key i = some key) (e : x_lk X.2.2.2.2.1 key = some q) (h1 : q.1 = 6) (h2 : Nat.ble st.length 8 = true) (h3 : q.2.2.2 = (0, 0)) (h4 : cs ≤ X.2.2.2.2.2.1.1 ∧ sl ≤ X.2.2.2.2.2.1.2) (h5 : q.2.1 [a1, a2, a3, a4, a5, a6] S M)
    (h : ∀ (r : Option x_V) (S' : List x_S) (M' : x_M), q.2.2.1 [a1, a2, a3, a4, a5, a6] S M r S' M' → x_wp X Z J c (pc + n) ls (r.toList ++ st) S' M' cs sl) : x_wp X Z J ((i, n) :: c) pc ls (a6 :: a5 :: a4 :: a3 :: a2 :: a1 :: st) S M cs sl := by
  obtain ⟨q1, q2, q3, q4⟩ := q
  cases h3
  cases h1
  have hle := Nat.le_of_ble_eq_true h2
  exact xt_inv hi e (Nat.ble_eq.mpr (by simp)) (Nat.ble_eq.mpr (by simp; omega)) h4.1 h4.2 (by simpa using h5) (by simpa using h)
variable {q : x_K} {as : List x_V} {S0 : List x_S} {M0 : x_M}
theorem xt_ri {v : Int32} (hc : cs = q.2.2.2.1) (hs : sl ≤ q.2.2.2.2) (h : q.2.2.1 as S0 M0 (some (.inl v)) S M) : x_wp X (x_Z (some .int) q as S0 M0) J ((.ireturn, n) :: c) pc ls [.inl v] S M cs sl := ⟨Or.inl rfl, hc, hs, h⟩
theorem xt_rz {v : Int32} (hv : v = 0 ∨ v = 1) (hc : cs = q.2.2.2.1) (hs : sl ≤ q.2.2.2.2) (h : q.2.2.1 as S0 M0 (some (.inl v)) S M) : x_wp X (x_Z (some .boolean) q as S0 M0) J ((.ireturn, n) :: c) pc ls [.inl v] S M cs sl := ⟨Or.inr ⟨rfl, hv⟩, hc, hs, h⟩
theorem xt_rv (hc : cs = q.2.2.2.1) (hs : sl ≤ q.2.2.2.2) (h : q.2.2.1 as S0 M0 none S M) : x_wp X (x_Z none q as S0 M0) J ((.return_, n) :: c) pc ls [] S M cs sl := ⟨rfl, hc, hs, h⟩
theorem xt_ra {r : Nat} {nm : String} (hr : r < 1000) (hc : cs = q.2.2.2.1) (hs : sl ≤ q.2.2.2.2) (h : q.2.2.1 as S0 M0 (some (.inr (.inl r))) S M) : x_wp X (x_Z (some (.object nm)) q as S0 M0) J ((.areturn, n) :: c) pc ls [.inr (.inl r)] S M cs sl := ⟨⟨nm, rfl⟩, hr, hc, hs, h⟩
variable {bl : x_B} {cut : List Nat} {I : x_J} {f : Nat}
theorem xt_cut {q : Nat × List (Instr × Nat)} {ls' : List x_V} (e : x_lk bl pc = some q) (hc : cut.elem pc = true) (e2 : ls.take q.1 = ls') (h : I pc ls' st S M cs sl) : x_go X Z bl cut I f pc ls st S M cs sl := by
  subst e2
  cases f <;> (unfold x_go; rw [e]; dsimp only; rw [if_pos hc]; exact h)
theorem xt_blk {q : Nat × List (Instr × Nat)} {ls' : List x_V} (e : x_lk bl pc = some q) (hc : cut.elem pc = false) (e2 : ls.take q.1 = ls') (h : x_wp X Z (x_go X Z bl cut I f) q.2 pc ls' st S M cs sl) : x_go X Z bl cut I (f + 1) pc ls st S M cs sl := by
  subst e2
  unfold x_go
  rw [e]
  dsimp only
  rw [if_neg (by rw [hc]; decide)]
  exact h
end XT
