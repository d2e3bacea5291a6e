/-! THE SMALL MACHINE'S STEPS, as conditions: what must hold before an instruction, so that K holds behind it and J at a jump's end -/
abbrev x_J : Type := Nat → List x_V → List x_V → List x_S → x_M → Nat → Nat → Prop
/-- a callee: how many arguments, start, end, cells, slots -/
abbrev x_K : Type := Nat × (List x_V → List x_S → x_M → Prop) × (List x_V → List x_S → x_M → Option x_V → List x_S → x_M → Prop) × Nat × Nat
/-- fields, statics, constants, classes that are made, callees, cells and slots at most, tables' lengths and contents, how many tables, whether it is a constructor -/
abbrev x_X : Type := List (Nat × Nat × Nat) × List (Nat × Nat) × List (Nat × Int32) × List (Nat × Nat) × List (Nat × x_K) × (Nat × Nat) × (Nat → Nat) × (Nat → Nat → Int32) × (Nat × Bool)
def x_lk {α : Type} : List (Nat × α) → Nat → Option α
  | [], _ => none
  | q :: r, k => if k = q.1 then some q.2 else x_lk r k
theorem x_lk_mem {α : Type} : ∀ {L : List (Nat × α)} {k : Nat} {v : α}, x_lk L k = some v → (k, v) ∈ L
  | [], _, _, h => by cases h
  | q :: r, k, v, h => by
    unfold x_lk at h
    split at h
    · rename_i hk
      cases h
      rw [hk]
      exact List.mem_cons_self
    · exact List.mem_cons_of_mem _ (x_lk_mem h)
/-- a constant of the code -/
def x_q (v : Int) : Int32 := if 0 ≤ v then nI v.toNat else -(nI (-v).toNat)
def x_tg (pc : Nat) (off : Int) : Nat := ((pc : Int) + off).toNat
def x_fd (S : List x_S) (M : x_M) (k sl : Nat) : x_V := match S[k]? with
  | some (.inl q) => match q.2[sl]? with
    | some (some r) => .inr (.inl r)
    | _ => .inl (M k sl)
  | _ => .inl 0
def x_el (S : List x_S) (k i : Nat) : Nat := match S[k]? with
  | some (.inr (.inr g)) => g.getD i 0
  | _ => 0
def x_ln (S : List x_S) (k : Nat) : Nat := match S[k]? with
  | some (.inr (.inl q)) => q.2
  | _ => 0
def x_sf (S : List x_S) (k sl r : Nat) : List x_S := match S[k]? with
  | some (.inl q) => S.set k (.inl (q.1, q.2.set sl (some r)))
  | _ => S
/-- the fields of an object that is new -/
def x_nf (ci : Nat) : List (Option Nat) := match ci with
  | 0 => [some 9999, some 9999]
  | 1 => [some 9999]
  | 2 => [some 9999, some 9999, some 9999, some 9999, none, none]
  | 3 => [none, some 9999, some 9999, some 9999, some 9999, some 9999, some 9999, some 9999, some 9999, none, none, none, none]
  | 4 => [some 9999, some 9999, some 9999, some 9999, some 9999, some 9999]
  | _ => [some 9999, some 9999, some 9999, some 9999, none, some 9999, some 9999, some 9999, some 9999, some 9999, some 9999, some 9999, some 9999, some 9999, some 9999, some 9999, some 9999, some 9999]
def x_un (f : Int32 → Int32) (K : List x_V → Prop) : List x_V → Prop
  | .inl a :: st => K (.inl (f a) :: st)
  | _ => False
def x_bin (f : Int32 → Int32 → Int32) (K : List x_V → Prop) : List x_V → Prop
  | .inl b :: .inl a :: st => K (.inl (f a b) :: st)
  | _ => False
def x_div (f : Int32 → Int32 → Int32) (K : List x_V → Prop) : List x_V → Prop
  | .inl b :: .inl a :: st => (¬ b = 0) ∧ K (.inl (f a b) :: st)
  | _ => False
def x_c1 (o : Jvm.ClassFile.Cond) (x : Int32) : Prop := match o with
  | .eq => x = 0
  | .ne => ¬ x = 0
  | .lt => x < 0
  | .ge => 0 ≤ x
  | .gt => 0 < x
  | .le => x ≤ 0
def x_n1 (o : Jvm.ClassFile.Cond) (x : Int32) : Prop := match o with
  | .eq => ¬ x = 0
  | .ne => x = 0
  | .lt => ¬ x < 0
  | .ge => ¬ 0 ≤ x
  | .gt => ¬ 0 < x
  | .le => ¬ x ≤ 0
def x_c2 (o : Jvm.ClassFile.Cond) (x y : Int32) : Prop := match o with
  | .eq => x = y
  | .ne => ¬ x = y
  | .lt => x < y
  | .ge => y ≤ x
  | .gt => y < x
  | .le => x ≤ y
def x_n2 (o : Jvm.ClassFile.Cond) (x y : Int32) : Prop := match o with
  | .eq => ¬ x = y
  | .ne => x = y
  | .lt => ¬ x < y
  | .ge => ¬ y ≤ x
  | .gt => ¬ y < x
  | .le => ¬ x ≤ y
def x_if1 (o : Jvm.ClassFile.Cond) (J K : List x_V → Prop) : List x_V → Prop
  | .inl x :: st => (x_c1 o x → J st) ∧ (x_n1 o x → K st)
  | _ => False
def x_if2 (o : Jvm.ClassFile.Cond) (J K : List x_V → Prop) : List x_V → Prop
  | .inl y :: .inl x :: st => (x_c2 o x y → J st) ∧ (x_n2 o x y → K st)
  | _ => False
def x_sw (d lo hi : Int) (offs : Array Int) (J : Int → List x_V → Prop) : List x_V → Prop
  | .inl x :: st => (x.toInt < lo ∨ hi < x.toInt → J d st) ∧ ∀ (j : Nat) (off : Int), offs.toList[j]? = some off → x.toInt = lo + j → J off st
  | _ => False
def x_ldi (ls : List x_V) (k : Nat) (K : x_V → Prop) : Prop := match ls[k]? with
  | some (.inl x) => K (.inl x)
  | _ => False
def x_lda (ls : List x_V) (k : Nat) (K : x_V → Prop) : Prop := match ls[k]? with
  | some (.inr (.inl r)) => r < 1000 ∧ K (.inr (.inl r))
  | some (.inr (.inr c)) => K (.inr (.inr c))
  | _ => False
def x_sti (ls : List x_V) (k : Nat) (K : List x_V → List x_V → Prop) : List x_V → Prop
  | .inl x :: st => k ≤ ls.length ∧ K (x_sto ls k (.inl x)) st
  | _ => False
def x_sta (ls : List x_V) (k : Nat) (K : List x_V → List x_V → Prop) : List x_V → Prop
  | .inr (.inl r) :: st => k ≤ ls.length ∧ r < 1000 ∧ K (x_sto ls k (.inr (.inl r))) st
  | _ => False
def x_inc (ls : List x_V) (k : Nat) (d : Int) (K : List x_V → Prop) : Prop := match ls[k]? with
  | some (.inl x) => K (x_sto ls k (.inl (x + x_q d)))
  | _ => False
def x_du1 (K : List x_V → Prop) : List x_V → Prop
  | a :: st => K (a :: a :: st)
  | _ => False
def x_du2 (K : List x_V → Prop) : List x_V → Prop
  | a :: b :: st => K (a :: b :: a :: b :: st)
  | _ => False
def x_gf (o : Option (Nat × Nat)) (S : List x_S) (M : x_M) (K : List x_V → Prop) : List x_V → Prop
  | .inr (.inl k) :: st => match o with
    | some q => (∃ (fs : List (Option Nat)) (f : Option Nat), S[k]? = some (.inl (q.1, fs)) ∧ fs[q.2]? = some f) ∧ K (x_fd S M k q.2 :: st)
    | none => False
  | _ => False
def x_fi (ci k : Nat) : Bool := match x_cl[ci]? with
  | some r => (r.2.1 k).2.2.2
  | none => true
def x_pf (o : Option (Nat × Nat)) (ini : Bool) (S : List x_S) (M : x_M) (K : List x_V → List x_S → x_M → Prop) : List x_V → Prop
  | .inl x :: .inr (.inl k) :: st => match o with
    | some q => (∃ fs : List (Option Nat), S[k]? = some (.inl (q.1, fs)) ∧ fs[q.2]? = some none) ∧ (x_fi q.1 q.2 = false ∨ ini = true) ∧ (x_ty q.1 q.2 = .int ∨ (x_ty q.1 q.2 = .boolean ∧ (x = 0 ∨ x = 1))) ∧ K st S (x_row M k (upd (M k) q.2 x))
    | none => False
  | .inr (.inl r) :: .inr (.inl k) :: st => match o with
    | some q => (∃ (fs : List (Option Nat)) (r0 : Nat), S[k]? = some (.inl (q.1, fs)) ∧ fs[q.2]? = some (some r0)) ∧ r < 1000 ∧ (x_fi q.1 q.2 = false ∨ ini = true) ∧ defaultValue (x_ty q.1 q.2) = .null ∧ K st (x_sf S k q.2 r) M
    | none => False
  | _ => False
def x_ald (b : Bool) (X : x_X) (S : List x_S) (M : x_M) (K : List x_V → Prop) : List x_V → Prop
  | .inl i :: .inr (.inl k) :: st => (∃ n : Nat, S[k]? = some (.inr (.inl (b, n))) ∧ vp_in i n) ∧ K (.inl (M k i.toNatClampNeg) :: st)
  | .inl i :: .inr (.inr c) :: st => b = false ∧ c < X.2.2.2.2.2.2.2.2.1 ∧ vp_in i (X.2.2.2.2.2.2.1 c) ∧ K (.inl (X.2.2.2.2.2.2.2.1 c i.toNatClampNeg) :: st)
  | _ => False
def x_rld (S : List x_S) (K : List x_V → Prop) : List x_V → Prop
  | .inl i :: .inr (.inl k) :: st => (∃ g : List Nat, S[k]? = some (.inr (.inr g)) ∧ vp_in i g.length ∧ g.getD i.toNatClampNeg 0 < 1000) ∧ K (.inr (.inl (x_el S k i.toNatClampNeg)) :: st)
  | _ => False
def x_ast (b : Bool) (S : List x_S) (M : x_M) (K : List x_V → x_M → Prop) : List x_V → Prop
  | .inl x :: .inl i :: .inr (.inl k) :: st => (∃ n : Nat, S[k]? = some (.inr (.inl (b, n))) ∧ vp_in i n) ∧ (b = true → x = 0 ∨ x = 1) ∧ K st (x_row M k (upd (M k) i.toNatClampNeg x))
  | _ => False
def x_aln (X : x_X) (S : List x_S) (K : List x_V → Prop) : List x_V → Prop
  | .inr (.inl k) :: st => (∃ q : Bool × Nat, S[k]? = some (.inr (.inl q))) ∧ K (.inl (nI (x_ln S k)) :: st)
  | .inr (.inr c) :: st => c < X.2.2.2.2.2.2.2.2.1 ∧ K (.inl (nI (X.2.2.2.2.2.2.1 c)) :: st)
  | _ => False
def x_nwa (t : Jvm.ClassFile.ArrayType) (X : x_X) (S : List x_S) (M : x_M) (cs sl : Nat) (K : List x_V → List x_S → x_M → Nat → Nat → Prop) : List x_V → Prop
  | .inl v :: st => (t = .int ∨ t = .boolean) ∧ ¬ v < 0 ∧ v.toNatClampNeg ≤ 1000 ∧ S.length < 1000 ∧ cs + 1 ≤ X.2.2.2.2.2.1.1 ∧ sl + v.toNatClampNeg ≤ X.2.2.2.2.2.1.2 ∧
      K (.inr (.inl S.length) :: st) (S ++ [.inr (.inl (decide (t = .boolean), v.toNatClampNeg))]) (x_row M S.length (fun _ => 0)) (cs + 1) (sl + v.toNatClampNeg)
  | _ => False
def x_nwo (o : Option Nat) (X : x_X) (S : List x_S) (M : x_M) (cs sl : Nat) (K : List x_S → x_M → Nat → Nat → Prop) : Prop := match o with
  | some ci => ci < 6 ∧ S.length < 1000 ∧ cs + 1 ≤ X.2.2.2.2.2.1.1 ∧ sl + (x_nf ci).length ≤ X.2.2.2.2.2.1.2 ∧ K (S ++ [.inl (ci, x_nf ci)]) (x_row M S.length (fun _ => 0)) (cs + 1) (sl + (x_nf ci).length)
  | none => False
/-- rows from a place on are new and 0 -/
def x_zr (M : x_M) (a n : Nat) : x_M := fun k => if a ≤ k ∧ k < a + n then fun _ => 0 else M k
def x_mna (o : Option Nat) (X : x_X) (S : List x_S) (M : x_M) (cs sl : Nat) (K : List x_V → List x_S → x_M → Nat → Nat → Prop) : List x_V → Prop
  | .inl v :: .inl u :: st => match o with
    | some ci => ci = 99 ∧ ¬ u < 0 ∧ ¬ v < 0 ∧ v.toNatClampNeg ≤ 1000 ∧ S.length + 1 + u.toNatClampNeg ≤ 1000 ∧ cs + (1 + u.toNatClampNeg) ≤ X.2.2.2.2.2.1.1 ∧ sl + (u.toNatClampNeg + u.toNatClampNeg * v.toNatClampNeg) ≤ X.2.2.2.2.2.1.2 ∧
      K (.inr (.inl S.length) :: st) ((S ++ [.inr (.inr ((List.range u.toNatClampNeg).map (fun i => S.length + 1 + i)))]) ++ List.replicate u.toNatClampNeg (.inr (.inl (false, v.toNatClampNeg)))) (x_zr M S.length (1 + u.toNatClampNeg)) (cs + 1 + u.toNatClampNeg) (sl + u.toNatClampNeg + u.toNatClampNeg * v.toNatClampNeg)
    | none => False
  | _ => False
def x_inv (o : Option x_K) (X : x_X) (S : List x_S) (M : x_M) (cs sl : Nat) (st : List x_V) (K : List x_V → List x_S → x_M → Nat → Nat → Prop) : Prop := match o with
  | some q => (q.1 ≤ st.length ∧ st.length - q.1 ≤ 8 ∧ cs + q.2.2.2.1 ≤ X.2.2.2.2.2.1.1 ∧ sl + q.2.2.2.2 ≤ X.2.2.2.2.2.1.2) ∧ q.2.1 (st.take q.1).reverse S M ∧
      ∀ (r : Option x_V) (S' : List x_S) (M' : x_M), q.2.2.1 (st.take q.1).reverse S M r S' M' → K (r.toList ++ st.drop q.1) S' M' (cs + q.2.2.2.1) (sl + q.2.2.2.2)
  | none => False
def x_key : Instr → Option Nat
  | .invokestatic i => some (3 * i)
  | .invokevirtual i => some (3 * i + 1)
  | .invokespecial i => some (3 * i + 2)
  | _ => none
/-- one instruction; Z at a return -/
def x_op (X : x_X) (Z : Instr → List x_V → List x_S → x_M → Nat → Nat → Prop) (K J : x_J) (i : Instr) (n pc : Nat) (ls st : List x_V) (S : List x_S) (M : x_M) (cs sl : Nat) : Prop := match i with
  | .iconst v => K (pc + n) ls (.inl (x_q v) :: st) S M cs sl
  | .bipush v => K (pc + n) ls (.inl (x_q v) :: st) S M cs sl
  | .sipush v => K (pc + n) ls (.inl (x_q v) :: st) S M cs sl
  | .ldc k => match x_lk X.2.2.1 k with
    | some v => K (pc + n) ls (.inl v :: st) S M cs sl
    | none => False
  | .ldc_w k => match x_lk X.2.2.1 k with
    | some v => K (pc + n) ls (.inl v :: st) S M cs sl
    | none => False
  | .iload_n k => x_ldi ls k.val (fun v => K (pc + n) ls (v :: st) S M cs sl)
  | .iload k => x_ldi ls k (fun v => K (pc + n) ls (v :: st) S M cs sl)
  | .aload_n k => x_lda ls k.val (fun v => K (pc + n) ls (v :: st) S M cs sl)
  | .aload k => x_lda ls k (fun v => K (pc + n) ls (v :: st) S M cs sl)
  | .istore_n k => x_sti ls k.val (fun ls st => K (pc + n) ls st S M cs sl) st
  | .istore k => x_sti ls k (fun ls st => K (pc + n) ls st S M cs sl) st
  | .astore_n k => x_sta ls k.val (fun ls st => K (pc + n) ls st S M cs sl) st
  | .astore k => x_sta ls k (fun ls st => K (pc + n) ls st S M cs sl) st
  | .iinc k d => x_inc ls k d (fun ls => K (pc + n) ls st S M cs sl)
  | .iadd => x_bin (fun a b => a + b) (fun st => K (pc + n) ls st S M cs sl) st
  | .isub => x_bin (fun a b => a - b) (fun st => K (pc + n) ls st S M cs sl) st
  | .imul => x_bin (fun a b => a * b) (fun st => K (pc + n) ls st S M cs sl) st
  | .iand => x_bin (fun a b => a &&& b) (fun st => K (pc + n) ls st S M cs sl) st
  | .ior => x_bin (fun a b => a ||| b) (fun st => K (pc + n) ls st S M cs sl) st
  | .ixor => x_bin (fun a b => a ^^^ b) (fun st => K (pc + n) ls st S M cs sl) st
  | .ishl => x_bin (fun a b => a <<< (b &&& 31)) (fun st => K (pc + n) ls st S M cs sl) st
  | .ishr => x_bin (fun a b => a >>> (b &&& 31)) (fun st => K (pc + n) ls st S M cs sl) st
  | .iushr => x_bin (fun a b => (a.toUInt32 >>> (b.toUInt32 &&& Int32.toUInt32 31)).toInt32) (fun st => K (pc + n) ls st S M cs sl) st
  | .idiv => x_div (fun a b => a / b) (fun st => K (pc + n) ls st S M cs sl) st
  | .irem => x_div (fun a b => a - a / b * b) (fun st => K (pc + n) ls st S M cs sl) st
  | .ineg => x_un (fun a => -a) (fun st => K (pc + n) ls st S M cs sl) st
  | .dup => x_du1 (fun st => K (pc + n) ls st S M cs sl) st
  | .dup2 => x_du2 (fun st => K (pc + n) ls st S M cs sl) st
  | .goto off => J (x_tg pc off) ls st S M cs sl
  | .ifCond o off => x_if1 o (fun st => J (x_tg pc off) ls st S M cs sl) (fun st => K (pc + n) ls st S M cs sl) st
  | .if_icmp o off => x_if2 o (fun st => J (x_tg pc off) ls st S M cs sl) (fun st => K (pc + n) ls st S M cs sl) st
  | .tableswitch d lo hi offs => x_sw d lo hi offs (fun off st => J (x_tg pc off) ls st S M cs sl) st
  | .getfield k => x_gf (x_lk X.1 k) S M (fun st => K (pc + n) ls st S M cs sl) st
  | .putfield k => x_pf (x_lk X.1 k) X.2.2.2.2.2.2.2.2.2 S M (fun st S M => K (pc + n) ls st S M cs sl) st
  | .getstatic k => match x_lk X.2.1 k with
    | some c => K (pc + n) ls (.inr (.inr c) :: st) S M cs sl
    | none => False
  | .iaload => x_ald false X S M (fun st => K (pc + n) ls st S M cs sl) st
  | .baload => x_ald true X S M (fun st => K (pc + n) ls st S M cs sl) st
  | .aaload => x_rld S (fun st => K (pc + n) ls st S M cs sl) st
  | .iastore => x_ast false S M (fun st M => K (pc + n) ls st S M cs sl) st
  | .bastore => x_ast true S M (fun st M => K (pc + n) ls st S M cs sl) st
  | .arraylength => x_aln X S (fun st => K (pc + n) ls st S M cs sl) st
  | .newarray t => x_nwa t X S M cs sl (fun st S M cs sl => K (pc + n) ls st S M cs sl) st
  | .new k => x_nwo (x_lk X.2.2.2.1 k) X S M cs sl (fun S' M cs sl => K (pc + n) ls (.inr (.inl S.length) :: st) S' M cs sl)
  | .multianewarray k _ => x_mna (x_lk X.2.2.2.1 k) X S M cs sl (fun st S M cs sl => K (pc + n) ls st S M cs sl) st
  | .invokestatic k => x_inv (x_lk X.2.2.2.2.1 (3 * k)) X S M cs sl st (fun st S M cs sl => K (pc + n) ls st S M cs sl)
  | .invokevirtual k => x_inv (x_lk X.2.2.2.2.1 (3 * k + 1)) X S M cs sl st (fun st S M cs sl => K (pc + n) ls st S M cs sl)
  | .invokespecial k => x_inv (x_lk X.2.2.2.2.1 (3 * k + 2)) X S M cs sl st (fun st S M cs sl => K (pc + n) ls st S M cs sl)
  | .ireturn => Z .ireturn st S M cs sl
  | .areturn => Z .areturn st S M cs sl
  | .return_ => Z .return_ st S M cs sl
  | _ => False
/-- a stretch of instructions; at its end as at a jump -/
def x_wp (X : x_X) (Z : Instr → List x_V → List x_S → x_M → Nat → Nat → Prop) (J : x_J) : List (Instr × Nat) → x_J
  | [] => J
  | q :: c => fun pc ls st S M cs sl => x_op X Z (x_wp X Z J c) J q.1 q.2 pc ls st S M cs sl
/-- a block: its place, how many locals live there, its instructions -/
abbrev x_B : Type := List (Nat × Nat × List (Instr × Nat))
/-- jumps: at a cut the given condition, else the block there -/
def x_go (X : x_X) (Z : Instr → List x_V → List x_S → x_M → Nat → Nat → Prop) (bl : x_B) (cut : List Nat) (I : x_J) : Nat → x_J
  | 0 => fun pc ls st S M cs sl => match x_lk bl pc with
    | some q => if cut.elem pc then I pc (ls.take q.1) st S M cs sl else False
    | none => False
  | f + 1 => fun pc ls st S M cs sl => match x_lk bl pc with
    | some q => if cut.elem pc then I pc (ls.take q.1) st S M cs sl else x_wp X Z (x_go X Z bl cut I f) q.2 pc (ls.take q.1) st S M cs sl
    | none => False
/-- what is looked at once, ahead of any run: lengths, constants, jumps -/
def x_okI (nL pc : Nat) (i : Instr) (n : Nat) : Bool := match i with
  | .iconst v => n == 1 && Int32.ofInt v == x_q v
  | .bipush v => n == 2 && (Int8.ofInt v).toInt32 == x_q v
  | .sipush v => n == 3 && (Int16.ofInt v).toInt32 == x_q v
  | .ldc _ => n == 2
  | .ldc_w _ => n == 3
  | .iload_n _ => n == 1
  | .iload _ => n == 2
  | .aload_n _ => n == 1
  | .aload _ => n == 2
  | .istore_n k => n == 1 && decide (k.val < nL)
  | .istore k => n == 2 && decide (k < nL)
  | .astore_n k => n == 1 && decide (k.val < nL)
  | .astore k => n == 2 && decide (k < nL)
  | .iinc k d => n == 3 && decide (k < nL) && Int32.ofInt d == x_q d
  | .goto off => n == 3 && decide (0 ≤ (pc : Int) + off)
  | .ifCond _ off => n == 3 && decide (0 ≤ (pc : Int) + off)
  | .if_icmp _ off => n == 3 && decide (0 ≤ (pc : Int) + off)
  | .tableswitch d lo hi offs => decide (0 ≤ (pc : Int) + d) && decide (hi < lo + offs.size) && offs.toList.all (fun o => decide (0 ≤ (pc : Int) + o))
  | .getfield _ => n == 3
  | .putfield _ => n == 3
  | .getstatic _ => n == 3
  | .newarray _ => n == 2
  | .new _ => n == 3
  | .multianewarray _ d => n == 4 && d == 2
  | .invokestatic _ => n == 3
  | .invokevirtual _ => n == 3
  | .invokespecial _ => n == 3
  | _ => n == 1
def x_okc (cc : ByteArray) (nL : Nat) : Nat → List (Instr × Nat) → Bool
  | _, [] => true
  | pc, q :: c => decide (decode cc pc = .ok q) && x_okI nL pc q.1 q.2 && x_okc cc nL (pc + q.2) c
def x_okB (cc : ByteArray) (nL : Nat) (bl : x_B) : Bool := bl.all (fun q => x_okc cc nL q.1 q.2.2)
