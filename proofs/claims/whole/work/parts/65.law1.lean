/-! THE LAW: what a call leaves -/
theorem cif_c {α : Type} {p : Prop} {a b : α} {P : α → Prop} (h1 : p → P a) (h2 : ¬ p → P b) : P (cif p a b) := by
  by_cases h : p
  · rw [cif_t h]; exact h1 h
  · rw [cif_f h]; exact h2 h
theorem OkM_rows {V V' : x_M} (h : OkM V) (e1 : V' 1 4 = V 1 4) (e2 : V' 2 = V 2) (e3 : V' 3 = V 3) (e5 : V' 5 = V 5) (e6 : V' 6 = V 6) : OkM V' := by
  have eN : nN V' = nN V := by unfold nN; rw [e1]
  obtain ⟨h1, h2, h3⟩ := h
  refine ⟨by rw [eN]; exact h1, by rw [eN, e1]; exact h2, fun w hw i hi => ?_⟩
  rw [eN] at hi
  have e : V' (5 + w) = V (5 + w) := by
    rcases (show w = 0 ∨ w = 1 by omega) with rfl | rfl
    · exact e5
    · exact e6
  have := h3 w hw i hi
  unfold nA nB nS at *
  rw [e2, e3, e]
  exact this
theorem Vok_ref {V : x_M} (h : Vok V) (p : Nat) : Vok (mRef V p) := by
  obtain ⟨h1, h2, h3, h4, h5⟩ := h
  have e : ∀ k, k ≠ 52 → mRef V p k = V k := fun k hk => x_row_ne _ _ hk
  refine ⟨OkM_rows h1 (by rw [e 1 (by decide)]) (e 2 (by decide)) (e 3 (by decide)) (e 5 (by decide)) (e 6 (by decide)), by rw [e 7 (by decide)]; exact h2, by rw [e 42 (by decide)]; exact h3, fun w j hw hj => by rw [e (44 + w) (by omega)]; exact h4 w j hw hj, by rw [e 42 (by decide), e 41 (by decide)]; exact h5⟩
theorem Vok_add {V : x_M} (h : Vok V) (hn : ¬ nN V = 30) {a b o u : Int32} (h2 : Two a b) (ho : Th 8192 o) (hu : Th 8192 u) : Vok (vAdd V (nN V) a b o u) := by
  obtain ⟨h1, h3, h4, h5, h6⟩ := h
  have hn30 := h1.1
  have e : ∀ k, 7 < k → vAdd V (nN V) a b o u k = V k := fun k hk => by unfold vAdd; rw [if_neg (by omega), if_neg (by omega), if_neg (by omega), if_neg (by omega), if_neg (by omega), if_neg (by omega)]
  refine ⟨OkM_add h1 (by omega) h2 ho hu, fun j hj => ?_, by rw [e 42 (by decide)]; exact h4, fun w j hw hj => by rw [e (44 + w) (by omega)]; exact h5 w j hw hj, by rw [e 42 (by decide), e 41 (by decide)]; exact h6⟩
  show upd (V 7) (nN V) (nI 1) j = nI 0 ∨ upd (V 7) (nN V) (nI 1) j = nI 1
  unfold upd
  split
  · exact Or.inr rfl
  · exact h3 j hj
theorem Vok_sil {V : x_M} (h : Vok V) (i : Nat) (x : Int32) : Vok (vSil V i x) := by
  obtain ⟨h1, h3, h4, h5, h6⟩ := h
  have e : ∀ k, k ≠ 7 → vSil V i x k = V k := fun k hk => x_row_ne _ _ hk
  refine ⟨OkM_sil h1 i x, fun j hj => ?_, by rw [e 42 (by decide)]; exact h4, fun w j hw hj => by rw [e (44 + w) (by omega)]; exact h5 w j hw hj, by rw [e 42 (by decide), e 41 (by decide)]; exact h6⟩
  unfold vSil
  rw [x_row_self]
  unfold upd tl
  split
  · split
    · exact Or.inr rfl
    · exact Or.inl rfl
  · exact h3 j hj
theorem Vok_wrd {V : x_M} (h : Vok V) {w j : Nat} (hw : w < 8) {x : Int32} (hx : Th 8192 x) : Vok (vWrd V w j x) := by
  obtain ⟨h1, h3, h4, h5, h6⟩ := h
  have e : ∀ k, k ≠ 44 + w → vWrd V w j x k = V k := fun k hk => x_row_ne _ _ hk
  refine ⟨OkM_rows h1 (by rw [e 1 (by omega)]) (e 2 (by omega)) (e 3 (by omega)) (e 5 (by omega)) (e 6 (by omega)), by rw [e 7 (by omega)]; exact h3, by rw [e 42 (by omega)]; exact h4, fun w2 j2 hw2 hj2 => ?_, by rw [e 42 (by omega), e 41 (by omega)]; exact h6⟩
  by_cases q : w2 = w
  · subst q
    unfold vWrd
    rw [x_row_self]
    unfold upd
    split
    · exact hx
    · exact h5 w2 j2 hw2 hj2
  · rw [e (44 + w2) (by omega)]; exact h5 w2 j2 hw2 hj2
theorem Vok_draw {V : x_M} (h : Vok V) {t : Nat} (ht : t < 6) {a z b y : Int32} (h1 : a < z) (h2 : b < y) : Vok (mDraw V t a z b y) := by
  obtain ⟨g1, h3, h4, h5, h6⟩ := h
  have e : ∀ k, k ≠ 41 → k ≠ 42 → mDraw V t a z b y k = V k := fun k p q => by unfold mDraw; rw [if_neg q, if_neg p]
  have e42 : mDraw V t a z b y 42 = upd (V 42) t (nI 1) := rfl
  have e41 : mDraw V t a z b y 41 = upd (upd (upd (upd (V 41) (t * 4) a) (t * 4 + 1) z) (t * 4 + 2) b) (t * 4 + 3) y := rfl
  refine ⟨OkM_rows g1 (by rw [e 1 (by decide) (by decide)]) (e 2 (by decide) (by decide)) (e 3 (by decide) (by decide)) (e 5 (by decide) (by decide)) (e 6 (by decide) (by decide)), by rw [e 7 (by decide) (by decide)]; exact h3, fun j hj => ?_, fun w j hw hj => by rw [e (44 + w) (by omega) (by omega)]; exact h5 w j hw hj, fun q hq hne => ?_⟩
  · rw [e42]; unfold upd; split
    · exact Or.inr rfl
    · exact h4 j hj
  · rw [e41]
    by_cases c : q = t
    · subst c
      simp [upd]
      exact ⟨h1, h2⟩
    · rw [e42] at hne
      unfold upd at hne ⊢
      rw [if_neg c] at hne
      rw [if_neg (by omega), if_neg (by omega), if_neg (by omega), if_neg (by omega), if_neg (by omega), if_neg (by omega), if_neg (by omega), if_neg (by omega), if_neg (by omega), if_neg (by omega), if_neg (by omega), if_neg (by omega), if_neg (by omega), if_neg (by omega), if_neg (by omega), if_neg (by omega)]
      exact h6 q hq hne
theorem Vok_rub {V : x_M} (h : Vok V) (t : Nat) : Vok (x_row V 42 (upd (V 42) t (nI 0))) := by
  obtain ⟨g1, h3, h4, h5, h6⟩ := h
  have e : ∀ k, k ≠ 42 → x_row V 42 (upd (V 42) t (nI 0)) k = V k := fun k hk => x_row_ne _ _ hk
  refine ⟨OkM_rows g1 (by rw [e 1 (by decide)]) (e 2 (by decide)) (e 3 (by decide)) (e 5 (by decide)) (e 6 (by decide)), by rw [e 7 (by decide)]; exact h3, fun j hj => ?_, fun w j hw hj => by rw [e (44 + w) (by omega)]; exact h5 w j hw hj, fun q hq hne => ?_⟩
  · rw [x_row_self]; unfold upd; split
    · exact Or.inl rfl
    · exact h4 j hj
  · rw [e 41 (by decide)]
    rw [x_row_self] at hne
    unfold upd at hne
    by_cases c : q = t
    · rw [if_pos c] at hne; exact absurd rfl hne
    · rw [if_neg c] at hne; exact h6 q hq hne
def VP (z : Int32 × x_M) : Prop := Vok z.2
theorem k_al {V : x_M} (h : Vok V) (w a b v : Int32) : Vok (spAl V w a b v).2 := by
  unfold spAl
  exact cif_c (P := VP) (fun _ => cif_c (P := VP) (fun _ => h) (fun _ => Vok_ref h 2)) (fun _ => Vok_ref h 1)
def LI (c : Nat) (M : x_M) : Prop := CI c M ∧ RI 0 M ∧ vM M = cM M
theorem lw_mid {c : Nat} {M M1 : x_M} {rv : Option x_V} {p : Int32 × x_M} (h : LI c M) (h1 : CEnd M M1 rv p) : RI 0 M1 ∧ cM M1 = cM M :=
  have e : cM M1 = cM M := cM_cg (fun k a _ => h1.1 k a)
  ⟨⟨Tb_keep h.2.1.1 (fun k hk => h1.1 k (by omega)), by rw [e]; exact h.2.1.2⟩, e⟩
theorem lw_step {sp : x_M → Int32 × x_M} {c : Nat} {M M1 M2 : x_M} {rv rv2 : Option x_V} (hc : c < 2 ^ 20) (h : LI c M) (hv : ∀ V, Vok V → Vok (sp V).2) (h1 : CEnd M M1 rv (sp (vM M))) (h2 : REnd M1 M2 rv2 (sp (cM M1))) : LI (c + 1) M2 ∧ ∃ v, rv = some (.inl v) ∧ rv2 = some (.inl v) := by
  obtain ⟨hR, e⟩ := lw_mid h h1
  obtain ⟨a1, a2, a3⟩ := h
  obtain ⟨b1, b2, b3, b4⟩ := h1
  obtain ⟨d1, d2, d3, d4⟩ := h2
  have ev : vM M2 = vM M1 := vM_cg (fun k hk => d1 k (by omega))
  have hV : Vok (sp (vM M)).2 := hv _ a1.2
  refine ⟨⟨⟨?_, ?_⟩, ⟨d2 hR.1, ?_⟩, ?_⟩, (sp (vM M)).1, b3, ?_⟩
  · obtain ⟨q1, q2, n, q3, q4, q5⟩ := b2 c hc a1
    refine ⟨WP_keep q1 (fun k hk => d1 k (by omega)), WP_keep q2 (fun k hk => d1 k (by omega)), n, q3, by rw [d1 1 (by decide)]; exact q4, fun q hq => ?_⟩
    rw [d1 q (by rcases hq with rfl | rfl <;> decide)]
    exact q5 q hq
  · rw [ev, b4]; exact hV
  · rw [d4, e, ← a3]; exact hV
  · rw [ev, b4, d4, e, ← a3]
  · rw [d3, e, ← a3]
theorem CE_turned {M M1 : x_M} {x : Int32} {rv : Option x_V} (h : (∃ xn, xn < 8192 ∧ x = nI xn ∧ M1 = M ∧ rv = some (.inl (nI (tn xn)))) ∨ (¬ (Th 8192 x) ∧ M1 = mRef M 2 ∧ rv = some (.inl (-(nI 2))))) : CEnd M M1 rv (spTurned (vM M) x) := by
  rcases h with ⟨xn, h1, rfl, rfl, rfl⟩ | ⟨h1, rfl, rfl⟩
  · refine CE_M ?_
    unfold spTurned
    rw [cif_t ⟨xn, h1, rfl⟩, nv_nI (by omega)]
  · refine CE_R ?_
    unfold spTurned
    rw [cif_f h1]
theorem CE_composed {M M1 : x_M} {x y : Int32} {rv : Option x_V} (h : (∃ xn yn, xn < 8192 ∧ x = nI xn ∧ yn < 8192 ∧ y = nI yn ∧ M1 = M ∧ rv = some (.inl (nI (cm xn yn)))) ∨ (¬ (Th 8192 x ∧ Th 8192 y) ∧ M1 = mRef M 2 ∧ rv = some (.inl (-(nI 2))))) : CEnd M M1 rv (spComposed (vM M) x y) := by
  rcases h with ⟨xn, yn, h1, rfl, h2, rfl, rfl, rfl⟩ | ⟨h1, rfl, rfl⟩
  · refine CE_M ?_
    unfold spComposed
    rw [cif_t ⟨xn, h1, rfl⟩, cif_t ⟨yn, h2, rfl⟩, nv_nI (by omega), nv_nI (by omega)]
  · refine CE_R ?_
    unfold spComposed
    by_cases q : Th 8192 x
    · rw [cif_t q, cif_f (fun z => h1 ⟨q, z⟩)]
    · rw [cif_f q]
theorem CE_steps {M M1 : x_M} {x y : Int32} {rv : Option x_V} (h : (∃ xn yn, xn < 13 ∧ x = nI xn ∧ yn < 13 ∧ y = nI yn ∧ M1 = M ∧ rv = some (.inl (nI (stp xn yn)))) ∨ (¬ (Th 13 x ∧ Th 13 y) ∧ M1 = mRef M 1 ∧ rv = some (.inl (-(nI 1))))) : CEnd M M1 rv (spSteps (vM M) x y) := by
  rcases h with ⟨xn, yn, h1, rfl, h2, rfl, rfl, rfl⟩ | ⟨h1, rfl, rfl⟩
  · refine CE_M ?_
    unfold spSteps
    rw [cif_t ⟨xn, h1, rfl⟩, cif_t ⟨yn, h2, rfl⟩, nv_nI (by omega), nv_nI (by omega)]
  · refine CE_R ?_
    unfold spSteps
    by_cases q : Th 13 x
    · rw [cif_t q, cif_f (fun z => h1 ⟨q, z⟩)]
    · rw [cif_f q]
/-! what each call leaves is sound -/
theorem k_add {V : x_M} (h : Vok V) {a b o u : Int32} (h2 : Two a b) (ho : Th 8192 o) (hu : Th 8192 u) : Vok (spAdd V a b o u).2 := by
  unfold spAdd
  exact cif_c (P := VP) (fun _ => Vok_ref h 6) (fun q => Vok_add h q h2 ho hu)
theorem kTurned (x : Int32) (V : x_M) (h : Vok V) : Vok (spTurned V x).2 := by
  unfold spTurned
  exact cif_c (P := VP) (fun _ => h) (fun _ => Vok_ref h 2)
theorem kComposed (x y : Int32) (V : x_M) (h : Vok V) : Vok (spComposed V x y).2 := by
  unfold spComposed
  exact cif_c (P := VP) (fun _ => cif_c (P := VP) (fun _ => h) (fun _ => Vok_ref h 2)) (fun _ => Vok_ref h 2)
theorem kNear (x y : Int32) (V : x_M) (h : Vok V) : Vok (spNear V x y).2 := by
  unfold spNear
  exact cif_c (P := VP) (fun _ => cif_c (P := VP) (fun _ => h) (fun _ => Vok_ref h 1)) (fun _ => Vok_ref h 1)
theorem kSteps (x y : Int32) (V : x_M) (h : Vok V) : Vok (spSteps V x y).2 := by
  unfold spSteps
  exact cif_c (P := VP) (fun _ => cif_c (P := VP) (fun _ => h) (fun _ => Vok_ref h 1)) (fun _ => Vok_ref h 1)
theorem kTell (a b o u : Int32) (V : x_M) (h : Vok V) : Vok (spTell V a b o u).2 := by
  unfold spTell
  exact cif_c (P := VP) (fun q1 => cif_c (P := VP) (fun q2 => cif_c (P := VP) (fun q3 => k_add h q1 q2 q3) (fun _ => Vok_ref h 2)) (fun _ => Vok_ref h 2)) (fun _ => Vok_ref h 1)
theorem kSilent (x y : Int32) (V : x_M) (h : Vok V) : Vok (spSilent V x y).2 := by
  unfold spSilent
  exact cif_c (P := VP) (fun _ => Vok_sil h _ _) (fun _ => Vok_ref h 1)
theorem kStatement (x y : Int32) (V : x_M) (h : Vok V) : Vok (spStatement V x y).2 := by
  unfold spStatement
  exact cif_c (P := VP) (fun _ => cif_c (P := VP) (fun _ => h) (fun _ => cif_c (P := VP) (fun _ => h) (fun _ => cif_c (P := VP) (fun _ => h) (fun _ => cif_c (P := VP) (fun _ => h) (fun _ => cif_c (P := VP) (fun _ => h) (fun _ => Vok_ref h 2)))))) (fun _ => Vok_ref h 1)
theorem kTold (w a b : Int32) (V : x_M) (h : Vok V) : Vok (spTold V w a b).2 := k_al h _ _ _ _
theorem kClosed (w a b : Int32) (V : x_M) (h : Vok V) : Vok (spClosed V w a b).2 := k_al h _ _ _ _
theorem kCan (w a b : Int32) (V : x_M) (h : Vok V) : Vok (spCan V w a b).2 := k_al h _ _ _ _
theorem kDrawn (w a b : Int32) (V : x_M) (h : Vok V) : Vok (spDrawn V w a b).2 := k_al h _ _ _ _
theorem kCanBe (w : Int32) (V : x_M) (h : Vok V) : Vok (spCanBe V w).2 := by
  unfold spCanBe
  exact cif_c (P := VP) (fun _ => cif_c (P := VP) (fun _ => h) (fun _ => h)) (fun _ => Vok_ref h 2)
theorem kCore (w : Int32) (V : x_M) (h : Vok V) : Vok (spCore V w).2 := by
  unfold spCore
  exact cif_c (P := VP) (fun _ => cif_c (P := VP) (fun _ => h) (fun _ => h)) (fun _ => Vok_ref h 2)
theorem kDrawing (w t e : Int32) (V : x_M) (h : Vok V) : Vok (spDrawing V w t e).2 := by
  unfold spDrawing
  exact cif_c (P := VP) (fun _ => cif_c (P := VP) (fun _ => cif_c (P := VP) (fun _ => cif_c (P := VP) (fun _ => h) (fun _ => h)) (fun _ => Vok_ref h 2)) (fun _ => Vok_ref h 2)) (fun _ => Vok_ref h 1)
theorem kWord (w y s : Int32) (V : x_M) (h : Vok V) : Vok (spWord V w y s).2 := by
  unfold spWord
  refine cif_c (P := VP) (fun q1 => cif_c (P := VP) (fun q2 => cif_c (P := VP) (fun q3 => ?_) (fun _ => Vok_ref h 2)) (fun _ => Vok_ref h 2)) (fun _ => Vok_ref h 1)
  obtain ⟨n, hn, e⟩ := q1
  subst e
  show Vok (vWrd V (nv (nI n)) (nv y) s)
  rw [nv_nI (by omega)]
  exact Vok_wrd h hn q3
theorem kSay (w a b : Int32) (V : x_M) (h : Vok V) : Vok (spSay V w a b).2 := by
  unfold spSay
  refine cif_c (P := VP) (fun q1 => cif_c (P := VP) (fun q2 => ?_) (fun _ => Vok_ref h 1)) (fun _ => Vok_ref h 1)
  obtain ⟨n, hn, e⟩ := q1
  subst e
  rw [nv_nI (by omega)]
  exact k_add h q2 (h.2.2.2.1 n 0 hn (by decide)) (h.2.2.2.1 n 1 hn (by decide))
theorem kAsk (w a b : Int32) (V : x_M) (h : Vok V) : Vok (spAsk V w a b).2 := by
  unfold spAsk
  exact cif_c (P := VP) (fun _ => cif_c (P := VP) (fun _ => cif_c (P := VP) (fun _ => h) (fun _ => h)) (fun _ => Vok_ref h 1)) (fun _ => Vok_ref h 1)
theorem kBox (t a z b y : Int32) (V : x_M) (h : Vok V) : Vok (spBox V t a z b y).2 := by
  unfold spBox
  refine cif_c (P := VP) (fun q1 => cif_c (P := VP) (fun _ => Vok_ref h 4) (fun q2 => cif_c (P := VP) (fun _ => Vok_ref h 6) (fun _ => ?_))) (fun _ => Vok_ref h 1)
  obtain ⟨n, hn, e⟩ := q1
  subst e
  show Vok (mDraw V (nv (nI n)) a z b y)
  rw [nv_nI (by omega)]
  exact Vok_draw h hn (Int32.not_le.mp (fun q => q2 (Or.inr (Or.inr (Or.inl q))))) (Int32.not_le.mp (fun q => q2 (Or.inr (Or.inr (Or.inr q)))))
theorem kRub (t : Int32) (V : x_M) (h : Vok V) : Vok (spRub V t).2 := by
  unfold spRub
  exact cif_c (P := VP) (fun _ => cif_c (P := VP) (fun _ => Vok_ref h 3) (fun _ => Vok_rub h _)) (fun _ => Vok_ref h 1)
theorem kRead (w a b : Int32) (V : x_M) (h : Vok V) : Vok (spRead V w a b).2 := by
  unfold spRead
  exact cif_c (P := VP) (fun _ => cif_c (P := VP) (fun _ => cif_c (P := VP) (fun _ => h) (fun _ => Vok_ref h 3)) (fun _ => Vok_ref h 2)) (fun _ => Vok_ref h 1)
theorem kHolds (w a b : Int32) (V : x_M) (h : Vok V) : Vok (spHolds V w a b).2 := by
  unfold spHolds
  exact cif_c (P := VP) (fun _ => cif_c (P := VP) (fun _ => cif_c (P := VP) (fun _ => h) (fun _ => Vok_ref h 3)) (fun _ => Vok_ref h 1)) (fun _ => Vok_ref h 1)
theorem kFits (V : x_M) (h : Vok V) : Vok (spFits V).2 := h
theorem kMoved (w a b : Int32) (V : x_M) (h : Vok V) : Vok (spMoved V w a b).2 := by
  unfold spMoved
  exact cif_c (P := VP) (fun _ => cif_c (P := VP) (fun _ => cif_c (P := VP) (fun _ => cif_c (P := VP) (fun _ => h) (fun _ => h)) (fun _ => Vok_ref h 3)) (fun _ => Vok_ref h 2)) (fun _ => Vok_ref h 1)
theorem kCount (w : Int32) (V : x_M) (h : Vok V) : Vok (spCount V w).2 := by
  unfold spCount
  exact cif_c (P := VP) (fun _ => h) (fun _ => cif_c (P := VP) (fun _ => h) (fun _ => cif_c (P := VP) (fun _ => h) (fun _ => cif_c (P := VP) (fun _ => h) (fun _ => h))))
/-! behind the constructors -/
theorem LI_0 {M0 M1 M : x_M} (h : CIn 8 M0 M1) (h52 : M1 52 = z0) (hr : (∀ k, k < 53 → M k = M1 k) ∧ (M 53 = z0 ∧ M 58 = z0 ∧ M 59 = z0 ∧ M 60 = z0 ∧ M 61 = z0 ∧ M 63 = z0 ∧ M 64 = z0 ∧ M 65 = z0) ∧ ∀ j, j < 16 → M 62 j = nI 8191) (hT : Tb M) : LI 0 M := by
  obtain ⟨a, ⟨b1, b2, b3, b4⟩, ⟨c1, c2⟩, d, -⟩ := h
  obtain ⟨e, ⟨g1, g2, g3, g4, g5, g6, g7, g8⟩, w⟩ := hr
  have r : ∀ k, 0 < k → k < 8 → M k = z0 := fun k h1 h2 => by rw [e k (by omega)]; exact a k h1 h2
  have hN : nN M = 0 := by unfold nN; rw [r 1 (by decide) (by decide)]; rfl
  have hok : OkM M := ⟨by omega, by rw [hN, r 1 (by decide) (by decide)]; rfl, fun w hw i hi => by omega⟩
  have hWP : ∀ q, isWy q → WP M q := fun q hw => by
    refine ⟨hw, hok, ?_, fun h9 => ?_⟩
    · rcases hw with rfl | rfl
      · rw [e 26 (by decide)]; exact b1
      · rw [e 33 (by decide)]; exact b3
    · exfalso
      rw [r 1 (by decide) (by decide), e q (by rcases hw with rfl | rfl <;> decide)] at h9
      rcases hw with rfl | rfl
      · rw [b2] at h9; exact absurd h9 (by decide)
      · rw [b4] at h9; exact absurd h9 (by decide)
  have hV : Vok (vM M) := by
    refine ⟨OkM_v.mpr hok, fun j _ => Or.inl ?_, fun j _ => Or.inl ?_, fun x j hx hj => ⟨8191, by decide, ?_⟩, fun t _ hne => ?_⟩
    · rw [vM_7, r 7 (by decide) (by decide)]; rfl
    · rw [vM_42, e 42 (by decide), c2]; rfl
    · rw [vM_w M hx hj, e (44 + x) (by omega)]; exact d x j hx hj
    · rw [vM_42, e 42 (by decide), c2] at hne; exact absurd rfl hne
  have hvc : vM M = cM M := by
    funext k j
    unfold vM cM
    by_cases k1 : k = 1
    · subst k1
      rw [if_pos rfl, if_pos rfl, r 1 (by decide) (by decide), g1]
    rw [if_neg k1, if_neg k1]
    by_cases k2 : k = 2
    · subst k2; rw [if_pos (by decide), if_pos rfl, r 2 (by decide) (by decide), g2]
    rw [if_neg k2]
    by_cases k3 : k = 3
    · subst k3; rw [if_pos (by decide), if_pos rfl, r 3 (by decide) (by decide), g3]
    rw [if_neg k3]
    by_cases k5 : k = 5
    · subst k5; rw [if_pos (by decide), if_pos rfl, r 5 (by decide) (by decide), g4]; rfl
    rw [if_neg k5]
    by_cases k6 : k = 6
    · subst k6; rw [if_pos (by decide), if_pos rfl, r 6 (by decide) (by decide), g4]; rfl
    rw [if_neg k6]
    by_cases k7 : k = 7
    · subst k7; rw [if_pos (by decide), if_pos rfl, r 7 (by decide) (by decide), g5]
    rw [if_neg k7]
    by_cases k41 : k = 41
    · subst k41; rw [if_pos (by decide), if_pos rfl, e 41 (by decide), c1, g7]
    rw [if_neg k41]
    by_cases k42 : k = 42
    · subst k42; rw [if_pos (by decide), if_pos rfl, e 42 (by decide), c2, g6]
    rw [if_neg k42]
    by_cases k52 : k = 52
    · subst k52; rw [if_pos (by decide), if_pos rfl, e 52 (by decide), h52, g8]
    rw [if_neg k52, if_neg (by omega)]
    by_cases q : 43 < k ∧ k < 52 ∧ j < 2
    · rw [if_pos q, if_pos q, w _ (by omega), e k (by omega)]
      have := d (k - 44) j (by omega) (by omega)
      rw [show 44 + (k - 44) = k by omega] at this
      exact this
    · rw [if_neg q, if_neg q]
  refine ⟨⟨⟨hWP 26 w26, hWP 33 w33, 0, Nat.le_refl _, by rw [r 1 (by decide) (by decide)]; rfl, fun q hq => Or.inl ?_⟩, hV⟩, ⟨hT, by rw [← hvc]; exact hV⟩, hvc⟩
  rcases hq with rfl | rfl
  · rw [e 26 (by decide)]; exact b2
  · rw [e 33 (by decide)]; exact b4
