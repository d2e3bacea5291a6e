/-! WHAT IS ASKED: the state that calls show, and the answers as functions of it -/
noncomputable def cif {α : Type} (p : Prop) (a b : α) : α := @ite α p (Classical.propDecidable p) a b
theorem cif_t {α : Type} {p : Prop} {a b : α} (h : p) : cif p a b = a := if_pos h
theorem cif_f {α : Type} {p : Prop} {a b : α} (h : ¬ p) : cif p a b = b := if_neg h
def vM (M : x_M) : x_M := fun k j => if k = 1 then (if j = 4 then M 1 4 else 0) else if k = 2 ∨ k = 3 ∨ k = 5 ∨ k = 6 ∨ k = 7 ∨ k = 41 ∨ k = 42 ∨ k = 52 then M k j else if 43 < k ∧ k < 52 ∧ j < 2 then M k j else 0
def cM (M : x_M) : x_M := fun k j => if k = 1 then (if j = 4 then M 53 4 else 0) else if k = 2 then M 58 j else if k = 3 then M 59 j else if k = 5 then M 60 (2 * j) else if k = 6 then M 60 (2 * j + 1) else if k = 7 then M 61 j else if k = 41 then M 64 j else if k = 42 then M 63 j else if k = 52 then M 65 j else if 43 < k ∧ k < 52 ∧ j < 2 then M 62 (2 * (k - 44) + j) else 0
theorem vM_cg {M M' : x_M} (h : ∀ k, k < 8 ∨ (40 < k ∧ k < 53) → M' k = M k) : vM M' = vM M := by
  funext k j
  unfold vM
  rw [h 1 (by omega)]
  split
  · rfl
  · split
    · rw [h k (by omega)]
    · split
      · rw [h k (by omega)]
      · rfl
theorem cM_cg {M M' : x_M} (h : ∀ k, 52 < k → k < 66 → M' k = M k) : cM M' = cM M := by
  funext k j
  unfold cM
  rw [h 53 (by omega) (by omega), h 58 (by omega) (by omega), h 59 (by omega) (by omega), h 60 (by omega) (by omega), h 61 (by omega) (by omega), h 62 (by omega) (by omega), h 63 (by omega) (by omega), h 64 (by omega) (by omega), h 65 (by omega) (by omega)]
theorem vM_k {M M' : x_M} {k : Nat} (h : k ≠ 1) (e : M k = M' k) : vM M k = vM M' k := by
  funext j; unfold vM; rw [if_neg h, if_neg h, e]
theorem vM_k1 {M M' : x_M} (e : M 1 4 = M' 1 4) : vM M 1 = vM M' 1 := by
  funext j; show (if j = 4 then M 1 4 else 0) = (if j = 4 then M' 1 4 else 0); rw [e]
theorem vM_14 (M : x_M) : vM M 1 4 = M 1 4 := rfl
theorem vM_2 (M : x_M) : vM M 2 = M 2 := rfl
theorem vM_3 (M : x_M) : vM M 3 = M 3 := rfl
theorem vM_5 (M : x_M) : vM M 5 = M 5 := rfl
theorem vM_6 (M : x_M) : vM M 6 = M 6 := rfl
theorem vM_7 (M : x_M) : vM M 7 = M 7 := rfl
theorem vM_41 (M : x_M) : vM M 41 = M 41 := rfl
theorem vM_42 (M : x_M) : vM M 42 = M 42 := rfl
theorem vM_52 (M : x_M) : vM M 52 = M 52 := rfl
theorem vM_w (M : x_M) {w j : Nat} (hw : w < 8) (hj : j < 2) : vM M (44 + w) j = M (44 + w) j := by
  unfold vM; rw [if_neg (by omega), if_neg (by omega), if_pos (by omega)]
theorem vM_s (M : x_M) {w : Nat} (hw : w < 2) : vM M (5 + w) = M (5 + w) := by
  have : w = 0 ∨ w = 1 := by omega
  rcases this with rfl | rfl <;> rfl
theorem nN_v (M : x_M) : nN (vM M) = nN M := rfl
theorem nA_v (M : x_M) : nA (vM M) = nA M := rfl
theorem nB_v (M : x_M) : nB (vM M) = nB M := rfl
theorem nS_v (M : x_M) {w : Nat} (hw : w < 2) : nS (vM M) w = nS M w := by funext i; unfold nS; rw [vM_s M hw]
theorem tF_v (M : x_M) {w : Nat} (hw : w < 2) : tF (vM M) w = tF M w := by unfold tF; rw [nS_v M hw]; rfl
theorem coM_v (M : x_M) {w : Nat} (hw : w < 2) : coM (vM M) w = coM M w := by unfold coM; rw [nS_v M hw]; rfl
theorem Sts_v {M : x_M} {w n : Nat} {A B s : Nat → Nat} (hw : w < 2) : Sts (vM M) w n A B s ↔ Sts M w n A B s := by unfold Sts; rw [vM_s M hw]; exact Iff.rfl
theorem OkM_v {M : x_M} : OkM (vM M) ↔ OkM M := by
  unfold OkM
  constructor
  · rintro ⟨a, b, c⟩
    exact ⟨a, b, fun w hw => by have := c w hw; rw [nS_v M hw, Sts_v hw] at this; exact this⟩
  · rintro ⟨a, b, c⟩
    exact ⟨a, b, fun w hw => by rw [nS_v M hw, Sts_v hw]; exact c w hw⟩
theorem bxr_v (M : x_M) (w a b : Nat) : bxr (vM M) w a b = bxr M w a b := rfl
/-! changes of what is shown -/
theorem vM_ref (M : x_M) (p : Nat) : vM (mRef M p) = mRef (vM M) p := by
  funext k j
  unfold mRef
  by_cases h : k = 52
  · subst h; rw [x_row_self]; show (x_row M 52 (upd (M 52) p (M 52 p + nI 1))) 52 j = _; rw [x_row_self]; rfl
  · rw [x_row_ne _ _ h]; unfold vM; rw [x_row_ne _ _ (show 1 ≠ 52 by decide), x_row_ne _ _ h]
def vAdd (V : x_M) (n : Nat) (a b o u : Int32) : x_M := fun k => if k = 1 then upd (V 1) 4 (nI (n + 1)) else if k = 7 then upd (V 7) n (nI 1) else if k = 6 then upd (V 6) n u else if k = 5 then upd (V 5) n o else if k = 3 then upd (V 3) n b else if k = 2 then upd (V 2) n a else V k
theorem vM_add (M : x_M) (n : Nat) (a b o u : Int32) : vM (mAdd M n a b o u) = vAdd (vM M) n a b o u := by
  funext k j
  unfold vAdd
  by_cases h1 : k = 1
  · subst h1
    rw [if_pos rfl]
    show (if j = 4 then nI (n + 1) else 0) = (if j = 4 then nI (n + 1) else (if j = 4 then M 1 4 else 0))
    split <;> rfl
  · rw [if_neg h1]
    by_cases h7 : k = 7
    · subst h7; rfl
    · rw [if_neg h7]
      by_cases h6 : k = 6
      · subst h6; rfl
      · rw [if_neg h6]
        by_cases h5 : k = 5
        · subst h5; rfl
        · rw [if_neg h5]
          by_cases h3 : k = 3
          · subst h3; rfl
          · rw [if_neg h3]
            by_cases h2 : k = 2
            · subst h2; rfl
            · rw [if_neg h2]
              have e : mAdd M n a b o u k = M k := by unfold mAdd; rw [if_neg h1, if_neg h7, if_neg h6, if_neg h5, if_neg h3, if_neg h2]
              rw [vM_k h1 e]
def vSil (V : x_M) (i : Nat) (x : Int32) : x_M := x_row V 7 (upd (V 7) i (tl x))
theorem upd_id (f : Nat → Int32) (i : Nat) (v : Int32) (h : f i = v) : upd f i v = f := by
  funext j; unfold upd; split
  · rename_i e; rw [e, h]
  · rfl
theorem vM_sil (M : x_M) (i : Nat) (x : Int32) : vM (mSil M i x) = vSil (vM M) i x := by
  unfold mSil vSil
  by_cases h : M 7 i = tl x
  · rw [if_pos h, upd_id (vM M 7) _ _ h, x_row_id]
  · rw [if_neg h]
    funext k j
    by_cases h7 : k = 7
    · subst h7; rw [x_row_self]; rfl
    · rw [x_row_ne _ _ h7]
      by_cases h1 : k = 1
      · subst h1; exact congrFun (vM_k1 (M' := M) rfl) j
      · exact congrFun (vM_k (M' := M) h1 ((if_neg h7).trans (if_neg h1))) j
theorem vM_row42 (M : x_M) (f : Nat → Int32) : vM (x_row M 42 f) = x_row (vM M) 42 f := by
  funext k j
  by_cases h : k = 42
  · subst h; rw [x_row_self]; show x_row M 42 f 42 j = _; rw [x_row_self]
  · rw [x_row_ne _ _ h]; unfold vM; rw [x_row_ne _ _ (show 1 ≠ 42 by decide), x_row_ne _ _ h]
theorem vM_draw (M : x_M) (t : Nat) (a z b y : Int32) : vM (mDraw M t a z b y) = mDraw (vM M) t a z b y := by
  funext k j
  unfold mDraw
  by_cases h : k = 42
  · subst h; rfl
  · rw [if_neg h]
    by_cases h2 : k = 41
    · subst h2; rfl
    · rw [if_neg h2]
      by_cases h1 : k = 1
      · subst h1; exact congrFun (vM_k1 (M' := M) rfl) j
      · exact congrFun (vM_k (M' := M) h1 ((if_neg h).trans (if_neg h2))) j
def vWrd (V : x_M) (w j : Nat) (x : Int32) : x_M := x_row V (44 + w) (upd (V (44 + w)) j x)
theorem vM_wrd (M : x_M) {w j : Nat} (hw : w < 8) (hj : j < 2) (x : Int32) : vM (x_row M (44 + w) (upd (M (44 + w)) j x)) = vWrd (vM M) w j x := by
  funext k i
  unfold vWrd
  by_cases h : k = 44 + w
  · subst h
    rw [x_row_self]
    unfold vM upd
    simp only []
    rw [x_row_self]
    by_cases e : i = j
    · subst e; rw [if_neg (by omega), if_neg (by omega), if_pos ⟨by omega, by omega, hj⟩, if_pos rfl, if_pos rfl]
    · rw [if_neg (show ¬ (44 + w = 1) by omega), if_neg (show ¬ (44 + w = 1) by omega), if_neg e, if_neg e]
  · rw [x_row_ne _ _ h]
    by_cases h1 : k = 1
    · subst h1; rw [vM_k1 (M' := M) (by rw [x_row_ne _ _ (by omega)])]
    · rw [vM_k (M' := M) h1 (x_row_ne _ _ h)]
/-! the answers -/
def rf (V : x_M) (p : Nat) : Int32 × x_M := (-(nI p), mRef V p)
noncomputable def clF (f : Nat → Nat) : Nat → Nat := Classical.epsilon (Cl f)
theorem clF_e {f g : Nat → Nat} (h : Cl f g) {a b : Nat} (ha : a < 6) (hb : b < 6) (hab : a ≠ b) : g (a * 6 + b) = clF f (a * 6 + b) := Cl_u h (Classical.epsilon_spec (p := Cl f) ⟨g, h⟩) ha hb hab
noncomputable def caF (f : Nat → Nat) (a b : Nat) : Nat := Classical.epsilon (CanV f a b)
theorem caF_e {f : Nat → Nat} {a b v : Nat} (h : CanV f a b v) : v = caF f a b := CanV_u h (Classical.epsilon_spec (p := CanV f a b) ⟨v, h⟩)
noncomputable def fsF (f : Nat → Nat) : Nat → Nat := Classical.epsilon (Fs f)
theorem fsF_e {f s : Nat → Nat} (h : Fs f s) : ∀ q, q < 15 → s q = fsF f q := Fs_u h (Classical.epsilon_spec (p := Fs f) ⟨s, h⟩)
theorem fsF_lt {f s : Nat → Nat} (h : Fs f s) : ∀ q, q < 15 → fsF f q < 13 := fun q hq => by
  have : s q = fsF f q := fsF_e h q hq
  obtain ⟨⟨P, -, -, e⟩, -⟩ := h
  rw [← this, ← e q hq]; exact rl_lt P q
/-- the net of a drawing -/
def dn (s : Nat → Nat) : Nat → Nat := fun j => 2 ^ rel s (j / 6) (j % 6)
def rkG (s : Nat → Nat) (e : Nat) : Nat := rkf (dn s) e 12
noncomputable def spTurned (V : x_M) (x : Int32) : Int32 × x_M := cif (Th 8192 x) (nI (tn (nv x)), V) (rf V 2)
noncomputable def spComposed (V : x_M) (x y : Int32) : Int32 × x_M := cif (Th 8192 x) (cif (Th 8192 y) (nI (cm (nv x) (nv y)), V) (rf V 2)) (rf V 2)
noncomputable def spNear (V : x_M) (x y : Int32) : Int32 × x_M := cif (Th 13 x) (cif (Th 13 y) (nI (bi (neT (nv x)) (nv y)), V) (rf V 1)) (rf V 1)
noncomputable def spSteps (V : x_M) (x y : Int32) : Int32 × x_M := cif (Th 13 x) (cif (Th 13 y) (nI (stp (nv x) (nv y)), V) (rf V 1)) (rf V 1)
noncomputable def spAdd (V : x_M) (a b o u : Int32) : Int32 × x_M := cif (nN V = 30) (rf V 6) (nI (nN V), vAdd V (nN V) a b o u)
noncomputable def spTell (V : x_M) (a b o u : Int32) : Int32 × x_M := cif (Two a b) (cif (Th 8192 o) (cif (Th 8192 u) (spAdd V a b o u) (rf V 2)) (rf V 2)) (rf V 1)
noncomputable def spSilent (V : x_M) (s x : Int32) : Int32 × x_M := cif (Th (nN V) s) (cif (V 7 (nv s) = tl x) (nI 0) (nI 1), vSil V (nv s) x) (rf V 1)
noncomputable def spStatement (V : x_M) (s w : Int32) : Int32 × x_M := cif (Th (nN V) s) (cif (w = nI 0) (V 2 (nv s), V) (cif (w = nI 1) (V 3 (nv s), V) (cif (w = nI 2) (V 5 (nv s), V) (cif (w = nI 3) (V 6 (nv s), V) (cif (w = nI 4) (V 7 (nv s), V) (rf V 2)))))) (rf V 1)
noncomputable def spAl (V : x_M) (w a b : Int32) (v : Int32) : Int32 × x_M := cif (Two a b) (cif (Th 2 w) (v, V) (rf V 2)) (rf V 1)
noncomputable def spTold (V : x_M) (w a b : Int32) : Int32 × x_M := spAl V w a b (nI (tF V (nv w) (nv a * 6 + nv b)))
noncomputable def spClosed (V : x_M) (w a b : Int32) : Int32 × x_M := spAl V w a b (nI (clF (tF V (nv w)) (nv a * 6 + nv b)))
noncomputable def spCanBe (V : x_M) (w : Int32) : Int32 × x_M := cif (Th 2 w) (cif (Sat (tF V (nv w))) (nI 1, V) (nI 0, V)) (rf V 2)
noncomputable def spCan (V : x_M) (w a b : Int32) : Int32 × x_M := spAl V w a b (nI (caF (tF V (nv w)) (nv a) (nv b)))
noncomputable def spDrawing (V : x_M) (w t e : Int32) : Int32 × x_M := cif (Th 6 t) (cif (Th 2 w) (cif (Th 2 e) (cif (Sat (tF V (nv w))) (nI (rkG (fsF (tF V (nv w))) (nv t * 2 + nv e)), V) (-(nI 9), V)) (rf V 2)) (rf V 2)) (rf V 1)
noncomputable def spDrawn (V : x_M) (w a b : Int32) : Int32 × x_M := spAl V w a b (cif (Sat (tF V (nv w))) (nI (rel (fsF (tF V (nv w))) (nv a) (nv b))) (-(nI 9)))
noncomputable def spCore (V : x_M) (w : Int32) : Int32 × x_M := cif (Th 2 w) (cif (Sat (tF V (nv w))) (nI 0, V) (nI (coM V (nv w)), V)) (rf V 2)
noncomputable def spWord (V : x_M) (w y s : Int32) : Int32 × x_M := cif (Th 8 w) (cif (Th 2 y) (cif (Th 8192 s) (V (44 + nv w) (nv y), vWrd V (nv w) (nv y) s) (rf V 2)) (rf V 2)) (rf V 1)
noncomputable def spSay (V : x_M) (w a b : Int32) : Int32 × x_M := cif (Th 8 w) (cif (Two a b) (spAdd V a b (V (44 + nv w) 0) (V (44 + nv w) 1)) (rf V 1)) (rf V 1)
noncomputable def aska (V : x_M) (w a b : Nat) : Int32 := cif (caF (tF V 0) a b &&& nv (V (44 + w) 0) = 0 ∨ caF (tF V 1) a b &&& nv (V (44 + w) 1) = 0) (nI 0) (cif (caF (tF V 0) a b &&& nv (V (44 + w) 0) = caF (tF V 0) a b ∧ caF (tF V 1) a b &&& nv (V (44 + w) 1) = caF (tF V 1) a b) (nI 1) (nI 2))
noncomputable def spAsk (V : x_M) (w a b : Int32) : Int32 × x_M := cif (Th 8 w) (cif (Two a b) (cif (Sat (tF V 0) ∧ Sat (tF V 1)) (aska V (nv w) (nv a) (nv b), V) (-(nI 9), V)) (rf V 1)) (rf V 1)
noncomputable def spBox (V : x_M) (t a z b y : Int32) : Int32 × x_M := cif (Th 6 t) (cif (a < nI 0 ∨ b < nI 0 ∨ z ≤ a ∨ y ≤ b) (rf V 4) (cif (nI 99 < z ∨ nI 99 < y) (rf V 6) (cif (V 42 (nv t) = 0) (nI 1) (nI 0), mDraw V (nv t) a z b y))) (rf V 1)
noncomputable def spRub (V : x_M) (t : Int32) : Int32 × x_M := cif (Th 6 t) (cif (V 42 (nv t) = 0) (rf V 3) (nI 1, x_row V 42 (upd (V 42) (nv t) (nI 0)))) (rf V 1)
def Bth (V : x_M) (a b : Int32) : Prop := V 42 (nv a) ≠ 0 ∧ V 42 (nv b) ≠ 0
noncomputable def spRead (V : x_M) (w a b : Int32) : Int32 × x_M := cif (Two a b) (cif (Th 2 w) (cif (Bth V a b) (nI (bxr V (nv w) (nv a) (nv b)), V) (rf V 3)) (rf V 2)) (rf V 1)
def agr (V : x_M) (a b : Nat) (o u : Nat) : Prop := bi o (bxr V 0 a b) = 1 ∧ bi u (bxr V 1 a b) = 1
noncomputable def spHolds (V : x_M) (w a b : Int32) : Int32 × x_M := cif (Th 8 w) (cif (Two a b) (cif (Bth V a b) (cif (agr V (nv a) (nv b) (nv (V (44 + nv w) 0)) (nv (V (44 + nv w) 1))) (nI 1) (nI 0), V) (rf V 3)) (rf V 1)) (rf V 1)
def msf (V : x_M) (i : Nat) : Prop := V 7 i ≠ 0 ∧ V 42 (nA V i) ≠ 0 ∧ V 42 (nB V i) ≠ 0 ∧ ¬ agr V (nA V i) (nB V i) (nS V 0 i) (nS V 1 i)
noncomputable def fit (V : x_M) : Nat → Nat
  | 0 => 0
  | i + 1 => cif (msf V i) (fit V i + 1) (fit V i)
noncomputable def spFits (V : x_M) : Int32 × x_M := (nI (fit V (nN V)), V)
noncomputable def spMoved (V : x_M) (w a b : Int32) : Int32 × x_M := cif (Two a b) (cif (Th 2 w) (cif (Bth V a b) (cif (Sat (tF V (nv w))) (nI (stp (bxr V (nv w) (nv a) (nv b)) (rel (fsF (tF V (nv w))) (nv a) (nv b))), V) (-(nI 9), V)) (rf V 3)) (rf V 2)) (rf V 1)
noncomputable def spCount (V : x_M) (w : Int32) : Int32 × x_M := cif (w = nI 0) (V 1 4, V) (cif (w = nI 1) (nI (cnz (V 7) (nN V)), V) (cif (w = nI 2) (nI (cnz (V 42) 6), V) (cif (nI 11 ≤ w ∧ w ≤ nI 16) (V 52 (nv w - 10), V) (-(nI 9), V))))
/-! what holds of the state -/
def Vok (V : x_M) : Prop := OkM V ∧ (∀ j, j < 30 → V 7 j = nI 0 ∨ V 7 j = nI 1) ∧ (∀ j, j < 6 → V 42 j = nI 0 ∨ V 42 j = nI 1) ∧ (∀ w j, w < 8 → j < 2 → Th 8192 (V (44 + w) j)) ∧ (∀ t, t < 6 → V 42 t ≠ 0 → V 41 (t * 4) < V 41 (t * 4 + 1) ∧ V 41 (t * 4 + 2) < V 41 (t * 4 + 3))
def Cnt (c : Nat) (M : x_M) : Prop := ∃ n, n ≤ c ∧ M 1 5 = nI n ∧ ∀ q, isWy q → M q 9 = -(nI 1) ∨ ∃ k, k ≤ n ∧ M q 9 = nI k
def CW (c : Nat) (M : x_M) : Prop := WP M 26 ∧ WP M 33 ∧ Cnt c M
def CI (c : Nat) (M : x_M) : Prop := CW c M ∧ Vok (vM M)
def CEnd (M M' : x_M) (rv : Option x_V) (p : Int32 × x_M) : Prop := (∀ k, 52 < k → M' k = M k) ∧ (∀ c, c < 2 ^ 20 → CI c M → CW (c + 1) M') ∧ rv = some (.inl p.1) ∧ vM M' = p.2
theorem Cnt_mono {c : Nat} {M : x_M} (h : Cnt c M) : Cnt (c + 1) M := by
  obtain ⟨n, a, b⟩ := h
  exact ⟨n, by omega, b⟩
theorem w26 : isWy 26 := Or.inl rfl
theorem w33 : isWy 33 := Or.inr rfl
theorem WP_keep {M M' : x_M} {q : Nat} (hp : WP M q) (h : ∀ k, k < 8 ∨ (q ≤ k ∧ k ≤ q + 6) → M' k = M k) : WP M' q := by
  obtain ⟨a1, a2, a3, a4⟩ := hp
  have h7 : St7 M M' := fun k hk => h k (Or.inl hk)
  obtain ⟨-, -, -, -, e5, e6⟩ := St7_w h7 (wo_lt q)
  refine ⟨a1, St7_ok h7 a2, by rw [h q (by omega)]; exact a3, fun e => ?_⟩
  rw [e5, e6]
  rw [h q (by omega), h 1 (by omega)] at e
  exact WW_keep (a4 e) (fun k x y _ => h k (by omega))
theorem CW_keep {c : Nat} {M M' : x_M} (h : CW c M) (h1 : ∀ k, k < 8 ∨ (25 < k ∧ k < 40) → M' k = M k) : CW (c + 1) M' := by
  obtain ⟨a, b, n, c1, c2, c3⟩ := h
  refine ⟨WP_keep a (fun k hk => h1 k (by omega)), WP_keep b (fun k hk => h1 k (by omega)), n, by omega, by rw [h1 1 (by omega)]; exact c2, fun q hq => ?_⟩
  rw [h1 q (by rcases hq with rfl | rfl <;> omega)]
  exact c3 q hq
theorem CE_same (M : x_M) (v : Int32) : CEnd M M (some (.inl v)) (v, vM M) := ⟨fun _ _ => rfl, fun c _ h => CW_keep h.1 (fun _ _ => rfl), rfl, rfl⟩
theorem CE_ref (M : x_M) (p : Nat) : CEnd M (mRef M p) (some (.inl (-(nI p)))) (rf (vM M) p) :=
  ⟨fun k hk => x_row_ne _ _ (by omega), fun c _ h => CW_keep h.1 (fun k hk => x_row_ne _ _ (by omega)), rfl, vM_ref M p⟩
theorem CE_way {M M' : x_M} {q : Nat} {v v2 : Int32} (hw : isWy q) (h : Ed M q M') (hv : v = v2) : CEnd M M' (some (.inl v)) (v2, vM M) := by
  subst hv
  refine ⟨fun k hk => h.1 k (by omega) (by rcases hw with rfl | rfl <;> omega), fun c _ hc => ?_, rfl, vM_cg (fun k hk => h.1 k (by omega) (by rcases hw with rfl | rfl <;> omega))⟩
  obtain ⟨⟨a, b, n, c1, c2, c3⟩, -⟩ := hc
  have e1 : M' 1 = M 1 := h.1 1 (by omega) (by rcases hw with rfl | rfl <;> omega)
  rcases hw with rfl | rfl
  · refine ⟨Ed_WP a h, WP_keep b (fun k hk => h.1 k (by omega) (by omega)), n, by omega, by rw [e1]; exact c2, fun q hq => ?_⟩
    rcases hq with rfl | rfl
    · exact Or.inr ⟨n, Nat.le_refl _, by rw [h.2.2.1]; exact c2⟩
    · rw [h.1 33 (by omega) (by omega)]; exact c3 33 w33
  · refine ⟨WP_keep a (fun k hk => h.1 k (by omega) (by omega)), Ed_WP b h, n, by omega, by rw [e1]; exact c2, fun q hq => ?_⟩
    rcases hq with rfl | rfl
    · rw [h.1 26 (by omega) (by omega)]; exact c3 26 w26
    · exact Or.inr ⟨n, Nat.le_refl _, by rw [h.2.2.1]; exact c2⟩
