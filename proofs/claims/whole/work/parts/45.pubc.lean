/-! THE CLASS'S STEPS THAT CHANGE WHAT IS SHOWN -/
theorem CW_step {c : Nat} {M M' : x_M} (h : CW c M) (hc : c < 2 ^ 20) (hok : OkM M') (h1 : M' 1 5 = M 1 5 + nI 1) (hq : ∀ k, 25 < k → k < 40 → M' k = M k) : CW (c + 1) M' := by
  obtain ⟨a, b, n, c1, c2, c3⟩ := h
  have h15 : M' 1 5 = nI (n + 1) := by rw [h1, c2, nI_add]
  have hv : ∀ q, isWy q → ¬ M' q 9 = M' 1 5 := fun q hw e => by
    rw [hq q (by rcases hw with rfl | rfl <;> omega) (by rcases hw with rfl | rfl <;> omega), h15] at e
    rcases c3 q hw with e2 | ⟨k, hk, e2⟩
    · rw [e2] at e
      exact m1_ne (v := n + 1) (by omega) e.symm
    · rw [e2, nI_eq (by omega) (by omega)] at e
      omega
  have hW : ∀ q, isWy q → WP M q → WP M' q := fun q hw hp => ⟨hw, hok, by rw [hq q (by rcases hw with rfl | rfl <;> omega) (by rcases hw with rfl | rfl <;> omega)]; exact hp.2.2.1, fun e => absurd e (hv q hw)⟩
  refine ⟨hW 26 w26 a, hW 33 w33 b, n + 1, by omega, h15, fun q hw => ?_⟩
  rw [hq q (by rcases hw with rfl | rfl <;> omega) (by rcases hw with rfl | rfl <;> omega)]
  rcases c3 q hw with e2 | ⟨k, hk, e2⟩
  · exact Or.inl e2
  · exact Or.inr ⟨k, by omega, e2⟩
theorem OkM_add {V : x_M} (h : OkM V) (hn : nN V < 30) {a b o u : Int32} (h2 : Two a b) (ho : Th 8192 o) (hu : Th 8192 u) : OkM (vAdd V (nN V) a b o u) := by
  obtain ⟨⟨an, ha, rfl⟩, ⟨bn, hb, rfl⟩, hab⟩ := h2
  obtain ⟨on, ho, rfl⟩ := ho
  obtain ⟨un, hu, rfl⟩ := hu
  have hne : an ≠ bn := fun e => hab (by rw [e])
  obtain ⟨h1, h3, h4⟩ := h
  have e14 : vAdd V (nN V) (nI an) (nI bn) (nI on) (nI un) 1 4 = nI (nN V + 1) := rfl
  have eN : nN (vAdd V (nN V) (nI an) (nI bn) (nI on) (nI un)) = nN V + 1 := by
    show nv (nI (nN V + 1)) = _
    exact nv_nI (by omega)
  have e2 : vAdd V (nN V) (nI an) (nI bn) (nI on) (nI un) 2 = upd (V 2) (nN V) (nI an) := rfl
  have e3 : vAdd V (nN V) (nI an) (nI bn) (nI on) (nI un) 3 = upd (V 3) (nN V) (nI bn) := rfl
  refine ⟨by rw [eN]; omega, by rw [eN]; exact e14, fun w hw i hi => ?_⟩
  rw [eN] at hi
  have e5 : vAdd V (nN V) (nI an) (nI bn) (nI on) (nI un) (5 + w) = upd (V (5 + w)) (nN V) (nI (if w = 0 then on else un)) := by
    rcases (show w = 0 ∨ w = 1 by omega) with rfl | rfl <;> rfl
  unfold nA nB nS
  rw [e2, e3, e5]
  unfold upd
  by_cases e : i = nN V
  · subst e
    simp only [if_true]
    have hlt : (if w = 0 then on else un) < 8192 := by split <;> assumption
    rw [nv_nI (by omega), nv_nI (by omega), nv_nI (by omega)]
    exact ⟨ha, hb, hne, hlt, rfl, rfl, rfl⟩
  · simp only [if_neg e]
    exact h4 w hw i (by omega)
theorem OkM_sil {V : x_M} (h : OkM V) (i : Nat) (x : Int32) : OkM (vSil V i x) := by
  obtain ⟨h1, h3, h4⟩ := h
  refine ⟨h1, h3, fun w hw j hj => ?_⟩
  have e5 : vSil V i x (5 + w) = V (5 + w) := x_row_ne _ _ (by omega)
  have := h4 w hw j hj
  unfold nS
  rw [e5]
  exact this
theorem CE_add {M : x_M} (hok : OkM M) (hn : nN M < 30) {a b o u : Int32} (h2 : Two a b) (ho : Th 8192 o) (hu : Th 8192 u) {p : Int32 × x_M} (hp : p = (nI (nN M), vAdd (vM M) (nN M) a b o u)) : CEnd M (mAdd M (nN M) a b o u) (some (.inl (nI (nN M)))) p := by
  subst hp
  refine ⟨fun k hk => ?_, fun c hc h => ?_, rfl, vM_add M _ _ _ _ _⟩
  · unfold mAdd; rw [if_neg (by omega), if_neg (by omega), if_neg (by omega), if_neg (by omega), if_neg (by omega), if_neg (by omega)]
  · refine CW_step h.1 hc ?_ rfl (fun k a b => ?_)
    · rw [← OkM_v, vM_add]
      exact OkM_add (OkM_v.mpr hok) hn h2 ho hu
    · unfold mAdd; rw [if_neg (by omega), if_neg (by omega), if_neg (by omega), if_neg (by omega), if_neg (by omega), if_neg (by omega)]
theorem CE_sil {M : x_M} (hok : OkM M) (i : Nat) (x : Int32) {p : Int32 × x_M} (hp : p = (cif (M 7 i = tl x) (nI 0) (nI 1), vSil (vM M) i x)) : CEnd M (mSil M i x) (some (.inl (if M 7 i = tl x then nI 0 else nI 1))) p := by
  subst hp
  refine ⟨fun k hk => ?_, fun c hc h => ?_, ?_, vM_sil M i x⟩
  · unfold mSil
    by_cases e : M 7 i = tl x
    · rw [if_pos e]
    · rw [if_neg e]; show (if k = 7 then _ else if k = 1 then _ else M k) = _; rw [if_neg (by omega), if_neg (by omega)]
  · by_cases e : M 7 i = tl x
    · have : mSil M i x = M := if_pos e
      rw [this]
      exact CW_keep h.1 (fun _ _ => rfl)
    · have e2 : mSil M i x = fun k => if k = 7 then upd (M 7) i (tl x) else if k = 1 then upd (M 1) 5 (M 1 5 + nI 1) else M k := if_neg e
      refine CW_step h.1 hc ?_ (by rw [e2]; rfl) (fun k a b => ?_)
      · rw [← OkM_v, vM_sil]
        exact OkM_sil (OkM_v.mpr hok) i x
      · rw [e2]; show (if k = 7 then _ else if k = 1 then _ else M k) = _; rw [if_neg (by omega), if_neg (by omega)]
  · show some (Sum.inl _) = some (Sum.inl _)
    by_cases e : M 7 i = tl x
    · rw [if_pos e, cif_t e]
    · rw [if_neg e, cif_f e]
theorem CE_row {M : x_M} {k : Nat} {f : Nat → Int32} {v : Int32} {V : x_M} {p : Int32 × x_M} (hk : 39 < k) (hk2 : k < 53) (hV : vM (x_row M k f) = V) (hp : p = (v, V)) : CEnd M (x_row M k f) (some (.inl v)) p := by
  subst hp
  exact ⟨fun j hj => x_row_ne _ _ (by omega), fun c _ h => CW_keep h.1 (fun j hj => x_row_ne _ _ (by omega)), rfl, hV⟩
theorem CE_draw {M : x_M} {t : Nat} {a z b y v : Int32} {p : Int32 × x_M} (hp : p = (v, mDraw (vM M) t a z b y)) : CEnd M (mDraw M t a z b y) (some (.inl v)) p := by
  subst hp
  have e : ∀ k, k ≠ 41 → k ≠ 42 → mDraw M t a z b y k = M k := fun k h1 h2 => by unfold mDraw; rw [if_neg h2, if_neg h1]
  exact ⟨fun j hj => e j (by omega) (by omega), fun c _ h => CW_keep h.1 (fun j hj => e j (by omega) (by omega)), rfl, vM_draw M t a z b y⟩
theorem stw : ∀ w, w < 8 → ([44, 45, 46, 47, 48, 49, 50, 51] : List Nat).getD w 0 = 44 + w := by decide
theorem SHwd : ∀ w, w < 8 → SH[44 + w]? = some (.inr (.inl (false, 2))) := by
  intro w hw
  rcases (show w = 0 ∨ w = 1 ∨ w = 2 ∨ w = 3 ∨ w = 4 ∨ w = 5 ∨ w = 6 ∨ w = 7 by omega) with rfl | rfl | rfl | rfl | rfl | rfl | rfl | rfl <;> rfl
theorem k_full {n : Nat} (h : n ≤ 30) : (n = 30 ∧ (if 30 ≤ n then nI 1 else nI 0) = nI 1) ∨ (¬ n = 30 ∧ (if 30 ≤ n then nI 1 else nI 0) = nI 0) := by
  by_cases e : n = 30
  · exact Or.inl ⟨e, if_pos (by omega)⟩
  · exact Or.inr ⟨e, if_neg (by omega)⟩
theorem k_has {n : Nat} (h : n ≤ 30) (x : Int32) : (Th n x ∧ (if 0 ≤ x ∧ x < nI n then nI 1 else nI 0) = nI 1) ∨ (¬ Th n x ∧ (if 0 ≤ x ∧ x < nI n then nI 1 else nI 0) = nI 0) := by
  have := Th_lt (N := n) (by omega) (x := x)
  by_cases e : Th n x
  · exact Or.inl ⟨e, if_pos (this.mp e)⟩
  · exact Or.inr ⟨e, if_neg (fun q => e (this.mpr q))⟩
theorem k_b {v : Int32} (h : v = nI 0 ∨ v = nI 1) : v = 0 ∨ v = 1 := h
theorem Vb {V : x_M} (h : Vok V) : (∀ j, j < 30 → V 7 j = nI 0 ∨ V 7 j = nI 1) ∧ (∀ j, j < 6 → V 42 j = nI 0 ∨ V 42 j = nI 1) := ⟨h.2.1, h.2.2.1⟩
