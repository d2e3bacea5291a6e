/-! FOR THE PUBLIC METHODS: switches, yes and no, ways -/
def x_cs (J : Nat → Prop) (x : Int32) : List Nat → Nat → Prop
  | [], _ => True
  | T :: ts, j => (x = nI j → J T) ∧ x_cs J x ts (j + 1)
theorem x_cs_at {J : Nat → Prop} {x : Int32} : ∀ (ts : List Nat) (i : Nat), x_cs J x ts i → ∀ j T, ts[j]? = some T → x = nI (i + j) → J T
  | [], _, _, j, T, h, _ => by simp at h
  | t :: ts, i, hc, 0, T, h, e => by
    simp only [List.getElem?_cons_zero, Option.some.injEq] at h
    subst h
    exact hc.1 e
  | t :: ts, i, hc, j + 1, T, h, e => by
    rw [List.getElem?_cons_succ] at h
    exact x_cs_at ts (i + 1) hc.2 j T h (by rw [e]; congr 1; omega)
theorem n_int {j : Nat} (hj : j < 2 ^ 31) : (nI j).toInt = (j : Int) := by
  unfold nI
  exact Int32.toInt_ofNat_of_lt (by omega)
theorem xt_sw {X : x_X} {Z : Instr → List x_V → List x_S → x_M → Nat → Nat → Prop} {J : x_J} {c : List (Instr × Nat)} {pc n : Nat} {ls st : List x_V} {S : List x_S} {M : x_M} {cs sl : Nat} {d hi : Int} {offs : Array Int} {x : Int32} {T0 : Nat} {ts : List Nat} (e0 : x_tg pc d = T0) (e1 : offs.toList.map (x_tg pc) = ts) (e2 : (ts.length : Int) = hi + 1) (e3 : ts.length < 1000)
    (h0 : (∀ j, j < ts.length → ¬ x = nI j) → J T0 ls st S M cs sl) (h : x_cs (fun T => J T ls st S M cs sl) x ts 0) : x_wp X Z J ((.tableswitch d 0 hi offs, n) :: c) pc ls (.inl x :: st) S M cs sl := by
  subst e0
  refine ⟨fun hx => h0 (fun j hj e => ?_), fun j off hj hx => ?_⟩
  · subst e
    rw [n_int (by omega)] at hx
    omega
  · have hl : j < offs.toList.length := by
      rcases Nat.lt_or_ge j offs.toList.length with q | q
      · exact q
      · rw [List.getElem?_eq_none q] at hj; cases hj
    have hl2 : offs.toList.length = ts.length := by rw [← e1, List.length_map]
    refine x_cs_at ts 0 h j (x_tg pc off) (by rw [← e1, List.getElem?_map, hj]; rfl) ?_
    apply Int32.toInt_inj.mp
    rw [hx, n_int (by omega)]
    omega
theorem k_yes {P : Prop} {v : Int32} (h : (P ∧ v = nI 1) ∨ (¬ P ∧ v = nI 0)) (hc : ¬ v = 0) : P := by
  rcases h with ⟨a, -⟩ | ⟨-, e⟩
  · exact a
  · exact absurd (by rw [e]; rfl) hc
theorem k_no {P : Prop} {v : Int32} (h : (P ∧ v = nI 1) ∨ (¬ P ∧ v = nI 0)) (hc : v = 0) : ¬ P := by
  rcases h with ⟨-, e⟩ | ⟨a, -⟩
  · rw [e] at hc; exact absurd hc (by decide)
  · exact a
theorem k_ite {P : Prop} [Decidable P] : (P ∧ (if P then nI 1 else nI 0) = nI 1) ∨ (¬ P ∧ (if P then nI 1 else nI 0) = nI 0) := by
  by_cases h : P
  · exact Or.inl ⟨h, if_pos h⟩
  · exact Or.inr ⟨h, if_neg h⟩
/-- refused along a way -/
def rfA (w a b : Int32) (v : Int32) : Prop := (¬ Two a b ∧ v = -(nI 1)) ∨ (Two a b ∧ Th 2 w ∧ v = nI 0) ∨ (Two a b ∧ ¬ Th 2 w ∧ v = -(nI 2))
theorem rfA_ok {w a b v : Int32} (h : rfA w a b v) (hc : v = 0) : Two a b ∧ Th 2 w := by
  rcases h with ⟨-, e⟩ | ⟨a, b, -⟩ | ⟨-, -, e⟩
  · rw [e] at hc; exact absurd hc (by decide)
  · exact ⟨a, b⟩
  · rw [e] at hc; exact absurd hc (by decide)
theorem rfA_no {w a b v : Int32} (h : rfA w a b v) (hc : ¬ v = 0) : ∃ p, 0 < p ∧ p < 7 ∧ v = -(nI p) ∧ ((¬ Two a b ∧ p = 1) ∨ (Two a b ∧ ¬ Th 2 w ∧ p = 2)) := by
  rcases h with ⟨k, e⟩ | ⟨-, -, e⟩ | ⟨k1, k2, e⟩
  · exact ⟨1, by decide, by decide, e, Or.inl ⟨k, rfl⟩⟩
  · exact absurd e hc
  · exact ⟨2, by decide, by decide, e, Or.inr ⟨k1, k2, rfl⟩⟩
theorem rfA_sp {V : x_M} {w a b v : Int32} {p : Nat} (h : (¬ Two a b ∧ p = 1) ∨ (Two a b ∧ ¬ Th 2 w ∧ p = 2)) : spAl V w a b v = rf V p := by
  unfold spAl
  rcases h with ⟨k, rfl⟩ | ⟨k1, k2, rfl⟩
  · rw [cif_f k]
  · rw [cif_t k1, cif_f k2]
theorem rfA_sp2 {V : x_M} {w a b : Int32} {x : Int32 × x_M} {p : Nat} (h : (¬ Two a b ∧ p = 1) ∨ (Two a b ∧ ¬ Th 2 w ∧ p = 2)) : cif (Two a b) (cif (Th 2 w) x (rf V 2)) (rf V 1) = rf V p := by
  rcases h with ⟨k, rfl⟩ | ⟨k1, k2, rfl⟩
  · rw [cif_f k]
  · rw [cif_t k1, cif_f k2]
theorem spAl_ok {V : x_M} {w a b v : Int32} (h : Two a b) (h2 : Th 2 w) : spAl V w a b v = (v, V) := by
  unfold spAl; rw [cif_t h, cif_t h2]
/-- only what ways and the search keep has changed, and ways still know what they say -/
def Wk (M M' : x_M) : Prop := (∀ k, k < 10 ∨ 39 < k → M' k = M k) ∧ ∀ c, CW c M → CW c M'
theorem Wk_rf (M : x_M) : Wk M M := ⟨fun _ _ => rfl, fun _ h => h⟩
theorem Wk_tr {M M1 M2 : x_M} (h : Wk M M1) (h2 : Wk M1 M2) : Wk M M2 := ⟨fun k hk => (h2.1 k hk).trans (h.1 k hk), fun c hc => h2.2 c (h.2 c hc)⟩
theorem Ed_Wk {M M' : x_M} {q : Nat} (hw : isWy q) (h : Ed M q M') : Wk M M' := by
  refine ⟨fun k hk => h.1 k (by omega) (by rcases hw with rfl | rfl <;> omega), fun c hc => ?_⟩
  obtain ⟨a, b, n, c1, c2, c3⟩ := hc
  have e1 : M' 1 = M 1 := h.1 1 (by omega) (by rcases hw with rfl | rfl <;> omega)
  rcases hw with rfl | rfl
  · refine ⟨Ed_WP a h, WP_keep b (fun k hk => h.1 k (by omega) (by omega)), n, by omega, by rw [e1]; exact c2, fun q hq => ?_⟩
    rcases hq with rfl | rfl
    · exact Or.inr ⟨n, Nat.le_refl _, by rw [h.2.2.1]; exact c2⟩
    · rw [h.1 33 (by omega) (by omega)]; exact c3 33 w33
  · refine ⟨WP_keep a (fun k hk => h.1 k (by omega) (by omega)), Ed_WP b h, n, by omega, by rw [e1]; exact c2, fun q hq => ?_⟩
    rcases hq with rfl | rfl
    · rw [h.1 26 (by omega) (by omega)]; exact c3 26 w26
    · exact Or.inr ⟨n, Nat.le_refl _, by rw [h.2.2.1]; exact c2⟩
theorem CE_Wk {M M' : x_M} {v : Int32} {p : Int32 × x_M} (h : Wk M M') (hp : p = (v, vM M)) : CEnd M M' (some (.inl v)) p := by
  subst hp
  refine ⟨fun k hk => h.1 k (by omega), fun c _ hc => ?_, rfl, vM_cg (fun k hk => h.1 k (by omega))⟩
  obtain ⟨a, b, d⟩ := h.2 c hc.1
  exact ⟨a, b, Cnt_mono d⟩
theorem CE_M {M : x_M} {v : Int32} {p : Int32 × x_M} (hp : p = (v, vM M)) : CEnd M M (some (.inl v)) p := CE_Wk (Wk_rf M) hp
theorem CE_R {M : x_M} {n : Nat} {p : Int32 × x_M} (hp : p = rf (vM M) n) : CEnd M (mRef M n) (some (.inl (-(nI n)))) p := by subst hp; exact CE_ref M n
theorem Wk_7 {M M' : x_M} (h : Wk M M') : St7 M M' := fun k hk => h.1 k (by omega)
theorem al_q {M : x_M} {c wn : Nat} (h : CI c M) (hwn : wn < 2) : ∃ q, (if nI wn = 0 then 26 else 33) = q ∧ isWy q ∧ wo q = wn ∧ WP M q := by
  have : wn = 0 ∨ wn = 1 := by omega
  rcases this with rfl | rfl
  · exact ⟨26, if_pos rfl, w26, rfl, h.1.1⟩
  · exact ⟨33, if_neg (by decide), w33, rfl, h.1.2.1⟩
theorem fi_rel {f s g : Nat → Nat} (h : FI f 15 s g) {a b : Nat} (ha : a < 6) (hb : b < 6) (hab : a ≠ b) : ls13 (g (a * 6 + b)) = rel (fsF f) a b := by
  have hF := FI_end h
  have e := fsF_e hF
  obtain ⟨⟨-, hS, -, -⟩, -, -, hs, -, -⟩ := h
  rw [gRel hS hs ha hb hab, ls_pow _ (rel_lt (fun p hp => (hs p hp).1) ha hb)]
  exact rel_cg e ha hb
theorem fi_dn {f s g : Nat → Nat} (h : FI f 15 s g) : ∀ j, j < 36 → g j = dn (fsF f) j := fun j hj => by
  have hF := FI_end h
  have e := fsF_e hF
  obtain ⟨⟨-, hS, -, -⟩, hd, -, hs, -, -⟩ := h
  unfold dn
  have ej : j = j / 6 * 6 + j % 6 := by omega
  by_cases q : j / 6 = j % 6
  · rw [← q]
    have e2 : rel (fsF f) (j / 6) (j / 6) = 6 := by unfold rel; rw [if_pos rfl]
    rw [e2]
    have e3 : j = j / 6 * 6 + j / 6 := by omega
    have := hd (j / 6) (by omega)
    rw [← e3] at this
    exact this
  · have := gRel hS hs (a := j / 6) (b := j % 6) (by omega) (by omega) q
    rw [← ej, rel_cg e (by omega) (by omega)] at this
    exact this
theorem fi_rk {f s g : Nat → Nat} (h : FI f 15 s g) {e : Nat} (he : e < 12) : rkf g e 12 = rkG (fsF f) e := rkf_cg (fi_dn h) he 12 (Nat.le_refl _)
