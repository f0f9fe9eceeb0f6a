/-! Plans, the reference's side: states where nothing ends, and where pay never ends. -/
theorem sumU_zero {n : Nat} {g : Nat → Nat} : sumU n g = 0 ↔ ∀ i, i < n → g i = 0 := by
  induction n with
  | zero => exact ⟨fun _ i hi => by omega, fun _ => rfl⟩
  | succ n ih =>
    rw [sumU_succ]
    constructor
    · intro h i hi
      by_cases e : i = n
      · subst e; omega
      · exact ih.mp (by omega) i (by omega)
    · intro h
      have h1 := ih.mpr (fun i hi => h i (by omega))
      have h2 := h n (by omega)
      omega
theorem anyF_iff {f : Nat → Bool} : ∀ r t, anyF f t r = true ↔ ∃ i, t ≤ i ∧ i < t + r ∧ f i = true
  | 0, t => by
    simp only [anyF, Bool.false_eq_true, false_iff]
    intro ⟨i, h1, h2, _⟩
    omega
  | r + 1, t => by
    rw [anyF, Bool.or_eq_true, anyF_iff r (t + 1)]
    constructor
    · intro h
      rcases h with h | ⟨i, h1, h2, h3⟩
      · exact ⟨t, by omega, by omega, h⟩
      · exact ⟨i, by omega, by omega, h3⟩
    · intro ⟨i, h1, h2, h3⟩
      by_cases e : i = t
      · subst e; exact Or.inl h3
      · exact Or.inr ⟨i, by omega, by omega, h3⟩
theorem bool_eq {a b : Bool} (h : a = true ↔ b = true) : a = b := by
  cases a <;> cases b <;> simp at h ⊢
section Lo
variable {D : rD} {p : Nat}
def lG (D : rD) (p s t : Nat) : Bool := !mK D p (D 0 0) s t || (mK D p (D 0 0) t s && decide (D 4 (pSl D p t) + pO D p t (D 0 0) = 0))
theorem mK_re (s t : Nat) : mK D p (D 0 0) s t = (pRe D p s t && (decide (t = s) || pIn D t)) := mK_pK _ s t
theorem lost_eq (s : Nat) (hs : s < D 0 0) (hin : pIn D s = true) : allF (lG D p s) 0 (D 0 0) = pSt D p s := by
  apply bool_eq
  unfold pSt
  rw [hin, Bool.true_and, allF_iff, allB_iff]
  have hO : ∀ t, pO D p t (D 0 0) = 0 ↔ ∀ u, u < D 0 0 → pIn D u = true ∨ pW D p t u = 0 := fun t => by
    unfold pO
    rw [sumU_zero]
    constructor
    · intro h u hu
      have := h u hu
      by_cases e : pIn D u = true
      · exact Or.inl e
      · rw [if_neg e] at this; exact Or.inr this
    · intro h u hu
      by_cases e : pIn D u = true
      · rw [if_pos e]
      · rw [if_neg e]
        rcases h u hu with q | q
        · exact absurd q e
        · exact q
  constructor
  · intro h
    have hh : ∀ t, t < D 0 0 → pRe D p s t = true → pIn D t = true → pRe D p t s = true ∧ D 4 (pSl D p t) = 0 ∧ pO D p t (D 0 0) = 0 := fun t ht h1 h2 => by
      have := h t (Nat.zero_le _) (by omega)
      unfold lG at this
      rw [mK_re, mK_re, h1, h2, hin] at this
      simp at this
      exact ⟨this.1, this.2.1, this.2.2⟩
    have hcl : ∀ t, t < D 0 0 → pRe D p s t = true → pIn D t = true := fun t ht h1 => by
      have := pK_closed (D := D) (p := p) (S := fun u => u < D 0 0 ∧ pRe D p s u = true ∧ pIn D u = true) (fun u hu _ v hv hw => by
        obtain ⟨_, _, h3⟩ := hh u hu.1 hu.2.1 hu.2.2
        refine ⟨hv, pRe_trans hu.1 hu.2.1 (pRe_edge hu.2.2 hw), ?_⟩
        rcases (hO u).mp h3 v hv with q | q
        · exact q
        · omega) (D 0 0) s t (Nat.le_refl _) ht ⟨hs, pRe_refl s, hin⟩ h1
      exact this.2.2
    intro t ht
    cases h1 : pRe D p s t
    · rfl
    · obtain ⟨a, b, _⟩ := hh t ht h1 (hcl t ht h1)
      rw [hcl t ht h1, a]
      unfold pLv
      simp [b]
  · intro h t _ ht
    rw [Nat.zero_add] at ht
    unfold lG
    rw [mK_re, mK_re, hin]
    cases h1 : pRe D p s t
    · simp
    · have h2 := h t ht
      rw [h1] at h2
      simp at h2
      have h3 : D 4 (pSl D p t) = 0 := by
        have := h2.1.2
        unfold pLv at this
        rw [h2.1.1] at this
        simpa using this
      have h4 : pO D p t (D 0 0) = 0 := (hO t).mpr (fun u hu => by
        by_cases q : pW D p t u = 0
        · exact Or.inr q
        · have r1 := pRe_trans ht h1 (pRe_edge h2.1.1 (show 0 < pW D p t u by omega))
          have := h u hu
          rw [r1] at this
          simp at this
          exact Or.inl this.1.1)
      rw [h3, h4, h2.2]
      simp
theorem end_eq (s : Nat) : anyF (fun t => mK D p (D 0 0) s t && pSt D p t && decide (0 < D 3 (pSl D p t))) 0 (D 0 0) = pEn D p s := by
  have : (fun t => mK D p (D 0 0) s t && pSt D p t && decide (0 < D 3 (pSl D p t))) = (fun t => pRe D p s t && pSt D p t && decide (0 < D 3 (pSl D p t))) := by
    funext t
    rw [mK_re]
    cases h : pSt D p t
    · simp
    · have : pIn D t = true := by unfold pSt at h; rw [Bool.and_eq_true] at h; exact h.1
      rw [this]
      simp
  unfold pEn
  rw [this]
theorem pEn_out {s : Nat} (h : pIn D s = false) : pEn D p s = false := by
  cases he : pEn D p s
  · rfl
  · unfold pEn at he
    rw [anyF_iff] at he
    obtain ⟨t, _, ht, h1⟩ := he
    simp only [Bool.and_eq_true] at h1
    have := pK_closed (D := D) (p := p) (S := fun u => u = s) (fun u hu hi => by rw [hu, h] at hi; exact absurd hi (by decide)) (D 0 0) s t (Nat.le_refl _) (by omega) rfl h1.1.1
    have h2 := h1.1.2
    unfold pSt at h2
    rw [this, h] at h2
    simp at h2
def ltM (D : rD) (p : Nat) (I : hI) : Prop := ∀ s, s < D 0 0 → I 37 s = bI (pSt D p s)
theorem mp_lost_i (hD : rOk D) {s : Nat} (hs : s < D 0 0) (hin : pIn D s = true) (k2 : _) {I : hI} (h : mR D I) (hc : chM D p I) (hm : cmM (D 0 0) (mK D p (D 0 0)) I) : ∀ (r t fuel : Nat), t + r = D 0 0 → r < fuel → mM_laysLost_L18 k2 fuel (nI s) (nI 1) (nI t) I = k2 (nI (s + 1)) (h_u I 37 s (bI (allF (lG D p s) t r))) := by
  have hn := hD.2.1
  intro r
  induction r with
  | zero =>
    intro t fuel ht hf
    obtain ⟨fuel, rfl⟩ : ∃ m, fuel = m + 1 := ⟨fuel - 1, by omega⟩
    unfold mM_laysLost_L18 mM_laysLost_B18 mM_laysLost_78
    rw [h.1]
    simp (disch := omega) only [↓reduceIte, h_let, hg_in, hg_zb, hg_z0, hg_z1, hg_nz, Option.bind_some, if_pos, if_neg, bI_0, bI_n0, nI_add, nI_mul, nI_ltI, nI_leI, nI_eq, nI_clamp, nI_subN, nI_divN, nI_mod2, nI_m1e, nI_em1, nI_m2e, nI_lt0, m1_lt0, m1_lt, m1_le, h_u_at, h_u_off2, h_u_pl, li_0, li_1, li_2, li_3, li_4, li_5, li_6, li_7, li_8, li_9, li_10, li_11, li_12, li_13, li_14, li_15, li_16, li_17, li_18, li_19, li_20, li_21, li_22, li_23, li_24, li_25, li_26, li_27, li_28, li_29, li_30, li_31, li_32, li_40, li_43, li_45, li_47, li_48, li_57, li_59, li_60, li_61, li_62, li_63, li_64, li_80, li_92, li_97, li_99, li_100, li_122, li_123, li_125, li_166, li_201, li_210, li_250, li_255, li_256, li_257, li_258, li_259, li_260, li_261, li_262, li_263, li_264, li_265, li_266, li_267, li_268, li_300, li_500, li_1000, li_12345, li_27720, li_1000000, li_1103515245, ne_m1, ne_m2, nar1, allF, bI_t]
  | succ r ih =>
    intro t fuel ht hf
    obtain ⟨fuel, rfl⟩ : ∃ m, fuel = m + 1 := ⟨fuel - 1, by omega⟩
    have e1 := hm s t hs (by omega)
    have e2 := hm t s (by omega) hs
    have stop : ∀ fuel', 0 < fuel' → mM_laysLost_L18 k2 fuel' (nI s) (nI 0) (nI (t + 1)) I = k2 (nI (s + 1)) (h_u I 37 s (nI 0)) := fun fuel' hf' => by
      obtain ⟨fuel', rfl⟩ : ∃ m, fuel' = m + 1 := ⟨fuel' - 1, by omega⟩
      unfold mM_laysLost_L18 mM_laysLost_B18 mM_laysLost_78
      rw [h.1]
      by_cases q : t + 1 < D 0 0
      · simp (disch := omega) only [↓reduceIte, h_let, hg_in, hg_zb, hg_z0, hg_z1, hg_nz, Option.bind_some, if_pos, if_neg, bI_0, bI_n0, nI_add, nI_mul, nI_ltI, nI_leI, nI_eq, nI_clamp, nI_subN, nI_divN, nI_mod2, nI_m1e, nI_em1, nI_m2e, nI_lt0, m1_lt0, m1_lt, m1_le, h_u_at, h_u_off2, h_u_pl, li_0, li_1, li_2, li_3, li_4, li_5, li_6, li_7, li_8, li_9, li_10, li_11, li_12, li_13, li_14, li_15, li_16, li_17, li_18, li_19, li_20, li_21, li_22, li_23, li_24, li_25, li_26, li_27, li_28, li_29, li_30, li_31, li_32, li_40, li_43, li_45, li_47, li_48, li_57, li_59, li_60, li_61, li_62, li_63, li_64, li_80, li_92, li_97, li_99, li_100, li_122, li_123, li_125, li_166, li_201, li_210, li_250, li_255, li_256, li_257, li_258, li_259, li_260, li_261, li_262, li_263, li_264, li_265, li_266, li_267, li_268, li_300, li_500, li_1000, li_12345, li_27720, li_1000000, li_1103515245, ne_m1, ne_m2, nar0]
      · simp (disch := omega) only [↓reduceIte, h_let, hg_in, hg_zb, hg_z0, hg_z1, hg_nz, Option.bind_some, if_pos, if_neg, bI_0, bI_n0, nI_add, nI_mul, nI_ltI, nI_leI, nI_eq, nI_clamp, nI_subN, nI_divN, nI_mod2, nI_m1e, nI_em1, nI_m2e, nI_lt0, m1_lt0, m1_lt, m1_le, h_u_at, h_u_off2, h_u_pl, li_0, li_1, li_2, li_3, li_4, li_5, li_6, li_7, li_8, li_9, li_10, li_11, li_12, li_13, li_14, li_15, li_16, li_17, li_18, li_19, li_20, li_21, li_22, li_23, li_24, li_25, li_26, li_27, li_28, li_29, li_30, li_31, li_32, li_40, li_43, li_45, li_47, li_48, li_57, li_59, li_60, li_61, li_62, li_63, li_64, li_80, li_92, li_97, li_99, li_100, li_122, li_123, li_125, li_166, li_201, li_210, li_250, li_255, li_256, li_257, li_258, li_259, li_260, li_261, li_262, li_263, li_264, li_265, li_266, li_267, li_268, li_300, li_500, li_1000, li_12345, li_27720, li_1000000, li_1103515245, ne_m1, ne_m2, nar0]
    have go := ih (t + 1) fuel (by omega) (by omega)
    have st := stop fuel (by omega)
    unfold mM_laysLost_L18 mM_laysLost_B18
    rw [h.1, allF]
    cases q1 : mK D p (D 0 0) s t
    · rw [q1, bI_f] at e1
      have hl : lG D p s t = true := by unfold lG; rw [q1]; rfl
      rw [hl, Bool.true_and]
      simp (disch := omega) only [↓reduceIte, h_let, hg_in, hg_zb, hg_z0, hg_z1, hg_nz, Option.bind_some, if_pos, if_neg, bI_0, bI_n0, nI_add, nI_mul, nI_ltI, nI_leI, nI_eq, nI_clamp, nI_subN, nI_divN, nI_mod2, nI_m1e, nI_em1, nI_m2e, nI_lt0, m1_lt0, m1_lt, m1_le, h_u_at, h_u_off2, h_u_pl, li_0, li_1, li_2, li_3, li_4, li_5, li_6, li_7, li_8, li_9, li_10, li_11, li_12, li_13, li_14, li_15, li_16, li_17, li_18, li_19, li_20, li_21, li_22, li_23, li_24, li_25, li_26, li_27, li_28, li_29, li_30, li_31, li_32, li_40, li_43, li_45, li_47, li_48, li_57, li_59, li_60, li_61, li_62, li_63, li_64, li_80, li_92, li_97, li_99, li_100, li_122, li_123, li_125, li_166, li_201, li_210, li_250, li_255, li_256, li_257, li_258, li_259, li_260, li_261, li_262, li_263, li_264, li_265, li_266, li_267, li_268, li_300, li_500, li_1000, li_12345, li_27720, li_1000000, li_1103515245, ne_m1, ne_m2, e1, go]
    · rw [q1, bI_t] at e1
      have hit : pIn D t = true := by
        rw [mK_re] at q1
        simp only [Bool.and_eq_true, Bool.or_eq_true, decide_eq_true_eq] at q1
        rcases q1.2 with e | e
        · rw [e]; exact hin
        · exact e
      have hit1 : 0 < D 1 t := by simpa [pIn] using hit
      have ee := mp_endedOf hD h hc (show t < D 0 0 by omega) hit
      have hb := (hD.2.2.2.2 t (by omega) _ (pCh_lt (p := p) hit1)).2.2.1
      have hpo : D 4 (pSl D p t) + pO D p t (D 0 0) ≤ 4 := by
        have h5 := (hD.2.2.2.2 t (by omega) _ (pCh_lt (p := p) hit1)).2.2.2.2
        have h6 : pO D p t (D 0 0) ≤ sumU (D 0 0) (fun u => D 5 (10 * (8 * t + pCh D p t) + u)) := sumU_le (fun u hu => by
          show _ ≤ pW D p t u
          split <;> omega)
        have e7 : D 4 (pSl D p t) = D 4 (8 * t + pCh D p t) := rfl
        omega
      cases q2 : mK D p (D 0 0) t s
      · rw [q2, bI_f] at e2
        have hl : lG D p s t = false := by unfold lG; rw [q1, q2]; rfl
        rw [hl, Bool.false_and, bI_f]
        simp (disch := omega) only [↓reduceIte, h_let, hg_in, hg_zb, hg_z0, hg_z1, hg_nz, Option.bind_some, if_pos, if_neg, bI_0, bI_n0, nI_add, nI_mul, nI_ltI, nI_leI, nI_eq, nI_clamp, nI_subN, nI_divN, nI_mod2, nI_m1e, nI_em1, nI_m2e, nI_lt0, m1_lt0, m1_lt, m1_le, h_u_at, h_u_off2, h_u_pl, li_0, li_1, li_2, li_3, li_4, li_5, li_6, li_7, li_8, li_9, li_10, li_11, li_12, li_13, li_14, li_15, li_16, li_17, li_18, li_19, li_20, li_21, li_22, li_23, li_24, li_25, li_26, li_27, li_28, li_29, li_30, li_31, li_32, li_40, li_43, li_45, li_47, li_48, li_57, li_59, li_60, li_61, li_62, li_63, li_64, li_80, li_92, li_97, li_99, li_100, li_122, li_123, li_125, li_166, li_201, li_210, li_250, li_255, li_256, li_257, li_258, li_259, li_260, li_261, li_262, li_263, li_264, li_265, li_266, li_267, li_268, li_300, li_500, li_1000, li_12345, li_27720, li_1000000, li_1103515245, ne_m1, ne_m2, e1, e2, st]
      · rw [q2, bI_t] at e2
        by_cases q3 : D 4 (pSl D p t) + pO D p t (D 0 0) = 0
        · have hl : lG D p s t = true := by unfold lG; rw [q1, q2]; simpa using q3
          rw [hl, Bool.true_and]
          simp (disch := omega) only [↓reduceIte, h_let, hg_in, hg_zb, hg_z0, hg_z1, hg_nz, Option.bind_some, if_pos, if_neg, bI_0, bI_n0, nI_add, nI_mul, nI_ltI, nI_leI, nI_eq, nI_clamp, nI_subN, nI_divN, nI_mod2, nI_m1e, nI_em1, nI_m2e, nI_lt0, m1_lt0, m1_lt, m1_le, h_u_at, h_u_off2, h_u_pl, li_0, li_1, li_2, li_3, li_4, li_5, li_6, li_7, li_8, li_9, li_10, li_11, li_12, li_13, li_14, li_15, li_16, li_17, li_18, li_19, li_20, li_21, li_22, li_23, li_24, li_25, li_26, li_27, li_28, li_29, li_30, li_31, li_32, li_40, li_43, li_45, li_47, li_48, li_57, li_59, li_60, li_61, li_62, li_63, li_64, li_80, li_92, li_97, li_99, li_100, li_122, li_123, li_125, li_166, li_201, li_210, li_250, li_255, li_256, li_257, li_258, li_259, li_260, li_261, li_262, li_263, li_264, li_265, li_266, li_267, li_268, li_300, li_500, li_1000, li_12345, li_27720, li_1000000, li_1103515245, ne_m1, ne_m2, e1, e2, ee, go]
        · have hl : lG D p s t = false := by unfold lG; rw [q1, q2]; simpa using q3
          rw [hl, Bool.false_and, bI_f]
          simp (disch := omega) only [↓reduceIte, h_let, hg_in, hg_zb, hg_z0, hg_z1, hg_nz, Option.bind_some, if_pos, if_neg, bI_0, bI_n0, nI_add, nI_mul, nI_ltI, nI_leI, nI_eq, nI_clamp, nI_subN, nI_divN, nI_mod2, nI_m1e, nI_em1, nI_m2e, nI_lt0, m1_lt0, m1_lt, m1_le, h_u_at, h_u_off2, h_u_pl, li_0, li_1, li_2, li_3, li_4, li_5, li_6, li_7, li_8, li_9, li_10, li_11, li_12, li_13, li_14, li_15, li_16, li_17, li_18, li_19, li_20, li_21, li_22, li_23, li_24, li_25, li_26, li_27, li_28, li_29, li_30, li_31, li_32, li_40, li_43, li_45, li_47, li_48, li_57, li_59, li_60, li_61, li_62, li_63, li_64, li_80, li_92, li_97, li_99, li_100, li_122, li_123, li_125, li_166, li_201, li_210, li_250, li_255, li_256, li_257, li_258, li_259, li_260, li_261, li_262, li_263, li_264, li_265, li_266, li_267, li_268, li_300, li_500, li_1000, li_12345, li_27720, li_1000000, li_1103515245, ne_m1, ne_m2, e1, e2, ee, st]
theorem mp_lost_L (hD : rOk D) : ∀ (r s fuel : Nat) (I : hI), s + r = D 0 0 → r < fuel → mR D I → chM D p I → cmM (D 0 0) (mK D p (D 0 0)) I → (∀ u, u < s → I 37 u = bI (pSt D p u)) → ∃ I' : hI, mM_laysLost_L2 fuel (nI s) I = some I' ∧ (∀ a i, a ≠ 37 → I' a i = I a i) ∧ ltM D p I' := by
  have hn := hD.2.1
  intro r
  induction r with
  | zero =>
    intro s fuel I hs hf h hc hm h37
    obtain ⟨fuel, rfl⟩ : ∃ m, fuel = m + 1 := ⟨fuel - 1, by omega⟩
    unfold mM_laysLost_L2 mM_laysLost_B2
    rw [h.1]
    simp (disch := omega) only [↓reduceIte, h_let, hg_in, hg_zb, hg_z0, hg_z1, hg_nz, Option.bind_some, if_pos, if_neg, bI_0, bI_n0, nI_add, nI_mul, nI_ltI, nI_leI, nI_eq, nI_clamp, nI_subN, nI_divN, nI_mod2, nI_m1e, nI_em1, nI_m2e, nI_lt0, m1_lt0, m1_lt, m1_le, h_u_at, h_u_off2, h_u_pl, li_0, li_1, li_2, li_3, li_4, li_5, li_6, li_7, li_8, li_9, li_10, li_11, li_12, li_13, li_14, li_15, li_16, li_17, li_18, li_19, li_20, li_21, li_22, li_23, li_24, li_25, li_26, li_27, li_28, li_29, li_30, li_31, li_32, li_40, li_43, li_45, li_47, li_48, li_57, li_59, li_60, li_61, li_62, li_63, li_64, li_80, li_92, li_97, li_99, li_100, li_122, li_123, li_125, li_166, li_201, li_210, li_250, li_255, li_256, li_257, li_258, li_259, li_260, li_261, li_262, li_263, li_264, li_265, li_266, li_267, li_268, li_300, li_500, li_1000, li_12345, li_27720, li_1000000, li_1103515245, ne_m1, ne_m2]
    exact ⟨I, rfl, fun _ _ _ => rfl, fun u hu => h37 u (by omega)⟩
  | succ r ih =>
    intro s fuel I hs hf h hc hm h37
    obtain ⟨fuel, rfl⟩ : ∃ m, fuel = m + 1 := ⟨fuel - 1, by omega⟩
    have ei := m_isInside hD h (s := s) (by omega)
    have e1 : decide (0 < D 1 s) = pIn D s := rfl
    rw [e1] at ei
    obtain ⟨I', a1, a2, a3⟩ := ih (s + 1) fuel (h_u I 37 s (bI (pSt D p s))) (by omega) (by omega) (mR_of h (fun c i q1 q2 => h_u_off2 _ _ _ _ (by omega)) (fun i q1 q2 => h_u_off2 _ _ _ _ (by omega))) (fun u hu => by rw [h_u_off2 _ _ _ _ (by decide)]; exact hc u hu) (fun u t hu ht => by rw [h_u_off2 _ _ _ _ (by decide)]; exact hm u t hu ht) (fun u hu => by
      by_cases e : u = s
      · subst e; exact h_u_at _ _ _ _
      · rw [h_u_pl _ _ _ e]; exact h37 u (by omega))
    unfold mM_laysLost_L2 mM_laysLost_B2
    rw [h.1]
    refine ⟨I', ?_, fun a i hh => by rw [a2 a i hh, h_u_off2 _ _ _ _ hh], a3⟩
    cases hi : pIn D s
    · rw [hi, bI_f] at ei
      have hst : pSt D p s = false := by unfold pSt; rw [hi]; rfl
      rw [hst, bI_f] at a1
      have st : mM_laysLost_L18 (mM_laysLost_L2 fuel) hF (nI s) (nI 0) (nI 0) I = mM_laysLost_L2 fuel (nI (s + 1)) (h_u I 37 s (nI 0)) := by
        show mM_laysLost_L18 _ (999 + 1) _ _ _ _ = _
        unfold mM_laysLost_L18 mM_laysLost_B18 mM_laysLost_78
        rw [h.1]
        simp (disch := omega) only [↓reduceIte, h_let, hg_in, hg_zb, hg_z0, hg_z1, hg_nz, Option.bind_some, if_pos, if_neg, bI_0, bI_n0, nI_add, nI_mul, nI_ltI, nI_leI, nI_eq, nI_clamp, nI_subN, nI_divN, nI_mod2, nI_m1e, nI_em1, nI_m2e, nI_lt0, m1_lt0, m1_lt, m1_le, h_u_at, h_u_off2, h_u_pl, li_0, li_1, li_2, li_3, li_4, li_5, li_6, li_7, li_8, li_9, li_10, li_11, li_12, li_13, li_14, li_15, li_16, li_17, li_18, li_19, li_20, li_21, li_22, li_23, li_24, li_25, li_26, li_27, li_28, li_29, li_30, li_31, li_32, li_40, li_43, li_45, li_47, li_48, li_57, li_59, li_60, li_61, li_62, li_63, li_64, li_80, li_92, li_97, li_99, li_100, li_122, li_123, li_125, li_166, li_201, li_210, li_250, li_255, li_256, li_257, li_258, li_259, li_260, li_261, li_262, li_263, li_264, li_265, li_266, li_267, li_268, li_300, li_500, li_1000, li_12345, li_27720, li_1000000, li_1103515245, ne_m1, ne_m2, nar0]
      simp (disch := omega) only [↓reduceIte, h_let, hg_in, hg_zb, hg_z0, hg_z1, hg_nz, Option.bind_some, if_pos, if_neg, bI_0, bI_n0, nI_add, nI_mul, nI_ltI, nI_leI, nI_eq, nI_clamp, nI_subN, nI_divN, nI_mod2, nI_m1e, nI_em1, nI_m2e, nI_lt0, m1_lt0, m1_lt, m1_le, h_u_at, h_u_off2, h_u_pl, li_0, li_1, li_2, li_3, li_4, li_5, li_6, li_7, li_8, li_9, li_10, li_11, li_12, li_13, li_14, li_15, li_16, li_17, li_18, li_19, li_20, li_21, li_22, li_23, li_24, li_25, li_26, li_27, li_28, li_29, li_30, li_31, li_32, li_40, li_43, li_45, li_47, li_48, li_57, li_59, li_60, li_61, li_62, li_63, li_64, li_80, li_92, li_97, li_99, li_100, li_122, li_123, li_125, li_166, li_201, li_210, li_250, li_255, li_256, li_257, li_258, li_259, li_260, li_261, li_262, li_263, li_264, li_265, li_266, li_267, li_268, li_300, li_500, li_1000, li_12345, li_27720, li_1000000, li_1103515245, ne_m1, ne_m2, ei, st, a1]
    · rw [hi, bI_t] at ei
      have st := mp_lost_i hD (s := s) (by omega) hi (mM_laysLost_L2 fuel) h hc hm (D 0 0) 0 hF (by omega) (by unfold hF; omega)
      rw [lost_eq s (by omega) hi] at st
      simp (disch := omega) only [↓reduceIte, h_let, hg_in, hg_zb, hg_z0, hg_z1, hg_nz, Option.bind_some, if_pos, if_neg, bI_0, bI_n0, nI_add, nI_mul, nI_ltI, nI_leI, nI_eq, nI_clamp, nI_subN, nI_divN, nI_mod2, nI_m1e, nI_em1, nI_m2e, nI_lt0, m1_lt0, m1_lt, m1_le, h_u_at, h_u_off2, h_u_pl, li_0, li_1, li_2, li_3, li_4, li_5, li_6, li_7, li_8, li_9, li_10, li_11, li_12, li_13, li_14, li_15, li_16, li_17, li_18, li_19, li_20, li_21, li_22, li_23, li_24, li_25, li_26, li_27, li_28, li_29, li_30, li_31, li_32, li_40, li_43, li_45, li_47, li_48, li_57, li_59, li_60, li_61, li_62, li_63, li_64, li_80, li_92, li_97, li_99, li_100, li_122, li_123, li_125, li_166, li_201, li_210, li_250, li_255, li_256, li_257, li_258, li_259, li_260, li_261, li_262, li_263, li_264, li_265, li_266, li_267, li_268, li_300, li_500, li_1000, li_12345, li_27720, li_1000000, li_1103515245, ne_m1, ne_m2, ei, st, a1]
theorem mp_laysLost (hD : rOk D) {I : hI} (h : mR D I) (hc : chM D p I) (hm : cmM (D 0 0) (mK D p (D 0 0)) I) : ∃ I' : hI, mM_laysLost I = some I' ∧ (∀ a i, a ≠ 37 → I' a i = I a i) ∧ ltM D p I' := by
  have hn := hD.2.1
  unfold mM_laysLost
  rw [li_0]
  exact mp_lost_L hD (D 0 0) 0 hF I (by omega) (by unfold hF; omega) h hc hm (fun u hu => by omega)
theorem mp_goes_L (hD : rOk D) {s : Nat} (hs : s < D 0 0) {I : hI} (h : mR D I) (hc : chM D p I) (hm : cmM (D 0 0) (mK D p (D 0 0)) I) (hl : ltM D p I) : ∀ (r t fuel : Nat), t + r = D 0 0 → r < fuel → mM_goesOnPaying_L2 fuel (nI s) (nI t) I = some (bI (anyF (fun t => mK D p (D 0 0) s t && pSt D p t && decide (0 < D 3 (pSl D p t))) t r)) := by
  have hn := hD.2.1
  intro r
  induction r with
  | zero =>
    intro t fuel ht hf
    obtain ⟨fuel, rfl⟩ : ∃ m, fuel = m + 1 := ⟨fuel - 1, by omega⟩
    unfold mM_goesOnPaying_L2 mM_goesOnPaying_B2
    rw [h.1]
    simp (disch := omega) only [↓reduceIte, h_let, hg_in, hg_zb, hg_z0, hg_z1, hg_nz, Option.bind_some, if_pos, if_neg, bI_0, bI_n0, nI_add, nI_mul, nI_ltI, nI_leI, nI_eq, nI_clamp, nI_subN, nI_divN, nI_mod2, nI_m1e, nI_em1, nI_m2e, nI_lt0, m1_lt0, m1_lt, m1_le, h_u_at, h_u_off2, h_u_pl, li_0, li_1, li_2, li_3, li_4, li_5, li_6, li_7, li_8, li_9, li_10, li_11, li_12, li_13, li_14, li_15, li_16, li_17, li_18, li_19, li_20, li_21, li_22, li_23, li_24, li_25, li_26, li_27, li_28, li_29, li_30, li_31, li_32, li_40, li_43, li_45, li_47, li_48, li_57, li_59, li_60, li_61, li_62, li_63, li_64, li_80, li_92, li_97, li_99, li_100, li_122, li_123, li_125, li_166, li_201, li_210, li_250, li_255, li_256, li_257, li_258, li_259, li_260, li_261, li_262, li_263, li_264, li_265, li_266, li_267, li_268, li_300, li_500, li_1000, li_12345, li_27720, li_1000000, li_1103515245, ne_m1, ne_m2, anyF, bI_f]
  | succ r ih =>
    intro t fuel ht hf
    obtain ⟨fuel, rfl⟩ : ∃ m, fuel = m + 1 := ⟨fuel - 1, by omega⟩
    have e1 := hm s t hs (by omega)
    have e2 := hl t (by omega)
    have go := ih (t + 1) fuel (by omega) (by omega)
    unfold mM_goesOnPaying_L2 mM_goesOnPaying_B2
    rw [h.1, anyF]
    cases q1 : mK D p (D 0 0) s t
    · rw [q1, bI_f] at e1
      rw [Bool.false_and, Bool.false_and, Bool.false_or]
      simp (disch := omega) only [↓reduceIte, h_let, hg_in, hg_zb, hg_z0, hg_z1, hg_nz, Option.bind_some, if_pos, if_neg, bI_0, bI_n0, nI_add, nI_mul, nI_ltI, nI_leI, nI_eq, nI_clamp, nI_subN, nI_divN, nI_mod2, nI_m1e, nI_em1, nI_m2e, nI_lt0, m1_lt0, m1_lt, m1_le, h_u_at, h_u_off2, h_u_pl, li_0, li_1, li_2, li_3, li_4, li_5, li_6, li_7, li_8, li_9, li_10, li_11, li_12, li_13, li_14, li_15, li_16, li_17, li_18, li_19, li_20, li_21, li_22, li_23, li_24, li_25, li_26, li_27, li_28, li_29, li_30, li_31, li_32, li_40, li_43, li_45, li_47, li_48, li_57, li_59, li_60, li_61, li_62, li_63, li_64, li_80, li_92, li_97, li_99, li_100, li_122, li_123, li_125, li_166, li_201, li_210, li_250, li_255, li_256, li_257, li_258, li_259, li_260, li_261, li_262, li_263, li_264, li_265, li_266, li_267, li_268, li_300, li_500, li_1000, li_12345, li_27720, li_1000000, li_1103515245, ne_m1, ne_m2, e1, go]
    · rw [q1, bI_t] at e1
      cases q2 : pSt D p t
      · rw [q2, bI_f] at e2
        rw [Bool.and_false, Bool.false_and, Bool.false_or]
        simp (disch := omega) only [↓reduceIte, h_let, hg_in, hg_zb, hg_z0, hg_z1, hg_nz, Option.bind_some, if_pos, if_neg, bI_0, bI_n0, nI_add, nI_mul, nI_ltI, nI_leI, nI_eq, nI_clamp, nI_subN, nI_divN, nI_mod2, nI_m1e, nI_em1, nI_m2e, nI_lt0, m1_lt0, m1_lt, m1_le, h_u_at, h_u_off2, h_u_pl, li_0, li_1, li_2, li_3, li_4, li_5, li_6, li_7, li_8, li_9, li_10, li_11, li_12, li_13, li_14, li_15, li_16, li_17, li_18, li_19, li_20, li_21, li_22, li_23, li_24, li_25, li_26, li_27, li_28, li_29, li_30, li_31, li_32, li_40, li_43, li_45, li_47, li_48, li_57, li_59, li_60, li_61, li_62, li_63, li_64, li_80, li_92, li_97, li_99, li_100, li_122, li_123, li_125, li_166, li_201, li_210, li_250, li_255, li_256, li_257, li_258, li_259, li_260, li_261, li_262, li_263, li_264, li_265, li_266, li_267, li_268, li_300, li_500, li_1000, li_12345, li_27720, li_1000000, li_1103515245, ne_m1, ne_m2, e1, e2, go]
      · rw [q2, bI_t] at e2
        have hit : pIn D t = true := by unfold pSt at q2; rw [Bool.and_eq_true] at q2; exact q2.1
        have hit1 : 0 < D 1 t := by simpa [pIn] using hit
        have ee := mp_byPlan hD hc (show t < D 0 0 by omega) hit
        have hch := pCh_lt (p := p) hit1
        have h8 := hD.2.2.2.1 t (by omega)
        have hps : pSl D p t < 80 := by unfold pSl; omega
        have e3 : I 27 (pSl D p t) = nI (D 3 (pSl D p t)) := (h.2.2.2.2 t (by omega) _ hch).2.1
        have e4 : D 3 (pSl D p t) ≤ 1920 := (hD.2.2.2.2 t (by omega) _ hch).2.1
        by_cases q3 : 0 < D 3 (pSl D p t)
        · have : decide (0 < D 3 (pSl D p t)) = true := by simpa using q3
          rw [this, Bool.true_and, Bool.true_and, Bool.true_or, bI_t]
          simp (disch := omega) only [↓reduceIte, h_let, hg_in, hg_zb, hg_z0, hg_z1, hg_nz, Option.bind_some, if_pos, if_neg, bI_0, bI_n0, nI_add, nI_mul, nI_ltI, nI_leI, nI_eq, nI_clamp, nI_subN, nI_divN, nI_mod2, nI_m1e, nI_em1, nI_m2e, nI_lt0, m1_lt0, m1_lt, m1_le, h_u_at, h_u_off2, h_u_pl, li_0, li_1, li_2, li_3, li_4, li_5, li_6, li_7, li_8, li_9, li_10, li_11, li_12, li_13, li_14, li_15, li_16, li_17, li_18, li_19, li_20, li_21, li_22, li_23, li_24, li_25, li_26, li_27, li_28, li_29, li_30, li_31, li_32, li_40, li_43, li_45, li_47, li_48, li_57, li_59, li_60, li_61, li_62, li_63, li_64, li_80, li_92, li_97, li_99, li_100, li_122, li_123, li_125, li_166, li_201, li_210, li_250, li_255, li_256, li_257, li_258, li_259, li_260, li_261, li_262, li_263, li_264, li_265, li_266, li_267, li_268, li_300, li_500, li_1000, li_12345, li_27720, li_1000000, li_1103515245, ne_m1, ne_m2, e1, e2, ee, e3]
        · have : decide (0 < D 3 (pSl D p t)) = false := by simpa using q3
          rw [this, Bool.and_false, Bool.false_or]
          simp (disch := omega) only [↓reduceIte, h_let, hg_in, hg_zb, hg_z0, hg_z1, hg_nz, Option.bind_some, if_pos, if_neg, bI_0, bI_n0, nI_add, nI_mul, nI_ltI, nI_leI, nI_eq, nI_clamp, nI_subN, nI_divN, nI_mod2, nI_m1e, nI_em1, nI_m2e, nI_lt0, m1_lt0, m1_lt, m1_le, h_u_at, h_u_off2, h_u_pl, li_0, li_1, li_2, li_3, li_4, li_5, li_6, li_7, li_8, li_9, li_10, li_11, li_12, li_13, li_14, li_15, li_16, li_17, li_18, li_19, li_20, li_21, li_22, li_23, li_24, li_25, li_26, li_27, li_28, li_29, li_30, li_31, li_32, li_40, li_43, li_45, li_47, li_48, li_57, li_59, li_60, li_61, li_62, li_63, li_64, li_80, li_92, li_97, li_99, li_100, li_122, li_123, li_125, li_166, li_201, li_210, li_250, li_255, li_256, li_257, li_258, li_259, li_260, li_261, li_262, li_263, li_264, li_265, li_266, li_267, li_268, li_300, li_500, li_1000, li_12345, li_27720, li_1000000, li_1103515245, ne_m1, ne_m2, e1, e2, ee, e3, go]
theorem mp_goes (hD : rOk D) {s : Nat} (hs : s < D 0 0) {I : hI} (h : mR D I) (hc : chM D p I) (hm : cmM (D 0 0) (mK D p (D 0 0)) I) (hl : ltM D p I) : mM_goesOnPaying (nI s) I = some (bI (pEn D p s)) := by
  have hn := hD.2.1
  have := mp_goes_L hD hs h hc hm hl (D 0 0) 0 hF (by omega) (by unfold hF; omega)
  rw [end_eq] at this
  unfold mM_goesOnPaying
  rw [li_0]
  exact this
end Lo
