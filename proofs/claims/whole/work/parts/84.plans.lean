/-! Plans: how many there are; all of them, the reference's side. -/
def pN (D : rD) : Nat → Nat
  | 0 => 1
  | k + 1 => if D 1 k = 0 then pN D k else pN D k * D 1 k
def pQ (D : rD) : Nat → Nat
  | 0 => 1
  | k + 1 => if D 1 k = 0 then pQ D k else if pQ D k * D 1 k < 1000000 then pQ D k * D 1 k else 1000000
theorem pN_pos (D : rD) : ∀ k, 1 ≤ pN D k
  | 0 => Nat.le_refl _
  | k + 1 => by
    rw [pN]
    have := pN_pos D k
    by_cases h : D 1 k = 0
    · rw [if_pos h]; exact this
    · rw [if_neg h]
      exact Nat.mul_pos this (by omega)
theorem pN_succ (D : rD) (k : Nat) : pN D k ≤ pN D (k + 1) := by
  rw [pN]
  by_cases h : D 1 k = 0
  · rw [if_pos h]; exact Nat.le_refl _
  · rw [if_neg h]
    exact Nat.le_mul_of_pos_right _ (by omega)
theorem pN_mono (D : rD) {a b : Nat} (h : a ≤ b) : pN D a ≤ pN D b := by
  induction b with
  | zero => have : a = 0 := by omega
            subst this; exact Nat.le_refl _
  | succ b ih =>
    by_cases e : a = b + 1
    · subst e; exact Nat.le_refl _
    · exact Nat.le_trans (ih (by omega)) (pN_succ D b)
theorem pQ_spec (D : rD) : ∀ k, (pN D k ≤ 64 → pQ D k = pN D k) ∧ (64 < pN D k → 64 < pQ D k) ∧ pQ D k ≤ 1000000
  | 0 => ⟨fun _ => rfl, fun h => h, by rw [pQ]; omega⟩
  | k + 1 => by
    obtain ⟨h1, h2, h3⟩ := pQ_spec D k
    have hm := pN_succ D k
    rw [pN, pQ]
    by_cases e : D 1 k = 0
    · rw [if_pos e, if_pos e]; exact ⟨h1, h2, h3⟩
    · rw [if_neg e, if_neg e]
      rw [pN, if_neg e] at hm
      by_cases q : pN D k ≤ 64
      · rw [h1 q]
        by_cases r : pN D k * D 1 k < 1000000
        · rw [if_pos r]; exact ⟨fun _ => rfl, fun h => h, by omega⟩
        · rw [if_neg r]; exact ⟨fun _ => by omega, fun _ => by decide, by decide⟩
      · have h4 := h2 (by omega)
        have h5 : pQ D k ≤ pQ D k * D 1 k := Nat.le_mul_of_pos_right _ (by omega)
        by_cases r : pQ D k * D 1 k < 1000000
        · rw [if_pos r]; exact ⟨fun _ => by omega, fun _ => by omega, by omega⟩
        · rw [if_neg r]; exact ⟨fun _ => by omega, fun _ => by decide, by decide⟩
section Pls
variable {D : rD}
theorem mp_plans_L (hD : rOk D) {I : hI} (h : mR D I) : ∀ (r s fuel : Nat), s + r = D 0 0 → r < fuel → mM_plans_L4 fuel (nI (pQ D s)) (nI s) I = some (nI (pQ D (D 0 0))) := by
  have hn := hD.2.1
  intro r
  induction r with
  | zero =>
    intro s fuel hs hf
    obtain ⟨fuel, rfl⟩ : ∃ m, fuel = m + 1 := ⟨fuel - 1, by omega⟩
    obtain rfl : s = D 0 0 := by omega
    unfold mM_plans_L4 mM_plans_B4
    rw [h.1]
    simp (disch := omega) only [↓reduceIte, h_let, hg_in, hg_zb, hg_z0, hg_z1, hg_nz, Option.bind_some, if_pos, if_neg, bI_0, bI_n0, nI_add, nI_mul, nI_ltI, nI_leI, nI_eq, nI_clamp, nI_subN, nI_divN, nI_mod2, nI_m1e, nI_em1, nI_m2e, nI_lt0, m1_lt0, m1_lt, m1_le, h_u_at, h_u_off2, h_u_pl, li_0, li_1, li_2, li_3, li_4, li_5, li_6, li_7, li_8, li_9, li_10, li_11, li_12, li_13, li_14, li_15, li_16, li_17, li_18, li_19, li_20, li_21, li_22, li_23, li_24, li_25, li_26, li_27, li_28, li_29, li_30, li_31, li_32, li_40, li_43, li_45, li_47, li_48, li_57, li_59, li_60, li_61, li_62, li_63, li_64, li_80, li_92, li_97, li_99, li_100, li_122, li_123, li_125, li_166, li_201, li_210, li_250, li_255, li_256, li_257, li_258, li_259, li_260, li_261, li_262, li_263, li_264, li_265, li_266, li_267, li_268, li_300, li_500, li_1000, li_12345, li_27720, li_1000000, li_1103515245, ne_m1, ne_m2]
  | succ r ih =>
    intro s fuel hs hf
    obtain ⟨fuel, rfl⟩ : ∃ m, fuel = m + 1 := ⟨fuel - 1, by omega⟩
    have h8 := hD.2.2.2.1 s (by omega)
    have e1 := h.2.2.2.1 s (by omega)
    have hq := (pQ_spec D s).2.2
    have go := ih (s + 1) fuel (by omega) (by omega)
    rw [pQ] at go
    unfold mM_plans_L4 mM_plans_B4
    rw [h.1]
    by_cases e : D 1 s = 0
    · rw [if_pos e] at go
      simp (disch := omega) only [↓reduceIte, h_let, hg_in, hg_zb, hg_z0, hg_z1, hg_nz, Option.bind_some, if_pos, if_neg, bI_0, bI_n0, nI_add, nI_mul, nI_ltI, nI_leI, nI_eq, nI_clamp, nI_subN, nI_divN, nI_mod2, nI_m1e, nI_em1, nI_m2e, nI_lt0, m1_lt0, m1_lt, m1_le, h_u_at, h_u_off2, h_u_pl, li_0, li_1, li_2, li_3, li_4, li_5, li_6, li_7, li_8, li_9, li_10, li_11, li_12, li_13, li_14, li_15, li_16, li_17, li_18, li_19, li_20, li_21, li_22, li_23, li_24, li_25, li_26, li_27, li_28, li_29, li_30, li_31, li_32, li_40, li_43, li_45, li_47, li_48, li_57, li_59, li_60, li_61, li_62, li_63, li_64, li_80, li_92, li_97, li_99, li_100, li_122, li_123, li_125, li_166, li_201, li_210, li_250, li_255, li_256, li_257, li_258, li_259, li_260, li_261, li_262, li_263, li_264, li_265, li_266, li_267, li_268, li_300, li_500, li_1000, li_12345, li_27720, li_1000000, li_1103515245, ne_m1, ne_m2, e1]
      exact go
    · rw [if_neg e] at go
      have hb : pQ D s * D 1 s ≤ 8000000 := by
        have := Nat.mul_le_mul hq h8
        omega
      by_cases q : pQ D s * D 1 s < 1000000
      · rw [if_pos q] at go
        simp (disch := omega) only [↓reduceIte, h_let, hg_in, hg_zb, hg_z0, hg_z1, hg_nz, Option.bind_some, if_pos, if_neg, bI_0, bI_n0, nI_add, nI_mul, nI_ltI, nI_leI, nI_eq, nI_clamp, nI_subN, nI_divN, nI_mod2, nI_m1e, nI_em1, nI_m2e, nI_lt0, m1_lt0, m1_lt, m1_le, h_u_at, h_u_off2, h_u_pl, li_0, li_1, li_2, li_3, li_4, li_5, li_6, li_7, li_8, li_9, li_10, li_11, li_12, li_13, li_14, li_15, li_16, li_17, li_18, li_19, li_20, li_21, li_22, li_23, li_24, li_25, li_26, li_27, li_28, li_29, li_30, li_31, li_32, li_40, li_43, li_45, li_47, li_48, li_57, li_59, li_60, li_61, li_62, li_63, li_64, li_80, li_92, li_97, li_99, li_100, li_122, li_123, li_125, li_166, li_201, li_210, li_250, li_255, li_256, li_257, li_258, li_259, li_260, li_261, li_262, li_263, li_264, li_265, li_266, li_267, li_268, li_300, li_500, li_1000, li_12345, li_27720, li_1000000, li_1103515245, ne_m1, ne_m2, e1]
        exact go
      · rw [if_neg q] at go
        simp (disch := omega) only [↓reduceIte, h_let, hg_in, hg_zb, hg_z0, hg_z1, hg_nz, Option.bind_some, if_pos, if_neg, bI_0, bI_n0, nI_add, nI_mul, nI_ltI, nI_leI, nI_eq, nI_clamp, nI_subN, nI_divN, nI_mod2, nI_m1e, nI_em1, nI_m2e, nI_lt0, m1_lt0, m1_lt, m1_le, h_u_at, h_u_off2, h_u_pl, li_0, li_1, li_2, li_3, li_4, li_5, li_6, li_7, li_8, li_9, li_10, li_11, li_12, li_13, li_14, li_15, li_16, li_17, li_18, li_19, li_20, li_21, li_22, li_23, li_24, li_25, li_26, li_27, li_28, li_29, li_30, li_31, li_32, li_40, li_43, li_45, li_47, li_48, li_57, li_59, li_60, li_61, li_62, li_63, li_64, li_80, li_92, li_97, li_99, li_100, li_122, li_123, li_125, li_166, li_201, li_210, li_250, li_255, li_256, li_257, li_258, li_259, li_260, li_261, li_262, li_263, li_264, li_265, li_266, li_267, li_268, li_300, li_500, li_1000, li_12345, li_27720, li_1000000, li_1103515245, ne_m1, ne_m2, e1]
        exact go
theorem mp_plans (hD : rOk D) {I : hI} (h : mR D I) : mM_plans I = some (nI (pQ D (D 0 0))) := by
  have hn := hD.2.1
  have := mp_plans_L hD h (D 0 0) 0 hF (by omega) (by unfold hF; omega)
  unfold mM_plans
  rw [li_0, li_1]
  exact this
theorem mp_many (hD : rOk D) {I : hI} (h : mR D I) : mM_areTooMany I = some (bI (decide (64 < pN D (D 0 0)))) := by
  have hq := pQ_spec D (D 0 0)
  have e := mp_plans hD h
  unfold mM_areTooMany
  by_cases q : 64 < pN D (D 0 0)
  · have := hq.2.1 q
    have e2 : decide (64 < pN D (D 0 0)) = true := by simpa using q
    rw [e2, bI_t]
    simp (disch := omega) only [↓reduceIte, h_let, hg_in, hg_zb, hg_z0, hg_z1, hg_nz, Option.bind_some, if_pos, if_neg, bI_0, bI_n0, nI_add, nI_mul, nI_ltI, nI_leI, nI_eq, nI_clamp, nI_subN, nI_divN, nI_mod2, nI_m1e, nI_em1, nI_m2e, nI_lt0, m1_lt0, m1_lt, m1_le, h_u_at, h_u_off2, h_u_pl, li_0, li_1, li_2, li_3, li_4, li_5, li_6, li_7, li_8, li_9, li_10, li_11, li_12, li_13, li_14, li_15, li_16, li_17, li_18, li_19, li_20, li_21, li_22, li_23, li_24, li_25, li_26, li_27, li_28, li_29, li_30, li_31, li_32, li_40, li_43, li_45, li_47, li_48, li_57, li_59, li_60, li_61, li_62, li_63, li_64, li_80, li_92, li_97, li_99, li_100, li_122, li_123, li_125, li_166, li_201, li_210, li_250, li_255, li_256, li_257, li_258, li_259, li_260, li_261, li_262, li_263, li_264, li_265, li_266, li_267, li_268, li_300, li_500, li_1000, li_12345, li_27720, li_1000000, li_1103515245, ne_m1, ne_m2, e]
  · have := hq.1 (by omega)
    have e2 : decide (64 < pN D (D 0 0)) = false := by simpa using q
    rw [e2, bI_f]
    simp (disch := omega) only [↓reduceIte, h_let, hg_in, hg_zb, hg_z0, hg_z1, hg_nz, Option.bind_some, if_pos, if_neg, bI_0, bI_n0, nI_add, nI_mul, nI_ltI, nI_leI, nI_eq, nI_clamp, nI_subN, nI_divN, nI_mod2, nI_m1e, nI_em1, nI_m2e, nI_lt0, m1_lt0, m1_lt, m1_le, h_u_at, h_u_off2, h_u_pl, li_0, li_1, li_2, li_3, li_4, li_5, li_6, li_7, li_8, li_9, li_10, li_11, li_12, li_13, li_14, li_15, li_16, li_17, li_18, li_19, li_20, li_21, li_22, li_23, li_24, li_25, li_26, li_27, li_28, li_29, li_30, li_31, li_32, li_40, li_43, li_45, li_47, li_48, li_57, li_59, li_60, li_61, li_62, li_63, li_64, li_80, li_92, li_97, li_99, li_100, li_122, li_123, li_125, li_166, li_201, li_210, li_250, li_255, li_256, li_257, li_258, li_259, li_260, li_261, li_262, li_263, li_264, li_265, li_266, li_267, li_268, li_300, li_500, li_1000, li_12345, li_27720, li_1000000, li_1103515245, ne_m1, ne_m2, e]
/-- the reference's answers of all plans -/
def plMk (D : rD) (k : Nat) (I : hI) (J : hJ) : Prop := ∀ p, p < k → (∀ s, s < D 0 0 → I 35 (10 * p + s) = bI (pEn D p s)) ∧ frM D true p 31 32 J ∧ frM D false p 33 34 J
/-- cells that the plans use, the reference's side -/
def offP (I I' : hI) : Prop := ∀ a i, a ≠ 30 → (a < 35 ∨ 39 < a) → (a ≠ 0 ∨ (i ≠ 67 ∧ i ≠ 78)) → I' a i = I a i
def offQ (J J' : hJ) : Prop := ∀ a i, (a < 31 ∨ (34 < a ∧ a ≠ 40 ∧ a ≠ 41)) → J' a i = J a i
theorem offP_mR {I I' : hI} (h : mR D I) (ho : offP I I') : mR D I' := mR_of h (fun c i q1 q2 => ho c i (by omega) (by omega) (by omega)) (fun i q1 q2 => ho 0 i (by omega) (by omega) (by omega))
theorem offP_trans {I I' I'' : hI} (h1 : offP I I') (h2 : offP I' I'') : offP I I'' := fun a i q1 q2 q3 => by rw [h2 a i q1 q2 q3, h1 a i q1 q2 q3]
theorem offQ_trans {J J' J'' : hJ} (h1 : offQ J J') (h2 : offQ J' J'') : offQ J J'' := fun a i q => by rw [h2 a i q, h1 a i q]
theorem mp_flag_L (hD : rOk D) {p : Nat} (hp : p < 64) (v1 : Int32) (k20 : _) : ∀ (r s fuel : Nat) (I : hI) (J : hJ), s + r = D 0 0 → r < fuel → mR D I → chM D p I → cmM (D 0 0) (mK D p (D 0 0)) I → ltM D p I → (∀ u, u < s → I 35 (10 * p + u) = bI (pEn D p u)) → ∃ (I' : hI) (J' : hJ), mM_laysPlans_L40 k20 fuel v1 (nI p) (nI s) I J = k20 v1 (nI (p + 1)) I' J' ∧ offP I I' ∧ (∀ i, (i < 10 * p ∨ 10 * p + 10 ≤ i) → I' 35 i = I 35 i) ∧ I' 0 67 = I 0 67 ∧ offQ J J' ∧ (∀ a i, 31 ≤ a → a ≤ 34 → (i < 10 * p ∨ 10 * p + 10 ≤ i) → J' a i = J a i) ∧ (∀ s, s < D 0 0 → I' 35 (10 * p + s) = bI (pEn D p s)) ∧ frM D true p 31 32 J' ∧ frM D false p 33 34 J' := by
  have hn := hD.2.1
  intro r
  induction r with
  | zero =>
    intro s fuel I J hs hf h hc hm hl h35
    obtain ⟨fuel, rfl⟩ : ∃ m, fuel = m + 1 := ⟨fuel - 1, by omega⟩
    obtain rfl : s = D 0 0 := by omega
    obtain ⟨I1, J1, a1, a2, a3, a4⟩ := mp_laysFractions hD hp true (a3 := 31) (a4 := 32) (by decide) (by decide) (by decide) (I := I) ⟨h, hc, hl, h35⟩ J
    obtain ⟨I2, J2, b1, b2, b3, b4⟩ := mp_laysFractions hD hp false (a3 := 33) (a4 := 34) (by decide) (by decide) (by decide) (mpH_of ⟨h, hc, hl, h35⟩ a2) J1
    rw [bI_t] at a1
    rw [bI_f] at b1
    refine ⟨I2, J2, ?_, ?_, ?_, ?_, ?_, ?_, ?_, ?_, b4⟩
    · unfold mM_laysPlans_L40 mM_laysPlans_B40
      rw [h.1]
      simp (disch := omega) only [↓reduceIte, h_let, hg_in, hg_zb, hg_z0, hg_z1, hg_nz, Option.bind_some, if_pos, if_neg, bI_0, bI_n0, nI_add, nI_mul, nI_ltI, nI_leI, nI_eq, nI_clamp, nI_subN, nI_divN, nI_mod2, nI_m1e, nI_em1, nI_m2e, nI_lt0, m1_lt0, m1_lt, m1_le, h_u_at, h_u_off2, h_u_pl, li_0, li_1, li_2, li_3, li_4, li_5, li_6, li_7, li_8, li_9, li_10, li_11, li_12, li_13, li_14, li_15, li_16, li_17, li_18, li_19, li_20, li_21, li_22, li_23, li_24, li_25, li_26, li_27, li_28, li_29, li_30, li_31, li_32, li_40, li_43, li_45, li_47, li_48, li_57, li_59, li_60, li_61, li_62, li_63, li_64, li_80, li_92, li_97, li_99, li_100, li_122, li_123, li_125, li_166, li_201, li_210, li_250, li_255, li_256, li_257, li_258, li_259, li_260, li_261, li_262, li_263, li_264, li_265, li_266, li_267, li_268, li_300, li_500, li_1000, li_12345, li_27720, li_1000000, li_1103515245, ne_m1, ne_m2, a1, b1]
    · intro a i q1 q2 q3
      rw [b2 a i (by omega) (by omega) (by omega), a2 a i (by omega) (by omega) (by omega)]
    · intro i _
      rw [b2 35 i (by omega) (by omega) (by omega), a2 35 i (by omega) (by omega) (by omega)]
    · rw [b2 0 67 (by decide) (by decide) (by decide), a2 0 67 (by decide) (by decide) (by decide)]
    · intro a i q
      rw [b3 a i (by omega) (by omega) (by omega), a3 a i (by omega) (by omega) (by omega)]
    · intro a i q1 q2 q3
      rw [b3 a i (by omega) (by omega) (by omega), a3 a i (by omega) (by omega) (by omega)]
    · intro s hs
      rw [b2 35 _ (by omega) (by omega) (by omega), a2 35 _ (by omega) (by omega) (by omega)]
      exact h35 s hs
    · intro s hs
      rw [b3 31 _ (by decide) (by decide) (Or.inl (by decide)), b3 32 _ (by decide) (by decide) (Or.inl (by decide))]
      exact a4 s hs
  | succ r ih =>
    intro s fuel I J hs hf h hc hm hl h35
    obtain ⟨fuel, rfl⟩ : ∃ m, fuel = m + 1 := ⟨fuel - 1, by omega⟩
    have ei := m_isInside hD h (s := s) (by omega)
    have e1 : decide (0 < D 1 s) = pIn D s := rfl
    rw [e1] at ei
    have eg := mp_goes hD (show s < D 0 0 by omega) h hc hm hl
    obtain ⟨I', J', a1, a2, a3, a4, a5, a6, a7⟩ := ih (s + 1) fuel (h_u I 35 (10 * p + s) (bI (pEn D p s))) J (by omega) (by omega) (mR_of h (fun c i q1 q2 => h_u_off2 _ _ _ _ (by omega)) (fun i q1 q2 => h_u_off2 _ _ _ _ (by omega))) (fun u hu => by rw [h_u_off2 _ _ _ _ (by decide)]; exact hc u hu) (fun u t hu ht => by rw [h_u_off2 _ _ _ _ (by decide)]; exact hm u t hu ht) (fun u hu => by rw [h_u_off2 _ _ _ _ (by decide)]; exact hl u hu) (fun u hu => by
      by_cases e : u = s
      · subst e; exact h_u_at _ _ _ _
      · rw [h_u_pl _ _ _ (by omega)]; exact h35 u (by omega))
    refine ⟨I', J', ?_, ?_, ?_, ?_, a5, a6, a7⟩
    · unfold mM_laysPlans_L40 mM_laysPlans_B40 mM_laysPlans_78 mM_laysPlans_79
      rw [h.1]
      cases hi : pIn D s
      · rw [hi, bI_f] at ei
        rw [pEn_out hi, bI_f] at a1
        simp (disch := omega) only [↓reduceIte, h_let, hg_in, hg_zb, hg_z0, hg_z1, hg_nz, Option.bind_some, if_pos, if_neg, bI_0, bI_n0, nI_add, nI_mul, nI_ltI, nI_leI, nI_eq, nI_clamp, nI_subN, nI_divN, nI_mod2, nI_m1e, nI_em1, nI_m2e, nI_lt0, m1_lt0, m1_lt, m1_le, h_u_at, h_u_off2, h_u_pl, li_0, li_1, li_2, li_3, li_4, li_5, li_6, li_7, li_8, li_9, li_10, li_11, li_12, li_13, li_14, li_15, li_16, li_17, li_18, li_19, li_20, li_21, li_22, li_23, li_24, li_25, li_26, li_27, li_28, li_29, li_30, li_31, li_32, li_40, li_43, li_45, li_47, li_48, li_57, li_59, li_60, li_61, li_62, li_63, li_64, li_80, li_92, li_97, li_99, li_100, li_122, li_123, li_125, li_166, li_201, li_210, li_250, li_255, li_256, li_257, li_258, li_259, li_260, li_261, li_262, li_263, li_264, li_265, li_266, li_267, li_268, li_300, li_500, li_1000, li_12345, li_27720, li_1000000, li_1103515245, ne_m1, ne_m2, ei, nar0]
        exact a1
      · rw [hi, bI_t] at ei
        cases he : pEn D p s
        · rw [he, bI_f] at a1 eg
          simp (disch := omega) only [↓reduceIte, h_let, hg_in, hg_zb, hg_z0, hg_z1, hg_nz, Option.bind_some, if_pos, if_neg, bI_0, bI_n0, nI_add, nI_mul, nI_ltI, nI_leI, nI_eq, nI_clamp, nI_subN, nI_divN, nI_mod2, nI_m1e, nI_em1, nI_m2e, nI_lt0, m1_lt0, m1_lt, m1_le, h_u_at, h_u_off2, h_u_pl, li_0, li_1, li_2, li_3, li_4, li_5, li_6, li_7, li_8, li_9, li_10, li_11, li_12, li_13, li_14, li_15, li_16, li_17, li_18, li_19, li_20, li_21, li_22, li_23, li_24, li_25, li_26, li_27, li_28, li_29, li_30, li_31, li_32, li_40, li_43, li_45, li_47, li_48, li_57, li_59, li_60, li_61, li_62, li_63, li_64, li_80, li_92, li_97, li_99, li_100, li_122, li_123, li_125, li_166, li_201, li_210, li_250, li_255, li_256, li_257, li_258, li_259, li_260, li_261, li_262, li_263, li_264, li_265, li_266, li_267, li_268, li_300, li_500, li_1000, li_12345, li_27720, li_1000000, li_1103515245, ne_m1, ne_m2, ei, eg, nar0]
          exact a1
        · rw [he, bI_t] at a1 eg
          simp (disch := omega) only [↓reduceIte, h_let, hg_in, hg_zb, hg_z0, hg_z1, hg_nz, Option.bind_some, if_pos, if_neg, bI_0, bI_n0, nI_add, nI_mul, nI_ltI, nI_leI, nI_eq, nI_clamp, nI_subN, nI_divN, nI_mod2, nI_m1e, nI_em1, nI_m2e, nI_lt0, m1_lt0, m1_lt, m1_le, h_u_at, h_u_off2, h_u_pl, li_0, li_1, li_2, li_3, li_4, li_5, li_6, li_7, li_8, li_9, li_10, li_11, li_12, li_13, li_14, li_15, li_16, li_17, li_18, li_19, li_20, li_21, li_22, li_23, li_24, li_25, li_26, li_27, li_28, li_29, li_30, li_31, li_32, li_40, li_43, li_45, li_47, li_48, li_57, li_59, li_60, li_61, li_62, li_63, li_64, li_80, li_92, li_97, li_99, li_100, li_122, li_123, li_125, li_166, li_201, li_210, li_250, li_255, li_256, li_257, li_258, li_259, li_260, li_261, li_262, li_263, li_264, li_265, li_266, li_267, li_268, li_300, li_500, li_1000, li_12345, li_27720, li_1000000, li_1103515245, ne_m1, ne_m2, ei, eg, nar1]
          exact a1
    · exact offP_trans (fun a i q1 q2 q3 => h_u_off2 _ _ _ _ (by omega)) a2
    · intro i hi
      rw [a3 i hi, h_u_pl _ _ _ (by omega)]
    · rw [a4, h_u_off2 _ _ _ _ (by decide)]
theorem mp_pls_L (hD : rOk D) {K : Nat} (hK : K ≤ 64) : ∀ (r k fuel : Nat) (I : hI) (J : hJ), k + r = K → r < fuel → mR D I → I 0 67 = nI 1 → plMk D k I J → ∃ (I' : hI) (J' : hJ), mM_laysPlans_L20 fuel (nI K) (nI k) I J = some (I', J') ∧ offP I I' ∧ offQ J J' ∧ I' 0 67 = nI 1 ∧ plMk D K I' J' := by
  have hn := hD.2.1
  intro r
  induction r with
  | zero =>
    intro k fuel I J hk hf h h67 hpl
    obtain ⟨fuel, rfl⟩ : ∃ m, fuel = m + 1 := ⟨fuel - 1, by omega⟩
    obtain rfl : k = K := by omega
    refine ⟨I, J, ?_, fun _ _ _ _ _ => rfl, fun _ _ _ => rfl, h67, hpl⟩
    unfold mM_laysPlans_L20 mM_laysPlans_B20
    simp (disch := omega) only [↓reduceIte, h_let, hg_in, hg_zb, hg_z0, hg_z1, hg_nz, Option.bind_some, if_pos, if_neg, bI_0, bI_n0, nI_add, nI_mul, nI_ltI, nI_leI, nI_eq, nI_clamp, nI_subN, nI_divN, nI_mod2, nI_m1e, nI_em1, nI_m2e, nI_lt0, m1_lt0, m1_lt, m1_le, h_u_at, h_u_off2, h_u_pl, li_0, li_1, li_2, li_3, li_4, li_5, li_6, li_7, li_8, li_9, li_10, li_11, li_12, li_13, li_14, li_15, li_16, li_17, li_18, li_19, li_20, li_21, li_22, li_23, li_24, li_25, li_26, li_27, li_28, li_29, li_30, li_31, li_32, li_40, li_43, li_45, li_47, li_48, li_57, li_59, li_60, li_61, li_62, li_63, li_64, li_80, li_92, li_97, li_99, li_100, li_122, li_123, li_125, li_166, li_201, li_210, li_250, li_255, li_256, li_257, li_258, li_259, li_260, li_261, li_262, li_263, li_264, li_265, li_266, li_267, li_268, li_300, li_500, li_1000, li_12345, li_27720, li_1000000, li_1103515245, ne_m1, ne_m2]
  | succ r ih =>
    intro k fuel I J hk hf h h67 hpl
    obtain ⟨fuel, rfl⟩ : ∃ m, fuel = m + 1 := ⟨fuel - 1, by omega⟩
    obtain ⟨I1, a1, a2, a3⟩ := mp_laysPlan hD (show k < 2 ^ 31 by omega) h
    have h1 : mR D I1 := mR_of h (fun c i q1 q2 => a2 c i (by omega)) (fun i q1 q2 => a2 0 i (by omega))
    obtain ⟨I2, b1, b2, b3⟩ := mp_laysComing hD h1 a3
    have h2 : mR D I2 := mR_of h1 (fun c i q1 q2 => b2 c i (by omega)) (fun i q1 q2 => b2 0 i (by omega))
    have c2 : chM D k I2 := fun u hu => by rw [b2 30 u (by omega)]; exact a3 u hu
    obtain ⟨I3, d1, d2, d3⟩ := mp_laysLost hD h2 c2 b3
    have h3 : mR D I3 := mR_of h2 (fun c i q1 q2 => d2 c i (by omega)) (fun i q1 q2 => d2 0 i (by omega))
    have c3 : chM D k I3 := fun u hu => by rw [d2 30 u (by omega)]; exact c2 u hu
    have m3 : cmM (D 0 0) (mK D k (D 0 0)) I3 := fun u t hu ht => by rw [d2 36 _ (by omega)]; exact b3 u t hu ht
    have o3 : offP I I3 := fun a i q1 q2 q3 => by rw [d2 a i (by omega), b2 a i (by omega), a2 a i (by omega)]
    obtain ⟨I4, J4, e1, e2, e3, e4, e5, e6, e7⟩ := mp_flag_L hD (show k < 64 by omega) (nI K) (mM_laysPlans_L20 fuel) (D 0 0) 0 hF I3 J (by omega) (by unfold hF; omega) h3 c3 m3 d3 (fun u hu => by omega)
    obtain ⟨I', J', f1, f2, f3, f4, f5⟩ := ih (k + 1) fuel I4 J4 (by omega) (by omega) (offP_mR h3 e2) (by rw [e4, d2 0 67 (by decide), b2 0 67 (by decide), a2 0 67 (by decide)]; exact h67) (fun p hp => by
      by_cases q : p = k
      · subst q; exact e7
      · obtain ⟨g1, g2, g3⟩ := hpl p (by omega)
        refine ⟨fun s hs => ?_, fun s hs => ?_, fun s hs => ?_⟩
        · rw [e3 _ (by omega), d2 35 _ (by decide), b2 35 _ (by decide), a2 35 _ (by decide)]
          exact g1 s hs
        · rw [e6 31 _ (by decide) (by decide) (by omega), e6 32 _ (by decide) (by decide) (by omega)]
          exact g2 s hs
        · rw [e6 33 _ (by decide) (by decide) (by omega), e6 34 _ (by decide) (by decide) (by omega)]
          exact g3 s hs)
    refine ⟨I', J', ?_, offP_trans (offP_trans o3 e2) f2, offQ_trans e5 f3, f4, f5⟩
    unfold mM_laysPlans_L20 mM_laysPlans_B20
    simp (disch := omega) only [↓reduceIte, h_let, hg_in, hg_zb, hg_z0, hg_z1, hg_nz, Option.bind_some, if_pos, if_neg, bI_0, bI_n0, nI_add, nI_mul, nI_ltI, nI_leI, nI_eq, nI_clamp, nI_subN, nI_divN, nI_mod2, nI_m1e, nI_em1, nI_m2e, nI_lt0, m1_lt0, m1_lt, m1_le, h_u_at, h_u_off2, h_u_pl, li_0, li_1, li_2, li_3, li_4, li_5, li_6, li_7, li_8, li_9, li_10, li_11, li_12, li_13, li_14, li_15, li_16, li_17, li_18, li_19, li_20, li_21, li_22, li_23, li_24, li_25, li_26, li_27, li_28, li_29, li_30, li_31, li_32, li_40, li_43, li_45, li_47, li_48, li_57, li_59, li_60, li_61, li_62, li_63, li_64, li_80, li_92, li_97, li_99, li_100, li_122, li_123, li_125, li_166, li_201, li_210, li_250, li_255, li_256, li_257, li_258, li_259, li_260, li_261, li_262, li_263, li_264, li_265, li_266, li_267, li_268, li_300, li_500, li_1000, li_12345, li_27720, li_1000000, li_1103515245, ne_m1, ne_m2, a1, b1, d1, e1, f1]
/-- the reference's answers: not laid yet, or laid -/
def plMR (D : rD) (K : Nat) (I : hI) (J : hJ) : Prop := I 0 67 = nI 0 ∨ (I 0 67 = nI 1 ∧ plMk D K I J)
theorem mp_laysPlans (hD : rOk D) (hK : pN D (D 0 0) ≤ 64) {I : hI} {J : hJ} (h : mR D I) (hr : plMR D (pN D (D 0 0)) I J) : ∃ (I' : hI) (J' : hJ), mM_laysPlans I J = some (I', J') ∧ offP I I' ∧ offQ J J' ∧ I' 0 67 = nI 1 ∧ plMk D (pN D (D 0 0)) I' J' := by
  unfold mM_laysPlans
  rcases hr with hr | ⟨hr, hp⟩
  · have o1 : offP I (h_u I 0 67 (nI 1)) := fun a i q1 q2 q3 => by
      by_cases e : a = 0
      · subst e; exact h_u_pl _ _ _ (by omega)
      · exact h_u_off2 _ _ _ _ e
    have h1 := offP_mR h o1
    have e1 := mp_plans hD h1
    rw [(pQ_spec D (D 0 0)).1 hK] at e1
    obtain ⟨I', J', f1, f2, f3, f4, f5⟩ := mp_pls_L hD hK (pN D (D 0 0)) 0 hF (h_u I 0 67 (nI 1)) J (by omega) (by unfold hF; omega) h1 (h_u_at _ _ _ _) (fun p hp => by omega)
    refine ⟨I', J', ?_, offP_trans o1 f2, f3, f4, f5⟩
    rw [hr]
    simp (disch := omega) only [↓reduceIte, h_let, hg_in, hg_zb, hg_z0, hg_z1, hg_nz, Option.bind_some, if_pos, if_neg, bI_0, bI_n0, nI_add, nI_mul, nI_ltI, nI_leI, nI_eq, nI_clamp, nI_subN, nI_divN, nI_mod2, nI_m1e, nI_em1, nI_m2e, nI_lt0, m1_lt0, m1_lt, m1_le, h_u_at, h_u_off2, h_u_pl, li_0, li_1, li_2, li_3, li_4, li_5, li_6, li_7, li_8, li_9, li_10, li_11, li_12, li_13, li_14, li_15, li_16, li_17, li_18, li_19, li_20, li_21, li_22, li_23, li_24, li_25, li_26, li_27, li_28, li_29, li_30, li_31, li_32, li_40, li_43, li_45, li_47, li_48, li_57, li_59, li_60, li_61, li_62, li_63, li_64, li_80, li_92, li_97, li_99, li_100, li_122, li_123, li_125, li_166, li_201, li_210, li_250, li_255, li_256, li_257, li_258, li_259, li_260, li_261, li_262, li_263, li_264, li_265, li_266, li_267, li_268, li_300, li_500, li_1000, li_12345, li_27720, li_1000000, li_1103515245, ne_m1, ne_m2, e1, f1]
  · refine ⟨I, J, ?_, fun _ _ _ _ _ => rfl, fun _ _ _ => rfl, hr, hp⟩
    rw [hr]
    simp (disch := omega) only [↓reduceIte, h_let, hg_in, hg_zb, hg_z0, hg_z1, hg_nz, Option.bind_some, if_pos, if_neg, bI_0, bI_n0, nI_add, nI_mul, nI_ltI, nI_leI, nI_eq, nI_clamp, nI_subN, nI_divN, nI_mod2, nI_m1e, nI_em1, nI_m2e, nI_lt0, m1_lt0, m1_lt, m1_le, h_u_at, h_u_off2, h_u_pl, li_0, li_1, li_2, li_3, li_4, li_5, li_6, li_7, li_8, li_9, li_10, li_11, li_12, li_13, li_14, li_15, li_16, li_17, li_18, li_19, li_20, li_21, li_22, li_23, li_24, li_25, li_26, li_27, li_28, li_29, li_30, li_31, li_32, li_40, li_43, li_45, li_47, li_48, li_57, li_59, li_60, li_61, li_62, li_63, li_64, li_80, li_92, li_97, li_99, li_100, li_122, li_123, li_125, li_166, li_201, li_210, li_250, li_255, li_256, li_257, li_258, li_259, li_260, li_261, li_262, li_263, li_264, li_265, li_266, li_267, li_268, li_300, li_500, li_1000, li_12345, li_27720, li_1000000, li_1103515245, ne_m1, ne_m2]
end Pls
