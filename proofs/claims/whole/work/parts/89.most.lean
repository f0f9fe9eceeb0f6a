/-! most: both sides. -/
theorem bit10v : ∀ a, a < 1024 → ∀ t, t < 10 → (nI a >>> (nI t &&& nI 31)) &&& nI 1 = nI (if a.testBit t = true then 1 else 0) := by decide +kernel
theorem bits10 : ∀ a, a < 1024 → mJ_bitCount (nI a) = nI (sumF (fun t => if a.testBit t = true then 1 else 0) 0 10) := by decide +kernel
theorem bm_val {x : Int32} {n : Nat} {f : Nat → Bool} (h : bm x n f) (hn : n ≤ 10) {t : Nat} (ht : t < n) : (x >>> (nI t &&& nI 31)) &&& nI 1 = nI (if f t = true then 1 else 0) := by
  obtain ⟨a, a1, rfl, a3⟩ := h
  rw [bit10v a a1 t (by omega), a3]
  simp [ht]
theorem sumF_cut {f : Nat → Bool} {n : Nat} : ∀ m, n ≤ m → sumF (fun t => if (decide (t < n) && f t) = true then 1 else 0) 0 m = sumF (fun t => if f t = true then 1 else 0) 0 n
  | 0, h => by
    have : n = 0 := by omega
    subst this; rfl
  | m + 1, h => by
    by_cases e : n = m + 1
    · subst e
      refine sumU_congr (fun i hi => ?_)
      simp [hi]
    · rw [sumF_snoc, sumF_cut m (by omega)]
      have : ¬ 0 + m < n := by omega
      simp [this]
      intro
      omega
theorem bm_count {x : Int32} {n : Nat} {f : Nat → Bool} (h : bm x n f) (hn : n ≤ 10) : mJ_bitCount x = nI (sumF (fun t => if f t = true then 1 else 0) 0 n) := by
  obtain ⟨a, a1, rfl, a3⟩ := h
  rw [bits10 a a1]
  have : (fun t => if a.testBit t = true then 1 else 0) = (fun t => if (decide (t < n) && f t) = true then 1 else 0) := by funext t; rw [a3]
  rw [this, sumF_cut 10 hn]
section Mo
variable {D : rD}
theorem mp_inBits_L (hD : rOk D) {I : hI} (h : mR D I) : ∀ (r t fuel : Nat) (x : Int32), t + r = D 0 0 → r < fuel → bm x (D 0 0) (fun s => decide (s < t) && pIn D s) → ∃ y, mM_insideBits_L4 fuel x (nI t) I = some y ∧ bm y (D 0 0) (pIn D) := by
  have hn := hD.2.1
  intro r
  induction r with
  | zero =>
    intro t fuel x ht hf hx
    obtain ⟨fuel, rfl⟩ : ∃ m, fuel = m + 1 := ⟨fuel - 1, by omega⟩
    refine ⟨x, ?_, bm_congr hx (fun s hs => by simp; omega)⟩
    unfold mM_insideBits_L4 mM_insideBits_B4
    rw [h.1]
    simp (disch := omega) only [↓reduceIte, h_let, hg_in, hg_zb, hg_z0, hg_z1, hg_nz, Option.bind_some, if_pos, if_neg, bI_0, bI_n0, nI_add, nI_mul, nI_ltI, nI_leI, nI_eq, nI_clamp, nI_subN, nI_divN, nI_mod2, nI_m1e, nI_em1, nI_m2e, nI_lt0, m1_lt0, m1_lt, m1_le, h_u_at, h_u_off2, h_u_pl, li_0, li_1, li_2, li_3, li_4, li_5, li_6, li_7, li_8, li_9, li_10, li_11, li_12, li_13, li_14, li_15, li_16, li_17, li_18, li_19, li_20, li_21, li_22, li_23, li_24, li_25, li_26, li_27, li_28, li_29, li_30, li_31, li_32, li_40, li_43, li_45, li_47, li_48, li_57, li_59, li_60, li_61, li_62, li_63, li_64, li_80, li_92, li_97, li_99, li_100, li_122, li_123, li_125, li_166, li_201, li_210, li_250, li_255, li_256, li_257, li_258, li_259, li_260, li_261, li_262, li_263, li_264, li_265, li_266, li_267, li_268, li_300, li_500, li_1000, li_12345, li_27720, li_1000000, li_1103515245, ne_m1, ne_m2]
  | succ r ih =>
    intro t fuel x ht hf hx
    obtain ⟨fuel, rfl⟩ : ∃ m, fuel = m + 1 := ⟨fuel - 1, by omega⟩
    have ei := m_isInside hD h (s := t) (by omega)
    have e1 : decide (0 < D 1 t) = pIn D t := rfl
    rw [e1] at ei
    unfold mM_insideBits_L4 mM_insideBits_B4
    rw [h.1]
    cases hi : pIn D t
    · rw [hi, bI_f] at ei
      obtain ⟨y, go, hy⟩ := ih (t + 1) fuel (x ||| nI 0) (by omega) (by omega) (bm_congr (bm_or hx (bm_zero _)) (fun s hs => by
        by_cases e : s = t
        · subst e; simp [hi]
        · have : s < t ↔ s < t + 1 := by omega
          simp [this]))
      refine ⟨y, ?_, hy⟩
      simp (disch := omega) only [↓reduceIte, h_let, hg_in, hg_zb, hg_z0, hg_z1, hg_nz, Option.bind_some, if_pos, if_neg, bI_0, bI_n0, nI_add, nI_mul, nI_ltI, nI_leI, nI_eq, nI_clamp, nI_subN, nI_divN, nI_mod2, nI_m1e, nI_em1, nI_m2e, nI_lt0, m1_lt0, m1_lt, m1_le, h_u_at, h_u_off2, h_u_pl, li_0, li_1, li_2, li_3, li_4, li_5, li_6, li_7, li_8, li_9, li_10, li_11, li_12, li_13, li_14, li_15, li_16, li_17, li_18, li_19, li_20, li_21, li_22, li_23, li_24, li_25, li_26, li_27, li_28, li_29, li_30, li_31, li_32, li_40, li_43, li_45, li_47, li_48, li_57, li_59, li_60, li_61, li_62, li_63, li_64, li_80, li_92, li_97, li_99, li_100, li_122, li_123, li_125, li_166, li_201, li_210, li_250, li_255, li_256, li_257, li_258, li_259, li_260, li_261, li_262, li_263, li_264, li_265, li_266, li_267, li_268, li_300, li_500, li_1000, li_12345, li_27720, li_1000000, li_1103515245, ne_m1, ne_m2, ei]
      exact go
    · rw [hi, bI_t] at ei
      obtain ⟨y, go, hy⟩ := ih (t + 1) fuel (x ||| (nI 1 <<< (nI t &&& nI 31))) (by omega) (by omega) (bm_congr (bm_or hx (bm_bit (s := t) (by omega) hn)) (fun s hs => by
        by_cases e : s = t
        · subst e; simp [hi]
        · have : s < t ↔ s < t + 1 := by omega
          simp [this, e]))
      refine ⟨y, ?_, hy⟩
      simp (disch := omega) only [↓reduceIte, h_let, hg_in, hg_zb, hg_z0, hg_z1, hg_nz, Option.bind_some, if_pos, if_neg, bI_0, bI_n0, nI_add, nI_mul, nI_ltI, nI_leI, nI_eq, nI_clamp, nI_subN, nI_divN, nI_mod2, nI_m1e, nI_em1, nI_m2e, nI_lt0, m1_lt0, m1_lt, m1_le, h_u_at, h_u_off2, h_u_pl, li_0, li_1, li_2, li_3, li_4, li_5, li_6, li_7, li_8, li_9, li_10, li_11, li_12, li_13, li_14, li_15, li_16, li_17, li_18, li_19, li_20, li_21, li_22, li_23, li_24, li_25, li_26, li_27, li_28, li_29, li_30, li_31, li_32, li_40, li_43, li_45, li_47, li_48, li_57, li_59, li_60, li_61, li_62, li_63, li_64, li_80, li_92, li_97, li_99, li_100, li_122, li_123, li_125, li_166, li_201, li_210, li_250, li_255, li_256, li_257, li_258, li_259, li_260, li_261, li_262, li_263, li_264, li_265, li_266, li_267, li_268, li_300, li_500, li_1000, li_12345, li_27720, li_1000000, li_1103515245, ne_m1, ne_m2, ei]
      exact go
theorem mp_inBits (hD : rOk D) {Ic Im : hI} (hc : cR D Ic) (hm : mR D Im) : ∃ y, mM_insideBits Im = some y ∧ mJ_bitCount y = mJ_bitCount (Ic 7 6) := by
  have hn := hD.2.1
  obtain ⟨y, h1, h2⟩ := mp_inBits_L hD hm (D 0 0) 0 hF (nI 0) (by omega) (by unfold hF; omega) (bm_congr (bm_zero _) (fun s hs => by simp))
  refine ⟨y, ?_, ?_⟩
  · unfold mM_insideBits
    rw [li_0]
    exact h1
  · rw [bm_eq h2 hc.2.2.2.1 (fun t ht => rfl)]
def mcV (D : rD) : Option Nat → Nat
  | none => 0
  | some u => D 1 u
def mcF (D : rD) (t : Nat) : Nat → Option Nat → Option Nat
  | 0, b => b
  | r + 1, b => mcF D (t + 1) r (if mcV D b < D 1 t then some t else b)
theorem ro_mostC_L (hD : rOk D) {I : hI} (hc : cR D I) : ∀ (r t fuel : Nat) (b : Option Nat), t + r = D 0 0 → r < fuel → (∀ u, b = some u → u < D 0 0) → mRo_withMostChoices_L6 fuel (oI b) (nI (mcV D b)) (nI t) I = some (oI (mcF D t r b)) := by
  have hn := hD.2.1
  intro r
  induction r with
  | zero =>
    intro t fuel b ht hf hb
    obtain ⟨fuel, rfl⟩ : ∃ m, fuel = m + 1 := ⟨fuel - 1, by omega⟩
    unfold mRo_withMostChoices_L6 mRo_withMostChoices_B6
    rw [hc.1]
    simp (disch := omega) only [↓reduceIte, h_let, hg_in, hg_zb, hg_z0, hg_z1, hg_nz, Option.bind_some, if_pos, if_neg, bI_0, bI_n0, nI_add, nI_mul, nI_ltI, nI_leI, nI_eq, nI_clamp, nI_subN, nI_divN, nI_mod2, nI_m1e, nI_em1, nI_m2e, nI_lt0, m1_lt0, m1_lt, m1_le, h_u_at, h_u_off2, h_u_pl, li_0, li_1, li_2, li_3, li_4, li_5, li_6, li_7, li_8, li_9, li_10, li_11, li_12, li_13, li_14, li_15, li_16, li_17, li_18, li_19, li_20, li_21, li_22, li_23, li_24, li_25, li_26, li_27, li_28, li_29, li_30, li_31, li_32, li_40, li_43, li_45, li_47, li_48, li_57, li_59, li_60, li_61, li_62, li_63, li_64, li_80, li_92, li_97, li_99, li_100, li_122, li_123, li_125, li_166, li_201, li_210, li_250, li_255, li_256, li_257, li_258, li_259, li_260, li_261, li_262, li_263, li_264, li_265, li_266, li_267, li_268, li_300, li_500, li_1000, li_12345, li_27720, li_1000000, li_1103515245, ne_m1, ne_m2, mcF]
  | succ r ih =>
    intro t fuel b ht hf hb
    obtain ⟨fuel, rfl⟩ : ∃ m, fuel = m + 1 := ⟨fuel - 1, by omega⟩
    have e8 := hc.2.2.2.2.1 t (by omega)
    have h8 := hD.2.2.2.1 t (by omega)
    have g1 := ih (t + 1) fuel (some t) (by omega) (by omega) (fun u hu => by cases hu; omega)
    have g2 := ih (t + 1) fuel b (by omega) (by omega) hb
    unfold mRo_withMostChoices_L6 mRo_withMostChoices_B6
    have hbb : mcV D b ≤ 8 := by
      cases b with
      | none => exact Nat.zero_le _
      | some u => exact hD.2.2.2.1 u (hb u rfl)
    have e : mcF D t (r + 1) b = mcF D (t + 1) r (if mcV D b < D 1 t then some t else b) := rfl
    rw [hc.1, e]
    by_cases c : mcV D b < D 1 t
    · rw [if_pos c, ← g1]
      simp (disch := omega) only [↓reduceIte, h_let, hg_in, hg_zb, hg_z0, hg_z1, hg_nz, Option.bind_some, if_pos, if_neg, bI_0, bI_n0, nI_add, nI_mul, nI_ltI, nI_leI, nI_eq, nI_clamp, nI_subN, nI_divN, nI_mod2, nI_m1e, nI_em1, nI_m2e, nI_lt0, m1_lt0, m1_lt, m1_le, h_u_at, h_u_off2, h_u_pl, li_0, li_1, li_2, li_3, li_4, li_5, li_6, li_7, li_8, li_9, li_10, li_11, li_12, li_13, li_14, li_15, li_16, li_17, li_18, li_19, li_20, li_21, li_22, li_23, li_24, li_25, li_26, li_27, li_28, li_29, li_30, li_31, li_32, li_40, li_43, li_45, li_47, li_48, li_57, li_59, li_60, li_61, li_62, li_63, li_64, li_80, li_92, li_97, li_99, li_100, li_122, li_123, li_125, li_166, li_201, li_210, li_250, li_255, li_256, li_257, li_258, li_259, li_260, li_261, li_262, li_263, li_264, li_265, li_266, li_267, li_268, li_300, li_500, li_1000, li_12345, li_27720, li_1000000, li_1103515245, ne_m1, ne_m2, e8]
      rfl
    · rw [if_neg c, ← g2]
      simp (disch := omega) only [↓reduceIte, h_let, hg_in, hg_zb, hg_z0, hg_z1, hg_nz, Option.bind_some, if_pos, if_neg, bI_0, bI_n0, nI_add, nI_mul, nI_ltI, nI_leI, nI_eq, nI_clamp, nI_subN, nI_divN, nI_mod2, nI_m1e, nI_em1, nI_m2e, nI_lt0, m1_lt0, m1_lt, m1_le, h_u_at, h_u_off2, h_u_pl, li_0, li_1, li_2, li_3, li_4, li_5, li_6, li_7, li_8, li_9, li_10, li_11, li_12, li_13, li_14, li_15, li_16, li_17, li_18, li_19, li_20, li_21, li_22, li_23, li_24, li_25, li_26, li_27, li_28, li_29, li_30, li_31, li_32, li_40, li_43, li_45, li_47, li_48, li_57, li_59, li_60, li_61, li_62, li_63, li_64, li_80, li_92, li_97, li_99, li_100, li_122, li_123, li_125, li_166, li_201, li_210, li_250, li_255, li_256, li_257, li_258, li_259, li_260, li_261, li_262, li_263, li_264, li_265, li_266, li_267, li_268, li_300, li_500, li_1000, li_12345, li_27720, li_1000000, li_1103515245, ne_m1, ne_m2, e8]
theorem mp_mostC_L (hD : rOk D) {I : hI} (h : mR D I) : ∀ (r t fuel : Nat) (b : Option Nat), t + r = D 0 0 → r < fuel → (∀ u, b = some u → u < D 0 0) → mM_mostChoices_L4 fuel (oI b) (nI t) I = some (oI (mcF D t r b)) := by
  have hn := hD.2.1
  intro r
  induction r with
  | zero =>
    intro t fuel b ht hf hb
    obtain ⟨fuel, rfl⟩ : ∃ m, fuel = m + 1 := ⟨fuel - 1, by omega⟩
    unfold mM_mostChoices_L4 mM_mostChoices_B4
    rw [h.1]
    simp (disch := omega) only [↓reduceIte, h_let, hg_in, hg_zb, hg_z0, hg_z1, hg_nz, Option.bind_some, if_pos, if_neg, bI_0, bI_n0, nI_add, nI_mul, nI_ltI, nI_leI, nI_eq, nI_clamp, nI_subN, nI_divN, nI_mod2, nI_m1e, nI_em1, nI_m2e, nI_lt0, m1_lt0, m1_lt, m1_le, h_u_at, h_u_off2, h_u_pl, li_0, li_1, li_2, li_3, li_4, li_5, li_6, li_7, li_8, li_9, li_10, li_11, li_12, li_13, li_14, li_15, li_16, li_17, li_18, li_19, li_20, li_21, li_22, li_23, li_24, li_25, li_26, li_27, li_28, li_29, li_30, li_31, li_32, li_40, li_43, li_45, li_47, li_48, li_57, li_59, li_60, li_61, li_62, li_63, li_64, li_80, li_92, li_97, li_99, li_100, li_122, li_123, li_125, li_166, li_201, li_210, li_250, li_255, li_256, li_257, li_258, li_259, li_260, li_261, li_262, li_263, li_264, li_265, li_266, li_267, li_268, li_300, li_500, li_1000, li_12345, li_27720, li_1000000, li_1103515245, ne_m1, ne_m2, mcF]
  | succ r ih =>
    intro t fuel b ht hf hb
    obtain ⟨fuel, rfl⟩ : ∃ m, fuel = m + 1 := ⟨fuel - 1, by omega⟩
    have ei := m_isInside hD h (s := t) (by omega)
    have e25 := h.2.2.2.1 t (by omega)
    have h8 := hD.2.2.2.1 t (by omega)
    have g1 := ih (t + 1) fuel (some t) (by omega) (by omega) (fun u hu => by cases hu; omega)
    have g2 := ih (t + 1) fuel b (by omega) (by omega) hb
    have e : mcF D t (r + 1) b = mcF D (t + 1) r (if mcV D b < D 1 t then some t else b) := rfl
    unfold mM_mostChoices_L4 mM_mostChoices_B4
    rw [h.1, e]
    by_cases hi : 0 < D 1 t
    · rw [decide_eq_true hi, bI_t] at ei
      cases b with
      | none =>
        show _ = some (oI (mcF D (t + 1) r (if 0 < D 1 t then some t else none)))
        rw [if_pos hi, ← g1]
        simp (disch := omega) only [↓reduceIte, h_let, hg_in, hg_zb, hg_z0, hg_z1, hg_nz, Option.bind_some, if_pos, if_neg, bI_0, bI_n0, nI_add, nI_mul, nI_ltI, nI_leI, nI_eq, nI_clamp, nI_subN, nI_divN, nI_mod2, nI_m1e, nI_em1, nI_m2e, nI_lt0, m1_lt0, m1_lt, m1_le, h_u_at, h_u_off2, h_u_pl, li_0, li_1, li_2, li_3, li_4, li_5, li_6, li_7, li_8, li_9, li_10, li_11, li_12, li_13, li_14, li_15, li_16, li_17, li_18, li_19, li_20, li_21, li_22, li_23, li_24, li_25, li_26, li_27, li_28, li_29, li_30, li_31, li_32, li_40, li_43, li_45, li_47, li_48, li_57, li_59, li_60, li_61, li_62, li_63, li_64, li_80, li_92, li_97, li_99, li_100, li_122, li_123, li_125, li_166, li_201, li_210, li_250, li_255, li_256, li_257, li_258, li_259, li_260, li_261, li_262, li_263, li_264, li_265, li_266, li_267, li_268, li_300, li_500, li_1000, li_12345, li_27720, li_1000000, li_1103515245, ne_m1, ne_m2, ei, oI, if_true]
      | some u =>
        have hu := hb u rfl
        have hne := nI_nem1 (u := u) (by omega)
        have e25u := h.2.2.2.1 u hu
        have h8u := hD.2.2.2.1 u hu
        show _ = some (oI (mcF D (t + 1) r (if D 1 u < D 1 t then some t else some u)))
        by_cases c : D 1 u < D 1 t
        · rw [if_pos c, ← g1]
          simp (disch := omega) only [↓reduceIte, h_let, hg_in, hg_zb, hg_z0, hg_z1, hg_nz, Option.bind_some, if_pos, if_neg, bI_0, bI_n0, nI_add, nI_mul, nI_ltI, nI_leI, nI_eq, nI_clamp, nI_subN, nI_divN, nI_mod2, nI_m1e, nI_em1, nI_m2e, nI_lt0, m1_lt0, m1_lt, m1_le, h_u_at, h_u_off2, h_u_pl, li_0, li_1, li_2, li_3, li_4, li_5, li_6, li_7, li_8, li_9, li_10, li_11, li_12, li_13, li_14, li_15, li_16, li_17, li_18, li_19, li_20, li_21, li_22, li_23, li_24, li_25, li_26, li_27, li_28, li_29, li_30, li_31, li_32, li_40, li_43, li_45, li_47, li_48, li_57, li_59, li_60, li_61, li_62, li_63, li_64, li_80, li_92, li_97, li_99, li_100, li_122, li_123, li_125, li_166, li_201, li_210, li_250, li_255, li_256, li_257, li_258, li_259, li_260, li_261, li_262, li_263, li_264, li_265, li_266, li_267, li_268, li_300, li_500, li_1000, li_12345, li_27720, li_1000000, li_1103515245, ne_m1, ne_m2, ei, oI, if_neg hne, e25, e25u]
        · rw [if_neg c, ← g2]
          simp (disch := omega) only [↓reduceIte, h_let, hg_in, hg_zb, hg_z0, hg_z1, hg_nz, Option.bind_some, if_pos, if_neg, bI_0, bI_n0, nI_add, nI_mul, nI_ltI, nI_leI, nI_eq, nI_clamp, nI_subN, nI_divN, nI_mod2, nI_m1e, nI_em1, nI_m2e, nI_lt0, m1_lt0, m1_lt, m1_le, h_u_at, h_u_off2, h_u_pl, li_0, li_1, li_2, li_3, li_4, li_5, li_6, li_7, li_8, li_9, li_10, li_11, li_12, li_13, li_14, li_15, li_16, li_17, li_18, li_19, li_20, li_21, li_22, li_23, li_24, li_25, li_26, li_27, li_28, li_29, li_30, li_31, li_32, li_40, li_43, li_45, li_47, li_48, li_57, li_59, li_60, li_61, li_62, li_63, li_64, li_80, li_92, li_97, li_99, li_100, li_122, li_123, li_125, li_166, li_201, li_210, li_250, li_255, li_256, li_257, li_258, li_259, li_260, li_261, li_262, li_263, li_264, li_265, li_266, li_267, li_268, li_300, li_500, li_1000, li_12345, li_27720, li_1000000, li_1103515245, ne_m1, ne_m2, ei, oI, if_neg hne, e25, e25u]
    · rw [decide_eq_false hi, bI_f] at ei
      rw [if_neg (show ¬ mcV D b < D 1 t by omega), ← g2]
      simp (disch := omega) only [↓reduceIte, h_let, hg_in, hg_zb, hg_z0, hg_z1, hg_nz, Option.bind_some, if_pos, if_neg, bI_0, bI_n0, nI_add, nI_mul, nI_ltI, nI_leI, nI_eq, nI_clamp, nI_subN, nI_divN, nI_mod2, nI_m1e, nI_em1, nI_m2e, nI_lt0, m1_lt0, m1_lt, m1_le, h_u_at, h_u_off2, h_u_pl, li_0, li_1, li_2, li_3, li_4, li_5, li_6, li_7, li_8, li_9, li_10, li_11, li_12, li_13, li_14, li_15, li_16, li_17, li_18, li_19, li_20, li_21, li_22, li_23, li_24, li_25, li_26, li_27, li_28, li_29, li_30, li_31, li_32, li_40, li_43, li_45, li_47, li_48, li_57, li_59, li_60, li_61, li_62, li_63, li_64, li_80, li_92, li_97, li_99, li_100, li_122, li_123, li_125, li_166, li_201, li_210, li_250, li_255, li_256, li_257, li_258, li_259, li_260, li_261, li_262, li_263, li_264, li_265, li_266, li_267, li_268, li_300, li_500, li_1000, li_12345, li_27720, li_1000000, li_1103515245, ne_m1, ne_m2, ei]
/-- one of the outermost, the reference's side -/
theorem mp_mostPaid_L (hD : rOk D) (hK : pN D (D 0 0) ≤ 64) {I0 : hI} {J0 : hJ} (h0 : mR D I0) : ∀ (r t fuel : Nat) (b : Option Nat) (I : hI) (J : hJ), t + r = D 0 0 → r < fuel → (∀ u, b = some u → u < D 0 0) → mWy D I0 J0 I J → ∃ (I' : hI) (J' : hJ), mM_mostPaid_L4 fuel (oI b) (nI t) I J = some (oI (omF D true true t r b), I', J') ∧ mWy D I0 J0 I' J' := by
  have hn := hD.2.1
  intro r
  induction r with
  | zero =>
    intro t fuel b I J ht hf hb h
    obtain ⟨fuel, rfl⟩ : ∃ m, fuel = m + 1 := ⟨fuel - 1, by omega⟩
    refine ⟨I, J, ?_, h⟩
    unfold mM_mostPaid_L4 mM_mostPaid_B4
    rw [(offP_mR h0 h.1).1]
    simp (disch := omega) only [↓reduceIte, h_let, hg_in, hg_zb, hg_z0, hg_z1, hg_nz, Option.bind_some, if_pos, if_neg, bI_0, bI_n0, nI_add, nI_mul, nI_ltI, nI_leI, nI_eq, nI_clamp, nI_subN, nI_divN, nI_mod2, nI_m1e, nI_em1, nI_m2e, nI_lt0, m1_lt0, m1_lt, m1_le, h_u_at, h_u_off2, h_u_pl, li_0, li_1, li_2, li_3, li_4, li_5, li_6, li_7, li_8, li_9, li_10, li_11, li_12, li_13, li_14, li_15, li_16, li_17, li_18, li_19, li_20, li_21, li_22, li_23, li_24, li_25, li_26, li_27, li_28, li_29, li_30, li_31, li_32, li_40, li_43, li_45, li_47, li_48, li_57, li_59, li_60, li_61, li_62, li_63, li_64, li_80, li_92, li_97, li_99, li_100, li_122, li_123, li_125, li_166, li_201, li_210, li_250, li_255, li_256, li_257, li_258, li_259, li_260, li_261, li_262, li_263, li_264, li_265, li_266, li_267, li_268, li_300, li_500, li_1000, li_12345, li_27720, li_1000000, li_1103515245, ne_m1, ne_m2, omF]
  | succ r ih =>
    intro t fuel b I J ht hf hb h
    obtain ⟨fuel, rfl⟩ : ∃ m, fuel = m + 1 := ⟨fuel - 1, by omega⟩
    have ei := m_isInside hD (offP_mR h0 h.1) (s := t) (by omega)
    have e1 : decide (0 < D 1 t) = pIn D t := rfl
    rw [e1] at ei
    unfold mM_mostPaid_L4 mM_mostPaid_B4
    rw [(offP_mR h0 h.1).1, omF]
    cases hi : pIn D t
    · rw [hi, bI_f] at ei
      obtain ⟨I', J', go, h2⟩ := ih (t + 1) fuel b I J (by omega) (by omega) hb h
      refine ⟨I', J', ?_, h2⟩
      rw [if_neg (show ¬ (false : Bool) = true by decide), ← go]
      simp (disch := omega) only [↓reduceIte, h_let, hg_in, hg_zb, hg_z0, hg_z1, hg_nz, Option.bind_some, if_pos, if_neg, bI_0, bI_n0, nI_add, nI_mul, nI_ltI, nI_leI, nI_eq, nI_clamp, nI_subN, nI_divN, nI_mod2, nI_m1e, nI_em1, nI_m2e, nI_lt0, m1_lt0, m1_lt, m1_le, h_u_at, h_u_off2, h_u_pl, li_0, li_1, li_2, li_3, li_4, li_5, li_6, li_7, li_8, li_9, li_10, li_11, li_12, li_13, li_14, li_15, li_16, li_17, li_18, li_19, li_20, li_21, li_22, li_23, li_24, li_25, li_26, li_27, li_28, li_29, li_30, li_31, li_32, li_40, li_43, li_45, li_47, li_48, li_57, li_59, li_60, li_61, li_62, li_63, li_64, li_80, li_92, li_97, li_99, li_100, li_122, li_123, li_125, li_166, li_201, li_210, li_250, li_255, li_256, li_257, li_258, li_259, li_260, li_261, li_262, li_263, li_264, li_265, li_266, li_267, li_268, li_300, li_500, li_1000, li_12345, li_27720, li_1000000, li_1103515245, ne_m1, ne_m2, ei]
    · rw [hi, bI_t] at ei
      rw [if_pos (show (true : Bool) = true from rfl)]
      obtain ⟨I1, J1, a1, h1, p1⟩ := mWy_best hD hK true true (s := t) (by omega) h0 h
      rw [bI_t] at a1
      have bt := bpA_lt (D := D) true true t
      unfold mM_mostPaid_54 mM_mostPaid_117 mM_mostPaid_118
      cases b with
      | none =>
        obtain ⟨I', J', go, h2⟩ := ih (t + 1) fuel (some t) I1 J1 (by omega) (by omega) (fun u hu => by cases hu; omega) h1
        refine ⟨I', J', ?_, h2⟩
        rw [omT, ← go]
        simp (disch := omega) only [↓reduceIte, h_let, hg_in, hg_zb, hg_z0, hg_z1, hg_nz, Option.bind_some, if_pos, if_neg, bI_0, bI_n0, nI_add, nI_mul, nI_ltI, nI_leI, nI_eq, nI_clamp, nI_subN, nI_divN, nI_mod2, nI_m1e, nI_em1, nI_m2e, nI_lt0, m1_lt0, m1_lt, m1_le, h_u_at, h_u_off2, h_u_pl, li_0, li_1, li_2, li_3, li_4, li_5, li_6, li_7, li_8, li_9, li_10, li_11, li_12, li_13, li_14, li_15, li_16, li_17, li_18, li_19, li_20, li_21, li_22, li_23, li_24, li_25, li_26, li_27, li_28, li_29, li_30, li_31, li_32, li_40, li_43, li_45, li_47, li_48, li_57, li_59, li_60, li_61, li_62, li_63, li_64, li_80, li_92, li_97, li_99, li_100, li_122, li_123, li_125, li_166, li_201, li_210, li_250, li_255, li_256, li_257, li_258, li_259, li_260, li_261, li_262, li_263, li_264, li_265, li_266, li_267, li_268, li_300, li_500, li_1000, li_12345, li_27720, li_1000000, li_1103515245, ne_m1, ne_m2, ei, a1, oI, if_true]
      | some u =>
        have hu := hb u rfl
        have hne := nI_nem1 (u := u) (by omega)
        obtain ⟨I2, J2, a2, h2, p2⟩ := mWy_best hD hK true true hu h0 h1
        rw [bI_t] at a2
        have bu := bpA_lt (D := D) true true u
        have hne2 := nI_nem1 (u := 10 * bpA D true true u + u) (by omega)
        obtain ⟨t1, t2, _⟩ := p2 _ bt
        obtain ⟨u1, u2, _⟩ := p2 _ bu
        have t1 := t1 t (by omega)
        have u1 := u1 u hu
        obtain ⟨t3, t4⟩ := t2 t (by omega)
        obtain ⟨u3, u4⟩ := u2 u hu
        obtain ⟨Ia, Ja, go1, ha⟩ := ih (t + 1) fuel (some t) I2 J2 (by omega) (by omega) (fun u hu => by cases hu; omega) h2
        obtain ⟨Ib, Jb, go2, hbb⟩ := ih (t + 1) fuel (some u) I2 J2 (by omega) (by omega) hb h2
        rw [omT, if_pos (show (true : Bool) = true from rfl)]
        unfold lsB
        cases eu : pEn D (bpA D true true u) u
        · rw [eu, bI_f] at u1
          have xu := x_eq hD true (p := bpA D true true u) hu (fun _ => eu)
          have pu := q_pos hD (w := true) (p := bpA D true true u) (s := u) (fun _ => eu)
          cases et : pEn D (bpA D true true t) t
          · rw [et, bI_f] at t1
            have xt := x_eq hD true (p := bpA D true true t) (show t < D 0 0 by omega) (fun _ => et)
            rw [xu.1] at u3
            rw [xu.2] at u4
            rw [xt.1] at t3
            rw [xt.2] at t4
            have bdu := qUL_bd hD true (p := bpA D true true u) hu
            have bdt := qUL_bd hD true (p := bpA D true true t) (show t < D 0 0 by omega)
            have q1 := qprod (c := 0) (d := 0) bdu.1 bdt.2
            have q2 := qprod (c := 0) (d := 0) bdt.1 bdu.2
            have e := lI_le (a := qU D true (bpA D true true t) t * qL D true (bpA D true true u) u) (b := qU D true (bpA D true true u) u * qL D true (bpA D true true t) t) (by omega) (by omega) (by omega) (by omega)
            by_cases c : qU D true (bpA D true true u) u * qL D true (bpA D true true t) t < qU D true (bpA D true true t) t * qL D true (bpA D true true u) u
            · refine ⟨Ia, Ja, ?_, ha⟩
              rw [decide_eq_true c, if_pos (show (true : Bool) = true from rfl), ← go1]
              simp (disch := omega) only [↓reduceIte, h_let, hg_in, hg_zb, hg_z0, hg_z1, hg_nz, Option.bind_some, if_pos, if_neg, bI_0, bI_n0, nI_add, nI_mul, nI_ltI, nI_leI, nI_eq, nI_clamp, nI_subN, nI_divN, nI_mod2, nI_m1e, nI_em1, nI_m2e, nI_lt0, m1_lt0, m1_lt, m1_le, h_u_at, h_u_off2, h_u_pl, li_0, li_1, li_2, li_3, li_4, li_5, li_6, li_7, li_8, li_9, li_10, li_11, li_12, li_13, li_14, li_15, li_16, li_17, li_18, li_19, li_20, li_21, li_22, li_23, li_24, li_25, li_26, li_27, li_28, li_29, li_30, li_31, li_32, li_40, li_43, li_45, li_47, li_48, li_57, li_59, li_60, li_61, li_62, li_63, li_64, li_80, li_92, li_97, li_99, li_100, li_122, li_123, li_125, li_166, li_201, li_210, li_250, li_255, li_256, li_257, li_258, li_259, li_260, li_261, li_262, li_263, li_264, li_265, li_266, li_267, li_268, li_300, li_500, li_1000, li_12345, li_27720, li_1000000, li_1103515245, ne_m1, ne_m2, ei, a1, oI, if_neg hne, a2, if_neg hne2, u1, t1, t3, t4, u3, u4, lI_mul, e]
            · refine ⟨Ib, Jb, ?_, hbb⟩
              rw [decide_eq_false c, if_neg (show ¬ (false : Bool) = true by decide), ← go2]
              simp (disch := omega) only [↓reduceIte, h_let, hg_in, hg_zb, hg_z0, hg_z1, hg_nz, Option.bind_some, if_pos, if_neg, bI_0, bI_n0, nI_add, nI_mul, nI_ltI, nI_leI, nI_eq, nI_clamp, nI_subN, nI_divN, nI_mod2, nI_m1e, nI_em1, nI_m2e, nI_lt0, m1_lt0, m1_lt, m1_le, h_u_at, h_u_off2, h_u_pl, li_0, li_1, li_2, li_3, li_4, li_5, li_6, li_7, li_8, li_9, li_10, li_11, li_12, li_13, li_14, li_15, li_16, li_17, li_18, li_19, li_20, li_21, li_22, li_23, li_24, li_25, li_26, li_27, li_28, li_29, li_30, li_31, li_32, li_40, li_43, li_45, li_47, li_48, li_57, li_59, li_60, li_61, li_62, li_63, li_64, li_80, li_92, li_97, li_99, li_100, li_122, li_123, li_125, li_166, li_201, li_210, li_250, li_255, li_256, li_257, li_258, li_259, li_260, li_261, li_262, li_263, li_264, li_265, li_266, li_267, li_268, li_300, li_500, li_1000, li_12345, li_27720, li_1000000, li_1103515245, ne_m1, ne_m2, ei, a1, oI, if_neg hne, a2, if_neg hne2, u1, t1, t3, t4, u3, u4, lI_mul, e]
          · rw [et, bI_t] at t1
            obtain ⟨z1, z2⟩ := q_end et
            refine ⟨Ia, Ja, ?_, ha⟩
            have c : qU D true (bpA D true true u) u * qL D true (bpA D true true t) t < qU D true (bpA D true true t) t * qL D true (bpA D true true u) u := by rw [z1, z2]; omega
            rw [decide_eq_true c, if_pos (show (true : Bool) = true from rfl), ← go1]
            simp (disch := omega) only [↓reduceIte, h_let, hg_in, hg_zb, hg_z0, hg_z1, hg_nz, Option.bind_some, if_pos, if_neg, bI_0, bI_n0, nI_add, nI_mul, nI_ltI, nI_leI, nI_eq, nI_clamp, nI_subN, nI_divN, nI_mod2, nI_m1e, nI_em1, nI_m2e, nI_lt0, m1_lt0, m1_lt, m1_le, h_u_at, h_u_off2, h_u_pl, li_0, li_1, li_2, li_3, li_4, li_5, li_6, li_7, li_8, li_9, li_10, li_11, li_12, li_13, li_14, li_15, li_16, li_17, li_18, li_19, li_20, li_21, li_22, li_23, li_24, li_25, li_26, li_27, li_28, li_29, li_30, li_31, li_32, li_40, li_43, li_45, li_47, li_48, li_57, li_59, li_60, li_61, li_62, li_63, li_64, li_80, li_92, li_97, li_99, li_100, li_122, li_123, li_125, li_166, li_201, li_210, li_250, li_255, li_256, li_257, li_258, li_259, li_260, li_261, li_262, li_263, li_264, li_265, li_266, li_267, li_268, li_300, li_500, li_1000, li_12345, li_27720, li_1000000, li_1103515245, ne_m1, ne_m2, ei, a1, oI, if_neg hne, a2, if_neg hne2, u1, t1]
        · rw [eu, bI_t] at u1
          obtain ⟨z1, z2⟩ := q_end eu
          have bdt := qUL_bd hD true (p := bpA D true true t) (show t < D 0 0 by omega)
          have c : ¬ qU D true (bpA D true true u) u * qL D true (bpA D true true t) t < qU D true (bpA D true true t) t * qL D true (bpA D true true u) u := by rw [z1, z2]; omega
          refine ⟨Ib, Jb, ?_, hbb⟩
          rw [decide_eq_false c, if_neg (show ¬ (false : Bool) = true by decide), ← go2]
          simp (disch := omega) only [↓reduceIte, h_let, hg_in, hg_zb, hg_z0, hg_z1, hg_nz, Option.bind_some, if_pos, if_neg, bI_0, bI_n0, nI_add, nI_mul, nI_ltI, nI_leI, nI_eq, nI_clamp, nI_subN, nI_divN, nI_mod2, nI_m1e, nI_em1, nI_m2e, nI_lt0, m1_lt0, m1_lt, m1_le, h_u_at, h_u_off2, h_u_pl, li_0, li_1, li_2, li_3, li_4, li_5, li_6, li_7, li_8, li_9, li_10, li_11, li_12, li_13, li_14, li_15, li_16, li_17, li_18, li_19, li_20, li_21, li_22, li_23, li_24, li_25, li_26, li_27, li_28, li_29, li_30, li_31, li_32, li_40, li_43, li_45, li_47, li_48, li_57, li_59, li_60, li_61, li_62, li_63, li_64, li_80, li_92, li_97, li_99, li_100, li_122, li_123, li_125, li_166, li_201, li_210, li_250, li_255, li_256, li_257, li_258, li_259, li_260, li_261, li_262, li_263, li_264, li_265, li_266, li_267, li_268, li_300, li_500, li_1000, li_12345, li_27720, li_1000000, li_1103515245, ne_m1, ne_m2, ei, a1, oI, if_neg hne, a2, if_neg hne2, u1]
theorem mp_leastOdds_L (hD : rOk D) (hK : pN D (D 0 0) ≤ 64) {I0 : hI} {J0 : hJ} (h0 : mR D I0) : ∀ (r t fuel : Nat) (b : Option Nat) (I : hI) (J : hJ), t + r = D 0 0 → r < fuel → (∀ u, b = some u → u < D 0 0) → mWy D I0 J0 I J → ∃ (I' : hI) (J' : hJ), mM_leastOdds_L4 fuel (oI b) (nI t) I J = some (oI (omF D false false t r b), I', J') ∧ mWy D I0 J0 I' J' := by
  have hn := hD.2.1
  intro r
  induction r with
  | zero =>
    intro t fuel b I J ht hf hb h
    obtain ⟨fuel, rfl⟩ : ∃ m, fuel = m + 1 := ⟨fuel - 1, by omega⟩
    refine ⟨I, J, ?_, h⟩
    unfold mM_leastOdds_L4 mM_leastOdds_B4
    rw [(offP_mR h0 h.1).1]
    simp (disch := omega) only [↓reduceIte, h_let, hg_in, hg_zb, hg_z0, hg_z1, hg_nz, Option.bind_some, if_pos, if_neg, bI_0, bI_n0, nI_add, nI_mul, nI_ltI, nI_leI, nI_eq, nI_clamp, nI_subN, nI_divN, nI_mod2, nI_m1e, nI_em1, nI_m2e, nI_lt0, m1_lt0, m1_lt, m1_le, h_u_at, h_u_off2, h_u_pl, li_0, li_1, li_2, li_3, li_4, li_5, li_6, li_7, li_8, li_9, li_10, li_11, li_12, li_13, li_14, li_15, li_16, li_17, li_18, li_19, li_20, li_21, li_22, li_23, li_24, li_25, li_26, li_27, li_28, li_29, li_30, li_31, li_32, li_40, li_43, li_45, li_47, li_48, li_57, li_59, li_60, li_61, li_62, li_63, li_64, li_80, li_92, li_97, li_99, li_100, li_122, li_123, li_125, li_166, li_201, li_210, li_250, li_255, li_256, li_257, li_258, li_259, li_260, li_261, li_262, li_263, li_264, li_265, li_266, li_267, li_268, li_300, li_500, li_1000, li_12345, li_27720, li_1000000, li_1103515245, ne_m1, ne_m2, omF]
  | succ r ih =>
    intro t fuel b I J ht hf hb h
    obtain ⟨fuel, rfl⟩ : ∃ m, fuel = m + 1 := ⟨fuel - 1, by omega⟩
    have ei := m_isInside hD (offP_mR h0 h.1) (s := t) (by omega)
    have e1 : decide (0 < D 1 t) = pIn D t := rfl
    rw [e1] at ei
    unfold mM_leastOdds_L4 mM_leastOdds_B4
    rw [(offP_mR h0 h.1).1, omF]
    cases hi : pIn D t
    · rw [hi, bI_f] at ei
      obtain ⟨I', J', go, h2⟩ := ih (t + 1) fuel b I J (by omega) (by omega) hb h
      refine ⟨I', J', ?_, h2⟩
      rw [if_neg (show ¬ (false : Bool) = true by decide), ← go]
      simp (disch := omega) only [↓reduceIte, h_let, hg_in, hg_zb, hg_z0, hg_z1, hg_nz, Option.bind_some, if_pos, if_neg, bI_0, bI_n0, nI_add, nI_mul, nI_ltI, nI_leI, nI_eq, nI_clamp, nI_subN, nI_divN, nI_mod2, nI_m1e, nI_em1, nI_m2e, nI_lt0, m1_lt0, m1_lt, m1_le, h_u_at, h_u_off2, h_u_pl, li_0, li_1, li_2, li_3, li_4, li_5, li_6, li_7, li_8, li_9, li_10, li_11, li_12, li_13, li_14, li_15, li_16, li_17, li_18, li_19, li_20, li_21, li_22, li_23, li_24, li_25, li_26, li_27, li_28, li_29, li_30, li_31, li_32, li_40, li_43, li_45, li_47, li_48, li_57, li_59, li_60, li_61, li_62, li_63, li_64, li_80, li_92, li_97, li_99, li_100, li_122, li_123, li_125, li_166, li_201, li_210, li_250, li_255, li_256, li_257, li_258, li_259, li_260, li_261, li_262, li_263, li_264, li_265, li_266, li_267, li_268, li_300, li_500, li_1000, li_12345, li_27720, li_1000000, li_1103515245, ne_m1, ne_m2, ei]
    · rw [hi, bI_t] at ei
      rw [if_pos (show (true : Bool) = true from rfl)]
      obtain ⟨I1, J1, a1, h1, p1⟩ := mWy_best hD hK false false (s := t) (by omega) h0 h
      rw [bI_f] at a1
      have bt := bpA_lt (D := D) false false t
      unfold mM_leastOdds_54
      cases b with
      | none =>
        obtain ⟨I', J', go, h2⟩ := ih (t + 1) fuel (some t) I1 J1 (by omega) (by omega) (fun u hu => by cases hu; omega) h1
        refine ⟨I', J', ?_, h2⟩
        rw [omT, ← go]
        simp (disch := omega) only [↓reduceIte, h_let, hg_in, hg_zb, hg_z0, hg_z1, hg_nz, Option.bind_some, if_pos, if_neg, bI_0, bI_n0, nI_add, nI_mul, nI_ltI, nI_leI, nI_eq, nI_clamp, nI_subN, nI_divN, nI_mod2, nI_m1e, nI_em1, nI_m2e, nI_lt0, m1_lt0, m1_lt, m1_le, h_u_at, h_u_off2, h_u_pl, li_0, li_1, li_2, li_3, li_4, li_5, li_6, li_7, li_8, li_9, li_10, li_11, li_12, li_13, li_14, li_15, li_16, li_17, li_18, li_19, li_20, li_21, li_22, li_23, li_24, li_25, li_26, li_27, li_28, li_29, li_30, li_31, li_32, li_40, li_43, li_45, li_47, li_48, li_57, li_59, li_60, li_61, li_62, li_63, li_64, li_80, li_92, li_97, li_99, li_100, li_122, li_123, li_125, li_166, li_201, li_210, li_250, li_255, li_256, li_257, li_258, li_259, li_260, li_261, li_262, li_263, li_264, li_265, li_266, li_267, li_268, li_300, li_500, li_1000, li_12345, li_27720, li_1000000, li_1103515245, ne_m1, ne_m2, ei, a1, oI, if_true]
      | some u =>
        have hu := hb u rfl
        have hne := nI_nem1 (u := u) (by omega)
        obtain ⟨I2, J2, a2, h2, p2⟩ := mWy_best hD hK false false hu h0 h1
        rw [bI_f] at a2
        have bu := bpA_lt (D := D) false false u
        have hne2 := nI_nem1 (u := 10 * bpA D false false u + u) (by omega)
        obtain ⟨t3, t4⟩ := (p2 _ bt).2.2 t (by omega)
        obtain ⟨u3, u4⟩ := (p2 _ bu).2.2 u hu
        obtain ⟨Ia, Ja, go1, ha⟩ := ih (t + 1) fuel (some t) I2 J2 (by omega) (by omega) (fun u hu => by cases hu; omega) h2
        obtain ⟨Ib, Jb, go2, hbb⟩ := ih (t + 1) fuel (some u) I2 J2 (by omega) (by omega) hb h2
        rw [omT, if_neg (show ¬ (false : Bool) = true by decide)]
        unfold lsB
        have xu := x_eq hD false (p := bpA D false false u) hu (fun h => absurd h (by decide))
        have xt := x_eq hD false (p := bpA D false false t) (show t < D 0 0 by omega) (fun h => absurd h (by decide))
        rw [xu.1] at u3
        rw [xu.2] at u4
        rw [xt.1] at t3
        rw [xt.2] at t4
        have bdu := qUL_bd hD false (p := bpA D false false u) hu
        have bdt := qUL_bd hD false (p := bpA D false false t) (show t < D 0 0 by omega)
        have q1 := qprod (c := 0) (d := 0) bdu.1 bdt.2
        have q2 := qprod (c := 0) (d := 0) bdt.1 bdu.2
        have e := lI_le (a := qU D false (bpA D false false u) u * qL D false (bpA D false false t) t) (b := qU D false (bpA D false false t) t * qL D false (bpA D false false u) u) (by omega) (by omega) (by omega) (by omega)
        by_cases c : qU D false (bpA D false false t) t * qL D false (bpA D false false u) u < qU D false (bpA D false false u) u * qL D false (bpA D false false t) t
        · refine ⟨Ia, Ja, ?_, ha⟩
          rw [decide_eq_true c, if_pos (show (true : Bool) = true from rfl), ← go1]
          simp (disch := omega) only [↓reduceIte, h_let, hg_in, hg_zb, hg_z0, hg_z1, hg_nz, Option.bind_some, if_pos, if_neg, bI_0, bI_n0, nI_add, nI_mul, nI_ltI, nI_leI, nI_eq, nI_clamp, nI_subN, nI_divN, nI_mod2, nI_m1e, nI_em1, nI_m2e, nI_lt0, m1_lt0, m1_lt, m1_le, h_u_at, h_u_off2, h_u_pl, li_0, li_1, li_2, li_3, li_4, li_5, li_6, li_7, li_8, li_9, li_10, li_11, li_12, li_13, li_14, li_15, li_16, li_17, li_18, li_19, li_20, li_21, li_22, li_23, li_24, li_25, li_26, li_27, li_28, li_29, li_30, li_31, li_32, li_40, li_43, li_45, li_47, li_48, li_57, li_59, li_60, li_61, li_62, li_63, li_64, li_80, li_92, li_97, li_99, li_100, li_122, li_123, li_125, li_166, li_201, li_210, li_250, li_255, li_256, li_257, li_258, li_259, li_260, li_261, li_262, li_263, li_264, li_265, li_266, li_267, li_268, li_300, li_500, li_1000, li_12345, li_27720, li_1000000, li_1103515245, ne_m1, ne_m2, ei, a1, oI, if_neg hne, a2, if_neg hne2, t3, t4, u3, u4, lI_mul, e]
        · refine ⟨Ib, Jb, ?_, hbb⟩
          rw [decide_eq_false c, if_neg (show ¬ (false : Bool) = true by decide), ← go2]
          simp (disch := omega) only [↓reduceIte, h_let, hg_in, hg_zb, hg_z0, hg_z1, hg_nz, Option.bind_some, if_pos, if_neg, bI_0, bI_n0, nI_add, nI_mul, nI_ltI, nI_leI, nI_eq, nI_clamp, nI_subN, nI_divN, nI_mod2, nI_m1e, nI_em1, nI_m2e, nI_lt0, m1_lt0, m1_lt, m1_le, h_u_at, h_u_off2, h_u_pl, li_0, li_1, li_2, li_3, li_4, li_5, li_6, li_7, li_8, li_9, li_10, li_11, li_12, li_13, li_14, li_15, li_16, li_17, li_18, li_19, li_20, li_21, li_22, li_23, li_24, li_25, li_26, li_27, li_28, li_29, li_30, li_31, li_32, li_40, li_43, li_45, li_47, li_48, li_57, li_59, li_60, li_61, li_62, li_63, li_64, li_80, li_92, li_97, li_99, li_100, li_122, li_123, li_125, li_166, li_201, li_210, li_250, li_255, li_256, li_257, li_258, li_259, li_260, li_261, li_262, li_263, li_264, li_265, li_266, li_267, li_268, li_300, li_500, li_1000, li_12345, li_27720, li_1000000, li_1103515245, ne_m1, ne_m2, ei, a1, oI, if_neg hne, a2, if_neg hne2, t3, t4, u3, u4, lI_mul, e]
end Mo
