/-! best: both sides answer alike. -/
def upV (x y : Int) (j : Nat) (P : Nat → Int) : Int := if j < 2 then pV x y P else if j < 4 then P 0 else if j < 6 then P 1 else P 2
theorem upV_eq {x y : Int} (j : Nat) {P Q : Nat → Int} (h : eqP P Q) : upV x y j P * Q 3 = upV x y j Q * P 3 := by
  have hv := eqP_V (x := x) (y := y) h
  obtain ⟨a, b, c⟩ := h
  unfold upV
  split
  · exact hv
  · split
    · exact a
    · split
      · exact b
      · exact c
theorem upV_bd {P : Nat → Int} (h : ptB P) {x y : Nat} (hx : x ≤ 9) (hy : y ≤ 9) (j : Nat) : - 283668480 ≤ upV x y j P ∧ upV x y j P ≤ 283668480 := by
  have hv := pV_bd h hx hy
  obtain ⟨a, b, c, _⟩ := h
  unfold upV
  split
  · exact hv
  · split
    · omega
    · split <;> omega
theorem low_rd {a b : Int} (h1 : - 2 ^ 62 < a) (h2 : a < 2 ^ 62) (h3 : 0 < b) (h4 : b < 2 ^ 48) {k : Nat} (hk : k < 2) : mC_lowest (lI a) (lI b) (nI k) = some (lI (if k = 0 then rdU a b else rdL a b)) ∧ mM_least (lI a) (lI b) (nI k) = some (lI (if k = 0 then rdU a b else rdL a b)) := by
  have e1 := c_divisor (a := a) (b := b) (by omega) (by omega) (by omega) h4
  have e2 := m_divisor (a := a) (b := b) (by omega) (by omega) (by omega) h4
  have e3 : lN (Nat.gcd a.natAbs b.natAbs) = lI (gcI a b) := rfl
  rw [e3] at e1 e2
  have hp := gcI_pos (a := a) (b := b) (by omega)
  have hl := gcI_le (a := a) (b := b) (by omega)
  have hne : ¬ lI (gcI a b) = (0 : Int64) := fun e => by
    have := (lI_eq (a := gcI a b) (b := 0) (by omega) (by omega) (by omega) (by omega)).mp e
    omega
  have hnz : ∀ {β : Type} (k : Option β), h_g (h_nzL (lI (gcI a b))) k = k := fun k => hg_nzL k (by omega) (by omega) (by omega)
  have d1 : lI a / lI (gcI a b) = lI (rdU a b) := lI_div (by omega) (by omega) (by omega) (by omega)
  have d2 : lI b / lI (gcI a b) = lI (rdL a b) := lI_div (by omega) (by omega) (by omega) (by omega)
  unfold mC_lowest mM_least
  by_cases ck : k = 0
  · subst ck
    rw [if_pos rfl]
    constructor
    · simp (disch := omega) only [↓reduceIte, h_let, hg_in, hg_zb, hg_z0, hg_z1, hg_nz, Option.bind_some, if_pos, if_neg, bI_0, bI_n0, nI_add, nI_mul, nI_ltI, nI_leI, nI_eq, nI_clamp, nI_subN, nI_divN, nI_mod2, nI_m1e, nI_em1, nI_m2e, nI_lt0, m1_lt0, m1_lt, m1_le, h_u_at, h_u_off2, h_u_pl, li_0, li_1, li_2, li_3, li_4, li_5, li_6, li_7, li_8, li_9, li_10, li_11, li_12, li_13, li_14, li_15, li_16, li_17, li_18, li_19, li_20, li_21, li_22, li_23, li_24, li_25, li_26, li_27, li_28, li_29, li_30, li_31, li_32, li_40, li_43, li_45, li_47, li_48, li_57, li_59, li_60, li_61, li_62, li_63, li_64, li_80, li_92, li_97, li_99, li_100, li_122, li_123, li_125, li_166, li_201, li_210, li_250, li_255, li_256, li_257, li_258, li_259, li_260, li_261, li_262, li_263, li_264, li_265, li_266, li_267, li_268, li_300, li_500, li_1000, li_12345, li_27720, li_1000000, li_1103515245, ne_m1, ne_m2, e1, if_neg hne, hnz, d1]
    · simp (disch := omega) only [↓reduceIte, h_let, hg_in, hg_zb, hg_z0, hg_z1, hg_nz, Option.bind_some, if_pos, if_neg, bI_0, bI_n0, nI_add, nI_mul, nI_ltI, nI_leI, nI_eq, nI_clamp, nI_subN, nI_divN, nI_mod2, nI_m1e, nI_em1, nI_m2e, nI_lt0, m1_lt0, m1_lt, m1_le, h_u_at, h_u_off2, h_u_pl, li_0, li_1, li_2, li_3, li_4, li_5, li_6, li_7, li_8, li_9, li_10, li_11, li_12, li_13, li_14, li_15, li_16, li_17, li_18, li_19, li_20, li_21, li_22, li_23, li_24, li_25, li_26, li_27, li_28, li_29, li_30, li_31, li_32, li_40, li_43, li_45, li_47, li_48, li_57, li_59, li_60, li_61, li_62, li_63, li_64, li_80, li_92, li_97, li_99, li_100, li_122, li_123, li_125, li_166, li_201, li_210, li_250, li_255, li_256, li_257, li_258, li_259, li_260, li_261, li_262, li_263, li_264, li_265, li_266, li_267, li_268, li_300, li_500, li_1000, li_12345, li_27720, li_1000000, li_1103515245, ne_m1, ne_m2, e2, hnz, d1]
  · rw [if_neg ck]
    constructor
    · simp (disch := omega) only [↓reduceIte, h_let, hg_in, hg_zb, hg_z0, hg_z1, hg_nz, Option.bind_some, if_pos, if_neg, bI_0, bI_n0, nI_add, nI_mul, nI_ltI, nI_leI, nI_eq, nI_clamp, nI_subN, nI_divN, nI_mod2, nI_m1e, nI_em1, nI_m2e, nI_lt0, m1_lt0, m1_lt, m1_le, h_u_at, h_u_off2, h_u_pl, li_0, li_1, li_2, li_3, li_4, li_5, li_6, li_7, li_8, li_9, li_10, li_11, li_12, li_13, li_14, li_15, li_16, li_17, li_18, li_19, li_20, li_21, li_22, li_23, li_24, li_25, li_26, li_27, li_28, li_29, li_30, li_31, li_32, li_40, li_43, li_45, li_47, li_48, li_57, li_59, li_60, li_61, li_62, li_63, li_64, li_80, li_92, li_97, li_99, li_100, li_122, li_123, li_125, li_166, li_201, li_210, li_250, li_255, li_256, li_257, li_258, li_259, li_260, li_261, li_262, li_263, li_264, li_265, li_266, li_267, li_268, li_300, li_500, li_1000, li_12345, li_27720, li_1000000, li_1103515245, ne_m1, ne_m2, e1, if_neg hne, hnz, d2]
    · simp (disch := omega) only [↓reduceIte, h_let, hg_in, hg_zb, hg_z0, hg_z1, hg_nz, Option.bind_some, if_pos, if_neg, bI_0, bI_n0, nI_add, nI_mul, nI_ltI, nI_leI, nI_eq, nI_clamp, nI_subN, nI_divN, nI_mod2, nI_m1e, nI_em1, nI_m2e, nI_lt0, m1_lt0, m1_lt, m1_le, h_u_at, h_u_off2, h_u_pl, li_0, li_1, li_2, li_3, li_4, li_5, li_6, li_7, li_8, li_9, li_10, li_11, li_12, li_13, li_14, li_15, li_16, li_17, li_18, li_19, li_20, li_21, li_22, li_23, li_24, li_25, li_26, li_27, li_28, li_29, li_30, li_31, li_32, li_40, li_43, li_45, li_47, li_48, li_57, li_59, li_60, li_61, li_62, li_63, li_64, li_80, li_92, li_97, li_99, li_100, li_122, li_123, li_125, li_166, li_201, li_210, li_250, li_255, li_256, li_257, li_258, li_259, li_260, li_261, li_262, li_263, li_264, li_265, li_266, li_267, li_268, li_300, li_500, li_1000, li_12345, li_27720, li_1000000, li_1103515245, ne_m1, ne_m2, e2, hnz, d2]
section Pb
variable {D : rD}
theorem co_told (hD : rOk D) {I : hI} {J : hJ} (hc : cR D I) {s j : Nat} (hs : s < D 0 0) (hj : j < 8) {K : Nat → Int} (h : ptQ (50 + s) K J) : mCo_told (nI s) (nI j) I J = mC_lowest (lI (upV (s % D 0 1 : Nat) (s / D 0 1 : Nat) j K)) (lI (K 3)) (nI (j % 2)) := by
  have hn := hD.2.1
  have t := co_tells hD hc hs h
  obtain ⟨k0, k1, k2, k3⟩ := h
  have o1 : mC_isOutside (nI s) (nI 10) = nI 0 := by
    unfold mC_isOutside
    simp (disch := omega) only [↓reduceIte, h_let, hg_in, hg_zb, hg_z0, hg_z1, hg_nz, Option.bind_some, if_pos, if_neg, bI_0, bI_n0, nI_add, nI_mul, nI_ltI, nI_leI, nI_eq, nI_clamp, nI_subN, nI_divN, nI_mod2, nI_m1e, nI_em1, nI_m2e, nI_lt0, m1_lt0, m1_lt, m1_le, h_u_at, h_u_off2, h_u_pl, li_0, li_1, li_2, li_3, li_4, li_5, li_6, li_7, li_8, li_9, li_10, li_11, li_12, li_13, li_14, li_15, li_16, li_17, li_18, li_19, li_20, li_21, li_22, li_23, li_24, li_25, li_26, li_27, li_28, li_29, li_30, li_31, li_32, li_40, li_43, li_45, li_47, li_48, li_57, li_59, li_60, li_61, li_62, li_63, li_64, li_80, li_92, li_97, li_99, li_100, li_122, li_123, li_125, li_166, li_201, li_210, li_250, li_255, li_256, li_257, li_258, li_259, li_260, li_261, li_262, li_263, li_264, li_265, li_266, li_267, li_268, li_300, li_500, li_1000, li_12345, li_27720, li_1000000, li_1103515245, ne_m1, ne_m2]
  have fin : ∀ x : Int64, mCo_told_49 (nI j) (50 + s) x I J = mC_lowest x (lI (K 3)) (nI (j % 2)) := fun x => by
    have em : j - j / 2 * 2 = j % 2 := by omega
    unfold mCo_told_49
    simp (disch := omega) only [↓reduceIte, h_let, hg_in, hg_zb, hg_z0, hg_z1, hg_nz, Option.bind_some, if_pos, if_neg, bI_0, bI_n0, nI_add, nI_mul, nI_ltI, nI_leI, nI_eq, nI_clamp, nI_subN, nI_divN, nI_mod2, nI_m1e, nI_em1, nI_m2e, nI_lt0, m1_lt0, m1_lt, m1_le, h_u_at, h_u_off2, h_u_pl, li_0, li_1, li_2, li_3, li_4, li_5, li_6, li_7, li_8, li_9, li_10, li_11, li_12, li_13, li_14, li_15, li_16, li_17, li_18, li_19, li_20, li_21, li_22, li_23, li_24, li_25, li_26, li_27, li_28, li_29, li_30, li_31, li_32, li_40, li_43, li_45, li_47, li_48, li_57, li_59, li_60, li_61, li_62, li_63, li_64, li_80, li_92, li_97, li_99, li_100, li_122, li_123, li_125, li_166, li_201, li_210, li_250, li_255, li_256, li_257, li_258, li_259, li_260, li_261, li_262, li_263, li_264, li_265, li_266, li_267, li_268, li_300, li_500, li_1000, li_12345, li_27720, li_1000000, li_1103515245, ne_m1, ne_m2, k3, em]
    cases mC_lowest x (lI (K 3)) (nI (j % 2)) <;> rfl
  have oN : mC_isOutside (nI 0 - nI 1) (nI 3) = nI 1 := by decide
  have oY : ∀ m, m < 3 → mC_isOutside (nI m) (nI 3) = nI 0 := fun m hm => by
    unfold mC_isOutside
    simp (disch := omega) only [↓reduceIte, h_let, hg_in, hg_zb, hg_z0, hg_z1, hg_nz, Option.bind_some, if_pos, if_neg, bI_0, bI_n0, nI_add, nI_mul, nI_ltI, nI_leI, nI_eq, nI_clamp, nI_subN, nI_divN, nI_mod2, nI_m1e, nI_em1, nI_m2e, nI_lt0, m1_lt0, m1_lt, m1_le, h_u_at, h_u_off2, h_u_pl, li_0, li_1, li_2, li_3, li_4, li_5, li_6, li_7, li_8, li_9, li_10, li_11, li_12, li_13, li_14, li_15, li_16, li_17, li_18, li_19, li_20, li_21, li_22, li_23, li_24, li_25, li_26, li_27, li_28, li_29, li_30, li_31, li_32, li_40, li_43, li_45, li_47, li_48, li_57, li_59, li_60, li_61, li_62, li_63, li_64, li_80, li_92, li_97, li_99, li_100, li_122, li_123, li_125, li_166, li_201, li_210, li_250, li_255, li_256, li_257, li_258, li_259, li_260, li_261, li_262, li_263, li_264, li_265, li_266, li_267, li_268, li_300, li_500, li_1000, li_12345, li_27720, li_1000000, li_1103515245, ne_m1, ne_m2]
  unfold mCo_told upV
  rcases (show j / 2 = 0 ∨ j / 2 = 1 ∨ j / 2 = 2 ∨ j / 2 = 3 by omega) with q | q | q | q
  · rw [if_pos (show j < 2 by omega)]
    have e : nI j / nI 2 = nI 0 := by rw [nI_divN (by omega) (by omega), q]
    rw [hl_eq, li_2, li_1, li_3, e, oN]
    simp (disch := omega) only [↓reduceIte, h_let, hg_in, hg_zb, hg_z0, hg_z1, hg_nz, Option.bind_some, if_pos, if_neg, bI_0, bI_n0, nI_add, nI_mul, nI_ltI, nI_leI, nI_eq, nI_clamp, nI_subN, nI_divN, nI_mod2, nI_m1e, nI_em1, nI_m2e, nI_lt0, m1_lt0, m1_lt, m1_le, h_u_at, h_u_off2, h_u_pl, li_0, li_1, li_2, li_3, li_4, li_5, li_6, li_7, li_8, li_9, li_10, li_11, li_12, li_13, li_14, li_15, li_16, li_17, li_18, li_19, li_20, li_21, li_22, li_23, li_24, li_25, li_26, li_27, li_28, li_29, li_30, li_31, li_32, li_40, li_43, li_45, li_47, li_48, li_57, li_59, li_60, li_61, li_62, li_63, li_64, li_80, li_92, li_97, li_99, li_100, li_122, li_123, li_125, li_166, li_201, li_210, li_250, li_255, li_256, li_257, li_258, li_259, li_260, li_261, li_262, li_263, li_264, li_265, li_266, li_267, li_268, li_300, li_500, li_1000, li_12345, li_27720, li_1000000, li_1103515245, ne_m1, ne_m2, o1, t, fin]
  · rw [if_neg (show ¬ j < 2 by omega), if_pos (show j < 4 by omega)]
    have e : nI j / nI 2 = nI 1 := by rw [nI_divN (by omega) (by omega), q]
    have e' : nI 1 - nI 1 = nI 0 := by decide
    rw [hl_eq, li_2, li_1, li_3, e, e', oY 0 (by decide)]
    simp (disch := omega) only [↓reduceIte, h_let, hg_in, hg_zb, hg_z0, hg_z1, hg_nz, Option.bind_some, if_pos, if_neg, bI_0, bI_n0, nI_add, nI_mul, nI_ltI, nI_leI, nI_eq, nI_clamp, nI_subN, nI_divN, nI_mod2, nI_m1e, nI_em1, nI_m2e, nI_lt0, m1_lt0, m1_lt, m1_le, h_u_at, h_u_off2, h_u_pl, li_0, li_1, li_2, li_3, li_4, li_5, li_6, li_7, li_8, li_9, li_10, li_11, li_12, li_13, li_14, li_15, li_16, li_17, li_18, li_19, li_20, li_21, li_22, li_23, li_24, li_25, li_26, li_27, li_28, li_29, li_30, li_31, li_32, li_40, li_43, li_45, li_47, li_48, li_57, li_59, li_60, li_61, li_62, li_63, li_64, li_80, li_92, li_97, li_99, li_100, li_122, li_123, li_125, li_166, li_201, li_210, li_250, li_255, li_256, li_257, li_258, li_259, li_260, li_261, li_262, li_263, li_264, li_265, li_266, li_267, li_268, li_300, li_500, li_1000, li_12345, li_27720, li_1000000, li_1103515245, ne_m1, ne_m2, o1, k0, fin]
  · rw [if_neg (show ¬ j < 2 by omega), if_neg (show ¬ j < 4 by omega), if_pos (show j < 6 by omega)]
    have e : nI j / nI 2 = nI 2 := by rw [nI_divN (by omega) (by omega), q]
    have e' : nI 2 - nI 1 = nI 1 := by decide
    rw [hl_eq, li_2, li_1, li_3, e, e', oY 1 (by decide)]
    simp (disch := omega) only [↓reduceIte, h_let, hg_in, hg_zb, hg_z0, hg_z1, hg_nz, Option.bind_some, if_pos, if_neg, bI_0, bI_n0, nI_add, nI_mul, nI_ltI, nI_leI, nI_eq, nI_clamp, nI_subN, nI_divN, nI_mod2, nI_m1e, nI_em1, nI_m2e, nI_lt0, m1_lt0, m1_lt, m1_le, h_u_at, h_u_off2, h_u_pl, li_0, li_1, li_2, li_3, li_4, li_5, li_6, li_7, li_8, li_9, li_10, li_11, li_12, li_13, li_14, li_15, li_16, li_17, li_18, li_19, li_20, li_21, li_22, li_23, li_24, li_25, li_26, li_27, li_28, li_29, li_30, li_31, li_32, li_40, li_43, li_45, li_47, li_48, li_57, li_59, li_60, li_61, li_62, li_63, li_64, li_80, li_92, li_97, li_99, li_100, li_122, li_123, li_125, li_166, li_201, li_210, li_250, li_255, li_256, li_257, li_258, li_259, li_260, li_261, li_262, li_263, li_264, li_265, li_266, li_267, li_268, li_300, li_500, li_1000, li_12345, li_27720, li_1000000, li_1103515245, ne_m1, ne_m2, o1, k1, fin]
  · rw [if_neg (show ¬ j < 2 by omega), if_neg (show ¬ j < 4 by omega), if_neg (show ¬ j < 6 by omega)]
    have e : nI j / nI 2 = nI 3 := by rw [nI_divN (by omega) (by omega), q]
    have e' : nI 3 - nI 1 = nI 2 := by decide
    rw [hl_eq, li_2, li_1, li_3, e, e', oY 2 (by decide)]
    simp (disch := omega) only [↓reduceIte, h_let, hg_in, hg_zb, hg_z0, hg_z1, hg_nz, Option.bind_some, if_pos, if_neg, bI_0, bI_n0, nI_add, nI_mul, nI_ltI, nI_leI, nI_eq, nI_clamp, nI_subN, nI_divN, nI_mod2, nI_m1e, nI_em1, nI_m2e, nI_lt0, m1_lt0, m1_lt, m1_le, h_u_at, h_u_off2, h_u_pl, li_0, li_1, li_2, li_3, li_4, li_5, li_6, li_7, li_8, li_9, li_10, li_11, li_12, li_13, li_14, li_15, li_16, li_17, li_18, li_19, li_20, li_21, li_22, li_23, li_24, li_25, li_26, li_27, li_28, li_29, li_30, li_31, li_32, li_40, li_43, li_45, li_47, li_48, li_57, li_59, li_60, li_61, li_62, li_63, li_64, li_80, li_92, li_97, li_99, li_100, li_122, li_123, li_125, li_166, li_201, li_210, li_250, li_255, li_256, li_257, li_258, li_259, li_260, li_261, li_262, li_263, li_264, li_265, li_266, li_267, li_268, li_300, li_500, li_1000, li_12345, li_27720, li_1000000, li_1103515245, ne_m1, ne_m2, o1, k2, fin]
theorem mp_laysBest (hD : rOk D) {I : hI} (J : hJ) (hm : mR D I) {s : Nat} (hs : s < D 0 0) : ∃ (b : Bool) (I' : hI) (J' : hJ), mM_laysBest (nI s) I J = some (bI b, I', J') ∧ (∀ a i, (a ≠ 0 ∨ i ≠ 88) → I' a i = I a i) ∧ (∀ a x, (a < 45 ∨ 48 < a) → (a ≠ 0 ∨ x < 89 ∨ 96 < x) → J' a x = J a x) ∧ kmQ D (crT D) s b J' := by
  have hn := hD.2.1
  have hw := wd_pos hD
  have ht : 1 ≤ D 0 2 ∧ D 0 2 ≤ 10 := by
    have h2 := hD.2.2.1
    have h1 := hD.1
    have h4 : D 0 2 ≠ 0 := fun e => by rw [e] at h2; omega
    have : 1 * D 0 2 ≤ D 0 1 * D 0 2 := Nat.mul_le_mul_right _ hw.1
    omega
  obtain ⟨I1, J1, a1, a2, a3, a4⟩ := mp_laysConditions hD J hm
  have hm1 : mR D I1 := mR_of hm (fun a i q1 q2 => a2 a i (by omega)) (fun i q1 q2 => a2 0 i (by omega))
  have hL : (alL D (D 0 0)).length ≤ 90 := by
    have := alL_len hD (D 0 0) (Nat.le_refl _)
    omega
  have hjs : cjs D ≤ 90 := by unfold cjs; split <;> omega
  have hks : cks D ≤ 90 := by unfold cks; split <;> omega
  obtain ⟨b, J', b1, b2, b3⟩ := li_L hD hm1 hL (alL_rB hD _ (Nat.le_refl _)) hjs hks (fun c => by unfold cjs; rw [if_neg c]; exact Nat.le_refl _) (fun c => by unfold cks; rw [if_neg c]; exact Nat.le_refl _) hs (alL D (D 0 0)).length 0 hF false J1 (by omega) (by unfold hF; omega) a4 (Or.inl ⟨rfl, fun P _ ⟨i', _, _, q, _⟩ => by omega⟩)
  refine ⟨b, I1, J', ?_, a2, fun a x q1 q2 => by rw [b2 a x q2, a3 a x q1], b3⟩
  have z1 : (1 : Int32) = nI 1 := rfl
  have p1 := nI_leI (a := D 0 1) (b := 1) (by omega) (by omega)
  have p2 := nI_leI (a := D 0 2) (b := 1) (by omega) (by omega)
  have e88 := a4.1
  have fin : ∀ v : Int32, mM_laysBest_22 (nI s) (0 : Int32) v I1 J1 = mM_laysBest_L44 hF (nI s) (bI false) v (nI (cks D)) (nI 0) I1 J1 := fun v => by
    have y0 : bI false = (0 : Int32) := rfl
    have y1 : nI 0 = (0 : Int32) := rfl
    unfold mM_laysBest_22 cks
    rw [hm1.2.2.1, z1, y0, y1]
    by_cases c : D 0 2 = 1
    · rw [if_pos (p2.mpr (by omega)), if_pos c]
    · rw [if_neg (fun h => by have := p2.mp h; omega), if_neg c, hl_eq, e88]
  unfold mM_laysBest
  rw [a1, Option.bind_some]
  show (if I1 0 39 ≤ (1 : Int32) then mM_laysBest_22 (nI s) (0 : Int32) (1 : Int32) I1 J1 else mM_laysBest_22 (nI s) (0 : Int32) (I1 0 88) I1 J1) = _
  rw [hm1.2.1, z1, fin, fin, e88, ← b1]
  by_cases c : D 0 1 = 1
  · have ej : cjs D = 1 := by unfold cjs; rw [if_pos c]
    rw [if_pos (p1.mpr (by omega)), ej]
  · have ej : cjs D = (alL D (D 0 0)).length := by unfold cjs; rw [if_neg c]
    rw [if_neg (fun h => by have := p1.mp h; omega), ej]
end Pb
/-- the class's corners: not ready, or kept -/
def coK (D : rD) (I : hI) (J : hJ) : Prop := I 38 1 = nI 0 ∨ (I 38 1 = nI 1 ∧ kpQ D (crS D) I J)
/-- what best may change -/
def onlyB (Ic Ic' : hI) (Jc Jc' : hJ) (Im Im' : hI) (Jm Jm' : hJ) : Prop := (∀ c i, c ≠ 60 → c ≠ 38 → Ic' c i = Ic c i) ∧ (∀ c i, (c < 38 ∨ 60 ≤ c) → Jc' c i = Jc c i) ∧ (∀ c i, c ≠ 42 → (c ≠ 0 ∨ (i ≠ 0 ∧ i ≠ 88)) → Im' c i = Im c i) ∧ (∀ c i, (c < 45 ∨ 48 < c) → (c ≠ 0 ∨ i < 89 ∨ 96 < i) → Jm' c i = Jm c i) ∧ refu Ic' Im'
section Pc
variable {D : rD} {hl : Bool} {Ic Im : hI} {Jc Jm : hJ}
theorem onlyB_R {Ic' Im' : hI} (ho : onlyR Ic Ic' Im Im') : onlyB Ic Ic' Jc Jc Im Im' Jm Jm := ⟨fun c i q1 _ => ho.1 c i q1, fun _ _ _ => rfl, fun c i q1 q2 => ho.2.1 c i q1 (by omega), fun _ _ _ _ => rfl, ho.2.2⟩
theorem coK_R (hk : coK D Ic Jc) {Ic' Im' : hI} (ho : onlyR Ic Ic' Im Im') (hD : rOk D) : coK D Ic' Jc := by
  have e1 := ho.1 38 1 (by decide)
  have e2 := ho.1 38 2 (by decide)
  rcases hk with h | ⟨h1, h2⟩
  · exact Or.inl (by rw [e1]; exact h)
  · exact Or.inr ⟨by rw [e1]; exact h1, kpQ_of hD h2 e2 (fun _ _ _ _ => rfl)⟩
theorem pr_best (hf : flagL hl D Ic Im) (h41 : hl = false → Im 0 41 = nI 0) (hr : refu Ic Im) (hk : hl = true → coK D Ic Jc) (v1 v2 : Int32) : ∃ (v : Int64) (Ic' : hI) (Jc' : hJ) (Im' : hI) (Jm' : hJ), mC_best v1 v2 Ic Jc = some (v, Ic', Jc') ∧ mM_best v1 v2 Im Jm = some (v, Im', Jm') ∧ onlyB Ic Ic' Jc Jc' Im Im' Jm Jm' ∧ (hl = true → coK D Ic' Jc') := by
  obtain ⟨f1, f2, f3⟩ := hf
  have g2 : h_u Im 0 0 (nI 0) 0 37 = bI hl := by rw [h_u_pl _ _ _ (by decide)]; exact f2
  cases hl
  · have f1 : Ic 0 11 = nI 0 := f1
    have r0 : ∀ v1 v2, mM_isRefused v1 v2 (h_u Im 0 0 (nI 0)) = _ := fun v1 v2 => m_ref0 g2
    have hz : mM_isState v1 (h_u Im 0 0 (nI 0)) = some (nI 0) := m_noState v1 (by rw [h_u_pl _ _ _ (by decide)]; exact h41 rfl)
    have ho := onlyR_bump hr (nI 0) (k := 0) (by decide)
    refine ⟨(-1000001 : Int64), _, Jc, _, Jm, ?_, ?_, onlyB_R ho, fun h => absurd h (by decide)⟩
    · unfold mC_best mC_best_13
      simp (disch := omega) only [↓reduceIte, h_let, hg_in, hg_zb, hg_z0, hg_z1, hg_nz, Option.bind_some, if_pos, if_neg, bI_0, bI_n0, nI_add, nI_mul, nI_ltI, nI_leI, nI_eq, nI_clamp, nI_subN, nI_divN, nI_mod2, nI_m1e, nI_em1, nI_m2e, nI_lt0, m1_lt0, m1_lt, m1_le, h_u_at, h_u_off2, h_u_pl, li_0, li_1, li_2, li_3, li_4, li_5, li_6, li_7, li_8, li_9, li_10, li_11, li_12, li_13, li_14, li_15, li_16, li_17, li_18, li_19, li_20, li_21, li_22, li_23, li_24, li_25, li_26, li_27, li_28, li_29, li_30, li_31, li_32, li_40, li_43, li_45, li_47, li_48, li_57, li_59, li_60, li_61, li_62, li_63, li_64, li_80, li_92, li_97, li_99, li_100, li_122, li_123, li_125, li_166, li_201, li_210, li_250, li_255, li_256, li_257, li_258, li_259, li_260, li_261, li_262, li_263, li_264, li_265, li_266, li_267, li_268, li_300, li_500, li_1000, li_12345, li_27720, li_1000000, li_1103515245, ne_m1, ne_m2, f1, c_refuse1]
    · unfold mM_best mM_best_38 mM_best_39
      simp (disch := omega) only [↓reduceIte, h_let, hg_in, hg_zb, hg_z0, hg_z1, hg_nz, Option.bind_some, if_pos, if_neg, bI_0, bI_n0, nI_add, nI_mul, nI_ltI, nI_leI, nI_eq, nI_clamp, nI_subN, nI_divN, nI_mod2, nI_m1e, nI_em1, nI_m2e, nI_lt0, m1_lt0, m1_lt, m1_le, h_u_at, h_u_off2, h_u_pl, li_0, li_1, li_2, li_3, li_4, li_5, li_6, li_7, li_8, li_9, li_10, li_11, li_12, li_13, li_14, li_15, li_16, li_17, li_18, li_19, li_20, li_21, li_22, li_23, li_24, li_25, li_26, li_27, li_28, li_29, li_30, li_31, li_32, li_40, li_43, li_45, li_47, li_48, li_57, li_59, li_60, li_61, li_62, li_63, li_64, li_80, li_92, li_97, li_99, li_100, li_122, li_123, li_125, li_166, li_201, li_210, li_250, li_255, li_256, li_257, li_258, li_259, li_260, li_261, li_262, li_263, li_264, li_265, li_266, li_267, li_268, li_300, li_500, li_1000, li_12345, li_27720, li_1000000, li_1103515245, ne_m1, ne_m2, hz, r0]
  · obtain ⟨hD, hc, hm⟩ := f3 rfl
    have hn := hD.2.1
    have hm' := mR_mark hm (nI 0)
    have f1 : Ic 0 11 = nI 1 := f1
    have r1 : ∀ v2, mM_isRefused (nI 0) v2 (h_u Im 0 0 (nI 0)) = _ := fun v2 => m_ref1 g2
    have r2 : mM_isRefused (nI 1) (nI 0) (h_u Im 0 0 (nI 0)) = _ := m_ref2 g2
    have ho := onlyR_bump hr (nI 0) (k := 1) (by decide)
    rcases m_isState hD hm'.1 v1 with ⟨s, hs, rfl, e2, e3⟩ | ⟨_, e2, e3⟩
    · have ei := ro_isIn hD hc (s := s) (by omega)
      have ei2 := m_isInside hD hm' hs
      have e1 : decide (s < D 0 0 ∧ 0 < D 1 s) = pIn D s := by unfold pIn; simp [hs]
      have e1' : decide (0 < D 1 s) = pIn D s := rfl
      rw [e1] at ei
      rw [e1'] at ei2
      cases hi : pIn D s
      · rw [hi, bI_f] at ei ei2
        refine ⟨(-1000001 : Int64), _, Jc, _, Jm, ?_, ?_, onlyB_R ho, fun h => coK_R (hk rfl) ho hD⟩
        · unfold mC_best mC_best_13 mC_best_60
          simp (disch := omega) only [↓reduceIte, h_let, hg_in, hg_zb, hg_z0, hg_z1, hg_nz, Option.bind_some, if_pos, if_neg, bI_0, bI_n0, nI_add, nI_mul, nI_ltI, nI_leI, nI_eq, nI_clamp, nI_subN, nI_divN, nI_mod2, nI_m1e, nI_em1, nI_m2e, nI_lt0, m1_lt0, m1_lt, m1_le, h_u_at, h_u_off2, h_u_pl, li_0, li_1, li_2, li_3, li_4, li_5, li_6, li_7, li_8, li_9, li_10, li_11, li_12, li_13, li_14, li_15, li_16, li_17, li_18, li_19, li_20, li_21, li_22, li_23, li_24, li_25, li_26, li_27, li_28, li_29, li_30, li_31, li_32, li_40, li_43, li_45, li_47, li_48, li_57, li_59, li_60, li_61, li_62, li_63, li_64, li_80, li_92, li_97, li_99, li_100, li_122, li_123, li_125, li_166, li_201, li_210, li_250, li_255, li_256, li_257, li_258, li_259, li_260, li_261, li_262, li_263, li_264, li_265, li_266, li_267, li_268, li_300, li_500, li_1000, li_12345, li_27720, li_1000000, li_1103515245, ne_m1, ne_m2, f1, c_refuse0, c_refuse1, hc.1, e2, ei]
        · unfold mM_best mM_best_38 mM_best_39
          simp (disch := omega) only [↓reduceIte, h_let, hg_in, hg_zb, hg_z0, hg_z1, hg_nz, Option.bind_some, if_pos, if_neg, bI_0, bI_n0, nI_add, nI_mul, nI_ltI, nI_leI, nI_eq, nI_clamp, nI_subN, nI_divN, nI_mod2, nI_m1e, nI_em1, nI_m2e, nI_lt0, m1_lt0, m1_lt, m1_le, h_u_at, h_u_off2, h_u_pl, li_0, li_1, li_2, li_3, li_4, li_5, li_6, li_7, li_8, li_9, li_10, li_11, li_12, li_13, li_14, li_15, li_16, li_17, li_18, li_19, li_20, li_21, li_22, li_23, li_24, li_25, li_26, li_27, li_28, li_29, li_30, li_31, li_32, li_40, li_43, li_45, li_47, li_48, li_57, li_59, li_60, li_61, li_62, li_63, li_64, li_80, li_92, li_97, li_99, li_100, li_122, li_123, li_125, li_166, li_201, li_210, li_250, li_255, li_256, li_257, li_258, li_259, li_260, li_261, li_262, li_263, li_264, li_265, li_266, li_267, li_268, li_300, li_500, li_1000, li_12345, li_27720, li_1000000, li_1103515245, ne_m1, ne_m2, e3, ei2, r1]
      · rw [hi, bI_t] at ei ei2
        rcases range_splitL v2 (n := 8) (by omega) (k := 7) (by decide) with ⟨j, hj, rfl, o2, o3⟩ | ⟨_, o2, o3⟩
        · -- the call is good
          have hx : s % D 0 1 ≤ 9 := by have : s % D 0 1 ≤ s := Nat.mod_le _ _; omega
          have hy : s / D 0 1 ≤ 9 := by have : s / D 0 1 ≤ s := Nat.div_le_self _ _; omega
          have hprep : ∃ (Ic' : hI) (Jc' : hJ), mCo_prepare Ic Jc = some (Ic', Jc') ∧ (∀ a x, a ≠ 38 → Ic' a x = Ic a x) ∧ (∀ a x, (a < 38 ∨ 60 ≤ a) → Jc' a x = Jc a x) ∧ Ic' 38 1 = nI 1 ∧ kpQ D (crS D) Ic' Jc' := by
            rcases hk rfl with h | ⟨h, h'⟩
            · exact co_prepare hD Jc hc h
            · refine ⟨Ic, Jc, ?_, fun _ _ _ => rfl, fun _ _ _ => rfl, h, h'⟩
              unfold mCo_prepare
              rw [h, if_neg (by decide)]
          obtain ⟨Ic', Jc', p1, p2, p3, p4, p5⟩ := hprep
          obtain ⟨b, Im', Jm', q1, q2, q3, q4⟩ := mp_laysBest hD Jm hm' hs
          have hc' : cR D Ic' := cR_of hc (fun a x h1 h2 => p2 a x (by omega))
          have hw := wd_pos hD
          have e39 : Im' 0 39 = nI (D 0 1) := by rw [q2 0 39 (by decide)]; exact hm'.2.1
          have oB : onlyB Ic Ic' Jc Jc' Im Im' Jm Jm' := ⟨fun c i _ h => p2 c i h, p3, fun c i h1 h2 => by
            rw [q2 c i (by omega)]
            by_cases e : c = 0
            · subst e; exact h_u_pl _ _ _ (by omega)
            · exact h_u_off2 _ _ _ _ e, q3, fun i hi => by rw [p2 60 i (by decide), q2 42 i (Or.inl (by decide)), h_u_off2 _ _ _ _ (by decide)]; exact hr i hi⟩
          have n1 : ¬ nI 1 = (0 : Int32) := by decide
          have n0 : nI 0 = (0 : Int32) := rfl
          -- what both sides come to
          have topC : mC_best (nI s) (nI j) Ic Jc = (if Ic' 38 2 = (0 : Int32) then some ((-1000001 : Int64), Ic', Jc') else ((mCo_told (nI s) (nI j) Ic' Jc').bind fun q3 => some (q3, Ic', Jc'))) := by
            unfold mC_best mC_best_13 mC_best_60
            simp (disch := omega) only [↓reduceIte, h_let, hg_in, hg_zb, hg_z0, hg_z1, hg_nz, Option.bind_some, if_pos, if_neg, bI_0, bI_n0, nI_add, nI_mul, nI_ltI, nI_leI, nI_eq, nI_clamp, nI_subN, nI_divN, nI_mod2, nI_m1e, nI_em1, nI_m2e, nI_lt0, m1_lt0, m1_lt, m1_le, h_u_at, h_u_off2, h_u_pl, li_0, li_1, li_2, li_3, li_4, li_5, li_6, li_7, li_8, li_9, li_10, li_11, li_12, li_13, li_14, li_15, li_16, li_17, li_18, li_19, li_20, li_21, li_22, li_23, li_24, li_25, li_26, li_27, li_28, li_29, li_30, li_31, li_32, li_40, li_43, li_45, li_47, li_48, li_57, li_59, li_60, li_61, li_62, li_63, li_64, li_80, li_92, li_97, li_99, li_100, li_122, li_123, li_125, li_166, li_201, li_210, li_250, li_255, li_256, li_257, li_258, li_259, li_260, li_261, li_262, li_263, li_264, li_265, li_266, li_267, li_268, li_300, li_500, li_1000, li_12345, li_27720, li_1000000, li_1103515245, ne_m1, ne_m2, f1, c_refuse0, hc.1, e2, ei, o2, p1]
          have topM : mM_best (nI s) (nI j) Im Jm = (if bI b = (0 : Int32) then some ((-1000001 : Int64), Im', Jm') else mM_best (nI s) (nI j) Im Jm) := by
            cases b
            · rw [if_pos (show bI false = (0 : Int32) from rfl)]
              unfold mM_best mM_best_39
              simp (disch := omega) only [↓reduceIte, h_let, hg_in, hg_zb, hg_z0, hg_z1, hg_nz, Option.bind_some, if_pos, if_neg, bI_0, bI_n0, nI_add, nI_mul, nI_ltI, nI_leI, nI_eq, nI_clamp, nI_subN, nI_divN, nI_mod2, nI_m1e, nI_em1, nI_m2e, nI_lt0, m1_lt0, m1_lt, m1_le, h_u_at, h_u_off2, h_u_pl, li_0, li_1, li_2, li_3, li_4, li_5, li_6, li_7, li_8, li_9, li_10, li_11, li_12, li_13, li_14, li_15, li_16, li_17, li_18, li_19, li_20, li_21, li_22, li_23, li_24, li_25, li_26, li_27, li_28, li_29, li_30, li_31, li_32, li_40, li_43, li_45, li_47, li_48, li_57, li_59, li_60, li_61, li_62, li_63, li_64, li_80, li_92, li_97, li_99, li_100, li_122, li_123, li_125, li_166, li_201, li_210, li_250, li_255, li_256, li_257, li_258, li_259, li_260, li_261, li_262, li_263, li_264, li_265, li_266, li_267, li_268, li_300, li_500, li_1000, li_12345, li_27720, li_1000000, li_1103515245, ne_m1, ne_m2, e3, ei2, o3, r2, q1, bI_f]
            · rw [if_neg (by decide)]
          rcases p5 with ⟨c1, c2⟩ | ⟨c1, ⟨P, c2, c3⟩, c4⟩
          · have hb : b = false := by
              rcases q4 with ⟨h, _⟩ | ⟨_, K, _, k2, k3, _⟩
              · exact h
              · exact absurd (cr_same.mpr k3) (c2 K k2.2.2.2.1)
            refine ⟨(-1000001 : Int64), Ic', Jc', Im', Jm', ?_, ?_, oB, fun _ => Or.inr ⟨p4, Or.inl ⟨c1, c2⟩⟩⟩
            · rw [topC, li_0, if_pos c1]
            · rw [topM, hb, if_pos (show bI false = (0 : Int32) from rfl)]
          · obtain ⟨K, k1, k2, k3, k4⟩ := c4 s hs hi
            rcases q4 with ⟨_, h⟩ | ⟨hb, L, l1, l2, l3, l4⟩
            · exact absurd (cr_same.mp c3) (h P c2)
            · have he : eqP K L := least_one (x := (s % D 0 1 : Nat)) (y := (s / D 0 1 : Nat)) (A := fun P => 0 < P 3 ∧ crS D P) (B := fun P => 0 < P 3 ∧ crS D P) (fun P h => h.1) (fun P h => h.1) (fun P h => ⟨P, h, eqP_refl P⟩) (fun P h => ⟨P, h, eqP_refl P⟩) ⟨k2.2.2.2.1, k3⟩ (fun P h => k4 P h.1 h.2) ⟨l2.2.2.2.1, cr_same.mpr l3⟩ (fun P h => l4 P h.1 (cr_same.mp h.2))
              have uK := upV_bd k2 hx hy j
              have uL := upV_bd l2 hx hy j
              have bK := k2.2.2.2
              have bL := l2.2.2.2
              obtain ⟨lc, -⟩ := low_rd (a := upV (s % D 0 1 : Nat) (s / D 0 1 : Nat) j K) (b := K 3) (by omega) (by omega) bK.1 (by omega) (k := j % 2) (by omega)
              obtain ⟨-, lm⟩ := low_rd (a := upV (s % D 0 1 : Nat) (s / D 0 1 : Nat) j L) (b := L 3) (by omega) (by omega) bL.1 (by omega) (k := j % 2) (by omega)
              obtain ⟨w1, w2⟩ := rd_unique bK.1 bL.1 (upV_eq (x := (s % D 0 1 : Nat)) (y := (s / D 0 1 : Nat)) j he)
              rw [← w1, ← w2] at lm
              generalize lI (if j % 2 = 0 then rdU (upV (s % D 0 1 : Nat) (s / D 0 1 : Nat) j K) (K 3) else rdL (upV (s % D 0 1 : Nat) (s / D 0 1 : Nat) j K) (K 3)) = ans at lc lm
              refine ⟨ans, Ic', Jc', Im', Jm', ?_, ?_, oB, fun _ => Or.inr ⟨p4, Or.inr ⟨c1, ⟨P, c2, c3⟩, c4⟩⟩⟩
              · rw [topC, c1, if_neg n1, co_told hD hc' hs hj k1, lc, Option.bind_some]
              · obtain ⟨m0, m1', m2', m3'⟩ := l1
                have x1 := nI_lI (n := s % D 0 1) (by omega)
                have x2 := nI_lI (n := s / D 0 1) (by omega)
                rw [hb, bI_t] at q1
                have em : j - j / 2 * 2 = j % 2 := by omega
                unfold mM_best mM_best_39 mM_best_129
                unfold upV pV at lm
                rcases (show j < 2 ∨ (2 ≤ j ∧ j < 4) ∨ (4 ≤ j ∧ j < 6) ∨ 6 ≤ j by omega) with h | h | h | h
                · rw [if_pos h] at lm
                  simp (disch := omega) only [↓reduceIte, h_let, hg_in, hg_zb, hg_z0, hg_z1, hg_nz, Option.bind_some, if_pos, if_neg, bI_0, bI_n0, nI_add, nI_mul, nI_ltI, nI_leI, nI_eq, nI_clamp, nI_subN, nI_divN, nI_mod2, nI_m1e, nI_em1, nI_m2e, nI_lt0, m1_lt0, m1_lt, m1_le, h_u_at, h_u_off2, h_u_pl, li_0, li_1, li_2, li_3, li_4, li_5, li_6, li_7, li_8, li_9, li_10, li_11, li_12, li_13, li_14, li_15, li_16, li_17, li_18, li_19, li_20, li_21, li_22, li_23, li_24, li_25, li_26, li_27, li_28, li_29, li_30, li_31, li_32, li_40, li_43, li_45, li_47, li_48, li_57, li_59, li_60, li_61, li_62, li_63, li_64, li_80, li_92, li_97, li_99, li_100, li_122, li_123, li_125, li_166, li_201, li_210, li_250, li_255, li_256, li_257, li_258, li_259, li_260, li_261, li_262, li_263, li_264, li_265, li_266, li_267, li_268, li_300, li_500, li_1000, li_12345, li_27720, li_1000000, li_1103515245, ne_m1, ne_m2, e3, ei2, o3, r2, q1, e39, m0, m1', m2', m3', x1, x2, lI_mul, lI_add, em, lm]
                · rw [if_neg (by omega), if_pos h.2] at lm
                  simp (disch := omega) only [↓reduceIte, h_let, hg_in, hg_zb, hg_z0, hg_z1, hg_nz, Option.bind_some, if_pos, if_neg, bI_0, bI_n0, nI_add, nI_mul, nI_ltI, nI_leI, nI_eq, nI_clamp, nI_subN, nI_divN, nI_mod2, nI_m1e, nI_em1, nI_m2e, nI_lt0, m1_lt0, m1_lt, m1_le, h_u_at, h_u_off2, h_u_pl, li_0, li_1, li_2, li_3, li_4, li_5, li_6, li_7, li_8, li_9, li_10, li_11, li_12, li_13, li_14, li_15, li_16, li_17, li_18, li_19, li_20, li_21, li_22, li_23, li_24, li_25, li_26, li_27, li_28, li_29, li_30, li_31, li_32, li_40, li_43, li_45, li_47, li_48, li_57, li_59, li_60, li_61, li_62, li_63, li_64, li_80, li_92, li_97, li_99, li_100, li_122, li_123, li_125, li_166, li_201, li_210, li_250, li_255, li_256, li_257, li_258, li_259, li_260, li_261, li_262, li_263, li_264, li_265, li_266, li_267, li_268, li_300, li_500, li_1000, li_12345, li_27720, li_1000000, li_1103515245, ne_m1, ne_m2, e3, ei2, o3, r2, q1, m0, m3', em, lm]
                · rw [if_neg (by omega), if_neg (by omega), if_pos h.2] at lm
                  simp (disch := omega) only [↓reduceIte, h_let, hg_in, hg_zb, hg_z0, hg_z1, hg_nz, Option.bind_some, if_pos, if_neg, bI_0, bI_n0, nI_add, nI_mul, nI_ltI, nI_leI, nI_eq, nI_clamp, nI_subN, nI_divN, nI_mod2, nI_m1e, nI_em1, nI_m2e, nI_lt0, m1_lt0, m1_lt, m1_le, h_u_at, h_u_off2, h_u_pl, li_0, li_1, li_2, li_3, li_4, li_5, li_6, li_7, li_8, li_9, li_10, li_11, li_12, li_13, li_14, li_15, li_16, li_17, li_18, li_19, li_20, li_21, li_22, li_23, li_24, li_25, li_26, li_27, li_28, li_29, li_30, li_31, li_32, li_40, li_43, li_45, li_47, li_48, li_57, li_59, li_60, li_61, li_62, li_63, li_64, li_80, li_92, li_97, li_99, li_100, li_122, li_123, li_125, li_166, li_201, li_210, li_250, li_255, li_256, li_257, li_258, li_259, li_260, li_261, li_262, li_263, li_264, li_265, li_266, li_267, li_268, li_300, li_500, li_1000, li_12345, li_27720, li_1000000, li_1103515245, ne_m1, ne_m2, e3, ei2, o3, r2, q1, m1', m3', em, lm]
                · rw [if_neg (by omega), if_neg (by omega), if_neg (by omega)] at lm
                  simp (disch := omega) only [↓reduceIte, h_let, hg_in, hg_zb, hg_z0, hg_z1, hg_nz, Option.bind_some, if_pos, if_neg, bI_0, bI_n0, nI_add, nI_mul, nI_ltI, nI_leI, nI_eq, nI_clamp, nI_subN, nI_divN, nI_mod2, nI_m1e, nI_em1, nI_m2e, nI_lt0, m1_lt0, m1_lt, m1_le, h_u_at, h_u_off2, h_u_pl, li_0, li_1, li_2, li_3, li_4, li_5, li_6, li_7, li_8, li_9, li_10, li_11, li_12, li_13, li_14, li_15, li_16, li_17, li_18, li_19, li_20, li_21, li_22, li_23, li_24, li_25, li_26, li_27, li_28, li_29, li_30, li_31, li_32, li_40, li_43, li_45, li_47, li_48, li_57, li_59, li_60, li_61, li_62, li_63, li_64, li_80, li_92, li_97, li_99, li_100, li_122, li_123, li_125, li_166, li_201, li_210, li_250, li_255, li_256, li_257, li_258, li_259, li_260, li_261, li_262, li_263, li_264, li_265, li_266, li_267, li_268, li_300, li_500, li_1000, li_12345, li_27720, li_1000000, li_1103515245, ne_m1, ne_m2, e3, ei2, o3, r2, q1, m2', m3', em, lm]
        · refine ⟨(-1000001 : Int64), _, Jc, _, Jm, ?_, ?_, onlyB_R ho, fun h => coK_R (hk rfl) ho hD⟩
          · unfold mC_best mC_best_13 mC_best_60
            simp (disch := omega) only [↓reduceIte, h_let, hg_in, hg_zb, hg_z0, hg_z1, hg_nz, Option.bind_some, if_pos, if_neg, bI_0, bI_n0, nI_add, nI_mul, nI_ltI, nI_leI, nI_eq, nI_clamp, nI_subN, nI_divN, nI_mod2, nI_m1e, nI_em1, nI_m2e, nI_lt0, m1_lt0, m1_lt, m1_le, h_u_at, h_u_off2, h_u_pl, li_0, li_1, li_2, li_3, li_4, li_5, li_6, li_7, li_8, li_9, li_10, li_11, li_12, li_13, li_14, li_15, li_16, li_17, li_18, li_19, li_20, li_21, li_22, li_23, li_24, li_25, li_26, li_27, li_28, li_29, li_30, li_31, li_32, li_40, li_43, li_45, li_47, li_48, li_57, li_59, li_60, li_61, li_62, li_63, li_64, li_80, li_92, li_97, li_99, li_100, li_122, li_123, li_125, li_166, li_201, li_210, li_250, li_255, li_256, li_257, li_258, li_259, li_260, li_261, li_262, li_263, li_264, li_265, li_266, li_267, li_268, li_300, li_500, li_1000, li_12345, li_27720, li_1000000, li_1103515245, ne_m1, ne_m2, f1, c_refuse0, c_refuse1, hc.1, e2, ei, o2]
          · unfold mM_best mM_best_38 mM_best_39
            simp (disch := omega) only [↓reduceIte, h_let, hg_in, hg_zb, hg_z0, hg_z1, hg_nz, Option.bind_some, if_pos, if_neg, bI_0, bI_n0, nI_add, nI_mul, nI_ltI, nI_leI, nI_eq, nI_clamp, nI_subN, nI_divN, nI_mod2, nI_m1e, nI_em1, nI_m2e, nI_lt0, m1_lt0, m1_lt, m1_le, h_u_at, h_u_off2, h_u_pl, li_0, li_1, li_2, li_3, li_4, li_5, li_6, li_7, li_8, li_9, li_10, li_11, li_12, li_13, li_14, li_15, li_16, li_17, li_18, li_19, li_20, li_21, li_22, li_23, li_24, li_25, li_26, li_27, li_28, li_29, li_30, li_31, li_32, li_40, li_43, li_45, li_47, li_48, li_57, li_59, li_60, li_61, li_62, li_63, li_64, li_80, li_92, li_97, li_99, li_100, li_122, li_123, li_125, li_166, li_201, li_210, li_250, li_255, li_256, li_257, li_258, li_259, li_260, li_261, li_262, li_263, li_264, li_265, li_266, li_267, li_268, li_300, li_500, li_1000, li_12345, li_27720, li_1000000, li_1103515245, ne_m1, ne_m2, e3, ei2, o3, r1]
    · refine ⟨(-1000001 : Int64), _, Jc, _, Jm, ?_, ?_, onlyB_R ho, fun h => coK_R (hk rfl) ho hD⟩
      · unfold mC_best mC_best_13 mC_best_60
        simp (disch := omega) only [↓reduceIte, h_let, hg_in, hg_zb, hg_z0, hg_z1, hg_nz, Option.bind_some, if_pos, if_neg, bI_0, bI_n0, nI_add, nI_mul, nI_ltI, nI_leI, nI_eq, nI_clamp, nI_subN, nI_divN, nI_mod2, nI_m1e, nI_em1, nI_m2e, nI_lt0, m1_lt0, m1_lt, m1_le, h_u_at, h_u_off2, h_u_pl, li_0, li_1, li_2, li_3, li_4, li_5, li_6, li_7, li_8, li_9, li_10, li_11, li_12, li_13, li_14, li_15, li_16, li_17, li_18, li_19, li_20, li_21, li_22, li_23, li_24, li_25, li_26, li_27, li_28, li_29, li_30, li_31, li_32, li_40, li_43, li_45, li_47, li_48, li_57, li_59, li_60, li_61, li_62, li_63, li_64, li_80, li_92, li_97, li_99, li_100, li_122, li_123, li_125, li_166, li_201, li_210, li_250, li_255, li_256, li_257, li_258, li_259, li_260, li_261, li_262, li_263, li_264, li_265, li_266, li_267, li_268, li_300, li_500, li_1000, li_12345, li_27720, li_1000000, li_1103515245, ne_m1, ne_m2, f1, c_refuse0, c_refuse1, hc.1, e2]
      · unfold mM_best mM_best_38 mM_best_39
        simp (disch := omega) only [↓reduceIte, h_let, hg_in, hg_zb, hg_z0, hg_z1, hg_nz, Option.bind_some, if_pos, if_neg, bI_0, bI_n0, nI_add, nI_mul, nI_ltI, nI_leI, nI_eq, nI_clamp, nI_subN, nI_divN, nI_mod2, nI_m1e, nI_em1, nI_m2e, nI_lt0, m1_lt0, m1_lt, m1_le, h_u_at, h_u_off2, h_u_pl, li_0, li_1, li_2, li_3, li_4, li_5, li_6, li_7, li_8, li_9, li_10, li_11, li_12, li_13, li_14, li_15, li_16, li_17, li_18, li_19, li_20, li_21, li_22, li_23, li_24, li_25, li_26, li_27, li_28, li_29, li_30, li_31, li_32, li_40, li_43, li_45, li_47, li_48, li_57, li_59, li_60, li_61, li_62, li_63, li_64, li_80, li_92, li_97, li_99, li_100, li_122, li_123, li_125, li_166, li_201, li_210, li_250, li_255, li_256, li_257, li_258, li_259, li_260, li_261, li_262, li_263, li_264, li_265, li_266, li_267, li_268, li_300, li_500, li_1000, li_12345, li_27720, li_1000000, li_1103515245, ne_m1, ne_m2, e3, r1]
end Pc
