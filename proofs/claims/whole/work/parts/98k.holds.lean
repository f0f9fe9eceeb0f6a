/-! best: does a corner meet all conditions, the reference's side. -/
def okR (r P : Nat → Int) : Bool := decide (r 3 * P 3 ≤ r 0 * P 0 + r 1 * P 1 + r 2 * P 2)
def rB (r : Nat → Int) : Prop := (- 36 ≤ r 0 ∧ r 0 ≤ 36) ∧ (- 36 ≤ r 1 ∧ r 1 ≤ 36) ∧ (- 36 ≤ r 2 ∧ r 2 ≤ 36) ∧ (0 ≤ r 3 ∧ r 3 ≤ 1920)
theorem mp_holds_L {L : List (Nat → Int)} {P : Nat → Int} {I : hI} {J : hJ} (hL : L.length ≤ 90) (h : mlQ L I J) (hP : pmQ 89 P J) (bP : ptB P) (hb : ∀ i, i < L.length → rB (L.getD i rZ)) : ∀ (r p fuel : Nat), p + r = L.length → r < fuel → mM_holdsAll_L2 fuel (nI p) I J = some (bI (allF (fun i => okR (L.getD i rZ) P) p r)) := by
  obtain ⟨p0, p1, p2, p3⟩ := hP
  obtain ⟨x0, x1, x2, x3⟩ := bP
  intro r
  induction r with
  | zero =>
    intro p fuel hp hf
    obtain ⟨fuel, rfl⟩ : ∃ m, fuel = m + 1 := ⟨fuel - 1, by omega⟩
    unfold mM_holdsAll_L2 mM_holdsAll_B2
    rw [h.1, allF, bI_t]
    simp (disch := omega) only [↓reduceIte, h_let, hg_in, hg_zb, hg_z0, hg_z1, hg_nz, Option.bind_some, if_pos, if_neg, bI_0, bI_n0, nI_add, nI_mul, nI_ltI, nI_leI, nI_eq, nI_clamp, nI_subN, nI_divN, nI_mod2, nI_m1e, nI_em1, nI_m2e, nI_lt0, m1_lt0, m1_lt, m1_le, h_u_at, h_u_off2, h_u_pl, li_0, li_1, li_2, li_3, li_4, li_5, li_6, li_7, li_8, li_9, li_10, li_11, li_12, li_13, li_14, li_15, li_16, li_17, li_18, li_19, li_20, li_21, li_22, li_23, li_24, li_25, li_26, li_27, li_28, li_29, li_30, li_31, li_32, li_40, li_43, li_45, li_47, li_48, li_57, li_59, li_60, li_61, li_62, li_63, li_64, li_80, li_92, li_97, li_99, li_100, li_122, li_123, li_125, li_166, li_201, li_210, li_250, li_255, li_256, li_257, li_258, li_259, li_260, li_261, li_262, li_263, li_264, li_265, li_266, li_267, li_268, li_300, li_500, li_1000, li_12345, li_27720, li_1000000, li_1103515245, ne_m1, ne_m2]
  | succ r ih =>
    intro p fuel hp hf
    obtain ⟨fuel, rfl⟩ : ∃ m, fuel = m + 1 := ⟨fuel - 1, by omega⟩
    have go := ih (p + 1) fuel (by omega) (by omega)
    have e0 : J 45 p = lI (L.getD p rZ 0) := h.2 p (by omega) 0 (by decide)
    have e1 : J 46 p = lI (L.getD p rZ 1) := h.2 p (by omega) 1 (by decide)
    have e2 : J 47 p = lI (L.getD p rZ 2) := h.2 p (by omega) 2 (by decide)
    have e3 : J 48 p = lI (L.getD p rZ 3) := h.2 p (by omega) 3 (by decide)
    obtain ⟨b0, b1, b2, b3⟩ := hb p (by omega)
    have m0 := mb b0 x0
    have m1 := mb b1 x1
    have m2 := mb b2 x2
    have m3 := mb (show - 1920 ≤ L.getD p rZ 3 ∧ L.getD p rZ 3 ≤ 1920 by omega) (show - 279936 ≤ P 3 ∧ P 3 ≤ 279936 by omega)
    have e := lI_le (a := L.getD p rZ 3 * P 3) (b := L.getD p rZ 0 * P 0 + L.getD p rZ 1 * P 1 + L.getD p rZ 2 * P 2) (by omega) (by omega) (by omega) (by omega)
    unfold mM_holdsAll_L2 mM_holdsAll_B2
    rw [h.1, allF]
    by_cases c : L.getD p rZ 3 * P 3 ≤ L.getD p rZ 0 * P 0 + L.getD p rZ 1 * P 1 + L.getD p rZ 2 * P 2
    · have : okR (L.getD p rZ) P = true := decide_eq_true c
      rw [this, Bool.true_and, ← go]
      simp (disch := omega) only [↓reduceIte, h_let, hg_in, hg_zb, hg_z0, hg_z1, hg_nz, Option.bind_some, if_pos, if_neg, bI_0, bI_n0, nI_add, nI_mul, nI_ltI, nI_leI, nI_eq, nI_clamp, nI_subN, nI_divN, nI_mod2, nI_m1e, nI_em1, nI_m2e, nI_lt0, m1_lt0, m1_lt, m1_le, h_u_at, h_u_off2, h_u_pl, li_0, li_1, li_2, li_3, li_4, li_5, li_6, li_7, li_8, li_9, li_10, li_11, li_12, li_13, li_14, li_15, li_16, li_17, li_18, li_19, li_20, li_21, li_22, li_23, li_24, li_25, li_26, li_27, li_28, li_29, li_30, li_31, li_32, li_40, li_43, li_45, li_47, li_48, li_57, li_59, li_60, li_61, li_62, li_63, li_64, li_80, li_92, li_97, li_99, li_100, li_122, li_123, li_125, li_166, li_201, li_210, li_250, li_255, li_256, li_257, li_258, li_259, li_260, li_261, li_262, li_263, li_264, li_265, li_266, li_267, li_268, li_300, li_500, li_1000, li_12345, li_27720, li_1000000, li_1103515245, ne_m1, ne_m2, p0, p1, p2, p3, e0, e1, e2, e3, lI_mul, lI_add, e]
    · have : okR (L.getD p rZ) P = false := decide_eq_false c
      rw [this, Bool.false_and, bI_f]
      simp (disch := omega) only [↓reduceIte, h_let, hg_in, hg_zb, hg_z0, hg_z1, hg_nz, Option.bind_some, if_pos, if_neg, bI_0, bI_n0, nI_add, nI_mul, nI_ltI, nI_leI, nI_eq, nI_clamp, nI_subN, nI_divN, nI_mod2, nI_m1e, nI_em1, nI_m2e, nI_lt0, m1_lt0, m1_lt, m1_le, h_u_at, h_u_off2, h_u_pl, li_0, li_1, li_2, li_3, li_4, li_5, li_6, li_7, li_8, li_9, li_10, li_11, li_12, li_13, li_14, li_15, li_16, li_17, li_18, li_19, li_20, li_21, li_22, li_23, li_24, li_25, li_26, li_27, li_28, li_29, li_30, li_31, li_32, li_40, li_43, li_45, li_47, li_48, li_57, li_59, li_60, li_61, li_62, li_63, li_64, li_80, li_92, li_97, li_99, li_100, li_122, li_123, li_125, li_166, li_201, li_210, li_250, li_255, li_256, li_257, li_258, li_259, li_260, li_261, li_262, li_263, li_264, li_265, li_266, li_267, li_268, li_300, li_500, li_1000, li_12345, li_27720, li_1000000, li_1103515245, ne_m1, ne_m2, p0, p1, p2, p3, e0, e1, e2, e3, lI_mul, lI_add, e]
theorem mp_holdsAll {L : List (Nat → Int)} {P : Nat → Int} {I : hI} {J : hJ} (hL : L.length ≤ 90) (h : mlQ L I J) (hP : pmQ 89 P J) (bP : ptB P) (hb : ∀ i, i < L.length → rB (L.getD i rZ)) : mM_holdsAll I J = some (bI (allF (fun i => okR (L.getD i rZ) P) 0 L.length)) := by
  have e := mp_holds_L hL h hP bP hb L.length 0 hF (by omega) (by unfold hF; omega)
  unfold mM_holdsAll
  rw [li_0, e]
