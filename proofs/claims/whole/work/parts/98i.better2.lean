/-! best: the better corner, the class's side. -/
def sg (a b : Int) : Int32 := if a < b then (-1 : Int32) else if a = b then nI 0 else nI 1
theorem cmp_sg {a b : Int} (h1 : - 2 ^ 63 ≤ a) (h2 : a < 2 ^ 63) (h3 : - 2 ^ 63 ≤ b) (h4 : b < 2 ^ 63) : mJ_compare (lI a) (lI b) = sg a b := by
  have e1 := lI_le (a := b) (b := a) h3 h4 h1 h2
  have e2 := lI_eq (a := a) (b := b) h1 h2 h3 h4
  unfold mJ_compare sg
  by_cases c : a < b
  · rw [if_pos c, if_neg (fun q => by have := e1.mp q; omega)]
  · rw [if_neg c, if_pos (e1.mpr (by omega))]
    by_cases d : a = b
    · rw [if_pos d, if_pos (e2.mpr d)]; rfl
    · rw [if_neg d, if_neg (fun q => d (e2.mp q))]; rfl
theorem sg_lt {a b : Int} (h : a < b) : sg a b = (-1 : Int32) := by unfold sg; rw [if_pos h]
theorem sg_eq {a b : Int} (h : a = b) : sg a b = nI 0 := by unfold sg; rw [if_neg (by omega), if_pos h]
theorem sg_gt {a b : Int} (h : b < a) : sg a b = nI 1 := by unfold sg; rw [if_neg (by omega), if_neg (by omega)]
theorem pbd {a b : Int} (ha : - 283668480 ≤ a ∧ a ≤ 283668480) (hb : 0 < b ∧ b ≤ 279936) : - 2 ^ 63 ≤ a * b ∧ a * b < 2 ^ 63 := by
  have := mb ha (show - 279936 ≤ b ∧ b ≤ 279936 by omega)
  omega
section Bu
variable {D : rD}
theorem co_isBetter (hD : rOk D) {I : hI} {J : hJ} (hc : cR D I) {s c : Nat} (hs : s < D 0 0) {C K : Nat → Int} (hC : ptQ 48 C J) (hK : ptQ c K J) (bC : ptB C) (bK : ptB K) : ∃ b : Bool, mCo_isBetter (nI s) c I J = some (bI b) ∧ (b = true ↔ ltP (s % D 0 1 : Nat) (s / D 0 1 : Nat) C K) := by
  have hn := hD.2.1
  have hx : s % D 0 1 ≤ 9 := by have : s % D 0 1 ≤ s := Nat.mod_le _ _; omega
  have hy : s / D 0 1 ≤ 9 := by have : s / D 0 1 ≤ s := Nat.div_le_self _ _; omega
  have t1 := co_tells hD hc hs hC
  have t2 := co_tells hD hc hs hK
  have v1 := pV_bd bC hx hy
  have v2 := pV_bd bK hx hy
  obtain ⟨c0, c1, c2, c3⟩ := hC
  obtain ⟨k0, k1, k2, k3⟩ := hK
  obtain ⟨x0, x1, x2, x3⟩ := bC
  obtain ⟨y0, y1, y2, y3⟩ := bK
  generalize hA : pV (s % D 0 1 : Nat) (s / D 0 1 : Nat) C = A at t1 v1
  generalize hB : pV (s % D 0 1 : Nat) (s / D 0 1 : Nat) K = B at t2 v2
  have p1 := pbd v1 y3
  have p2 := pbd v2 x3
  have g0 := cmp_sg p1.1 p1.2 p2.1 p2.2
  have q1 := pbd (show - 283668480 ≤ C 0 ∧ C 0 ≤ 283668480 by omega) y3
  have q2 := pbd (show - 283668480 ≤ K 0 ∧ K 0 ≤ 283668480 by omega) x3
  have g1 := cmp_sg q1.1 q1.2 q2.1 q2.2
  have r1 := pbd (show - 283668480 ≤ C 1 ∧ C 1 ≤ 283668480 by omega) y3
  have r2 := pbd (show - 283668480 ≤ K 1 ∧ K 1 ≤ 283668480 by omega) x3
  have g2 := cmp_sg r1.1 r1.2 r2.1 r2.2
  obtain ⟨f, hf⟩ := hF4
  have s41 : ∀ n v v', mCo_isBetter_L41 (n + 1) c v v' I J = mCo_isBetter_B41 (mCo_isBetter_L41 n) c v v' I J := fun _ _ _ => rfl
  -- the loop, from each outcome
  have neg : ∀ n v', v' ≤ 2 → mCo_isBetter_L41 (n + 1) c (-1 : Int32) (nI v') I J = some (nI 1) := fun n v' hv => by
    rw [s41]
    unfold mCo_isBetter_B41 mCo_isBetter_83
    by_cases h : v' = 2
    · subst h
      simp (disch := omega) only [↓reduceIte, h_let, hg_in, hg_zb, hg_z0, hg_z1, hg_nz, Option.bind_some, if_pos, if_neg, bI_0, bI_n0, nI_add, nI_mul, nI_ltI, nI_leI, nI_eq, nI_clamp, nI_subN, nI_divN, nI_mod2, nI_m1e, nI_em1, nI_m2e, nI_lt0, m1_lt0, m1_lt, m1_le, h_u_at, h_u_off2, h_u_pl, li_0, li_1, li_2, li_3, li_4, li_5, li_6, li_7, li_8, li_9, li_10, li_11, li_12, li_13, li_14, li_15, li_16, li_17, li_18, li_19, li_20, li_21, li_22, li_23, li_24, li_25, li_26, li_27, li_28, li_29, li_30, li_31, li_32, li_40, li_43, li_45, li_47, li_48, li_57, li_59, li_60, li_61, li_62, li_63, li_64, li_80, li_92, li_97, li_99, li_100, li_122, li_123, li_125, li_166, li_201, li_210, li_250, li_255, li_256, li_257, li_258, li_259, li_260, li_261, li_262, li_263, li_264, li_265, li_266, li_267, li_268, li_300, li_500, li_1000, li_12345, li_27720, li_1000000, li_1103515245, ne_m1, ne_m2]
    · simp (disch := omega) only [↓reduceIte, h_let, hg_in, hg_zb, hg_z0, hg_z1, hg_nz, Option.bind_some, if_pos, if_neg, bI_0, bI_n0, nI_add, nI_mul, nI_ltI, nI_leI, nI_eq, nI_clamp, nI_subN, nI_divN, nI_mod2, nI_m1e, nI_em1, nI_m2e, nI_lt0, m1_lt0, m1_lt, m1_le, h_u_at, h_u_off2, h_u_pl, li_0, li_1, li_2, li_3, li_4, li_5, li_6, li_7, li_8, li_9, li_10, li_11, li_12, li_13, li_14, li_15, li_16, li_17, li_18, li_19, li_20, li_21, li_22, li_23, li_24, li_25, li_26, li_27, li_28, li_29, li_30, li_31, li_32, li_40, li_43, li_45, li_47, li_48, li_57, li_59, li_60, li_61, li_62, li_63, li_64, li_80, li_92, li_97, li_99, li_100, li_122, li_123, li_125, li_166, li_201, li_210, li_250, li_255, li_256, li_257, li_258, li_259, li_260, li_261, li_262, li_263, li_264, li_265, li_266, li_267, li_268, li_300, li_500, li_1000, li_12345, li_27720, li_1000000, li_1103515245, ne_m1, ne_m2]
  have pos : ∀ n v', v' ≤ 2 → mCo_isBetter_L41 (n + 1) c (nI 1) (nI v') I J = some (nI 0) := fun n v' hv => by
    rw [s41]
    unfold mCo_isBetter_B41 mCo_isBetter_83
    by_cases h : v' = 2
    · subst h
      simp (disch := omega) only [↓reduceIte, h_let, hg_in, hg_zb, hg_z0, hg_z1, hg_nz, Option.bind_some, if_pos, if_neg, bI_0, bI_n0, nI_add, nI_mul, nI_ltI, nI_leI, nI_eq, nI_clamp, nI_subN, nI_divN, nI_mod2, nI_m1e, nI_em1, nI_m2e, nI_lt0, m1_lt0, m1_lt, m1_le, h_u_at, h_u_off2, h_u_pl, li_0, li_1, li_2, li_3, li_4, li_5, li_6, li_7, li_8, li_9, li_10, li_11, li_12, li_13, li_14, li_15, li_16, li_17, li_18, li_19, li_20, li_21, li_22, li_23, li_24, li_25, li_26, li_27, li_28, li_29, li_30, li_31, li_32, li_40, li_43, li_45, li_47, li_48, li_57, li_59, li_60, li_61, li_62, li_63, li_64, li_80, li_92, li_97, li_99, li_100, li_122, li_123, li_125, li_166, li_201, li_210, li_250, li_255, li_256, li_257, li_258, li_259, li_260, li_261, li_262, li_263, li_264, li_265, li_266, li_267, li_268, li_300, li_500, li_1000, li_12345, li_27720, li_1000000, li_1103515245, ne_m1, ne_m2]
    · simp (disch := omega) only [↓reduceIte, h_let, hg_in, hg_zb, hg_z0, hg_z1, hg_nz, Option.bind_some, if_pos, if_neg, bI_0, bI_n0, nI_add, nI_mul, nI_ltI, nI_leI, nI_eq, nI_clamp, nI_subN, nI_divN, nI_mod2, nI_m1e, nI_em1, nI_m2e, nI_lt0, m1_lt0, m1_lt, m1_le, h_u_at, h_u_off2, h_u_pl, li_0, li_1, li_2, li_3, li_4, li_5, li_6, li_7, li_8, li_9, li_10, li_11, li_12, li_13, li_14, li_15, li_16, li_17, li_18, li_19, li_20, li_21, li_22, li_23, li_24, li_25, li_26, li_27, li_28, li_29, li_30, li_31, li_32, li_40, li_43, li_45, li_47, li_48, li_57, li_59, li_60, li_61, li_62, li_63, li_64, li_80, li_92, li_97, li_99, li_100, li_122, li_123, li_125, li_166, li_201, li_210, li_250, li_255, li_256, li_257, li_258, li_259, li_260, li_261, li_262, li_263, li_264, li_265, li_266, li_267, li_268, li_300, li_500, li_1000, li_12345, li_27720, li_1000000, li_1103515245, ne_m1, ne_m2]
  have z2 : ∀ n, mCo_isBetter_L41 (n + 1) c (nI 0) (nI 2) I J = some (nI 0) := fun n => by
    rw [s41]
    unfold mCo_isBetter_B41 mCo_isBetter_83
    simp (disch := omega) only [↓reduceIte, h_let, hg_in, hg_zb, hg_z0, hg_z1, hg_nz, Option.bind_some, if_pos, if_neg, bI_0, bI_n0, nI_add, nI_mul, nI_ltI, nI_leI, nI_eq, nI_clamp, nI_subN, nI_divN, nI_mod2, nI_m1e, nI_em1, nI_m2e, nI_lt0, m1_lt0, m1_lt, m1_le, h_u_at, h_u_off2, h_u_pl, li_0, li_1, li_2, li_3, li_4, li_5, li_6, li_7, li_8, li_9, li_10, li_11, li_12, li_13, li_14, li_15, li_16, li_17, li_18, li_19, li_20, li_21, li_22, li_23, li_24, li_25, li_26, li_27, li_28, li_29, li_30, li_31, li_32, li_40, li_43, li_45, li_47, li_48, li_57, li_59, li_60, li_61, li_62, li_63, li_64, li_80, li_92, li_97, li_99, li_100, li_122, li_123, li_125, li_166, li_201, li_210, li_250, li_255, li_256, li_257, li_258, li_259, li_260, li_261, li_262, li_263, li_264, li_265, li_266, li_267, li_268, li_300, li_500, li_1000, li_12345, li_27720, li_1000000, li_1103515245, ne_m1, ne_m2]
  have z1 : ∀ n, mCo_isBetter_L41 (n + 1) c (nI 0) (nI 1) I J = mCo_isBetter_L41 n c (sg (C 1 * K 3) (K 1 * C 3)) (nI 2) I J := fun n => by
    rw [s41]
    unfold mCo_isBetter_B41
    simp (disch := omega) only [↓reduceIte, h_let, hg_in, hg_zb, hg_z0, hg_z1, hg_nz, Option.bind_some, if_pos, if_neg, bI_0, bI_n0, nI_add, nI_mul, nI_ltI, nI_leI, nI_eq, nI_clamp, nI_subN, nI_divN, nI_mod2, nI_m1e, nI_em1, nI_m2e, nI_lt0, m1_lt0, m1_lt, m1_le, h_u_at, h_u_off2, h_u_pl, li_0, li_1, li_2, li_3, li_4, li_5, li_6, li_7, li_8, li_9, li_10, li_11, li_12, li_13, li_14, li_15, li_16, li_17, li_18, li_19, li_20, li_21, li_22, li_23, li_24, li_25, li_26, li_27, li_28, li_29, li_30, li_31, li_32, li_40, li_43, li_45, li_47, li_48, li_57, li_59, li_60, li_61, li_62, li_63, li_64, li_80, li_92, li_97, li_99, li_100, li_122, li_123, li_125, li_166, li_201, li_210, li_250, li_255, li_256, li_257, li_258, li_259, li_260, li_261, li_262, li_263, li_264, li_265, li_266, li_267, li_268, li_300, li_500, li_1000, li_12345, li_27720, li_1000000, li_1103515245, ne_m1, ne_m2, c1, c3, k1, k3, lI_mul, g2]
  have z0 : ∀ n, mCo_isBetter_L41 (n + 1) c (nI 0) (nI 0) I J = mCo_isBetter_L41 n c (sg (C 0 * K 3) (K 0 * C 3)) (nI 1) I J := fun n => by
    rw [s41]
    unfold mCo_isBetter_B41
    simp (disch := omega) only [↓reduceIte, h_let, hg_in, hg_zb, hg_z0, hg_z1, hg_nz, Option.bind_some, if_pos, if_neg, bI_0, bI_n0, nI_add, nI_mul, nI_ltI, nI_leI, nI_eq, nI_clamp, nI_subN, nI_divN, nI_mod2, nI_m1e, nI_em1, nI_m2e, nI_lt0, m1_lt0, m1_lt, m1_le, h_u_at, h_u_off2, h_u_pl, li_0, li_1, li_2, li_3, li_4, li_5, li_6, li_7, li_8, li_9, li_10, li_11, li_12, li_13, li_14, li_15, li_16, li_17, li_18, li_19, li_20, li_21, li_22, li_23, li_24, li_25, li_26, li_27, li_28, li_29, li_30, li_31, li_32, li_40, li_43, li_45, li_47, li_48, li_57, li_59, li_60, li_61, li_62, li_63, li_64, li_80, li_92, li_97, li_99, li_100, li_122, li_123, li_125, li_166, li_201, li_210, li_250, li_255, li_256, li_257, li_258, li_259, li_260, li_261, li_262, li_263, li_264, li_265, li_266, li_267, li_268, li_300, li_500, li_1000, li_12345, li_27720, li_1000000, li_1103515245, ne_m1, ne_m2, c0, c3, k0, k3, lI_mul, g1]
  have run : ∃ b : Bool, mCo_isBetter_L41 hF c (sg (A * K 3) (B * C 3)) (nI 0) I J = some (bI b) ∧ (b = true ↔ ltP (s % D 0 1 : Nat) (s / D 0 1 : Nat) C K) := by
    rw [hf]
    unfold ltP
    rw [hA, hB]
    rcases Int.lt_trichotomy (A * K 3) (B * C 3) with h | h | h
    · exact ⟨true, by rw [sg_lt h, neg _ 0 (by decide)]; rfl, by simp; omega⟩
    · rw [sg_eq h, z0]
      rcases Int.lt_trichotomy (C 0 * K 3) (K 0 * C 3) with h' | h' | h'
      · exact ⟨true, by rw [sg_lt h', neg _ 1 (by decide)]; rfl, by simp; omega⟩
      · rw [sg_eq h', z1]
        rcases Int.lt_trichotomy (C 1 * K 3) (K 1 * C 3) with h'' | h'' | h''
        · exact ⟨true, by rw [sg_lt h'', neg _ 2 (by decide)]; rfl, by simp; omega⟩
        · exact ⟨false, by rw [sg_eq h'', z2]; rfl, by simp; omega⟩
        · exact ⟨false, by rw [sg_gt h'', pos _ 2 (by decide)]; rfl, by simp; omega⟩
      · exact ⟨false, by rw [sg_gt h', pos _ 1 (by decide)]; rfl, by simp; omega⟩
    · exact ⟨false, by rw [sg_gt h, pos _ 0 (by decide)]; rfl, by simp; omega⟩
  obtain ⟨b, r1', r2'⟩ := run
  refine ⟨b, ?_, r2'⟩
  unfold mCo_isBetter
  simp (disch := omega) only [↓reduceIte, h_let, hg_in, hg_zb, hg_z0, hg_z1, hg_nz, Option.bind_some, if_pos, if_neg, bI_0, bI_n0, nI_add, nI_mul, nI_ltI, nI_leI, nI_eq, nI_clamp, nI_subN, nI_divN, nI_mod2, nI_m1e, nI_em1, nI_m2e, nI_lt0, m1_lt0, m1_lt, m1_le, h_u_at, h_u_off2, h_u_pl, li_0, li_1, li_2, li_3, li_4, li_5, li_6, li_7, li_8, li_9, li_10, li_11, li_12, li_13, li_14, li_15, li_16, li_17, li_18, li_19, li_20, li_21, li_22, li_23, li_24, li_25, li_26, li_27, li_28, li_29, li_30, li_31, li_32, li_40, li_43, li_45, li_47, li_48, li_57, li_59, li_60, li_61, li_62, li_63, li_64, li_80, li_92, li_97, li_99, li_100, li_122, li_123, li_125, li_166, li_201, li_210, li_250, li_255, li_256, li_257, li_258, li_259, li_260, li_261, li_262, li_263, li_264, li_265, li_266, li_267, li_268, li_300, li_500, li_1000, li_12345, li_27720, li_1000000, li_1103515245, ne_m1, ne_m2, t1, t2, c3, k3, lI_mul, g0, r1']
end Bu
