/-! best: the class makes a line. -/
def tbR (R : Nat → Nat → Int) (M : Nat) (J : hJ) : Prop := ∀ p, p < M → J 40 p = lI (R p 0) ∧ J 41 p = lI (R p 1) ∧ J 42 p = lI (R p 2) ∧ J 43 p = lI (R p 3)
def bdR (R : Nat → Nat → Int) (M : Nat) : Prop := ∀ p, p < M → (- 36 ≤ R p 0 ∧ R p 0 ≤ 36) ∧ (- 36 ≤ R p 1 ∧ R p 1 ≤ 36) ∧ (- 36 ≤ R p 2 ∧ R p 2 ≤ 36) ∧ (0 ≤ R p 3 ∧ R p 3 ≤ 1920)
theorem hF4 : ∃ f, hF = f + 1 + 1 + 1 + 1 := ⟨996, rfl⟩
/-- a line's cells -/
def lnQ (i j : Nat → Int) (J : hJ) : Prop := J 38 8 = lI (wyS i j) ∧ (J 45 0 = lI (wy0 i j) ∧ J 45 1 = lI (wy1 i j) ∧ J 45 2 = lI (wy2 i j)) ∧ J 44 0 = lI (pt0 i j) ∧ J 44 1 = lI (pt1 i j) ∧ J 44 2 = lI (pt2 i j)
theorem mb {a b A B : Int} (ha : - A ≤ a ∧ a ≤ A) (hb : - B ≤ b ∧ b ≤ B) : - (A * B) ≤ a * b ∧ a * b ≤ A * B := by
  have hA : 0 ≤ A := by omega
  have hB : 0 ≤ B := by omega
  have h1 : (a * b).natAbs ≤ A.natAbs * B.natAbs := by
    rw [Int.natAbs_mul]
    exact Nat.mul_le_mul (by omega) (by omega)
  have h2 : ((A.natAbs * B.natAbs : Nat) : Int) = A * B := by
    rw [Int.natCast_mul, Int.natAbs_of_nonneg hA, Int.natAbs_of_nonneg hB]
  omega
section Ln
variable {R : Nat → Nat → Int} {M : Nat}
theorem wy_bd (hb : bdR R M) {i j : Nat} (hi : i < M) (hj : j < M) : (- 2592 ≤ wy0 (R i) (R j) ∧ wy0 (R i) (R j) ≤ 2592) ∧ (- 2592 ≤ wy1 (R i) (R j) ∧ wy1 (R i) (R j) ≤ 2592) ∧ (- 2592 ≤ wy2 (R i) (R j) ∧ wy2 (R i) (R j) ≤ 2592) := by
  obtain ⟨a0, a1, a2, _⟩ := hb i hi
  obtain ⟨b0, b1, b2, _⟩ := hb j hj
  have m12 := mb a1 b2
  have m21 := mb a2 b1
  have m20 := mb a2 b0
  have m02 := mb a0 b2
  have m01 := mb a0 b1
  have m10 := mb a1 b0
  unfold wy0 wy1 wy2
  omega
theorem wyS_bd (hb : bdR R M) {i j : Nat} (hi : i < M) (hj : j < M) : 0 ≤ wyS (R i) (R j) ∧ wyS (R i) (R j) ≤ 20155392 := by
  obtain ⟨h0, h1, h2⟩ := wy_bd hb hi hj
  have m0 := mb h0 h0
  have m1 := mb h1 h1
  have m2 := mb h2 h2
  refine ⟨wyS_nn _ _, ?_⟩
  unfold wyS
  omega
theorem pt_bd (hb : bdR R M) {i j : Nat} (hi : i < M) (hj : j < M) : (- 716636160 ≤ pt0 (R i) (R j) ∧ pt0 (R i) (R j) ≤ 716636160) ∧ (- 716636160 ≤ pt1 (R i) (R j) ∧ pt1 (R i) (R j) ≤ 716636160) ∧ (- 716636160 ≤ pt2 (R i) (R j) ∧ pt2 (R i) (R j) ≤ 716636160) := by
  obtain ⟨h0, h1, h2⟩ := wy_bd hb hi hj
  obtain ⟨a0, a1, a2, a3⟩ := hb i hi
  obtain ⟨b0, b1, b2, b3⟩ := hb j hj
  have A3 : - 1920 ≤ R i 3 ∧ R i 3 ≤ 1920 := by omega
  have B3 : - 1920 ≤ R j 3 ∧ R j 3 ≤ 1920 := by omega
  have key : ∀ {x y u v : Int}, (- 36 ≤ x ∧ x ≤ 36) → (- 36 ≤ y ∧ y ≤ 36) → (- 2592 ≤ u ∧ u ≤ 2592) → (- 2592 ≤ v ∧ v ≤ 2592) → - 186624 ≤ x * u - y * v ∧ x * u - y * v ≤ 186624 := fun hx hy hu hv => by
    have := mb hx hu
    have := mb hy hv
    omega
  unfold pt0 pt1 pt2
  refine ⟨?_, ?_, ?_⟩
  · have := mb A3 (key b1 b2 h2 h1)
    have := mb B3 (key a2 a1 h1 h2)
    omega
  · have := mb A3 (key b2 b0 h0 h2)
    have := mb B3 (key a0 a2 h2 h0)
    omega
  · have := mb A3 (key b0 b1 h1 h0)
    have := mb B3 (key a1 a0 h0 h1)
    omega
theorem ln27_0 {J : hJ} (h : tbR R M J) (hM : M ≤ 92) {i j : Nat} (hi : i < M) (hj : j < M) {S : Int} (hS : J 38 8 = lI S) (K : Int32 → Int32 → Int32 → hJ → Option (Int32 × hJ)) : mCo_makeLine_B27 K (nI i) (nI j) (nI 0) J = K (nI i) (nI j) (nI 1) (h_u (h_u J 45 0 (lI (wy0 (R i) (R j)))) 38 8 (lI (S + wy0 (R i) (R j) * wy0 (R i) (R j)))) := by
  obtain ⟨i0, i1, i2, i3⟩ := h i hi
  obtain ⟨j0, j1, j2, j3⟩ := h j hj
  unfold mCo_makeLine_B27 wy0
  simp (disch := omega) only [↓reduceIte, h_let, hg_in, hg_zb, hg_z0, hg_z1, hg_nz, Option.bind_some, if_pos, if_neg, bI_0, bI_n0, nI_add, nI_mul, nI_ltI, nI_leI, nI_eq, nI_clamp, nI_subN, nI_divN, nI_mod2, nI_m1e, nI_em1, nI_m2e, nI_lt0, m1_lt0, m1_lt, m1_le, h_u_at, h_u_off2, h_u_pl, li_0, li_1, li_2, li_3, li_4, li_5, li_6, li_7, li_8, li_9, li_10, li_11, li_12, li_13, li_14, li_15, li_16, li_17, li_18, li_19, li_20, li_21, li_22, li_23, li_24, li_25, li_26, li_27, li_28, li_29, li_30, li_31, li_32, li_40, li_43, li_45, li_47, li_48, li_57, li_59, li_60, li_61, li_62, li_63, li_64, li_80, li_92, li_97, li_99, li_100, li_122, li_123, li_125, li_166, li_201, li_210, li_250, li_255, li_256, li_257, li_258, li_259, li_260, li_261, li_262, li_263, li_264, li_265, li_266, li_267, li_268, li_300, li_500, li_1000, li_12345, li_27720, li_1000000, li_1103515245, ne_m1, ne_m2, Nat.reduceAdd, Nat.reduceMod, i1, i2, j1, j2, lI_mul, lI_sub, lI_add, hS]
theorem ln27_1 {J : hJ} (h : tbR R M J) (hM : M ≤ 92) {i j : Nat} (hi : i < M) (hj : j < M) {S : Int} (hS : J 38 8 = lI S) (K : Int32 → Int32 → Int32 → hJ → Option (Int32 × hJ)) : mCo_makeLine_B27 K (nI i) (nI j) (nI 1) J = K (nI i) (nI j) (nI 2) (h_u (h_u J 45 1 (lI (wy1 (R i) (R j)))) 38 8 (lI (S + wy1 (R i) (R j) * wy1 (R i) (R j)))) := by
  obtain ⟨i0, i1, i2, i3⟩ := h i hi
  obtain ⟨j0, j1, j2, j3⟩ := h j hj
  unfold mCo_makeLine_B27 wy1
  simp (disch := omega) only [↓reduceIte, h_let, hg_in, hg_zb, hg_z0, hg_z1, hg_nz, Option.bind_some, if_pos, if_neg, bI_0, bI_n0, nI_add, nI_mul, nI_ltI, nI_leI, nI_eq, nI_clamp, nI_subN, nI_divN, nI_mod2, nI_m1e, nI_em1, nI_m2e, nI_lt0, m1_lt0, m1_lt, m1_le, h_u_at, h_u_off2, h_u_pl, li_0, li_1, li_2, li_3, li_4, li_5, li_6, li_7, li_8, li_9, li_10, li_11, li_12, li_13, li_14, li_15, li_16, li_17, li_18, li_19, li_20, li_21, li_22, li_23, li_24, li_25, li_26, li_27, li_28, li_29, li_30, li_31, li_32, li_40, li_43, li_45, li_47, li_48, li_57, li_59, li_60, li_61, li_62, li_63, li_64, li_80, li_92, li_97, li_99, li_100, li_122, li_123, li_125, li_166, li_201, li_210, li_250, li_255, li_256, li_257, li_258, li_259, li_260, li_261, li_262, li_263, li_264, li_265, li_266, li_267, li_268, li_300, li_500, li_1000, li_12345, li_27720, li_1000000, li_1103515245, ne_m1, ne_m2, Nat.reduceAdd, Nat.reduceMod, i2, i0, j2, j0, lI_mul, lI_sub, lI_add, hS]
theorem ln27_2 {J : hJ} (h : tbR R M J) (hM : M ≤ 92) {i j : Nat} (hi : i < M) (hj : j < M) {S : Int} (hS : J 38 8 = lI S) (K : Int32 → Int32 → Int32 → hJ → Option (Int32 × hJ)) : mCo_makeLine_B27 K (nI i) (nI j) (nI 2) J = K (nI i) (nI j) (nI 3) (h_u (h_u J 45 2 (lI (wy2 (R i) (R j)))) 38 8 (lI (S + wy2 (R i) (R j) * wy2 (R i) (R j)))) := by
  obtain ⟨i0, i1, i2, i3⟩ := h i hi
  obtain ⟨j0, j1, j2, j3⟩ := h j hj
  unfold mCo_makeLine_B27 wy2
  simp (disch := omega) only [↓reduceIte, h_let, hg_in, hg_zb, hg_z0, hg_z1, hg_nz, Option.bind_some, if_pos, if_neg, bI_0, bI_n0, nI_add, nI_mul, nI_ltI, nI_leI, nI_eq, nI_clamp, nI_subN, nI_divN, nI_mod2, nI_m1e, nI_em1, nI_m2e, nI_lt0, m1_lt0, m1_lt, m1_le, h_u_at, h_u_off2, h_u_pl, li_0, li_1, li_2, li_3, li_4, li_5, li_6, li_7, li_8, li_9, li_10, li_11, li_12, li_13, li_14, li_15, li_16, li_17, li_18, li_19, li_20, li_21, li_22, li_23, li_24, li_25, li_26, li_27, li_28, li_29, li_30, li_31, li_32, li_40, li_43, li_45, li_47, li_48, li_57, li_59, li_60, li_61, li_62, li_63, li_64, li_80, li_92, li_97, li_99, li_100, li_122, li_123, li_125, li_166, li_201, li_210, li_250, li_255, li_256, li_257, li_258, li_259, li_260, li_261, li_262, li_263, li_264, li_265, li_266, li_267, li_268, li_300, li_500, li_1000, li_12345, li_27720, li_1000000, li_1103515245, ne_m1, ne_m2, Nat.reduceAdd, Nat.reduceMod, i0, i1, j0, j1, lI_mul, lI_sub, lI_add, hS]
theorem ln121_0 {J : hJ} (h : tbR R M J) (hM : M ≤ 92) {i j : Nat} (hi : i < M) (hj : j < M) (h45 : J 45 0 = lI (wy0 (R i) (R j)) ∧ J 45 1 = lI (wy1 (R i) (R j)) ∧ J 45 2 = lI (wy2 (R i) (R j))) (K : Int32 → Int32 → Int32 → hJ → Option (Int32 × hJ)) : mCo_makeLine_B121 K (nI i) (nI j) (nI 0) J = K (nI i) (nI j) (nI 1) (h_u J 44 0 (lI (pt0 (R i) (R j)))) := by
  obtain ⟨i0, i1, i2, i3⟩ := h i hi
  obtain ⟨j0, j1, j2, j3⟩ := h j hj
  obtain ⟨y0, y1, y2⟩ := h45
  unfold mCo_makeLine_B121 pt0
  simp (disch := omega) only [↓reduceIte, h_let, hg_in, hg_zb, hg_z0, hg_z1, hg_nz, Option.bind_some, if_pos, if_neg, bI_0, bI_n0, nI_add, nI_mul, nI_ltI, nI_leI, nI_eq, nI_clamp, nI_subN, nI_divN, nI_mod2, nI_m1e, nI_em1, nI_m2e, nI_lt0, m1_lt0, m1_lt, m1_le, h_u_at, h_u_off2, h_u_pl, li_0, li_1, li_2, li_3, li_4, li_5, li_6, li_7, li_8, li_9, li_10, li_11, li_12, li_13, li_14, li_15, li_16, li_17, li_18, li_19, li_20, li_21, li_22, li_23, li_24, li_25, li_26, li_27, li_28, li_29, li_30, li_31, li_32, li_40, li_43, li_45, li_47, li_48, li_57, li_59, li_60, li_61, li_62, li_63, li_64, li_80, li_92, li_97, li_99, li_100, li_122, li_123, li_125, li_166, li_201, li_210, li_250, li_255, li_256, li_257, li_258, li_259, li_260, li_261, li_262, li_263, li_264, li_265, li_266, li_267, li_268, li_300, li_500, li_1000, li_12345, li_27720, li_1000000, li_1103515245, ne_m1, ne_m2, Nat.reduceAdd, Nat.reduceMod, i1, i2, j1, j2, i3, j3, y0, y1, y2, lI_mul, lI_sub, lI_add]
theorem ln121_1 {J : hJ} (h : tbR R M J) (hM : M ≤ 92) {i j : Nat} (hi : i < M) (hj : j < M) (h45 : J 45 0 = lI (wy0 (R i) (R j)) ∧ J 45 1 = lI (wy1 (R i) (R j)) ∧ J 45 2 = lI (wy2 (R i) (R j))) (K : Int32 → Int32 → Int32 → hJ → Option (Int32 × hJ)) : mCo_makeLine_B121 K (nI i) (nI j) (nI 1) J = K (nI i) (nI j) (nI 2) (h_u J 44 1 (lI (pt1 (R i) (R j)))) := by
  obtain ⟨i0, i1, i2, i3⟩ := h i hi
  obtain ⟨j0, j1, j2, j3⟩ := h j hj
  obtain ⟨y0, y1, y2⟩ := h45
  unfold mCo_makeLine_B121 pt1
  simp (disch := omega) only [↓reduceIte, h_let, hg_in, hg_zb, hg_z0, hg_z1, hg_nz, Option.bind_some, if_pos, if_neg, bI_0, bI_n0, nI_add, nI_mul, nI_ltI, nI_leI, nI_eq, nI_clamp, nI_subN, nI_divN, nI_mod2, nI_m1e, nI_em1, nI_m2e, nI_lt0, m1_lt0, m1_lt, m1_le, h_u_at, h_u_off2, h_u_pl, li_0, li_1, li_2, li_3, li_4, li_5, li_6, li_7, li_8, li_9, li_10, li_11, li_12, li_13, li_14, li_15, li_16, li_17, li_18, li_19, li_20, li_21, li_22, li_23, li_24, li_25, li_26, li_27, li_28, li_29, li_30, li_31, li_32, li_40, li_43, li_45, li_47, li_48, li_57, li_59, li_60, li_61, li_62, li_63, li_64, li_80, li_92, li_97, li_99, li_100, li_122, li_123, li_125, li_166, li_201, li_210, li_250, li_255, li_256, li_257, li_258, li_259, li_260, li_261, li_262, li_263, li_264, li_265, li_266, li_267, li_268, li_300, li_500, li_1000, li_12345, li_27720, li_1000000, li_1103515245, ne_m1, ne_m2, Nat.reduceAdd, Nat.reduceMod, i2, i0, j2, j0, i3, j3, y0, y1, y2, lI_mul, lI_sub, lI_add]
theorem ln121_2 {J : hJ} (h : tbR R M J) (hM : M ≤ 92) {i j : Nat} (hi : i < M) (hj : j < M) (h45 : J 45 0 = lI (wy0 (R i) (R j)) ∧ J 45 1 = lI (wy1 (R i) (R j)) ∧ J 45 2 = lI (wy2 (R i) (R j))) (K : Int32 → Int32 → Int32 → hJ → Option (Int32 × hJ)) : mCo_makeLine_B121 K (nI i) (nI j) (nI 2) J = K (nI i) (nI j) (nI 3) (h_u J 44 2 (lI (pt2 (R i) (R j)))) := by
  obtain ⟨i0, i1, i2, i3⟩ := h i hi
  obtain ⟨j0, j1, j2, j3⟩ := h j hj
  obtain ⟨y0, y1, y2⟩ := h45
  unfold mCo_makeLine_B121 pt2
  simp (disch := omega) only [↓reduceIte, h_let, hg_in, hg_zb, hg_z0, hg_z1, hg_nz, Option.bind_some, if_pos, if_neg, bI_0, bI_n0, nI_add, nI_mul, nI_ltI, nI_leI, nI_eq, nI_clamp, nI_subN, nI_divN, nI_mod2, nI_m1e, nI_em1, nI_m2e, nI_lt0, m1_lt0, m1_lt, m1_le, h_u_at, h_u_off2, h_u_pl, li_0, li_1, li_2, li_3, li_4, li_5, li_6, li_7, li_8, li_9, li_10, li_11, li_12, li_13, li_14, li_15, li_16, li_17, li_18, li_19, li_20, li_21, li_22, li_23, li_24, li_25, li_26, li_27, li_28, li_29, li_30, li_31, li_32, li_40, li_43, li_45, li_47, li_48, li_57, li_59, li_60, li_61, li_62, li_63, li_64, li_80, li_92, li_97, li_99, li_100, li_122, li_123, li_125, li_166, li_201, li_210, li_250, li_255, li_256, li_257, li_258, li_259, li_260, li_261, li_262, li_263, li_264, li_265, li_266, li_267, li_268, li_300, li_500, li_1000, li_12345, li_27720, li_1000000, li_1103515245, ne_m1, ne_m2, Nat.reduceAdd, Nat.reduceMod, i0, i1, j0, j1, i3, j3, y0, y1, y2, lI_mul, lI_sub, lI_add]
theorem tbR_of {J J' : hJ} (h : tbR R M J) (h1 : ∀ a x, 40 ≤ a → a ≤ 43 → J' a x = J a x) : tbR R M J' := fun p hp => by
  obtain ⟨a, b, c, d⟩ := h p hp
  exact ⟨by rw [h1 40 p (by decide) (by decide)]; exact a, by rw [h1 41 p (by decide) (by decide)]; exact b, by rw [h1 42 p (by decide) (by decide)]; exact c, by rw [h1 43 p (by decide) (by decide)]; exact d⟩
theorem hl_eq {α β : Type} (x : α) (f : α → β) : h_let x f = f x := Eq.trans rfl rfl
theorem ln_top (J : hJ) {i j : Nat} (oi : mC_isOutside (nI i) (nI 92) = nI 0) (oj : mC_isOutside (nI j) (nI 92) = nI 0) : mCo_makeLine (nI i) (nI j) J = mCo_makeLine_L27 hF (nI i) (nI j) (nI 0) (h_u J 38 8 (lI 0)) := by
  have l0 : (0 : Int64) = lI 0 := rfl
  have z92 : (92 : Int32) = nI 92 := rfl
  have z0 : nI 0 = (0 : Int32) := rfl
  unfold mCo_makeLine
  rw [hl_eq, z92, oi, oj, if_pos z0, if_pos z0, l0, z0]
theorem co_makeLine (hb : bdR R M) {J : hJ} (h : tbR R M J) (hM : M ≤ 92) {i j : Nat} (hi : i < M) (hj : j < M) : ∃ J' : hJ, mCo_makeLine (nI i) (nI j) J = some (bI (decide (wyS (R i) (R j) ≠ 0)), J') ∧ (∀ a x, a ≠ 44 → a ≠ 45 → (a ≠ 38 ∨ x ≠ 8) → J' a x = J a x) ∧ lnQ (R i) (R j) J' := by
  have eo : ∀ s, s < M → mC_isOutside (nI s) (nI 92) = nI 0 := fun s hs => by
    unfold mC_isOutside
    simp (disch := omega) only [↓reduceIte, h_let, hg_in, hg_zb, hg_z0, hg_z1, hg_nz, Option.bind_some, if_pos, if_neg, bI_0, bI_n0, nI_add, nI_mul, nI_ltI, nI_leI, nI_eq, nI_clamp, nI_subN, nI_divN, nI_mod2, nI_m1e, nI_em1, nI_m2e, nI_lt0, m1_lt0, m1_lt, m1_le, h_u_at, h_u_off2, h_u_pl, li_0, li_1, li_2, li_3, li_4, li_5, li_6, li_7, li_8, li_9, li_10, li_11, li_12, li_13, li_14, li_15, li_16, li_17, li_18, li_19, li_20, li_21, li_22, li_23, li_24, li_25, li_26, li_27, li_28, li_29, li_30, li_31, li_32, li_40, li_43, li_45, li_47, li_48, li_57, li_59, li_60, li_61, li_62, li_63, li_64, li_80, li_92, li_97, li_99, li_100, li_122, li_123, li_125, li_166, li_201, li_210, li_250, li_255, li_256, li_257, li_258, li_259, li_260, li_261, li_262, li_263, li_264, li_265, li_266, li_267, li_268, li_300, li_500, li_1000, li_12345, li_27720, li_1000000, li_1103515245, ne_m1, ne_m2]
  have oi := eo i hi
  have oj := eo j hj
  obtain ⟨f, hf⟩ := hF4
  have hS := wyS_bd hb hi hj
  have l0 : (0 : Int64) = lI 0 := rfl
  have ez := lI_eq (a := wyS (R i) (R j)) (b := 0) (by omega) (by omega) (by omega) (by omega)
  have s27 : ∀ n v1 v2 v3 K, mCo_makeLine_L27 (n + 1) v1 v2 v3 K = mCo_makeLine_B27 (mCo_makeLine_L27 n) v1 v2 v3 K := fun _ _ _ _ _ => rfl
  have s121 : ∀ n v1 v2 v3 K, mCo_makeLine_L121 (n + 1) v1 v2 v3 K = mCo_makeLine_B121 (mCo_makeLine_L121 n) v1 v2 v3 K := fun _ _ _ _ _ => rfl
  have off2 : ∀ (K : hJ) (c y : Nat) (v : Int64), (c = 44 ∨ c = 45 ∨ c = 38) → ∀ a x, 40 ≤ a → a ≤ 43 → h_u K c y v a x = K a x := fun K c y v hc a x q1 q2 => h_u_off2 _ _ _ _ (by omega)
  obtain ⟨K1, hK1⟩ : ∃ K, K = h_u J 38 8 (lI 0) := ⟨_, rfl⟩
  have t1 : tbR R M K1 := tbR_of h (fun a x q1 q2 => by rw [hK1, off2 J 38 8 (lI 0) (by omega) a x q1 q2])
  have e1 := ln27_0 t1 hM hi hj (S := 0) (by rw [hK1, h_u_at]) (mCo_makeLine_L27 (f + 1 + 1 + 1))
  obtain ⟨K2, hK2⟩ : ∃ K, K = h_u (h_u K1 45 0 (lI (wy0 (R i) (R j)))) 38 8 (lI (0 + wy0 (R i) (R j) * wy0 (R i) (R j))) := ⟨_, rfl⟩
  rw [← hK2] at e1
  have t2 : tbR R M K2 := tbR_of t1 (fun a x q1 q2 => by rw [hK2, off2 _ 38 8 _ (by omega) a x q1 q2, off2 _ 45 0 _ (by omega) a x q1 q2])
  have e2 := ln27_1 t2 hM hi hj (by rw [hK2, h_u_at]) (mCo_makeLine_L27 (f + 1 + 1))
  obtain ⟨K3, hK3⟩ : ∃ K, K = h_u (h_u K2 45 1 (lI (wy1 (R i) (R j)))) 38 8 (lI (0 + wy0 (R i) (R j) * wy0 (R i) (R j) + wy1 (R i) (R j) * wy1 (R i) (R j))) := ⟨_, rfl⟩
  rw [← hK3] at e2
  have t3 : tbR R M K3 := tbR_of t2 (fun a x q1 q2 => by rw [hK3, off2 _ 38 8 _ (by omega) a x q1 q2, off2 _ 45 1 _ (by omega) a x q1 q2])
  have e3 := ln27_2 t3 hM hi hj (by rw [hK3, h_u_at]) (mCo_makeLine_L27 (f + 1))
  obtain ⟨K4, hK4⟩ : ∃ K, K = h_u (h_u K3 45 2 (lI (wy2 (R i) (R j)))) 38 8 (lI (0 + wy0 (R i) (R j) * wy0 (R i) (R j) + wy1 (R i) (R j) * wy1 (R i) (R j) + wy2 (R i) (R j) * wy2 (R i) (R j))) := ⟨_, rfl⟩
  rw [← hK4] at e3
  have t4 : tbR R M K4 := tbR_of t3 (fun a x q1 q2 => by rw [hK4, off2 _ 38 8 _ (by omega) a x q1 q2, off2 _ 45 2 _ (by omega) a x q1 q2])
  have eS : (0 : Int) + wy0 (R i) (R j) * wy0 (R i) (R j) + wy1 (R i) (R j) * wy1 (R i) (R j) + wy2 (R i) (R j) * wy2 (R i) (R j) = wyS (R i) (R j) := by unfold wyS; omega
  rw [eS] at hK4
  have y4 : K4 45 0 = lI (wy0 (R i) (R j)) ∧ K4 45 1 = lI (wy1 (R i) (R j)) ∧ K4 45 2 = lI (wy2 (R i) (R j)) := by
    refine ⟨?_, ?_, ?_⟩ <;> simp (disch := omega) only [hK4, hK3, hK2, h_u_at, h_u_off2, h_u_pl]
  have e4 : mCo_makeLine_B27 (mCo_makeLine_L27 f) (nI i) (nI j) (nI 3) K4 = mCo_makeLine_L121 hF (nI i) (nI j) (nI 0) K4 := by
    unfold mCo_makeLine_B27
    simp (disch := omega) only [↓reduceIte, h_let, hg_in, hg_zb, hg_z0, hg_z1, hg_nz, Option.bind_some, if_pos, if_neg, bI_0, bI_n0, nI_add, nI_mul, nI_ltI, nI_leI, nI_eq, nI_clamp, nI_subN, nI_divN, nI_mod2, nI_m1e, nI_em1, nI_m2e, nI_lt0, m1_lt0, m1_lt, m1_le, h_u_at, h_u_off2, h_u_pl, li_0, li_1, li_2, li_3, li_4, li_5, li_6, li_7, li_8, li_9, li_10, li_11, li_12, li_13, li_14, li_15, li_16, li_17, li_18, li_19, li_20, li_21, li_22, li_23, li_24, li_25, li_26, li_27, li_28, li_29, li_30, li_31, li_32, li_40, li_43, li_45, li_47, li_48, li_57, li_59, li_60, li_61, li_62, li_63, li_64, li_80, li_92, li_97, li_99, li_100, li_122, li_123, li_125, li_166, li_201, li_210, li_250, li_255, li_256, li_257, li_258, li_259, li_260, li_261, li_262, li_263, li_264, li_265, li_266, li_267, li_268, li_300, li_500, li_1000, li_12345, li_27720, li_1000000, li_1103515245, ne_m1, ne_m2]
  have e5 := ln121_0 t4 hM hi hj y4 (mCo_makeLine_L121 (f + 1 + 1 + 1))
  obtain ⟨K5, hK5⟩ : ∃ K, K = h_u K4 44 0 (lI (pt0 (R i) (R j))) := ⟨_, rfl⟩
  rw [← hK5] at e5
  have t5 : tbR R M K5 := tbR_of t4 (fun a x q1 q2 => by rw [hK5, off2 _ 44 0 _ (by omega) a x q1 q2])
  have y5 : K5 45 0 = lI (wy0 (R i) (R j)) ∧ K5 45 1 = lI (wy1 (R i) (R j)) ∧ K5 45 2 = lI (wy2 (R i) (R j)) := by
    rw [hK5]; exact y4
  have e6 := ln121_1 t5 hM hi hj y5 (mCo_makeLine_L121 (f + 1 + 1))
  obtain ⟨K6, hK6⟩ : ∃ K, K = h_u K5 44 1 (lI (pt1 (R i) (R j))) := ⟨_, rfl⟩
  rw [← hK6] at e6
  have t6 : tbR R M K6 := tbR_of t5 (fun a x q1 q2 => by rw [hK6, off2 _ 44 1 _ (by omega) a x q1 q2])
  have y6 : K6 45 0 = lI (wy0 (R i) (R j)) ∧ K6 45 1 = lI (wy1 (R i) (R j)) ∧ K6 45 2 = lI (wy2 (R i) (R j)) := by
    rw [hK6]; exact y5
  have e7 := ln121_2 t6 hM hi hj y6 (mCo_makeLine_L121 (f + 1))
  obtain ⟨K7, hK7⟩ : ∃ K, K = h_u K6 44 2 (lI (pt2 (R i) (R j))) := ⟨_, rfl⟩
  rw [← hK7] at e7
  have q8 : K7 38 8 = lI (wyS (R i) (R j)) := by
    simp (disch := omega) only [hK7, hK6, hK5, hK4, h_u_at, h_u_off2, h_u_pl]
  have e8 : mCo_makeLine_B121 (mCo_makeLine_L121 f) (nI i) (nI j) (nI 3) K7 = some (bI (decide (wyS (R i) (R j) ≠ 0)), K7) := by
    unfold mCo_makeLine_B121
    rw [q8, l0]
    by_cases c : wyS (R i) (R j) = 0
    · rw [decide_eq_false (by omega), bI_f]
      simp (disch := omega) only [↓reduceIte, h_let, hg_in, hg_zb, hg_z0, hg_z1, hg_nz, Option.bind_some, if_pos, if_neg, bI_0, bI_n0, nI_add, nI_mul, nI_ltI, nI_leI, nI_eq, nI_clamp, nI_subN, nI_divN, nI_mod2, nI_m1e, nI_em1, nI_m2e, nI_lt0, m1_lt0, m1_lt, m1_le, h_u_at, h_u_off2, h_u_pl, li_0, li_1, li_2, li_3, li_4, li_5, li_6, li_7, li_8, li_9, li_10, li_11, li_12, li_13, li_14, li_15, li_16, li_17, li_18, li_19, li_20, li_21, li_22, li_23, li_24, li_25, li_26, li_27, li_28, li_29, li_30, li_31, li_32, li_40, li_43, li_45, li_47, li_48, li_57, li_59, li_60, li_61, li_62, li_63, li_64, li_80, li_92, li_97, li_99, li_100, li_122, li_123, li_125, li_166, li_201, li_210, li_250, li_255, li_256, li_257, li_258, li_259, li_260, li_261, li_262, li_263, li_264, li_265, li_266, li_267, li_268, li_300, li_500, li_1000, li_12345, li_27720, li_1000000, li_1103515245, ne_m1, ne_m2, ez]
    · rw [decide_eq_true c, bI_t]
      simp (disch := omega) only [↓reduceIte, h_let, hg_in, hg_zb, hg_z0, hg_z1, hg_nz, Option.bind_some, if_pos, if_neg, bI_0, bI_n0, nI_add, nI_mul, nI_ltI, nI_leI, nI_eq, nI_clamp, nI_subN, nI_divN, nI_mod2, nI_m1e, nI_em1, nI_m2e, nI_lt0, m1_lt0, m1_lt, m1_le, h_u_at, h_u_off2, h_u_pl, li_0, li_1, li_2, li_3, li_4, li_5, li_6, li_7, li_8, li_9, li_10, li_11, li_12, li_13, li_14, li_15, li_16, li_17, li_18, li_19, li_20, li_21, li_22, li_23, li_24, li_25, li_26, li_27, li_28, li_29, li_30, li_31, li_32, li_40, li_43, li_45, li_47, li_48, li_57, li_59, li_60, li_61, li_62, li_63, li_64, li_80, li_92, li_97, li_99, li_100, li_122, li_123, li_125, li_166, li_201, li_210, li_250, li_255, li_256, li_257, li_258, li_259, li_260, li_261, li_262, li_263, li_264, li_265, li_266, li_267, li_268, li_300, li_500, li_1000, li_12345, li_27720, li_1000000, li_1103515245, ne_m1, ne_m2, ez]
  refine ⟨K7, ?_, ?_, q8, ?_, ?_⟩
  · have ha : mCo_makeLine_L27 hF (nI i) (nI j) (nI 0) K1 = some (bI (decide (wyS (R i) (R j) ≠ 0)), K7) := by
      rw [hf, s27, e1, s27, e2, s27, e3, s27, e4, hf, s121, e5, s121, e6, s121, e7, s121, e8]
    rw [hK1] at ha
    exact (ln_top J oi oj).trans ha
  · intro a x q1 q2 q3
    have key : ∀ (K : hJ) (c y : Nat) (v : Int64), (c = 44 ∨ c = 45 ∨ (c = 38 ∧ y = 8)) → h_u K c y v a x = K a x := fun K c y v hc => by
      by_cases e : a = c
      · subst e; exact h_u_pl _ _ _ (by omega)
      · exact h_u_off2 _ _ _ _ e
    rw [hK7, key _ 44 2 _ (by omega), hK6, key _ 44 1 _ (by omega), hK5, key _ 44 0 _ (by omega), hK4, key _ 38 8 _ (by omega), key _ 45 2 _ (by omega), hK3, key _ 38 8 _ (by omega), key _ 45 1 _ (by omega), hK2, key _ 38 8 _ (by omega), key _ 45 0 _ (by omega), hK1, key _ 38 8 _ (by omega)]
  · rw [hK7]; exact y6
  · refine ⟨?_, ?_, ?_⟩ <;> simp (disch := omega) only [hK7, hK6, hK5, h_u_at, h_u_off2, h_u_pl]
end Ln
