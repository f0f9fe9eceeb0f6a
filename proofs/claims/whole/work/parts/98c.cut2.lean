/-! best: the class cuts a line by all conditions. -/
section Cu
variable {R : Nat → Nat → Int} {M : Nat}
theorem ct_step {J : hJ} {i j p : Nat} (h : tbR R M J) (hl : lnQ (R i) (R j) J) (hM : M ≤ 92) (hp : p < M) (k15 : Int32 → hI → hJ → Option (Int32 × hI × hJ)) (I : hI) : mCo_cutLine_L49 k15 hF (nI p) (lI 0) (lI (R p 3 * wyS (R i) (R j))) (nI 0) I J = (if lI (slp (R i) (R j) (R p)) = (0 : Int64) then (if lI (mis (R i) (R j) (R p)) ≤ (0 : Int64) then mCo_cutLine_118 k15 (nI p) (lI (slp (R i) (R j) (R p))) (lI (mis (R i) (R j) (R p))) I J else some ((0 : Int32), I, J)) else mCo_cutLine_118 k15 (nI p) (lI (slp (R i) (R j) (R p))) (lI (mis (R i) (R j) (R p))) I J) := by
  obtain ⟨r0, r1, r2, r3⟩ := h p hp
  obtain ⟨_, ⟨w0, w1, w2⟩, p0, p1, p2⟩ := hl
  obtain ⟨f, hf⟩ := hF4
  have s49 : ∀ n v1 v2 v4 v6 I K, mCo_cutLine_L49 k15 (n + 1) v1 v2 v4 v6 I K = mCo_cutLine_B49 k15 (mCo_cutLine_L49 k15 n) v1 v2 v4 v6 I K := fun _ _ _ _ _ _ _ => rfl
  have b0 : ∀ K (a b : Int), mCo_cutLine_B49 k15 K (nI p) (lI a) (lI b) (nI 0) I J = K (nI p) (lI (a + R p 0 * wy0 (R i) (R j))) (lI (b - R p 0 * pt0 (R i) (R j))) (nI 1) I J := fun K a b => by
    unfold mCo_cutLine_B49
    simp (disch := omega) only [↓reduceIte, h_let, hg_in, hg_zb, hg_z0, hg_z1, hg_nz, Option.bind_some, if_pos, if_neg, bI_0, bI_n0, nI_add, nI_mul, nI_ltI, nI_leI, nI_eq, nI_clamp, nI_subN, nI_divN, nI_mod2, nI_m1e, nI_em1, nI_m2e, nI_lt0, m1_lt0, m1_lt, m1_le, h_u_at, h_u_off2, h_u_pl, li_0, li_1, li_2, li_3, li_4, li_5, li_6, li_7, li_8, li_9, li_10, li_11, li_12, li_13, li_14, li_15, li_16, li_17, li_18, li_19, li_20, li_21, li_22, li_23, li_24, li_25, li_26, li_27, li_28, li_29, li_30, li_31, li_32, li_40, li_43, li_45, li_47, li_48, li_57, li_59, li_60, li_61, li_62, li_63, li_64, li_80, li_92, li_97, li_99, li_100, li_122, li_123, li_125, li_166, li_201, li_210, li_250, li_255, li_256, li_257, li_258, li_259, li_260, li_261, li_262, li_263, li_264, li_265, li_266, li_267, li_268, li_300, li_500, li_1000, li_12345, li_27720, li_1000000, li_1103515245, ne_m1, ne_m2, Nat.reduceAdd, r0, w0, p0, lI_mul, lI_sub, lI_add]
  have b1 : ∀ K (a b : Int), mCo_cutLine_B49 k15 K (nI p) (lI a) (lI b) (nI 1) I J = K (nI p) (lI (a + R p 1 * wy1 (R i) (R j))) (lI (b - R p 1 * pt1 (R i) (R j))) (nI 2) I J := fun K a b => by
    unfold mCo_cutLine_B49
    simp (disch := omega) only [↓reduceIte, h_let, hg_in, hg_zb, hg_z0, hg_z1, hg_nz, Option.bind_some, if_pos, if_neg, bI_0, bI_n0, nI_add, nI_mul, nI_ltI, nI_leI, nI_eq, nI_clamp, nI_subN, nI_divN, nI_mod2, nI_m1e, nI_em1, nI_m2e, nI_lt0, m1_lt0, m1_lt, m1_le, h_u_at, h_u_off2, h_u_pl, li_0, li_1, li_2, li_3, li_4, li_5, li_6, li_7, li_8, li_9, li_10, li_11, li_12, li_13, li_14, li_15, li_16, li_17, li_18, li_19, li_20, li_21, li_22, li_23, li_24, li_25, li_26, li_27, li_28, li_29, li_30, li_31, li_32, li_40, li_43, li_45, li_47, li_48, li_57, li_59, li_60, li_61, li_62, li_63, li_64, li_80, li_92, li_97, li_99, li_100, li_122, li_123, li_125, li_166, li_201, li_210, li_250, li_255, li_256, li_257, li_258, li_259, li_260, li_261, li_262, li_263, li_264, li_265, li_266, li_267, li_268, li_300, li_500, li_1000, li_12345, li_27720, li_1000000, li_1103515245, ne_m1, ne_m2, Nat.reduceAdd, r1, w1, p1, lI_mul, lI_sub, lI_add]
  have b2 : ∀ K (a b : Int), mCo_cutLine_B49 k15 K (nI p) (lI a) (lI b) (nI 2) I J = K (nI p) (lI (a + R p 2 * wy2 (R i) (R j))) (lI (b - R p 2 * pt2 (R i) (R j))) (nI 3) I J := fun K a b => by
    unfold mCo_cutLine_B49
    simp (disch := omega) only [↓reduceIte, h_let, hg_in, hg_zb, hg_z0, hg_z1, hg_nz, Option.bind_some, if_pos, if_neg, bI_0, bI_n0, nI_add, nI_mul, nI_ltI, nI_leI, nI_eq, nI_clamp, nI_subN, nI_divN, nI_mod2, nI_m1e, nI_em1, nI_m2e, nI_lt0, m1_lt0, m1_lt, m1_le, h_u_at, h_u_off2, h_u_pl, li_0, li_1, li_2, li_3, li_4, li_5, li_6, li_7, li_8, li_9, li_10, li_11, li_12, li_13, li_14, li_15, li_16, li_17, li_18, li_19, li_20, li_21, li_22, li_23, li_24, li_25, li_26, li_27, li_28, li_29, li_30, li_31, li_32, li_40, li_43, li_45, li_47, li_48, li_57, li_59, li_60, li_61, li_62, li_63, li_64, li_80, li_92, li_97, li_99, li_100, li_122, li_123, li_125, li_166, li_201, li_210, li_250, li_255, li_256, li_257, li_258, li_259, li_260, li_261, li_262, li_263, li_264, li_265, li_266, li_267, li_268, li_300, li_500, li_1000, li_12345, li_27720, li_1000000, li_1103515245, ne_m1, ne_m2, Nat.reduceAdd, r2, w2, p2, lI_mul, lI_sub, lI_add]
  have e1 : (0 : Int) + R p 0 * wy0 (R i) (R j) + R p 1 * wy1 (R i) (R j) + R p 2 * wy2 (R i) (R j) = slp (R i) (R j) (R p) := by unfold slp; omega
  have e2 : R p 3 * wyS (R i) (R j) - R p 0 * pt0 (R i) (R j) - R p 1 * pt1 (R i) (R j) - R p 2 * pt2 (R i) (R j) = mis (R i) (R j) (R p) := rfl
  rw [hf, s49, b0, s49, b1, s49, b2, e1, e2, s49]
  unfold mCo_cutLine_B49
  rw [if_pos (by decide)]
theorem noPt_ends {i j F p : Nat} {u l u' l' : Int} (h1 : 0 < l ∧ ∃ r, F ≤ r ∧ r < p ∧ 0 < slp (R i) (R j) (R r) ∧ u = mis (R i) (R j) (R r) ∧ l = slp (R i) (R j) (R r)) (h2 : 0 < l' ∧ ∃ r, F ≤ r ∧ r < p ∧ slp (R i) (R j) (R r) < 0 ∧ u' = - mis (R i) (R j) (R r) ∧ l' = - slp (R i) (R j) (R r)) (h : u' * l < u * l') : noPt R i j F p := by
  obtain ⟨hl, r1, a1, a2, a3, a4, a5⟩ := h1
  obtain ⟨hl', r2, b1, b2, b3, b4, b5⟩ := h2
  intro a b hb
  by_cases c : a * l < u * b
  · exact ⟨r1, a1, a2, by rw [← a5, ← a4]; exact c⟩
  · refine ⟨r2, b1, b2, ?_⟩
    have e1 : slp (R i) (R j) (R r2) = - l' := by omega
    have e2 : mis (R i) (R j) (R r2) = - u' := by omega
    rw [e1, e2]
    have c1 : u * b ≤ a * l := by omega
    by_cases d : u' * b < a * l'
    · have q1 : a * -l' = - (a * l') := by grind
      have q2 : -u' * b = - (u' * b) := by grind
      omega
    · exfalso
      have d1 : a * l' ≤ u' * b := by omega
      have m1 : u * b * l' ≤ a * l * l' := Int.mul_le_mul_of_nonneg_right c1 (by omega)
      have m2 : a * l' * l ≤ u' * b * l := Int.mul_le_mul_of_nonneg_right d1 (by omega)
      have m3 : u' * l * b < u * l' * b := Int.mul_lt_mul_of_pos_right h hb
      have q1 : u * b * l' = u * l' * b := by grind
      have q2 : a * l * l' = a * l' * l := by grind
      have q3 : u' * b * l = u' * l * b := by grind
      omega
theorem noPt_mono {i j F p q : Nat} (h : noPt R i j F p) (hq : p ≤ q) : noPt R i j F q := fun u l hl => by
  obtain ⟨r, a, b, c⟩ := h u l hl
  exact ⟨r, a, by omega, c⟩
/-- the step's end: are the ends still in order? -/
theorem ct_149 {i j F p : Nat} {lo hi : Option (Int × Int)} {I : hI} {J : hJ} (hlo : endQ 46 9 lo I J) (hhi : endQ 47 10 hi I J) (hc1 : (∀ r, F ≤ r → r < p → slp (R i) (R j) (R r) = 0 → mis (R i) (R j) (R r) ≤ 0) ∧ (∀ r, F ≤ r → r < p → 0 < slp (R i) (R j) (R r) → ∃ u l, lo = some (u, l) ∧ mis (R i) (R j) (R r) * l ≤ u * slp (R i) (R j) (R r)) ∧ (∀ r, F ≤ r → r < p → slp (R i) (R j) (R r) < 0 → ∃ u l, hi = some (u, l) ∧ u * (- slp (R i) (R j) (R r)) ≤ (- mis (R i) (R j) (R r)) * l) ∧ (∀ u l, lo = some (u, l) → 0 < l ∧ ∃ r, F ≤ r ∧ r < p ∧ 0 < slp (R i) (R j) (R r) ∧ u = mis (R i) (R j) (R r) ∧ l = slp (R i) (R j) (R r)) ∧ (∀ u l, hi = some (u, l) → 0 < l ∧ ∃ r, F ≤ r ∧ r < p ∧ slp (R i) (R j) (R r) < 0 ∧ u = - mis (R i) (R j) (R r) ∧ l = - slp (R i) (R j) (R r))) (v : Nat) (k15 : Int32 → hI → hJ → Option (Int32 × hI × hJ)) : (mCo_cutLine_149 k15 (nI v) I J = k15 (nI (v + 1)) I J ∧ cutI R i j F p lo hi) ∨ (mCo_cutLine_149 k15 (nI v) I J = some (nI 0, I, J) ∧ noPt R i j F p) := by
  obtain ⟨h1, h2, h3, h4, h5⟩ := hc1
  unfold mCo_cutLine_149
  rcases hlo with ⟨q1, q2⟩ | ⟨u, l, q1, q2, q3, q4, q5, q6⟩
  · left
    refine ⟨?_, h1, h2, h3, h4, h5, fun u l u' l' e => by rw [q1] at e; exact absurd e (by simp)⟩
    rw [q2]
    simp (disch := omega) only [↓reduceIte, h_let, hg_in, hg_zb, hg_z0, hg_z1, hg_nz, Option.bind_some, if_pos, if_neg, bI_0, bI_n0, nI_add, nI_mul, nI_ltI, nI_leI, nI_eq, nI_clamp, nI_subN, nI_divN, nI_mod2, nI_m1e, nI_em1, nI_m2e, nI_lt0, m1_lt0, m1_lt, m1_le, h_u_at, h_u_off2, h_u_pl, li_0, li_1, li_2, li_3, li_4, li_5, li_6, li_7, li_8, li_9, li_10, li_11, li_12, li_13, li_14, li_15, li_16, li_17, li_18, li_19, li_20, li_21, li_22, li_23, li_24, li_25, li_26, li_27, li_28, li_29, li_30, li_31, li_32, li_40, li_43, li_45, li_47, li_48, li_57, li_59, li_60, li_61, li_62, li_63, li_64, li_80, li_92, li_97, li_99, li_100, li_122, li_123, li_125, li_166, li_201, li_210, li_250, li_255, li_256, li_257, li_258, li_259, li_260, li_261, li_262, li_263, li_264, li_265, li_266, li_267, li_268, li_300, li_500, li_1000, li_12345, li_27720, li_1000000, li_1103515245, ne_m1, ne_m2]
  · rcases hhi with ⟨z1, z2⟩ | ⟨u', l', z1, z2, z3, z4, z5, z6⟩
    · left
      refine ⟨?_, h1, h2, h3, h4, h5, fun u l u' l' _ e => by rw [z1] at e; exact absurd e (by simp)⟩
      rw [q2, z2]
      simp (disch := omega) only [↓reduceIte, h_let, hg_in, hg_zb, hg_z0, hg_z1, hg_nz, Option.bind_some, if_pos, if_neg, bI_0, bI_n0, nI_add, nI_mul, nI_ltI, nI_leI, nI_eq, nI_clamp, nI_subN, nI_divN, nI_mod2, nI_m1e, nI_em1, nI_m2e, nI_lt0, m1_lt0, m1_lt, m1_le, h_u_at, h_u_off2, h_u_pl, li_0, li_1, li_2, li_3, li_4, li_5, li_6, li_7, li_8, li_9, li_10, li_11, li_12, li_13, li_14, li_15, li_16, li_17, li_18, li_19, li_20, li_21, li_22, li_23, li_24, li_25, li_26, li_27, li_28, li_29, li_30, li_31, li_32, li_40, li_43, li_45, li_47, li_48, li_57, li_59, li_60, li_61, li_62, li_63, li_64, li_80, li_92, li_97, li_99, li_100, li_122, li_123, li_125, li_166, li_201, li_210, li_250, li_255, li_256, li_257, li_258, li_259, li_260, li_261, li_262, li_263, li_264, li_265, li_266, li_267, li_268, li_300, li_500, li_1000, li_12345, li_27720, li_1000000, li_1103515245, ne_m1, ne_m2]
    · have b1 := ebd q5 z6
      have b2 := ebd z5 q6
      have e := lI_le (a := u * l') (b := u' * l) (by omega) (by omega) (by omega) (by omega)
      by_cases c : u * l' ≤ u' * l
      · left
        refine ⟨?_, h1, h2, h3, h4, h5, fun a b a' b' e1 e2 => by rw [q1] at e1; rw [z1] at e2; cases e1; cases e2; exact c⟩
        rw [q2, z2]
        simp (disch := omega) only [↓reduceIte, h_let, hg_in, hg_zb, hg_z0, hg_z1, hg_nz, Option.bind_some, if_pos, if_neg, bI_0, bI_n0, nI_add, nI_mul, nI_ltI, nI_leI, nI_eq, nI_clamp, nI_subN, nI_divN, nI_mod2, nI_m1e, nI_em1, nI_m2e, nI_lt0, m1_lt0, m1_lt, m1_le, h_u_at, h_u_off2, h_u_pl, li_0, li_1, li_2, li_3, li_4, li_5, li_6, li_7, li_8, li_9, li_10, li_11, li_12, li_13, li_14, li_15, li_16, li_17, li_18, li_19, li_20, li_21, li_22, li_23, li_24, li_25, li_26, li_27, li_28, li_29, li_30, li_31, li_32, li_40, li_43, li_45, li_47, li_48, li_57, li_59, li_60, li_61, li_62, li_63, li_64, li_80, li_92, li_97, li_99, li_100, li_122, li_123, li_125, li_166, li_201, li_210, li_250, li_255, li_256, li_257, li_258, li_259, li_260, li_261, li_262, li_263, li_264, li_265, li_266, li_267, li_268, li_300, li_500, li_1000, li_12345, li_27720, li_1000000, li_1103515245, ne_m1, ne_m2, q3, q4, z3, z4, lI_mul, e]
      · right
        refine ⟨?_, noPt_ends (h4 u l q1) (h5 u' l' z1) (by omega)⟩
        rw [q2, z2]
        simp (disch := omega) only [↓reduceIte, h_let, hg_in, hg_zb, hg_z0, hg_z1, hg_nz, Option.bind_some, if_pos, if_neg, bI_0, bI_n0, nI_add, nI_mul, nI_ltI, nI_leI, nI_eq, nI_clamp, nI_subN, nI_divN, nI_mod2, nI_m1e, nI_em1, nI_m2e, nI_lt0, m1_lt0, m1_lt, m1_le, h_u_at, h_u_off2, h_u_pl, li_0, li_1, li_2, li_3, li_4, li_5, li_6, li_7, li_8, li_9, li_10, li_11, li_12, li_13, li_14, li_15, li_16, li_17, li_18, li_19, li_20, li_21, li_22, li_23, li_24, li_25, li_26, li_27, li_28, li_29, li_30, li_31, li_32, li_40, li_43, li_45, li_47, li_48, li_57, li_59, li_60, li_61, li_62, li_63, li_64, li_80, li_92, li_97, li_99, li_100, li_122, li_123, li_125, li_166, li_201, li_210, li_250, li_255, li_256, li_257, li_258, li_259, li_260, li_261, li_262, li_263, li_264, li_265, li_266, li_267, li_268, li_300, li_500, li_1000, li_12345, li_27720, li_1000000, li_1103515245, ne_m1, ne_m2, q3, q4, z3, z4, lI_mul, e]
end Cu
