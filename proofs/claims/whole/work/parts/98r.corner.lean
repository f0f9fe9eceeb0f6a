/-! best: the reference lays a corner. -/
def tri (i j r : Nat → Int) : Nat → Nat → Int := fun p => if p = 0 then i else if p = 1 then j else r
theorem tri_bd {i j r : Nat → Int} (hi : rB i) (hj : rB j) (hr : rB r) : bdR (tri i j r) 3 := fun p hp => by
  rcases (show p = 0 ∨ p = 1 ∨ p = 2 by omega) with rfl | rfl | rfl
  · exact hi
  · exact hj
  · exact hr
theorem isC_swp1 {i j r P : Nat → Int} (h : isC i j r P) : isC j i r P := by
  obtain ⟨a, b, c, d⟩ := h
  obtain ⟨e, f, g, k⟩ := swp_ij i j r
  unfold isC
  rw [e, f, g, k]
  refine ⟨by omega, ?_, ?_, ?_⟩
  · rw [Int.mul_neg, Int.neg_mul, b]
  · rw [Int.mul_neg, Int.neg_mul, c]
  · rw [Int.mul_neg, Int.neg_mul, d]
theorem isC_swp2 {i j r P : Nat → Int} (h : isC i j r P) : isC i r j P := by
  obtain ⟨a, b, c, d⟩ := h
  obtain ⟨e, f, g, k⟩ := swp_jr i j r
  unfold isC
  rw [e, f, g, k]
  refine ⟨by omega, ?_, ?_, ?_⟩
  · rw [Int.mul_neg, Int.neg_mul, b]
  · rw [Int.mul_neg, Int.neg_mul, c]
  · rw [Int.mul_neg, Int.neg_mul, d]
theorem m_196 {i j r : Nat → Int} (hi : rB i) (hj : rB j) (hr : rB r) (I : hI) (J : hJ) : (slp i j r = 0 ∧ ∃ J' : hJ, mM_laysCorner_196 (lI (i 0)) (lI (i 1)) (lI (i 2)) (lI (i 3)) (lI (j 0)) (lI (j 1)) (lI (j 2)) (lI (j 3)) (lI (r 0)) (lI (r 1)) (lI (r 2)) (lI (r 3)) I J = some (nI 0, J') ∧ ∀ a x, (a ≠ 0 ∨ x < 89 ∨ 92 < x) → J' a x = J a x) ∨ (∃ (z : Int) (J' : hJ), (z = 1 ∨ z = -1) ∧ 0 < z * slp i j r ∧ mM_laysCorner_196 (lI (i 0)) (lI (i 1)) (lI (i 2)) (lI (i 3)) (lI (j 0)) (lI (j 1)) (lI (j 2)) (lI (j 3)) (lI (r 0)) (lI (r 1)) (lI (r 2)) (lI (r 3)) I J = some (nI 1, J') ∧ pmQ 89 (cnV z i j r) J' ∧ ∀ a x, (a ≠ 0 ∨ x < 89 ∨ 92 < x) → J' a x = J a x) := by
  have bd := slp_bd (tri_bd hi hj hr) (i := 0) (j := 1) (p := 2) (by decide) (by decide) (by decide)
  have bd : - 279936 ≤ slp i j r ∧ slp i j r ≤ 279936 := bd
  have l0 : (0 : Int64) = lI 0 := rfl
  have ez := lI_eq (a := slp i j r) (b := 0) (by omega) (by omega) (by omega) (by omega)
  have el := lI_le (a := 0) (b := slp i j r) (by omega) (by omega) (by omega) (by omega)
  have key : ∀ (K : hJ) (y : Nat) (v : Int64), 89 ≤ y → y ≤ 92 → ∀ a x, (a ≠ 0 ∨ x < 89 ∨ 92 < x) → h_u K 0 y v a x = K a x := fun K y v h1 h2 a x hh => by
    by_cases e : a = 0
    · subst e; exact h_u_pl _ _ _ (by omega)
    · exact h_u_off2 _ _ _ _ e
  unfold mM_laysCorner_196
  simp only [h_let, m_three, th_d, th_0, th_1, th_2]
  rw [h_u_at, l0]
  by_cases c : slp i j r = 0
  · left
    refine ⟨c, h_u J 0 92 (lI (slp i j r)), ?_, key J 92 _ (by decide) (by decide)⟩
    rw [if_pos (ez.mpr c)]
    rfl
  · right
    rw [if_neg (fun h => c (ez.mp h))]
    have e92 : h_u (h_u (h_u (h_u J 0 92 (lI (slp i j r))) 0 89 (lI (cn0 i j r))) 0 90 (lI (cn1 i j r))) 0 91 (lI (cn2 i j r)) 0 92 = lI (slp i j r) := by
      simp (disch := omega) only [h_u_at, h_u_pl]
    rw [e92]
    by_cases p : 0 ≤ slp i j r
    · rw [if_pos (el.mpr p)]
      refine ⟨1, _, Or.inl rfl, by omega, rfl, ⟨?_, ?_, ?_, ?_⟩, fun a x hh => ?_⟩
      · have : cnV 1 i j r 0 = cn0 i j r := Int.one_mul _
        rw [this]; simp (disch := omega) only [h_u_at, h_u_pl]
      · have : cnV 1 i j r 1 = cn1 i j r := Int.one_mul _
        rw [this]; simp (disch := omega) only [h_u_at, h_u_pl]
      · have : cnV 1 i j r 2 = cn2 i j r := Int.one_mul _
        rw [this]; simp (disch := omega) only [h_u_at, h_u_pl]
      · have : cnV 1 i j r 3 = slp i j r := Int.one_mul _
        rw [this]; simp (disch := omega) only [h_u_at, h_u_pl]
      · rw [key _ 91 _ (by decide) (by decide) a x hh, key _ 90 _ (by decide) (by decide) a x hh, key _ 89 _ (by decide) (by decide) a x hh, key _ 92 _ (by decide) (by decide) a x hh]
    · rw [if_neg (fun h => p (el.mp h))]
      have n : ∀ a : Int, -1 * a = - a := fun a => by omega
      refine ⟨-1, _, Or.inr rfl, by omega, rfl, ⟨?_, ?_, ?_, ?_⟩, fun a x hh => ?_⟩
      · have : cnV (-1) i j r 0 = - cn0 i j r := n _
        rw [this, ← lI_neg]; simp (disch := omega) only [h_u_at, h_u_pl]
      · have : cnV (-1) i j r 1 = - cn1 i j r := n _
        rw [this, ← lI_neg]; simp (disch := omega) only [h_u_at, h_u_pl]
      · have : cnV (-1) i j r 2 = - cn2 i j r := n _
        rw [this, ← lI_neg]; simp (disch := omega) only [h_u_at, h_u_pl]
      · have : cnV (-1) i j r 3 = - slp i j r := n _
        rw [this, ← lI_neg]; simp (disch := omega) only [h_u_at, h_u_pl]
      · rw [key _ 91 _ (by decide) (by decide) a x hh, key _ 90 _ (by decide) (by decide) a x hh, key _ 89 _ (by decide) (by decide) a x hh, key _ 92 _ (by decide) (by decide) a x hh, key _ 91 _ (by decide) (by decide) a x hh, key _ 90 _ (by decide) (by decide) a x hh, key _ 89 _ (by decide) (by decide) a x hh, key _ 92 _ (by decide) (by decide) a x hh]
section Lc
variable {D : rD}
/-- the rows that a corner is laid of -/
def coR2 (D : rD) (L : List (Nat → Int)) (j : Nat) : Nat → Int := if D 0 1 = 1 then fX else L.getD j rZ
def coR3 (D : rD) (L : List (Nat → Int)) (k : Nat) : Nat → Int := if D 0 2 = 1 then fY else L.getD k rZ
theorem mp_corner196 (hD : rOk D) {I : hI} {J : hJ} (hm : mR D I) {L : List (Nat → Int)} (hL : L.length ≤ 90) (h : mlQ L I J) {i j k : Nat} (hi : i < L.length) (hj : D 0 1 ≠ 1 → j < L.length) (hk : D 0 2 ≠ 1 → k < L.length) : mM_laysCorner (nI i) (nI j) (nI k) I J = mM_laysCorner_196 (lI (L.getD i rZ 0)) (lI (L.getD i rZ 1)) (lI (L.getD i rZ 2)) (lI (L.getD i rZ 3)) (lI (coR2 D L j 0)) (lI (coR2 D L j 1)) (lI (coR2 D L j 2)) (lI (coR2 D L j 3)) (lI (coR3 D L k 0)) (lI (coR3 D L k 1)) (lI (coR3 D L k 2)) (lI (coR3 D L k 3)) I J := by
  have hw := wd_pos hD
  have ht : 1 ≤ D 0 2 ∧ D 0 2 ≤ 10 := by
    have h2 := hD.2.2.1
    have h1 := hD.1
    have hn := hD.2.1
    have h4 : D 0 2 ≠ 0 := fun e => by rw [e] at h2; omega
    have : 1 * D 0 2 ≤ D 0 1 * D 0 2 := Nat.mul_le_mul_right _ hw.1
    omega
  have i0 : J 45 i = lI (L.getD i rZ 0) := h.2 i hi 0 (by decide)
  have i1 : J 46 i = lI (L.getD i rZ 1) := h.2 i hi 1 (by decide)
  have i2 : J 47 i = lI (L.getD i rZ 2) := h.2 i hi 2 (by decide)
  have i3 : J 48 i = lI (L.getD i rZ 3) := h.2 i hi 3 (by decide)
  have f0 : (0 : Int64) = lI (fX 1) ∧ (0 : Int64) = lI (fX 2) ∧ (0 : Int64) = lI (fX 3) ∧ (1 : Int64) = lI (fX 0) := ⟨rfl, rfl, rfl, rfl⟩
  have g0 : (0 : Int64) = lI (fY 0) ∧ (0 : Int64) = lI (fY 2) ∧ (0 : Int64) = lI (fY 3) ∧ (1 : Int64) = lI (fY 1) := ⟨rfl, rfl, rfl, rfl⟩
  unfold mM_laysCorner mM_laysCorner_13
  rw [hm.2.1, hm.2.2.1]
  unfold mM_laysCorner_28 mM_laysCorner_77 mM_laysCorner_94 mM_laysCorner_111 mM_laysCorner_128 mM_laysCorner_145 mM_laysCorner_162 mM_laysCorner_179 coR2 coR3
  by_cases a : D 0 1 = 1
  · by_cases b : D 0 2 = 1
    · simp (disch := omega) only [a, b, ↓reduceIte, h_let, hg_in, hg_zb, hg_z0, hg_z1, hg_nz, Option.bind_some, if_pos, if_neg, bI_0, bI_n0, nI_add, nI_mul, nI_ltI, nI_leI, nI_eq, nI_clamp, nI_subN, nI_divN, nI_mod2, nI_m1e, nI_em1, nI_m2e, nI_lt0, m1_lt0, m1_lt, m1_le, h_u_at, h_u_off2, h_u_pl, li_0, li_1, li_2, li_3, li_4, li_5, li_6, li_7, li_8, li_9, li_10, li_11, li_12, li_13, li_14, li_15, li_16, li_17, li_18, li_19, li_20, li_21, li_22, li_23, li_24, li_25, li_26, li_27, li_28, li_29, li_30, li_31, li_32, li_40, li_43, li_45, li_47, li_48, li_57, li_59, li_60, li_61, li_62, li_63, li_64, li_80, li_92, li_97, li_99, li_100, li_122, li_123, li_125, li_166, li_201, li_210, li_250, li_255, li_256, li_257, li_258, li_259, li_260, li_261, li_262, li_263, li_264, li_265, li_266, li_267, li_268, li_300, li_500, li_1000, li_12345, li_27720, li_1000000, li_1103515245, ne_m1, ne_m2, i0, i1, i2, i3]
      rfl
    · have hk := hk b
      have k0 : J 45 k = lI (L.getD k rZ 0) := h.2 k hk 0 (by decide)
      have k1 : J 46 k = lI (L.getD k rZ 1) := h.2 k hk 1 (by decide)
      have k2 : J 47 k = lI (L.getD k rZ 2) := h.2 k hk 2 (by decide)
      have k3 : J 48 k = lI (L.getD k rZ 3) := h.2 k hk 3 (by decide)
      simp (disch := omega) only [a, if_neg b, ↓reduceIte, h_let, hg_in, hg_zb, hg_z0, hg_z1, hg_nz, Option.bind_some, if_pos, if_neg, bI_0, bI_n0, nI_add, nI_mul, nI_ltI, nI_leI, nI_eq, nI_clamp, nI_subN, nI_divN, nI_mod2, nI_m1e, nI_em1, nI_m2e, nI_lt0, m1_lt0, m1_lt, m1_le, h_u_at, h_u_off2, h_u_pl, li_0, li_1, li_2, li_3, li_4, li_5, li_6, li_7, li_8, li_9, li_10, li_11, li_12, li_13, li_14, li_15, li_16, li_17, li_18, li_19, li_20, li_21, li_22, li_23, li_24, li_25, li_26, li_27, li_28, li_29, li_30, li_31, li_32, li_40, li_43, li_45, li_47, li_48, li_57, li_59, li_60, li_61, li_62, li_63, li_64, li_80, li_92, li_97, li_99, li_100, li_122, li_123, li_125, li_166, li_201, li_210, li_250, li_255, li_256, li_257, li_258, li_259, li_260, li_261, li_262, li_263, li_264, li_265, li_266, li_267, li_268, li_300, li_500, li_1000, li_12345, li_27720, li_1000000, li_1103515245, ne_m1, ne_m2, i0, i1, i2, i3, k0, k1, k2, k3]
      rfl
  · have hj := hj a
    have j0 : J 45 j = lI (L.getD j rZ 0) := h.2 j hj 0 (by decide)
    have j1 : J 46 j = lI (L.getD j rZ 1) := h.2 j hj 1 (by decide)
    have j2 : J 47 j = lI (L.getD j rZ 2) := h.2 j hj 2 (by decide)
    have j3 : J 48 j = lI (L.getD j rZ 3) := h.2 j hj 3 (by decide)
    by_cases b : D 0 2 = 1
    · simp (disch := omega) only [b, if_neg a, ↓reduceIte, h_let, hg_in, hg_zb, hg_z0, hg_z1, hg_nz, Option.bind_some, if_pos, if_neg, bI_0, bI_n0, nI_add, nI_mul, nI_ltI, nI_leI, nI_eq, nI_clamp, nI_subN, nI_divN, nI_mod2, nI_m1e, nI_em1, nI_m2e, nI_lt0, m1_lt0, m1_lt, m1_le, h_u_at, h_u_off2, h_u_pl, li_0, li_1, li_2, li_3, li_4, li_5, li_6, li_7, li_8, li_9, li_10, li_11, li_12, li_13, li_14, li_15, li_16, li_17, li_18, li_19, li_20, li_21, li_22, li_23, li_24, li_25, li_26, li_27, li_28, li_29, li_30, li_31, li_32, li_40, li_43, li_45, li_47, li_48, li_57, li_59, li_60, li_61, li_62, li_63, li_64, li_80, li_92, li_97, li_99, li_100, li_122, li_123, li_125, li_166, li_201, li_210, li_250, li_255, li_256, li_257, li_258, li_259, li_260, li_261, li_262, li_263, li_264, li_265, li_266, li_267, li_268, li_300, li_500, li_1000, li_12345, li_27720, li_1000000, li_1103515245, ne_m1, ne_m2, i0, i1, i2, i3, j0, j1, j2, j3]
      rfl
    · have hk := hk b
      have k0 : J 45 k = lI (L.getD k rZ 0) := h.2 k hk 0 (by decide)
      have k1 : J 46 k = lI (L.getD k rZ 1) := h.2 k hk 1 (by decide)
      have k2 : J 47 k = lI (L.getD k rZ 2) := h.2 k hk 2 (by decide)
      have k3 : J 48 k = lI (L.getD k rZ 3) := h.2 k hk 3 (by decide)
      simp (disch := omega) only [if_neg a, if_neg b, ↓reduceIte, h_let, hg_in, hg_zb, hg_z0, hg_z1, hg_nz, Option.bind_some, if_pos, if_neg, bI_0, bI_n0, nI_add, nI_mul, nI_ltI, nI_leI, nI_eq, nI_clamp, nI_subN, nI_divN, nI_mod2, nI_m1e, nI_em1, nI_m2e, nI_lt0, m1_lt0, m1_lt, m1_le, h_u_at, h_u_off2, h_u_pl, li_0, li_1, li_2, li_3, li_4, li_5, li_6, li_7, li_8, li_9, li_10, li_11, li_12, li_13, li_14, li_15, li_16, li_17, li_18, li_19, li_20, li_21, li_22, li_23, li_24, li_25, li_26, li_27, li_28, li_29, li_30, li_31, li_32, li_40, li_43, li_45, li_47, li_48, li_57, li_59, li_60, li_61, li_62, li_63, li_64, li_80, li_92, li_97, li_99, li_100, li_122, li_123, li_125, li_166, li_201, li_210, li_250, li_255, li_256, li_257, li_258, li_259, li_260, li_261, li_262, li_263, li_264, li_265, li_266, li_267, li_268, li_300, li_500, li_1000, li_12345, li_27720, li_1000000, li_1103515245, ne_m1, ne_m2, i0, i1, i2, i3, j0, j1, j2, j3, k0, k1, k2, k3]
end Lc
