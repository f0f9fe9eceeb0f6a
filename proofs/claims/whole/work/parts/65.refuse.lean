/-! Calls that are refused; what a number is within. -/
theorem i32_of {x : Int32} (h : ¬ x < 0) : ∃ j : Nat, j < 2 ^ 31 ∧ x = nI j := by
  have h0 : 0 ≤ x.toInt := by
    rw [Int32.lt_iff_toInt_lt] at h
    have e : (0 : Int32).toInt = 0 := by decide
    omega
  have h1 : x.toInt < 2 ^ 31 := x.toInt_lt
  refine ⟨x.toInt.toNat, by omega, ?_⟩
  apply Int32.toInt_inj.mp
  rw [nI_toInt (by omega)]
  omega
/-- a number is one of 0 .. n - 1, or neither side takes it for one -/
theorem range_split (v : Int32) {n : Nat} (hn : n < 2 ^ 31) : (∃ j, j < n ∧ v = nI j ∧ mC_isOutside v (nI n) = nI 0 ∧ mM_in v.toInt64 (0 : Int64) ((nI n - nI 1).toInt64) = nI 1) ∨ ((∀ j, j < n → v ≠ nI j) ∧ mC_isOutside v (nI n) = nI 1 ∧ mM_in v.toInt64 (0 : Int64) ((nI n - nI 1).toInt64) = nI 0) := by
  have e0 : (0 : Int64).toInt = 0 := by decide
  have e00 : (0 : Int32).toInt = 0 := by decide
  have em : (nI n - nI 1).toInt = (n : Int) - 1 := by
    rw [Int32.toInt_sub, nI_toInt hn, nI_toInt (by decide)]
    rw [Int.bmod_eq_of_le (by omega) (by omega)]
    rfl
  unfold mC_isOutside mM_in
  by_cases h0 : v < 0
  · right
    have hv : v.toInt < 0 := by rw [Int32.lt_iff_toInt_lt] at h0; omega
    refine ⟨fun j hj e => ?_, ?_, ?_⟩
    · rw [e] at h0; exact nI_pos (by omega) h0
    · rw [if_pos h0]; rfl
    · rw [if_pos (by rw [Int64.lt_iff_toInt_lt, Int32.toInt_toInt64]; omega)]; rfl
  · obtain ⟨j, hj, rfl⟩ := i32_of h0
    by_cases h1 : j < n
    · left
      refine ⟨j, h1, rfl, ?_, ?_⟩
      · rw [if_neg h0, if_pos ((nI_ltI hj hn).mpr h1)]; rfl
      · rw [if_neg, if_neg]
        · rfl
        · rw [Int64.lt_iff_toInt_lt, Int32.toInt_toInt64, Int32.toInt_toInt64, em, nI_toInt hj]; omega
        · rw [Int64.lt_iff_toInt_lt, Int32.toInt_toInt64, nI_toInt hj]; omega
    · right
      refine ⟨fun k hk e => ?_, ?_, ?_⟩
      · rw [nI_eq hj (by omega)] at e; omega
      · rw [if_neg h0, if_neg (fun h => h1 ((nI_ltI hj hn).mp h))]; rfl
      · rw [if_neg, if_pos]
        · rfl
        · rw [Int64.lt_iff_toInt_lt, Int32.toInt_toInt64, Int32.toInt_toInt64, em, nI_toInt hj]; omega
        · rw [Int64.lt_iff_toInt_lt, Int32.toInt_toInt64, nI_toInt hj]; omega
theorem range_splitL (v : Int32) {n : Nat} (hn : n < 2 ^ 31) {k : Int64} (hk : (nI n - nI 1).toInt64 = k) : (∃ j, j < n ∧ v = nI j ∧ mC_isOutside v (nI n) = nI 0 ∧ mM_in v.toInt64 (0 : Int64) k = nI 1) ∨ ((∀ j, j < n → v ≠ nI j) ∧ mC_isOutside v (nI n) = nI 1 ∧ mM_in v.toInt64 (0 : Int64) k = nI 0) := by
  subst hk
  exact range_split v hn
theorem c_refuse0 (v : Int32) (I : hI) : mC_refuse (nI 0) v I = some (nI 0, I) := by
  unfold mC_refuse
  rw [if_pos (by decide)]
  exact hg_z0 _
theorem c_refuse1 {k : Nat} (hk : k < 3) (I : hI) : mC_refuse (nI 1) (nI k) I = some (nI 1, h_u I 60 k (I 60 k + nI 1)) := by
  unfold mC_refuse
  simp (disch := omega) only [↓reduceIte, h_let, hg_in, hg_zb, hg_z0, hg_z1, hg_nz, Option.bind_some, if_pos, if_neg, bI_0, bI_n0, nI_add, nI_mul, nI_ltI, nI_leI, nI_eq, nI_clamp, nI_subN, nI_divN, nI_mod2, nI_m1e, nI_em1, nI_m2e, nI_lt0, m1_lt0, m1_lt, m1_le, h_u_at, h_u_off2, h_u_pl, li_0, li_1, li_2, li_3, li_4, li_5, li_6, li_7, li_8, li_9, li_10, li_11, li_12, li_13, li_14, li_15, li_16, li_17, li_18, li_19, li_20, li_21, li_22, li_23, li_24, li_25, li_26, li_27, li_28, li_29, li_30, li_31, li_32, li_40, li_43, li_45, li_47, li_48, li_57, li_59, li_60, li_61, li_62, li_63, li_64, li_80, li_92, li_97, li_99, li_100, li_122, li_123, li_125, li_166, li_201, li_210, li_250, li_255, li_256, li_257, li_258, li_259, li_260, li_261, li_262, li_263, li_264, li_265, li_266, li_267, li_268, li_300, li_500, li_1000, li_12345, li_27720, li_1000000, li_1103515245, ne_m1, ne_m2]
theorem m_refuses {k : Nat} (hk : k < 3) (I : hI) : mM_refuses (nI k) I = some (m1, h_u I 42 k (I 42 k + nI 1)) := by
  unfold mM_refuses
  simp (disch := omega) only [↓reduceIte, h_let, hg_in, hg_zb, hg_z0, hg_z1, hg_nz, Option.bind_some, if_pos, if_neg, bI_0, bI_n0, nI_add, nI_mul, nI_ltI, nI_leI, nI_eq, nI_clamp, nI_subN, nI_divN, nI_mod2, nI_m1e, nI_em1, nI_m2e, nI_lt0, m1_lt0, m1_lt, m1_le, h_u_at, h_u_off2, h_u_pl, li_0, li_1, li_2, li_3, li_4, li_5, li_6, li_7, li_8, li_9, li_10, li_11, li_12, li_13, li_14, li_15, li_16, li_17, li_18, li_19, li_20, li_21, li_22, li_23, li_24, li_25, li_26, li_27, li_28, li_29, li_30, li_31, li_32, li_40, li_43, li_45, li_47, li_48, li_57, li_59, li_60, li_61, li_62, li_63, li_64, li_80, li_92, li_97, li_99, li_100, li_122, li_123, li_125, li_166, li_201, li_210, li_250, li_255, li_256, li_257, li_258, li_259, li_260, li_261, li_262, li_263, li_264, li_265, li_266, li_267, li_268, li_300, li_500, li_1000, li_12345, li_27720, li_1000000, li_1103515245, ne_m1, ne_m2]
theorem m_ref0 {v1 v2 : Int32} {I : hI} (h : I 0 37 = nI 0) : mM_isRefused v1 v2 I = some (nI 1, h_u I 42 0 (I 42 0 + nI 1)) := by
  unfold mM_isRefused mM_isRefused_35 mM_isRefused_47
  rw [h, if_pos (by decide), if_neg (by decide)]
  have := m_refuses (k := 0) (by decide) I
  rw [li_0, this, Option.bind_some, if_neg (by decide)]
  rfl
theorem m_ref1 {v2 : Int32} {I : hI} (h : I 0 37 = nI 1) : mM_isRefused (nI 0) v2 I = some (nI 1, h_u I 42 1 (I 42 1 + nI 1)) := by
  unfold mM_isRefused mM_isRefused_35 mM_isRefused_47
  rw [h, if_neg (by decide), if_pos (by decide), if_neg (by decide)]
  have := m_refuses (k := 1) (by decide) I
  rw [li_1, this, Option.bind_some, if_neg (by decide)]
theorem m_ref2 {I : hI} (h : I 0 37 = nI 1) : mM_isRefused (nI 1) (nI 0) I = some (nI 0, I) := by
  unfold mM_isRefused mM_isRefused_34 mM_isRefused_35 mM_isRefused_47
  rw [h, if_neg (by decide), if_neg (by decide), if_pos (by decide), if_pos (by decide), if_pos (by decide)]
  rfl
theorem m_ref3 {I : hI} (h : I 0 37 = nI 1) {b : Bool} (hm : mM_areTooMany I = some (bI b)) : mM_isRefused (nI 1) (nI 1) I = some (bI b, if b = true then h_u I 42 2 (I 42 2 + nI 1) else I) := by
  unfold mM_isRefused mM_isRefused_34 mM_isRefused_35 mM_isRefused_47
  rw [h, if_neg (by decide), if_neg (by decide), if_neg (by decide), hm, Option.bind_some]
  cases b
  · rw [if_pos (by decide), if_pos (by decide), if_pos (by decide)]; rfl
  · rw [if_neg (by decide), if_neg (by decide)]
    have := m_refuses (k := 2) (by decide) I
    rw [li_2, this, Option.bind_some, if_neg (by decide)]
    rfl
theorem m_isState {D : rD} {I : hI} (hD : rOk D) (h : I 0 41 = nI (D 0 0)) (v : Int32) : (∃ s, s < D 0 0 ∧ v = nI s ∧ mC_isOutside v (nI (D 0 0)) = nI 0 ∧ mM_isState v I = some (nI 1)) ∨ ((∀ s, s < D 0 0 → v ≠ nI s) ∧ mC_isOutside v (nI (D 0 0)) = nI 1 ∧ mM_isState v I = some (nI 0)) := by
  have hn := hD.2.1
  unfold mM_isState
  rw [h]
  rcases range_split v (n := D 0 0) (by omega) with ⟨j, h1, h2, h3, h4⟩ | ⟨h1, h2, h3⟩
  · left
    refine ⟨j, h1, h2, h3, ?_⟩
    rw [li_1, h4]
    exact hg_z1 _
  · right
    refine ⟨h1, h2, ?_⟩
    rw [li_1, h3]
    exact hg_z0 _
/-- a choice of a state, or neither side takes it for one -/
theorem isChoice_split {D : rD} {Ic Im : hI} (hD : rOk D) (hc : cR D Ic) (hm : mR D Im) (v1 v2 : Int32) : (∃ s c, s < D 0 0 ∧ c < D 1 s ∧ v1 = nI s ∧ v2 = nI c ∧ mRo_isChoice v1 v2 Ic = some (nI 1) ∧ mM_isChoice v1 v2 Im = some (nI 1)) ∨ (mRo_isChoice v1 v2 Ic = some (nI 0) ∧ mM_isChoice v1 v2 Im = some (nI 0)) := by
  have hn := hD.2.1
  unfold mM_isChoice
  rcases m_isState hD hm.1 v1 with ⟨s, h1, rfl, h3, h4⟩ | ⟨h1, h2, h3⟩
  · have h8 := hD.2.2.2.1 s h1
    rw [h4, Option.bind_some, if_neg (by decide)]
    rw [nI_clamp (by omega), hm.2.2.2.1 s h1]
    rw [hg_in _ (by omega) (by omega), li_1]
    rcases range_split v2 (n := D 1 s) (by omega) with ⟨c, g1, rfl, g3, g4⟩ | ⟨g1, g2, g3⟩
    · left
      refine ⟨s, c, h1, g1, rfl, rfl, ?_, ?_⟩
      · rw [ro_isChoice hD hc (by omega) (by omega)]
        simp [h1, g1, bI]
      · rw [g4, if_neg (by decide)]
    · right
      constructor
      · unfold mRo_isChoice
        rw [hc.1]
        unfold mC_isOutside at g2
        by_cases hv : v2 < 0
        · simp (disch := omega) only [↓reduceIte, h_let, hg_in, hg_zb, hg_z0, hg_z1, hg_nz, Option.bind_some, if_pos, if_neg, bI_0, bI_n0, nI_add, nI_mul, nI_ltI, nI_leI, nI_eq, nI_clamp, nI_subN, nI_divN, nI_mod2, nI_m1e, nI_em1, nI_m2e, nI_lt0, m1_lt0, m1_lt, m1_le, h_u_at, h_u_off2, h_u_pl, li_0, li_1, li_2, li_3, li_4, li_5, li_6, li_7, li_8, li_9, li_10, li_11, li_12, li_13, li_14, li_15, li_16, li_17, li_18, li_19, li_20, li_21, li_22, li_23, li_24, li_25, li_26, li_27, li_28, li_29, li_30, li_31, li_32, li_40, li_43, li_45, li_47, li_48, li_57, li_59, li_60, li_61, li_62, li_63, li_64, li_80, li_92, li_97, li_99, li_100, li_122, li_123, li_125, li_166, li_201, li_210, li_250, li_255, li_256, li_257, li_258, li_259, li_260, li_261, li_262, li_263, li_264, li_265, li_266, li_267, li_268, li_300, li_500, li_1000, li_12345, li_27720, li_1000000, li_1103515245, ne_m1, ne_m2]
          rw [← li_0, if_pos hv]
        · obtain ⟨c, hcc, rfl⟩ := i32_of hv
          have hnc : ¬ c < D 1 s := fun h => g1 c h rfl
          simp (disch := omega) only [↓reduceIte, h_let, hg_in, hg_zb, hg_z0, hg_z1, hg_nz, Option.bind_some, if_pos, if_neg, bI_0, bI_n0, nI_add, nI_mul, nI_ltI, nI_leI, nI_eq, nI_clamp, nI_subN, nI_divN, nI_mod2, nI_m1e, nI_em1, nI_m2e, nI_lt0, m1_lt0, m1_lt, m1_le, h_u_at, h_u_off2, h_u_pl, li_0, li_1, li_2, li_3, li_4, li_5, li_6, li_7, li_8, li_9, li_10, li_11, li_12, li_13, li_14, li_15, li_16, li_17, li_18, li_19, li_20, li_21, li_22, li_23, li_24, li_25, li_26, li_27, li_28, li_29, li_30, li_31, li_32, li_40, li_43, li_45, li_47, li_48, li_57, li_59, li_60, li_61, li_62, li_63, li_64, li_80, li_92, li_97, li_99, li_100, li_122, li_123, li_125, li_166, li_201, li_210, li_250, li_255, li_256, li_257, li_258, li_259, li_260, li_261, li_262, li_263, li_264, li_265, li_266, li_267, li_268, li_300, li_500, li_1000, li_12345, li_27720, li_1000000, li_1103515245, ne_m1, ne_m2, hc.2.2.2.2.1 s h1]
      · rw [g3, if_pos (by decide)]
        rfl
  · right
    rw [h3, Option.bind_some, if_pos (by decide)]
    refine ⟨?_, rfl⟩
    unfold mRo_isChoice
    rw [hc.1]
    by_cases hv : v1 < 0
    · rw [if_pos hv]; rfl
    · obtain ⟨s, hs, rfl⟩ := i32_of hv
      have hns : ¬ s < D 0 0 := fun h => h1 s h rfl
      simp (disch := omega) only [↓reduceIte, h_let, hg_in, hg_zb, hg_z0, hg_z1, hg_nz, Option.bind_some, if_pos, if_neg, bI_0, bI_n0, nI_add, nI_mul, nI_ltI, nI_leI, nI_eq, nI_clamp, nI_subN, nI_divN, nI_mod2, nI_m1e, nI_em1, nI_m2e, nI_lt0, m1_lt0, m1_lt, m1_le, h_u_at, h_u_off2, h_u_pl, li_0, li_1, li_2, li_3, li_4, li_5, li_6, li_7, li_8, li_9, li_10, li_11, li_12, li_13, li_14, li_15, li_16, li_17, li_18, li_19, li_20, li_21, li_22, li_23, li_24, li_25, li_26, li_27, li_28, li_29, li_30, li_31, li_32, li_40, li_43, li_45, li_47, li_48, li_57, li_59, li_60, li_61, li_62, li_63, li_64, li_80, li_92, li_97, li_99, li_100, li_122, li_123, li_125, li_166, li_201, li_210, li_250, li_255, li_256, li_257, li_258, li_259, li_260, li_261, li_262, li_263, li_264, li_265, li_266, li_267, li_268, li_300, li_500, li_1000, li_12345, li_27720, li_1000000, li_1103515245, ne_m1, ne_m2]
