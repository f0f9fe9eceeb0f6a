/-! most(6): the states that can be reached, both sides. -/
def nxB (D : rD) (s : Nat) : Nat → Nat → Bool
  | 0, _ => false
  | k + 1, t => nxB D s k t || decide (0 < D 5 (10 * (8 * s + k) + t))
def rsS (D : rD) (s : Nat) (f : Nat → Bool) : Nat → Bool := fun t => f t || (f s && nxB D s (D 1 s) t)
def rsF2 (D : rD) (t : Nat) : Nat → (Nat → Bool) → (Nat → Bool)
  | 0, f => f
  | r + 1, f => rsF2 D (t + 1) r (rsS D t f)
def rsN2 (D : rD) : Nat → (Nat → Bool) → (Nat → Bool)
  | 0, f => f
  | k + 1, f => rsN2 D k (rsF2 D 0 (D 0 0) f)
section Re
variable {D : rD}
theorem ro_next_i (hD : rOk D) {I : hI} (h : cR D I) {s c : Nat} (hs : s < D 0 0) (hc : c < D 1 s) (k4 : _) : ∀ (r t fuel : Nat) (x : Int32), t + r = D 0 0 → r < fuel → bm x (D 0 0) (fun u => nxB D s c u || (decide (u < t) && decide (0 < D 5 (10 * (8 * s + c) + u)))) → ∃ y, mRo_nextStates_L22 k4 fuel (nI s) x (nI c) (nI t) I = k4 (nI s) y (nI (c + 1)) I ∧ bm y (D 0 0) (nxB D s (c + 1)) := by
  have hn := hD.2.1
  have h8 := hD.2.2.2.1 s hs
  intro r
  induction r with
  | zero =>
    intro t fuel x ht hf hx
    obtain ⟨fuel, rfl⟩ : ∃ m, fuel = m + 1 := ⟨fuel - 1, by omega⟩
    refine ⟨x, ?_, bm_congr hx (fun u hu => by
      rw [nxB]
      have : u < t := by omega
      simp [this])⟩
    unfold mRo_nextStates_L22 mRo_nextStates_B22
    rw [h.1]
    simp (disch := omega) only [↓reduceIte, h_let, hg_in, hg_zb, hg_z0, hg_z1, hg_nz, Option.bind_some, if_pos, if_neg, bI_0, bI_n0, nI_add, nI_mul, nI_ltI, nI_leI, nI_eq, nI_clamp, nI_subN, nI_divN, nI_mod2, nI_m1e, nI_em1, nI_m2e, nI_lt0, m1_lt0, m1_lt, m1_le, h_u_at, h_u_off2, h_u_pl, li_0, li_1, li_2, li_3, li_4, li_5, li_6, li_7, li_8, li_9, li_10, li_11, li_12, li_13, li_14, li_15, li_16, li_17, li_18, li_19, li_20, li_21, li_22, li_23, li_24, li_25, li_26, li_27, li_28, li_29, li_30, li_31, li_32, li_40, li_43, li_45, li_47, li_48, li_57, li_59, li_60, li_61, li_62, li_63, li_64, li_80, li_92, li_97, li_99, li_100, li_122, li_123, li_125, li_166, li_201, li_210, li_250, li_255, li_256, li_257, li_258, li_259, li_260, li_261, li_262, li_263, li_264, li_265, li_266, li_267, li_268, li_300, li_500, li_1000, li_12345, li_27720, li_1000000, li_1103515245, ne_m1, ne_m2]
  | succ r ih =>
    intro t fuel x ht hf hx
    obtain ⟨fuel, rfl⟩ : ∃ m, fuel = m + 1 := ⟨fuel - 1, by omega⟩
    have eq := ro_quarters hD h hs hc (show t < D 0 0 by omega)
    have h4 := (hD.2.2.2.2 s hs c hc).2.2.2.1 t (by omega)
    have e8 : s * 8 + c = 8 * s + c := by omega
    unfold mRo_nextStates_L22 mRo_nextStates_B22
    rw [h.1]
    by_cases q : 0 < D 5 (10 * (8 * s + c) + t)
    · obtain ⟨y, go, hy⟩ := ih (t + 1) fuel (x ||| (nI 1 <<< (nI t &&& nI 31))) (by omega) (by omega) (bm_congr (bm_or hx (bm_bit (s := t) (by omega) hn)) (fun u hu => by
        by_cases e : u = t
        · subst e; simp [q]
        · have : u < t ↔ u < t + 1 := by omega
          simp [this, e]))
      refine ⟨y, ?_, hy⟩
      rw [← go]
      simp (disch := omega) only [↓reduceIte, h_let, hg_in, hg_zb, hg_z0, hg_z1, hg_nz, Option.bind_some, if_pos, if_neg, bI_0, bI_n0, nI_add, nI_mul, nI_ltI, nI_leI, nI_eq, nI_clamp, nI_subN, nI_divN, nI_mod2, nI_m1e, nI_em1, nI_m2e, nI_lt0, m1_lt0, m1_lt, m1_le, h_u_at, h_u_off2, h_u_pl, li_0, li_1, li_2, li_3, li_4, li_5, li_6, li_7, li_8, li_9, li_10, li_11, li_12, li_13, li_14, li_15, li_16, li_17, li_18, li_19, li_20, li_21, li_22, li_23, li_24, li_25, li_26, li_27, li_28, li_29, li_30, li_31, li_32, li_40, li_43, li_45, li_47, li_48, li_57, li_59, li_60, li_61, li_62, li_63, li_64, li_80, li_92, li_97, li_99, li_100, li_122, li_123, li_125, li_166, li_201, li_210, li_250, li_255, li_256, li_257, li_258, li_259, li_260, li_261, li_262, li_263, li_264, li_265, li_266, li_267, li_268, li_300, li_500, li_1000, li_12345, li_27720, li_1000000, li_1103515245, ne_m1, ne_m2, e8, eq]
    · obtain ⟨y, go, hy⟩ := ih (t + 1) fuel x (by omega) (by omega) (bm_congr hx (fun u hu => by
        by_cases e : u = t
        · subst e; simp [q]
        · have : u < t ↔ u < t + 1 := by omega
          simp [this]))
      refine ⟨y, ?_, hy⟩
      rw [← go]
      simp (disch := omega) only [↓reduceIte, h_let, hg_in, hg_zb, hg_z0, hg_z1, hg_nz, Option.bind_some, if_pos, if_neg, bI_0, bI_n0, nI_add, nI_mul, nI_ltI, nI_leI, nI_eq, nI_clamp, nI_subN, nI_divN, nI_mod2, nI_m1e, nI_em1, nI_m2e, nI_lt0, m1_lt0, m1_lt, m1_le, h_u_at, h_u_off2, h_u_pl, li_0, li_1, li_2, li_3, li_4, li_5, li_6, li_7, li_8, li_9, li_10, li_11, li_12, li_13, li_14, li_15, li_16, li_17, li_18, li_19, li_20, li_21, li_22, li_23, li_24, li_25, li_26, li_27, li_28, li_29, li_30, li_31, li_32, li_40, li_43, li_45, li_47, li_48, li_57, li_59, li_60, li_61, li_62, li_63, li_64, li_80, li_92, li_97, li_99, li_100, li_122, li_123, li_125, li_166, li_201, li_210, li_250, li_255, li_256, li_257, li_258, li_259, li_260, li_261, li_262, li_263, li_264, li_265, li_266, li_267, li_268, li_300, li_500, li_1000, li_12345, li_27720, li_1000000, li_1103515245, ne_m1, ne_m2, e8, eq]
theorem ro_next_L (hD : rOk D) {I : hI} (h : cR D I) {s : Nat} (hs : s < D 0 0) : ∀ (r c fuel : Nat) (x : Int32), c + r = D 1 s → r < fuel → bm x (D 0 0) (nxB D s c) → ∃ y, mRo_nextStates_L4 fuel (nI s) x (nI c) I = some y ∧ bm y (D 0 0) (nxB D s (D 1 s)) := by
  have hn := hD.2.1
  have h8 := hD.2.2.2.1 s hs
  intro r
  induction r with
  | zero =>
    intro c fuel x hc hf hx
    obtain ⟨fuel, rfl⟩ : ∃ m, fuel = m + 1 := ⟨fuel - 1, by omega⟩
    obtain rfl : c = D 1 s := by omega
    have ei := ro_isChoice hD h (s := s) (c := D 1 s) (by omega) (by omega)
    rw [decide_eq_false (by omega), bI_f] at ei
    refine ⟨x, ?_, hx⟩
    unfold mRo_nextStates_L4 mRo_nextStates_B4
    simp (disch := omega) only [↓reduceIte, h_let, hg_in, hg_zb, hg_z0, hg_z1, hg_nz, Option.bind_some, if_pos, if_neg, bI_0, bI_n0, nI_add, nI_mul, nI_ltI, nI_leI, nI_eq, nI_clamp, nI_subN, nI_divN, nI_mod2, nI_m1e, nI_em1, nI_m2e, nI_lt0, m1_lt0, m1_lt, m1_le, h_u_at, h_u_off2, h_u_pl, li_0, li_1, li_2, li_3, li_4, li_5, li_6, li_7, li_8, li_9, li_10, li_11, li_12, li_13, li_14, li_15, li_16, li_17, li_18, li_19, li_20, li_21, li_22, li_23, li_24, li_25, li_26, li_27, li_28, li_29, li_30, li_31, li_32, li_40, li_43, li_45, li_47, li_48, li_57, li_59, li_60, li_61, li_62, li_63, li_64, li_80, li_92, li_97, li_99, li_100, li_122, li_123, li_125, li_166, li_201, li_210, li_250, li_255, li_256, li_257, li_258, li_259, li_260, li_261, li_262, li_263, li_264, li_265, li_266, li_267, li_268, li_300, li_500, li_1000, li_12345, li_27720, li_1000000, li_1103515245, ne_m1, ne_m2, ei]
  | succ r ih =>
    intro c fuel x hc hf hx
    obtain ⟨fuel, rfl⟩ : ∃ m, fuel = m + 1 := ⟨fuel - 1, by omega⟩
    have ei := ro_isChoice hD h (s := s) (c := c) (by omega) (by omega)
    rw [decide_eq_true (by omega), bI_t] at ei
    obtain ⟨y, a1, a2⟩ := ro_next_i hD h hs (show c < D 1 s by omega) (mRo_nextStates_L4 fuel) (D 0 0) 0 hF x (by omega) (by unfold hF; omega) (bm_congr hx (fun u hu => by simp))
    obtain ⟨z, b1, b2⟩ := ih (c + 1) fuel y (by omega) (by omega) a2
    refine ⟨z, ?_, b2⟩
    unfold mRo_nextStates_L4 mRo_nextStates_B4
    simp (disch := omega) only [↓reduceIte, h_let, hg_in, hg_zb, hg_z0, hg_z1, hg_nz, Option.bind_some, if_pos, if_neg, bI_0, bI_n0, nI_add, nI_mul, nI_ltI, nI_leI, nI_eq, nI_clamp, nI_subN, nI_divN, nI_mod2, nI_m1e, nI_em1, nI_m2e, nI_lt0, m1_lt0, m1_lt, m1_le, h_u_at, h_u_off2, h_u_pl, li_0, li_1, li_2, li_3, li_4, li_5, li_6, li_7, li_8, li_9, li_10, li_11, li_12, li_13, li_14, li_15, li_16, li_17, li_18, li_19, li_20, li_21, li_22, li_23, li_24, li_25, li_26, li_27, li_28, li_29, li_30, li_31, li_32, li_40, li_43, li_45, li_47, li_48, li_57, li_59, li_60, li_61, li_62, li_63, li_64, li_80, li_92, li_97, li_99, li_100, li_122, li_123, li_125, li_166, li_201, li_210, li_250, li_255, li_256, li_257, li_258, li_259, li_260, li_261, li_262, li_263, li_264, li_265, li_266, li_267, li_268, li_300, li_500, li_1000, li_12345, li_27720, li_1000000, li_1103515245, ne_m1, ne_m2, ei, a1, b1]
theorem ro_next (hD : rOk D) {I : hI} (h : cR D I) {s : Nat} (hs : s < D 0 0) : ∃ y, mRo_nextStates (nI s) I = some y ∧ bm y (D 0 0) (nxB D s (D 1 s)) := by
  have h8 := hD.2.2.2.1 s hs
  obtain ⟨y, a1, a2⟩ := ro_next_L hD h hs (D 1 s) 0 hF (nI 0) (by omega) (by unfold hF; omega) (bm_zero _)
  refine ⟨y, ?_, a2⟩
  unfold mRo_nextStates
  rw [li_0, a1]
theorem ro_reach_i (hD : rOk D) {I : hI} (h : cR D I) (v3 : Nat) (hv : v3 < 100) (k6 : _) : ∀ (r t fuel : Nat) (x : Int32) (f : Nat → Bool), t + r = D 0 0 → r < fuel → bm x (D 0 0) f → ∃ y, mRo_reachedFrom_L17 k6 fuel x (nI v3) (nI t) I = k6 y (nI (v3 + 1)) I ∧ bm y (D 0 0) (rsF2 D t r f) := by
  have hn := hD.2.1
  intro r
  induction r with
  | zero =>
    intro t fuel x f ht hf hx
    obtain ⟨fuel, rfl⟩ : ∃ m, fuel = m + 1 := ⟨fuel - 1, by omega⟩
    refine ⟨x, ?_, hx⟩
    unfold mRo_reachedFrom_L17 mRo_reachedFrom_B17
    rw [h.1]
    simp (disch := omega) only [↓reduceIte, h_let, hg_in, hg_zb, hg_z0, hg_z1, hg_nz, Option.bind_some, if_pos, if_neg, bI_0, bI_n0, nI_add, nI_mul, nI_ltI, nI_leI, nI_eq, nI_clamp, nI_subN, nI_divN, nI_mod2, nI_m1e, nI_em1, nI_m2e, nI_lt0, m1_lt0, m1_lt, m1_le, h_u_at, h_u_off2, h_u_pl, li_0, li_1, li_2, li_3, li_4, li_5, li_6, li_7, li_8, li_9, li_10, li_11, li_12, li_13, li_14, li_15, li_16, li_17, li_18, li_19, li_20, li_21, li_22, li_23, li_24, li_25, li_26, li_27, li_28, li_29, li_30, li_31, li_32, li_40, li_43, li_45, li_47, li_48, li_57, li_59, li_60, li_61, li_62, li_63, li_64, li_80, li_92, li_97, li_99, li_100, li_122, li_123, li_125, li_166, li_201, li_210, li_250, li_255, li_256, li_257, li_258, li_259, li_260, li_261, li_262, li_263, li_264, li_265, li_266, li_267, li_268, li_300, li_500, li_1000, li_12345, li_27720, li_1000000, li_1103515245, ne_m1, ne_m2]
  | succ r ih =>
    intro t fuel x f ht hf hx
    obtain ⟨fuel, rfl⟩ : ∃ m, fuel = m + 1 := ⟨fuel - 1, by omega⟩
    have hb := bm_val hx hn (t := t) (by omega)
    unfold mRo_reachedFrom_L17 mRo_reachedFrom_B17
    rw [h.1, rsF2]
    cases q : f t
    · rw [q, if_neg (by decide)] at hb
      obtain ⟨y, go, hy⟩ := ih (t + 1) fuel x (rsS D t f) (by omega) (by omega) (bm_congr hx (fun u hu => by unfold rsS; rw [q]; simp))
      refine ⟨y, ?_, hy⟩
      rw [← go]
      simp (disch := omega) only [↓reduceIte, h_let, hg_in, hg_zb, hg_z0, hg_z1, hg_nz, Option.bind_some, if_pos, if_neg, bI_0, bI_n0, nI_add, nI_mul, nI_ltI, nI_leI, nI_eq, nI_clamp, nI_subN, nI_divN, nI_mod2, nI_m1e, nI_em1, nI_m2e, nI_lt0, m1_lt0, m1_lt, m1_le, h_u_at, h_u_off2, h_u_pl, li_0, li_1, li_2, li_3, li_4, li_5, li_6, li_7, li_8, li_9, li_10, li_11, li_12, li_13, li_14, li_15, li_16, li_17, li_18, li_19, li_20, li_21, li_22, li_23, li_24, li_25, li_26, li_27, li_28, li_29, li_30, li_31, li_32, li_40, li_43, li_45, li_47, li_48, li_57, li_59, li_60, li_61, li_62, li_63, li_64, li_80, li_92, li_97, li_99, li_100, li_122, li_123, li_125, li_166, li_201, li_210, li_250, li_255, li_256, li_257, li_258, li_259, li_260, li_261, li_262, li_263, li_264, li_265, li_266, li_267, li_268, li_300, li_500, li_1000, li_12345, li_27720, li_1000000, li_1103515245, ne_m1, ne_m2, hb]
    · rw [q, if_pos rfl] at hb
      obtain ⟨z, e1, e2⟩ := ro_next hD h (s := t) (by omega)
      obtain ⟨y, go, hy⟩ := ih (t + 1) fuel (x ||| z) (rsS D t f) (by omega) (by omega) (bm_congr (bm_or hx e2) (fun u hu => by unfold rsS; rw [q]; simp))
      refine ⟨y, ?_, hy⟩
      rw [← go]
      simp (disch := omega) only [↓reduceIte, h_let, hg_in, hg_zb, hg_z0, hg_z1, hg_nz, Option.bind_some, if_pos, if_neg, bI_0, bI_n0, nI_add, nI_mul, nI_ltI, nI_leI, nI_eq, nI_clamp, nI_subN, nI_divN, nI_mod2, nI_m1e, nI_em1, nI_m2e, nI_lt0, m1_lt0, m1_lt, m1_le, h_u_at, h_u_off2, h_u_pl, li_0, li_1, li_2, li_3, li_4, li_5, li_6, li_7, li_8, li_9, li_10, li_11, li_12, li_13, li_14, li_15, li_16, li_17, li_18, li_19, li_20, li_21, li_22, li_23, li_24, li_25, li_26, li_27, li_28, li_29, li_30, li_31, li_32, li_40, li_43, li_45, li_47, li_48, li_57, li_59, li_60, li_61, li_62, li_63, li_64, li_80, li_92, li_97, li_99, li_100, li_122, li_123, li_125, li_166, li_201, li_210, li_250, li_255, li_256, li_257, li_258, li_259, li_260, li_261, li_262, li_263, li_264, li_265, li_266, li_267, li_268, li_300, li_500, li_1000, li_12345, li_27720, li_1000000, li_1103515245, ne_m1, ne_m2, hb, e1]
theorem ro_reach_L (hD : rOk D) {I : hI} (h : cR D I) : ∀ (r k fuel : Nat) (x : Int32) (f : Nat → Bool), k + r = D 0 0 → r < fuel → bm x (D 0 0) f → ∃ y, mRo_reachedFrom_L6 fuel x (nI k) I = some y ∧ bm y (D 0 0) (rsN2 D r f) := by
  have hn := hD.2.1
  intro r
  induction r with
  | zero =>
    intro k fuel x f hk hf hx
    obtain ⟨fuel, rfl⟩ : ∃ m, fuel = m + 1 := ⟨fuel - 1, by omega⟩
    refine ⟨x, ?_, hx⟩
    unfold mRo_reachedFrom_L6 mRo_reachedFrom_B6
    rw [h.1]
    simp (disch := omega) only [↓reduceIte, h_let, hg_in, hg_zb, hg_z0, hg_z1, hg_nz, Option.bind_some, if_pos, if_neg, bI_0, bI_n0, nI_add, nI_mul, nI_ltI, nI_leI, nI_eq, nI_clamp, nI_subN, nI_divN, nI_mod2, nI_m1e, nI_em1, nI_m2e, nI_lt0, m1_lt0, m1_lt, m1_le, h_u_at, h_u_off2, h_u_pl, li_0, li_1, li_2, li_3, li_4, li_5, li_6, li_7, li_8, li_9, li_10, li_11, li_12, li_13, li_14, li_15, li_16, li_17, li_18, li_19, li_20, li_21, li_22, li_23, li_24, li_25, li_26, li_27, li_28, li_29, li_30, li_31, li_32, li_40, li_43, li_45, li_47, li_48, li_57, li_59, li_60, li_61, li_62, li_63, li_64, li_80, li_92, li_97, li_99, li_100, li_122, li_123, li_125, li_166, li_201, li_210, li_250, li_255, li_256, li_257, li_258, li_259, li_260, li_261, li_262, li_263, li_264, li_265, li_266, li_267, li_268, li_300, li_500, li_1000, li_12345, li_27720, li_1000000, li_1103515245, ne_m1, ne_m2]
  | succ r ih =>
    intro k fuel x f hk hf hx
    obtain ⟨fuel, rfl⟩ : ∃ m, fuel = m + 1 := ⟨fuel - 1, by omega⟩
    obtain ⟨y, a1, a2⟩ := ro_reach_i hD h k (by omega) (mRo_reachedFrom_L6 fuel) (D 0 0) 0 hF x f (by omega) (by unfold hF; omega) hx
    obtain ⟨z, b1, b2⟩ := ih (k + 1) fuel y _ (by omega) (by omega) a2
    refine ⟨z, ?_, b2⟩
    unfold mRo_reachedFrom_L6 mRo_reachedFrom_B6
    rw [h.1]
    simp (disch := omega) only [↓reduceIte, h_let, hg_in, hg_zb, hg_z0, hg_z1, hg_nz, Option.bind_some, if_pos, if_neg, bI_0, bI_n0, nI_add, nI_mul, nI_ltI, nI_leI, nI_eq, nI_clamp, nI_subN, nI_divN, nI_mod2, nI_m1e, nI_em1, nI_m2e, nI_lt0, m1_lt0, m1_lt, m1_le, h_u_at, h_u_off2, h_u_pl, li_0, li_1, li_2, li_3, li_4, li_5, li_6, li_7, li_8, li_9, li_10, li_11, li_12, li_13, li_14, li_15, li_16, li_17, li_18, li_19, li_20, li_21, li_22, li_23, li_24, li_25, li_26, li_27, li_28, li_29, li_30, li_31, li_32, li_40, li_43, li_45, li_47, li_48, li_57, li_59, li_60, li_61, li_62, li_63, li_64, li_80, li_92, li_97, li_99, li_100, li_122, li_123, li_125, li_166, li_201, li_210, li_250, li_255, li_256, li_257, li_258, li_259, li_260, li_261, li_262, li_263, li_264, li_265, li_266, li_267, li_268, li_300, li_500, li_1000, li_12345, li_27720, li_1000000, li_1103515245, ne_m1, ne_m2, a1, b1]
theorem mp_reach_t (hD : rOk D) {I : hI} (h : mR D I) {s c v2 : Nat} (hs : s < D 0 0) (hc : c < D 1 s) (k4 k14 k25 : _) (f : Nat → Bool) : ∀ (r t fuel : Nat) (x : Int32), t + r = D 0 0 → r < fuel → bm x (D 0 0) (fun u => f u || (nxB D s c u || (decide (u < t) && decide (0 < D 5 (10 * (8 * s + c) + u))))) → ∃ y, mM_reached_L48 k4 k14 k25 fuel x (nI v2) (nI s) (nI c) (nI t) I = k25 y (nI v2) (nI s) (nI (c + 1)) I ∧ bm y (D 0 0) (fun u => f u || nxB D s (c + 1) u) := by
  have hn := hD.2.1
  have h8 := hD.2.2.2.1 s hs
  intro r
  induction r with
  | zero =>
    intro t fuel x ht hf hx
    obtain ⟨fuel, rfl⟩ : ∃ m, fuel = m + 1 := ⟨fuel - 1, by omega⟩
    refine ⟨x, ?_, bm_congr hx (fun u hu => by
      rw [nxB]
      have : u < t := by omega
      simp [this])⟩
    unfold mM_reached_L48 mM_reached_B48
    rw [h.1]
    simp (disch := omega) only [↓reduceIte, h_let, hg_in, hg_zb, hg_z0, hg_z1, hg_nz, Option.bind_some, if_pos, if_neg, bI_0, bI_n0, nI_add, nI_mul, nI_ltI, nI_leI, nI_eq, nI_clamp, nI_subN, nI_divN, nI_mod2, nI_m1e, nI_em1, nI_m2e, nI_lt0, m1_lt0, m1_lt, m1_le, h_u_at, h_u_off2, h_u_pl, li_0, li_1, li_2, li_3, li_4, li_5, li_6, li_7, li_8, li_9, li_10, li_11, li_12, li_13, li_14, li_15, li_16, li_17, li_18, li_19, li_20, li_21, li_22, li_23, li_24, li_25, li_26, li_27, li_28, li_29, li_30, li_31, li_32, li_40, li_43, li_45, li_47, li_48, li_57, li_59, li_60, li_61, li_62, li_63, li_64, li_80, li_92, li_97, li_99, li_100, li_122, li_123, li_125, li_166, li_201, li_210, li_250, li_255, li_256, li_257, li_258, li_259, li_260, li_261, li_262, li_263, li_264, li_265, li_266, li_267, li_268, li_300, li_500, li_1000, li_12345, li_27720, li_1000000, li_1103515245, ne_m1, ne_m2]
  | succ r ih =>
    intro t fuel x ht hf hx
    obtain ⟨fuel, rfl⟩ : ∃ m, fuel = m + 1 := ⟨fuel - 1, by omega⟩
    have eq := (h.2.2.2.2 s hs c hc).2.2.2 t (by omega)
    have h4 := (hD.2.2.2.2 s hs c hc).2.2.2.1 t (by omega)
    unfold mM_reached_L48 mM_reached_B48 mM_choiceAt
    rw [h.1]
    by_cases q : 0 < D 5 (10 * (8 * s + c) + t)
    · obtain ⟨y, go, hy⟩ := ih (t + 1) fuel (x ||| (nI 1 <<< (nI t &&& nI 31))) (by omega) (by omega) (bm_congr (bm_or hx (bm_bit (s := t) (by omega) hn)) (fun u hu => by
        by_cases e : u = t
        · subst e; simp [q]
        · have : u < t ↔ u < t + 1 := by omega
          simp [this, e]))
      refine ⟨y, ?_, hy⟩
      rw [← go]
      simp (disch := omega) only [↓reduceIte, h_let, hg_in, hg_zb, hg_z0, hg_z1, hg_nz, Option.bind_some, if_pos, if_neg, bI_0, bI_n0, nI_add, nI_mul, nI_ltI, nI_leI, nI_eq, nI_clamp, nI_subN, nI_divN, nI_mod2, nI_m1e, nI_em1, nI_m2e, nI_lt0, m1_lt0, m1_lt, m1_le, h_u_at, h_u_off2, h_u_pl, li_0, li_1, li_2, li_3, li_4, li_5, li_6, li_7, li_8, li_9, li_10, li_11, li_12, li_13, li_14, li_15, li_16, li_17, li_18, li_19, li_20, li_21, li_22, li_23, li_24, li_25, li_26, li_27, li_28, li_29, li_30, li_31, li_32, li_40, li_43, li_45, li_47, li_48, li_57, li_59, li_60, li_61, li_62, li_63, li_64, li_80, li_92, li_97, li_99, li_100, li_122, li_123, li_125, li_166, li_201, li_210, li_250, li_255, li_256, li_257, li_258, li_259, li_260, li_261, li_262, li_263, li_264, li_265, li_266, li_267, li_268, li_300, li_500, li_1000, li_12345, li_27720, li_1000000, li_1103515245, ne_m1, ne_m2, eq]
    · obtain ⟨y, go, hy⟩ := ih (t + 1) fuel (x ||| nI 0) (by omega) (by omega) (bm_congr (bm_or hx (bm_zero _)) (fun u hu => by
        by_cases e : u = t
        · subst e; simp [q]
        · have : u < t ↔ u < t + 1 := by omega
          simp [this]))
      refine ⟨y, ?_, hy⟩
      rw [← go]
      simp (disch := omega) only [↓reduceIte, h_let, hg_in, hg_zb, hg_z0, hg_z1, hg_nz, Option.bind_some, if_pos, if_neg, bI_0, bI_n0, nI_add, nI_mul, nI_ltI, nI_leI, nI_eq, nI_clamp, nI_subN, nI_divN, nI_mod2, nI_m1e, nI_em1, nI_m2e, nI_lt0, m1_lt0, m1_lt, m1_le, h_u_at, h_u_off2, h_u_pl, li_0, li_1, li_2, li_3, li_4, li_5, li_6, li_7, li_8, li_9, li_10, li_11, li_12, li_13, li_14, li_15, li_16, li_17, li_18, li_19, li_20, li_21, li_22, li_23, li_24, li_25, li_26, li_27, li_28, li_29, li_30, li_31, li_32, li_40, li_43, li_45, li_47, li_48, li_57, li_59, li_60, li_61, li_62, li_63, li_64, li_80, li_92, li_97, li_99, li_100, li_122, li_123, li_125, li_166, li_201, li_210, li_250, li_255, li_256, li_257, li_258, li_259, li_260, li_261, li_262, li_263, li_264, li_265, li_266, li_267, li_268, li_300, li_500, li_1000, li_12345, li_27720, li_1000000, li_1103515245, ne_m1, ne_m2, eq]
theorem mp_reach_c (hD : rOk D) {I : hI} (h : mR D I) {s v2 : Nat} (hs : s < D 0 0) (k4 k14 : _) (f : Nat → Bool) : ∀ (r c fuel : Nat) (x : Int32), c + r = D 1 s → r < fuel → bm x (D 0 0) (fun u => f u || (f s && nxB D s c u)) → ∃ y, mM_reached_L25 k4 k14 fuel x (nI v2) (nI s) (nI c) I = k14 y (nI v2) (nI (s + 1)) I ∧ bm y (D 0 0) (rsS D s f) := by
  have hn := hD.2.1
  have h8 := hD.2.2.2.1 s hs
  have e25 := h.2.2.2.1 s hs
  intro r
  induction r with
  | zero =>
    intro c fuel x hc hf hx
    obtain ⟨fuel, rfl⟩ : ∃ m, fuel = m + 1 := ⟨fuel - 1, by omega⟩
    obtain rfl : c = D 1 s := by omega
    refine ⟨x, ?_, hx⟩
    unfold mM_reached_L25 mM_reached_B25
    simp (disch := omega) only [↓reduceIte, h_let, hg_in, hg_zb, hg_z0, hg_z1, hg_nz, Option.bind_some, if_pos, if_neg, bI_0, bI_n0, nI_add, nI_mul, nI_ltI, nI_leI, nI_eq, nI_clamp, nI_subN, nI_divN, nI_mod2, nI_m1e, nI_em1, nI_m2e, nI_lt0, m1_lt0, m1_lt, m1_le, h_u_at, h_u_off2, h_u_pl, li_0, li_1, li_2, li_3, li_4, li_5, li_6, li_7, li_8, li_9, li_10, li_11, li_12, li_13, li_14, li_15, li_16, li_17, li_18, li_19, li_20, li_21, li_22, li_23, li_24, li_25, li_26, li_27, li_28, li_29, li_30, li_31, li_32, li_40, li_43, li_45, li_47, li_48, li_57, li_59, li_60, li_61, li_62, li_63, li_64, li_80, li_92, li_97, li_99, li_100, li_122, li_123, li_125, li_166, li_201, li_210, li_250, li_255, li_256, li_257, li_258, li_259, li_260, li_261, li_262, li_263, li_264, li_265, li_266, li_267, li_268, li_300, li_500, li_1000, li_12345, li_27720, li_1000000, li_1103515245, ne_m1, ne_m2, e25]
  | succ r ih =>
    intro c fuel x hc hf hx
    obtain ⟨fuel, rfl⟩ : ∃ m, fuel = m + 1 := ⟨fuel - 1, by omega⟩
    have hb := bm_val hx hn (t := s) hs
    unfold mM_reached_L25 mM_reached_B25
    cases q : f s
    · simp only [q, Bool.false_and, Bool.or_false, Bool.false_eq_true, if_false] at hb
      refine ⟨x, ?_, bm_congr hx (fun u hu => by unfold rsS; rw [q]; simp)⟩
      simp (disch := omega) only [↓reduceIte, h_let, hg_in, hg_zb, hg_z0, hg_z1, hg_nz, Option.bind_some, if_pos, if_neg, bI_0, bI_n0, nI_add, nI_mul, nI_ltI, nI_leI, nI_eq, nI_clamp, nI_subN, nI_divN, nI_mod2, nI_m1e, nI_em1, nI_m2e, nI_lt0, m1_lt0, m1_lt, m1_le, h_u_at, h_u_off2, h_u_pl, li_0, li_1, li_2, li_3, li_4, li_5, li_6, li_7, li_8, li_9, li_10, li_11, li_12, li_13, li_14, li_15, li_16, li_17, li_18, li_19, li_20, li_21, li_22, li_23, li_24, li_25, li_26, li_27, li_28, li_29, li_30, li_31, li_32, li_40, li_43, li_45, li_47, li_48, li_57, li_59, li_60, li_61, li_62, li_63, li_64, li_80, li_92, li_97, li_99, li_100, li_122, li_123, li_125, li_166, li_201, li_210, li_250, li_255, li_256, li_257, li_258, li_259, li_260, li_261, li_262, li_263, li_264, li_265, li_266, li_267, li_268, li_300, li_500, li_1000, li_12345, li_27720, li_1000000, li_1103515245, ne_m1, ne_m2, e25, hb]
    · simp only [q, Bool.true_and, Bool.true_or, if_true] at hb
      obtain ⟨y, a1, a2⟩ := mp_reach_t hD h (v2 := v2) hs (show c < D 1 s by omega) k4 k14 (mM_reached_L25 k4 k14 fuel) f (D 0 0) 0 hF x (by omega) (by unfold hF; omega) (bm_congr hx (fun u hu => by rw [q]; simp))
      obtain ⟨z, b1, b2⟩ := ih (c + 1) fuel y (by omega) (by omega) (bm_congr a2 (fun u hu => by rw [q]; simp))
      refine ⟨z, ?_, b2⟩
      simp (disch := omega) only [↓reduceIte, h_let, hg_in, hg_zb, hg_z0, hg_z1, hg_nz, Option.bind_some, if_pos, if_neg, bI_0, bI_n0, nI_add, nI_mul, nI_ltI, nI_leI, nI_eq, nI_clamp, nI_subN, nI_divN, nI_mod2, nI_m1e, nI_em1, nI_m2e, nI_lt0, m1_lt0, m1_lt, m1_le, h_u_at, h_u_off2, h_u_pl, li_0, li_1, li_2, li_3, li_4, li_5, li_6, li_7, li_8, li_9, li_10, li_11, li_12, li_13, li_14, li_15, li_16, li_17, li_18, li_19, li_20, li_21, li_22, li_23, li_24, li_25, li_26, li_27, li_28, li_29, li_30, li_31, li_32, li_40, li_43, li_45, li_47, li_48, li_57, li_59, li_60, li_61, li_62, li_63, li_64, li_80, li_92, li_97, li_99, li_100, li_122, li_123, li_125, li_166, li_201, li_210, li_250, li_255, li_256, li_257, li_258, li_259, li_260, li_261, li_262, li_263, li_264, li_265, li_266, li_267, li_268, li_300, li_500, li_1000, li_12345, li_27720, li_1000000, li_1103515245, ne_m1, ne_m2, e25, hb, a1, b1]
theorem mp_reach_s (hD : rOk D) {I : hI} (h : mR D I) (v2 : Nat) (hv : v2 < 100) (k4 : _) : ∀ (r s fuel : Nat) (x : Int32) (f : Nat → Bool), s + r = D 0 0 → r < fuel → bm x (D 0 0) f → ∃ y, mM_reached_L14 k4 fuel x (nI v2) (nI s) I = k4 y (nI (v2 + 1)) I ∧ bm y (D 0 0) (rsF2 D s r f) := by
  have hn := hD.2.1
  intro r
  induction r with
  | zero =>
    intro s fuel x f hs hf hx
    obtain ⟨fuel, rfl⟩ : ∃ m, fuel = m + 1 := ⟨fuel - 1, by omega⟩
    refine ⟨x, ?_, hx⟩
    unfold mM_reached_L14 mM_reached_B14
    rw [h.1]
    simp (disch := omega) only [↓reduceIte, h_let, hg_in, hg_zb, hg_z0, hg_z1, hg_nz, Option.bind_some, if_pos, if_neg, bI_0, bI_n0, nI_add, nI_mul, nI_ltI, nI_leI, nI_eq, nI_clamp, nI_subN, nI_divN, nI_mod2, nI_m1e, nI_em1, nI_m2e, nI_lt0, m1_lt0, m1_lt, m1_le, h_u_at, h_u_off2, h_u_pl, li_0, li_1, li_2, li_3, li_4, li_5, li_6, li_7, li_8, li_9, li_10, li_11, li_12, li_13, li_14, li_15, li_16, li_17, li_18, li_19, li_20, li_21, li_22, li_23, li_24, li_25, li_26, li_27, li_28, li_29, li_30, li_31, li_32, li_40, li_43, li_45, li_47, li_48, li_57, li_59, li_60, li_61, li_62, li_63, li_64, li_80, li_92, li_97, li_99, li_100, li_122, li_123, li_125, li_166, li_201, li_210, li_250, li_255, li_256, li_257, li_258, li_259, li_260, li_261, li_262, li_263, li_264, li_265, li_266, li_267, li_268, li_300, li_500, li_1000, li_12345, li_27720, li_1000000, li_1103515245, ne_m1, ne_m2]
  | succ r ih =>
    intro s fuel x f hs hf hx
    obtain ⟨fuel, rfl⟩ : ∃ m, fuel = m + 1 := ⟨fuel - 1, by omega⟩
    have h8 := hD.2.2.2.1 s (by omega)
    obtain ⟨y, a1, a2⟩ := mp_reach_c hD h (v2 := v2) (s := s) (by omega) k4 (mM_reached_L14 k4 fuel) f (D 1 s) 0 hF x (by omega) (by unfold hF; omega) (bm_congr hx (fun u hu => by simp [nxB]))
    obtain ⟨z, b1, b2⟩ := ih (s + 1) fuel y _ (by omega) (by omega) a2
    refine ⟨z, ?_, b2⟩
    unfold mM_reached_L14 mM_reached_B14
    rw [h.1]
    simp (disch := omega) only [↓reduceIte, h_let, hg_in, hg_zb, hg_z0, hg_z1, hg_nz, Option.bind_some, if_pos, if_neg, bI_0, bI_n0, nI_add, nI_mul, nI_ltI, nI_leI, nI_eq, nI_clamp, nI_subN, nI_divN, nI_mod2, nI_m1e, nI_em1, nI_m2e, nI_lt0, m1_lt0, m1_lt, m1_le, h_u_at, h_u_off2, h_u_pl, li_0, li_1, li_2, li_3, li_4, li_5, li_6, li_7, li_8, li_9, li_10, li_11, li_12, li_13, li_14, li_15, li_16, li_17, li_18, li_19, li_20, li_21, li_22, li_23, li_24, li_25, li_26, li_27, li_28, li_29, li_30, li_31, li_32, li_40, li_43, li_45, li_47, li_48, li_57, li_59, li_60, li_61, li_62, li_63, li_64, li_80, li_92, li_97, li_99, li_100, li_122, li_123, li_125, li_166, li_201, li_210, li_250, li_255, li_256, li_257, li_258, li_259, li_260, li_261, li_262, li_263, li_264, li_265, li_266, li_267, li_268, li_300, li_500, li_1000, li_12345, li_27720, li_1000000, li_1103515245, ne_m1, ne_m2, a1, b1]
theorem mp_cnt_L (hD : rOk D) {I : hI} (h : mR D I) {x : Int32} {f : Nat → Bool} (hx : bm x (D 0 0) f) : ∀ (r t fuel c : Nat), t + r = D 0 0 → r < fuel → mM_reached_L117 fuel x (nI c) (nI t) I = some (nI (c + sumF (fun u => if f u = true then 1 else 0) t r)) := by
  have hn := hD.2.1
  intro r
  induction r with
  | zero =>
    intro t fuel c ht hf
    obtain ⟨fuel, rfl⟩ : ∃ m, fuel = m + 1 := ⟨fuel - 1, by omega⟩
    unfold mM_reached_L117 mM_reached_B117
    rw [h.1]
    simp (disch := omega) only [↓reduceIte, h_let, hg_in, hg_zb, hg_z0, hg_z1, hg_nz, Option.bind_some, if_pos, if_neg, bI_0, bI_n0, nI_add, nI_mul, nI_ltI, nI_leI, nI_eq, nI_clamp, nI_subN, nI_divN, nI_mod2, nI_m1e, nI_em1, nI_m2e, nI_lt0, m1_lt0, m1_lt, m1_le, h_u_at, h_u_off2, h_u_pl, li_0, li_1, li_2, li_3, li_4, li_5, li_6, li_7, li_8, li_9, li_10, li_11, li_12, li_13, li_14, li_15, li_16, li_17, li_18, li_19, li_20, li_21, li_22, li_23, li_24, li_25, li_26, li_27, li_28, li_29, li_30, li_31, li_32, li_40, li_43, li_45, li_47, li_48, li_57, li_59, li_60, li_61, li_62, li_63, li_64, li_80, li_92, li_97, li_99, li_100, li_122, li_123, li_125, li_166, li_201, li_210, li_250, li_255, li_256, li_257, li_258, li_259, li_260, li_261, li_262, li_263, li_264, li_265, li_266, li_267, li_268, li_300, li_500, li_1000, li_12345, li_27720, li_1000000, li_1103515245, ne_m1, ne_m2, sumF, Nat.add_zero]
  | succ r ih =>
    intro t fuel c ht hf
    obtain ⟨fuel, rfl⟩ : ∃ m, fuel = m + 1 := ⟨fuel - 1, by omega⟩
    have hb := bm_val hx hn (t := t) (by omega)
    have go := ih (t + 1) fuel (c + (if f t = true then 1 else 0)) (by omega) (by omega)
    unfold mM_reached_L117 mM_reached_B117
    rw [h.1, sumF]
    simp (disch := omega) only [↓reduceIte, h_let, hg_in, hg_zb, hg_z0, hg_z1, hg_nz, Option.bind_some, if_pos, if_neg, bI_0, bI_n0, nI_add, nI_mul, nI_ltI, nI_leI, nI_eq, nI_clamp, nI_subN, nI_divN, nI_mod2, nI_m1e, nI_em1, nI_m2e, nI_lt0, m1_lt0, m1_lt, m1_le, h_u_at, h_u_off2, h_u_pl, li_0, li_1, li_2, li_3, li_4, li_5, li_6, li_7, li_8, li_9, li_10, li_11, li_12, li_13, li_14, li_15, li_16, li_17, li_18, li_19, li_20, li_21, li_22, li_23, li_24, li_25, li_26, li_27, li_28, li_29, li_30, li_31, li_32, li_40, li_43, li_45, li_47, li_48, li_57, li_59, li_60, li_61, li_62, li_63, li_64, li_80, li_92, li_97, li_99, li_100, li_122, li_123, li_125, li_166, li_201, li_210, li_250, li_255, li_256, li_257, li_258, li_259, li_260, li_261, li_262, li_263, li_264, li_265, li_266, li_267, li_268, li_300, li_500, li_1000, li_12345, li_27720, li_1000000, li_1103515245, ne_m1, ne_m2, hb, go]
    congr 2
    omega
theorem mp_reach_L (hD : rOk D) {I : hI} (h : mR D I) : ∀ (r k fuel : Nat) (x : Int32) (f : Nat → Bool), k + r = D 0 0 → r < fuel → bm x (D 0 0) f → mM_reached_L4 fuel x (nI k) I = some (nI (sumF (fun u => if rsN2 D r f u = true then 1 else 0) 0 (D 0 0))) := by
  have hn := hD.2.1
  intro r
  induction r with
  | zero =>
    intro k fuel x f hk hf hx
    obtain ⟨fuel, rfl⟩ : ∃ m, fuel = m + 1 := ⟨fuel - 1, by omega⟩
    have e := mp_cnt_L hD h hx (D 0 0) 0 hF 0 (by omega) (by unfold hF; omega)
    rw [Nat.zero_add] at e
    unfold mM_reached_L4 mM_reached_B4
    rw [h.1]
    simp (disch := omega) only [↓reduceIte, h_let, hg_in, hg_zb, hg_z0, hg_z1, hg_nz, Option.bind_some, if_pos, if_neg, bI_0, bI_n0, nI_add, nI_mul, nI_ltI, nI_leI, nI_eq, nI_clamp, nI_subN, nI_divN, nI_mod2, nI_m1e, nI_em1, nI_m2e, nI_lt0, m1_lt0, m1_lt, m1_le, h_u_at, h_u_off2, h_u_pl, li_0, li_1, li_2, li_3, li_4, li_5, li_6, li_7, li_8, li_9, li_10, li_11, li_12, li_13, li_14, li_15, li_16, li_17, li_18, li_19, li_20, li_21, li_22, li_23, li_24, li_25, li_26, li_27, li_28, li_29, li_30, li_31, li_32, li_40, li_43, li_45, li_47, li_48, li_57, li_59, li_60, li_61, li_62, li_63, li_64, li_80, li_92, li_97, li_99, li_100, li_122, li_123, li_125, li_166, li_201, li_210, li_250, li_255, li_256, li_257, li_258, li_259, li_260, li_261, li_262, li_263, li_264, li_265, li_266, li_267, li_268, li_300, li_500, li_1000, li_12345, li_27720, li_1000000, li_1103515245, ne_m1, ne_m2, e]
    rfl
  | succ r ih =>
    intro k fuel x f hk hf hx
    obtain ⟨fuel, rfl⟩ : ∃ m, fuel = m + 1 := ⟨fuel - 1, by omega⟩
    obtain ⟨y, a1, a2⟩ := mp_reach_s hD h k (by omega) (mM_reached_L4 fuel) (D 0 0) 0 hF x f (by omega) (by unfold hF; omega) hx
    have b1 := ih (k + 1) fuel y _ (by omega) (by omega) a2
    unfold mM_reached_L4 mM_reached_B4
    rw [h.1]
    simp (disch := omega) only [↓reduceIte, h_let, hg_in, hg_zb, hg_z0, hg_z1, hg_nz, Option.bind_some, if_pos, if_neg, bI_0, bI_n0, nI_add, nI_mul, nI_ltI, nI_leI, nI_eq, nI_clamp, nI_subN, nI_divN, nI_mod2, nI_m1e, nI_em1, nI_m2e, nI_lt0, m1_lt0, m1_lt, m1_le, h_u_at, h_u_off2, h_u_pl, li_0, li_1, li_2, li_3, li_4, li_5, li_6, li_7, li_8, li_9, li_10, li_11, li_12, li_13, li_14, li_15, li_16, li_17, li_18, li_19, li_20, li_21, li_22, li_23, li_24, li_25, li_26, li_27, li_28, li_29, li_30, li_31, li_32, li_40, li_43, li_45, li_47, li_48, li_57, li_59, li_60, li_61, li_62, li_63, li_64, li_80, li_92, li_97, li_99, li_100, li_122, li_123, li_125, li_166, li_201, li_210, li_250, li_255, li_256, li_257, li_258, li_259, li_260, li_261, li_262, li_263, li_264, li_265, li_266, li_267, li_268, li_300, li_500, li_1000, li_12345, li_27720, li_1000000, li_1103515245, ne_m1, ne_m2, a1, b1]
    rfl
theorem reach_both (hD : rOk D) {Ic Im : hI} (hc : cR D Ic) (hm : mR D Im) : ∃ y v, mRo_reachedFrom (nI 0) Ic = some y ∧ mJ_bitCount y = v ∧ mM_reached Im = some v := by
  have hn := hD.2.1
  have hn1 := hD.1
  have hb := bm_bit (s := 0) (n := D 0 0) (by omega) hn
  obtain ⟨y, a1, a2⟩ := ro_reach_L hD hc (D 0 0) 0 hF _ _ (by omega) (by unfold hF; omega) hb
  have e1 : (nI 1 <<< (nI 0 &&& nI 31)) = nI 1 := by decide
  have b1 := mp_reach_L hD hm (D 0 0) 0 hF _ _ (by omega) (by unfold hF; omega) hb
  rw [e1] at b1
  refine ⟨y, _, ?_, bm_count a2 hn, ?_⟩
  · unfold mRo_reachedFrom
    exact a1
  · unfold mM_reached
    rw [li_0, li_1]
    exact b1
end Re
