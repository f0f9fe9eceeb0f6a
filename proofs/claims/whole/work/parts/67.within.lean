/-! Within so many rounds. -/
def wS (D : rD) (p : Bool) (f : Nat → Nat) (k4 slot : Nat) : Nat := (if p = true then D 3 slot else D 4 slot) * k4 + sumU (D 0 0) (fun t => D 5 (10 * slot + t) * f t)
def wBest (q : Bool) (g : Nat → Nat) : Nat → Nat
  | 0 => g 0
  | c + 1 => if q = true then (if g (c + 1) < wBest q g c then wBest q g c else g (c + 1)) else (if g (c + 1) < wBest q g c then g (c + 1) else wBest q g c)
def wv (D : rD) (q p : Bool) : Nat → Nat → Nat
  | 0, s => if p = true ∨ 0 < D 1 s then 0 else 1
  | k + 1, s => if 0 < D 1 s then wBest q (fun c => wS D p (wv D q p k) (4 ^ k) (8 * s + c)) (D 1 s - 1) else 4 * wv D q p k s
theorem wBest_le {q : Bool} {g : Nat → Nat} {B : Nat} : ∀ c, (∀ i, i ≤ c → g i ≤ B) → wBest q g c ≤ B
  | 0, h => h 0 (by omega)
  | c + 1, h => by
    have h1 := wBest_le (q := q) c (fun i hi => h i (by omega))
    have h2 := h (c + 1) (by omega)
    unfold wBest
    split <;> split <;> omega
theorem wS_le {D : rD} (hD : rOk D) (p : Bool) {f : Nat → Nat} {B k4 s c : Nat} (hs : s < D 0 0) (hc : c < D 1 s) (hf : ∀ t, t < D 0 0 → f t ≤ B) : wS D p f k4 (8 * s + c) ≤ 1920 * k4 + 4 * B := by
  obtain ⟨_, h3, h4, h5, h6⟩ := hD.2.2.2.2 s hs c hc
  unfold wS
  have e1 : (if p = true then D 3 (8 * s + c) else D 4 (8 * s + c)) * k4 ≤ 1920 * k4 := Nat.mul_le_mul_right _ (by split <;> omega)
  have e2 : sumU (D 0 0) (fun t => D 5 (10 * (8 * s + c) + t) * f t) ≤ sumU (D 0 0) (fun t => D 5 (10 * (8 * s + c) + t) * B) := sumU_le (fun t ht => Nat.mul_le_mul_left _ (hf t ht))
  rw [sumU_mulr] at e2
  have e3 : sumU (D 0 0) (fun t => D 5 (10 * (8 * s + c) + t)) * B ≤ 4 * B := Nat.mul_le_mul_right _ (by omega)
  omega
theorem wv_le {D : rD} (hD : rOk D) (q p : Bool) : ∀ k s, s < D 0 0 → wv D q p k s ≤ 4 ^ k * (480 * k + 1)
  | 0, s, _ => by unfold wv; split <;> simp
  | k + 1, s, hs => by
    have ih := wv_le hD q p k
    unfold wv
    have hB : 4 ^ (k + 1) * (480 * (k + 1) + 1) = 1920 * 4 ^ k + 4 * (4 ^ k * (480 * k + 1)) := by
      rw [Nat.pow_succ]
      generalize 4 ^ k = K
      grind
    rw [hB]
    split
    · refine wBest_le _ (fun i hi => ?_)
      exact wS_le hD p hs (by omega) (fun t ht => ih t ht)
    · have := ih s hs
      omega
theorem pow4_20 {k : Nat} (h : k ≤ 20) : 4 ^ k ≤ 1099511627776 := Nat.le_trans (Nat.pow_le_pow_right (by decide) h) (by decide)
theorem wv_lt {D : rD} (hD : rOk D) (q p : Bool) {k s : Nat} (hk : k ≤ 20) (hs : s < D 0 0) : wv D q p k s < 2 ^ 55 := by
  have h1 := wv_le hD q p k s hs
  have h2 := pow4_20 hk
  have h3 : 4 ^ k * (480 * k + 1) ≤ 1099511627776 * (480 * 20 + 1) := Nat.mul_le_mul h2 (by omega)
  omega
section Hz
variable {D : rD} {I : hI}
theorem hz_by_L (hD : rOk D) (h : cR D I) {w k s c : Nat} (hw : w < 4) (hk : k < 20) (hs : s < D 0 0) (hc : c < D 1 s) {J : hJ} {f : Nat → Nat} (hJ : ∀ t, t < D 0 0 → J (33 + w) (10 * k + t) = lN (f t)) : ∀ (r t acc fuel : Nat), t + r = D 0 0 → r < fuel → mHz_valueBy_L89 fuel (nI w) (nI (k + 1)) (nI (8 * s + c)) (lN acc) (nI t) I J = some (lN (acc + sumF (fun t => D 5 (10 * (8 * s + c) + t) * f t) t r)) := by
  intro r
  have hn := hD.2.1
  have h8 := hD.2.2.2.1 s hs
  induction r with
  | zero =>
    intro t acc fuel ht hf
    obtain ⟨fuel, rfl⟩ : ∃ m, fuel = m + 1 := ⟨fuel - 1, by omega⟩
    unfold mHz_valueBy_L89 mHz_valueBy_B89
    rw [h.1]
    simp (disch := omega) only [↓reduceIte, h_let, hg_in, hg_zb, hg_z0, hg_z1, hg_nz, Option.bind_some, if_pos, if_neg, bI_0, bI_n0, nI_add, nI_mul, nI_ltI, nI_leI, nI_eq, nI_clamp, nI_subN, nI_divN, nI_mod2, nI_m1e, nI_em1, nI_m2e, nI_lt0, m1_lt0, m1_lt, m1_le, h_u_at, h_u_off2, h_u_pl, li_0, li_1, li_2, li_3, li_4, li_5, li_6, li_7, li_8, li_9, li_10, li_11, li_12, li_13, li_14, li_15, li_16, li_17, li_18, li_19, li_20, li_21, li_22, li_23, li_24, li_25, li_26, li_27, li_28, li_29, li_30, li_31, li_32, li_40, li_43, li_45, li_47, li_48, li_57, li_59, li_60, li_61, li_62, li_63, li_64, li_80, li_92, li_97, li_99, li_100, li_122, li_123, li_125, li_166, li_201, li_210, li_250, li_255, li_256, li_257, li_258, li_259, li_260, li_261, li_262, li_263, li_264, li_265, li_266, li_267, li_268, li_300, li_500, li_1000, li_12345, li_27720, li_1000000, li_1103515245, ne_m1, ne_m2, sumF, Nat.add_zero]
  | succ r ih =>
    intro t acc fuel ht hf
    obtain ⟨fuel, rfl⟩ : ∃ m, fuel = m + 1 := ⟨fuel - 1, by omega⟩
    unfold mHz_valueBy_L89 mHz_valueBy_B89
    rw [h.1]
    have e1 := ro_quarters hD h hs hc (t := t) (by omega)
    have e4 := (hD.2.2.2.2 s hs c hc).2.2.2.1 t (by omega)
    have e2 : (k + 1 - 1) * 10 + t = 10 * k + t := by omega
    simp (disch := omega) only [↓reduceIte, h_let, hg_in, hg_zb, hg_z0, hg_z1, hg_nz, Option.bind_some, if_pos, if_neg, bI_0, bI_n0, nI_add, nI_mul, nI_ltI, nI_leI, nI_eq, nI_clamp, nI_subN, nI_divN, nI_mod2, nI_m1e, nI_em1, nI_m2e, nI_lt0, m1_lt0, m1_lt, m1_le, h_u_at, h_u_off2, h_u_pl, li_0, li_1, li_2, li_3, li_4, li_5, li_6, li_7, li_8, li_9, li_10, li_11, li_12, li_13, li_14, li_15, li_16, li_17, li_18, li_19, li_20, li_21, li_22, li_23, li_24, li_25, li_26, li_27, li_28, li_29, li_30, li_31, li_32, li_40, li_43, li_45, li_47, li_48, li_57, li_59, li_60, li_61, li_62, li_63, li_64, li_80, li_92, li_97, li_99, li_100, li_122, li_123, li_125, li_166, li_201, li_210, li_250, li_255, li_256, li_257, li_258, li_259, li_260, li_261, li_262, li_263, li_264, li_265, li_266, li_267, li_268, li_300, li_500, li_1000, li_12345, li_27720, li_1000000, li_1103515245, ne_m1, ne_m2, e1, e2, hJ, nI_l, lN_mul, lN_add]
    rw [ih (t + 1) _ fuel (by omega) (by omega)]
    simp only [sumF]
    congr 2
    omega
theorem hz_by (hD : rOk D) (h : cR D I) {w k s c : Nat} (hw : w < 4) (hk : k < 20) (hs : s < D 0 0) (hc : c < D 1 s) {J : hJ} {f : Nat → Nat} (hJ : ∀ t, t < D 0 0 → J (33 + w) (10 * k + t) = lN (f t)) : mHz_valueBy (nI w) (nI (k + 1)) (nI (8 * s + c)) I J = some (lN (wS D (decide (w % 2 = 1)) f (4 ^ k) (8 * s + c))) := by
  have hn := hD.2.1
  have h8 := hD.2.2.2.1 s hs
  obtain ⟨_, d3, d4, _⟩ := hD.2.2.2.2 s hs c hc
  obtain ⟨_, e3, e4, _⟩ := h.2.2.2.2.2 s hs c hc
  have hp : 2 ^ (2 * k) = 4 ^ k := by rw [Nat.pow_mul]
  unfold mHz_valueBy mHz_valueBy_44 mHz_valueBy_74 mC_isOutside
  have hL := fun acc => hz_by_L hD h hw hk hs hc hJ (D 0 0) 0 acc hF (by omega) (by unfold hF; omega)
  rcases (show w % 2 = 0 ∨ w % 2 = 1 by omega) with hm | hm
  · simp (disch := omega) only [↓reduceIte, h_let, hg_in, hg_zb, hg_z0, hg_z1, hg_nz, Option.bind_some, if_pos, if_neg, bI_0, bI_n0, nI_add, nI_mul, nI_ltI, nI_leI, nI_eq, nI_clamp, nI_subN, nI_divN, nI_mod2, nI_m1e, nI_em1, nI_m2e, nI_lt0, m1_lt0, m1_lt, m1_le, h_u_at, h_u_off2, h_u_pl, li_0, li_1, li_2, li_3, li_4, li_5, li_6, li_7, li_8, li_9, li_10, li_11, li_12, li_13, li_14, li_15, li_16, li_17, li_18, li_19, li_20, li_21, li_22, li_23, li_24, li_25, li_26, li_27, li_28, li_29, li_30, li_31, li_32, li_40, li_43, li_45, li_47, li_48, li_57, li_59, li_60, li_61, li_62, li_63, li_64, li_80, li_92, li_97, li_99, li_100, li_122, li_123, li_125, li_166, li_201, li_210, li_250, li_255, li_256, li_257, li_258, li_259, li_260, li_261, li_262, li_263, li_264, li_265, li_266, li_267, li_268, li_300, li_500, li_1000, li_12345, li_27720, li_1000000, li_1103515245, ne_m1, ne_m2, and1_4, e4, nI_l, lN_shl2, Nat.add_sub_cancel, hp]
    rw [hL]
    simp [wS, hm, sumU]
  · simp (disch := omega) only [↓reduceIte, h_let, hg_in, hg_zb, hg_z0, hg_z1, hg_nz, Option.bind_some, if_pos, if_neg, bI_0, bI_n0, nI_add, nI_mul, nI_ltI, nI_leI, nI_eq, nI_clamp, nI_subN, nI_divN, nI_mod2, nI_m1e, nI_em1, nI_m2e, nI_lt0, m1_lt0, m1_lt, m1_le, h_u_at, h_u_off2, h_u_pl, li_0, li_1, li_2, li_3, li_4, li_5, li_6, li_7, li_8, li_9, li_10, li_11, li_12, li_13, li_14, li_15, li_16, li_17, li_18, li_19, li_20, li_21, li_22, li_23, li_24, li_25, li_26, li_27, li_28, li_29, li_30, li_31, li_32, li_40, li_43, li_45, li_47, li_48, li_57, li_59, li_60, li_61, li_62, li_63, li_64, li_80, li_92, li_97, li_99, li_100, li_122, li_123, li_125, li_166, li_201, li_210, li_250, li_255, li_256, li_257, li_258, li_259, li_260, li_261, li_262, li_263, li_264, li_265, li_266, li_267, li_268, li_300, li_500, li_1000, li_12345, li_27720, li_1000000, li_1103515245, ne_m1, ne_m2, and1_4, e3, nI_l, lN_shl2, Nat.add_sub_cancel, hp]
    rw [hL]
    simp [wS, hm, sumU]
theorem hz_val_L (hD : rOk D) (h : cR D I) {w k s : Nat} (hw : w < 4) (hk : k < 20) (hs : s < D 0 0) (hin : 0 < D 1 s) {J : hJ} {f : Nat → Nat} (hf : ∀ t, t < D 0 0 → f t < 2 ^ 55) (hJ : ∀ t, t < D 0 0 → J (33 + w) (10 * k + t) = lN (f t)) : ∀ (r c fuel : Nat), 0 < c → c + r = D 1 s → r < fuel → mHz_value_L45 fuel (nI w) (nI (k + 1)) (nI s) (lN (wBest (decide (2 ≤ w)) (fun c => wS D (decide (w % 2 = 1)) f (4 ^ k) (8 * s + c)) (c - 1))) (nI c) I J = some (lN (wBest (decide (2 ≤ w)) (fun c => wS D (decide (w % 2 = 1)) f (4 ^ k) (8 * s + c)) (D 1 s - 1))) := by
  intro r
  have hn := hD.2.1
  have h8 := hD.2.2.2.1 s hs
  have h4 := pow4_20 (k := k) (by omega)
  have hlt : ∀ c, c < D 1 s → wS D (decide (w % 2 = 1)) f (4 ^ k) (8 * s + c) < 2 ^ 60 := fun c hc => by
    have := wS_le hD (decide (w % 2 = 1)) (B := 2 ^ 55) (k4 := 4 ^ k) hs hc (fun t ht => Nat.le_of_lt (hf t ht))
    omega
  induction r with
  | zero =>
    intro c fuel hc0 hc hfu
    obtain ⟨fuel, rfl⟩ : ∃ m, fuel = m + 1 := ⟨fuel - 1, by omega⟩
    unfold mHz_value_L45 mHz_value_B45
    obtain rfl : c = D 1 s := by omega
    have e1 := ro_isChoice hD h (s := s) (c := D 1 s) (by omega) (by omega)
    have e2 : decide (s < D 0 0 ∧ D 1 s < D 1 s) = false := by simp
    rw [e2, bI_f] at e1
    simp (disch := omega) only [↓reduceIte, h_let, hg_in, hg_zb, hg_z0, hg_z1, hg_nz, Option.bind_some, if_pos, if_neg, bI_0, bI_n0, nI_add, nI_mul, nI_ltI, nI_leI, nI_eq, nI_clamp, nI_subN, nI_divN, nI_mod2, nI_m1e, nI_em1, nI_m2e, nI_lt0, m1_lt0, m1_lt, m1_le, h_u_at, h_u_off2, h_u_pl, li_0, li_1, li_2, li_3, li_4, li_5, li_6, li_7, li_8, li_9, li_10, li_11, li_12, li_13, li_14, li_15, li_16, li_17, li_18, li_19, li_20, li_21, li_22, li_23, li_24, li_25, li_26, li_27, li_28, li_29, li_30, li_31, li_32, li_40, li_43, li_45, li_47, li_48, li_57, li_59, li_60, li_61, li_62, li_63, li_64, li_80, li_92, li_97, li_99, li_100, li_122, li_123, li_125, li_166, li_201, li_210, li_250, li_255, li_256, li_257, li_258, li_259, li_260, li_261, li_262, li_263, li_264, li_265, li_266, li_267, li_268, li_300, li_500, li_1000, li_12345, li_27720, li_1000000, li_1103515245, ne_m1, ne_m2, e1]
  | succ r ih =>
    intro c fuel hc0 hc hfu
    obtain ⟨fuel, rfl⟩ : ∃ m, fuel = m + 1 := ⟨fuel - 1, by omega⟩
    unfold mHz_value_L45 mHz_value_B45 mHz_value_118
    have e1 := ro_isChoice hD h (s := s) (c := c) (by omega) (by omega)
    have e2 : decide (s < D 0 0 ∧ c < D 1 s) = true := by simp; omega
    rw [e2, bI_t] at e1
    have e3 := hz_by hD h hw hk hs (c := c) (by omega) hJ
    have e4 : s * 8 + c = 8 * s + c := by omega
    have hb : wBest (decide (2 ≤ w)) (fun c => wS D (decide (w % 2 = 1)) f (4 ^ k) (8 * s + c)) (c - 1) < 2 ^ 61 := Nat.lt_of_le_of_lt (wBest_le (B := 2 ^ 60) _ (fun i hi => Nat.le_of_lt (hlt i (by omega)))) (by decide)
    have hg := hlt c (by omega)
    have i1 := ih (c + 1) fuel (by omega) (by omega) (by omega)
    have e5 : c + 1 - 1 = (c - 1) + 1 := by omega
    rw [e5] at i1
    have e6 : c - 1 + 1 = c := by omega
    simp only [wBest, e6] at i1
    generalize wBest (decide (2 ≤ w)) (fun c => wS D (decide (w % 2 = 1)) f (4 ^ k) (8 * s + c)) (c - 1) = b at hb i1 ⊢
    generalize hgg : wS D (decide (w % 2 = 1)) f (4 ^ k) (8 * s + c) = g at hg i1 e3 ⊢
    by_cases h2 : 2 ≤ w
    · rw [if_pos (by simpa using h2)] at i1
      by_cases h3 : g < b
      · rw [if_pos h3] at i1
        simp (disch := omega) only [↓reduceIte, h_let, hg_in, hg_zb, hg_z0, hg_z1, hg_nz, Option.bind_some, if_pos, if_neg, bI_0, bI_n0, nI_add, nI_mul, nI_ltI, nI_leI, nI_eq, nI_clamp, nI_subN, nI_divN, nI_mod2, nI_m1e, nI_em1, nI_m2e, nI_lt0, m1_lt0, m1_lt, m1_le, h_u_at, h_u_off2, h_u_pl, li_0, li_1, li_2, li_3, li_4, li_5, li_6, li_7, li_8, li_9, li_10, li_11, li_12, li_13, li_14, li_15, li_16, li_17, li_18, li_19, li_20, li_21, li_22, li_23, li_24, li_25, li_26, li_27, li_28, li_29, li_30, li_31, li_32, li_40, li_43, li_45, li_47, li_48, li_57, li_59, li_60, li_61, li_62, li_63, li_64, li_80, li_92, li_97, li_99, li_100, li_122, li_123, li_125, li_166, li_201, li_210, li_250, li_255, li_256, li_257, li_258, li_259, li_260, li_261, li_262, li_263, li_264, li_265, li_266, li_267, li_268, li_300, li_500, li_1000, li_12345, li_27720, li_1000000, li_1103515245, ne_m1, ne_m2, e1, e3, e4, lN_leL]
        exact i1
      · rw [if_neg h3] at i1
        by_cases h5 : g = b
        · subst h5
          simp (disch := omega) only [↓reduceIte, h_let, hg_in, hg_zb, hg_z0, hg_z1, hg_nz, Option.bind_some, if_pos, if_neg, bI_0, bI_n0, nI_add, nI_mul, nI_ltI, nI_leI, nI_eq, nI_clamp, nI_subN, nI_divN, nI_mod2, nI_m1e, nI_em1, nI_m2e, nI_lt0, m1_lt0, m1_lt, m1_le, h_u_at, h_u_off2, h_u_pl, li_0, li_1, li_2, li_3, li_4, li_5, li_6, li_7, li_8, li_9, li_10, li_11, li_12, li_13, li_14, li_15, li_16, li_17, li_18, li_19, li_20, li_21, li_22, li_23, li_24, li_25, li_26, li_27, li_28, li_29, li_30, li_31, li_32, li_40, li_43, li_45, li_47, li_48, li_57, li_59, li_60, li_61, li_62, li_63, li_64, li_80, li_92, li_97, li_99, li_100, li_122, li_123, li_125, li_166, li_201, li_210, li_250, li_255, li_256, li_257, li_258, li_259, li_260, li_261, li_262, li_263, li_264, li_265, li_266, li_267, li_268, li_300, li_500, li_1000, li_12345, li_27720, li_1000000, li_1103515245, ne_m1, ne_m2, e1, e3, e4, lN_leL]
          exact i1
        · simp (disch := omega) only [↓reduceIte, h_let, hg_in, hg_zb, hg_z0, hg_z1, hg_nz, Option.bind_some, if_pos, if_neg, bI_0, bI_n0, nI_add, nI_mul, nI_ltI, nI_leI, nI_eq, nI_clamp, nI_subN, nI_divN, nI_mod2, nI_m1e, nI_em1, nI_m2e, nI_lt0, m1_lt0, m1_lt, m1_le, h_u_at, h_u_off2, h_u_pl, li_0, li_1, li_2, li_3, li_4, li_5, li_6, li_7, li_8, li_9, li_10, li_11, li_12, li_13, li_14, li_15, li_16, li_17, li_18, li_19, li_20, li_21, li_22, li_23, li_24, li_25, li_26, li_27, li_28, li_29, li_30, li_31, li_32, li_40, li_43, li_45, li_47, li_48, li_57, li_59, li_60, li_61, li_62, li_63, li_64, li_80, li_92, li_97, li_99, li_100, li_122, li_123, li_125, li_166, li_201, li_210, li_250, li_255, li_256, li_257, li_258, li_259, li_260, li_261, li_262, li_263, li_264, li_265, li_266, li_267, li_268, li_300, li_500, li_1000, li_12345, li_27720, li_1000000, li_1103515245, ne_m1, ne_m2, e1, e3, e4, lN_leL]
          exact i1
    · rw [if_neg (by simpa using h2)] at i1
      by_cases h3 : g < b
      · rw [if_pos h3] at i1
        simp (disch := omega) only [↓reduceIte, h_let, hg_in, hg_zb, hg_z0, hg_z1, hg_nz, Option.bind_some, if_pos, if_neg, bI_0, bI_n0, nI_add, nI_mul, nI_ltI, nI_leI, nI_eq, nI_clamp, nI_subN, nI_divN, nI_mod2, nI_m1e, nI_em1, nI_m2e, nI_lt0, m1_lt0, m1_lt, m1_le, h_u_at, h_u_off2, h_u_pl, li_0, li_1, li_2, li_3, li_4, li_5, li_6, li_7, li_8, li_9, li_10, li_11, li_12, li_13, li_14, li_15, li_16, li_17, li_18, li_19, li_20, li_21, li_22, li_23, li_24, li_25, li_26, li_27, li_28, li_29, li_30, li_31, li_32, li_40, li_43, li_45, li_47, li_48, li_57, li_59, li_60, li_61, li_62, li_63, li_64, li_80, li_92, li_97, li_99, li_100, li_122, li_123, li_125, li_166, li_201, li_210, li_250, li_255, li_256, li_257, li_258, li_259, li_260, li_261, li_262, li_263, li_264, li_265, li_266, li_267, li_268, li_300, li_500, li_1000, li_12345, li_27720, li_1000000, li_1103515245, ne_m1, ne_m2, e1, e3, e4, lN_leL]
        exact i1
      · rw [if_neg h3] at i1
        simp (disch := omega) only [↓reduceIte, h_let, hg_in, hg_zb, hg_z0, hg_z1, hg_nz, Option.bind_some, if_pos, if_neg, bI_0, bI_n0, nI_add, nI_mul, nI_ltI, nI_leI, nI_eq, nI_clamp, nI_subN, nI_divN, nI_mod2, nI_m1e, nI_em1, nI_m2e, nI_lt0, m1_lt0, m1_lt, m1_le, h_u_at, h_u_off2, h_u_pl, li_0, li_1, li_2, li_3, li_4, li_5, li_6, li_7, li_8, li_9, li_10, li_11, li_12, li_13, li_14, li_15, li_16, li_17, li_18, li_19, li_20, li_21, li_22, li_23, li_24, li_25, li_26, li_27, li_28, li_29, li_30, li_31, li_32, li_40, li_43, li_45, li_47, li_48, li_57, li_59, li_60, li_61, li_62, li_63, li_64, li_80, li_92, li_97, li_99, li_100, li_122, li_123, li_125, li_166, li_201, li_210, li_250, li_255, li_256, li_257, li_258, li_259, li_260, li_261, li_262, li_263, li_264, li_265, li_266, li_267, li_268, li_300, li_500, li_1000, li_12345, li_27720, li_1000000, li_1103515245, ne_m1, ne_m2, e1, e3, e4, lN_leL]
        exact i1
theorem hz_value (hD : rOk D) (h : cR D I) {w k s : Nat} (hw : w < 4) (hk : k ≤ 20) (hs : s < D 0 0) {J : hJ} (hJ : ∀ j t, j < k → t < D 0 0 → J (33 + w) (10 * j + t) = lN (wv D (decide (2 ≤ w)) (decide (w % 2 = 1)) j t)) : mHz_value (nI w) (nI k) (nI s) I J = some (lN (wv D (decide (2 ≤ w)) (decide (w % 2 = 1)) k s)) := by
  have hn := hD.2.1
  have h8 := hD.2.2.2.1 s hs
  unfold mHz_value mHz_value_11
  have e1 := ro_isIn hD h (s := s) (by omega)
  have hout : ∀ k, ¬ 0 < D 1 s → wv D (decide (2 ≤ w)) (decide (w % 2 = 1)) k s = if w % 2 = 1 then 0 else 4 ^ k := by
    intro k hno
    induction k with
    | zero => unfold wv; by_cases e : w % 2 = 1 <;> simp [e, hno]
    | succ k ih => unfold wv; rw [if_neg hno, ih, Nat.pow_succ]; split <;> omega
  have hp : 2 ^ (2 * k) = 4 ^ k := by rw [Nat.pow_mul]
  by_cases hin : 0 < D 1 s
  · have e2 : decide (s < D 0 0 ∧ 0 < D 1 s) = true := by simp; omega
    rw [e2, bI_t] at e1
    have key : mHz_value_L45 hF (nI w) (nI k) (nI s) (lN 0) (nI 0) I J = some (lN (wv D (decide (2 ≤ w)) (decide (w % 2 = 1)) k s)) := by
      cases k with
      | zero =>
        unfold hF mHz_value_L45 mHz_value_B45
        simp (disch := omega) only [↓reduceIte, h_let, hg_in, hg_zb, hg_z0, hg_z1, hg_nz, Option.bind_some, if_pos, if_neg, bI_0, bI_n0, nI_add, nI_mul, nI_ltI, nI_leI, nI_eq, nI_clamp, nI_subN, nI_divN, nI_mod2, nI_m1e, nI_em1, nI_m2e, nI_lt0, m1_lt0, m1_lt, m1_le, h_u_at, h_u_off2, h_u_pl, li_0, li_1, li_2, li_3, li_4, li_5, li_6, li_7, li_8, li_9, li_10, li_11, li_12, li_13, li_14, li_15, li_16, li_17, li_18, li_19, li_20, li_21, li_22, li_23, li_24, li_25, li_26, li_27, li_28, li_29, li_30, li_31, li_32, li_40, li_43, li_45, li_47, li_48, li_57, li_59, li_60, li_61, li_62, li_63, li_64, li_80, li_92, li_97, li_99, li_100, li_122, li_123, li_125, li_166, li_201, li_210, li_250, li_255, li_256, li_257, li_258, li_259, li_260, li_261, li_262, li_263, li_264, li_265, li_266, li_267, li_268, li_300, li_500, li_1000, li_12345, li_27720, li_1000000, li_1103515245, ne_m1, ne_m2]
        unfold wv
        simp [hin]
      | succ k =>
        have hf : ∀ t, t < D 0 0 → wv D (decide (2 ≤ w)) (decide (w % 2 = 1)) k t < 2 ^ 55 := fun t ht => wv_lt hD _ _ (by omega) ht
        have hJ2 : ∀ t, t < D 0 0 → J (33 + w) (10 * k + t) = lN (wv D (decide (2 ≤ w)) (decide (w % 2 = 1)) k t) := fun t ht => hJ k t (by omega) ht
        have hL := hz_val_L hD h hw (by omega) hs hin hf hJ2 (D 1 s - 1) 1 999 (by omega) (by omega) (by omega)
        have e3 := hz_by hD h hw (by omega : k < 20) hs hin hJ2
        have e4 := ro_isChoice hD h (s := s) (c := 0) (by omega) (by omega)
        have e5 : decide (s < D 0 0 ∧ 0 < D 1 s) = true := by simp; omega
        rw [e5, bI_t] at e4
        have e6 : s * 8 + 0 = 8 * s + 0 := by omega
        have e7 : wv D (decide (2 ≤ w)) (decide (w % 2 = 1)) (k + 1) s = wBest (decide (2 ≤ w)) (fun c => wS D (decide (w % 2 = 1)) (wv D (decide (2 ≤ w)) (decide (w % 2 = 1)) k) (4 ^ k) (8 * s + c)) (D 1 s - 1) := by
          rw [wv, if_pos hin]
        rw [e7]
        unfold hF
        rw [mHz_value_L45]
        unfold mHz_value_B45 mHz_value_118
        have hb0 : wBest (decide (2 ≤ w)) (fun c => wS D (decide (w % 2 = 1)) (wv D (decide (2 ≤ w)) (decide (w % 2 = 1)) k) (4 ^ k) (8 * s + c)) (1 - 1) = wS D (decide (w % 2 = 1)) (wv D (decide (2 ≤ w)) (decide (w % 2 = 1)) k) (4 ^ k) (8 * s + 0) := rfl
        rw [hb0] at hL
        simp (disch := omega) only [↓reduceIte, h_let, hg_in, hg_zb, hg_z0, hg_z1, hg_nz, Option.bind_some, if_pos, if_neg, bI_0, bI_n0, nI_add, nI_mul, nI_ltI, nI_leI, nI_eq, nI_clamp, nI_subN, nI_divN, nI_mod2, nI_m1e, nI_em1, nI_m2e, nI_lt0, m1_lt0, m1_lt, m1_le, h_u_at, h_u_off2, h_u_pl, li_0, li_1, li_2, li_3, li_4, li_5, li_6, li_7, li_8, li_9, li_10, li_11, li_12, li_13, li_14, li_15, li_16, li_17, li_18, li_19, li_20, li_21, li_22, li_23, li_24, li_25, li_26, li_27, li_28, li_29, li_30, li_31, li_32, li_40, li_43, li_45, li_47, li_48, li_57, li_59, li_60, li_61, li_62, li_63, li_64, li_80, li_92, li_97, li_99, li_100, li_122, li_123, li_125, li_166, li_201, li_210, li_250, li_255, li_256, li_257, li_258, li_259, li_260, li_261, li_262, li_263, li_264, li_265, li_266, li_267, li_268, li_300, li_500, li_1000, li_12345, li_27720, li_1000000, li_1103515245, ne_m1, ne_m2, e4, e3, e6, Nat.zero_add]
        rw [hL]
        by_cases h2 : w < 2
        · rw [if_pos h2]; simp
        · rw [if_neg h2]; simp
    rcases (show w % 2 = 0 ∨ w % 2 = 1 by omega) with hm | hm
    · simp (disch := omega) only [↓reduceIte, h_let, hg_in, hg_zb, hg_z0, hg_z1, hg_nz, Option.bind_some, if_pos, if_neg, bI_0, bI_n0, nI_add, nI_mul, nI_ltI, nI_leI, nI_eq, nI_clamp, nI_subN, nI_divN, nI_mod2, nI_m1e, nI_em1, nI_m2e, nI_lt0, m1_lt0, m1_lt, m1_le, h_u_at, h_u_off2, h_u_pl, li_0, li_1, li_2, li_3, li_4, li_5, li_6, li_7, li_8, li_9, li_10, li_11, li_12, li_13, li_14, li_15, li_16, li_17, li_18, li_19, li_20, li_21, li_22, li_23, li_24, li_25, li_26, li_27, li_28, li_29, li_30, li_31, li_32, li_40, li_43, li_45, li_47, li_48, li_57, li_59, li_60, li_61, li_62, li_63, li_64, li_80, li_92, li_97, li_99, li_100, li_122, li_123, li_125, li_166, li_201, li_210, li_250, li_255, li_256, li_257, li_258, li_259, li_260, li_261, li_262, li_263, li_264, li_265, li_266, li_267, li_268, li_300, li_500, li_1000, li_12345, li_27720, li_1000000, li_1103515245, ne_m1, ne_m2, and1_4, e1, ll_0, ll_1]
      exact key
    · simp (disch := omega) only [↓reduceIte, h_let, hg_in, hg_zb, hg_z0, hg_z1, hg_nz, Option.bind_some, if_pos, if_neg, bI_0, bI_n0, nI_add, nI_mul, nI_ltI, nI_leI, nI_eq, nI_clamp, nI_subN, nI_divN, nI_mod2, nI_m1e, nI_em1, nI_m2e, nI_lt0, m1_lt0, m1_lt, m1_le, h_u_at, h_u_off2, h_u_pl, li_0, li_1, li_2, li_3, li_4, li_5, li_6, li_7, li_8, li_9, li_10, li_11, li_12, li_13, li_14, li_15, li_16, li_17, li_18, li_19, li_20, li_21, li_22, li_23, li_24, li_25, li_26, li_27, li_28, li_29, li_30, li_31, li_32, li_40, li_43, li_45, li_47, li_48, li_57, li_59, li_60, li_61, li_62, li_63, li_64, li_80, li_92, li_97, li_99, li_100, li_122, li_123, li_125, li_166, li_201, li_210, li_250, li_255, li_256, li_257, li_258, li_259, li_260, li_261, li_262, li_263, li_264, li_265, li_266, li_267, li_268, li_300, li_500, li_1000, li_12345, li_27720, li_1000000, li_1103515245, ne_m1, ne_m2, and1_4, e1, ll_0, ll_1]
      exact key
  · have e2 : decide (s < D 0 0 ∧ 0 < D 1 s) = false := by simp; omega
    rw [e2, bI_f] at e1
    rw [hout k hin]
    rcases (show w % 2 = 0 ∨ w % 2 = 1 by omega) with hm | hm
    · simp (disch := omega) only [↓reduceIte, h_let, hg_in, hg_zb, hg_z0, hg_z1, hg_nz, Option.bind_some, if_pos, if_neg, bI_0, bI_n0, nI_add, nI_mul, nI_ltI, nI_leI, nI_eq, nI_clamp, nI_subN, nI_divN, nI_mod2, nI_m1e, nI_em1, nI_m2e, nI_lt0, m1_lt0, m1_lt, m1_le, h_u_at, h_u_off2, h_u_pl, li_0, li_1, li_2, li_3, li_4, li_5, li_6, li_7, li_8, li_9, li_10, li_11, li_12, li_13, li_14, li_15, li_16, li_17, li_18, li_19, li_20, li_21, li_22, li_23, li_24, li_25, li_26, li_27, li_28, li_29, li_30, li_31, li_32, li_40, li_43, li_45, li_47, li_48, li_57, li_59, li_60, li_61, li_62, li_63, li_64, li_80, li_92, li_97, li_99, li_100, li_122, li_123, li_125, li_166, li_201, li_210, li_250, li_255, li_256, li_257, li_258, li_259, li_260, li_261, li_262, li_263, li_264, li_265, li_266, li_267, li_268, li_300, li_500, li_1000, li_12345, li_27720, li_1000000, li_1103515245, ne_m1, ne_m2, and1_4, e1, ll_0, ll_1, nI_l, lN_shl2, hp, Nat.one_mul]
    · simp (disch := omega) only [↓reduceIte, h_let, hg_in, hg_zb, hg_z0, hg_z1, hg_nz, Option.bind_some, if_pos, if_neg, bI_0, bI_n0, nI_add, nI_mul, nI_ltI, nI_leI, nI_eq, nI_clamp, nI_subN, nI_divN, nI_mod2, nI_m1e, nI_em1, nI_m2e, nI_lt0, m1_lt0, m1_lt, m1_le, h_u_at, h_u_off2, h_u_pl, li_0, li_1, li_2, li_3, li_4, li_5, li_6, li_7, li_8, li_9, li_10, li_11, li_12, li_13, li_14, li_15, li_16, li_17, li_18, li_19, li_20, li_21, li_22, li_23, li_24, li_25, li_26, li_27, li_28, li_29, li_30, li_31, li_32, li_40, li_43, li_45, li_47, li_48, li_57, li_59, li_60, li_61, li_62, li_63, li_64, li_80, li_92, li_97, li_99, li_100, li_122, li_123, li_125, li_166, li_201, li_210, li_250, li_255, li_256, li_257, li_258, li_259, li_260, li_261, li_262, li_263, li_264, li_265, li_266, li_267, li_268, li_300, li_500, li_1000, li_12345, li_27720, li_1000000, li_1103515245, ne_m1, ne_m2, and1_4, e1, ll_0, ll_1, nI_l, lN_shl2, hp]
/-- what the class keeps of it -/
def hzOk (D : rD) (I : hI) (J : hJ) : Prop := ∀ w, w < 4 → ∃ m, m ≤ 21 ∧ I 37 w = nI m ∧ ∀ k s, k < m → s < D 0 0 → J (33 + w) (10 * k + s) = lN (wv D (decide (2 ≤ w)) (decide (w % 2 = 1)) k s)
theorem cR_37 {I' : hI} (h : cR D I) (hI : ∀ c i, c ≠ 37 → I' c i = I c i) : cR D I' := by
  unfold cR at h ⊢
  simp (disch := omega) only [hI]
  exact h
theorem hz_row_L (hD : rOk D) (h : cR D I) {w k x row : Nat} (hw : w < 4) (hrow : row ≤ 20) (k73 : Int32 → Int32 → Int32 → Int32 → hI → hJ → Option (Int64 × hI × hJ)) : ∀ (r j fuel : Nat) (J : hJ), j + r = D 0 0 → r < fuel → (∀ i t, i < row → t < D 0 0 → J (33 + w) (10 * i + t) = lN (wv D (decide (2 ≤ w)) (decide (w % 2 = 1)) i t)) → (∀ t, t < j → J (33 + w) (10 * row + t) = lN (wv D (decide (2 ≤ w)) (decide (w % 2 = 1)) row t)) →
    ∃ J' : hJ, mHz_told_L82 k73 fuel (nI k) (nI w) (nI x) (nI row) (nI j) I J = k73 (nI k) (nI w) (nI x) (nI (row + 1)) (h_u I 37 w (nI (row + 1))) J' ∧ (∀ c i, c ≠ 33 + w → J' c i = J c i) ∧ ∀ i t, i < row + 1 → t < D 0 0 → J' (33 + w) (10 * i + t) = lN (wv D (decide (2 ≤ w)) (decide (w % 2 = 1)) i t) := by
  have hn := hD.2.1
  intro r
  induction r with
  | zero =>
    intro j fuel J hj hf h1 h2
    obtain ⟨fuel, rfl⟩ : ∃ m, fuel = m + 1 := ⟨fuel - 1, by omega⟩
    unfold mHz_told_L82 mHz_told_B82
    rw [h.1]
    simp (disch := omega) only [↓reduceIte, h_let, hg_in, hg_zb, hg_z0, hg_z1, hg_nz, Option.bind_some, if_pos, if_neg, bI_0, bI_n0, nI_add, nI_mul, nI_ltI, nI_leI, nI_eq, nI_clamp, nI_subN, nI_divN, nI_mod2, nI_m1e, nI_em1, nI_m2e, nI_lt0, m1_lt0, m1_lt, m1_le, h_u_at, h_u_off2, h_u_pl, li_0, li_1, li_2, li_3, li_4, li_5, li_6, li_7, li_8, li_9, li_10, li_11, li_12, li_13, li_14, li_15, li_16, li_17, li_18, li_19, li_20, li_21, li_22, li_23, li_24, li_25, li_26, li_27, li_28, li_29, li_30, li_31, li_32, li_40, li_43, li_45, li_47, li_48, li_57, li_59, li_60, li_61, li_62, li_63, li_64, li_80, li_92, li_97, li_99, li_100, li_122, li_123, li_125, li_166, li_201, li_210, li_250, li_255, li_256, li_257, li_258, li_259, li_260, li_261, li_262, li_263, li_264, li_265, li_266, li_267, li_268, li_300, li_500, li_1000, li_12345, li_27720, li_1000000, li_1103515245, ne_m1, ne_m2]
    refine ⟨J, rfl, fun _ _ _ => rfl, fun i t hi ht => ?_⟩
    by_cases e : i = row
    · subst e; exact h2 t (by omega)
    · exact h1 i t (by omega) ht
  | succ r ih =>
    intro j fuel J hj hf h1 h2
    obtain ⟨fuel, rfl⟩ : ∃ m, fuel = m + 1 := ⟨fuel - 1, by omega⟩
    unfold mHz_told_L82 mHz_told_B82
    rw [h.1]
    have hv := hz_value hD h hw hrow (s := j) (by omega) h1
    have e1 : row * 10 + j = 10 * row + j := by omega
    simp (disch := omega) only [↓reduceIte, h_let, hg_in, hg_zb, hg_z0, hg_z1, hg_nz, Option.bind_some, if_pos, if_neg, bI_0, bI_n0, nI_add, nI_mul, nI_ltI, nI_leI, nI_eq, nI_clamp, nI_subN, nI_divN, nI_mod2, nI_m1e, nI_em1, nI_m2e, nI_lt0, m1_lt0, m1_lt, m1_le, h_u_at, h_u_off2, h_u_pl, li_0, li_1, li_2, li_3, li_4, li_5, li_6, li_7, li_8, li_9, li_10, li_11, li_12, li_13, li_14, li_15, li_16, li_17, li_18, li_19, li_20, li_21, li_22, li_23, li_24, li_25, li_26, li_27, li_28, li_29, li_30, li_31, li_32, li_40, li_43, li_45, li_47, li_48, li_57, li_59, li_60, li_61, li_62, li_63, li_64, li_80, li_92, li_97, li_99, li_100, li_122, li_123, li_125, li_166, li_201, li_210, li_250, li_255, li_256, li_257, li_258, li_259, li_260, li_261, li_262, li_263, li_264, li_265, li_266, li_267, li_268, li_300, li_500, li_1000, li_12345, li_27720, li_1000000, li_1103515245, ne_m1, ne_m2, hv, e1]
    obtain ⟨J', a1, a2, a3⟩ := ih (j + 1) fuel (h_u J (33 + w) (10 * row + j) (lN (wv D (decide (2 ≤ w)) (decide (w % 2 = 1)) row j))) (by omega) (by omega) (fun i t hi ht => by
      rw [h_u_pl _ _ _ (by omega)]; exact h1 i t hi ht) (fun t ht => by
      by_cases e : t = j
      · subst e; rw [h_u_at]
      · rw [h_u_pl _ _ _ (by omega)]; exact h2 t (by omega))
    exact ⟨J', a1, fun c i hc => by rw [a2 c i hc, h_u_off2 _ _ _ _ hc], a3⟩
theorem hz_told_L (hD : rOk D) {w k s : Nat} (hw : w < 4) (hk : k ≤ 20) (hs : s < D 0 0) : ∀ (r row fuel : Nat) (I : hI) (J : hJ), cR D I → row + r = 21 → r < fuel → I 37 w = nI row → (∀ i t, i < row → t < D 0 0 → J (33 + w) (10 * i + t) = lN (wv D (decide (2 ≤ w)) (decide (w % 2 = 1)) i t)) →
    ∃ (I' : hI) (J' : hJ), mHz_told_L73 fuel (nI k) (nI w) (nI (10 * k + s)) (nI row) I J = some (lN (wv D (decide (2 ≤ w)) (decide (w % 2 = 1)) k s), I', J') ∧ (∀ c i, (c ≠ 37 ∨ i ≠ w) → I' c i = I c i) ∧ (∀ c i, c ≠ 33 + w → J' c i = J c i) ∧ ∃ m, m ≤ 21 ∧ I' 37 w = nI m ∧ ∀ i t, i < m → t < D 0 0 → J' (33 + w) (10 * i + t) = lN (wv D (decide (2 ≤ w)) (decide (w % 2 = 1)) i t) := by
  have hn := hD.2.1
  intro r
  induction r with
  | zero =>
    intro row fuel I J hc hr hf hm h1
    obtain ⟨fuel, rfl⟩ : ∃ m, fuel = m + 1 := ⟨fuel - 1, by omega⟩
    unfold mHz_told_L73 mHz_told_B73
    simp (disch := omega) only [↓reduceIte, h_let, hg_in, hg_zb, hg_z0, hg_z1, hg_nz, Option.bind_some, if_pos, if_neg, bI_0, bI_n0, nI_add, nI_mul, nI_ltI, nI_leI, nI_eq, nI_clamp, nI_subN, nI_divN, nI_mod2, nI_m1e, nI_em1, nI_m2e, nI_lt0, m1_lt0, m1_lt, m1_le, h_u_at, h_u_off2, h_u_pl, li_0, li_1, li_2, li_3, li_4, li_5, li_6, li_7, li_8, li_9, li_10, li_11, li_12, li_13, li_14, li_15, li_16, li_17, li_18, li_19, li_20, li_21, li_22, li_23, li_24, li_25, li_26, li_27, li_28, li_29, li_30, li_31, li_32, li_40, li_43, li_45, li_47, li_48, li_57, li_59, li_60, li_61, li_62, li_63, li_64, li_80, li_92, li_97, li_99, li_100, li_122, li_123, li_125, li_166, li_201, li_210, li_250, li_255, li_256, li_257, li_258, li_259, li_260, li_261, li_262, li_263, li_264, li_265, li_266, li_267, li_268, li_300, li_500, li_1000, li_12345, li_27720, li_1000000, li_1103515245, ne_m1, ne_m2, h1 k s (by omega) hs]
    exact ⟨I, J, rfl, fun _ _ _ => rfl, fun _ _ _ => rfl, row, by omega, hm, h1⟩
  | succ r ih =>
    intro row fuel I J hc hr hf hm h1
    obtain ⟨fuel, rfl⟩ : ∃ m, fuel = m + 1 := ⟨fuel - 1, by omega⟩
    unfold mHz_told_L73 mHz_told_B73
    by_cases hlt : k < row
    · simp (disch := omega) only [↓reduceIte, h_let, hg_in, hg_zb, hg_z0, hg_z1, hg_nz, Option.bind_some, if_pos, if_neg, bI_0, bI_n0, nI_add, nI_mul, nI_ltI, nI_leI, nI_eq, nI_clamp, nI_subN, nI_divN, nI_mod2, nI_m1e, nI_em1, nI_m2e, nI_lt0, m1_lt0, m1_lt, m1_le, h_u_at, h_u_off2, h_u_pl, li_0, li_1, li_2, li_3, li_4, li_5, li_6, li_7, li_8, li_9, li_10, li_11, li_12, li_13, li_14, li_15, li_16, li_17, li_18, li_19, li_20, li_21, li_22, li_23, li_24, li_25, li_26, li_27, li_28, li_29, li_30, li_31, li_32, li_40, li_43, li_45, li_47, li_48, li_57, li_59, li_60, li_61, li_62, li_63, li_64, li_80, li_92, li_97, li_99, li_100, li_122, li_123, li_125, li_166, li_201, li_210, li_250, li_255, li_256, li_257, li_258, li_259, li_260, li_261, li_262, li_263, li_264, li_265, li_266, li_267, li_268, li_300, li_500, li_1000, li_12345, li_27720, li_1000000, li_1103515245, ne_m1, ne_m2, h1 k s (by omega) hs]
      exact ⟨I, J, rfl, fun _ _ _ => rfl, fun _ _ _ => rfl, row, by omega, hm, h1⟩
    · obtain ⟨J1, a1, a2, a3⟩ := hz_row_L hD hc (k := k) (x := 10 * k + s) hw (by omega : row ≤ 20) (mHz_told_L73 fuel) (D 0 0) 0 hF J (by omega) (by unfold hF; omega) h1 (fun t ht => absurd ht (by omega))
      have hc1 : cR D (h_u I 37 w (nI (row + 1))) := cR_37 hc (fun c i hne => h_u_off2 _ _ _ _ hne)
      obtain ⟨I2, J2, b1, b2, b3, b4⟩ := ih (row + 1) fuel (h_u I 37 w (nI (row + 1))) J1 hc1 (by omega) (by omega) (h_u_at _ _ _ _) a3
      simp (disch := omega) only [↓reduceIte, h_let, hg_in, hg_zb, hg_z0, hg_z1, hg_nz, Option.bind_some, if_pos, if_neg, bI_0, bI_n0, nI_add, nI_mul, nI_ltI, nI_leI, nI_eq, nI_clamp, nI_subN, nI_divN, nI_mod2, nI_m1e, nI_em1, nI_m2e, nI_lt0, m1_lt0, m1_lt, m1_le, h_u_at, h_u_off2, h_u_pl, li_0, li_1, li_2, li_3, li_4, li_5, li_6, li_7, li_8, li_9, li_10, li_11, li_12, li_13, li_14, li_15, li_16, li_17, li_18, li_19, li_20, li_21, li_22, li_23, li_24, li_25, li_26, li_27, li_28, li_29, li_30, li_31, li_32, li_40, li_43, li_45, li_47, li_48, li_57, li_59, li_60, li_61, li_62, li_63, li_64, li_80, li_92, li_97, li_99, li_100, li_122, li_123, li_125, li_166, li_201, li_210, li_250, li_255, li_256, li_257, li_258, li_259, li_260, li_261, li_262, li_263, li_264, li_265, li_266, li_267, li_268, li_300, li_500, li_1000, li_12345, li_27720, li_1000000, li_1103515245, ne_m1, ne_m2, a1, b1]
      refine ⟨I2, J2, rfl, fun c i hne => ?_, fun c i hne => by rw [b3 c i hne, a2 c i hne], b4⟩
      rw [b2 c i hne]
      rcases hne with hne | hne
      · exact h_u_off2 _ _ _ _ hne
      · by_cases e : c = 37
        · subst e; exact h_u_pl _ _ _ hne
        · exact h_u_off2 _ _ _ _ e
theorem hz_told (hD : rOk D) (hc : cR D I) {J : hJ} (ho : hzOk D I J) {q p : Bool} {k s : Nat} (hk : k ≤ 20) (hs : s < D 0 0) : ∃ (I' : hI) (J' : hJ), mHz_told (bI q) (bI p) (nI k) (nI s) I J = some (lN (wv D q p k s), I', J') ∧ (∀ c i, c ≠ 37 → I' c i = I c i) ∧ (∀ c i, (c < 33 ∨ 36 < c) → J' c i = J c i) ∧ hzOk D I' J' := by
  have hn := hD.2.1
  have key : ∀ w, w < 4 → decide (2 ≤ w) = q → decide (w % 2 = 1) = p → ∃ (I' : hI) (J' : hJ), mHz_told_L73 hF (nI k) (nI w) (nI (10 * k + s)) (I 37 w) I J = some (lN (wv D q p k s), I', J') ∧ (∀ c i, c ≠ 37 → I' c i = I c i) ∧ (∀ c i, (c < 33 ∨ 36 < c) → J' c i = J c i) ∧ hzOk D I' J' := by
    intro w hw hq hp
    obtain ⟨m, hm, e1, e2⟩ := ho w hw
    obtain ⟨I', J', a1, a2, a3, m', g1, g2, g3⟩ := hz_told_L hD hw hk hs (21 - m) m hF I J hc (by omega) (by unfold hF; omega) e1 e2
    rw [e1, a1, hq, hp]
    refine ⟨I', J', rfl, fun c i hne => a2 c i (Or.inl hne), fun c i hne => a3 c i (by omega), fun w2 hw2 => ?_⟩
    by_cases e : w2 = w
    · subst e; exact ⟨m', g1, g2, g3⟩
    · obtain ⟨m2, k1, k2, k3⟩ := ho w2 hw2
      exact ⟨m2, k1, by rw [a2 37 w2 (Or.inr e)]; exact k2, fun i t hi ht => by rw [a3 (33 + w2) _ (by omega)]; exact k3 i t hi ht⟩
  unfold mHz_told mHz_told_9 mC_isOutside
  have e1 : k * 10 + s = 10 * k + s := by omega
  cases q <;> cases p
  · have h := key 0 (by decide) (by decide) (by decide)
    simp (disch := omega) only [↓reduceIte, h_let, hg_in, hg_zb, hg_z0, hg_z1, hg_nz, Option.bind_some, if_pos, if_neg, bI_0, bI_n0, nI_add, nI_mul, nI_ltI, nI_leI, nI_eq, nI_clamp, nI_subN, nI_divN, nI_mod2, nI_m1e, nI_em1, nI_m2e, nI_lt0, m1_lt0, m1_lt, m1_le, h_u_at, h_u_off2, h_u_pl, li_0, li_1, li_2, li_3, li_4, li_5, li_6, li_7, li_8, li_9, li_10, li_11, li_12, li_13, li_14, li_15, li_16, li_17, li_18, li_19, li_20, li_21, li_22, li_23, li_24, li_25, li_26, li_27, li_28, li_29, li_30, li_31, li_32, li_40, li_43, li_45, li_47, li_48, li_57, li_59, li_60, li_61, li_62, li_63, li_64, li_80, li_92, li_97, li_99, li_100, li_122, li_123, li_125, li_166, li_201, li_210, li_250, li_255, li_256, li_257, li_258, li_259, li_260, li_261, li_262, li_263, li_264, li_265, li_266, li_267, li_268, li_300, li_500, li_1000, li_12345, li_27720, li_1000000, li_1103515245, ne_m1, ne_m2, bI_t, bI_f, e1]
    exact h
  · have h := key 1 (by decide) (by decide) (by decide)
    simp (disch := omega) only [↓reduceIte, h_let, hg_in, hg_zb, hg_z0, hg_z1, hg_nz, Option.bind_some, if_pos, if_neg, bI_0, bI_n0, nI_add, nI_mul, nI_ltI, nI_leI, nI_eq, nI_clamp, nI_subN, nI_divN, nI_mod2, nI_m1e, nI_em1, nI_m2e, nI_lt0, m1_lt0, m1_lt, m1_le, h_u_at, h_u_off2, h_u_pl, li_0, li_1, li_2, li_3, li_4, li_5, li_6, li_7, li_8, li_9, li_10, li_11, li_12, li_13, li_14, li_15, li_16, li_17, li_18, li_19, li_20, li_21, li_22, li_23, li_24, li_25, li_26, li_27, li_28, li_29, li_30, li_31, li_32, li_40, li_43, li_45, li_47, li_48, li_57, li_59, li_60, li_61, li_62, li_63, li_64, li_80, li_92, li_97, li_99, li_100, li_122, li_123, li_125, li_166, li_201, li_210, li_250, li_255, li_256, li_257, li_258, li_259, li_260, li_261, li_262, li_263, li_264, li_265, li_266, li_267, li_268, li_300, li_500, li_1000, li_12345, li_27720, li_1000000, li_1103515245, ne_m1, ne_m2, bI_t, bI_f, e1]
    exact h
  · have h := key 2 (by decide) (by decide) (by decide)
    simp (disch := omega) only [↓reduceIte, h_let, hg_in, hg_zb, hg_z0, hg_z1, hg_nz, Option.bind_some, if_pos, if_neg, bI_0, bI_n0, nI_add, nI_mul, nI_ltI, nI_leI, nI_eq, nI_clamp, nI_subN, nI_divN, nI_mod2, nI_m1e, nI_em1, nI_m2e, nI_lt0, m1_lt0, m1_lt, m1_le, h_u_at, h_u_off2, h_u_pl, li_0, li_1, li_2, li_3, li_4, li_5, li_6, li_7, li_8, li_9, li_10, li_11, li_12, li_13, li_14, li_15, li_16, li_17, li_18, li_19, li_20, li_21, li_22, li_23, li_24, li_25, li_26, li_27, li_28, li_29, li_30, li_31, li_32, li_40, li_43, li_45, li_47, li_48, li_57, li_59, li_60, li_61, li_62, li_63, li_64, li_80, li_92, li_97, li_99, li_100, li_122, li_123, li_125, li_166, li_201, li_210, li_250, li_255, li_256, li_257, li_258, li_259, li_260, li_261, li_262, li_263, li_264, li_265, li_266, li_267, li_268, li_300, li_500, li_1000, li_12345, li_27720, li_1000000, li_1103515245, ne_m1, ne_m2, bI_t, bI_f, e1]
    exact h
  · have h := key 3 (by decide) (by decide) (by decide)
    simp (disch := omega) only [↓reduceIte, h_let, hg_in, hg_zb, hg_z0, hg_z1, hg_nz, Option.bind_some, if_pos, if_neg, bI_0, bI_n0, nI_add, nI_mul, nI_ltI, nI_leI, nI_eq, nI_clamp, nI_subN, nI_divN, nI_mod2, nI_m1e, nI_em1, nI_m2e, nI_lt0, m1_lt0, m1_lt, m1_le, h_u_at, h_u_off2, h_u_pl, li_0, li_1, li_2, li_3, li_4, li_5, li_6, li_7, li_8, li_9, li_10, li_11, li_12, li_13, li_14, li_15, li_16, li_17, li_18, li_19, li_20, li_21, li_22, li_23, li_24, li_25, li_26, li_27, li_28, li_29, li_30, li_31, li_32, li_40, li_43, li_45, li_47, li_48, li_57, li_59, li_60, li_61, li_62, li_63, li_64, li_80, li_92, li_97, li_99, li_100, li_122, li_123, li_125, li_166, li_201, li_210, li_250, li_255, li_256, li_257, li_258, li_259, li_260, li_261, li_262, li_263, li_264, li_265, li_266, li_267, li_268, li_300, li_500, li_1000, li_12345, li_27720, li_1000000, li_1103515245, ne_m1, ne_m2, bI_t, bI_f, e1]
    exact h
end Hz
