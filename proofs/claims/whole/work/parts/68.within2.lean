/-! Within so many rounds: the reference's side; the calls. -/
section Mw
variable {D : rD} {I : hI}
theorem m_isInside (hD : rOk D) (h : mR D I) {s : Nat} (hs : s < D 0 0) : mM_isInside (nI s) I = some (bI (decide (0 < D 1 s))) := by
  have hn := hD.2.1
  have h8 := hD.2.2.2.1 s hs
  unfold mM_isInside
  by_cases h1 : 0 < D 1 s
  · simp (disch := omega) only [↓reduceIte, h_let, hg_in, hg_zb, hg_z0, hg_z1, hg_nz, Option.bind_some, if_pos, if_neg, bI_0, bI_n0, nI_add, nI_mul, nI_ltI, nI_leI, nI_eq, nI_clamp, nI_subN, nI_divN, nI_mod2, nI_m1e, nI_em1, nI_m2e, nI_lt0, m1_lt0, m1_lt, m1_le, h_u_at, h_u_off2, h_u_pl, li_0, li_1, li_2, li_3, li_4, li_5, li_6, li_7, li_8, li_9, li_10, li_11, li_12, li_13, li_14, li_15, li_16, li_17, li_18, li_19, li_20, li_21, li_22, li_23, li_24, li_25, li_26, li_27, li_28, li_29, li_30, li_31, li_32, li_40, li_43, li_45, li_47, li_48, li_57, li_59, li_60, li_61, li_62, li_63, li_64, li_80, li_92, li_97, li_99, li_100, li_122, li_123, li_125, li_166, li_201, li_210, li_250, li_255, li_256, li_257, li_258, li_259, li_260, li_261, li_262, li_263, li_264, li_265, li_266, li_267, li_268, li_300, li_500, li_1000, li_12345, li_27720, li_1000000, li_1103515245, ne_m1, ne_m2, h.2.2.2.1 s hs]
    simp [h1, bI]
  · simp (disch := omega) only [↓reduceIte, h_let, hg_in, hg_zb, hg_z0, hg_z1, hg_nz, Option.bind_some, if_pos, if_neg, bI_0, bI_n0, nI_add, nI_mul, nI_ltI, nI_leI, nI_eq, nI_clamp, nI_subN, nI_divN, nI_mod2, nI_m1e, nI_em1, nI_m2e, nI_lt0, m1_lt0, m1_lt, m1_le, h_u_at, h_u_off2, h_u_pl, li_0, li_1, li_2, li_3, li_4, li_5, li_6, li_7, li_8, li_9, li_10, li_11, li_12, li_13, li_14, li_15, li_16, li_17, li_18, li_19, li_20, li_21, li_22, li_23, li_24, li_25, li_26, li_27, li_28, li_29, li_30, li_31, li_32, li_40, li_43, li_45, li_47, li_48, li_57, li_59, li_60, li_61, li_62, li_63, li_64, li_80, li_92, li_97, li_99, li_100, li_122, li_123, li_125, li_166, li_201, li_210, li_250, li_255, li_256, li_257, li_258, li_259, li_260, li_261, li_262, li_263, li_264, li_265, li_266, li_267, li_268, li_300, li_500, li_1000, li_12345, li_27720, li_1000000, li_1103515245, ne_m1, ne_m2, h.2.2.2.1 s hs]
    simp [h1, bI]
theorem mw_of_L (hD : rOk D) (h : mR D I) {s c : Nat} (hs : s < D 0 0) (hc : c < D 1 s) {J : hJ} {f : Nat → Nat} (gJ : ∀ t, t < D 0 0 → J 44 t = lN (f t)) : ∀ (r t acc fuel : Nat), t + r = D 0 0 → r < fuel → mM_withinOf_L38 fuel (nI (8 * s + c)) (lN acc) (nI t) I J = some (lN (acc + sumF (fun t => D 5 (10 * (8 * s + c) + t) * f t) t r)) := by
  intro r
  have hn := hD.2.1
  have h8 := hD.2.2.2.1 s hs
  induction r with
  | zero =>
    intro t acc fuel ht hf
    obtain ⟨fuel, rfl⟩ : ∃ m, fuel = m + 1 := ⟨fuel - 1, by omega⟩
    unfold mM_withinOf_L38 mM_withinOf_B38
    rw [h.1]
    simp (disch := omega) only [↓reduceIte, h_let, hg_in, hg_zb, hg_z0, hg_z1, hg_nz, Option.bind_some, if_pos, if_neg, bI_0, bI_n0, nI_add, nI_mul, nI_ltI, nI_leI, nI_eq, nI_clamp, nI_subN, nI_divN, nI_mod2, nI_m1e, nI_em1, nI_m2e, nI_lt0, m1_lt0, m1_lt, m1_le, h_u_at, h_u_off2, h_u_pl, li_0, li_1, li_2, li_3, li_4, li_5, li_6, li_7, li_8, li_9, li_10, li_11, li_12, li_13, li_14, li_15, li_16, li_17, li_18, li_19, li_20, li_21, li_22, li_23, li_24, li_25, li_26, li_27, li_28, li_29, li_30, li_31, li_32, li_40, li_43, li_45, li_47, li_48, li_57, li_59, li_60, li_61, li_62, li_63, li_64, li_80, li_92, li_97, li_99, li_100, li_122, li_123, li_125, li_166, li_201, li_210, li_250, li_255, li_256, li_257, li_258, li_259, li_260, li_261, li_262, li_263, li_264, li_265, li_266, li_267, li_268, li_300, li_500, li_1000, li_12345, li_27720, li_1000000, li_1103515245, ne_m1, ne_m2, sumF, Nat.add_zero]
  | succ r ih =>
    intro t acc fuel ht hf
    obtain ⟨fuel, rfl⟩ : ∃ m, fuel = m + 1 := ⟨fuel - 1, by omega⟩
    unfold mM_withinOf_L38 mM_withinOf_B38
    rw [h.1]
    have e1 := (h.2.2.2.2 s hs c hc).2.2.2 t (by omega)
    have e4 := (hD.2.2.2.2 s hs c hc).2.2.2.1 t (by omega)
    simp (disch := omega) only [↓reduceIte, h_let, hg_in, hg_zb, hg_z0, hg_z1, hg_nz, Option.bind_some, if_pos, if_neg, bI_0, bI_n0, nI_add, nI_mul, nI_ltI, nI_leI, nI_eq, nI_clamp, nI_subN, nI_divN, nI_mod2, nI_m1e, nI_em1, nI_m2e, nI_lt0, m1_lt0, m1_lt, m1_le, h_u_at, h_u_off2, h_u_pl, li_0, li_1, li_2, li_3, li_4, li_5, li_6, li_7, li_8, li_9, li_10, li_11, li_12, li_13, li_14, li_15, li_16, li_17, li_18, li_19, li_20, li_21, li_22, li_23, li_24, li_25, li_26, li_27, li_28, li_29, li_30, li_31, li_32, li_40, li_43, li_45, li_47, li_48, li_57, li_59, li_60, li_61, li_62, li_63, li_64, li_80, li_92, li_97, li_99, li_100, li_122, li_123, li_125, li_166, li_201, li_210, li_250, li_255, li_256, li_257, li_258, li_259, li_260, li_261, li_262, li_263, li_264, li_265, li_266, li_267, li_268, li_300, li_500, li_1000, li_12345, li_27720, li_1000000, li_1103515245, ne_m1, ne_m2, e1, gJ, nI_l, lN_mul, lN_add]
    rw [ih (t + 1) _ fuel (by omega) (by omega)]
    simp only [sumF]
    congr 2
    omega
theorem mw_of (hD : rOk D) (h : mR D I) {s c k4 : Nat} (hs : s < D 0 0) (hc : c < D 1 s) (p : Bool) {J : hJ} {f : Nat → Nat} (gJ : ∀ t, t < D 0 0 → J 44 t = lN (f t)) : mM_withinOf (nI s) (nI c) (bI p) (lN k4) I J = some (lN (wS D p f k4 (8 * s + c))) := by
  have hn := hD.2.1
  have h8 := hD.2.2.2.1 s hs
  obtain ⟨_, d3, d4, _⟩ := hD.2.2.2.2 s hs c hc
  obtain ⟨_, e3, e4, _⟩ := h.2.2.2.2 s hs c hc
  unfold mM_withinOf mM_choiceAt
  have hL := fun acc => mw_of_L hD h hs hc gJ (D 0 0) 0 acc hF (by omega) (by unfold hF; omega)
  cases p
  · simp (disch := omega) only [↓reduceIte, h_let, hg_in, hg_zb, hg_z0, hg_z1, hg_nz, Option.bind_some, if_pos, if_neg, bI_0, bI_n0, nI_add, nI_mul, nI_ltI, nI_leI, nI_eq, nI_clamp, nI_subN, nI_divN, nI_mod2, nI_m1e, nI_em1, nI_m2e, nI_lt0, m1_lt0, m1_lt, m1_le, h_u_at, h_u_off2, h_u_pl, li_0, li_1, li_2, li_3, li_4, li_5, li_6, li_7, li_8, li_9, li_10, li_11, li_12, li_13, li_14, li_15, li_16, li_17, li_18, li_19, li_20, li_21, li_22, li_23, li_24, li_25, li_26, li_27, li_28, li_29, li_30, li_31, li_32, li_40, li_43, li_45, li_47, li_48, li_57, li_59, li_60, li_61, li_62, li_63, li_64, li_80, li_92, li_97, li_99, li_100, li_122, li_123, li_125, li_166, li_201, li_210, li_250, li_255, li_256, li_257, li_258, li_259, li_260, li_261, li_262, li_263, li_264, li_265, li_266, li_267, li_268, li_300, li_500, li_1000, li_12345, li_27720, li_1000000, li_1103515245, ne_m1, ne_m2, bI_f, e4, nI_l, lN_mul]
    rw [hL]
    simp [wS, sumU]
  · simp (disch := omega) only [↓reduceIte, h_let, hg_in, hg_zb, hg_z0, hg_z1, hg_nz, Option.bind_some, if_pos, if_neg, bI_0, bI_n0, nI_add, nI_mul, nI_ltI, nI_leI, nI_eq, nI_clamp, nI_subN, nI_divN, nI_mod2, nI_m1e, nI_em1, nI_m2e, nI_lt0, m1_lt0, m1_lt, m1_le, h_u_at, h_u_off2, h_u_pl, li_0, li_1, li_2, li_3, li_4, li_5, li_6, li_7, li_8, li_9, li_10, li_11, li_12, li_13, li_14, li_15, li_16, li_17, li_18, li_19, li_20, li_21, li_22, li_23, li_24, li_25, li_26, li_27, li_28, li_29, li_30, li_31, li_32, li_40, li_43, li_45, li_47, li_48, li_57, li_59, li_60, li_61, li_62, li_63, li_64, li_80, li_92, li_97, li_99, li_100, li_122, li_123, li_125, li_166, li_201, li_210, li_250, li_255, li_256, li_257, li_258, li_259, li_260, li_261, li_262, li_263, li_264, li_265, li_266, li_267, li_268, li_300, li_500, li_1000, li_12345, li_27720, li_1000000, li_1103515245, ne_m1, ne_m2, bI_t, e3, nI_l, lN_mul]
    rw [hL]
    simp [wS, sumU]
theorem mw_best_L (hD : rOk D) (h : mR D I) {s k k0 j4 : Nat} (hs : s < D 0 0) (q p : Bool) (hk : k ≤ 20) {f : Nat → Nat} (hf : ∀ t, t < D 0 0 → f t < 2 ^ 55) (k49 k58 : _) : ∀ (r c fuel : Nat) (J : hJ), 0 < c → c + r = D 1 s → r < fuel → (∀ t, t < D 0 0 → J 44 t = lN (f t)) → J 43 s = lN (wBest q (fun c => wS D p f (4 ^ k) (8 * s + c)) (c - 1)) →
    ∃ J' : hJ, mM_laysWithin_L110 k49 k58 fuel (nI k0) (bI q) (bI p) (lN (4 ^ k)) (nI j4) (nI s) (nI c) I J = k58 (nI k0) (bI q) (bI p) (lN (4 ^ k)) (nI j4) (nI (s + 1)) I J' ∧ (∀ a i, (a ≠ 43 ∨ i ≠ s) → J' a i = J a i) ∧ J' 43 s = lN (wBest q (fun c => wS D p f (4 ^ k) (8 * s + c)) (D 1 s - 1)) := by
  intro r
  have hn := hD.2.1
  have h8 := hD.2.2.2.1 s hs
  have h4 := pow4_20 (k := k) (by omega)
  have hlt : ∀ c, c < D 1 s → wS D p f (4 ^ k) (8 * s + c) < 2 ^ 60 := fun c hc => by
    have := wS_le hD p (B := 2 ^ 55) (k4 := 4 ^ k) hs hc (fun t ht => Nat.le_of_lt (hf t ht))
    omega
  induction r with
  | zero =>
    intro c fuel J hc0 hc hfu gJ hb
    obtain ⟨fuel, rfl⟩ : ∃ m, fuel = m + 1 := ⟨fuel - 1, by omega⟩
    unfold mM_laysWithin_L110 mM_laysWithin_B110
    obtain rfl : c = D 1 s := by omega
    simp (disch := omega) only [↓reduceIte, h_let, hg_in, hg_zb, hg_z0, hg_z1, hg_nz, Option.bind_some, if_pos, if_neg, bI_0, bI_n0, nI_add, nI_mul, nI_ltI, nI_leI, nI_eq, nI_clamp, nI_subN, nI_divN, nI_mod2, nI_m1e, nI_em1, nI_m2e, nI_lt0, m1_lt0, m1_lt, m1_le, h_u_at, h_u_off2, h_u_pl, li_0, li_1, li_2, li_3, li_4, li_5, li_6, li_7, li_8, li_9, li_10, li_11, li_12, li_13, li_14, li_15, li_16, li_17, li_18, li_19, li_20, li_21, li_22, li_23, li_24, li_25, li_26, li_27, li_28, li_29, li_30, li_31, li_32, li_40, li_43, li_45, li_47, li_48, li_57, li_59, li_60, li_61, li_62, li_63, li_64, li_80, li_92, li_97, li_99, li_100, li_122, li_123, li_125, li_166, li_201, li_210, li_250, li_255, li_256, li_257, li_258, li_259, li_260, li_261, li_262, li_263, li_264, li_265, li_266, li_267, li_268, li_300, li_500, li_1000, li_12345, li_27720, li_1000000, li_1103515245, ne_m1, ne_m2, h.2.2.2.1 s hs]
    exact ⟨J, rfl, fun _ _ _ => rfl, hb⟩
  | succ r ih =>
    intro c fuel J hc0 hc hfu gJ hb
    obtain ⟨fuel, rfl⟩ : ∃ m, fuel = m + 1 := ⟨fuel - 1, by omega⟩
    have e3 := mw_of hD h hs (c := c) (by omega) p (k4 := 4 ^ k) gJ
    have hbb : wBest q (fun c => wS D p f (4 ^ k) (8 * s + c)) (c - 1) < 2 ^ 61 := Nat.lt_of_le_of_lt (wBest_le (B := 2 ^ 60) _ (fun i hi => Nat.le_of_lt (hlt i (by omega)))) (by decide)
    have hg := hlt c (by omega)
    have step : ∀ b', b' = wBest q (fun c => wS D p f (4 ^ k) (8 * s + c)) c → ∃ J' : hJ, mM_laysWithin_L110 k49 k58 fuel (nI k0) (bI q) (bI p) (lN (4 ^ k)) (nI j4) (nI s) (nI (c + 1)) I (h_u J 43 s (lN b')) = k58 (nI k0) (bI q) (bI p) (lN (4 ^ k)) (nI j4) (nI (s + 1)) I J' ∧ (∀ a i, (a ≠ 43 ∨ i ≠ s) → J' a i = J a i) ∧ J' 43 s = lN (wBest q (fun c => wS D p f (4 ^ k) (8 * s + c)) (D 1 s - 1)) := by
      intro b' hb'
      obtain ⟨J', a1, a2, a3⟩ := ih (c + 1) fuel (h_u J 43 s (lN b')) (by omega) (by omega) (by omega) (fun t ht => by rw [h_u_off2 _ _ _ _ (by decide)]; exact gJ t ht) (by rw [h_u_at, hb', Nat.add_sub_cancel])
      refine ⟨J', a1, fun a i hne => ?_, a3⟩
      rw [a2 a i hne]
      rcases hne with hne | hne
      · exact h_u_off2 _ _ _ _ hne
      · by_cases e : a = 43
        · subst e; exact h_u_pl _ _ _ hne
        · exact h_u_off2 _ _ _ _ e
    have e6 : c = (c - 1) + 1 := by omega
    have hw : wBest q (fun c => wS D p f (4 ^ k) (8 * s + c)) c = if q = true then (if wS D p f (4 ^ k) (8 * s + c) < wBest q (fun c => wS D p f (4 ^ k) (8 * s + c)) (c - 1) then wBest q (fun c => wS D p f (4 ^ k) (8 * s + c)) (c - 1) else wS D p f (4 ^ k) (8 * s + c)) else (if wS D p f (4 ^ k) (8 * s + c) < wBest q (fun c => wS D p f (4 ^ k) (8 * s + c)) (c - 1) then wS D p f (4 ^ k) (8 * s + c) else wBest q (fun c => wS D p f (4 ^ k) (8 * s + c)) (c - 1)) := by
      conv => lhs; rw [e6, wBest]
      rw [← e6]
    rw [hw] at step
    unfold mM_laysWithin_L110 mM_laysWithin_B110 mM_laysWithin_172
    generalize wBest q (fun c => wS D p f (4 ^ k) (8 * s + c)) (c - 1) = b at hb hbb step ⊢
    generalize wS D p f (4 ^ k) (8 * s + c) = g at hg e3 step ⊢
    cases q
    · by_cases h3 : g < b
      · have st := step g (by simp [h3])
        simp (disch := omega) only [↓reduceIte, h_let, hg_in, hg_zb, hg_z0, hg_z1, hg_nz, Option.bind_some, if_pos, if_neg, bI_0, bI_n0, nI_add, nI_mul, nI_ltI, nI_leI, nI_eq, nI_clamp, nI_subN, nI_divN, nI_mod2, nI_m1e, nI_em1, nI_m2e, nI_lt0, m1_lt0, m1_lt, m1_le, h_u_at, h_u_off2, h_u_pl, li_0, li_1, li_2, li_3, li_4, li_5, li_6, li_7, li_8, li_9, li_10, li_11, li_12, li_13, li_14, li_15, li_16, li_17, li_18, li_19, li_20, li_21, li_22, li_23, li_24, li_25, li_26, li_27, li_28, li_29, li_30, li_31, li_32, li_40, li_43, li_45, li_47, li_48, li_57, li_59, li_60, li_61, li_62, li_63, li_64, li_80, li_92, li_97, li_99, li_100, li_122, li_123, li_125, li_166, li_201, li_210, li_250, li_255, li_256, li_257, li_258, li_259, li_260, li_261, li_262, li_263, li_264, li_265, li_266, li_267, li_268, li_300, li_500, li_1000, li_12345, li_27720, li_1000000, li_1103515245, ne_m1, ne_m2, bI_f, h.2.2.2.1 s hs, e3, hb, lN_ltL] at st ⊢
        exact st
      · have st := step b (by simp [h3])
        simp (disch := omega) only [↓reduceIte, h_let, hg_in, hg_zb, hg_z0, hg_z1, hg_nz, Option.bind_some, if_pos, if_neg, bI_0, bI_n0, nI_add, nI_mul, nI_ltI, nI_leI, nI_eq, nI_clamp, nI_subN, nI_divN, nI_mod2, nI_m1e, nI_em1, nI_m2e, nI_lt0, m1_lt0, m1_lt, m1_le, h_u_at, h_u_off2, h_u_pl, li_0, li_1, li_2, li_3, li_4, li_5, li_6, li_7, li_8, li_9, li_10, li_11, li_12, li_13, li_14, li_15, li_16, li_17, li_18, li_19, li_20, li_21, li_22, li_23, li_24, li_25, li_26, li_27, li_28, li_29, li_30, li_31, li_32, li_40, li_43, li_45, li_47, li_48, li_57, li_59, li_60, li_61, li_62, li_63, li_64, li_80, li_92, li_97, li_99, li_100, li_122, li_123, li_125, li_166, li_201, li_210, li_250, li_255, li_256, li_257, li_258, li_259, li_260, li_261, li_262, li_263, li_264, li_265, li_266, li_267, li_268, li_300, li_500, li_1000, li_12345, li_27720, li_1000000, li_1103515245, ne_m1, ne_m2, bI_f, h.2.2.2.1 s hs, e3, hb, lN_ltL] at st ⊢
        exact st
    · by_cases h3 : g < b
      · have st := step b (by simp [h3])
        simp (disch := omega) only [↓reduceIte, h_let, hg_in, hg_zb, hg_z0, hg_z1, hg_nz, Option.bind_some, if_pos, if_neg, bI_0, bI_n0, nI_add, nI_mul, nI_ltI, nI_leI, nI_eq, nI_clamp, nI_subN, nI_divN, nI_mod2, nI_m1e, nI_em1, nI_m2e, nI_lt0, m1_lt0, m1_lt, m1_le, h_u_at, h_u_off2, h_u_pl, li_0, li_1, li_2, li_3, li_4, li_5, li_6, li_7, li_8, li_9, li_10, li_11, li_12, li_13, li_14, li_15, li_16, li_17, li_18, li_19, li_20, li_21, li_22, li_23, li_24, li_25, li_26, li_27, li_28, li_29, li_30, li_31, li_32, li_40, li_43, li_45, li_47, li_48, li_57, li_59, li_60, li_61, li_62, li_63, li_64, li_80, li_92, li_97, li_99, li_100, li_122, li_123, li_125, li_166, li_201, li_210, li_250, li_255, li_256, li_257, li_258, li_259, li_260, li_261, li_262, li_263, li_264, li_265, li_266, li_267, li_268, li_300, li_500, li_1000, li_12345, li_27720, li_1000000, li_1103515245, ne_m1, ne_m2, bI_t, h.2.2.2.1 s hs, e3, hb, lN_ltL] at st ⊢
        exact st
      · have st := step g (by simp [h3])
        simp (disch := omega) only [↓reduceIte, h_let, hg_in, hg_zb, hg_z0, hg_z1, hg_nz, Option.bind_some, if_pos, if_neg, bI_0, bI_n0, nI_add, nI_mul, nI_ltI, nI_leI, nI_eq, nI_clamp, nI_subN, nI_divN, nI_mod2, nI_m1e, nI_em1, nI_m2e, nI_lt0, m1_lt0, m1_lt, m1_le, h_u_at, h_u_off2, h_u_pl, li_0, li_1, li_2, li_3, li_4, li_5, li_6, li_7, li_8, li_9, li_10, li_11, li_12, li_13, li_14, li_15, li_16, li_17, li_18, li_19, li_20, li_21, li_22, li_23, li_24, li_25, li_26, li_27, li_28, li_29, li_30, li_31, li_32, li_40, li_43, li_45, li_47, li_48, li_57, li_59, li_60, li_61, li_62, li_63, li_64, li_80, li_92, li_97, li_99, li_100, li_122, li_123, li_125, li_166, li_201, li_210, li_250, li_255, li_256, li_257, li_258, li_259, li_260, li_261, li_262, li_263, li_264, li_265, li_266, li_267, li_268, li_300, li_500, li_1000, li_12345, li_27720, li_1000000, li_1103515245, ne_m1, ne_m2, bI_t, h.2.2.2.1 s hs, e3, hb, lN_ltL] at st ⊢
        exact st
theorem mw_row_L (hD : rOk D) (h : mR D I) {k k0 : Nat} (q p : Bool) (hk : k < 20) (k49 : _) : ∀ (r s fuel : Nat) (J : hJ), s + r = D 0 0 → r < fuel → (∀ t, t < D 0 0 → J 44 t = lN (wv D q p k t)) → (∀ t, t < s → J 43 t = lN (wv D q p (k + 1) t)) →
    ∃ J' : hJ, mM_laysWithin_L58 k49 fuel (nI k0) (bI q) (bI p) (lN (4 ^ k)) (nI k) (nI s) I J = mM_laysWithin_L196 k49 hF (nI k0) (bI q) (bI p) (lN (4 ^ (k + 1))) (nI k) (nI 0) I J' ∧ (∀ a i, a ≠ 43 → J' a i = J a i) ∧ ∀ t, t < D 0 0 → J' 43 t = lN (wv D q p (k + 1) t) := by
  intro r
  have hn := hD.2.1
  have hf : ∀ t, t < D 0 0 → wv D q p k t < 2 ^ 55 := fun t ht => wv_lt hD _ _ (by omega) ht
  induction r with
  | zero =>
    intro s fuel J hs hfu gJ h43
    obtain ⟨fuel, rfl⟩ : ∃ m, fuel = m + 1 := ⟨fuel - 1, by omega⟩
    unfold mM_laysWithin_L58 mM_laysWithin_B58
    rw [h.1]
    simp (disch := omega) only [↓reduceIte, h_let, hg_in, hg_zb, hg_z0, hg_z1, hg_nz, Option.bind_some, if_pos, if_neg, bI_0, bI_n0, nI_add, nI_mul, nI_ltI, nI_leI, nI_eq, nI_clamp, nI_subN, nI_divN, nI_mod2, nI_m1e, nI_em1, nI_m2e, nI_lt0, m1_lt0, m1_lt, m1_le, h_u_at, h_u_off2, h_u_pl, li_0, li_1, li_2, li_3, li_4, li_5, li_6, li_7, li_8, li_9, li_10, li_11, li_12, li_13, li_14, li_15, li_16, li_17, li_18, li_19, li_20, li_21, li_22, li_23, li_24, li_25, li_26, li_27, li_28, li_29, li_30, li_31, li_32, li_40, li_43, li_45, li_47, li_48, li_57, li_59, li_60, li_61, li_62, li_63, li_64, li_80, li_92, li_97, li_99, li_100, li_122, li_123, li_125, li_166, li_201, li_210, li_250, li_255, li_256, li_257, li_258, li_259, li_260, li_261, li_262, li_263, li_264, li_265, li_266, li_267, li_268, li_300, li_500, li_1000, li_12345, li_27720, li_1000000, li_1103515245, ne_m1, ne_m2, ll_4, lN_mul, ← Nat.pow_succ]
    exact ⟨J, rfl, fun _ _ _ => rfl, fun t ht => h43 t (by omega)⟩
  | succ r ih =>
    intro s fuel J hs hfu gJ h43
    obtain ⟨fuel, rfl⟩ : ∃ m, fuel = m + 1 := ⟨fuel - 1, by omega⟩
    have h8 := hD.2.2.2.1 s (by omega)
    have ei := m_isInside hD h (s := s) (by omega)
    have cont : ∀ J1 : hJ, (∀ a i, (a ≠ 43 ∨ i ≠ s) → J1 a i = J a i) → J1 43 s = lN (wv D q p (k + 1) s) → ∃ J' : hJ, mM_laysWithin_L58 k49 fuel (nI k0) (bI q) (bI p) (lN (4 ^ k)) (nI k) (nI (s + 1)) I J1 = mM_laysWithin_L196 k49 hF (nI k0) (bI q) (bI p) (lN (4 ^ (k + 1))) (nI k) (nI 0) I J' ∧ (∀ a i, a ≠ 43 → J' a i = J a i) ∧ ∀ t, t < D 0 0 → J' 43 t = lN (wv D q p (k + 1) t) := by
      intro J1 g1 g2
      obtain ⟨J', a1, a2, a3⟩ := ih (s + 1) fuel J1 (by omega) (by omega) (fun t ht => by rw [g1 44 t (Or.inl (by decide))]; exact gJ t ht) (fun t ht => by
        by_cases e : t = s
        · subst e; exact g2
        · rw [g1 43 t (Or.inr e)]; exact h43 t (by omega))
      exact ⟨J', a1, fun a i hne => by rw [a2 a i hne, g1 a i (Or.inl hne)], a3⟩
    have hset : ∀ x a i, (a ≠ 43 ∨ i ≠ s) → h_u J 43 s x a i = J a i := fun x a i hne => by
      rcases hne with hne | hne
      · exact h_u_off2 _ _ _ _ hne
      · by_cases e : a = 43
        · subst e; exact h_u_pl _ _ _ hne
        · exact h_u_off2 _ _ _ _ e
    unfold mM_laysWithin_L58 mM_laysWithin_B58 mM_laysWithin_106
    rw [h.1]
    by_cases hin : 0 < D 1 s
    · have e1 : decide (0 < D 1 s) = true := by simpa using hin
      rw [e1, bI_t] at ei
      have e2 := mw_of hD h (s := s) (by omega) hin p (k4 := 4 ^ k) gJ
      obtain ⟨J1, a1, a2, a3⟩ := mw_best_L hD h (s := s) (k0 := k0) (j4 := k) (by omega) q p (k := k) (by omega) hf k49 (mM_laysWithin_L58 k49 fuel) (D 1 s - 1) 1 hF (h_u J 43 s (lN (wS D p (wv D q p k) (4 ^ k) (8 * s + 0)))) (by omega) (by omega) (by unfold hF; omega) (fun t ht => by rw [h_u_off2 _ _ _ _ (by decide)]; exact gJ t ht) (h_u_at _ _ _ _)
      simp (disch := omega) only [↓reduceIte, h_let, hg_in, hg_zb, hg_z0, hg_z1, hg_nz, Option.bind_some, if_pos, if_neg, bI_0, bI_n0, nI_add, nI_mul, nI_ltI, nI_leI, nI_eq, nI_clamp, nI_subN, nI_divN, nI_mod2, nI_m1e, nI_em1, nI_m2e, nI_lt0, m1_lt0, m1_lt, m1_le, h_u_at, h_u_off2, h_u_pl, li_0, li_1, li_2, li_3, li_4, li_5, li_6, li_7, li_8, li_9, li_10, li_11, li_12, li_13, li_14, li_15, li_16, li_17, li_18, li_19, li_20, li_21, li_22, li_23, li_24, li_25, li_26, li_27, li_28, li_29, li_30, li_31, li_32, li_40, li_43, li_45, li_47, li_48, li_57, li_59, li_60, li_61, li_62, li_63, li_64, li_80, li_92, li_97, li_99, li_100, li_122, li_123, li_125, li_166, li_201, li_210, li_250, li_255, li_256, li_257, li_258, li_259, li_260, li_261, li_262, li_263, li_264, li_265, li_266, li_267, li_268, li_300, li_500, li_1000, li_12345, li_27720, li_1000000, li_1103515245, ne_m1, ne_m2, ei, e2, a1]
      refine cont J1 (fun a i hne => by rw [a2 a i hne, hset _ a i hne]) ?_
      rw [a3, wv, if_pos hin]
    · have e1 : decide (0 < D 1 s) = false := by simpa using hin
      rw [e1, bI_f] at ei
      have e5 : D 1 s = 0 := by omega
      have hv : wv D q p (k + 1) s = 4 * wv D q p k s := by rw [wv, if_neg hin]
      simp (disch := omega) only [↓reduceIte, h_let, hg_in, hg_zb, hg_z0, hg_z1, hg_nz, Option.bind_some, if_pos, if_neg, bI_0, bI_n0, nI_add, nI_mul, nI_ltI, nI_leI, nI_eq, nI_clamp, nI_subN, nI_divN, nI_mod2, nI_m1e, nI_em1, nI_m2e, nI_lt0, m1_lt0, m1_lt, m1_le, h_u_at, h_u_off2, h_u_pl, li_0, li_1, li_2, li_3, li_4, li_5, li_6, li_7, li_8, li_9, li_10, li_11, li_12, li_13, li_14, li_15, li_16, li_17, li_18, li_19, li_20, li_21, li_22, li_23, li_24, li_25, li_26, li_27, li_28, li_29, li_30, li_31, li_32, li_40, li_43, li_45, li_47, li_48, li_57, li_59, li_60, li_61, li_62, li_63, li_64, li_80, li_92, li_97, li_99, li_100, li_122, li_123, li_125, li_166, li_201, li_210, li_250, li_255, li_256, li_257, li_258, li_259, li_260, li_261, li_262, li_263, li_264, li_265, li_266, li_267, li_268, li_300, li_500, li_1000, li_12345, li_27720, li_1000000, li_1103515245, ne_m1, ne_m2, ei, gJ, ll_4, lN_mul]
      unfold hF mM_laysWithin_L110 mM_laysWithin_B110
      simp (disch := omega) only [↓reduceIte, h_let, hg_in, hg_zb, hg_z0, hg_z1, hg_nz, Option.bind_some, if_pos, if_neg, bI_0, bI_n0, nI_add, nI_mul, nI_ltI, nI_leI, nI_eq, nI_clamp, nI_subN, nI_divN, nI_mod2, nI_m1e, nI_em1, nI_m2e, nI_lt0, m1_lt0, m1_lt, m1_le, h_u_at, h_u_off2, h_u_pl, li_0, li_1, li_2, li_3, li_4, li_5, li_6, li_7, li_8, li_9, li_10, li_11, li_12, li_13, li_14, li_15, li_16, li_17, li_18, li_19, li_20, li_21, li_22, li_23, li_24, li_25, li_26, li_27, li_28, li_29, li_30, li_31, li_32, li_40, li_43, li_45, li_47, li_48, li_57, li_59, li_60, li_61, li_62, li_63, li_64, li_80, li_92, li_97, li_99, li_100, li_122, li_123, li_125, li_166, li_201, li_210, li_250, li_255, li_256, li_257, li_258, li_259, li_260, li_261, li_262, li_263, li_264, li_265, li_266, li_267, li_268, li_300, li_500, li_1000, li_12345, li_27720, li_1000000, li_1103515245, ne_m1, ne_m2, h.2.2.2.1, e5]
      refine cont _ (fun a i hne => hset _ a i hne) ?_
      rw [h_u_at, hv]
theorem mw_copy_L (hD : rOk D) (h : mR D I) {k0 k v4 : Nat} (q p : Bool) (k49 : _) : ∀ (r s fuel : Nat) (J : hJ), s + r = D 0 0 → r < fuel → (∀ t, t < s → J 44 t = J 43 t) →
    ∃ J' : hJ, mM_laysWithin_L196 k49 fuel (nI k0) (bI q) (bI p) (lN v4) (nI k) (nI s) I J = k49 (nI k0) (bI q) (bI p) (lN v4) (nI (k + 1)) I J' ∧ (∀ a i, a ≠ 44 → J' a i = J a i) ∧ ∀ t, t < D 0 0 → J' 44 t = J 43 t := by
  intro r
  have hn := hD.2.1
  induction r with
  | zero =>
    intro s fuel J hs hfu h44
    obtain ⟨fuel, rfl⟩ : ∃ m, fuel = m + 1 := ⟨fuel - 1, by omega⟩
    unfold mM_laysWithin_L196 mM_laysWithin_B196
    rw [h.1]
    simp (disch := omega) only [↓reduceIte, h_let, hg_in, hg_zb, hg_z0, hg_z1, hg_nz, Option.bind_some, if_pos, if_neg, bI_0, bI_n0, nI_add, nI_mul, nI_ltI, nI_leI, nI_eq, nI_clamp, nI_subN, nI_divN, nI_mod2, nI_m1e, nI_em1, nI_m2e, nI_lt0, m1_lt0, m1_lt, m1_le, h_u_at, h_u_off2, h_u_pl, li_0, li_1, li_2, li_3, li_4, li_5, li_6, li_7, li_8, li_9, li_10, li_11, li_12, li_13, li_14, li_15, li_16, li_17, li_18, li_19, li_20, li_21, li_22, li_23, li_24, li_25, li_26, li_27, li_28, li_29, li_30, li_31, li_32, li_40, li_43, li_45, li_47, li_48, li_57, li_59, li_60, li_61, li_62, li_63, li_64, li_80, li_92, li_97, li_99, li_100, li_122, li_123, li_125, li_166, li_201, li_210, li_250, li_255, li_256, li_257, li_258, li_259, li_260, li_261, li_262, li_263, li_264, li_265, li_266, li_267, li_268, li_300, li_500, li_1000, li_12345, li_27720, li_1000000, li_1103515245, ne_m1, ne_m2]
    exact ⟨J, rfl, fun _ _ _ => rfl, fun t ht => h44 t (by omega)⟩
  | succ r ih =>
    intro s fuel J hs hfu h44
    obtain ⟨fuel, rfl⟩ : ∃ m, fuel = m + 1 := ⟨fuel - 1, by omega⟩
    unfold mM_laysWithin_L196 mM_laysWithin_B196
    rw [h.1]
    simp (disch := omega) only [↓reduceIte, h_let, hg_in, hg_zb, hg_z0, hg_z1, hg_nz, Option.bind_some, if_pos, if_neg, bI_0, bI_n0, nI_add, nI_mul, nI_ltI, nI_leI, nI_eq, nI_clamp, nI_subN, nI_divN, nI_mod2, nI_m1e, nI_em1, nI_m2e, nI_lt0, m1_lt0, m1_lt, m1_le, h_u_at, h_u_off2, h_u_pl, li_0, li_1, li_2, li_3, li_4, li_5, li_6, li_7, li_8, li_9, li_10, li_11, li_12, li_13, li_14, li_15, li_16, li_17, li_18, li_19, li_20, li_21, li_22, li_23, li_24, li_25, li_26, li_27, li_28, li_29, li_30, li_31, li_32, li_40, li_43, li_45, li_47, li_48, li_57, li_59, li_60, li_61, li_62, li_63, li_64, li_80, li_92, li_97, li_99, li_100, li_122, li_123, li_125, li_166, li_201, li_210, li_250, li_255, li_256, li_257, li_258, li_259, li_260, li_261, li_262, li_263, li_264, li_265, li_266, li_267, li_268, li_300, li_500, li_1000, li_12345, li_27720, li_1000000, li_1103515245, ne_m1, ne_m2]
    obtain ⟨J', a1, a2, a3⟩ := ih (s + 1) fuel (h_u J 44 s (J 43 s)) (by omega) (by omega) (fun t ht => by
      rw [h_u_off2 _ _ _ _ (by decide : (43 : Nat) ≠ 44)]
      by_cases e : t = s
      · subst e; rw [h_u_at]
      · rw [h_u_pl _ _ _ e]; exact h44 t (by omega))
    exact ⟨J', a1, fun a i hne => by rw [a2 a i hne, h_u_off2 _ _ _ _ hne], fun t ht => by rw [a3 t ht, h_u_off2 _ _ _ _ (by decide)]⟩
theorem mw_main_L (hD : rOk D) (h : mR D I) {k0 : Nat} (hk0 : k0 ≤ 20) (q p : Bool) : ∀ (r k fuel : Nat) (J : hJ), k + r = k0 → r < fuel → (∀ t, t < D 0 0 → J 44 t = lN (wv D q p k t)) →
    ∃ J' : hJ, mM_laysWithin_L49 fuel (nI k0) (bI q) (bI p) (lN (4 ^ k)) (nI k) I J = some J' ∧ (∀ a i, a ≠ 43 → a ≠ 44 → J' a i = J a i) ∧ ∀ t, t < D 0 0 → J' 44 t = lN (wv D q p k0 t) := by
  intro r
  induction r with
  | zero =>
    intro k fuel J hk hfu gJ
    obtain ⟨fuel, rfl⟩ : ∃ m, fuel = m + 1 := ⟨fuel - 1, by omega⟩
    obtain rfl : k = k0 := by omega
    unfold mM_laysWithin_L49 mM_laysWithin_B49
    simp (disch := omega) only [↓reduceIte, h_let, hg_in, hg_zb, hg_z0, hg_z1, hg_nz, Option.bind_some, if_pos, if_neg, bI_0, bI_n0, nI_add, nI_mul, nI_ltI, nI_leI, nI_eq, nI_clamp, nI_subN, nI_divN, nI_mod2, nI_m1e, nI_em1, nI_m2e, nI_lt0, m1_lt0, m1_lt, m1_le, h_u_at, h_u_off2, h_u_pl, li_0, li_1, li_2, li_3, li_4, li_5, li_6, li_7, li_8, li_9, li_10, li_11, li_12, li_13, li_14, li_15, li_16, li_17, li_18, li_19, li_20, li_21, li_22, li_23, li_24, li_25, li_26, li_27, li_28, li_29, li_30, li_31, li_32, li_40, li_43, li_45, li_47, li_48, li_57, li_59, li_60, li_61, li_62, li_63, li_64, li_80, li_92, li_97, li_99, li_100, li_122, li_123, li_125, li_166, li_201, li_210, li_250, li_255, li_256, li_257, li_258, li_259, li_260, li_261, li_262, li_263, li_264, li_265, li_266, li_267, li_268, li_300, li_500, li_1000, li_12345, li_27720, li_1000000, li_1103515245, ne_m1, ne_m2]
    exact ⟨J, rfl, fun _ _ _ _ => rfl, gJ⟩
  | succ r ih =>
    intro k fuel J hk hfu gJ
    obtain ⟨fuel, rfl⟩ : ∃ m, fuel = m + 1 := ⟨fuel - 1, by omega⟩
    have hn := hD.2.1
    unfold mM_laysWithin_L49 mM_laysWithin_B49
    obtain ⟨J1, a1, a2, a3⟩ := mw_row_L hD h (k := k) (k0 := k0) q p (by omega) (mM_laysWithin_L49 fuel) (D 0 0) 0 hF J (by omega) (by unfold hF; omega) gJ (fun t ht => absurd ht (by omega))
    obtain ⟨J2, b1, b2, b3⟩ := mw_copy_L hD h (k0 := k0) (k := k) (v4 := 4 ^ (k + 1)) q p (mM_laysWithin_L49 fuel) (D 0 0) 0 hF J1 (by omega) (by unfold hF; omega) (fun t ht => absurd ht (by omega))
    obtain ⟨J3, c1, c2, c3⟩ := ih (k + 1) fuel J2 (by omega) (by omega) (fun t ht => by rw [b3 t ht, a3 t ht])
    simp (disch := omega) only [↓reduceIte, h_let, hg_in, hg_zb, hg_z0, hg_z1, hg_nz, Option.bind_some, if_pos, if_neg, bI_0, bI_n0, nI_add, nI_mul, nI_ltI, nI_leI, nI_eq, nI_clamp, nI_subN, nI_divN, nI_mod2, nI_m1e, nI_em1, nI_m2e, nI_lt0, m1_lt0, m1_lt, m1_le, h_u_at, h_u_off2, h_u_pl, li_0, li_1, li_2, li_3, li_4, li_5, li_6, li_7, li_8, li_9, li_10, li_11, li_12, li_13, li_14, li_15, li_16, li_17, li_18, li_19, li_20, li_21, li_22, li_23, li_24, li_25, li_26, li_27, li_28, li_29, li_30, li_31, li_32, li_40, li_43, li_45, li_47, li_48, li_57, li_59, li_60, li_61, li_62, li_63, li_64, li_80, li_92, li_97, li_99, li_100, li_122, li_123, li_125, li_166, li_201, li_210, li_250, li_255, li_256, li_257, li_258, li_259, li_260, li_261, li_262, li_263, li_264, li_265, li_266, li_267, li_268, li_300, li_500, li_1000, li_12345, li_27720, li_1000000, li_1103515245, ne_m1, ne_m2, a1, b1, c1]
    exact ⟨J3, rfl, fun a i h1 h2 => by rw [c2 a i h1 h2, b2 a i h2, a2 a i h1], c3⟩
theorem mw_init_L (hD : rOk D) (h : mR D I) {k0 : Nat} (q p : Bool) : ∀ (r s fuel : Nat) (J : hJ), s + r = D 0 0 → r < fuel → (∀ t, t < s → J 44 t = lN (wv D q p 0 t)) →
    ∃ J' : hJ, mM_laysWithin_L3 fuel (nI k0) (bI q) (bI p) (nI s) I J = mM_laysWithin_L49 hF (nI k0) (bI q) (bI p) (lN 1) (nI 0) I J' ∧ (∀ a i, a ≠ 44 → J' a i = J a i) ∧ ∀ t, t < D 0 0 → J' 44 t = lN (wv D q p 0 t) := by
  intro r
  have hn := hD.2.1
  induction r with
  | zero =>
    intro s fuel J hs hfu h44
    obtain ⟨fuel, rfl⟩ : ∃ m, fuel = m + 1 := ⟨fuel - 1, by omega⟩
    unfold mM_laysWithin_L3 mM_laysWithin_B3
    rw [h.1]
    simp (disch := omega) only [↓reduceIte, h_let, hg_in, hg_zb, hg_z0, hg_z1, hg_nz, Option.bind_some, if_pos, if_neg, bI_0, bI_n0, nI_add, nI_mul, nI_ltI, nI_leI, nI_eq, nI_clamp, nI_subN, nI_divN, nI_mod2, nI_m1e, nI_em1, nI_m2e, nI_lt0, m1_lt0, m1_lt, m1_le, h_u_at, h_u_off2, h_u_pl, li_0, li_1, li_2, li_3, li_4, li_5, li_6, li_7, li_8, li_9, li_10, li_11, li_12, li_13, li_14, li_15, li_16, li_17, li_18, li_19, li_20, li_21, li_22, li_23, li_24, li_25, li_26, li_27, li_28, li_29, li_30, li_31, li_32, li_40, li_43, li_45, li_47, li_48, li_57, li_59, li_60, li_61, li_62, li_63, li_64, li_80, li_92, li_97, li_99, li_100, li_122, li_123, li_125, li_166, li_201, li_210, li_250, li_255, li_256, li_257, li_258, li_259, li_260, li_261, li_262, li_263, li_264, li_265, li_266, li_267, li_268, li_300, li_500, li_1000, li_12345, li_27720, li_1000000, li_1103515245, ne_m1, ne_m2, ll_1]
    exact ⟨J, rfl, fun _ _ _ => rfl, fun t ht => h44 t (by omega)⟩
  | succ r ih =>
    intro s fuel J hs hfu h44
    obtain ⟨fuel, rfl⟩ : ∃ m, fuel = m + 1 := ⟨fuel - 1, by omega⟩
    have ei := m_isInside hD h (s := s) (by omega)
    have cont : ∀ x, x = wv D q p 0 s → ∃ J' : hJ, mM_laysWithin_L3 fuel (nI k0) (bI q) (bI p) (nI (s + 1)) I (h_u J 44 s (lN x)) = mM_laysWithin_L49 hF (nI k0) (bI q) (bI p) (lN 1) (nI 0) I J' ∧ (∀ a i, a ≠ 44 → J' a i = J a i) ∧ ∀ t, t < D 0 0 → J' 44 t = lN (wv D q p 0 t) := by
      intro x hx
      obtain ⟨J', a1, a2, a3⟩ := ih (s + 1) fuel (h_u J 44 s (lN x)) (by omega) (by omega) (fun t ht => by
        by_cases e : t = s
        · subst e; rw [h_u_at, hx]
        · rw [h_u_pl _ _ _ e]; exact h44 t (by omega))
      exact ⟨J', a1, fun a i hne => by rw [a2 a i hne, h_u_off2 _ _ _ _ hne], a3⟩
    unfold mM_laysWithin_L3 mM_laysWithin_B3 mM_laysWithin_36
    rw [h.1]
    cases p
    · by_cases hin : 0 < D 1 s
      · have e1 : decide (0 < D 1 s) = true := by simpa using hin
        rw [e1, bI_t] at ei
        have c0 := cont 0 (by simp [wv, hin])
        simp (disch := omega) only [↓reduceIte, h_let, hg_in, hg_zb, hg_z0, hg_z1, hg_nz, Option.bind_some, if_pos, if_neg, bI_0, bI_n0, nI_add, nI_mul, nI_ltI, nI_leI, nI_eq, nI_clamp, nI_subN, nI_divN, nI_mod2, nI_m1e, nI_em1, nI_m2e, nI_lt0, m1_lt0, m1_lt, m1_le, h_u_at, h_u_off2, h_u_pl, li_0, li_1, li_2, li_3, li_4, li_5, li_6, li_7, li_8, li_9, li_10, li_11, li_12, li_13, li_14, li_15, li_16, li_17, li_18, li_19, li_20, li_21, li_22, li_23, li_24, li_25, li_26, li_27, li_28, li_29, li_30, li_31, li_32, li_40, li_43, li_45, li_47, li_48, li_57, li_59, li_60, li_61, li_62, li_63, li_64, li_80, li_92, li_97, li_99, li_100, li_122, li_123, li_125, li_166, li_201, li_210, li_250, li_255, li_256, li_257, li_258, li_259, li_260, li_261, li_262, li_263, li_264, li_265, li_266, li_267, li_268, li_300, li_500, li_1000, li_12345, li_27720, li_1000000, li_1103515245, ne_m1, ne_m2, bI_f, ei, ll_1, ll_0] at c0 ⊢
        exact c0
      · have e1 : decide (0 < D 1 s) = false := by simpa using hin
        rw [e1, bI_f] at ei
        have c0 := cont 1 (by simp [wv, hin])
        simp (disch := omega) only [↓reduceIte, h_let, hg_in, hg_zb, hg_z0, hg_z1, hg_nz, Option.bind_some, if_pos, if_neg, bI_0, bI_n0, nI_add, nI_mul, nI_ltI, nI_leI, nI_eq, nI_clamp, nI_subN, nI_divN, nI_mod2, nI_m1e, nI_em1, nI_m2e, nI_lt0, m1_lt0, m1_lt, m1_le, h_u_at, h_u_off2, h_u_pl, li_0, li_1, li_2, li_3, li_4, li_5, li_6, li_7, li_8, li_9, li_10, li_11, li_12, li_13, li_14, li_15, li_16, li_17, li_18, li_19, li_20, li_21, li_22, li_23, li_24, li_25, li_26, li_27, li_28, li_29, li_30, li_31, li_32, li_40, li_43, li_45, li_47, li_48, li_57, li_59, li_60, li_61, li_62, li_63, li_64, li_80, li_92, li_97, li_99, li_100, li_122, li_123, li_125, li_166, li_201, li_210, li_250, li_255, li_256, li_257, li_258, li_259, li_260, li_261, li_262, li_263, li_264, li_265, li_266, li_267, li_268, li_300, li_500, li_1000, li_12345, li_27720, li_1000000, li_1103515245, ne_m1, ne_m2, bI_f, ei, ll_1, ll_0] at c0 ⊢
        exact c0
    · have c0 := cont 0 (by simp [wv])
      simp (disch := omega) only [↓reduceIte, h_let, hg_in, hg_zb, hg_z0, hg_z1, hg_nz, Option.bind_some, if_pos, if_neg, bI_0, bI_n0, nI_add, nI_mul, nI_ltI, nI_leI, nI_eq, nI_clamp, nI_subN, nI_divN, nI_mod2, nI_m1e, nI_em1, nI_m2e, nI_lt0, m1_lt0, m1_lt, m1_le, h_u_at, h_u_off2, h_u_pl, li_0, li_1, li_2, li_3, li_4, li_5, li_6, li_7, li_8, li_9, li_10, li_11, li_12, li_13, li_14, li_15, li_16, li_17, li_18, li_19, li_20, li_21, li_22, li_23, li_24, li_25, li_26, li_27, li_28, li_29, li_30, li_31, li_32, li_40, li_43, li_45, li_47, li_48, li_57, li_59, li_60, li_61, li_62, li_63, li_64, li_80, li_92, li_97, li_99, li_100, li_122, li_123, li_125, li_166, li_201, li_210, li_250, li_255, li_256, li_257, li_258, li_259, li_260, li_261, li_262, li_263, li_264, li_265, li_266, li_267, li_268, li_300, li_500, li_1000, li_12345, li_27720, li_1000000, li_1103515245, ne_m1, ne_m2, bI_t, ll_1, ll_0] at c0 ⊢
      exact c0
theorem mw_lays (hD : rOk D) (h : mR D I) {k0 : Nat} (hk0 : k0 ≤ 20) (q p : Bool) (J : hJ) : ∃ J' : hJ, mM_laysWithin (nI k0) (bI q) (bI p) I J = some J' ∧ (∀ a i, a ≠ 43 → a ≠ 44 → J' a i = J a i) ∧ ∀ t, t < D 0 0 → J' 44 t = lN (wv D q p k0 t) := by
  have hn := hD.2.1
  unfold mM_laysWithin
  obtain ⟨J1, a1, a2, a3⟩ := mw_init_L hD h (k0 := k0) q p (D 0 0) 0 hF J (by omega) (by unfold hF; omega) (fun t ht => absurd ht (by omega))
  obtain ⟨J2, b1, b2, b3⟩ := mw_main_L hD h hk0 q p k0 0 hF J1 (by omega) (by unfold hF; omega) a3
  have e : (4 : Nat) ^ 0 = 1 := rfl
  rw [e] at b1
  rw [li_0, a1, b1]
  exact ⟨J2, rfl, fun a i h1 h2 => by rw [b2 a i h1 h2, a2 a i h2], b3⟩
end Mw
theorem cR_of {D : rD} {I I' : hI} (h : cR D I) (hI : ∀ c i, 7 ≤ c → c ≤ 12 → I' c i = I c i) : cR D I' := by
  unfold cR at h ⊢
  simp (disch := omega) only [hI]
  exact h
theorem onlyR_cR {D : rD} {Ic Ic' Im Im' : hI} (h : onlyR Ic Ic' Im Im') (hc : cR D Ic) : cR D Ic' := cR_of hc (fun c i h1 h2 => h.1 c i (by omega))
theorem mR_of {D : rD} {I I' : hI} (h : mR D I) (hI : ∀ c i, 25 ≤ c → c ≤ 29 → I' c i = I c i) (h0 : ∀ i, 39 ≤ i → i ≤ 41 → I' 0 i = I 0 i) : mR D I' := by
  unfold mR at h ⊢
  simp (disch := omega) only [hI, h0]
  exact h
theorem onlyR_mR {D : rD} {Ic Ic' Im Im' : hI} (h : onlyR Ic Ic' Im Im') (hm : mR D Im) : mR D Im' := mR_of hm (fun c i h1 h2 => h.2.1 c i (by omega) (by omega)) (fun i h1 h2 => h.2.1 0 i (by omega) (by omega))
theorem hzOk_of {D : rD} {I I' : hI} {J J' : hJ} (h : hzOk D I J) (hI : ∀ i, I' 37 i = I 37 i) (gJ : ∀ c i, 33 ≤ c → c ≤ 36 → J' c i = J c i) : hzOk D I' J' := by
  intro w hw
  obtain ⟨m, h1, h2, h3⟩ := h w hw
  exact ⟨m, h1, by rw [hI]; exact h2, fun k s hk hs => by rw [gJ _ _ (by omega) (by omega)]; exact h3 k s hk hs⟩
/-- what within and half change: beside counts of refusals, the rows that are kept of it -/
def onlyW (hl : Bool) (D : rD) (Ic : hI) (Jc : hJ) (Im : hI) (Jm : hJ) (Ic' : hI) (Jc' : hJ) (Im' : hI) (Jm' : hJ) : Prop := ∃ Ic1, onlyR Ic Ic1 Im Im' ∧ (∀ c i, c ≠ 37 → Ic' c i = Ic1 c i) ∧ (∀ c i, (c < 33 ∨ 36 < c) → Jc' c i = Jc c i) ∧ (∀ c i, c ≠ 43 → c ≠ 44 → Jm' c i = Jm c i) ∧ (hl = true → hzOk D Ic' Jc')
theorem onlyW_of {hl : Bool} {D : rD} {Ic : hI} {Jc : hJ} {Im : hI} {Jm : hJ} {Ic' Im' : hI} (hz : hl = true → hzOk D Ic Jc) (h : onlyR Ic Ic' Im Im') : onlyW hl D Ic Jc Im Jm Ic' Jc Im' Jm := ⟨Ic', h, fun _ _ _ => rfl, fun _ _ _ => rfl, fun _ _ _ _ => rfl, fun e => hzOk_of (hz e) (fun i => h.1 37 i (by decide)) (fun _ _ _ _ => rfl)⟩
theorem pr_within {hl : Bool} {D : rD} {Ic Im : hI} {Jc Jm : hJ} (hf : flagL hl D Ic Im) (h41 : hl = false → Im 0 41 = nI 0) (hr : refu Ic Im) (hz : hl = true → hzOk D Ic Jc) (v1 v2 v3 v4 : Int32) (b : Bool) (hb : v3 = bI b) : ∃ (a : Int64) (Ic' : hI) (Jc' : hJ) (Im' : hI) (Jm' : hJ), mC_within v1 v2 v3 v4 Ic Jc = some (a, Ic', Jc') ∧ mM_within v1 v2 v3 v4 Im Jm = some (a, Im', Jm') ∧ onlyW hl D Ic Jc Im Jm Ic' Jc' Im' Jm' := by
  obtain ⟨f1, f2, f3⟩ := hf
  subst hb
  have g2 : h_u Im 0 0 (nI 0) 0 37 = bI hl := by rw [h_u_pl _ _ _ (by decide)]; exact f2
  unfold mC_within mC_within_13 mC_within_58 mM_within mM_within_41 mM_within_42 mM_within_67
  cases hl
  · have f1 : Ic 0 11 = nI 0 := f1
    have r0 : ∀ v1 v2, mM_isRefused v1 v2 (h_u Im 0 0 (nI 0)) = _ := fun v1 v2 => m_ref0 g2
    have hz2 := m_noState v1 (I := h_u Im 0 0 (nI 0)) (by rw [h_u_pl _ _ _ (by decide)]; exact h41 rfl)
    simp (disch := omega) only [↓reduceIte, h_let, hg_in, hg_zb, hg_z0, hg_z1, hg_nz, Option.bind_some, if_pos, if_neg, bI_0, bI_n0, nI_add, nI_mul, nI_ltI, nI_leI, nI_eq, nI_clamp, nI_subN, nI_divN, nI_mod2, nI_m1e, nI_em1, nI_m2e, nI_lt0, m1_lt0, m1_lt, m1_le, h_u_at, h_u_off2, h_u_pl, li_0, li_1, li_2, li_3, li_4, li_5, li_6, li_7, li_8, li_9, li_10, li_11, li_12, li_13, li_14, li_15, li_16, li_17, li_18, li_19, li_20, li_21, li_22, li_23, li_24, li_25, li_26, li_27, li_28, li_29, li_30, li_31, li_32, li_40, li_43, li_45, li_47, li_48, li_57, li_59, li_60, li_61, li_62, li_63, li_64, li_80, li_92, li_97, li_99, li_100, li_122, li_123, li_125, li_166, li_201, li_210, li_250, li_255, li_256, li_257, li_258, li_259, li_260, li_261, li_262, li_263, li_264, li_265, li_266, li_267, li_268, li_300, li_500, li_1000, li_12345, li_27720, li_1000000, li_1103515245, ne_m1, ne_m2, f1, c_refuse1, hz2, r0]
    exact ⟨_, _, _, _, _, rfl, rfl, onlyW_of hz (onlyR_bump hr _ (by decide))⟩
  · obtain ⟨hD, hc, hm⟩ := f3 rfl
    have hn := hD.2.1
    have hm' := mR_mark hm (nI 0)
    have f1 : Ic 0 11 = nI 1 := f1
    have r1 : ∀ v2, mM_isRefused (nI 0) v2 (h_u Im 0 0 (nI 0)) = _ := fun v2 => m_ref1 g2
    have r2 : mM_isRefused (nI 1) (nI 0) (h_u Im 0 0 (nI 0)) = _ := m_ref2 g2
    rcases m_isState hD hm'.1 v1 with ⟨s, h1, rfl, h3, h4⟩ | ⟨h1, h2, h3⟩
    · rcases range_splitL v2 (n := 21) (by decide) (k := 20) (by decide) with ⟨k, k1, rfl, k3, k4⟩ | ⟨k1, k2, k3⟩
      · rcases range_splitL v4 (n := 2) (by decide) (k := 1) (by decide) with ⟨j, j1, rfl, j3, j4⟩ | ⟨j1, j2, j3⟩
        · have e4 : nI j = bI (decide (j = 1)) := by rcases (show j = 0 ∨ j = 1 by omega) with rfl | rfl <;> rfl
          obtain ⟨I', J', a1, a2, a3, a4⟩ := hz_told hD hc (hz rfl) (q := b) (p := decide (j = 1)) (k := k) (s := s) (by omega) h1
          obtain ⟨J2, b1, b2, b3⟩ := mw_lays hD hm' (k0 := k) (by omega) b (decide (j = 1)) Jm
          rw [← e4] at a1 b1
          have hfin : onlyW true D Ic Jc Im Jm I' J' (h_u Im 0 0 (nI 0)) J2 := ⟨Ic, onlyR_same hr _, a2, a3, b2, fun _ => a4⟩
          rcases (show j = 0 ∨ j = 1 by omega) with rfl | rfl
          · simp (disch := omega) only [↓reduceIte, h_let, hg_in, hg_zb, hg_z0, hg_z1, hg_nz, Option.bind_some, if_pos, if_neg, bI_0, bI_n0, nI_add, nI_mul, nI_ltI, nI_leI, nI_eq, nI_clamp, nI_subN, nI_divN, nI_mod2, nI_m1e, nI_em1, nI_m2e, nI_lt0, m1_lt0, m1_lt, m1_le, h_u_at, h_u_off2, h_u_pl, li_0, li_1, li_2, li_3, li_4, li_5, li_6, li_7, li_8, li_9, li_10, li_11, li_12, li_13, li_14, li_15, li_16, li_17, li_18, li_19, li_20, li_21, li_22, li_23, li_24, li_25, li_26, li_27, li_28, li_29, li_30, li_31, li_32, li_40, li_43, li_45, li_47, li_48, li_57, li_59, li_60, li_61, li_62, li_63, li_64, li_80, li_92, li_97, li_99, li_100, li_122, li_123, li_125, li_166, li_201, li_210, li_250, li_255, li_256, li_257, li_258, li_259, li_260, li_261, li_262, li_263, li_264, li_265, li_266, li_267, li_268, li_300, li_500, li_1000, li_12345, li_27720, li_1000000, li_1103515245, ne_m1, ne_m2, f1, c_refuse0, h3, h4, k3, k4, j3, j4, r2, hc.1, a1, b1, b3 s h1]
            exact ⟨_, _, _, _, _, rfl, rfl, hfin⟩
          · simp (disch := omega) only [↓reduceIte, h_let, hg_in, hg_zb, hg_z0, hg_z1, hg_nz, Option.bind_some, if_pos, if_neg, bI_0, bI_n0, nI_add, nI_mul, nI_ltI, nI_leI, nI_eq, nI_clamp, nI_subN, nI_divN, nI_mod2, nI_m1e, nI_em1, nI_m2e, nI_lt0, m1_lt0, m1_lt, m1_le, h_u_at, h_u_off2, h_u_pl, li_0, li_1, li_2, li_3, li_4, li_5, li_6, li_7, li_8, li_9, li_10, li_11, li_12, li_13, li_14, li_15, li_16, li_17, li_18, li_19, li_20, li_21, li_22, li_23, li_24, li_25, li_26, li_27, li_28, li_29, li_30, li_31, li_32, li_40, li_43, li_45, li_47, li_48, li_57, li_59, li_60, li_61, li_62, li_63, li_64, li_80, li_92, li_97, li_99, li_100, li_122, li_123, li_125, li_166, li_201, li_210, li_250, li_255, li_256, li_257, li_258, li_259, li_260, li_261, li_262, li_263, li_264, li_265, li_266, li_267, li_268, li_300, li_500, li_1000, li_12345, li_27720, li_1000000, li_1103515245, ne_m1, ne_m2, f1, c_refuse0, h3, h4, k3, k4, j3, j4, r2, hc.1, a1, b1, b3 s h1]
            exact ⟨_, _, _, _, _, rfl, rfl, hfin⟩
        · simp (disch := omega) only [↓reduceIte, h_let, hg_in, hg_zb, hg_z0, hg_z1, hg_nz, Option.bind_some, if_pos, if_neg, bI_0, bI_n0, nI_add, nI_mul, nI_ltI, nI_leI, nI_eq, nI_clamp, nI_subN, nI_divN, nI_mod2, nI_m1e, nI_em1, nI_m2e, nI_lt0, m1_lt0, m1_lt, m1_le, h_u_at, h_u_off2, h_u_pl, li_0, li_1, li_2, li_3, li_4, li_5, li_6, li_7, li_8, li_9, li_10, li_11, li_12, li_13, li_14, li_15, li_16, li_17, li_18, li_19, li_20, li_21, li_22, li_23, li_24, li_25, li_26, li_27, li_28, li_29, li_30, li_31, li_32, li_40, li_43, li_45, li_47, li_48, li_57, li_59, li_60, li_61, li_62, li_63, li_64, li_80, li_92, li_97, li_99, li_100, li_122, li_123, li_125, li_166, li_201, li_210, li_250, li_255, li_256, li_257, li_258, li_259, li_260, li_261, li_262, li_263, li_264, li_265, li_266, li_267, li_268, li_300, li_500, li_1000, li_12345, li_27720, li_1000000, li_1103515245, ne_m1, ne_m2, f1, c_refuse0, c_refuse1, h3, h4, k3, k4, j2, j3, r1, hc.1]
          exact ⟨_, _, _, _, _, rfl, rfl, onlyW_of hz (onlyR_bump hr _ (by decide))⟩
      · simp (disch := omega) only [↓reduceIte, h_let, hg_in, hg_zb, hg_z0, hg_z1, hg_nz, Option.bind_some, if_pos, if_neg, bI_0, bI_n0, nI_add, nI_mul, nI_ltI, nI_leI, nI_eq, nI_clamp, nI_subN, nI_divN, nI_mod2, nI_m1e, nI_em1, nI_m2e, nI_lt0, m1_lt0, m1_lt, m1_le, h_u_at, h_u_off2, h_u_pl, li_0, li_1, li_2, li_3, li_4, li_5, li_6, li_7, li_8, li_9, li_10, li_11, li_12, li_13, li_14, li_15, li_16, li_17, li_18, li_19, li_20, li_21, li_22, li_23, li_24, li_25, li_26, li_27, li_28, li_29, li_30, li_31, li_32, li_40, li_43, li_45, li_47, li_48, li_57, li_59, li_60, li_61, li_62, li_63, li_64, li_80, li_92, li_97, li_99, li_100, li_122, li_123, li_125, li_166, li_201, li_210, li_250, li_255, li_256, li_257, li_258, li_259, li_260, li_261, li_262, li_263, li_264, li_265, li_266, li_267, li_268, li_300, li_500, li_1000, li_12345, li_27720, li_1000000, li_1103515245, ne_m1, ne_m2, f1, c_refuse0, c_refuse1, h3, h4, k2, k3, r1, hc.1]
        exact ⟨_, _, _, _, _, rfl, rfl, onlyW_of hz (onlyR_bump hr _ (by decide))⟩
    · simp (disch := omega) only [↓reduceIte, h_let, hg_in, hg_zb, hg_z0, hg_z1, hg_nz, Option.bind_some, if_pos, if_neg, bI_0, bI_n0, nI_add, nI_mul, nI_ltI, nI_leI, nI_eq, nI_clamp, nI_subN, nI_divN, nI_mod2, nI_m1e, nI_em1, nI_m2e, nI_lt0, m1_lt0, m1_lt, m1_le, h_u_at, h_u_off2, h_u_pl, li_0, li_1, li_2, li_3, li_4, li_5, li_6, li_7, li_8, li_9, li_10, li_11, li_12, li_13, li_14, li_15, li_16, li_17, li_18, li_19, li_20, li_21, li_22, li_23, li_24, li_25, li_26, li_27, li_28, li_29, li_30, li_31, li_32, li_40, li_43, li_45, li_47, li_48, li_57, li_59, li_60, li_61, li_62, li_63, li_64, li_80, li_92, li_97, li_99, li_100, li_122, li_123, li_125, li_166, li_201, li_210, li_250, li_255, li_256, li_257, li_258, li_259, li_260, li_261, li_262, li_263, li_264, li_265, li_266, li_267, li_268, li_300, li_500, li_1000, li_12345, li_27720, li_1000000, li_1103515245, ne_m1, ne_m2, f1, c_refuse0, c_refuse1, h2, h3, r1, hc.1]
      exact ⟨_, _, _, _, _, rfl, rfl, onlyW_of hz (onlyR_bump hr _ (by decide))⟩
theorem half_L {D : rD} (hD : rOk D) {s : Nat} (hs : s < D 0 0) {Im : hI} (hm : mR D Im) : ∀ (r k fuel : Nat) (I : hI) (J Jm : hJ), k + r = 21 → r < fuel → cR D I → hzOk D I J → ∃ (a : Int32) (I' : hI) (J' Jm' : hJ), mC_half_L43 fuel (nI s) (nI k) I J = some (a, I', J') ∧ mM_half_L25 fuel (nI s) (lN (4 ^ k)) (nI k) Im Jm = some (a, Im, Jm') ∧ (∀ c i, c ≠ 37 → I' c i = I c i) ∧ (∀ c i, (c < 33 ∨ 36 < c) → J' c i = J c i) ∧ hzOk D I' J' ∧ (∀ c i, c ≠ 43 → c ≠ 44 → Jm' c i = Jm c i) := by
  have hn := hD.2.1
  intro r
  induction r with
  | zero =>
    intro k fuel I J Jm hk hfu hc hz
    obtain ⟨fuel, rfl⟩ : ∃ m, fuel = m + 1 := ⟨fuel - 1, by omega⟩
    unfold mC_half_L43 mC_half_B43 mM_half_L25 mM_half_B25
    simp (disch := omega) only [↓reduceIte, h_let, hg_in, hg_zb, hg_z0, hg_z1, hg_nz, Option.bind_some, if_pos, if_neg, bI_0, bI_n0, nI_add, nI_mul, nI_ltI, nI_leI, nI_eq, nI_clamp, nI_subN, nI_divN, nI_mod2, nI_m1e, nI_em1, nI_m2e, nI_lt0, m1_lt0, m1_lt, m1_le, h_u_at, h_u_off2, h_u_pl, li_0, li_1, li_2, li_3, li_4, li_5, li_6, li_7, li_8, li_9, li_10, li_11, li_12, li_13, li_14, li_15, li_16, li_17, li_18, li_19, li_20, li_21, li_22, li_23, li_24, li_25, li_26, li_27, li_28, li_29, li_30, li_31, li_32, li_40, li_43, li_45, li_47, li_48, li_57, li_59, li_60, li_61, li_62, li_63, li_64, li_80, li_92, li_97, li_99, li_100, li_122, li_123, li_125, li_166, li_201, li_210, li_250, li_255, li_256, li_257, li_258, li_259, li_260, li_261, li_262, li_263, li_264, li_265, li_266, li_267, li_268, li_300, li_500, li_1000, li_12345, li_27720, li_1000000, li_1103515245, ne_m1, ne_m2]
    exact ⟨_, _, _, _, rfl, rfl, fun _ _ _ => rfl, fun _ _ _ => rfl, hz, fun _ _ _ _ => rfl⟩
  | succ r ih =>
    intro k fuel I J Jm hk hfu hc hz
    obtain ⟨fuel, rfl⟩ : ∃ m, fuel = m + 1 := ⟨fuel - 1, by omega⟩
    obtain ⟨I1, J1, a1, a2, a3, a4⟩ := hz_told hD hc hz (q := false) (p := false) (k := k) (s := s) (by omega) hs
    obtain ⟨J2, b1, b2, b3⟩ := mw_lays hD hm (k0 := k) (by omega) false false Jm
    rw [bI_f] at a1 b1
    have hv := wv_lt hD false false (k := k) (by omega) hs
    have h4 := pow4_20 (k := k) (by omega)
    have hp : 2 ^ (2 * k) = 4 ^ k := by rw [Nat.pow_mul]
    unfold mC_half_L43 mC_half_B43 mM_half_L25 mM_half_B25
    by_cases hlt : 2 * wv D false false k s < 4 ^ k
    · obtain ⟨a, I', J', Jm', c1, c2, c3, c4, c5, c6⟩ := ih (k + 1) fuel I1 J1 J2 (by omega) (by omega) (cR_37 hc a2) a4
      simp (disch := omega) only [↓reduceIte, h_let, hg_in, hg_zb, hg_z0, hg_z1, hg_nz, Option.bind_some, if_pos, if_neg, bI_0, bI_n0, nI_add, nI_mul, nI_ltI, nI_leI, nI_eq, nI_clamp, nI_subN, nI_divN, nI_mod2, nI_m1e, nI_em1, nI_m2e, nI_lt0, m1_lt0, m1_lt, m1_le, h_u_at, h_u_off2, h_u_pl, li_0, li_1, li_2, li_3, li_4, li_5, li_6, li_7, li_8, li_9, li_10, li_11, li_12, li_13, li_14, li_15, li_16, li_17, li_18, li_19, li_20, li_21, li_22, li_23, li_24, li_25, li_26, li_27, li_28, li_29, li_30, li_31, li_32, li_40, li_43, li_45, li_47, li_48, li_57, li_59, li_60, li_61, li_62, li_63, li_64, li_80, li_92, li_97, li_99, li_100, li_122, li_123, li_125, li_166, li_201, li_210, li_250, li_255, li_256, li_257, li_258, li_259, li_260, li_261, li_262, li_263, li_264, li_265, li_266, li_267, li_268, li_300, li_500, li_1000, li_12345, li_27720, li_1000000, li_1103515245, ne_m1, ne_m2, a1, b1, b3 s hs, ll_1, ll_2, ll_4, lN_mul, nI_l, lN_shl2, Nat.one_mul, hp, lN_ltL, ← Nat.pow_succ, c1, c2]
      exact ⟨_, _, _, _, rfl, rfl, fun c i h => by rw [c3 c i h, a2 c i h], fun c i h => by rw [c4 c i h, a3 c i h], c5, fun c i h h' => by rw [c6 c i h h', b2 c i h h']⟩
    · simp (disch := omega) only [↓reduceIte, h_let, hg_in, hg_zb, hg_z0, hg_z1, hg_nz, Option.bind_some, if_pos, if_neg, bI_0, bI_n0, nI_add, nI_mul, nI_ltI, nI_leI, nI_eq, nI_clamp, nI_subN, nI_divN, nI_mod2, nI_m1e, nI_em1, nI_m2e, nI_lt0, m1_lt0, m1_lt, m1_le, h_u_at, h_u_off2, h_u_pl, li_0, li_1, li_2, li_3, li_4, li_5, li_6, li_7, li_8, li_9, li_10, li_11, li_12, li_13, li_14, li_15, li_16, li_17, li_18, li_19, li_20, li_21, li_22, li_23, li_24, li_25, li_26, li_27, li_28, li_29, li_30, li_31, li_32, li_40, li_43, li_45, li_47, li_48, li_57, li_59, li_60, li_61, li_62, li_63, li_64, li_80, li_92, li_97, li_99, li_100, li_122, li_123, li_125, li_166, li_201, li_210, li_250, li_255, li_256, li_257, li_258, li_259, li_260, li_261, li_262, li_263, li_264, li_265, li_266, li_267, li_268, li_300, li_500, li_1000, li_12345, li_27720, li_1000000, li_1103515245, ne_m1, ne_m2, a1, b1, b3 s hs, ll_1, ll_2, ll_4, lN_mul, nI_l, lN_shl2, Nat.one_mul, hp, lN_ltL]
      exact ⟨_, _, _, _, rfl, rfl, a2, a3, a4, b2⟩
theorem pr_half {hl : Bool} {D : rD} {Ic Im : hI} {Jc Jm : hJ} (hf : flagL hl D Ic Im) (hr : refu Ic Im) (hz : hl = true → hzOk D Ic Jc) (v : Int32) : ∃ (a : Int32) (Ic' : hI) (Jc' : hJ) (Im' : hI) (Jm' : hJ), mC_half v Ic Jc = some (a, Ic', Jc') ∧ mM_half v Im Jm = some (a, Im', Jm') ∧ onlyW hl D Ic Jc Im Jm Ic' Jc' Im' Jm' := by
  obtain ⟨f1, f2, f3⟩ := hf
  have g2 : h_u Im 0 0 (nI 0) 0 37 = bI hl := by rw [h_u_pl _ _ _ (by decide)]; exact f2
  unfold mC_half mC_half_13 mM_half
  cases hl
  · have f1 : Ic 0 11 = nI 0 := f1
    have r0 : ∀ v1 v2, mM_isRefused v1 v2 (h_u Im 0 0 (nI 0)) = _ := fun v1 v2 => m_ref0 g2
    obtain ⟨z, hzz⟩ := m_isStateT v (h_u Im 0 0 (nI 0))
    simp (disch := omega) only [↓reduceIte, h_let, hg_in, hg_zb, hg_z0, hg_z1, hg_nz, Option.bind_some, if_pos, if_neg, bI_0, bI_n0, nI_add, nI_mul, nI_ltI, nI_leI, nI_eq, nI_clamp, nI_subN, nI_divN, nI_mod2, nI_m1e, nI_em1, nI_m2e, nI_lt0, m1_lt0, m1_lt, m1_le, h_u_at, h_u_off2, h_u_pl, li_0, li_1, li_2, li_3, li_4, li_5, li_6, li_7, li_8, li_9, li_10, li_11, li_12, li_13, li_14, li_15, li_16, li_17, li_18, li_19, li_20, li_21, li_22, li_23, li_24, li_25, li_26, li_27, li_28, li_29, li_30, li_31, li_32, li_40, li_43, li_45, li_47, li_48, li_57, li_59, li_60, li_61, li_62, li_63, li_64, li_80, li_92, li_97, li_99, li_100, li_122, li_123, li_125, li_166, li_201, li_210, li_250, li_255, li_256, li_257, li_258, li_259, li_260, li_261, li_262, li_263, li_264, li_265, li_266, li_267, li_268, li_300, li_500, li_1000, li_12345, li_27720, li_1000000, li_1103515245, ne_m1, ne_m2, f1, c_refuse1, hzz, r0]
    exact ⟨_, _, _, _, _, rfl, rfl, onlyW_of hz (onlyR_bump hr _ (by decide))⟩
  · obtain ⟨hD, hc, hm⟩ := f3 rfl
    have hm' := mR_mark hm (nI 0)
    have f1 : Ic 0 11 = nI 1 := f1
    have r1 : ∀ v2, mM_isRefused (nI 0) v2 (h_u Im 0 0 (nI 0)) = _ := fun v2 => m_ref1 g2
    have r2 : mM_isRefused (nI 1) (nI 0) (h_u Im 0 0 (nI 0)) = _ := m_ref2 g2
    rcases m_isState hD hm'.1 v with ⟨s, h1, rfl, h3, h4⟩ | ⟨h1, h2, h3⟩
    · obtain ⟨a, I', J', Jm', c1, c2, c3, c4, c5, c6⟩ := half_L hD h1 hm' 21 0 hF Ic Jc Jm (by omega) (by unfold hF; omega) hc (hz rfl)
      have e : (4 : Nat) ^ 0 = 1 := rfl
      rw [e] at c2
      simp (disch := omega) only [↓reduceIte, h_let, hg_in, hg_zb, hg_z0, hg_z1, hg_nz, Option.bind_some, if_pos, if_neg, bI_0, bI_n0, nI_add, nI_mul, nI_ltI, nI_leI, nI_eq, nI_clamp, nI_subN, nI_divN, nI_mod2, nI_m1e, nI_em1, nI_m2e, nI_lt0, m1_lt0, m1_lt, m1_le, h_u_at, h_u_off2, h_u_pl, li_0, li_1, li_2, li_3, li_4, li_5, li_6, li_7, li_8, li_9, li_10, li_11, li_12, li_13, li_14, li_15, li_16, li_17, li_18, li_19, li_20, li_21, li_22, li_23, li_24, li_25, li_26, li_27, li_28, li_29, li_30, li_31, li_32, li_40, li_43, li_45, li_47, li_48, li_57, li_59, li_60, li_61, li_62, li_63, li_64, li_80, li_92, li_97, li_99, li_100, li_122, li_123, li_125, li_166, li_201, li_210, li_250, li_255, li_256, li_257, li_258, li_259, li_260, li_261, li_262, li_263, li_264, li_265, li_266, li_267, li_268, li_300, li_500, li_1000, li_12345, li_27720, li_1000000, li_1103515245, ne_m1, ne_m2, f1, c_refuse0, h3, h4, r2, hc.1, ll_1, c1, c2]
      exact ⟨_, _, _, _, _, rfl, rfl, Ic, onlyR_same hr _, c3, c4, c6, fun _ => c5⟩
    · simp (disch := omega) only [↓reduceIte, h_let, hg_in, hg_zb, hg_z0, hg_z1, hg_nz, Option.bind_some, if_pos, if_neg, bI_0, bI_n0, nI_add, nI_mul, nI_ltI, nI_leI, nI_eq, nI_clamp, nI_subN, nI_divN, nI_mod2, nI_m1e, nI_em1, nI_m2e, nI_lt0, m1_lt0, m1_lt, m1_le, h_u_at, h_u_off2, h_u_pl, li_0, li_1, li_2, li_3, li_4, li_5, li_6, li_7, li_8, li_9, li_10, li_11, li_12, li_13, li_14, li_15, li_16, li_17, li_18, li_19, li_20, li_21, li_22, li_23, li_24, li_25, li_26, li_27, li_28, li_29, li_30, li_31, li_32, li_40, li_43, li_45, li_47, li_48, li_57, li_59, li_60, li_61, li_62, li_63, li_64, li_80, li_92, li_97, li_99, li_100, li_122, li_123, li_125, li_166, li_201, li_210, li_250, li_255, li_256, li_257, li_258, li_259, li_260, li_261, li_262, li_263, li_264, li_265, li_266, li_267, li_268, li_300, li_500, li_1000, li_12345, li_27720, li_1000000, li_1103515245, ne_m1, ne_m2, f1, c_refuse0, c_refuse1, h2, h3, r1, hc.1]
      exact ⟨_, _, _, _, _, rfl, rfl, onlyW_of hz (onlyR_bump hr _ (by decide))⟩
