/-! Plans, the reference's side: determinants with one column put in, fractions in lowest terms. -/
def gaM (col b : Nat) : Nat → Nat := fun i => if i = col then b else i
theorem csG_out (col b : Nat) : ∀ m, m ≤ col → csG (gaM col b) m = csN m
  | 0, _ => rfl
  | m + 1, h => by
    rw [csG, csN, csG_out col b m (by omega)]
    unfold gaM
    rw [if_neg (by omega)]
theorem csG_set (col b : Nat) : ∀ m, col < m → csG (gaM col b) m = (csN m).set (m - 1 - col) b
  | 0, h => absurd h (by omega)
  | m + 1, h => by
    rw [csG, csN]
    by_cases e : col = m
    · subst e
      rw [csG_out col b col (Nat.le_refl _)]
      have : col + 1 - 1 - col = 0 := by omega
      rw [this]
      unfold gaM
      rw [if_pos rfl]
      rfl
    · rw [csG_set col b m (by omega)]
      have : m + 1 - 1 - col = (m - 1 - col) + 1 := by omega
      rw [this]
      unfold gaM
      rw [if_neg (by omega)]
      rfl
section Fr
variable {D : rD} {p : Nat} {f : Nat → Bool}
theorem eR_bB (hD : rOk D) (hfi : ∀ u, f u = true → pIn D u = true) {b : Nat} (hb : b = 20 ∨ b = 21) (col : Nat) : bB (eR D p f) (gaM col b) (cnt f (D 0 0)) := by
  intro L cs hL hl h0 hc h10
  have h1 := minor_le (p := p) hD hfi hb L cs hL hl (fun c hcc => by
    obtain ⟨i, hi, e⟩ := hc c hcc
    unfold gaM at e
    by_cases q : i = col
    · rw [if_pos q] at e; exact Or.inr e
    · rw [if_neg q] at e; left; omega) h0
  have h2 := minor_cap h10
  refine ⟨⟨by omega, by omega⟩, fun h9 => ?_⟩
  have h3 : 1920 * (cs.length : Int) * 4 ^ (cs.length - 1) ≤ 1132462080 := by
    have : cs.length = 1 ∨ cs.length = 2 ∨ cs.length = 3 ∨ cs.length = 4 ∨ cs.length = 5 ∨ cs.length = 6 ∨ cs.length = 7 ∨ cs.length = 8 ∨ cs.length = 9 := by omega
    rcases this with e | e | e | e | e | e | e | e | e <;> rw [e] <;> decide
  exact ⟨by omega, by omega⟩
theorem mp_dw_i (hD : rOk D) {b : Nat} {I : hI} (ha : askM D f I) {v1 : Int32} {col : Nat} (hv : ∀ i, i < cnt f (D 0 0) → (nI i = v1 ↔ i = col)) {r : Nat} (hr : r < cnt f (D 0 0)) (k2 : _) : ∀ (c i fuel : Nat) (J : hJ), i + c = cnt f (D 0 0) → c < fuel → eqM D p f b J → (∀ i', i' < i → J 41 (10 * r + i') = lI (eR D p f r (gaM col b i'))) → ∃ J' : hJ, mM_determinantWith_L12 k2 fuel v1 (nI r) (nI i) I J = k2 v1 (nI (r + 1)) I J' ∧ (∀ a x, (a ≠ 41 ∨ x < 10 * r ∨ 10 * r + 10 ≤ x) → J' a x = J a x) ∧ ∀ i', i' < cnt f (D 0 0) → J' 41 (10 * r + i') = lI (eR D p f r (gaM col b i')) := by
  have hn := hD.2.1
  have hm := cnt_le f (D 0 0)
  intro c
  induction c with
  | zero =>
    intro i fuel J hi hf gJ hJ0
    obtain ⟨fuel, rfl⟩ : ∃ m, fuel = m + 1 := ⟨fuel - 1, by omega⟩
    unfold mM_determinantWith_L12 mM_determinantWith_B12
    rw [ha.1]
    simp (disch := omega) only [↓reduceIte, h_let, hg_in, hg_zb, hg_z0, hg_z1, hg_nz, Option.bind_some, if_pos, if_neg, bI_0, bI_n0, nI_add, nI_mul, nI_ltI, nI_leI, nI_eq, nI_clamp, nI_subN, nI_divN, nI_mod2, nI_m1e, nI_em1, nI_m2e, nI_lt0, m1_lt0, m1_lt, m1_le, h_u_at, h_u_off2, h_u_pl, li_0, li_1, li_2, li_3, li_4, li_5, li_6, li_7, li_8, li_9, li_10, li_11, li_12, li_13, li_14, li_15, li_16, li_17, li_18, li_19, li_20, li_21, li_22, li_23, li_24, li_25, li_26, li_27, li_28, li_29, li_30, li_31, li_32, li_40, li_43, li_45, li_47, li_48, li_57, li_59, li_60, li_61, li_62, li_63, li_64, li_80, li_92, li_97, li_99, li_100, li_122, li_123, li_125, li_166, li_201, li_210, li_250, li_255, li_256, li_257, li_258, li_259, li_260, li_261, li_262, li_263, li_264, li_265, li_266, li_267, li_268, li_300, li_500, li_1000, li_12345, li_27720, li_1000000, li_1103515245, ne_m1, ne_m2]
    exact ⟨J, rfl, fun _ _ _ => rfl, fun i' hi' => hJ0 i' (by omega)⟩
  | succ c ih =>
    intro i fuel J hi hf gJ hJ0
    obtain ⟨fuel, rfl⟩ : ∃ m, fuel = m + 1 := ⟨fuel - 1, by omega⟩
    obtain ⟨g1, g2⟩ := gJ r hr
    have g3 := g2 i (by omega)
    obtain ⟨J', a1, a2, a3⟩ := ih (i + 1) fuel (h_u J 41 (10 * r + i) (lI (eR D p f r (gaM col b i)))) (by omega) (by omega) (fun r' hr' => ⟨by rw [h_u_off2 _ _ _ _ (by decide)]; exact (gJ r' hr').1, fun i' hi' => by rw [h_u_off2 _ _ _ _ (by decide)]; exact (gJ r' hr').2 i' hi'⟩) (fun i' hi' => by
      by_cases e : i' = i
      · subst e; exact h_u_at _ _ _ _
      · rw [h_u_pl _ _ _ (by omega)]; exact hJ0 i' (by omega))
    refine ⟨J', ?_, fun a x hx => ?_, a3⟩
    · unfold mM_determinantWith_L12 mM_determinantWith_B12 mM_determinantWith_49
      rw [ha.1]
      by_cases q : i = col
      · have e1 := (hv i (by omega)).mpr q
        have e2 : gaM col b i = b := by unfold gaM; rw [if_pos q]
        rw [e2] at a1
        rw [if_pos e1]
        simp (disch := omega) only [↓reduceIte, h_let, hg_in, hg_zb, hg_z0, hg_z1, hg_nz, Option.bind_some, if_pos, if_neg, bI_0, bI_n0, nI_add, nI_mul, nI_ltI, nI_leI, nI_eq, nI_clamp, nI_subN, nI_divN, nI_mod2, nI_m1e, nI_em1, nI_m2e, nI_lt0, m1_lt0, m1_lt, m1_le, h_u_at, h_u_off2, h_u_pl, li_0, li_1, li_2, li_3, li_4, li_5, li_6, li_7, li_8, li_9, li_10, li_11, li_12, li_13, li_14, li_15, li_16, li_17, li_18, li_19, li_20, li_21, li_22, li_23, li_24, li_25, li_26, li_27, li_28, li_29, li_30, li_31, li_32, li_40, li_43, li_45, li_47, li_48, li_57, li_59, li_60, li_61, li_62, li_63, li_64, li_80, li_92, li_97, li_99, li_100, li_122, li_123, li_125, li_166, li_201, li_210, li_250, li_255, li_256, li_257, li_258, li_259, li_260, li_261, li_262, li_263, li_264, li_265, li_266, li_267, li_268, li_300, li_500, li_1000, li_12345, li_27720, li_1000000, li_1103515245, ne_m1, ne_m2, g1]
        exact a1
      · have e1 : ¬ nI i = v1 := fun e => q ((hv i (by omega)).mp e)
        have e2 : gaM col b i = i := by unfold gaM; rw [if_neg q]
        rw [e2] at a1
        rw [if_neg e1]
        simp (disch := omega) only [↓reduceIte, h_let, hg_in, hg_zb, hg_z0, hg_z1, hg_nz, Option.bind_some, if_pos, if_neg, bI_0, bI_n0, nI_add, nI_mul, nI_ltI, nI_leI, nI_eq, nI_clamp, nI_subN, nI_divN, nI_mod2, nI_m1e, nI_em1, nI_m2e, nI_lt0, m1_lt0, m1_lt, m1_le, h_u_at, h_u_off2, h_u_pl, li_0, li_1, li_2, li_3, li_4, li_5, li_6, li_7, li_8, li_9, li_10, li_11, li_12, li_13, li_14, li_15, li_16, li_17, li_18, li_19, li_20, li_21, li_22, li_23, li_24, li_25, li_26, li_27, li_28, li_29, li_30, li_31, li_32, li_40, li_43, li_45, li_47, li_48, li_57, li_59, li_60, li_61, li_62, li_63, li_64, li_80, li_92, li_97, li_99, li_100, li_122, li_123, li_125, li_166, li_201, li_210, li_250, li_255, li_256, li_257, li_258, li_259, li_260, li_261, li_262, li_263, li_264, li_265, li_266, li_267, li_268, li_300, li_500, li_1000, li_12345, li_27720, li_1000000, li_1103515245, ne_m1, ne_m2, g3]
        exact a1
    · rw [a2 a x hx]
      by_cases e : a = 41
      · subst e; exact h_u_pl _ _ _ (by omega)
      · exact h_u_off2 _ _ _ _ e
theorem mp_dw_r (hD : rOk D) (hfi : ∀ u, f u = true → pIn D u = true) {b : Nat} (hb : b = 20 ∨ b = 21) {I : hI} (ha : askM D f I) {v1 : Int32} {col : Nat} (hv : ∀ i, i < cnt f (D 0 0) → (nI i = v1 ↔ i = col)) : ∀ (c r fuel : Nat) (J : hJ), r + c = cnt f (D 0 0) → c < fuel → eqM D p f b J → (∀ r', r' < r → ∀ i', i' < cnt f (D 0 0) → J 41 (10 * r' + i') = lI (eR D p f r' (gaM col b i'))) → ∃ J' : hJ, mM_determinantWith_L2 fuel v1 (nI r) I J = some (lI (dt (rsN (eR D p f) (cnt f (D 0 0))) (csG (gaM col b) (cnt f (D 0 0)))), J') ∧ (∀ a x, a ≠ 41 → J' a x = J a x) := by
  have hn := hD.2.1
  have hm := cnt_le f (D 0 0)
  intro c
  induction c with
  | zero =>
    intro r fuel J hr hf gJ hJ0
    obtain ⟨fuel, rfl⟩ : ∃ m, fuel = m + 1 := ⟨fuel - 1, by omega⟩
    obtain ⟨J', a1, a2⟩ := det_main (eR_bB (p := p) hD hfi hb col) (by omega) (J := J) (fun r' i hr' hi => hJ0 r' (by omega) i hi)
    refine ⟨J', ?_, a2⟩
    unfold mM_determinantWith_L2 mM_determinantWith_B2
    rw [ha.1]
    simp (disch := omega) only [↓reduceIte, h_let, hg_in, hg_zb, hg_z0, hg_z1, hg_nz, Option.bind_some, if_pos, if_neg, bI_0, bI_n0, nI_add, nI_mul, nI_ltI, nI_leI, nI_eq, nI_clamp, nI_subN, nI_divN, nI_mod2, nI_m1e, nI_em1, nI_m2e, nI_lt0, m1_lt0, m1_lt, m1_le, h_u_at, h_u_off2, h_u_pl, li_0, li_1, li_2, li_3, li_4, li_5, li_6, li_7, li_8, li_9, li_10, li_11, li_12, li_13, li_14, li_15, li_16, li_17, li_18, li_19, li_20, li_21, li_22, li_23, li_24, li_25, li_26, li_27, li_28, li_29, li_30, li_31, li_32, li_40, li_43, li_45, li_47, li_48, li_57, li_59, li_60, li_61, li_62, li_63, li_64, li_80, li_92, li_97, li_99, li_100, li_122, li_123, li_125, li_166, li_201, li_210, li_250, li_255, li_256, li_257, li_258, li_259, li_260, li_261, li_262, li_263, li_264, li_265, li_266, li_267, li_268, li_300, li_500, li_1000, li_12345, li_27720, li_1000000, li_1103515245, ne_m1, ne_m2, a1]
  | succ c ih =>
    intro r fuel J hr hf gJ hJ0
    obtain ⟨fuel, rfl⟩ : ∃ m, fuel = m + 1 := ⟨fuel - 1, by omega⟩
    obtain ⟨J1, a1, a2, a3⟩ := mp_dw_i hD ha hv (r := r) (by omega) (mM_determinantWith_L2 fuel) (cnt f (D 0 0)) 0 hF J (by omega) (by unfold hF; omega) gJ (fun i' hi' => by omega)
    obtain ⟨J', b1, b2⟩ := ih (r + 1) fuel J1 (by omega) (by omega) (fun r' hr' => ⟨by rw [a2 40 _ (by omega)]; exact (gJ r' hr').1, fun i' hi' => by rw [a2 40 _ (by omega)]; exact (gJ r' hr').2 i' hi'⟩) (fun r' hr' i' hi' => by
      by_cases e : r' = r
      · subst e; exact a3 i' hi'
      · rw [a2 41 _ (by omega)]; exact hJ0 r' (by omega) i' hi')
    refine ⟨J', ?_, fun a x hx => by rw [b2 a x hx, a2 a x (Or.inl hx)]⟩
    unfold mM_determinantWith_L2 mM_determinantWith_B2
    rw [ha.1]
    simp (disch := omega) only [↓reduceIte, h_let, hg_in, hg_zb, hg_z0, hg_z1, hg_nz, Option.bind_some, if_pos, if_neg, bI_0, bI_n0, nI_add, nI_mul, nI_ltI, nI_leI, nI_eq, nI_clamp, nI_subN, nI_divN, nI_mod2, nI_m1e, nI_em1, nI_m2e, nI_lt0, m1_lt0, m1_lt, m1_le, h_u_at, h_u_off2, h_u_pl, li_0, li_1, li_2, li_3, li_4, li_5, li_6, li_7, li_8, li_9, li_10, li_11, li_12, li_13, li_14, li_15, li_16, li_17, li_18, li_19, li_20, li_21, li_22, li_23, li_24, li_25, li_26, li_27, li_28, li_29, li_30, li_31, li_32, li_40, li_43, li_45, li_47, li_48, li_57, li_59, li_60, li_61, li_62, li_63, li_64, li_80, li_92, li_97, li_99, li_100, li_122, li_123, li_125, li_166, li_201, li_210, li_250, li_255, li_256, li_257, li_258, li_259, li_260, li_261, li_262, li_263, li_264, li_265, li_266, li_267, li_268, li_300, li_500, li_1000, li_12345, li_27720, li_1000000, li_1103515245, ne_m1, ne_m2, a1, b1]
theorem mp_detAt (hD : rOk D) (hfi : ∀ u, f u = true → pIn D u = true) {b : Nat} (hb : b = 20 ∨ b = 21) {I : hI} (ha : askM D f I) {col : Nat} (hcol : col < cnt f (D 0 0)) {J : hJ} (gJ : eqM D p f b J) : ∃ J' : hJ, mM_determinantWith (nI col) I J = some (lI (gS D p f col b), J') ∧ (∀ a x, a ≠ 41 → J' a x = J a x) := by
  have hn := hD.2.1
  have hm := cnt_le f (D 0 0)
  obtain ⟨J', a1, a2⟩ := mp_dw_r hD hfi hb ha (v1 := nI col) (col := col) (fun i hi => nI_eq (by omega) (by omega)) (cnt f (D 0 0)) 0 hF J (by omega) (by unfold hF; omega) gJ (fun r' hr' => by omega)
  rw [csG_set col b _ hcol] at a1
  refine ⟨J', ?_, a2⟩
  unfold mM_determinantWith gS
  rw [li_0, a1]
theorem mp_detAll (hD : rOk D) (hfi : ∀ u, f u = true → pIn D u = true) {b : Nat} (hb : b = 20 ∨ b = 21) {I : hI} (ha : askM D f I) {J : hJ} (gJ : eqM D p f b J) : ∃ J' : hJ, mM_determinantWith (-1 : Int32) I J = some (lI (gD D p f), J') ∧ (∀ a x, a ≠ 41 → J' a x = J a x) := by
  have hn := hD.2.1
  have hm := cnt_le f (D 0 0)
  obtain ⟨J', a1, a2⟩ := mp_dw_r hD hfi hb ha (v1 := (-1 : Int32)) (col := 99) (fun i hi => ⟨fun e => by
      have : (nI i).toInt = (i : Int) := nI_toInt (by omega)
      rw [e] at this
      have e2 : (-1 : Int32).toInt = -1 := by decide
      omega, fun e => by omega⟩) (cnt f (D 0 0)) 0 hF J (by omega) (by unfold hF; omega) gJ (fun r' hr' => by omega)
  rw [csG_out 99 b _ (by omega)] at a1
  refine ⟨J', ?_, a2⟩
  unfold mM_determinantWith gD
  rw [li_0, a1]
theorem gSf_le (hD : rOk D) (hfi : ∀ u, f u = true → pIn D u = true) {i b : Nat} (hi : i < cnt f (D 0 0)) (hb : b = 20 ∨ b = 21) : - 5033164800 ≤ gS D p f i b ∧ gS D p f i b ≤ 5033164800 := by
  have hn := hD.2.1
  have hm := cnt_le f (D 0 0)
  unfold gS
  rw [rsN_map, ← csG_set i b _ hi]
  exact ((eR_bB (p := p) hD hfi hb i) (csN (cnt f (D 0 0))) (csG (gaM i b) (cnt f (D 0 0))) (fun x hx => (csN_mem _ _).mp hx) (by rw [csN_len, csG_len]) (by rw [csG_len]; omega) (fun c hc => csG_mem _ _ c hc) (by rw [csG_len]; omega)).1
theorem gDf_le (hD : rOk D) (hf : ∀ u, f u = true → pPs D p u = true) : 0 < gD D p f ∧ gD D p f ≤ 1048576 := ⟨eq_pos hD hf _ (Nat.le_refl _), lead_le hD (fun u hu => hfPs u (hf u hu)) (Nat.le_refl _)⟩
/-- a fraction's two cells, of the states asked that are done -/
theorem mp_fr_L (hD : rOk D) (hp : p < 64) (hf : ∀ u, f u = true → pPs D p u = true) {b : Nat} (hb : b = 20 ∨ b = 21) {I : hI} (ha : askM D f I) {a3 a4 : Nat} (h34 : a3 ≠ a4) (h3 : a3 ≠ 40 ∧ a3 ≠ 41) (h4 : a4 ≠ 40 ∧ a4 ≠ 41) : ∀ (c i fuel : Nat) (J : hJ), i + c = cnt f (D 0 0) → c < fuel → eqM D p f b J → (∀ i', i' < i → J a3 (10 * p + sel f (D 0 0) i') = lI (rdU (gS D p f i' b) (gD D p f)) ∧ J a4 (10 * p + sel f (D 0 0) i') = lI (rdL (gS D p f i' b) (gD D p f))) → ∃ J' : hJ, mM_laysFractions_L72 fuel (nI p) a3 a4 (lI (gD D p f)) (nI i) I J = some (I, J') ∧ (∀ a x, a ≠ 41 → (a ≠ a3 ∧ a ≠ a4 ∨ ∀ s, s < D 0 0 → f s = true → x ≠ 10 * p + s) → J' a x = J a x) ∧ ∀ i', i' < cnt f (D 0 0) → J' a3 (10 * p + sel f (D 0 0) i') = lI (rdU (gS D p f i' b) (gD D p f)) ∧ J' a4 (10 * p + sel f (D 0 0) i') = lI (rdL (gS D p f i' b) (gD D p f)) := by
  have hn := hD.2.1
  have hm := cnt_le f (D 0 0)
  have hfi : ∀ u, f u = true → pIn D u = true := fun u hu => hfPs u (hf u hu)
  have hd := gDf_le hD hf
  intro c
  induction c with
  | zero =>
    intro i fuel J hi hfu gJ hJ0
    obtain ⟨fuel, rfl⟩ : ∃ m, fuel = m + 1 := ⟨fuel - 1, by omega⟩
    unfold mM_laysFractions_L72 mM_laysFractions_B72
    rw [ha.1]
    simp (disch := omega) only [↓reduceIte, h_let, hg_in, hg_zb, hg_z0, hg_z1, hg_nz, Option.bind_some, if_pos, if_neg, bI_0, bI_n0, nI_add, nI_mul, nI_ltI, nI_leI, nI_eq, nI_clamp, nI_subN, nI_divN, nI_mod2, nI_m1e, nI_em1, nI_m2e, nI_lt0, m1_lt0, m1_lt, m1_le, h_u_at, h_u_off2, h_u_pl, li_0, li_1, li_2, li_3, li_4, li_5, li_6, li_7, li_8, li_9, li_10, li_11, li_12, li_13, li_14, li_15, li_16, li_17, li_18, li_19, li_20, li_21, li_22, li_23, li_24, li_25, li_26, li_27, li_28, li_29, li_30, li_31, li_32, li_40, li_43, li_45, li_47, li_48, li_57, li_59, li_60, li_61, li_62, li_63, li_64, li_80, li_92, li_97, li_99, li_100, li_122, li_123, li_125, li_166, li_201, li_210, li_250, li_255, li_256, li_257, li_258, li_259, li_260, li_261, li_262, li_263, li_264, li_265, li_266, li_267, li_268, li_300, li_500, li_1000, li_12345, li_27720, li_1000000, li_1103515245, ne_m1, ne_m2]
    exact ⟨J, rfl, fun _ _ _ _ => rfl, fun i' hi' => hJ0 i' (by omega)⟩
  | succ c ih =>
    intro i fuel J hi hfu gJ hJ0
    obtain ⟨fuel, rfl⟩ : ∃ m, fuel = m + 1 := ⟨fuel - 1, by omega⟩
    obtain ⟨s1, s2, s3⟩ := sel_spec f (D 0 0) i (by omega)
    have e38 := ha.2 i (by omega)
    obtain ⟨J1, a1, a2⟩ := mp_detAt hD hfi hb ha (col := i) (by omega) gJ
    have hg := gSf_le hD hfi (p := p) (i := i) (by omega) hb
    have e2 := m_divisor (a := gS D p f i b) (b := gD D p f) (by omega) (by omega) (by omega) (by omega)
    have e3 : lN (Nat.gcd (gS D p f i b).natAbs (gD D p f).natAbs) = lI (gcI (gS D p f i b) (gD D p f)) := rfl
    rw [e3] at e2
    have hgp := gcI_pos (a := gS D p f i b) (b := gD D p f) (by omega)
    have hgl := gcI_le (a := gS D p f i b) (b := gD D p f) (by omega)
    have e4 : lI (gS D p f i b) / lI (gcI (gS D p f i b) (gD D p f)) = lI (rdU (gS D p f i b) (gD D p f)) := lI_div (by omega) (by omega) (by omega) (by omega)
    have e5 : lI (gD D p f) / lI (gcI (gS D p f i b) (gD D p f)) = lI (rdL (gS D p f i b) (gD D p f)) := lI_div (by omega) (by omega) (by omega) (by omega)
    have hnz : ∀ {β : Type} (k : Option β), h_g (h_nzL (lI (gcI (gS D p f i b) (gD D p f)))) k = k := fun k => hg_nzL k (by omega) (by omega) (by omega)
    have e6 : (0 : Int64) ≤ lI (gD D p f) := by
      have : (0 : Int64) = lI 0 := rfl
      rw [this]
      exact (lI_le (by omega) (by omega) (by omega) (by omega)).mpr (by omega)
    have hne : ∀ i', i' < i → sel f (D 0 0) i' ≠ sel f (D 0 0) i := fun i' hi' e => by
      have q := (sel_spec f (D 0 0) i' (by omega)).2.2
      rw [e, s3] at q
      omega
    obtain ⟨J', b1, b2, b3⟩ := ih (i + 1) fuel (h_u (h_u J1 a3 (10 * p + sel f (D 0 0) i) (lI (rdU (gS D p f i b) (gD D p f)))) a4 (10 * p + sel f (D 0 0) i) (lI (rdL (gS D p f i b) (gD D p f)))) (by omega) (by omega) (fun r' hr' => ⟨by rw [h_u_off2 _ _ _ _ (by omega), h_u_off2 _ _ _ _ (by omega), a2 40 _ (by omega)]; exact (gJ r' hr').1, fun i' hi' => by rw [h_u_off2 _ _ _ _ (by omega), h_u_off2 _ _ _ _ (by omega), a2 40 _ (by omega)]; exact (gJ r' hr').2 i' hi'⟩) (fun i' hi' => by
      by_cases e : i' = i
      · subst e
        exact ⟨by rw [h_u_off2 _ _ _ _ h34, h_u_at], by rw [h_u_at]⟩
      · have := hne i' (by omega)
        obtain ⟨q1, q2⟩ := hJ0 i' (by omega)
        exact ⟨by rw [h_u_off2 _ _ _ _ h34, h_u_pl _ _ _ (by omega), a2 a3 _ h3.2]; exact q1, by rw [h_u_pl _ _ _ (by omega), h_u_off2 _ _ _ _ (fun e => h34 e.symm), a2 a4 _ h4.2]; exact q2⟩)
    refine ⟨J', ?_, fun a x q1 q2 => ?_, b3⟩
    · unfold mM_laysFractions_L72 mM_laysFractions_B72 mM_laysFractions_113
      rw [ha.1]
      simp (disch := omega) only [↓reduceIte, h_let, hg_in, hg_zb, hg_z0, hg_z1, hg_nz, Option.bind_some, if_pos, if_neg, bI_0, bI_n0, nI_add, nI_mul, nI_ltI, nI_leI, nI_eq, nI_clamp, nI_subN, nI_divN, nI_mod2, nI_m1e, nI_em1, nI_m2e, nI_lt0, m1_lt0, m1_lt, m1_le, h_u_at, h_u_off2, h_u_pl, li_0, li_1, li_2, li_3, li_4, li_5, li_6, li_7, li_8, li_9, li_10, li_11, li_12, li_13, li_14, li_15, li_16, li_17, li_18, li_19, li_20, li_21, li_22, li_23, li_24, li_25, li_26, li_27, li_28, li_29, li_30, li_31, li_32, li_40, li_43, li_45, li_47, li_48, li_57, li_59, li_60, li_61, li_62, li_63, li_64, li_80, li_92, li_97, li_99, li_100, li_122, li_123, li_125, li_166, li_201, li_210, li_250, li_255, li_256, li_257, li_258, li_259, li_260, li_261, li_262, li_263, li_264, li_265, li_266, li_267, li_268, li_300, li_500, li_1000, li_12345, li_27720, li_1000000, li_1103515245, ne_m1, ne_m2, a1, e2, if_pos e6, e38, hnz, e4, e5]
      exact b1
    · rw [b2 a x q1 q2]
      rcases q2 with ⟨q3, q4⟩ | q2
      · rw [h_u_off2 _ _ _ _ q4, h_u_off2 _ _ _ _ q3, a2 a x q1]
      · have q5 := q2 _ s1 s2
        have e7 : ∀ (K : hJ) (c : Nat) (v : Int64), h_u K c (10 * p + sel f (D 0 0) i) v a x = K a x := fun K c v => by
          by_cases e : a = c
          · subst e; exact h_u_pl _ _ _ q5
          · exact h_u_off2 _ _ _ _ e
        rw [e7, e7, a2 a x q1]
end Fr
