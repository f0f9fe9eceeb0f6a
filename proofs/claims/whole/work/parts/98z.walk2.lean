/-! A round walked: one statement, both sides. -/
theorem k_simple {k : Nat} (h : k ≤ 2 ∨ k = 6) : k = 0 ∨ k = 1 ∨ k = 2 ∨ k = 6 := by omega
theorem k_fork {k : Nat} (h : 3 ≤ k ∧ k ≤ 5) : k = 3 ∨ k = 4 ∨ k = 5 := by omega
section Wk
variable {t w h sz n : Nat} {v c : Int32} {Q : rD} {P E : cE} {pr : Nat → Int} {Ic Im : hI} {x y p : Nat}
theorem go_step {a a2 it K : Nat} {Ic2 : hI} (hsz : sz ≤ 48) (h3 : Ic t 3 = nI sz) (ha : a < sz) (hit : it ≤ a) (hK : 48 < K) (h4 : Ic 6 4 = nI 0) (hs : mWk_goStep t (nI a) v Ic = some (nI a2, Ic2)) : mWk_goRound_L5 (K - it) t v (nI a) (nI it) Ic = mWk_goRound_L5 (K - (it + 1)) t v (nI a2) (nI (it + 1)) Ic2 := by
  obtain ⟨m, hm⟩ : ∃ m, K - it = m + 1 := ⟨K - it - 1, by omega⟩
  have e : K - (it + 1) = m := by omega
  rw [hm, e]
  show mWk_goRound_B5 (mWk_goRound_L5 m) t v (nI a) (nI it) Ic = _
  unfold mWk_goRound_B5
  simp (disch := omega) only [↓reduceIte, h_let, hg_in, hg_zb, hg_z0, hg_z1, hg_nz, Option.bind_some, if_pos, if_neg, bI_0, bI_n0, nI_add, nI_mul, nI_ltI, nI_leI, nI_eq, nI_clamp, nI_subN, nI_divN, nI_mod2, nI_m1e, nI_em1, nI_m2e, nI_lt0, m1_lt0, m1_lt, m1_le, h_u_at, h_u_off2, h_u_pl, li_0, li_1, li_2, li_3, li_4, li_5, li_6, li_7, li_8, li_9, li_10, li_11, li_12, li_13, li_14, li_15, li_16, li_17, li_18, li_19, li_20, li_21, li_22, li_23, li_24, li_25, li_26, li_27, li_28, li_29, li_30, li_31, li_32, li_40, li_43, li_45, li_47, li_48, li_57, li_59, li_60, li_61, li_62, li_63, li_64, li_80, li_92, li_97, li_99, li_100, li_122, li_123, li_125, li_166, li_201, li_210, li_250, li_255, li_256, li_257, li_258, li_259, li_260, li_261, li_262, li_263, li_264, li_265, li_266, li_267, li_268, li_300, li_500, li_1000, li_12345, li_27720, li_1000000, li_1103515245, ne_m1, ne_m2, h4, h3, hs]
theorem go_out {a it K : Nat} (hit : it ≤ 48) (hK : 48 < K) (h4 : Ic 6 4 = nI 1) : mWk_goRound_L5 (K - it) t v (nI a) (nI it) Ic = some Ic := by
  obtain ⟨m, hm⟩ : ∃ m, K - it = m + 1 := ⟨K - it - 1, by omega⟩
  rw [hm]
  show mWk_goRound_B5 (mWk_goRound_L5 m) t v (nI a) (nI it) Ic = _
  unfold mWk_goRound_B5
  by_cases q : it = 48
  · subst q
    simp (disch := omega) only [↓reduceIte, h_let, hg_in, hg_zb, hg_z0, hg_z1, hg_nz, Option.bind_some, if_pos, if_neg, bI_0, bI_n0, nI_add, nI_mul, nI_ltI, nI_leI, nI_eq, nI_clamp, nI_subN, nI_divN, nI_mod2, nI_m1e, nI_em1, nI_m2e, nI_lt0, m1_lt0, m1_lt, m1_le, h_u_at, h_u_off2, h_u_pl, li_0, li_1, li_2, li_3, li_4, li_5, li_6, li_7, li_8, li_9, li_10, li_11, li_12, li_13, li_14, li_15, li_16, li_17, li_18, li_19, li_20, li_21, li_22, li_23, li_24, li_25, li_26, li_27, li_28, li_29, li_30, li_31, li_32, li_40, li_43, li_45, li_47, li_48, li_57, li_59, li_60, li_61, li_62, li_63, li_64, li_80, li_92, li_97, li_99, li_100, li_122, li_123, li_125, li_166, li_201, li_210, li_250, li_255, li_256, li_257, li_258, li_259, li_260, li_261, li_262, li_263, li_264, li_265, li_266, li_267, li_268, li_300, li_500, li_1000, li_12345, li_27720, li_1000000, li_1103515245, ne_m1, ne_m2]
  · simp (disch := omega) only [↓reduceIte, h_let, hg_in, hg_zb, hg_z0, hg_z1, hg_nz, Option.bind_some, if_pos, if_neg, bI_0, bI_n0, nI_add, nI_mul, nI_ltI, nI_leI, nI_eq, nI_clamp, nI_subN, nI_divN, nI_mod2, nI_m1e, nI_em1, nI_m2e, nI_lt0, m1_lt0, m1_lt, m1_le, h_u_at, h_u_off2, h_u_pl, li_0, li_1, li_2, li_3, li_4, li_5, li_6, li_7, li_8, li_9, li_10, li_11, li_12, li_13, li_14, li_15, li_16, li_17, li_18, li_19, li_20, li_21, li_22, li_23, li_24, li_25, li_26, li_27, li_28, li_29, li_30, li_31, li_32, li_40, li_43, li_45, li_47, li_48, li_57, li_59, li_60, li_61, li_62, li_63, li_64, li_80, li_92, li_97, li_99, li_100, li_122, li_123, li_125, li_166, li_201, li_210, li_250, li_255, li_256, li_257, li_258, li_259, li_260, li_261, li_262, li_263, li_264, li_265, li_266, li_267, li_268, li_300, li_500, li_1000, li_12345, li_27720, li_1000000, li_1103515245, ne_m1, ne_m2, h4]
theorem do_none (rec : Int32 → hI → Option hI) (m : Nat) : mM_does_L2 rec (m + 1) (ptI 24 0) Im = some Im := by
  show mM_does_B2 rec (mM_does_L2 rec m) (ptI 24 0) Im = _
  unfold mM_does_B2
  exact if_pos rfl
theorem do_out (rec : Int32 → hI → Option hI) (m q : Nat) (h : Im 0 60 = nI 1) : mM_does_L2 rec (m + 1) (ptI 24 q) Im = some Im := by
  show mM_does_B2 rec (mM_does_L2 rec m) (ptI 24 q) Im = _
  unfold mM_does_B2
  by_cases c : ptI 24 q = (-1 : Int32)
  · rw [if_pos c]
  · rw [if_neg c, h, if_neg (by decide)]
/-- a statement without bodies -/
theorem simple_both (H : enQ t w h sz n v Q P E pr Ic Im) (W : wkQ w h c x y p false Ic Im) {i a : Nat} (hi : i < n) (ha : Q 4 i = a) (ha2 : a < 48) (hk : Q 0 i ≤ 2 ∨ Q 0 i = 6) : ∃ (Ic2 Im2 : hI) (x' y' p' : Nat) (o : Bool), mWk_goStep t (nI a) v Ic = some (nI (a + 1), Ic2) ∧ (∀ rec k2, mM_does_B2 rec k2 (nI (24 + i)) Im = k2 (ptI 24 (Q 9 i)) Im2) ∧ wkQ w h c x' y' p' o Ic2 Im2 ∧ p' ≤ p + 20 ∧ offW Ic Ic2 Im Im2 := by
  obtain ⟨a1, a2, a3, a4, a5, a6, a7, a8, a9, a10, a11, a12, a13⟩ := H
  obtain ⟨w1, w2, ⟨w3, w3'⟩, ⟨w4, w4'⟩, ⟨w5, w5'⟩, w6, ⟨w7, w7'⟩, w8, w9⟩ := W
  have hn := a5.1
  obtain ⟨b0, b1, b2, ⟨b3, b4, b5⟩, b6⟩ := a5.2.2 i hi
  obtain ⟨c0, c1, c2, c3, c4⟩ := a6.2 i hi
  obtain ⟨m0, m1', m2', m3', m4', m5', m6'⟩ := a7 i hi
  rw [ha] at c0 c1 c2 c3 c4
  rw [bI_f] at w7 w7'
  have nm1 := nI_m1e (a := 24 + i) (by omega)
  have offc : ∀ (k : Nat) (z : Int32) a i, a ≠ 6 → h_u Ic 6 k z a i = Ic a i := fun k z a i h => h_u_off2 _ _ _ _ h
  have offm : ∀ (k : Nat) (z : Int32), 53 ≤ k → k ≤ 60 → k ≠ 57 → k ≠ 58 → ∀ a i, (a ≠ 0 ∨ i < 53 ∨ 61 < i ∨ i = 57 ∨ i = 58 ∨ i = 61) → h_u Im 0 k z a i = Im a i := fun k z h1 h2 h3 h4 a i h => by
    by_cases e : a = 0
    · subst e; exact h_u_pl _ _ _ (by omega)
    · exact h_u_off2 _ _ _ _ e
  have bd := sum_bd (x := x) (y := y) (by omega) (by omega) b3 b4 b5
  rcases k_simple hk with q | q | q | q
  · rw [q] at c0 m0
    have c0 : Ic (t + 9 + a) 0 = nI 258 := c0
    obtain ⟨d0, d1, d2⟩ := c1 (by omega)
    obtain ⟨l, u, l1, l2, l3, l4, l5, l6⟩ := m1' (by omega)
    have hh := wk_held (s := t + 9 + a) (m := w - 1) d0 d1 d2 w3 w4
    have hm := m_held (m := w - 1) bd.1 bd.2 (by omega)
    have sm := m_sumAt (x := x) (y := y) l1 l3
    have es : smV u x y = P 0 i * x + P 1 i * y + P 2 i := by unfold smV; rw [l4, l5, l6]; omega
    rw [es] at sm
    rw [hm] at hh
    have hle := hdN_le (P 0 i * x + P 1 i * y + P 2 i) (w - 1)
    generalize hdN (P 0 i * x + P 1 i * y + P 2 i) (w - 1) = X at *
    refine ⟨h_u Ic 6 0 (nI X), h_u Im 0 53 (nI X), X, y, p, false, ?_, fun rec k2 => ?_, ?_, by omega, offc 0 _, offm 53 _ (by decide) (by decide) (by decide) (by decide)⟩
    · unfold mWk_goStep
      simp (disch := omega) only [↓reduceIte, h_let, hg_in, hg_zb, hg_z0, hg_z1, hg_nz, Option.bind_some, if_pos, if_neg, bI_0, bI_n0, nI_add, nI_mul, nI_ltI, nI_leI, nI_eq, nI_clamp, nI_subN, nI_divN, nI_mod2, nI_m1e, nI_em1, nI_m2e, nI_lt0, m1_lt0, m1_lt, m1_le, h_u_at, h_u_off2, h_u_pl, li_0, li_1, li_2, li_3, li_4, li_5, li_6, li_7, li_8, li_9, li_10, li_11, li_12, li_13, li_14, li_15, li_16, li_17, li_18, li_19, li_20, li_21, li_22, li_23, li_24, li_25, li_26, li_27, li_28, li_29, li_30, li_31, li_32, li_40, li_43, li_45, li_47, li_48, li_57, li_59, li_60, li_61, li_62, li_63, li_64, li_80, li_92, li_97, li_99, li_100, li_122, li_123, li_125, li_166, li_201, li_210, li_250, li_255, li_256, li_257, li_258, li_259, li_260, li_261, li_262, li_263, li_264, li_265, li_266, li_267, li_268, li_300, li_500, li_1000, li_12345, li_27720, li_1000000, li_1103515245, ne_m1, ne_m2, c0, a9, hh]
    · unfold mM_does_B2
      simp (disch := omega) only [↓reduceIte, h_let, hg_in, hg_zb, hg_z0, hg_z1, hg_nz, Option.bind_some, if_pos, if_neg, bI_0, bI_n0, nI_add, nI_mul, nI_ltI, nI_leI, nI_eq, nI_clamp, nI_subN, nI_divN, nI_mod2, nI_m1e, nI_em1, nI_m2e, nI_lt0, m1_lt0, m1_lt, m1_le, h_u_at, h_u_off2, h_u_pl, li_0, li_1, li_2, li_3, li_4, li_5, li_6, li_7, li_8, li_9, li_10, li_11, li_12, li_13, li_14, li_15, li_16, li_17, li_18, li_19, li_20, li_21, li_22, li_23, li_24, li_25, li_26, li_27, li_28, li_29, li_30, li_31, li_32, li_40, li_43, li_45, li_47, li_48, li_57, li_59, li_60, li_61, li_62, li_63, li_64, li_80, li_92, li_97, li_99, li_100, li_122, li_123, li_125, li_166, li_201, li_210, li_250, li_255, li_256, li_257, li_258, li_259, li_260, li_261, li_262, li_263, li_264, li_265, li_266, li_267, li_268, li_300, li_500, li_1000, li_12345, li_27720, li_1000000, li_1103515245, ne_m1, ne_m2, w7', m0, l2, w3', w4', sm, a11, hm, m6']
    · refine ⟨by omega, w2, ?_, ?_, ?_, ?_, ?_, ?_, ?_⟩ <;> simp (disch := omega) only [h_u_at, h_u_pl]
      · trivial
      · exact ⟨w4, w4'⟩
      · exact ⟨w5, w5'⟩
      · exact w6
      · exact ⟨w7, w7'⟩
      · exact w8
      · exact w9
  · rw [q] at c0 m0
    have c0 : Ic (t + 9 + a) 0 = nI 259 := c0
    obtain ⟨d0, d1, d2⟩ := c1 (by omega)
    obtain ⟨l, u, l1, l2, l3, l4, l5, l6⟩ := m1' (by omega)
    have hh := wk_held (s := t + 9 + a) (m := h - 1) d0 d1 d2 w3 w4
    have hm := m_held (m := h - 1) bd.1 bd.2 (by omega)
    have sm := m_sumAt (x := x) (y := y) l1 l3
    have es : smV u x y = P 0 i * x + P 1 i * y + P 2 i := by unfold smV; rw [l4, l5, l6]; omega
    rw [es] at sm
    rw [hm] at hh
    have hle := hdN_le (P 0 i * x + P 1 i * y + P 2 i) (h - 1)
    generalize hdN (P 0 i * x + P 1 i * y + P 2 i) (h - 1) = X at *
    refine ⟨h_u Ic 6 1 (nI X), h_u Im 0 54 (nI X), x, X, p, false, ?_, fun rec k2 => ?_, ?_, by omega, offc 1 _, offm 54 _ (by decide) (by decide) (by decide) (by decide)⟩
    · unfold mWk_goStep
      simp (disch := omega) only [↓reduceIte, h_let, hg_in, hg_zb, hg_z0, hg_z1, hg_nz, Option.bind_some, if_pos, if_neg, bI_0, bI_n0, nI_add, nI_mul, nI_ltI, nI_leI, nI_eq, nI_clamp, nI_subN, nI_divN, nI_mod2, nI_m1e, nI_em1, nI_m2e, nI_lt0, m1_lt0, m1_lt, m1_le, h_u_at, h_u_off2, h_u_pl, li_0, li_1, li_2, li_3, li_4, li_5, li_6, li_7, li_8, li_9, li_10, li_11, li_12, li_13, li_14, li_15, li_16, li_17, li_18, li_19, li_20, li_21, li_22, li_23, li_24, li_25, li_26, li_27, li_28, li_29, li_30, li_31, li_32, li_40, li_43, li_45, li_47, li_48, li_57, li_59, li_60, li_61, li_62, li_63, li_64, li_80, li_92, li_97, li_99, li_100, li_122, li_123, li_125, li_166, li_201, li_210, li_250, li_255, li_256, li_257, li_258, li_259, li_260, li_261, li_262, li_263, li_264, li_265, li_266, li_267, li_268, li_300, li_500, li_1000, li_12345, li_27720, li_1000000, li_1103515245, ne_m1, ne_m2, c0, a10, hh]
    · unfold mM_does_B2
      simp (disch := omega) only [↓reduceIte, h_let, hg_in, hg_zb, hg_z0, hg_z1, hg_nz, Option.bind_some, if_pos, if_neg, bI_0, bI_n0, nI_add, nI_mul, nI_ltI, nI_leI, nI_eq, nI_clamp, nI_subN, nI_divN, nI_mod2, nI_m1e, nI_em1, nI_m2e, nI_lt0, m1_lt0, m1_lt, m1_le, h_u_at, h_u_off2, h_u_pl, li_0, li_1, li_2, li_3, li_4, li_5, li_6, li_7, li_8, li_9, li_10, li_11, li_12, li_13, li_14, li_15, li_16, li_17, li_18, li_19, li_20, li_21, li_22, li_23, li_24, li_25, li_26, li_27, li_28, li_29, li_30, li_31, li_32, li_40, li_43, li_45, li_47, li_48, li_57, li_59, li_60, li_61, li_62, li_63, li_64, li_80, li_92, li_97, li_99, li_100, li_122, li_123, li_125, li_166, li_201, li_210, li_250, li_255, li_256, li_257, li_258, li_259, li_260, li_261, li_262, li_263, li_264, li_265, li_266, li_267, li_268, li_300, li_500, li_1000, li_12345, li_27720, li_1000000, li_1103515245, ne_m1, ne_m2, w7', m0, l2, w3', w4', sm, a12, hm, m6']
    · refine ⟨w1, by omega, ?_, ?_, ?_, ?_, ?_, ?_, ?_⟩ <;> simp (disch := omega) only [h_u_at, h_u_pl]
      · exact ⟨w3, w3'⟩
      · trivial
      · exact ⟨w5, w5'⟩
      · exact w6
      · exact ⟨w7, w7'⟩
      · exact w8
      · exact w9
  · have hw := b1 q
    have e1 := c2 (Or.inl q)
    have hp := a5.2.1 i hi q
    have ep := a6.1 i hi q
    have em := m2' q
    rw [q] at c0 m0
    have c0 : Ic (t + 9 + a) 0 = nI 261 := c0
    obtain ⟨z, hz⟩ : ∃ z : Nat, pr (Q 1 i) = z := ⟨(pr (Q 1 i)).toNat, by omega⟩
    have ez : iI (pr (Q 1 i)) = nI z := by rw [hz]; rfl
    rw [ez] at ep em
    have as : c + nI p + nI z = c + nI (p + z) := by rw [Int32.add_assoc, nI_add]
    refine ⟨h_u Ic 6 2 (c + nI (p + z)), h_u Im 0 55 (nI (p + z)), x, y, p + z, false, ?_, fun rec k2 => ?_, ?_, by omega, offc 2 _, offm 55 _ (by decide) (by decide) (by decide) (by decide)⟩
    · unfold mWk_goStep
      simp (disch := omega) only [↓reduceIte, h_let, hg_in, hg_zb, hg_z0, hg_z1, hg_nz, Option.bind_some, if_pos, if_neg, bI_0, bI_n0, nI_add, nI_mul, nI_ltI, nI_leI, nI_eq, nI_clamp, nI_subN, nI_divN, nI_mod2, nI_m1e, nI_em1, nI_m2e, nI_lt0, m1_lt0, m1_lt, m1_le, h_u_at, h_u_off2, h_u_pl, li_0, li_1, li_2, li_3, li_4, li_5, li_6, li_7, li_8, li_9, li_10, li_11, li_12, li_13, li_14, li_15, li_16, li_17, li_18, li_19, li_20, li_21, li_22, li_23, li_24, li_25, li_26, li_27, li_28, li_29, li_30, li_31, li_32, li_40, li_43, li_45, li_47, li_48, li_57, li_59, li_60, li_61, li_62, li_63, li_64, li_80, li_92, li_97, li_99, li_100, li_122, li_123, li_125, li_166, li_201, li_210, li_250, li_255, li_256, li_257, li_258, li_259, li_260, li_261, li_262, li_263, li_264, li_265, li_266, li_267, li_268, li_300, li_500, li_1000, li_12345, li_27720, li_1000000, li_1103515245, ne_m1, ne_m2, c0, e1, ep, w5, as]
    · unfold mM_does_B2
      simp (disch := omega) only [↓reduceIte, h_let, hg_in, hg_zb, hg_z0, hg_z1, hg_nz, Option.bind_some, if_pos, if_neg, bI_0, bI_n0, nI_add, nI_mul, nI_ltI, nI_leI, nI_eq, nI_clamp, nI_subN, nI_divN, nI_mod2, nI_m1e, nI_em1, nI_m2e, nI_lt0, m1_lt0, m1_lt, m1_le, h_u_at, h_u_off2, h_u_pl, li_0, li_1, li_2, li_3, li_4, li_5, li_6, li_7, li_8, li_9, li_10, li_11, li_12, li_13, li_14, li_15, li_16, li_17, li_18, li_19, li_20, li_21, li_22, li_23, li_24, li_25, li_26, li_27, li_28, li_29, li_30, li_31, li_32, li_40, li_43, li_45, li_47, li_48, li_57, li_59, li_60, li_61, li_62, li_63, li_64, li_80, li_92, li_97, li_99, li_100, li_122, li_123, li_125, li_166, li_201, li_210, li_250, li_255, li_256, li_257, li_258, li_259, li_260, li_261, li_262, li_263, li_264, li_265, li_266, li_267, li_268, li_300, li_500, li_1000, li_12345, li_27720, li_1000000, li_1103515245, ne_m1, ne_m2, w7', m0, em, w5', m6']
    · refine ⟨w1, w2, ?_, ?_, ?_, ?_, ?_, ?_, ?_⟩ <;> simp (disch := omega) only [h_u_at, h_u_pl]
      · exact ⟨w3, w3'⟩
      · exact ⟨w4, w4'⟩
      · trivial
      · exact w6
      · exact ⟨w7, w7'⟩
      · exact w8
      · exact w9
  · rw [q] at c0 m0
    have c0 : Ic (t + 9 + a) 0 = nI 265 := c0
    refine ⟨h_u Ic 6 4 (nI 1), h_u Im 0 60 (nI 1), x, y, p, true, ?_, fun rec k2 => ?_, ?_, by omega, offc 4 _, offm 60 _ (by decide) (by decide) (by decide) (by decide)⟩
    · unfold mWk_goStep
      simp (disch := omega) only [↓reduceIte, h_let, hg_in, hg_zb, hg_z0, hg_z1, hg_nz, Option.bind_some, if_pos, if_neg, bI_0, bI_n0, nI_add, nI_mul, nI_ltI, nI_leI, nI_eq, nI_clamp, nI_subN, nI_divN, nI_mod2, nI_m1e, nI_em1, nI_m2e, nI_lt0, m1_lt0, m1_lt, m1_le, h_u_at, h_u_off2, h_u_pl, li_0, li_1, li_2, li_3, li_4, li_5, li_6, li_7, li_8, li_9, li_10, li_11, li_12, li_13, li_14, li_15, li_16, li_17, li_18, li_19, li_20, li_21, li_22, li_23, li_24, li_25, li_26, li_27, li_28, li_29, li_30, li_31, li_32, li_40, li_43, li_45, li_47, li_48, li_57, li_59, li_60, li_61, li_62, li_63, li_64, li_80, li_92, li_97, li_99, li_100, li_122, li_123, li_125, li_166, li_201, li_210, li_250, li_255, li_256, li_257, li_258, li_259, li_260, li_261, li_262, li_263, li_264, li_265, li_266, li_267, li_268, li_300, li_500, li_1000, li_12345, li_27720, li_1000000, li_1103515245, ne_m1, ne_m2, c0]
    · unfold mM_does_B2
      simp (disch := omega) only [↓reduceIte, h_let, hg_in, hg_zb, hg_z0, hg_z1, hg_nz, Option.bind_some, if_pos, if_neg, bI_0, bI_n0, nI_add, nI_mul, nI_ltI, nI_leI, nI_eq, nI_clamp, nI_subN, nI_divN, nI_mod2, nI_m1e, nI_em1, nI_m2e, nI_lt0, m1_lt0, m1_lt, m1_le, h_u_at, h_u_off2, h_u_pl, li_0, li_1, li_2, li_3, li_4, li_5, li_6, li_7, li_8, li_9, li_10, li_11, li_12, li_13, li_14, li_15, li_16, li_17, li_18, li_19, li_20, li_21, li_22, li_23, li_24, li_25, li_26, li_27, li_28, li_29, li_30, li_31, li_32, li_40, li_43, li_45, li_47, li_48, li_57, li_59, li_60, li_61, li_62, li_63, li_64, li_80, li_92, li_97, li_99, li_100, li_122, li_123, li_125, li_166, li_201, li_210, li_250, li_255, li_256, li_257, li_258, li_259, li_260, li_261, li_262, li_263, li_264, li_265, li_266, li_267, li_268, li_300, li_500, li_1000, li_12345, li_27720, li_1000000, li_1103515245, ne_m1, ne_m2, w7', m0, m6']
    · refine ⟨w1, w2, ?_, ?_, ?_, ?_, ?_, ?_, ?_⟩ <;> simp (disch := omega) only [h_u_at, h_u_pl]
      · exact ⟨w3, w3'⟩
      · exact ⟨w4, w4'⟩
      · exact ⟨w5, w5'⟩
      · exact w6
      · exact ⟨rfl, rfl⟩
      · exact w8
      · exact w9
/-- a statement with two bodies: which one -/
theorem fork_both (H : enQ t w h sz n v Q P E pr Ic Im) (W : wkQ w h c x y p false Ic Im) {i a : Nat} (hi : i < n) (ha : Q 4 i = a) (ha2 : a < 48) (hk : 3 ≤ Q 0 i ∧ Q 0 i ≤ 5) : ∃ (b : Bool) (Ic2 Im2 : hI), mWk_goStep t (nI a) v Ic = some (nI (if b = true then a + 1 else Q 5 i), Ic2) ∧ (∀ rec k2, mM_does_B2 rec k2 (nI (24 + i)) Im = ((rec (ptI 24 (if b = true then Q 7 i else Q 8 i)) Im2).bind fun q1 => k2 (q1 15 (24 + i)) q1)) ∧ wkQ w h c x y p false Ic2 Im2 ∧ offW Ic Ic2 Im Im2 := by
  have W0 := W
  obtain ⟨a1, a2, a3, a4, a5, a6, a7, a8, a9, a10, a11, a12, a13⟩ := H
  obtain ⟨w1, w2, ⟨w3, w3'⟩, ⟨w4, w4'⟩, ⟨w5, w5'⟩, w6, ⟨w7, w7'⟩, w8, w9⟩ := W
  have hn := a5.1
  obtain ⟨b0, b1, b2, b3, b6⟩ := a5.2.2 i hi
  obtain ⟨c0, c1, c2, c3, c4⟩ := a6.2 i hi
  obtain ⟨m0, m1', m2', m3', m4', m5', m6'⟩ := a7 i hi
  rw [ha] at c0 c1 c2 c3 c4
  rw [bI_f] at w7 w7'
  have nm1 := nI_m1e (a := 24 + i) (by omega)
  obtain ⟨f1, f2, f3⟩ := c4 hk
  obtain ⟨g1, g2⟩ := m5' hk
  rcases k_fork hk with q | q | q
  · rw [q] at c0 m0
    have c0 : Ic (t + 9 + a) 0 = nI 262 := c0
    obtain ⟨b, Ic2, Im2, t1, t2, t3, t4⟩ := coin_both W0
    have f1' : Ic2 (t + 9 + a) 2 = nI (Q 5 i) := by rw [t3.1 _ _ (by omega)]; exact f1
    have g1' : Im2 13 (24 + i) = ptI 24 (Q 7 i) := by rw [t3.2 _ _ (by omega)]; exact g1
    have g2' : Im2 14 (24 + i) = ptI 24 (Q 8 i) := by rw [t3.2 _ _ (by omega)]; exact g2
    refine ⟨b, Ic2, Im2, ?_, fun rec k2 => ?_, t4, t3⟩
    · unfold mWk_goStep
      cases b
      · simp (disch := omega) only [↓reduceIte, h_let, hg_in, hg_zb, hg_z0, hg_z1, hg_nz, Option.bind_some, if_pos, if_neg, bI_0, bI_n0, nI_add, nI_mul, nI_ltI, nI_leI, nI_eq, nI_clamp, nI_subN, nI_divN, nI_mod2, nI_m1e, nI_em1, nI_m2e, nI_lt0, m1_lt0, m1_lt, m1_le, h_u_at, h_u_off2, h_u_pl, li_0, li_1, li_2, li_3, li_4, li_5, li_6, li_7, li_8, li_9, li_10, li_11, li_12, li_13, li_14, li_15, li_16, li_17, li_18, li_19, li_20, li_21, li_22, li_23, li_24, li_25, li_26, li_27, li_28, li_29, li_30, li_31, li_32, li_40, li_43, li_45, li_47, li_48, li_57, li_59, li_60, li_61, li_62, li_63, li_64, li_80, li_92, li_97, li_99, li_100, li_122, li_123, li_125, li_166, li_201, li_210, li_250, li_255, li_256, li_257, li_258, li_259, li_260, li_261, li_262, li_263, li_264, li_265, li_266, li_267, li_268, li_300, li_500, li_1000, li_12345, li_27720, li_1000000, li_1103515245, ne_m1, ne_m2, c0, t1, bI_f, f1']
        rfl
      · simp (disch := omega) only [↓reduceIte, h_let, hg_in, hg_zb, hg_z0, hg_z1, hg_nz, Option.bind_some, if_pos, if_neg, bI_0, bI_n0, nI_add, nI_mul, nI_ltI, nI_leI, nI_eq, nI_clamp, nI_subN, nI_divN, nI_mod2, nI_m1e, nI_em1, nI_m2e, nI_lt0, m1_lt0, m1_lt, m1_le, h_u_at, h_u_off2, h_u_pl, li_0, li_1, li_2, li_3, li_4, li_5, li_6, li_7, li_8, li_9, li_10, li_11, li_12, li_13, li_14, li_15, li_16, li_17, li_18, li_19, li_20, li_21, li_22, li_23, li_24, li_25, li_26, li_27, li_28, li_29, li_30, li_31, li_32, li_40, li_43, li_45, li_47, li_48, li_57, li_59, li_60, li_61, li_62, li_63, li_64, li_80, li_92, li_97, li_99, li_100, li_122, li_123, li_125, li_166, li_201, li_210, li_250, li_255, li_256, li_257, li_258, li_259, li_260, li_261, li_262, li_263, li_264, li_265, li_266, li_267, li_268, li_300, li_500, li_1000, li_12345, li_27720, li_1000000, li_1103515245, ne_m1, ne_m2, c0, t1, bI_t]
    · unfold mM_does_B2 mM_does_169
      cases b
      · simp (disch := omega) only [↓reduceIte, h_let, hg_in, hg_zb, hg_z0, hg_z1, hg_nz, Option.bind_some, if_pos, if_neg, bI_0, bI_n0, nI_add, nI_mul, nI_ltI, nI_leI, nI_eq, nI_clamp, nI_subN, nI_divN, nI_mod2, nI_m1e, nI_em1, nI_m2e, nI_lt0, m1_lt0, m1_lt, m1_le, h_u_at, h_u_off2, h_u_pl, li_0, li_1, li_2, li_3, li_4, li_5, li_6, li_7, li_8, li_9, li_10, li_11, li_12, li_13, li_14, li_15, li_16, li_17, li_18, li_19, li_20, li_21, li_22, li_23, li_24, li_25, li_26, li_27, li_28, li_29, li_30, li_31, li_32, li_40, li_43, li_45, li_47, li_48, li_57, li_59, li_60, li_61, li_62, li_63, li_64, li_80, li_92, li_97, li_99, li_100, li_122, li_123, li_125, li_166, li_201, li_210, li_250, li_255, li_256, li_257, li_258, li_259, li_260, li_261, li_262, li_263, li_264, li_265, li_266, li_267, li_268, li_300, li_500, li_1000, li_12345, li_27720, li_1000000, li_1103515245, ne_m1, ne_m2, w7', m0, t2, bI_f, g2']
        rfl
      · simp (disch := omega) only [↓reduceIte, h_let, hg_in, hg_zb, hg_z0, hg_z1, hg_nz, Option.bind_some, if_pos, if_neg, bI_0, bI_n0, nI_add, nI_mul, nI_ltI, nI_leI, nI_eq, nI_clamp, nI_subN, nI_divN, nI_mod2, nI_m1e, nI_em1, nI_m2e, nI_lt0, m1_lt0, m1_lt, m1_le, h_u_at, h_u_off2, h_u_pl, li_0, li_1, li_2, li_3, li_4, li_5, li_6, li_7, li_8, li_9, li_10, li_11, li_12, li_13, li_14, li_15, li_16, li_17, li_18, li_19, li_20, li_21, li_22, li_23, li_24, li_25, li_26, li_27, li_28, li_29, li_30, li_31, li_32, li_40, li_43, li_45, li_47, li_48, li_57, li_59, li_60, li_61, li_62, li_63, li_64, li_80, li_92, li_97, li_99, li_100, li_122, li_123, li_125, li_166, li_201, li_210, li_250, li_255, li_256, li_257, li_258, li_259, li_260, li_261, li_262, li_263, li_264, li_265, li_266, li_267, li_268, li_300, li_500, li_1000, li_12345, li_27720, li_1000000, li_1103515245, ne_m1, ne_m2, w7', m0, t2, bI_t, g1']
  · have e1 := c2 (Or.inr q)
    have em := m3' q
    have hw := b2 q
    rw [q] at c0 m0
    have c0 : Ic (t + 9 + a) 0 = nI 263 := c0
    by_cases bb : (v >>> (nI (Q 1 i) &&& 31)) &&& 1 = (0 : Int32)
    · have bb' : (v >>> (nI (Q 1 i) &&& nI 31)) &&& nI 1 = nI 0 := bb
      refine ⟨true, Ic, Im, ?_, fun rec k2 => ?_, W0, offW_id _ _⟩
      · unfold mWk_goStep
        simp (disch := omega) only [↓reduceIte, h_let, hg_in, hg_zb, hg_z0, hg_z1, hg_nz, Option.bind_some, if_pos, if_neg, bI_0, bI_n0, nI_add, nI_mul, nI_ltI, nI_leI, nI_eq, nI_clamp, nI_subN, nI_divN, nI_mod2, nI_m1e, nI_em1, nI_m2e, nI_lt0, m1_lt0, m1_lt, m1_le, h_u_at, h_u_off2, h_u_pl, li_0, li_1, li_2, li_3, li_4, li_5, li_6, li_7, li_8, li_9, li_10, li_11, li_12, li_13, li_14, li_15, li_16, li_17, li_18, li_19, li_20, li_21, li_22, li_23, li_24, li_25, li_26, li_27, li_28, li_29, li_30, li_31, li_32, li_40, li_43, li_45, li_47, li_48, li_57, li_59, li_60, li_61, li_62, li_63, li_64, li_80, li_92, li_97, li_99, li_100, li_122, li_123, li_125, li_166, li_201, li_210, li_250, li_255, li_256, li_257, li_258, li_259, li_260, li_261, li_262, li_263, li_264, li_265, li_266, li_267, li_268, li_300, li_500, li_1000, li_12345, li_27720, li_1000000, li_1103515245, ne_m1, ne_m2, c0, e1, bb']
      · unfold mM_does_B2 mM_does_207
        simp (disch := omega) only [↓reduceIte, h_let, hg_in, hg_zb, hg_z0, hg_z1, hg_nz, Option.bind_some, if_pos, if_neg, bI_0, bI_n0, nI_add, nI_mul, nI_ltI, nI_leI, nI_eq, nI_clamp, nI_subN, nI_divN, nI_mod2, nI_m1e, nI_em1, nI_m2e, nI_lt0, m1_lt0, m1_lt, m1_le, h_u_at, h_u_off2, h_u_pl, li_0, li_1, li_2, li_3, li_4, li_5, li_6, li_7, li_8, li_9, li_10, li_11, li_12, li_13, li_14, li_15, li_16, li_17, li_18, li_19, li_20, li_21, li_22, li_23, li_24, li_25, li_26, li_27, li_28, li_29, li_30, li_31, li_32, li_40, li_43, li_45, li_47, li_48, li_57, li_59, li_60, li_61, li_62, li_63, li_64, li_80, li_92, li_97, li_99, li_100, li_122, li_123, li_125, li_166, li_201, li_210, li_250, li_255, li_256, li_257, li_258, li_259, li_260, li_261, li_262, li_263, li_264, li_265, li_266, li_267, li_268, li_300, li_500, li_1000, li_12345, li_27720, li_1000000, li_1103515245, ne_m1, ne_m2, w7', m0, em, a13, bb', g1]
    · have bb' : ¬ (v >>> (nI (Q 1 i) &&& nI 31)) &&& nI 1 = nI 0 := bb
      refine ⟨false, Ic, Im, ?_, fun rec k2 => ?_, W0, offW_id _ _⟩
      · unfold mWk_goStep
        simp (disch := omega) only [↓reduceIte, h_let, hg_in, hg_zb, hg_z0, hg_z1, hg_nz, Option.bind_some, if_pos, if_neg, bI_0, bI_n0, nI_add, nI_mul, nI_ltI, nI_leI, nI_eq, nI_clamp, nI_subN, nI_divN, nI_mod2, nI_m1e, nI_em1, nI_m2e, nI_lt0, m1_lt0, m1_lt, m1_le, h_u_at, h_u_off2, h_u_pl, li_0, li_1, li_2, li_3, li_4, li_5, li_6, li_7, li_8, li_9, li_10, li_11, li_12, li_13, li_14, li_15, li_16, li_17, li_18, li_19, li_20, li_21, li_22, li_23, li_24, li_25, li_26, li_27, li_28, li_29, li_30, li_31, li_32, li_40, li_43, li_45, li_47, li_48, li_57, li_59, li_60, li_61, li_62, li_63, li_64, li_80, li_92, li_97, li_99, li_100, li_122, li_123, li_125, li_166, li_201, li_210, li_250, li_255, li_256, li_257, li_258, li_259, li_260, li_261, li_262, li_263, li_264, li_265, li_266, li_267, li_268, li_300, li_500, li_1000, li_12345, li_27720, li_1000000, li_1103515245, ne_m1, ne_m2, c0, e1, if_neg bb', f1]
        rfl
      · unfold mM_does_B2 mM_does_207
        simp (disch := omega) only [↓reduceIte, h_let, hg_in, hg_zb, hg_z0, hg_z1, hg_nz, Option.bind_some, if_pos, if_neg, bI_0, bI_n0, nI_add, nI_mul, nI_ltI, nI_leI, nI_eq, nI_clamp, nI_subN, nI_divN, nI_mod2, nI_m1e, nI_em1, nI_m2e, nI_lt0, m1_lt0, m1_lt, m1_le, h_u_at, h_u_off2, h_u_pl, li_0, li_1, li_2, li_3, li_4, li_5, li_6, li_7, li_8, li_9, li_10, li_11, li_12, li_13, li_14, li_15, li_16, li_17, li_18, li_19, li_20, li_21, li_22, li_23, li_24, li_25, li_26, li_27, li_28, li_29, li_30, li_31, li_32, li_40, li_43, li_45, li_47, li_48, li_57, li_59, li_60, li_61, li_62, li_63, li_64, li_80, li_92, li_97, li_99, li_100, li_122, li_123, li_125, li_166, li_201, li_210, li_250, li_255, li_256, li_257, li_258, li_259, li_260, li_261, li_262, li_263, li_264, li_265, li_266, li_267, li_268, li_300, li_500, li_1000, li_12345, li_27720, li_1000000, li_1103515245, ne_m1, ne_m2, w7', m0, em, a13, if_neg bb', g2]
        rfl
  · obtain ⟨e6, e7, ec⟩ := c3 q
    obtain ⟨n6, n7, nc⟩ := m4' q
    obtain ⟨k1, k2', k3, k4⟩ := b6 q
    rw [q] at c0 m0
    have c0 : Ic (t + 9 + a) 0 = nI 264 := c0
    have hc := cd_hold (t := t + 1) (x := x) (y := y) k3 ec (by omega) k2' (by omega) (by omega)
    have hm := m_holds (o := 500) (x := x) (y := y) k3 nc k1 k4 (by omega) (by omega) (by omega)
    refine ⟨hvB E (Q 2 i) (Q 3 i) x y, Ic, Im, ?_, fun rec k2 => ?_, W0, offW_id _ _⟩
    · unfold mWk_goStep
      cases hv : hvB E (Q 2 i) (Q 3 i) x y
      · rw [hv, bI_f] at hc
        simp (disch := omega) only [↓reduceIte, h_let, hg_in, hg_zb, hg_z0, hg_z1, hg_nz, Option.bind_some, if_pos, if_neg, bI_0, bI_n0, nI_add, nI_mul, nI_ltI, nI_leI, nI_eq, nI_clamp, nI_subN, nI_divN, nI_mod2, nI_m1e, nI_em1, nI_m2e, nI_lt0, m1_lt0, m1_lt, m1_le, h_u_at, h_u_off2, h_u_pl, li_0, li_1, li_2, li_3, li_4, li_5, li_6, li_7, li_8, li_9, li_10, li_11, li_12, li_13, li_14, li_15, li_16, li_17, li_18, li_19, li_20, li_21, li_22, li_23, li_24, li_25, li_26, li_27, li_28, li_29, li_30, li_31, li_32, li_40, li_43, li_45, li_47, li_48, li_57, li_59, li_60, li_61, li_62, li_63, li_64, li_80, li_92, li_97, li_99, li_100, li_122, li_123, li_125, li_166, li_201, li_210, li_250, li_255, li_256, li_257, li_258, li_259, li_260, li_261, li_262, li_263, li_264, li_265, li_266, li_267, li_268, li_300, li_500, li_1000, li_12345, li_27720, li_1000000, li_1103515245, ne_m1, ne_m2, c0, e6, e7, w3, w4, hc, f1]
        rfl
      · rw [hv, bI_t] at hc
        simp (disch := omega) only [↓reduceIte, h_let, hg_in, hg_zb, hg_z0, hg_z1, hg_nz, Option.bind_some, if_pos, if_neg, bI_0, bI_n0, nI_add, nI_mul, nI_ltI, nI_leI, nI_eq, nI_clamp, nI_subN, nI_divN, nI_mod2, nI_m1e, nI_em1, nI_m2e, nI_lt0, m1_lt0, m1_lt, m1_le, h_u_at, h_u_off2, h_u_pl, li_0, li_1, li_2, li_3, li_4, li_5, li_6, li_7, li_8, li_9, li_10, li_11, li_12, li_13, li_14, li_15, li_16, li_17, li_18, li_19, li_20, li_21, li_22, li_23, li_24, li_25, li_26, li_27, li_28, li_29, li_30, li_31, li_32, li_40, li_43, li_45, li_47, li_48, li_57, li_59, li_60, li_61, li_62, li_63, li_64, li_80, li_92, li_97, li_99, li_100, li_122, li_123, li_125, li_166, li_201, li_210, li_250, li_255, li_256, li_257, li_258, li_259, li_260, li_261, li_262, li_263, li_264, li_265, li_266, li_267, li_268, li_300, li_500, li_1000, li_12345, li_27720, li_1000000, li_1103515245, ne_m1, ne_m2, c0, e6, e7, w3, w4, hc]
    · unfold mM_does_B2 mM_does_256
      cases hv : hvB E (Q 2 i) (Q 3 i) x y
      · rw [hv, bI_f] at hm
        simp (disch := omega) only [↓reduceIte, h_let, hg_in, hg_zb, hg_z0, hg_z1, hg_nz, Option.bind_some, if_pos, if_neg, bI_0, bI_n0, nI_add, nI_mul, nI_ltI, nI_leI, nI_eq, nI_clamp, nI_subN, nI_divN, nI_mod2, nI_m1e, nI_em1, nI_m2e, nI_lt0, m1_lt0, m1_lt, m1_le, h_u_at, h_u_off2, h_u_pl, li_0, li_1, li_2, li_3, li_4, li_5, li_6, li_7, li_8, li_9, li_10, li_11, li_12, li_13, li_14, li_15, li_16, li_17, li_18, li_19, li_20, li_21, li_22, li_23, li_24, li_25, li_26, li_27, li_28, li_29, li_30, li_31, li_32, li_40, li_43, li_45, li_47, li_48, li_57, li_59, li_60, li_61, li_62, li_63, li_64, li_80, li_92, li_97, li_99, li_100, li_122, li_123, li_125, li_166, li_201, li_210, li_250, li_255, li_256, li_257, li_258, li_259, li_260, li_261, li_262, li_263, li_264, li_265, li_266, li_267, li_268, li_300, li_500, li_1000, li_12345, li_27720, li_1000000, li_1103515245, ne_m1, ne_m2, w7', m0, n6, n7, w3', w4', hm, g2]
        rfl
      · rw [hv, bI_t] at hm
        simp (disch := omega) only [↓reduceIte, h_let, hg_in, hg_zb, hg_z0, hg_z1, hg_nz, Option.bind_some, if_pos, if_neg, bI_0, bI_n0, nI_add, nI_mul, nI_ltI, nI_leI, nI_eq, nI_clamp, nI_subN, nI_divN, nI_mod2, nI_m1e, nI_em1, nI_m2e, nI_lt0, m1_lt0, m1_lt, m1_le, h_u_at, h_u_off2, h_u_pl, li_0, li_1, li_2, li_3, li_4, li_5, li_6, li_7, li_8, li_9, li_10, li_11, li_12, li_13, li_14, li_15, li_16, li_17, li_18, li_19, li_20, li_21, li_22, li_23, li_24, li_25, li_26, li_27, li_28, li_29, li_30, li_31, li_32, li_40, li_43, li_45, li_47, li_48, li_57, li_59, li_60, li_61, li_62, li_63, li_64, li_80, li_92, li_97, li_99, li_100, li_122, li_123, li_125, li_166, li_201, li_210, li_250, li_255, li_256, li_257, li_258, li_259, li_260, li_261, li_262, li_263, li_264, li_265, li_266, li_267, li_268, li_300, li_500, li_1000, li_12345, li_27720, li_1000000, li_1103515245, ne_m1, ne_m2, w7', m0, n6, n7, w3', w4', hm, g1]
theorem jump_go (H : enQ t w h sz n v Q P E pr Ic Im) {i m : Nat} (hi : i < n) (hk : 3 ≤ Q 0 i ∧ Q 0 i ≤ 5) (hm : Q 5 i = m + 1) (hm2 : m < 48) : mWk_goStep t (nI m) v Ic = some (nI (Q 6 i), Ic) := by
  obtain ⟨a1, a2, a3, a4, a5, a6, a7, a8, a9, a10, a11, a12, a13⟩ := H
  obtain ⟨c0, c1, c2, c3, c4⟩ := a6.2 i hi
  obtain ⟨f1, f2, f3⟩ := c4 hk
  have e : Q 5 i - 1 = m := by omega
  rw [e] at f2 f3
  unfold mWk_goStep
  simp (disch := omega) only [↓reduceIte, h_let, hg_in, hg_zb, hg_z0, hg_z1, hg_nz, Option.bind_some, if_pos, if_neg, bI_0, bI_n0, nI_add, nI_mul, nI_ltI, nI_leI, nI_eq, nI_clamp, nI_subN, nI_divN, nI_mod2, nI_m1e, nI_em1, nI_m2e, nI_lt0, m1_lt0, m1_lt, m1_le, h_u_at, h_u_off2, h_u_pl, li_0, li_1, li_2, li_3, li_4, li_5, li_6, li_7, li_8, li_9, li_10, li_11, li_12, li_13, li_14, li_15, li_16, li_17, li_18, li_19, li_20, li_21, li_22, li_23, li_24, li_25, li_26, li_27, li_28, li_29, li_30, li_31, li_32, li_40, li_43, li_45, li_47, li_48, li_57, li_59, li_60, li_61, li_62, li_63, li_64, li_80, li_92, li_97, li_99, li_100, li_122, li_123, li_125, li_166, li_201, li_210, li_250, li_255, li_256, li_257, li_258, li_259, li_260, li_261, li_262, li_263, li_264, li_265, li_266, li_267, li_268, li_300, li_500, li_1000, li_12345, li_27720, li_1000000, li_1103515245, ne_m1, ne_m2, f2, f3]
end Wk
