/-! guessed, ahead, refutes: both sides, over the guess's value at each state. -/
/-- both flags: a loop, a guess -/
def flagG (hg : Bool) (Ic Im : hI) : Prop := Ic 0 12 = bI hg ∧ Im 0 38 = bI hg
/-- the guess at each state, 27720 times -/
def gH (D : rD) (G : Nat → Int) (B : Bool × Bool) (Ic Im : hI) : Prop := ∀ s, s < D 0 0 → mC_guessTimesWhole (nI s) Ic B = some (lI (G s)) ∧ mM_wholeGuess (nI s) (h_u Im 0 0 (nI 0)) = some (lI (G s)) ∧ - 2 ^ 36 ≤ G s ∧ G s ≤ 2 ^ 36
theorem m_gr0 {v1 : Int32} {I : hI} (h : I 0 37 = nI 0 ∨ I 0 38 = nI 0) : mM_isGuessRefused v1 I = some (nI 1, h_u I 42 0 (I 42 0 + nI 1)) := by
  have hr := m_refuses (k := 0) (by decide) I
  unfold mM_isGuessRefused mM_isGuessRefused_27 mM_isGuessRefused_39
  rcases h with h | h
  · rw [h]
    simp (disch := omega) only [↓reduceIte, h_let, hg_in, hg_zb, hg_z0, hg_z1, hg_nz, Option.bind_some, if_pos, if_neg, bI_0, bI_n0, nI_add, nI_mul, nI_ltI, nI_leI, nI_eq, nI_clamp, nI_subN, nI_divN, nI_mod2, nI_m1e, nI_em1, nI_m2e, nI_lt0, m1_lt0, m1_lt, m1_le, h_u_at, h_u_off2, h_u_pl, li_0, li_1, li_2, li_3, li_4, li_5, li_6, li_7, li_8, li_9, li_10, li_11, li_12, li_13, li_14, li_15, li_16, li_17, li_18, li_19, li_20, li_21, li_22, li_23, li_24, li_25, li_26, li_27, li_28, li_29, li_30, li_31, li_32, li_40, li_43, li_45, li_47, li_48, li_57, li_59, li_60, li_61, li_62, li_63, li_64, li_80, li_92, li_97, li_99, li_100, li_122, li_123, li_125, li_166, li_201, li_210, li_250, li_255, li_256, li_257, li_258, li_259, li_260, li_261, li_262, li_263, li_264, li_265, li_266, li_267, li_268, li_300, li_500, li_1000, li_12345, li_27720, li_1000000, li_1103515245, ne_m1, ne_m2, hr]
  · by_cases h2 : I 0 37 = nI 0
    · rw [h2]
      simp (disch := omega) only [↓reduceIte, h_let, hg_in, hg_zb, hg_z0, hg_z1, hg_nz, Option.bind_some, if_pos, if_neg, bI_0, bI_n0, nI_add, nI_mul, nI_ltI, nI_leI, nI_eq, nI_clamp, nI_subN, nI_divN, nI_mod2, nI_m1e, nI_em1, nI_m2e, nI_lt0, m1_lt0, m1_lt, m1_le, h_u_at, h_u_off2, h_u_pl, li_0, li_1, li_2, li_3, li_4, li_5, li_6, li_7, li_8, li_9, li_10, li_11, li_12, li_13, li_14, li_15, li_16, li_17, li_18, li_19, li_20, li_21, li_22, li_23, li_24, li_25, li_26, li_27, li_28, li_29, li_30, li_31, li_32, li_40, li_43, li_45, li_47, li_48, li_57, li_59, li_60, li_61, li_62, li_63, li_64, li_80, li_92, li_97, li_99, li_100, li_122, li_123, li_125, li_166, li_201, li_210, li_250, li_255, li_256, li_257, li_258, li_259, li_260, li_261, li_262, li_263, li_264, li_265, li_266, li_267, li_268, li_300, li_500, li_1000, li_12345, li_27720, li_1000000, li_1103515245, ne_m1, ne_m2, hr]
    · rw [li_0, if_neg h2, h]
      simp (disch := omega) only [↓reduceIte, h_let, hg_in, hg_zb, hg_z0, hg_z1, hg_nz, Option.bind_some, if_pos, if_neg, bI_0, bI_n0, nI_add, nI_mul, nI_ltI, nI_leI, nI_eq, nI_clamp, nI_subN, nI_divN, nI_mod2, nI_m1e, nI_em1, nI_m2e, nI_lt0, m1_lt0, m1_lt, m1_le, h_u_at, h_u_off2, h_u_pl, li_0, li_1, li_2, li_3, li_4, li_5, li_6, li_7, li_8, li_9, li_10, li_11, li_12, li_13, li_14, li_15, li_16, li_17, li_18, li_19, li_20, li_21, li_22, li_23, li_24, li_25, li_26, li_27, li_28, li_29, li_30, li_31, li_32, li_40, li_43, li_45, li_47, li_48, li_57, li_59, li_60, li_61, li_62, li_63, li_64, li_80, li_92, li_97, li_99, li_100, li_122, li_123, li_125, li_166, li_201, li_210, li_250, li_255, li_256, li_257, li_258, li_259, li_260, li_261, li_262, li_263, li_264, li_265, li_266, li_267, li_268, li_300, li_500, li_1000, li_12345, li_27720, li_1000000, li_1103515245, ne_m1, ne_m2, hr]
theorem m_gr1 {I : hI} (h1 : I 0 37 = nI 1) (h2 : I 0 38 = nI 1) : mM_isGuessRefused (nI 0) I = some (nI 1, h_u I 42 1 (I 42 1 + nI 1)) := by
  have hr := m_refuses (k := 1) (by decide) I
  unfold mM_isGuessRefused mM_isGuessRefused_27 mM_isGuessRefused_39
  rw [h1, h2]
  simp (disch := omega) only [↓reduceIte, h_let, hg_in, hg_zb, hg_z0, hg_z1, hg_nz, Option.bind_some, if_pos, if_neg, bI_0, bI_n0, nI_add, nI_mul, nI_ltI, nI_leI, nI_eq, nI_clamp, nI_subN, nI_divN, nI_mod2, nI_m1e, nI_em1, nI_m2e, nI_lt0, m1_lt0, m1_lt, m1_le, h_u_at, h_u_off2, h_u_pl, li_0, li_1, li_2, li_3, li_4, li_5, li_6, li_7, li_8, li_9, li_10, li_11, li_12, li_13, li_14, li_15, li_16, li_17, li_18, li_19, li_20, li_21, li_22, li_23, li_24, li_25, li_26, li_27, li_28, li_29, li_30, li_31, li_32, li_40, li_43, li_45, li_47, li_48, li_57, li_59, li_60, li_61, li_62, li_63, li_64, li_80, li_92, li_97, li_99, li_100, li_122, li_123, li_125, li_166, li_201, li_210, li_250, li_255, li_256, li_257, li_258, li_259, li_260, li_261, li_262, li_263, li_264, li_265, li_266, li_267, li_268, li_300, li_500, li_1000, li_12345, li_27720, li_1000000, li_1103515245, ne_m1, ne_m2, hr]
theorem m_gr2 {I : hI} (h1 : I 0 37 = nI 1) (h2 : I 0 38 = nI 1) : mM_isGuessRefused (nI 1) I = some (nI 0, I) := by
  unfold mM_isGuessRefused mM_isGuessRefused_27 mM_isGuessRefused_39
  rw [h1, h2]
  simp (disch := omega) only [↓reduceIte, h_let, hg_in, hg_zb, hg_z0, hg_z1, hg_nz, Option.bind_some, if_pos, if_neg, bI_0, bI_n0, nI_add, nI_mul, nI_ltI, nI_leI, nI_eq, nI_clamp, nI_subN, nI_divN, nI_mod2, nI_m1e, nI_em1, nI_m2e, nI_lt0, m1_lt0, m1_lt, m1_le, h_u_at, h_u_off2, h_u_pl, li_0, li_1, li_2, li_3, li_4, li_5, li_6, li_7, li_8, li_9, li_10, li_11, li_12, li_13, li_14, li_15, li_16, li_17, li_18, li_19, li_20, li_21, li_22, li_23, li_24, li_25, li_26, li_27, li_28, li_29, li_30, li_31, li_32, li_40, li_43, li_45, li_47, li_48, li_57, li_59, li_60, li_61, li_62, li_63, li_64, li_80, li_92, li_97, li_99, li_100, li_122, li_123, li_125, li_166, li_201, li_210, li_250, li_255, li_256, li_257, li_258, li_259, li_260, li_261, li_262, li_263, li_264, li_265, li_266, li_267, li_268, li_300, li_500, li_1000, li_12345, li_27720, li_1000000, li_1103515245, ne_m1, ne_m2]
theorem low_both {a b : Int} (h1 : - 2 ^ 63 < a) (h2 : a < 2 ^ 63) (h3 : 0 < b) (h4 : b < 2 ^ 48) {k : Nat} (hk : k < 2) : ∃ v : Int64, mC_lowest (lI a) (lI b) (nI k) = some v ∧ mM_least (lI a) (lI b) (nI k) = some v := by
  have e1 := c_divisor (a := a) (b := b) h1 h2 (by omega) h4
  have e2 := m_divisor (a := a) (b := b) h1 h2 (by omega) h4
  have e3 : lN (Nat.gcd a.natAbs b.natAbs) = lI (gcI a b) := rfl
  rw [e3] at e1 e2
  have hp := gcI_pos (a := a) (b := b) (by omega)
  have hl := gcI_le (a := a) (b := b) (by omega)
  have hne : ¬ lI (gcI a b) = (0 : Int64) := fun e => by
    have := (lI_eq (a := gcI a b) (b := 0) (by omega) (by omega) (by omega) (by omega)).mp e
    omega
  have hnz : ∀ {β : Type} (k : Option β), h_g (h_nzL (lI (gcI a b))) k = k := fun k => hg_nzL k (by omega) (by omega) (by omega)
  unfold mC_lowest mM_least
  by_cases ck : k = 0
  · subst ck
    refine ⟨lI a / lI (gcI a b), ?_, ?_⟩
    · simp (disch := omega) only [↓reduceIte, h_let, hg_in, hg_zb, hg_z0, hg_z1, hg_nz, Option.bind_some, if_pos, if_neg, bI_0, bI_n0, nI_add, nI_mul, nI_ltI, nI_leI, nI_eq, nI_clamp, nI_subN, nI_divN, nI_mod2, nI_m1e, nI_em1, nI_m2e, nI_lt0, m1_lt0, m1_lt, m1_le, h_u_at, h_u_off2, h_u_pl, li_0, li_1, li_2, li_3, li_4, li_5, li_6, li_7, li_8, li_9, li_10, li_11, li_12, li_13, li_14, li_15, li_16, li_17, li_18, li_19, li_20, li_21, li_22, li_23, li_24, li_25, li_26, li_27, li_28, li_29, li_30, li_31, li_32, li_40, li_43, li_45, li_47, li_48, li_57, li_59, li_60, li_61, li_62, li_63, li_64, li_80, li_92, li_97, li_99, li_100, li_122, li_123, li_125, li_166, li_201, li_210, li_250, li_255, li_256, li_257, li_258, li_259, li_260, li_261, li_262, li_263, li_264, li_265, li_266, li_267, li_268, li_300, li_500, li_1000, li_12345, li_27720, li_1000000, li_1103515245, ne_m1, ne_m2, e1, if_neg hne, hnz]
    · simp (disch := omega) only [↓reduceIte, h_let, hg_in, hg_zb, hg_z0, hg_z1, hg_nz, Option.bind_some, if_pos, if_neg, bI_0, bI_n0, nI_add, nI_mul, nI_ltI, nI_leI, nI_eq, nI_clamp, nI_subN, nI_divN, nI_mod2, nI_m1e, nI_em1, nI_m2e, nI_lt0, m1_lt0, m1_lt, m1_le, h_u_at, h_u_off2, h_u_pl, li_0, li_1, li_2, li_3, li_4, li_5, li_6, li_7, li_8, li_9, li_10, li_11, li_12, li_13, li_14, li_15, li_16, li_17, li_18, li_19, li_20, li_21, li_22, li_23, li_24, li_25, li_26, li_27, li_28, li_29, li_30, li_31, li_32, li_40, li_43, li_45, li_47, li_48, li_57, li_59, li_60, li_61, li_62, li_63, li_64, li_80, li_92, li_97, li_99, li_100, li_122, li_123, li_125, li_166, li_201, li_210, li_250, li_255, li_256, li_257, li_258, li_259, li_260, li_261, li_262, li_263, li_264, li_265, li_266, li_267, li_268, li_300, li_500, li_1000, li_12345, li_27720, li_1000000, li_1103515245, ne_m1, ne_m2, e2, hnz]
  · refine ⟨lI b / lI (gcI a b), ?_, ?_⟩
    · simp (disch := omega) only [↓reduceIte, h_let, hg_in, hg_zb, hg_z0, hg_z1, hg_nz, Option.bind_some, if_pos, if_neg, bI_0, bI_n0, nI_add, nI_mul, nI_ltI, nI_leI, nI_eq, nI_clamp, nI_subN, nI_divN, nI_mod2, nI_m1e, nI_em1, nI_m2e, nI_lt0, m1_lt0, m1_lt, m1_le, h_u_at, h_u_off2, h_u_pl, li_0, li_1, li_2, li_3, li_4, li_5, li_6, li_7, li_8, li_9, li_10, li_11, li_12, li_13, li_14, li_15, li_16, li_17, li_18, li_19, li_20, li_21, li_22, li_23, li_24, li_25, li_26, li_27, li_28, li_29, li_30, li_31, li_32, li_40, li_43, li_45, li_47, li_48, li_57, li_59, li_60, li_61, li_62, li_63, li_64, li_80, li_92, li_97, li_99, li_100, li_122, li_123, li_125, li_166, li_201, li_210, li_250, li_255, li_256, li_257, li_258, li_259, li_260, li_261, li_262, li_263, li_264, li_265, li_266, li_267, li_268, li_300, li_500, li_1000, li_12345, li_27720, li_1000000, li_1103515245, ne_m1, ne_m2, e1, if_neg hne, hnz]
    · simp (disch := omega) only [↓reduceIte, h_let, hg_in, hg_zb, hg_z0, hg_z1, hg_nz, Option.bind_some, if_pos, if_neg, bI_0, bI_n0, nI_add, nI_mul, nI_ltI, nI_leI, nI_eq, nI_clamp, nI_subN, nI_divN, nI_mod2, nI_m1e, nI_em1, nI_m2e, nI_lt0, m1_lt0, m1_lt, m1_le, h_u_at, h_u_off2, h_u_pl, li_0, li_1, li_2, li_3, li_4, li_5, li_6, li_7, li_8, li_9, li_10, li_11, li_12, li_13, li_14, li_15, li_16, li_17, li_18, li_19, li_20, li_21, li_22, li_23, li_24, li_25, li_26, li_27, li_28, li_29, li_30, li_31, li_32, li_40, li_43, li_45, li_47, li_48, li_57, li_59, li_60, li_61, li_62, li_63, li_64, li_80, li_92, li_97, li_99, li_100, li_122, li_123, li_125, li_166, li_201, li_210, li_250, li_255, li_256, li_257, li_258, li_259, li_260, li_261, li_262, li_263, li_264, li_265, li_266, li_267, li_268, li_300, li_500, li_1000, li_12345, li_27720, li_1000000, li_1103515245, ne_m1, ne_m2, e2, hnz]
section Gu
variable {D : rD} {hl hg : Bool} {Ic Im : hI} {B : Bool × Bool} {G : Nat → Int}
theorem pr_guessed (hf : flagL hl D Ic Im) (hgf : flagG hg Ic Im) (hr : refu Ic Im) (hG : hl = true → hg = true → gH D G B Ic Im) (v1 v2 : Int32) : ∃ (v : Int64) (Ic' Im' : hI), mC_guessed v1 v2 Ic B = some (v, Ic') ∧ mM_guessed v1 v2 Im = some (v, Im') ∧ onlyR Ic Ic' Im Im' := by
  have e37 : h_u Im 0 0 (nI 0) 0 37 = bI hl := by rw [h_u_pl _ _ _ (by decide)]; exact hf.2.1
  have e38 : h_u Im 0 0 (nI 0) 0 38 = bI hg := by rw [h_u_pl _ _ _ (by decide)]; exact hgf.2
  have f1 := hf.1
  have g1 := hgf.1
  by_cases hboth : hl = true ∧ hg = true
  · obtain ⟨rfl, rfl⟩ := hboth
    rw [bI_t] at e37 e38 f1 g1
    obtain ⟨hD, hc, hm⟩ := hf.2.2 rfl
    have hn := hD.2.1
    have hm1 := mR_mark hm (nI 0)
    have hk : ((nI 2) - (nI 1)).toInt64 = (1 : Int64) := by decide
    unfold mC_guessed mC_guessed_20 mC_guessed_55 mM_guessed mM_guessed_28 mM_guessed_29
    rw [li_0, f1, g1]
    rcases m_isState hD hm1.1 v1 with ⟨s, hs, rfl, e2, e3⟩ | ⟨_, e2, e3⟩
    · rcases range_splitL v2 (n := 2) (by decide) hk with ⟨k, hk2, rfl, o2, o3⟩ | ⟨_, o2, o3⟩
      · obtain ⟨w1, w2, w3, w4⟩ := hG rfl rfl s hs
        obtain ⟨v, l1, l2⟩ := low_both (a := G s) (b := 27720) (by omega) (by omega) (by decide) (by decide) hk2
        have lb : lI 27720 = (27720 : Int64) := rfl
        rw [lb] at l1 l2
        refine ⟨v, Ic, h_u Im 0 0 (nI 0), ?_, ?_, onlyR_same hr (nI 0)⟩
        · simp (disch := omega) only [↓reduceIte, h_let, hg_in, hg_zb, hg_z0, hg_z1, hg_nz, Option.bind_some, if_pos, if_neg, bI_0, bI_n0, nI_add, nI_mul, nI_ltI, nI_leI, nI_eq, nI_clamp, nI_subN, nI_divN, nI_mod2, nI_m1e, nI_em1, nI_m2e, nI_lt0, m1_lt0, m1_lt, m1_le, h_u_at, h_u_off2, h_u_pl, li_0, li_1, li_2, li_3, li_4, li_5, li_6, li_7, li_8, li_9, li_10, li_11, li_12, li_13, li_14, li_15, li_16, li_17, li_18, li_19, li_20, li_21, li_22, li_23, li_24, li_25, li_26, li_27, li_28, li_29, li_30, li_31, li_32, li_40, li_43, li_45, li_47, li_48, li_57, li_59, li_60, li_61, li_62, li_63, li_64, li_80, li_92, li_97, li_99, li_100, li_122, li_123, li_125, li_166, li_201, li_210, li_250, li_255, li_256, li_257, li_258, li_259, li_260, li_261, li_262, li_263, li_264, li_265, li_266, li_267, li_268, li_300, li_500, li_1000, li_12345, li_27720, li_1000000, li_1103515245, ne_m1, ne_m2, c_refuse0, hc.1, e2, o2, w1, l1]
        · simp (disch := omega) only [↓reduceIte, h_let, hg_in, hg_zb, hg_z0, hg_z1, hg_nz, Option.bind_some, if_pos, if_neg, bI_0, bI_n0, nI_add, nI_mul, nI_ltI, nI_leI, nI_eq, nI_clamp, nI_subN, nI_divN, nI_mod2, nI_m1e, nI_em1, nI_m2e, nI_lt0, m1_lt0, m1_lt, m1_le, h_u_at, h_u_off2, h_u_pl, li_0, li_1, li_2, li_3, li_4, li_5, li_6, li_7, li_8, li_9, li_10, li_11, li_12, li_13, li_14, li_15, li_16, li_17, li_18, li_19, li_20, li_21, li_22, li_23, li_24, li_25, li_26, li_27, li_28, li_29, li_30, li_31, li_32, li_40, li_43, li_45, li_47, li_48, li_57, li_59, li_60, li_61, li_62, li_63, li_64, li_80, li_92, li_97, li_99, li_100, li_122, li_123, li_125, li_166, li_201, li_210, li_250, li_255, li_256, li_257, li_258, li_259, li_260, li_261, li_262, li_263, li_264, li_265, li_266, li_267, li_268, li_300, li_500, li_1000, li_12345, li_27720, li_1000000, li_1103515245, ne_m1, ne_m2, e3, o3, m_gr2 e37 e38, w2, l2]
      · refine ⟨(-1000001 : Int64), _, _, ?_, ?_, onlyR_bump hr (nI 0) (k := 1) (by decide)⟩
        · simp (disch := omega) only [↓reduceIte, h_let, hg_in, hg_zb, hg_z0, hg_z1, hg_nz, Option.bind_some, if_pos, if_neg, bI_0, bI_n0, nI_add, nI_mul, nI_ltI, nI_leI, nI_eq, nI_clamp, nI_subN, nI_divN, nI_mod2, nI_m1e, nI_em1, nI_m2e, nI_lt0, m1_lt0, m1_lt, m1_le, h_u_at, h_u_off2, h_u_pl, li_0, li_1, li_2, li_3, li_4, li_5, li_6, li_7, li_8, li_9, li_10, li_11, li_12, li_13, li_14, li_15, li_16, li_17, li_18, li_19, li_20, li_21, li_22, li_23, li_24, li_25, li_26, li_27, li_28, li_29, li_30, li_31, li_32, li_40, li_43, li_45, li_47, li_48, li_57, li_59, li_60, li_61, li_62, li_63, li_64, li_80, li_92, li_97, li_99, li_100, li_122, li_123, li_125, li_166, li_201, li_210, li_250, li_255, li_256, li_257, li_258, li_259, li_260, li_261, li_262, li_263, li_264, li_265, li_266, li_267, li_268, li_300, li_500, li_1000, li_12345, li_27720, li_1000000, li_1103515245, ne_m1, ne_m2, c_refuse0, hc.1, e2, o2, c_refuse1]
        · simp (disch := omega) only [↓reduceIte, h_let, hg_in, hg_zb, hg_z0, hg_z1, hg_nz, Option.bind_some, if_pos, if_neg, bI_0, bI_n0, nI_add, nI_mul, nI_ltI, nI_leI, nI_eq, nI_clamp, nI_subN, nI_divN, nI_mod2, nI_m1e, nI_em1, nI_m2e, nI_lt0, m1_lt0, m1_lt, m1_le, h_u_at, h_u_off2, h_u_pl, li_0, li_1, li_2, li_3, li_4, li_5, li_6, li_7, li_8, li_9, li_10, li_11, li_12, li_13, li_14, li_15, li_16, li_17, li_18, li_19, li_20, li_21, li_22, li_23, li_24, li_25, li_26, li_27, li_28, li_29, li_30, li_31, li_32, li_40, li_43, li_45, li_47, li_48, li_57, li_59, li_60, li_61, li_62, li_63, li_64, li_80, li_92, li_97, li_99, li_100, li_122, li_123, li_125, li_166, li_201, li_210, li_250, li_255, li_256, li_257, li_258, li_259, li_260, li_261, li_262, li_263, li_264, li_265, li_266, li_267, li_268, li_300, li_500, li_1000, li_12345, li_27720, li_1000000, li_1103515245, ne_m1, ne_m2, e3, o3, m_gr1 e37 e38]
    · refine ⟨(-1000001 : Int64), _, _, ?_, ?_, onlyR_bump hr (nI 0) (k := 1) (by decide)⟩
      · simp (disch := omega) only [↓reduceIte, h_let, hg_in, hg_zb, hg_z0, hg_z1, hg_nz, Option.bind_some, if_pos, if_neg, bI_0, bI_n0, nI_add, nI_mul, nI_ltI, nI_leI, nI_eq, nI_clamp, nI_subN, nI_divN, nI_mod2, nI_m1e, nI_em1, nI_m2e, nI_lt0, m1_lt0, m1_lt, m1_le, h_u_at, h_u_off2, h_u_pl, li_0, li_1, li_2, li_3, li_4, li_5, li_6, li_7, li_8, li_9, li_10, li_11, li_12, li_13, li_14, li_15, li_16, li_17, li_18, li_19, li_20, li_21, li_22, li_23, li_24, li_25, li_26, li_27, li_28, li_29, li_30, li_31, li_32, li_40, li_43, li_45, li_47, li_48, li_57, li_59, li_60, li_61, li_62, li_63, li_64, li_80, li_92, li_97, li_99, li_100, li_122, li_123, li_125, li_166, li_201, li_210, li_250, li_255, li_256, li_257, li_258, li_259, li_260, li_261, li_262, li_263, li_264, li_265, li_266, li_267, li_268, li_300, li_500, li_1000, li_12345, li_27720, li_1000000, li_1103515245, ne_m1, ne_m2, c_refuse0, hc.1, e2, c_refuse1]
      · simp (disch := omega) only [↓reduceIte, h_let, hg_in, hg_zb, hg_z0, hg_z1, hg_nz, Option.bind_some, if_pos, if_neg, bI_0, bI_n0, nI_add, nI_mul, nI_ltI, nI_leI, nI_eq, nI_clamp, nI_subN, nI_divN, nI_mod2, nI_m1e, nI_em1, nI_m2e, nI_lt0, m1_lt0, m1_lt, m1_le, h_u_at, h_u_off2, h_u_pl, li_0, li_1, li_2, li_3, li_4, li_5, li_6, li_7, li_8, li_9, li_10, li_11, li_12, li_13, li_14, li_15, li_16, li_17, li_18, li_19, li_20, li_21, li_22, li_23, li_24, li_25, li_26, li_27, li_28, li_29, li_30, li_31, li_32, li_40, li_43, li_45, li_47, li_48, li_57, li_59, li_60, li_61, li_62, li_63, li_64, li_80, li_92, li_97, li_99, li_100, li_122, li_123, li_125, li_166, li_201, li_210, li_250, li_255, li_256, li_257, li_258, li_259, li_260, li_261, li_262, li_263, li_264, li_265, li_266, li_267, li_268, li_300, li_500, li_1000, li_12345, li_27720, li_1000000, li_1103515245, ne_m1, ne_m2, e3, m_gr1 e37 e38]
  · have hno : h_u Im 0 0 (nI 0) 0 37 = nI 0 ∨ h_u Im 0 0 (nI 0) 0 38 = nI 0 := by
      rw [e37, e38]
      cases hl
      · exact Or.inl rfl
      · cases hg
        · exact Or.inr rfl
        · exact absurd ⟨rfl, rfl⟩ hboth
    have hno2 : Ic 0 11 = nI 0 ∨ Ic 0 12 = nI 0 := by
      rw [f1, g1]
      cases hl
      · exact Or.inl rfl
      · cases hg
        · exact Or.inr rfl
        · exact absurd ⟨rfl, rfl⟩ hboth
    refine ⟨(-1000001 : Int64), _, _, ?_, ?_, onlyR_bump hr (nI 0) (k := 0) (by decide)⟩
    · have e : mC_guessed v1 v2 Ic B = mC_guessed_20 v1 v2 (nI 1) Ic B := by
        unfold mC_guessed
        rcases hno2 with h | h
        · rw [h]; rfl
        · rw [h]
          by_cases h3 : Ic 0 11 = 0
          · rw [if_pos h3]; rfl
          · rw [if_neg h3]; rfl
      rw [e]
      unfold mC_guessed_20
      simp (disch := omega) only [↓reduceIte, h_let, hg_in, hg_zb, hg_z0, hg_z1, hg_nz, Option.bind_some, if_pos, if_neg, bI_0, bI_n0, nI_add, nI_mul, nI_ltI, nI_leI, nI_eq, nI_clamp, nI_subN, nI_divN, nI_mod2, nI_m1e, nI_em1, nI_m2e, nI_lt0, m1_lt0, m1_lt, m1_le, h_u_at, h_u_off2, h_u_pl, li_0, li_1, li_2, li_3, li_4, li_5, li_6, li_7, li_8, li_9, li_10, li_11, li_12, li_13, li_14, li_15, li_16, li_17, li_18, li_19, li_20, li_21, li_22, li_23, li_24, li_25, li_26, li_27, li_28, li_29, li_30, li_31, li_32, li_40, li_43, li_45, li_47, li_48, li_57, li_59, li_60, li_61, li_62, li_63, li_64, li_80, li_92, li_97, li_99, li_100, li_122, li_123, li_125, li_166, li_201, li_210, li_250, li_255, li_256, li_257, li_258, li_259, li_260, li_261, li_262, li_263, li_264, li_265, li_266, li_267, li_268, li_300, li_500, li_1000, li_12345, li_27720, li_1000000, li_1103515245, ne_m1, ne_m2, c_refuse1]
    · obtain ⟨z, hz⟩ := m_isStateT v1 (h_u Im 0 0 (nI 0))
      have em : ∃ vm, mM_guessed v1 v2 Im = mM_guessed_29 v1 v2 vm (h_u Im 0 0 (nI 0)) := by
        unfold mM_guessed mM_guessed_28
        rw [li_0]
        show ∃ vm, Option.bind (mM_isState v1 (h_u Im 0 0 (nI 0))) _ = _
        rw [hz]
        by_cases c3 : z = nI 0 <;> by_cases c4 : mM_in v2.toInt64 (0 : Int64) (1 : Int64) = nI 0 <;> simp only [c3, c4, if_true, if_false, Option.bind_some]
        all_goals exact ⟨_, rfl⟩
      obtain ⟨vm, em⟩ := em
      rw [em]
      unfold mM_guessed_29
      have := m_gr0 (v1 := vm) hno
      simp (disch := omega) only [↓reduceIte, h_let, hg_in, hg_zb, hg_z0, hg_z1, hg_nz, Option.bind_some, if_pos, if_neg, bI_0, bI_n0, nI_add, nI_mul, nI_ltI, nI_leI, nI_eq, nI_clamp, nI_subN, nI_divN, nI_mod2, nI_m1e, nI_em1, nI_m2e, nI_lt0, m1_lt0, m1_lt, m1_le, h_u_at, h_u_off2, h_u_pl, li_0, li_1, li_2, li_3, li_4, li_5, li_6, li_7, li_8, li_9, li_10, li_11, li_12, li_13, li_14, li_15, li_16, li_17, li_18, li_19, li_20, li_21, li_22, li_23, li_24, li_25, li_26, li_27, li_28, li_29, li_30, li_31, li_32, li_40, li_43, li_45, li_47, li_48, li_57, li_59, li_60, li_61, li_62, li_63, li_64, li_80, li_92, li_97, li_99, li_100, li_122, li_123, li_125, li_166, li_201, li_210, li_250, li_255, li_256, li_257, li_258, li_259, li_260, li_261, li_262, li_263, li_264, li_265, li_266, li_267, li_268, li_300, li_500, li_1000, li_12345, li_27720, li_1000000, li_1103515245, ne_m1, ne_m2, this]
/-- what a choice leads to, 110880 times, with (w) or without what it pays -/
def aH (D : rD) (G : Nat → Int) (w : Bool) (s c : Nat) : Nat → Int
  | 0 => if w = true then (D 3 (8 * s + c) : Int) * 27720 else 0
  | t + 1 => aH D G w s c t + (D 5 (10 * (8 * s + c) + t) : Int) * G t
theorem aH_bd (hD : rOk D) {s c : Nat} (hs : s < D 0 0) (hc : c < D 1 s) (hGb : ∀ t, t < D 0 0 → - 2 ^ 36 ≤ G t ∧ G t ≤ 2 ^ 36) (w : Bool) : ∀ t, t ≤ D 0 0 → - (2 ^ 38 * t : Int) ≤ aH D G w s c t ∧ aH D G w s c t ≤ 2 ^ 38 * t + 53222400
  | 0, _ => by
    have h3 := (hD.2.2.2.2 s hs c hc).2.1
    rw [aH]
    cases w <;> simp <;> omega
  | t + 1, ht => by
    obtain ⟨h1, h2⟩ := aH_bd hD hs hc hGb w t (by omega)
    have h4 := (hD.2.2.2.2 s hs c hc).2.2.2.1 t (by omega)
    obtain ⟨g1, g2⟩ := hGb t (by omega)
    have hm : - 2 ^ 38 ≤ (D 5 (10 * (8 * s + c) + t) : Int) * G t ∧ (D 5 (10 * (8 * s + c) + t) : Int) * G t ≤ 2 ^ 38 := by
      rcases (show D 5 (10 * (8 * s + c) + t) = 0 ∨ D 5 (10 * (8 * s + c) + t) = 1 ∨ D 5 (10 * (8 * s + c) + t) = 2 ∨ D 5 (10 * (8 * s + c) + t) = 3 ∨ D 5 (10 * (8 * s + c) + t) = 4 by omega) with e | e | e | e | e <;> rw [e] <;> omega
    rw [aH]
    omega
theorem aH_b42 (hD : rOk D) {s c : Nat} (hs : s < D 0 0) (hc : c < D 1 s) (hGb : ∀ t, t < D 0 0 → - 2 ^ 36 ≤ G t ∧ G t ≤ 2 ^ 36) (w : Bool) {t : Nat} (ht : t ≤ D 0 0) : - 2 ^ 43 ≤ aH D G w s c t ∧ aH D G w s c t ≤ 2 ^ 43 := by
  have hn := hD.2.1
  have h := aH_bd hD hs hc hGb w t ht
  omega
theorem c_ahead_L (hD : rOk D) (hcR : cR D Ic) {s c : Nat} (hs : s < D 0 0) (hc : c < D 1 s) (w : Bool) (hGc : ∀ s, s < D 0 0 → mC_guessTimesWhole (nI s) Ic B = some (lI (G s))) : ∀ (r t fuel : Nat), t + r = D 0 0 → r < fuel → mC_aheadTimesWhole_L50 fuel (nI (8 * s + c)) (lI (aH D G w s c t)) (nI t) Ic B = some (lI (aH D G w s c (D 0 0))) := by
  have hn := hD.2.1
  intro r
  induction r with
  | zero =>
    intro t fuel ht hf
    obtain ⟨fuel, rfl⟩ : ∃ m, fuel = m + 1 := ⟨fuel - 1, by omega⟩
    obtain rfl : t = D 0 0 := by omega
    unfold mC_aheadTimesWhole_L50 mC_aheadTimesWhole_B50
    rw [hcR.1]
    simp (disch := omega) only [↓reduceIte, h_let, hg_in, hg_zb, hg_z0, hg_z1, hg_nz, Option.bind_some, if_pos, if_neg, bI_0, bI_n0, nI_add, nI_mul, nI_ltI, nI_leI, nI_eq, nI_clamp, nI_subN, nI_divN, nI_mod2, nI_m1e, nI_em1, nI_m2e, nI_lt0, m1_lt0, m1_lt, m1_le, h_u_at, h_u_off2, h_u_pl, li_0, li_1, li_2, li_3, li_4, li_5, li_6, li_7, li_8, li_9, li_10, li_11, li_12, li_13, li_14, li_15, li_16, li_17, li_18, li_19, li_20, li_21, li_22, li_23, li_24, li_25, li_26, li_27, li_28, li_29, li_30, li_31, li_32, li_40, li_43, li_45, li_47, li_48, li_57, li_59, li_60, li_61, li_62, li_63, li_64, li_80, li_92, li_97, li_99, li_100, li_122, li_123, li_125, li_166, li_201, li_210, li_250, li_255, li_256, li_257, li_258, li_259, li_260, li_261, li_262, li_263, li_264, li_265, li_266, li_267, li_268, li_300, li_500, li_1000, li_12345, li_27720, li_1000000, li_1103515245, ne_m1, ne_m2]
  | succ r ih =>
    intro t fuel ht hf
    obtain ⟨fuel, rfl⟩ : ∃ m, fuel = m + 1 := ⟨fuel - 1, by omega⟩
    have eq := ro_quarters hD hcR hs hc (show t < D 0 0 by omega)
    have h4 := (hD.2.2.2.2 s hs c hc).2.2.2.1 t (by omega)
    have go := ih (t + 1) fuel (by omega) (by omega)
    rw [aH] at go
    have eg := hGc t (by omega)
    unfold mC_aheadTimesWhole_L50 mC_aheadTimesWhole_B50
    rw [hcR.1]
    by_cases q : 0 < D 5 (10 * (8 * s + c) + t)
    · have e1 := nI_lI (n := D 5 (10 * (8 * s + c) + t)) (by omega)
      simp (disch := omega) only [↓reduceIte, h_let, hg_in, hg_zb, hg_z0, hg_z1, hg_nz, Option.bind_some, if_pos, if_neg, bI_0, bI_n0, nI_add, nI_mul, nI_ltI, nI_leI, nI_eq, nI_clamp, nI_subN, nI_divN, nI_mod2, nI_m1e, nI_em1, nI_m2e, nI_lt0, m1_lt0, m1_lt, m1_le, h_u_at, h_u_off2, h_u_pl, li_0, li_1, li_2, li_3, li_4, li_5, li_6, li_7, li_8, li_9, li_10, li_11, li_12, li_13, li_14, li_15, li_16, li_17, li_18, li_19, li_20, li_21, li_22, li_23, li_24, li_25, li_26, li_27, li_28, li_29, li_30, li_31, li_32, li_40, li_43, li_45, li_47, li_48, li_57, li_59, li_60, li_61, li_62, li_63, li_64, li_80, li_92, li_97, li_99, li_100, li_122, li_123, li_125, li_166, li_201, li_210, li_250, li_255, li_256, li_257, li_258, li_259, li_260, li_261, li_262, li_263, li_264, li_265, li_266, li_267, li_268, li_300, li_500, li_1000, li_12345, li_27720, li_1000000, li_1103515245, ne_m1, ne_m2, eq, eg, e1, lI_mul, lI_add]
      exact go
    · have e0 : D 5 (10 * (8 * s + c) + t) = 0 := by omega
      rw [e0] at go eq
      simp (disch := omega) only [↓reduceIte, h_let, hg_in, hg_zb, hg_z0, hg_z1, hg_nz, Option.bind_some, if_pos, if_neg, bI_0, bI_n0, nI_add, nI_mul, nI_ltI, nI_leI, nI_eq, nI_clamp, nI_subN, nI_divN, nI_mod2, nI_m1e, nI_em1, nI_m2e, nI_lt0, m1_lt0, m1_lt, m1_le, h_u_at, h_u_off2, h_u_pl, li_0, li_1, li_2, li_3, li_4, li_5, li_6, li_7, li_8, li_9, li_10, li_11, li_12, li_13, li_14, li_15, li_16, li_17, li_18, li_19, li_20, li_21, li_22, li_23, li_24, li_25, li_26, li_27, li_28, li_29, li_30, li_31, li_32, li_40, li_43, li_45, li_47, li_48, li_57, li_59, li_60, li_61, li_62, li_63, li_64, li_80, li_92, li_97, li_99, li_100, li_122, li_123, li_125, li_166, li_201, li_210, li_250, li_255, li_256, li_257, li_258, li_259, li_260, li_261, li_262, li_263, li_264, li_265, li_266, li_267, li_268, li_300, li_500, li_1000, li_12345, li_27720, li_1000000, li_1103515245, ne_m1, ne_m2, eq]
      rw [show aH D G w s c t + ((0 : Nat) : Int) * G t = aH D G w s c t by omega] at go
      exact go
theorem c_aheadW (hD : rOk D) (hcR : cR D Ic) {s c : Nat} (hs : s < D 0 0) (hc : c < D 1 s) (w : Bool) (hGc : ∀ s, s < D 0 0 → mC_guessTimesWhole (nI s) Ic B = some (lI (G s))) : mC_aheadTimesWhole (nI s) (nI c) (bI w) Ic B = some (lI (aH D G w s c (D 0 0))) := by
  have hn := hD.2.1
  have h8 := hD.2.2.2.1 s hs
  have e3 := (hcR.2.2.2.2.2 s hs c hc).2.1
  have h3 := (hD.2.2.2.2 s hs c hc).2.1
  have go := c_ahead_L hD hcR hs hc w hGc (D 0 0) 0 hF (by omega) (by unfold hF; omega)
  have e8 : s * 8 + c = 8 * s + c := by omega
  rw [aH] at go
  unfold mC_aheadTimesWhole
  cases w
  · rw [bI_f]
    rw [if_neg (show ¬ (false : Bool) = true by decide)] at go
    simp (disch := omega) only [↓reduceIte, h_let, hg_in, hg_zb, hg_z0, hg_z1, hg_nz, Option.bind_some, if_pos, if_neg, bI_0, bI_n0, nI_add, nI_mul, nI_ltI, nI_leI, nI_eq, nI_clamp, nI_subN, nI_divN, nI_mod2, nI_m1e, nI_em1, nI_m2e, nI_lt0, m1_lt0, m1_lt, m1_le, h_u_at, h_u_off2, h_u_pl, li_0, li_1, li_2, li_3, li_4, li_5, li_6, li_7, li_8, li_9, li_10, li_11, li_12, li_13, li_14, li_15, li_16, li_17, li_18, li_19, li_20, li_21, li_22, li_23, li_24, li_25, li_26, li_27, li_28, li_29, li_30, li_31, li_32, li_40, li_43, li_45, li_47, li_48, li_57, li_59, li_60, li_61, li_62, li_63, li_64, li_80, li_92, li_97, li_99, li_100, li_122, li_123, li_125, li_166, li_201, li_210, li_250, li_255, li_256, li_257, li_258, li_259, li_260, li_261, li_262, li_263, li_264, li_265, li_266, li_267, li_268, li_300, li_500, li_1000, li_12345, li_27720, li_1000000, li_1103515245, ne_m1, ne_m2, e8]
    exact go
  · rw [bI_t]
    rw [if_pos (show (true : Bool) = true from rfl)] at go
    have e1 := nI_lI (n := D 3 (8 * s + c)) (by omega)
    have lb : (27720 : Int64) = lI 27720 := rfl
    rw [lb]
    simp (disch := omega) only [↓reduceIte, h_let, hg_in, hg_zb, hg_z0, hg_z1, hg_nz, Option.bind_some, if_pos, if_neg, bI_0, bI_n0, nI_add, nI_mul, nI_ltI, nI_leI, nI_eq, nI_clamp, nI_subN, nI_divN, nI_mod2, nI_m1e, nI_em1, nI_m2e, nI_lt0, m1_lt0, m1_lt, m1_le, h_u_at, h_u_off2, h_u_pl, li_0, li_1, li_2, li_3, li_4, li_5, li_6, li_7, li_8, li_9, li_10, li_11, li_12, li_13, li_14, li_15, li_16, li_17, li_18, li_19, li_20, li_21, li_22, li_23, li_24, li_25, li_26, li_27, li_28, li_29, li_30, li_31, li_32, li_40, li_43, li_45, li_47, li_48, li_57, li_59, li_60, li_61, li_62, li_63, li_64, li_80, li_92, li_97, li_99, li_100, li_122, li_123, li_125, li_166, li_201, li_210, li_250, li_255, li_256, li_257, li_258, li_259, li_260, li_261, li_262, li_263, li_264, li_265, li_266, li_267, li_268, li_300, li_500, li_1000, li_12345, li_27720, li_1000000, li_1103515245, ne_m1, ne_m2, e8, e3, e1, lI_mul]
    exact go
theorem m_ahead_L (hD : rOk D) {I : hI} (hm : mR D I) {s c : Nat} (hs : s < D 0 0) (hc : c < D 1 s) (w : Bool) (hGm : ∀ s, s < D 0 0 → mM_wholeGuess (nI s) I = some (lI (G s))) : ∀ (r t fuel : Nat), t + r = D 0 0 → r < fuel → mM_wholeAhead_L33 fuel (nI (8 * s + c)) (lI (aH D G w s c t)) (nI t) I = some (lI (aH D G w s c (D 0 0))) := by
  have hn := hD.2.1
  have h8 := hD.2.2.2.1 s hs
  intro r
  induction r with
  | zero =>
    intro t fuel ht hf
    obtain ⟨fuel, rfl⟩ : ∃ m, fuel = m + 1 := ⟨fuel - 1, by omega⟩
    obtain rfl : t = D 0 0 := by omega
    unfold mM_wholeAhead_L33 mM_wholeAhead_B33
    rw [hm.1]
    simp (disch := omega) only [↓reduceIte, h_let, hg_in, hg_zb, hg_z0, hg_z1, hg_nz, Option.bind_some, if_pos, if_neg, bI_0, bI_n0, nI_add, nI_mul, nI_ltI, nI_leI, nI_eq, nI_clamp, nI_subN, nI_divN, nI_mod2, nI_m1e, nI_em1, nI_m2e, nI_lt0, m1_lt0, m1_lt, m1_le, h_u_at, h_u_off2, h_u_pl, li_0, li_1, li_2, li_3, li_4, li_5, li_6, li_7, li_8, li_9, li_10, li_11, li_12, li_13, li_14, li_15, li_16, li_17, li_18, li_19, li_20, li_21, li_22, li_23, li_24, li_25, li_26, li_27, li_28, li_29, li_30, li_31, li_32, li_40, li_43, li_45, li_47, li_48, li_57, li_59, li_60, li_61, li_62, li_63, li_64, li_80, li_92, li_97, li_99, li_100, li_122, li_123, li_125, li_166, li_201, li_210, li_250, li_255, li_256, li_257, li_258, li_259, li_260, li_261, li_262, li_263, li_264, li_265, li_266, li_267, li_268, li_300, li_500, li_1000, li_12345, li_27720, li_1000000, li_1103515245, ne_m1, ne_m2]
  | succ r ih =>
    intro t fuel ht hf
    obtain ⟨fuel, rfl⟩ : ∃ m, fuel = m + 1 := ⟨fuel - 1, by omega⟩
    have eq := (hm.2.2.2.2 s hs c hc).2.2.2 t (by omega)
    have h4 := (hD.2.2.2.2 s hs c hc).2.2.2.1 t (by omega)
    have go := ih (t + 1) fuel (by omega) (by omega)
    rw [aH] at go
    have eg := hGm t (by omega)
    have e1 := nI_lI (n := D 5 (10 * (8 * s + c) + t)) (by omega)
    unfold mM_wholeAhead_L33 mM_wholeAhead_B33
    rw [hm.1]
    simp (disch := omega) only [↓reduceIte, h_let, hg_in, hg_zb, hg_z0, hg_z1, hg_nz, Option.bind_some, if_pos, if_neg, bI_0, bI_n0, nI_add, nI_mul, nI_ltI, nI_leI, nI_eq, nI_clamp, nI_subN, nI_divN, nI_mod2, nI_m1e, nI_em1, nI_m2e, nI_lt0, m1_lt0, m1_lt, m1_le, h_u_at, h_u_off2, h_u_pl, li_0, li_1, li_2, li_3, li_4, li_5, li_6, li_7, li_8, li_9, li_10, li_11, li_12, li_13, li_14, li_15, li_16, li_17, li_18, li_19, li_20, li_21, li_22, li_23, li_24, li_25, li_26, li_27, li_28, li_29, li_30, li_31, li_32, li_40, li_43, li_45, li_47, li_48, li_57, li_59, li_60, li_61, li_62, li_63, li_64, li_80, li_92, li_97, li_99, li_100, li_122, li_123, li_125, li_166, li_201, li_210, li_250, li_255, li_256, li_257, li_258, li_259, li_260, li_261, li_262, li_263, li_264, li_265, li_266, li_267, li_268, li_300, li_500, li_1000, li_12345, li_27720, li_1000000, li_1103515245, ne_m1, ne_m2, eq, eg, e1, lI_mul, lI_add]
    exact go
theorem m_aheadW (hD : rOk D) {I : hI} (hm : mR D I) {s c : Nat} (hs : s < D 0 0) (hc : c < D 1 s) (w : Bool) (hGm : ∀ s, s < D 0 0 → mM_wholeGuess (nI s) I = some (lI (G s))) : mM_wholeAhead (nI s) (nI c) (bI w) I = some (lI (aH D G w s c (D 0 0))) := by
  have hn := hD.2.1
  have h8 := hD.2.2.2.1 s hs
  have e3 := (hm.2.2.2.2 s hs c hc).2.1
  have h3 := (hD.2.2.2.2 s hs c hc).2.1
  have go := m_ahead_L hD hm hs hc w hGm (D 0 0) 0 hF (by omega) (by unfold hF; omega)
  rw [aH] at go
  unfold mM_wholeAhead mM_choiceAt
  cases w
  · rw [bI_f]
    rw [if_neg (show ¬ (false : Bool) = true by decide)] at go
    simp (disch := omega) only [↓reduceIte, h_let, hg_in, hg_zb, hg_z0, hg_z1, hg_nz, Option.bind_some, if_pos, if_neg, bI_0, bI_n0, nI_add, nI_mul, nI_ltI, nI_leI, nI_eq, nI_clamp, nI_subN, nI_divN, nI_mod2, nI_m1e, nI_em1, nI_m2e, nI_lt0, m1_lt0, m1_lt, m1_le, h_u_at, h_u_off2, h_u_pl, li_0, li_1, li_2, li_3, li_4, li_5, li_6, li_7, li_8, li_9, li_10, li_11, li_12, li_13, li_14, li_15, li_16, li_17, li_18, li_19, li_20, li_21, li_22, li_23, li_24, li_25, li_26, li_27, li_28, li_29, li_30, li_31, li_32, li_40, li_43, li_45, li_47, li_48, li_57, li_59, li_60, li_61, li_62, li_63, li_64, li_80, li_92, li_97, li_99, li_100, li_122, li_123, li_125, li_166, li_201, li_210, li_250, li_255, li_256, li_257, li_258, li_259, li_260, li_261, li_262, li_263, li_264, li_265, li_266, li_267, li_268, li_300, li_500, li_1000, li_12345, li_27720, li_1000000, li_1103515245, ne_m1, ne_m2]
    exact go
  · rw [bI_t]
    rw [if_pos (show (true : Bool) = true from rfl)] at go
    have e1 := nI_lI (n := D 3 (8 * s + c)) (by omega)
    have lb : (27720 : Int64) = lI 27720 := rfl
    rw [lb]
    simp (disch := omega) only [↓reduceIte, h_let, hg_in, hg_zb, hg_z0, hg_z1, hg_nz, Option.bind_some, if_pos, if_neg, bI_0, bI_n0, nI_add, nI_mul, nI_ltI, nI_leI, nI_eq, nI_clamp, nI_subN, nI_divN, nI_mod2, nI_m1e, nI_em1, nI_m2e, nI_lt0, m1_lt0, m1_lt, m1_le, h_u_at, h_u_off2, h_u_pl, li_0, li_1, li_2, li_3, li_4, li_5, li_6, li_7, li_8, li_9, li_10, li_11, li_12, li_13, li_14, li_15, li_16, li_17, li_18, li_19, li_20, li_21, li_22, li_23, li_24, li_25, li_26, li_27, li_28, li_29, li_30, li_31, li_32, li_40, li_43, li_45, li_47, li_48, li_57, li_59, li_60, li_61, li_62, li_63, li_64, li_80, li_92, li_97, li_99, li_100, li_122, li_123, li_125, li_166, li_201, li_210, li_250, li_255, li_256, li_257, li_258, li_259, li_260, li_261, li_262, li_263, li_264, li_265, li_266, li_267, li_268, li_300, li_500, li_1000, li_12345, li_27720, li_1000000, li_1103515245, ne_m1, ne_m2, e3, e1, lI_mul]
    exact go
end Gu
