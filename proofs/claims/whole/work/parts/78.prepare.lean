/-! All plans' answers, the class's side. -/
section Pp
variable {D : rD}
theorem ntOk_of {w : Bool} {k s : Nat} {I I' : hI} {J J' : hJ} (h : ntOk D w k s I J) (h1 : ∀ q : Bool, I' 16 ((if w = true then 0 else 20) + (if q = true then 10 else 0) + s) = I 16 ((if w = true then 0 else 20) + (if q = true then 10 else 0) + s)) (h2 : ∀ q : Bool, J' 14 ((if w = true then 0 else 20) + (if q = true then 10 else 0) + s) = J 14 ((if w = true then 0 else 20) + (if q = true then 10 else 0) + s) ∧ J' 15 ((if w = true then 0 else 20) + (if q = true then 10 else 0) + s) = J 15 ((if w = true then 0 else 20) + (if q = true then 10 else 0) + s)) : ntOk D w k s I' J' := fun q => by
  rw [h1 q, (h2 q).1, (h2 q).2]
  exact h q
/-- what stands while a plan's answers are noted -/
def nsOk (D : rD) (k : Nat) (I : hI) (J : hJ) : Prop := cR D I ∧ plC D k I ∧ bm (I 13 10) (D 0 0) (pSt D k) ∧ rowOk D (pPs D k) I ∧ ∀ i, i < cnt (pPs D k) (D 0 0) → J (21 + i) (cnt (pPs D k) (D 0 0)) = lI (gS D k (pPs D k) i 20) ∧ J (21 + i) (cnt (pPs D k) (D 0 0) + 1) = lI (gS D k (pPs D k) i 21) ∧ J (21 + i) i = lI (gD D k (pPs D k))
theorem nsOk_of {k : Nat} {I I' : hI} {J J' : hJ} (h : nsOk D k I J) (h1 : ∀ a i, a ≠ 16 → I' a i = I a i) (h2 : ∀ a i, a ≠ 14 → a ≠ 15 → J' a i = J a i) (hD : rOk D) : nsOk D k I' J' := by
  have hn := hD.2.1
  have hm := cnt_le (pPs D k) (D 0 0)
  obtain ⟨a, b, c, d, e⟩ := h
  refine ⟨cR_of a (fun c i g1 g2 => h1 c i (by omega)), plC_of b (fun i => h1 18 i (by decide)) (fun i => h1 17 i (by decide)) (h1 13 9 (by decide)), by rw [h1 13 10 (by decide)]; exact c, ⟨by rw [h1 13 11 (by decide)]; exact d.1, fun u hu => by rw [h1 19 u (by decide)]; exact d.2 u hu⟩, fun i hi => ?_⟩
  rw [h2 _ _ (by omega) (by omega), h2 _ _ (by omega) (by omega), h2 _ _ (by omega) (by omega)]
  exact e i hi
theorem pl_note (hD : rOk D) {k s : Nat} (hs : s < D 0 0) (hk : k < 64) {I : hI} {J : hJ} (h : nsOk D k I J) (hpre : ∀ w : Bool, 0 < k → ntOk D w (k - 1) s I J) : ∃ (I' : hI) (J' : hJ), mPl_note (nI k) (nI s) I J = some (I', J') ∧ (∀ a i, (a ≠ 16 ∨ i % 10 ≠ s) → I' a i = I a i) ∧ (∀ a i, ((a ≠ 14 ∧ a ≠ 15) ∨ i % 10 ≠ s) → J' a i = J a i) ∧ ∀ w : Bool, ntOk D w k s I' J' := by
  have hn := hD.2.1
  have hm := cnt_le (pPs D k) (D 0 0)
  obtain ⟨hc, hC, hst, hr, hJ0⟩ := id h
  have ein := ro_isIn hD hc (s := s) (by omega)
  have e1 : decide (s < D 0 0 ∧ 0 < D 1 s) = pIn D s := by
    unfold pIn
    simp [hs]
  rw [e1] at ein
  have een := pl_isEndless hD hc hC hst hs
  have hrow := hr.2 s hs
  have core : ∃ (I' : hI) (J' : hJ), (mPl_noteAnswer (nI 0) (nI k) (nI s) (lI (rU D true k s)) (lI (rL D true k s)) I J).bind (fun q1 => (mPl_noteAnswer (nI 2) (nI k) (nI s) (lI (rU D false k s)) (lI (rL D false k s)) q1.1 q1.2).bind fun q2 => some (q2.1, q2.2)) = some (I', J') ∧ (∀ a i, (a ≠ 16 ∨ i % 10 ≠ s) → I' a i = I a i) ∧ (∀ a i, ((a ≠ 14 ∧ a ≠ 15) ∨ i % 10 ≠ s) → J' a i = J a i) ∧ ∀ w : Bool, ntOk D w k s I' J' := by
    obtain ⟨I1, J1, a1, a2, a3, a4⟩ := pl_noteAnswer hD true hs hk (hpre true)
    simp only [if_true] at a1 a2 a3
    obtain ⟨I2, J2, b1, b2, b3, b4⟩ := pl_noteAnswer hD false hs hk (I := I1) (J := J1) (fun h0 => ntOk_of (hpre false h0) (fun q => a2 16 _ (Or.inr ⟨by cases q <;> simp <;> omega, by cases q <;> simp <;> omega⟩)) (fun q => ⟨a3 14 _ (Or.inr ⟨by cases q <;> simp <;> omega, by cases q <;> simp <;> omega⟩), a3 15 _ (Or.inr ⟨by cases q <;> simp <;> omega, by cases q <;> simp <;> omega⟩)⟩))
    simp only [Bool.false_eq_true, if_false] at b1 b2 b3
    rw [a1, Option.bind_some]
    simp only []
    rw [b1, Option.bind_some]
    refine ⟨I2, J2, rfl, fun a i hh => ?_, fun a i hh => ?_, fun w => ?_⟩
    · rw [b2 a i (by omega), a2 a i (by omega)]
    · rw [b3 a i (by omega), a3 a i (by omega)]
    · cases w
      · exact b4
      · exact ntOk_of a4 (fun q => b2 16 _ (Or.inr ⟨by cases q <;> simp <;> omega, by cases q <;> simp <;> omega⟩)) (fun q => ⟨b3 14 _ (Or.inr ⟨by cases q <;> simp <;> omega, by cases q <;> simp <;> omega⟩), b3 15 _ (Or.inr ⟨by cases q <;> simp <;> omega, by cases q <;> simp <;> omega⟩)⟩)
  have ho : mC_isOutside (nI s) (nI 10) = nI 0 := by
    unfold mC_isOutside
    simp (disch := omega) only [↓reduceIte, h_let, hg_in, hg_zb, hg_z0, hg_z1, hg_nz, Option.bind_some, if_pos, if_neg, bI_0, bI_n0, nI_add, nI_mul, nI_ltI, nI_leI, nI_eq, nI_clamp, nI_subN, nI_divN, nI_mod2, nI_m1e, nI_em1, nI_m2e, nI_lt0, m1_lt0, m1_lt, m1_le, h_u_at, h_u_off2, h_u_pl, li_0, li_1, li_2, li_3, li_4, li_5, li_6, li_7, li_8, li_9, li_10, li_11, li_12, li_13, li_14, li_15, li_16, li_17, li_18, li_19, li_20, li_21, li_22, li_23, li_24, li_25, li_26, li_27, li_28, li_29, li_30, li_31, li_32, li_40, li_43, li_45, li_47, li_48, li_57, li_59, li_60, li_61, li_62, li_63, li_64, li_80, li_92, li_97, li_99, li_100, li_122, li_123, li_125, li_166, li_201, li_210, li_250, li_255, li_256, li_257, li_258, li_259, li_260, li_261, li_262, li_263, li_264, li_265, li_266, li_267, li_268, li_300, li_500, li_1000, li_12345, li_27720, li_1000000, li_1103515245, ne_m1, ne_m2]
  have z0 : (0 : Int64) = lI 0 := rfl
  have z1 : (1 : Int64) = lI 1 := rfl
  unfold mPl_note mPl_note_36 mPl_note_107 mPl_note_129 mPl_note_140
  cases hps : pPs D k s
  · rw [hps] at hrow
    have ho2 : mC_isOutside (-1 : Int32) (nI 10) = nI 1 := rfl
    cases hin : pIn D s
    · rw [hin, bI_f] at ein
      have hen : pEn D k s = true ∨ pEn D k s = false := by cases pEn D k s <;> simp
      rcases hen with hen | hen
      · rw [hen, bI_t] at een
        have r1 : rU D true k s = 1 := by simp [rU, hen]
        have r2 : rL D true k s = 0 := by simp [rL, hen]
        have r3 : rU D false k s = 1 := by simp [rU, hps, hin]
        have r4 : rL D false k s = 1 := by simp [rL, hps]
        rw [r1, r2, r3, r4] at core
        simp (disch := omega) only [↓reduceIte, h_let, hg_in, hg_zb, hg_z0, hg_z1, hg_nz, Option.bind_some, if_pos, if_neg, bI_0, bI_n0, nI_add, nI_mul, nI_ltI, nI_leI, nI_eq, nI_clamp, nI_subN, nI_divN, nI_mod2, nI_m1e, nI_em1, nI_m2e, nI_lt0, m1_lt0, m1_lt, m1_le, h_u_at, h_u_off2, h_u_pl, li_0, li_1, li_2, li_3, li_4, li_5, li_6, li_7, li_8, li_9, li_10, li_11, li_12, li_13, li_14, li_15, li_16, li_17, li_18, li_19, li_20, li_21, li_22, li_23, li_24, li_25, li_26, li_27, li_28, li_29, li_30, li_31, li_32, li_40, li_43, li_45, li_47, li_48, li_57, li_59, li_60, li_61, li_62, li_63, li_64, li_80, li_92, li_97, li_99, li_100, li_122, li_123, li_125, li_166, li_201, li_210, li_250, li_255, li_256, li_257, li_258, li_259, li_260, li_261, li_262, li_263, li_264, li_265, li_266, li_267, li_268, li_300, li_500, li_1000, li_12345, li_27720, li_1000000, li_1103515245, ne_m1, ne_m2, ho, hrow, Bool.false_eq_true, ein, ho2, een, z0, z1]
        exact core
      · rw [hen, bI_f] at een
        have r1 : rU D true k s = 0 := by simp [rU, hen, hps]
        have r2 : rL D true k s = 1 := by simp [rL, hen, hps]
        have r3 : rU D false k s = 1 := by simp [rU, hps, hin]
        have r4 : rL D false k s = 1 := by simp [rL, hps]
        rw [r1, r2, r3, r4] at core
        simp (disch := omega) only [↓reduceIte, h_let, hg_in, hg_zb, hg_z0, hg_z1, hg_nz, Option.bind_some, if_pos, if_neg, bI_0, bI_n0, nI_add, nI_mul, nI_ltI, nI_leI, nI_eq, nI_clamp, nI_subN, nI_divN, nI_mod2, nI_m1e, nI_em1, nI_m2e, nI_lt0, m1_lt0, m1_lt, m1_le, h_u_at, h_u_off2, h_u_pl, li_0, li_1, li_2, li_3, li_4, li_5, li_6, li_7, li_8, li_9, li_10, li_11, li_12, li_13, li_14, li_15, li_16, li_17, li_18, li_19, li_20, li_21, li_22, li_23, li_24, li_25, li_26, li_27, li_28, li_29, li_30, li_31, li_32, li_40, li_43, li_45, li_47, li_48, li_57, li_59, li_60, li_61, li_62, li_63, li_64, li_80, li_92, li_97, li_99, li_100, li_122, li_123, li_125, li_166, li_201, li_210, li_250, li_255, li_256, li_257, li_258, li_259, li_260, li_261, li_262, li_263, li_264, li_265, li_266, li_267, li_268, li_300, li_500, li_1000, li_12345, li_27720, li_1000000, li_1103515245, ne_m1, ne_m2, ho, hrow, Bool.false_eq_true, ein, ho2, een, z0, z1]
        exact core
    · rw [hin, bI_t] at ein
      have hen : pEn D k s = true ∨ pEn D k s = false := by cases pEn D k s <;> simp
      rcases hen with hen | hen
      · rw [hen, bI_t] at een
        have r1 : rU D true k s = 1 := by simp [rU, hen]
        have r2 : rL D true k s = 0 := by simp [rL, hen]
        have r3 : rU D false k s = 0 := by simp [rU, hps, hin]
        have r4 : rL D false k s = 1 := by simp [rL, hps]
        rw [r1, r2, r3, r4] at core
        simp (disch := omega) only [↓reduceIte, h_let, hg_in, hg_zb, hg_z0, hg_z1, hg_nz, Option.bind_some, if_pos, if_neg, bI_0, bI_n0, nI_add, nI_mul, nI_ltI, nI_leI, nI_eq, nI_clamp, nI_subN, nI_divN, nI_mod2, nI_m1e, nI_em1, nI_m2e, nI_lt0, m1_lt0, m1_lt, m1_le, h_u_at, h_u_off2, h_u_pl, li_0, li_1, li_2, li_3, li_4, li_5, li_6, li_7, li_8, li_9, li_10, li_11, li_12, li_13, li_14, li_15, li_16, li_17, li_18, li_19, li_20, li_21, li_22, li_23, li_24, li_25, li_26, li_27, li_28, li_29, li_30, li_31, li_32, li_40, li_43, li_45, li_47, li_48, li_57, li_59, li_60, li_61, li_62, li_63, li_64, li_80, li_92, li_97, li_99, li_100, li_122, li_123, li_125, li_166, li_201, li_210, li_250, li_255, li_256, li_257, li_258, li_259, li_260, li_261, li_262, li_263, li_264, li_265, li_266, li_267, li_268, li_300, li_500, li_1000, li_12345, li_27720, li_1000000, li_1103515245, ne_m1, ne_m2, ho, hrow, Bool.false_eq_true, ein, ho2, een, z0, z1]
        exact core
      · rw [hen, bI_f] at een
        have r1 : rU D true k s = 0 := by simp [rU, hen, hps]
        have r2 : rL D true k s = 1 := by simp [rL, hen, hps]
        have r3 : rU D false k s = 0 := by simp [rU, hps, hin]
        have r4 : rL D false k s = 1 := by simp [rL, hps]
        rw [r1, r2, r3, r4] at core
        simp (disch := omega) only [↓reduceIte, h_let, hg_in, hg_zb, hg_z0, hg_z1, hg_nz, Option.bind_some, if_pos, if_neg, bI_0, bI_n0, nI_add, nI_mul, nI_ltI, nI_leI, nI_eq, nI_clamp, nI_subN, nI_divN, nI_mod2, nI_m1e, nI_em1, nI_m2e, nI_lt0, m1_lt0, m1_lt, m1_le, h_u_at, h_u_off2, h_u_pl, li_0, li_1, li_2, li_3, li_4, li_5, li_6, li_7, li_8, li_9, li_10, li_11, li_12, li_13, li_14, li_15, li_16, li_17, li_18, li_19, li_20, li_21, li_22, li_23, li_24, li_25, li_26, li_27, li_28, li_29, li_30, li_31, li_32, li_40, li_43, li_45, li_47, li_48, li_57, li_59, li_60, li_61, li_62, li_63, li_64, li_80, li_92, li_97, li_99, li_100, li_122, li_123, li_125, li_166, li_201, li_210, li_250, li_255, li_256, li_257, li_258, li_259, li_260, li_261, li_262, li_263, li_264, li_265, li_266, li_267, li_268, li_300, li_500, li_1000, li_12345, li_27720, li_1000000, li_1103515245, ne_m1, ne_m2, ho, hrow, Bool.false_eq_true, ein, ho2, een, z0, z1]
        exact core
  · rw [hps] at hrow
    have hin : pIn D s = true := hfPs s hps
    rw [hin, bI_t] at ein
    have hlt := cnt_lt (pPs D k) hs hps
    obtain ⟨j1, j2, j3⟩ := hJ0 _ hlt
    have ho2 : mC_isOutside (nI (cnt (pPs D k) s)) (nI 10) = nI 0 := by
      unfold mC_isOutside
      simp (disch := omega) only [↓reduceIte, h_let, hg_in, hg_zb, hg_z0, hg_z1, hg_nz, Option.bind_some, if_pos, if_neg, bI_0, bI_n0, nI_add, nI_mul, nI_ltI, nI_leI, nI_eq, nI_clamp, nI_subN, nI_divN, nI_mod2, nI_m1e, nI_em1, nI_m2e, nI_lt0, m1_lt0, m1_lt, m1_le, h_u_at, h_u_off2, h_u_pl, li_0, li_1, li_2, li_3, li_4, li_5, li_6, li_7, li_8, li_9, li_10, li_11, li_12, li_13, li_14, li_15, li_16, li_17, li_18, li_19, li_20, li_21, li_22, li_23, li_24, li_25, li_26, li_27, li_28, li_29, li_30, li_31, li_32, li_40, li_43, li_45, li_47, li_48, li_57, li_59, li_60, li_61, li_62, li_63, li_64, li_80, li_92, li_97, li_99, li_100, li_122, li_123, li_125, li_166, li_201, li_210, li_250, li_255, li_256, li_257, li_258, li_259, li_260, li_261, li_262, li_263, li_264, li_265, li_266, li_267, li_268, li_300, li_500, li_1000, li_12345, li_27720, li_1000000, li_1103515245, ne_m1, ne_m2]
    have ho3 : mC_isOutside (nI (cnt (pPs D k) (D 0 0) + 1)) (nI 12) = nI 0 := by
      unfold mC_isOutside
      simp (disch := omega) only [↓reduceIte, h_let, hg_in, hg_zb, hg_z0, hg_z1, hg_nz, Option.bind_some, if_pos, if_neg, bI_0, bI_n0, nI_add, nI_mul, nI_ltI, nI_leI, nI_eq, nI_clamp, nI_subN, nI_divN, nI_mod2, nI_m1e, nI_em1, nI_m2e, nI_lt0, m1_lt0, m1_lt, m1_le, h_u_at, h_u_off2, h_u_pl, li_0, li_1, li_2, li_3, li_4, li_5, li_6, li_7, li_8, li_9, li_10, li_11, li_12, li_13, li_14, li_15, li_16, li_17, li_18, li_19, li_20, li_21, li_22, li_23, li_24, li_25, li_26, li_27, li_28, li_29, li_30, li_31, li_32, li_40, li_43, li_45, li_47, li_48, li_57, li_59, li_60, li_61, li_62, li_63, li_64, li_80, li_92, li_97, li_99, li_100, li_122, li_123, li_125, li_166, li_201, li_210, li_250, li_255, li_256, li_257, li_258, li_259, li_260, li_261, li_262, li_263, li_264, li_265, li_266, li_267, li_268, li_300, li_500, li_1000, li_12345, li_27720, li_1000000, li_1103515245, ne_m1, ne_m2]
    have hen : pEn D k s = true ∨ pEn D k s = false := by cases pEn D k s <;> simp
    have r3 : rU D false k s = gS D k (pPs D k) (cnt (pPs D k) s) 21 := by simp [rU, hps]
    have r4 : rL D false k s = gD D k (pPs D k) := by simp [rL, hps]
    rcases hen with hen | hen
    · rw [hen, bI_t] at een
      have r1 : rU D true k s = 1 := by simp [rU, hen]
      have r2 : rL D true k s = 0 := by simp [rL, hen]
      rw [r1, r2, r3, r4] at core
      simp (disch := omega) only [↓reduceIte, h_let, hg_in, hg_zb, hg_z0, hg_z1, hg_nz, Option.bind_some, if_pos, if_neg, bI_0, bI_n0, nI_add, nI_mul, nI_ltI, nI_leI, nI_eq, nI_clamp, nI_subN, nI_divN, nI_mod2, nI_m1e, nI_em1, nI_m2e, nI_lt0, m1_lt0, m1_lt, m1_le, h_u_at, h_u_off2, h_u_pl, li_0, li_1, li_2, li_3, li_4, li_5, li_6, li_7, li_8, li_9, li_10, li_11, li_12, li_13, li_14, li_15, li_16, li_17, li_18, li_19, li_20, li_21, li_22, li_23, li_24, li_25, li_26, li_27, li_28, li_29, li_30, li_31, li_32, li_40, li_43, li_45, li_47, li_48, li_57, li_59, li_60, li_61, li_62, li_63, li_64, li_80, li_92, li_97, li_99, li_100, li_122, li_123, li_125, li_166, li_201, li_210, li_250, li_255, li_256, li_257, li_258, li_259, li_260, li_261, li_262, li_263, li_264, li_265, li_266, li_267, li_268, li_300, li_500, li_1000, li_12345, li_27720, li_1000000, li_1103515245, ne_m1, ne_m2, ho, hrow, ein, ho2, hr.1, ho3, j1, j2, j3, een, z0, z1]
      exact core
    · rw [hen, bI_f] at een
      have r1 : rU D true k s = gS D k (pPs D k) (cnt (pPs D k) s) 20 := by simp [rU, hen, hps]
      have r2 : rL D true k s = gD D k (pPs D k) := by simp [rL, hen, hps]
      rw [r1, r2, r3, r4] at core
      simp (disch := omega) only [↓reduceIte, h_let, hg_in, hg_zb, hg_z0, hg_z1, hg_nz, Option.bind_some, if_pos, if_neg, bI_0, bI_n0, nI_add, nI_mul, nI_ltI, nI_leI, nI_eq, nI_clamp, nI_subN, nI_divN, nI_mod2, nI_m1e, nI_em1, nI_m2e, nI_lt0, m1_lt0, m1_lt, m1_le, h_u_at, h_u_off2, h_u_pl, li_0, li_1, li_2, li_3, li_4, li_5, li_6, li_7, li_8, li_9, li_10, li_11, li_12, li_13, li_14, li_15, li_16, li_17, li_18, li_19, li_20, li_21, li_22, li_23, li_24, li_25, li_26, li_27, li_28, li_29, li_30, li_31, li_32, li_40, li_43, li_45, li_47, li_48, li_57, li_59, li_60, li_61, li_62, li_63, li_64, li_80, li_92, li_97, li_99, li_100, li_122, li_123, li_125, li_166, li_201, li_210, li_250, li_255, li_256, li_257, li_258, li_259, li_260, li_261, li_262, li_263, li_264, li_265, li_266, li_267, li_268, li_300, li_500, li_1000, li_12345, li_27720, li_1000000, li_1103515245, ne_m1, ne_m2, ho, hrow, ein, ho2, hr.1, ho3, j1, j2, j3, een, z0, z1]
      exact core
theorem pl_notes_L (hD : rOk D) {k : Nat} (hk : k < 64) (k15 : _) : ∀ (r s fuel : Nat) (I : hI) (J : hJ), s + r = D 0 0 → r < fuel → nsOk D k I J → (∀ u, u < s → ∀ w : Bool, ntOk D w k u I J) → (∀ u, s ≤ u → u < D 0 0 → ∀ w : Bool, 0 < k → ntOk D w (k - 1) u I J) → ∃ (I' : hI) (J' : hJ), mPl_prepare_L51 k15 fuel (nI k) (nI s) I J = k15 (nI (k + 1)) I' J' ∧ (∀ a i, a ≠ 16 → I' a i = I a i) ∧ (∀ a i, a ≠ 14 → a ≠ 15 → J' a i = J a i) ∧ ∀ u, u < D 0 0 → ∀ w : Bool, ntOk D w k u I' J' := by
  have hn := hD.2.1
  intro r
  induction r with
  | zero =>
    intro s fuel I J hs hf h h1 h2
    obtain ⟨fuel, rfl⟩ : ∃ m, fuel = m + 1 := ⟨fuel - 1, by omega⟩
    unfold mPl_prepare_L51 mPl_prepare_B51
    rw [h.1.1]
    simp (disch := omega) only [↓reduceIte, h_let, hg_in, hg_zb, hg_z0, hg_z1, hg_nz, Option.bind_some, if_pos, if_neg, bI_0, bI_n0, nI_add, nI_mul, nI_ltI, nI_leI, nI_eq, nI_clamp, nI_subN, nI_divN, nI_mod2, nI_m1e, nI_em1, nI_m2e, nI_lt0, m1_lt0, m1_lt, m1_le, h_u_at, h_u_off2, h_u_pl, li_0, li_1, li_2, li_3, li_4, li_5, li_6, li_7, li_8, li_9, li_10, li_11, li_12, li_13, li_14, li_15, li_16, li_17, li_18, li_19, li_20, li_21, li_22, li_23, li_24, li_25, li_26, li_27, li_28, li_29, li_30, li_31, li_32, li_40, li_43, li_45, li_47, li_48, li_57, li_59, li_60, li_61, li_62, li_63, li_64, li_80, li_92, li_97, li_99, li_100, li_122, li_123, li_125, li_166, li_201, li_210, li_250, li_255, li_256, li_257, li_258, li_259, li_260, li_261, li_262, li_263, li_264, li_265, li_266, li_267, li_268, li_300, li_500, li_1000, li_12345, li_27720, li_1000000, li_1103515245, ne_m1, ne_m2]
    exact ⟨I, J, rfl, fun _ _ _ => rfl, fun _ _ _ _ => rfl, fun u hu => h1 u (by omega)⟩
  | succ r ih =>
    intro s fuel I J hs hf h h1 h2
    obtain ⟨fuel, rfl⟩ : ∃ m, fuel = m + 1 := ⟨fuel - 1, by omega⟩
    obtain ⟨I1, J1, a1, a2, a3, a4⟩ := pl_note hD (s := s) (by omega) hk h (fun w h0 => h2 s (Nat.le_refl _) (by omega) w h0)
    have keep : ∀ (w : Bool) (k' u : Nat), u < D 0 0 → u ≠ s → ntOk D w k' u I J → ntOk D w k' u I1 J1 := fun w k' u hu hne ho => ntOk_of ho (fun q => a2 16 _ (Or.inr (by split <;> split <;> omega))) (fun q => ⟨a3 14 _ (Or.inr (by split <;> split <;> omega)), a3 15 _ (Or.inr (by split <;> split <;> omega))⟩)
    obtain ⟨I2, J2, b1, b2, b3, b4⟩ := ih (s + 1) fuel I1 J1 (by omega) (by omega) (nsOk_of h (fun a i hh => a2 a i (Or.inl hh)) (fun a i g1 g2 => a3 a i (Or.inl ⟨g1, g2⟩)) hD) (fun u hu w => by
      by_cases e : u = s
      · subst e; exact a4 w
      · exact keep w k u (by omega) e (h1 u (by omega) w)) (fun u g1 g2 w h0 => keep w _ u g2 (by omega) (h2 u (by omega) g2 w h0))
    unfold mPl_prepare_L51 mPl_prepare_B51
    rw [h.1.1]
    simp (disch := omega) only [↓reduceIte, h_let, hg_in, hg_zb, hg_z0, hg_z1, hg_nz, Option.bind_some, if_pos, if_neg, bI_0, bI_n0, nI_add, nI_mul, nI_ltI, nI_leI, nI_eq, nI_clamp, nI_subN, nI_divN, nI_mod2, nI_m1e, nI_em1, nI_m2e, nI_lt0, m1_lt0, m1_lt, m1_le, h_u_at, h_u_off2, h_u_pl, li_0, li_1, li_2, li_3, li_4, li_5, li_6, li_7, li_8, li_9, li_10, li_11, li_12, li_13, li_14, li_15, li_16, li_17, li_18, li_19, li_20, li_21, li_22, li_23, li_24, li_25, li_26, li_27, li_28, li_29, li_30, li_31, li_32, li_40, li_43, li_45, li_47, li_48, li_57, li_59, li_60, li_61, li_62, li_63, li_64, li_80, li_92, li_97, li_99, li_100, li_122, li_123, li_125, li_166, li_201, li_210, li_250, li_255, li_256, li_257, li_258, li_259, li_260, li_261, li_262, li_263, li_264, li_265, li_266, li_267, li_268, li_300, li_500, li_1000, li_12345, li_27720, li_1000000, li_1103515245, ne_m1, ne_m2, a1, b1]
    exact ⟨I2, J2, rfl, fun a i hh => by rw [b2 a i hh, a2 a i (Or.inl hh)], fun a i g1 g2 => by rw [b3 a i g1 g2, a3 a i (Or.inl ⟨g1, g2⟩)], b4⟩
/-- what the class keeps of K plans -/
def plOk (D : rD) (K : Nat) (I : hI) (J : hJ) : Prop := ∀ u, u < D 0 0 → ∀ w : Bool, ntOk D w (K - 1) u I J
theorem pl_prep_L (hD : rOk D) {K : Nat} (hK1 : 1 ≤ K) (hK : K ≤ 64) : ∀ (r k fuel : Nat) (I : hI) (J : hJ), k + r = K → r < fuel → cR D I → I 7 9 = nI K → (0 < k → ∀ u, u < D 0 0 → ∀ w : Bool, ntOk D w (k - 1) u I J) → ∃ (I' : hI) (J' : hJ), mPl_prepare_L15 fuel (nI k) I J = some (I', J') ∧ (∀ a i, (a < 13 ∨ 19 < a ∨ (a = 13 ∧ i < 9)) → I' a i = I a i) ∧ (∀ a i, (a < 14 ∨ 30 < a) → J' a i = J a i) ∧ plOk D K I' J' := by
  have hn := hD.2.1
  intro r
  induction r with
  | zero =>
    intro k fuel I J hk hf h h9 ho
    obtain ⟨fuel, rfl⟩ : ∃ m, fuel = m + 1 := ⟨fuel - 1, by omega⟩
    unfold mPl_prepare_L15 mPl_prepare_B15
    rw [h9]
    simp (disch := omega) only [↓reduceIte, h_let, hg_in, hg_zb, hg_z0, hg_z1, hg_nz, Option.bind_some, if_pos, if_neg, bI_0, bI_n0, nI_add, nI_mul, nI_ltI, nI_leI, nI_eq, nI_clamp, nI_subN, nI_divN, nI_mod2, nI_m1e, nI_em1, nI_m2e, nI_lt0, m1_lt0, m1_lt, m1_le, h_u_at, h_u_off2, h_u_pl, li_0, li_1, li_2, li_3, li_4, li_5, li_6, li_7, li_8, li_9, li_10, li_11, li_12, li_13, li_14, li_15, li_16, li_17, li_18, li_19, li_20, li_21, li_22, li_23, li_24, li_25, li_26, li_27, li_28, li_29, li_30, li_31, li_32, li_40, li_43, li_45, li_47, li_48, li_57, li_59, li_60, li_61, li_62, li_63, li_64, li_80, li_92, li_97, li_99, li_100, li_122, li_123, li_125, li_166, li_201, li_210, li_250, li_255, li_256, li_257, li_258, li_259, li_260, li_261, li_262, li_263, li_264, li_265, li_266, li_267, li_268, li_300, li_500, li_1000, li_12345, li_27720, li_1000000, li_1103515245, ne_m1, ne_m2]
    refine ⟨I, J, rfl, fun _ _ _ => rfl, fun _ _ _ => rfl, ?_⟩
    have := ho (by omega)
    have e : k = K := by omega
    rw [e] at this
    exact this
  | succ r ih =>
    intro k fuel I J hk hf h h9 ho
    obtain ⟨fuel, rfl⟩ : ∃ m, fuel = m + 1 := ⟨fuel - 1, by omega⟩
    obtain ⟨I1, a1, a2, a3⟩ := pl_choosePlan hD (p := k) (by omega) h
    have h1 : cR D I1 := cR_of h (fun c i g1 g2 => a2 c i (by omega) (by omega) (by omega))
    obtain ⟨I2, b1, b2, b3⟩ := pl_findStaying hD h1 a3
    have h2 : cR D I2 := cR_of h1 (fun c i g1 g2 => b2 c i (by omega))
    have hC2 : plC D k I2 := plC_of a3 (fun i => b2 18 i (by omega)) (fun i => b2 17 i (by omega)) (b2 13 9 (by omega))
    obtain ⟨I3, J3, c1, c2, c3, c4, c5⟩ := pl_makeRows hD h2 hC2 b3 J
    obtain ⟨J4, d1, d2, d3⟩ := pl_solve hD (p := k) (f := pPs D k) (fun _ hh => hh) c3.1 c5
    have h3 : cR D I3 := cR_of h2 (fun c i g1 g2 => c2 c i (by omega) (by omega))
    have hns : nsOk D k I3 J4 := ⟨h3, plC_of hC2 (fun i => c2 18 i (by omega) (by omega)) (fun i => c2 17 i (by omega) (by omega)) (c2 13 9 (by omega) (by omega)), by rw [c2 13 10 (by omega) (by omega)]; exact b3, c3, d3⟩
    have fI : ∀ a i, (a < 13 ∨ 19 < a ∨ (a = 13 ∧ i < 9) ∨ a = 16) → I3 a i = I a i := fun a i hh => by rw [c2 a i (by omega) (by omega), b2 a i (by omega), a2 a i (by omega) (by omega) (by omega)]
    have fJ : ∀ a i, (a < 21 ∨ 30 < a) → J4 a i = J a i := fun a i hh => by rw [d2 a i hh, c4 a i hh]
    obtain ⟨I5, J5, e1, e2, e3, e4⟩ := pl_notes_L hD (k := k) (by omega) (mPl_prepare_L15 fuel) (D 0 0) 0 hF I3 J4 (by omega) (by unfold hF; omega) hns (fun u hu => by omega) (fun u _ hu w h0 => ntOk_of (ho h0 u hu w) (fun q => fI 16 _ (by omega)) (fun q => ⟨fJ 14 _ (by omega), fJ 15 _ (by omega)⟩))
    obtain ⟨I6, J6, g1, g2, g3, g4⟩ := ih (k + 1) fuel I5 J5 (by omega) (by omega) (cR_of h (fun c i q1 q2 => by rw [e2 c i (by omega), fI c i (by omega)])) (by rw [e2 7 9 (by omega), fI 7 9 (by omega)]; exact h9) (fun _ => by rw [Nat.add_sub_cancel]; exact e4)
    unfold mPl_prepare_L15 mPl_prepare_B15
    rw [h9]
    simp (disch := omega) only [↓reduceIte, h_let, hg_in, hg_zb, hg_z0, hg_z1, hg_nz, Option.bind_some, if_pos, if_neg, bI_0, bI_n0, nI_add, nI_mul, nI_ltI, nI_leI, nI_eq, nI_clamp, nI_subN, nI_divN, nI_mod2, nI_m1e, nI_em1, nI_m2e, nI_lt0, m1_lt0, m1_lt, m1_le, h_u_at, h_u_off2, h_u_pl, li_0, li_1, li_2, li_3, li_4, li_5, li_6, li_7, li_8, li_9, li_10, li_11, li_12, li_13, li_14, li_15, li_16, li_17, li_18, li_19, li_20, li_21, li_22, li_23, li_24, li_25, li_26, li_27, li_28, li_29, li_30, li_31, li_32, li_40, li_43, li_45, li_47, li_48, li_57, li_59, li_60, li_61, li_62, li_63, li_64, li_80, li_92, li_97, li_99, li_100, li_122, li_123, li_125, li_166, li_201, li_210, li_250, li_255, li_256, li_257, li_258, li_259, li_260, li_261, li_262, li_263, li_264, li_265, li_266, li_267, li_268, li_300, li_500, li_1000, li_12345, li_27720, li_1000000, li_1103515245, ne_m1, ne_m2, a1, b1, c1, d1, e1, g1]
    exact ⟨I6, J6, rfl, fun a i hh => by rw [g2 a i hh, e2 a i (by omega), fI a i (by omega)], fun a i hh => by rw [g3 a i hh, e3 a i (by omega) (by omega), fJ a i (by omega)], g4⟩
/-- the plans' cache: ready or not, and right if it is -/
def plRdy (D : rD) (K : Nat) (I : hI) (J : hJ) : Prop := I 13 1 = nI 0 ∨ (I 13 1 = nI 1 ∧ plOk D K I J)
theorem pl_prepare (hD : rOk D) {K : Nat} (hK1 : 1 ≤ K) (hK : K ≤ 64) {I : hI} {J : hJ} (h : cR D I) (h9 : I 7 9 = nI K) (hr : plRdy D K I J) : ∃ (I' : hI) (J' : hJ), mPl_prepare I J = some (I', J') ∧ (∀ a i, (a < 13 ∨ 19 < a) → I' a i = I a i) ∧ (∀ a i, (a < 14 ∨ 30 < a) → J' a i = J a i) ∧ I' 13 1 = nI 1 ∧ plOk D K I' J' := by
  unfold mPl_prepare
  rcases hr with hr | ⟨hr, ho⟩
  · obtain ⟨I', J', a1, a2, a3, a4⟩ := pl_prep_L hD hK1 hK K 0 hF (h_u I 13 1 (nI 1)) J (by omega) (by unfold hF; omega) (cR_of h (fun c i g1 g2 => h_u_off2 _ _ _ _ (by omega))) (by rw [h_u_off2 _ _ _ _ (by decide)]; exact h9) (fun h0 => by omega)
    simp (disch := omega) only [↓reduceIte, h_let, hg_in, hg_zb, hg_z0, hg_z1, hg_nz, Option.bind_some, if_pos, if_neg, bI_0, bI_n0, nI_add, nI_mul, nI_ltI, nI_leI, nI_eq, nI_clamp, nI_subN, nI_divN, nI_mod2, nI_m1e, nI_em1, nI_m2e, nI_lt0, m1_lt0, m1_lt, m1_le, h_u_at, h_u_off2, h_u_pl, li_0, li_1, li_2, li_3, li_4, li_5, li_6, li_7, li_8, li_9, li_10, li_11, li_12, li_13, li_14, li_15, li_16, li_17, li_18, li_19, li_20, li_21, li_22, li_23, li_24, li_25, li_26, li_27, li_28, li_29, li_30, li_31, li_32, li_40, li_43, li_45, li_47, li_48, li_57, li_59, li_60, li_61, li_62, li_63, li_64, li_80, li_92, li_97, li_99, li_100, li_122, li_123, li_125, li_166, li_201, li_210, li_250, li_255, li_256, li_257, li_258, li_259, li_260, li_261, li_262, li_263, li_264, li_265, li_266, li_267, li_268, li_300, li_500, li_1000, li_12345, li_27720, li_1000000, li_1103515245, ne_m1, ne_m2, hr, a1]
    exact ⟨I', J', rfl, fun a i hh => by rw [a2 a i (by omega), h_u_off2 _ _ _ _ (by omega)], a3, by rw [a2 13 1 (by omega), h_u_at], a4⟩
  · simp (disch := omega) only [↓reduceIte, h_let, hg_in, hg_zb, hg_z0, hg_z1, hg_nz, Option.bind_some, if_pos, if_neg, bI_0, bI_n0, nI_add, nI_mul, nI_ltI, nI_leI, nI_eq, nI_clamp, nI_subN, nI_divN, nI_mod2, nI_m1e, nI_em1, nI_m2e, nI_lt0, m1_lt0, m1_lt, m1_le, h_u_at, h_u_off2, h_u_pl, li_0, li_1, li_2, li_3, li_4, li_5, li_6, li_7, li_8, li_9, li_10, li_11, li_12, li_13, li_14, li_15, li_16, li_17, li_18, li_19, li_20, li_21, li_22, li_23, li_24, li_25, li_26, li_27, li_28, li_29, li_30, li_31, li_32, li_40, li_43, li_45, li_47, li_48, li_57, li_59, li_60, li_61, li_62, li_63, li_64, li_80, li_92, li_97, li_99, li_100, li_122, li_123, li_125, li_166, li_201, li_210, li_250, li_255, li_256, li_257, li_258, li_259, li_260, li_261, li_262, li_263, li_264, li_265, li_266, li_267, li_268, li_300, li_500, li_1000, li_12345, li_27720, li_1000000, li_1103515245, ne_m1, ne_m2, hr]
    exact ⟨I, J, rfl, fun _ _ _ => rfl, fun _ _ _ => rfl, hr, ho⟩
end Pp
