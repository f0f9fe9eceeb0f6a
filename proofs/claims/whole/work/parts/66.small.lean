/-! Small calls. -/
def refu (Ic Im : hI) : Prop := ∀ i, i < 3 → Ic 60 i = Im 42 i
/-- nothing but counts of refusals (and the mark of a throw) may have changed -/
def onlyR (Ic Ic' Im Im' : hI) : Prop := (∀ c i, c ≠ 60 → Ic' c i = Ic c i) ∧ (∀ c i, c ≠ 42 → (c ≠ 0 ∨ i ≠ 0) → Im' c i = Im c i) ∧ refu Ic' Im'
theorem onlyR_same {Ic Im : hI} (h : refu Ic Im) (x : Int32) : onlyR Ic Ic Im (h_u Im 0 0 x) := by
  refine ⟨fun _ _ _ => rfl, fun c i h1 h2 => ?_, fun i hi => ?_⟩
  · rcases h2 with h2 | h2
    · exact h_u_off2 _ _ _ _ h2
    · by_cases e : c = 0
      · subst e; exact h_u_pl _ _ _ h2
      · exact h_u_off2 _ _ _ _ e
  · rw [h_u_off2 _ _ _ _ (by decide)]; exact h i hi
theorem onlyR_bump {Ic Im : hI} (h : refu Ic Im) (x : Int32) {k : Nat} (hk : k < 3) : onlyR Ic (h_u Ic 60 k (Ic 60 k + nI 1)) Im (h_u (h_u Im 0 0 x) 42 k (h_u Im 0 0 x 42 k + nI 1)) := by
  refine ⟨fun c i hc => h_u_off2 _ _ _ _ hc, fun c i h1 h2 => ?_, fun i hi => ?_⟩
  · rw [h_u_off2 _ _ _ _ h1]
    exact (onlyR_same h x).2.1 c i h1 h2
  · rw [h_u_off2 _ _ _ _ (by decide : (42 : Nat) ≠ 0)]
    by_cases e : i = k
    · subst e; rw [h_u_at, h_u_at, h i hi]
    · rw [h_u_pl _ _ _ e, h_u_pl _ _ _ e, h_u_off2 _ _ _ _ (by decide)]
      exact h i hi
/-- the mark may be set behind it -/
theorem onlyR_mark {Ic Ic' Im Im' : hI} (h : onlyR Ic Ic' Im Im') (x : Int32) : onlyR Ic Ic' Im (h_u Im' 0 0 x) := by
  refine ⟨h.1, fun c i h1 h2 => ?_, fun i hi => ?_⟩
  · rw [← h.2.1 c i h1 h2]
    rcases h2 with h2 | h2
    · exact h_u_off2 _ _ _ _ h2
    · by_cases e : c = 0
      · subst e; exact h_u_pl _ _ _ h2
      · exact h_u_off2 _ _ _ _ e
  · rw [h_u_off2 _ _ _ _ (by decide)]; exact h.2.2 i hi
theorem onlyR_bump0 {Ic Im : hI} (h : refu Ic Im) {k : Nat} (hk : k < 3) : onlyR Ic (h_u Ic 60 k (Ic 60 k + nI 1)) Im (h_u Im 42 k (Im 42 k + nI 1)) := by
  refine ⟨fun c i hc => h_u_off2 _ _ _ _ hc, fun c i h1 h2 => h_u_off2 _ _ _ _ h1, fun i hi => ?_⟩
  by_cases e : i = k
  · subst e; rw [h_u_at, h_u_at, h i hi]
  · rw [h_u_pl _ _ _ e, h_u_pl _ _ _ e]
    exact h i hi
theorem onlyR_id {Ic Im : hI} (h : refu Ic Im) : onlyR Ic Ic Im Im := ⟨fun _ _ _ => rfl, fun _ _ _ _ => rfl, h⟩
/-- a loop, or none -/
def flagL (hl : Bool) (D : rD) (Ic Im : hI) : Prop := Ic 0 11 = bI hl ∧ Im 0 37 = bI hl ∧ (hl = true → rOk D ∧ cR D Ic ∧ mR D Im)
theorem mR_mark {D : rD} {I : hI} (h : mR D I) (x : Int32) : mR D (h_u I 0 0 x) := by
  unfold mR at h ⊢
  simp (disch := omega) only [h_u_off2, h_u_pl]
  exact h
theorem m_noState (v1 : Int32) {I : hI} (h41 : I 0 41 = nI 0) : mM_isState v1 I = some (nI 0) := by
  unfold mM_isState
  rw [h41]
  rcases range_split v1 (n := 0) (by decide) with ⟨j, h1, _⟩ | ⟨h1, h2, h3⟩
  · omega
  · rw [li_1, h3]
    exact hg_z0 _
theorem m_isStateT (v : Int32) (I : hI) : ∃ z, mM_isState v I = some z := by
  unfold mM_isState
  generalize hz : mM_in v.toInt64 0 (I 0 41 - 1).toInt64 = z
  have : z = 0 ∨ z = 1 := by rw [← hz]; unfold mM_in; split <;> (try split) <;> simp
  rcases this with rfl | rfl
  · exact ⟨0, hg_z0 _⟩
  · exact ⟨1, hg_z1 _⟩
theorem m_isChoiceT (v1 v2 : Int32) (I : hI) (h : mM_isState v1 I = some (nI 0)) : mM_isChoice v1 v2 I = some (nI 0) := by
  unfold mM_isChoice
  rw [h, Option.bind_some, if_pos (by decide)]
  rfl
theorem pr_choices {hl : Bool} {D : rD} {Ic Im : hI} (hf : flagL hl D Ic Im) (hr : refu Ic Im) (v : Int32) : ∃ (a : Int32) (Ic' Im' : hI), mC_choices v Ic = some (a, Ic') ∧ mM_choices v Im = some (a, Im') ∧ onlyR Ic Ic' Im Im' := by
  obtain ⟨f1, f2, f3⟩ := hf
  have g2 : h_u Im 0 0 (nI 0) 0 37 = bI hl := by rw [h_u_pl _ _ _ (by decide)]; exact f2
  unfold mC_choices mC_choices_13 mM_choices
  cases hl
  · have f1 : Ic 0 11 = nI 0 := f1
    have r0 : ∀ v1 v2, mM_isRefused v1 v2 (h_u Im 0 0 (nI 0)) = _ := fun v1 v2 => m_ref0 g2
    obtain ⟨z, hz⟩ := m_isStateT v (h_u Im 0 0 (nI 0))
    simp (disch := omega) only [↓reduceIte, h_let, hg_in, hg_zb, hg_z0, hg_z1, hg_nz, Option.bind_some, if_pos, if_neg, bI_0, bI_n0, nI_add, nI_mul, nI_ltI, nI_leI, nI_eq, nI_clamp, nI_subN, nI_divN, nI_mod2, nI_m1e, nI_em1, nI_m2e, nI_lt0, m1_lt0, m1_lt, m1_le, h_u_at, h_u_off2, h_u_pl, li_0, li_1, li_2, li_3, li_4, li_5, li_6, li_7, li_8, li_9, li_10, li_11, li_12, li_13, li_14, li_15, li_16, li_17, li_18, li_19, li_20, li_21, li_22, li_23, li_24, li_25, li_26, li_27, li_28, li_29, li_30, li_31, li_32, li_40, li_43, li_45, li_47, li_48, li_57, li_59, li_60, li_61, li_62, li_63, li_64, li_80, li_92, li_97, li_99, li_100, li_122, li_123, li_125, li_166, li_201, li_210, li_250, li_255, li_256, li_257, li_258, li_259, li_260, li_261, li_262, li_263, li_264, li_265, li_266, li_267, li_268, li_300, li_500, li_1000, li_12345, li_27720, li_1000000, li_1103515245, ne_m1, ne_m2, f1, c_refuse1, hz, r0]
    exact ⟨_, _, _, rfl, rfl, onlyR_bump hr _ (by decide)⟩
  · obtain ⟨hD, hc, hm⟩ := f3 rfl
    have hn := hD.2.1
    have hm' := mR_mark hm (nI 0)
    have f1 : Ic 0 11 = nI 1 := f1
    have r1 : ∀ v2, mM_isRefused (nI 0) v2 (h_u Im 0 0 (nI 0)) = _ := fun v2 => m_ref1 g2
    have r2 : mM_isRefused (nI 1) (nI 0) (h_u Im 0 0 (nI 0)) = _ := m_ref2 g2
    rcases m_isState hD hm'.1 v with ⟨s, h1, rfl, h3, h4⟩ | ⟨h1, h2, h3⟩
    · have h8 := hD.2.2.2.1 s h1
      simp (disch := omega) only [↓reduceIte, h_let, hg_in, hg_zb, hg_z0, hg_z1, hg_nz, Option.bind_some, if_pos, if_neg, bI_0, bI_n0, nI_add, nI_mul, nI_ltI, nI_leI, nI_eq, nI_clamp, nI_subN, nI_divN, nI_mod2, nI_m1e, nI_em1, nI_m2e, nI_lt0, m1_lt0, m1_lt, m1_le, h_u_at, h_u_off2, h_u_pl, li_0, li_1, li_2, li_3, li_4, li_5, li_6, li_7, li_8, li_9, li_10, li_11, li_12, li_13, li_14, li_15, li_16, li_17, li_18, li_19, li_20, li_21, li_22, li_23, li_24, li_25, li_26, li_27, li_28, li_29, li_30, li_31, li_32, li_40, li_43, li_45, li_47, li_48, li_57, li_59, li_60, li_61, li_62, li_63, li_64, li_80, li_92, li_97, li_99, li_100, li_122, li_123, li_125, li_166, li_201, li_210, li_250, li_255, li_256, li_257, li_258, li_259, li_260, li_261, li_262, li_263, li_264, li_265, li_266, li_267, li_268, li_300, li_500, li_1000, li_12345, li_27720, li_1000000, li_1103515245, ne_m1, ne_m2, f1, c_refuse0, h3, h4, r2, hc.1, hc.2.2.2.2.1 s h1, hm.2.2.2.1 s h1]
      exact ⟨_, _, _, rfl, rfl, onlyR_same hr _⟩
    · simp (disch := omega) only [↓reduceIte, h_let, hg_in, hg_zb, hg_z0, hg_z1, hg_nz, Option.bind_some, if_pos, if_neg, bI_0, bI_n0, nI_add, nI_mul, nI_ltI, nI_leI, nI_eq, nI_clamp, nI_subN, nI_divN, nI_mod2, nI_m1e, nI_em1, nI_m2e, nI_lt0, m1_lt0, m1_lt, m1_le, h_u_at, h_u_off2, h_u_pl, li_0, li_1, li_2, li_3, li_4, li_5, li_6, li_7, li_8, li_9, li_10, li_11, li_12, li_13, li_14, li_15, li_16, li_17, li_18, li_19, li_20, li_21, li_22, li_23, li_24, li_25, li_26, li_27, li_28, li_29, li_30, li_31, li_32, li_40, li_43, li_45, li_47, li_48, li_57, li_59, li_60, li_61, li_62, li_63, li_64, li_80, li_92, li_97, li_99, li_100, li_122, li_123, li_125, li_166, li_201, li_210, li_250, li_255, li_256, li_257, li_258, li_259, li_260, li_261, li_262, li_263, li_264, li_265, li_266, li_267, li_268, li_300, li_500, li_1000, li_12345, li_27720, li_1000000, li_1103515245, ne_m1, ne_m2, f1, c_refuse0, c_refuse1, h2, h3, r1, hc.1]
      exact ⟨_, _, _, rfl, rfl, onlyR_bump hr _ (by decide)⟩
theorem pr_leads {hl : Bool} {D : rD} {Ic Im : hI} (hf : flagL hl D Ic Im) (h41 : hl = false → Im 0 41 = nI 0) (hr : refu Ic Im) (v1 v2 v3 : Int32) : ∃ (a : Int32) (Ic' Im' : hI), mC_leads v1 v2 v3 Ic = some (a, Ic') ∧ mM_leads v1 v2 v3 Im = some (a, Im') ∧ onlyR Ic Ic' Im Im' := by
  obtain ⟨f1, f2, f3⟩ := hf
  have g2 : h_u Im 0 0 (nI 0) 0 37 = bI hl := by rw [h_u_pl _ _ _ (by decide)]; exact f2
  unfold mC_leads mC_leads_13 mC_leads_52 mM_leads mM_leads_27 mM_leads_28
  cases hl
  · have f1 : Ic 0 11 = nI 0 := f1
    have r0 : ∀ v1 v2, mM_isRefused v1 v2 (h_u Im 0 0 (nI 0)) = _ := fun v1 v2 => m_ref0 g2
    have hz : mM_isState v1 (h_u Im 0 0 (nI 0)) = some (nI 0) := m_noState v1 (by rw [h_u_pl _ _ _ (by decide)]; exact h41 rfl)
    have hz2 := m_isChoiceT v1 v2 _ hz
    simp (disch := omega) only [↓reduceIte, h_let, hg_in, hg_zb, hg_z0, hg_z1, hg_nz, Option.bind_some, if_pos, if_neg, bI_0, bI_n0, nI_add, nI_mul, nI_ltI, nI_leI, nI_eq, nI_clamp, nI_subN, nI_divN, nI_mod2, nI_m1e, nI_em1, nI_m2e, nI_lt0, m1_lt0, m1_lt, m1_le, h_u_at, h_u_off2, h_u_pl, li_0, li_1, li_2, li_3, li_4, li_5, li_6, li_7, li_8, li_9, li_10, li_11, li_12, li_13, li_14, li_15, li_16, li_17, li_18, li_19, li_20, li_21, li_22, li_23, li_24, li_25, li_26, li_27, li_28, li_29, li_30, li_31, li_32, li_40, li_43, li_45, li_47, li_48, li_57, li_59, li_60, li_61, li_62, li_63, li_64, li_80, li_92, li_97, li_99, li_100, li_122, li_123, li_125, li_166, li_201, li_210, li_250, li_255, li_256, li_257, li_258, li_259, li_260, li_261, li_262, li_263, li_264, li_265, li_266, li_267, li_268, li_300, li_500, li_1000, li_12345, li_27720, li_1000000, li_1103515245, ne_m1, ne_m2, f1, c_refuse1, hz2, r0]
    exact ⟨_, _, _, rfl, rfl, onlyR_bump hr _ (by decide)⟩
  · obtain ⟨hD, hc, hm⟩ := f3 rfl
    have hn := hD.2.1
    have hm' := mR_mark hm (nI 0)
    have f1 : Ic 0 11 = nI 1 := f1
    have r1 : ∀ v2, mM_isRefused (nI 0) v2 (h_u Im 0 0 (nI 0)) = _ := fun v2 => m_ref1 g2
    have r2 : mM_isRefused (nI 1) (nI 0) (h_u Im 0 0 (nI 0)) = _ := m_ref2 g2
    rcases isChoice_split hD hc hm' v1 v2 with ⟨s, c, h1, h2, rfl, rfl, h3, h4⟩ | ⟨h3, h4⟩
    · have h8 := hD.2.2.2.1 s h1
      rcases m_isState hD hm'.1 v3 with ⟨t, g1, rfl, g3, g4⟩ | ⟨g1, g2, g3⟩
      · have e1 := ro_quarters hD hc h1 h2 g1
        have e2 := (hm.2.2.2.2 s h1 c h2).2.2.2 t g1
        have ec : s * 8 + c = 8 * s + c := by omega
        simp (disch := omega) only [↓reduceIte, h_let, hg_in, hg_zb, hg_z0, hg_z1, hg_nz, Option.bind_some, if_pos, if_neg, bI_0, bI_n0, nI_add, nI_mul, nI_ltI, nI_leI, nI_eq, nI_clamp, nI_subN, nI_divN, nI_mod2, nI_m1e, nI_em1, nI_m2e, nI_lt0, m1_lt0, m1_lt, m1_le, h_u_at, h_u_off2, h_u_pl, li_0, li_1, li_2, li_3, li_4, li_5, li_6, li_7, li_8, li_9, li_10, li_11, li_12, li_13, li_14, li_15, li_16, li_17, li_18, li_19, li_20, li_21, li_22, li_23, li_24, li_25, li_26, li_27, li_28, li_29, li_30, li_31, li_32, li_40, li_43, li_45, li_47, li_48, li_57, li_59, li_60, li_61, li_62, li_63, li_64, li_80, li_92, li_97, li_99, li_100, li_122, li_123, li_125, li_166, li_201, li_210, li_250, li_255, li_256, li_257, li_258, li_259, li_260, li_261, li_262, li_263, li_264, li_265, li_266, li_267, li_268, li_300, li_500, li_1000, li_12345, li_27720, li_1000000, li_1103515245, ne_m1, ne_m2, mM_choiceAt, f1, c_refuse0, h3, h4, r2, hc.1, g3, g4, ec, e1, e2]
        exact ⟨_, _, _, rfl, rfl, onlyR_same hr _⟩
      · simp (disch := omega) only [↓reduceIte, h_let, hg_in, hg_zb, hg_z0, hg_z1, hg_nz, Option.bind_some, if_pos, if_neg, bI_0, bI_n0, nI_add, nI_mul, nI_ltI, nI_leI, nI_eq, nI_clamp, nI_subN, nI_divN, nI_mod2, nI_m1e, nI_em1, nI_m2e, nI_lt0, m1_lt0, m1_lt, m1_le, h_u_at, h_u_off2, h_u_pl, li_0, li_1, li_2, li_3, li_4, li_5, li_6, li_7, li_8, li_9, li_10, li_11, li_12, li_13, li_14, li_15, li_16, li_17, li_18, li_19, li_20, li_21, li_22, li_23, li_24, li_25, li_26, li_27, li_28, li_29, li_30, li_31, li_32, li_40, li_43, li_45, li_47, li_48, li_57, li_59, li_60, li_61, li_62, li_63, li_64, li_80, li_92, li_97, li_99, li_100, li_122, li_123, li_125, li_166, li_201, li_210, li_250, li_255, li_256, li_257, li_258, li_259, li_260, li_261, li_262, li_263, li_264, li_265, li_266, li_267, li_268, li_300, li_500, li_1000, li_12345, li_27720, li_1000000, li_1103515245, ne_m1, ne_m2, f1, c_refuse0, c_refuse1, h3, h4, g2, g3, r1, hc.1]
        exact ⟨_, _, _, rfl, rfl, onlyR_bump hr _ (by decide)⟩
    · simp (disch := omega) only [↓reduceIte, h_let, hg_in, hg_zb, hg_z0, hg_z1, hg_nz, Option.bind_some, if_pos, if_neg, bI_0, bI_n0, nI_add, nI_mul, nI_ltI, nI_leI, nI_eq, nI_clamp, nI_subN, nI_divN, nI_mod2, nI_m1e, nI_em1, nI_m2e, nI_lt0, m1_lt0, m1_lt, m1_le, h_u_at, h_u_off2, h_u_pl, li_0, li_1, li_2, li_3, li_4, li_5, li_6, li_7, li_8, li_9, li_10, li_11, li_12, li_13, li_14, li_15, li_16, li_17, li_18, li_19, li_20, li_21, li_22, li_23, li_24, li_25, li_26, li_27, li_28, li_29, li_30, li_31, li_32, li_40, li_43, li_45, li_47, li_48, li_57, li_59, li_60, li_61, li_62, li_63, li_64, li_80, li_92, li_97, li_99, li_100, li_122, li_123, li_125, li_166, li_201, li_210, li_250, li_255, li_256, li_257, li_258, li_259, li_260, li_261, li_262, li_263, li_264, li_265, li_266, li_267, li_268, li_300, li_500, li_1000, li_12345, li_27720, li_1000000, li_1103515245, ne_m1, ne_m2, f1, c_refuse0, c_refuse1, h3, h4, r1, hc.1]
      exact ⟨_, _, _, rfl, rfl, onlyR_bump hr _ (by decide)⟩
theorem pr_choice {hl : Bool} {D : rD} {Ic Im : hI} (hf : flagL hl D Ic Im) (h41 : hl = false → Im 0 41 = nI 0) (hr : refu Ic Im) (v1 v2 v3 : Int32) : ∃ (a : Int32) (o : Option Int32) (Ic' Im' : hI), mC_choice v1 v2 v3 Ic = some (o, Ic') ∧ mM_choice v1 v2 v3 Im = some (a, Im') ∧ onlyR Ic Ic' Im Im' ∧ mM_thrown Im' = x_k o ∧ ∀ w, o = some w → w = a := by
  obtain ⟨f1, f2, f3⟩ := hf
  unfold mC_choice mC_choice_13 mC_choice_46 mC_choice_61 mM_choice mM_choice_27 mM_choice_28 mM_choice_40
  have x0 : x_k none = nI 1 := rfl
  have x1 : ∀ w, x_k (some w) = nI 0 := fun _ => rfl
  cases hl
  · have f1 : Ic 0 11 = nI 0 := f1
    have r0 : ∀ v1 v2, mM_isRefused v1 v2 Im = _ := fun v1 v2 => m_ref0 f2
    have hz2 := m_isChoiceT v1 v2 _ (m_noState v1 (h41 rfl))
    simp (disch := omega) only [↓reduceIte, h_let, hg_in, hg_zb, hg_z0, hg_z1, hg_nz, Option.bind_some, if_pos, if_neg, bI_0, bI_n0, nI_add, nI_mul, nI_ltI, nI_leI, nI_eq, nI_clamp, nI_subN, nI_divN, nI_mod2, nI_m1e, nI_em1, nI_m2e, nI_lt0, m1_lt0, m1_lt, m1_le, h_u_at, h_u_off2, h_u_pl, li_0, li_1, li_2, li_3, li_4, li_5, li_6, li_7, li_8, li_9, li_10, li_11, li_12, li_13, li_14, li_15, li_16, li_17, li_18, li_19, li_20, li_21, li_22, li_23, li_24, li_25, li_26, li_27, li_28, li_29, li_30, li_31, li_32, li_40, li_43, li_45, li_47, li_48, li_57, li_59, li_60, li_61, li_62, li_63, li_64, li_80, li_92, li_97, li_99, li_100, li_122, li_123, li_125, li_166, li_201, li_210, li_250, li_255, li_256, li_257, li_258, li_259, li_260, li_261, li_262, li_263, li_264, li_265, li_266, li_267, li_268, li_300, li_500, li_1000, li_12345, li_27720, li_1000000, li_1103515245, ne_m1, ne_m2, f1, c_refuse1, hz2, r0]
    exact ⟨_, _, _, _, rfl, rfl, onlyR_mark (onlyR_bump0 hr (by decide)) _, rfl, fun w h => by cases h⟩
  · obtain ⟨hD, hc, hm⟩ := f3 rfl
    have hn := hD.2.1
    have f1 : Ic 0 11 = nI 1 := f1
    have r1 : ∀ v2, mM_isRefused (nI 0) v2 Im = _ := fun v2 => m_ref1 f2
    have r2 : mM_isRefused (nI 1) (nI 0) Im = _ := m_ref2 f2
    rcases isChoice_split hD hc hm v1 v2 with ⟨s, c, h1, h2, rfl, rfl, h3, h4⟩ | ⟨h3, h4⟩
    · have h8 := hD.2.2.2.1 s h1
      obtain ⟨e1, e2, e3, -⟩ := hm.2.2.2.2 s h1 c h2
      obtain ⟨d1, d2, d3, -⟩ := hc.2.2.2.2.2 s h1 c h2
      have ec : s * 8 + c = 8 * s + c := by omega
      rcases range_splitL v3 (n := 3) (by omega) (k := 2) (by decide) with ⟨j, g1, rfl, g3, g4⟩ | ⟨g1, g2, g3⟩
      · rcases (show j = 0 ∨ j = 1 ∨ j = 2 by omega) with rfl | rfl | rfl
        · simp (disch := omega) only [↓reduceIte, h_let, hg_in, hg_zb, hg_z0, hg_z1, hg_nz, Option.bind_some, if_pos, if_neg, bI_0, bI_n0, nI_add, nI_mul, nI_ltI, nI_leI, nI_eq, nI_clamp, nI_subN, nI_divN, nI_mod2, nI_m1e, nI_em1, nI_m2e, nI_lt0, m1_lt0, m1_lt, m1_le, h_u_at, h_u_off2, h_u_pl, li_0, li_1, li_2, li_3, li_4, li_5, li_6, li_7, li_8, li_9, li_10, li_11, li_12, li_13, li_14, li_15, li_16, li_17, li_18, li_19, li_20, li_21, li_22, li_23, li_24, li_25, li_26, li_27, li_28, li_29, li_30, li_31, li_32, li_40, li_43, li_45, li_47, li_48, li_57, li_59, li_60, li_61, li_62, li_63, li_64, li_80, li_92, li_97, li_99, li_100, li_122, li_123, li_125, li_166, li_201, li_210, li_250, li_255, li_256, li_257, li_258, li_259, li_260, li_261, li_262, li_263, li_264, li_265, li_266, li_267, li_268, li_300, li_500, li_1000, li_12345, li_27720, li_1000000, li_1103515245, ne_m1, ne_m2, mM_choiceAt, f1, c_refuse0, h3, h4, r2, g3, g4, ec, e1, d1]
          exact ⟨_, _, _, _, rfl, rfl, onlyR_same hr _, rfl, fun w h => by cases h; rfl⟩
        · simp (disch := omega) only [↓reduceIte, h_let, hg_in, hg_zb, hg_z0, hg_z1, hg_nz, Option.bind_some, if_pos, if_neg, bI_0, bI_n0, nI_add, nI_mul, nI_ltI, nI_leI, nI_eq, nI_clamp, nI_subN, nI_divN, nI_mod2, nI_m1e, nI_em1, nI_m2e, nI_lt0, m1_lt0, m1_lt, m1_le, h_u_at, h_u_off2, h_u_pl, li_0, li_1, li_2, li_3, li_4, li_5, li_6, li_7, li_8, li_9, li_10, li_11, li_12, li_13, li_14, li_15, li_16, li_17, li_18, li_19, li_20, li_21, li_22, li_23, li_24, li_25, li_26, li_27, li_28, li_29, li_30, li_31, li_32, li_40, li_43, li_45, li_47, li_48, li_57, li_59, li_60, li_61, li_62, li_63, li_64, li_80, li_92, li_97, li_99, li_100, li_122, li_123, li_125, li_166, li_201, li_210, li_250, li_255, li_256, li_257, li_258, li_259, li_260, li_261, li_262, li_263, li_264, li_265, li_266, li_267, li_268, li_300, li_500, li_1000, li_12345, li_27720, li_1000000, li_1103515245, ne_m1, ne_m2, mM_choiceAt, f1, c_refuse0, h3, h4, r2, g3, g4, ec, e2, d2]
          exact ⟨_, _, _, _, rfl, rfl, onlyR_same hr _, rfl, fun w h => by cases h; rfl⟩
        · simp (disch := omega) only [↓reduceIte, h_let, hg_in, hg_zb, hg_z0, hg_z1, hg_nz, Option.bind_some, if_pos, if_neg, bI_0, bI_n0, nI_add, nI_mul, nI_ltI, nI_leI, nI_eq, nI_clamp, nI_subN, nI_divN, nI_mod2, nI_m1e, nI_em1, nI_m2e, nI_lt0, m1_lt0, m1_lt, m1_le, h_u_at, h_u_off2, h_u_pl, li_0, li_1, li_2, li_3, li_4, li_5, li_6, li_7, li_8, li_9, li_10, li_11, li_12, li_13, li_14, li_15, li_16, li_17, li_18, li_19, li_20, li_21, li_22, li_23, li_24, li_25, li_26, li_27, li_28, li_29, li_30, li_31, li_32, li_40, li_43, li_45, li_47, li_48, li_57, li_59, li_60, li_61, li_62, li_63, li_64, li_80, li_92, li_97, li_99, li_100, li_122, li_123, li_125, li_166, li_201, li_210, li_250, li_255, li_256, li_257, li_258, li_259, li_260, li_261, li_262, li_263, li_264, li_265, li_266, li_267, li_268, li_300, li_500, li_1000, li_12345, li_27720, li_1000000, li_1103515245, ne_m1, ne_m2, mM_choiceAt, f1, c_refuse0, h3, h4, r2, g3, g4, ec, e3, d3]
          exact ⟨_, _, _, _, rfl, rfl, onlyR_same hr _, rfl, fun w h => by cases h; rfl⟩
      · simp (disch := omega) only [↓reduceIte, h_let, hg_in, hg_zb, hg_z0, hg_z1, hg_nz, Option.bind_some, if_pos, if_neg, bI_0, bI_n0, nI_add, nI_mul, nI_ltI, nI_leI, nI_eq, nI_clamp, nI_subN, nI_divN, nI_mod2, nI_m1e, nI_em1, nI_m2e, nI_lt0, m1_lt0, m1_lt, m1_le, h_u_at, h_u_off2, h_u_pl, li_0, li_1, li_2, li_3, li_4, li_5, li_6, li_7, li_8, li_9, li_10, li_11, li_12, li_13, li_14, li_15, li_16, li_17, li_18, li_19, li_20, li_21, li_22, li_23, li_24, li_25, li_26, li_27, li_28, li_29, li_30, li_31, li_32, li_40, li_43, li_45, li_47, li_48, li_57, li_59, li_60, li_61, li_62, li_63, li_64, li_80, li_92, li_97, li_99, li_100, li_122, li_123, li_125, li_166, li_201, li_210, li_250, li_255, li_256, li_257, li_258, li_259, li_260, li_261, li_262, li_263, li_264, li_265, li_266, li_267, li_268, li_300, li_500, li_1000, li_12345, li_27720, li_1000000, li_1103515245, ne_m1, ne_m2, f1, c_refuse0, c_refuse1, h3, h4, r1, g2, g3]
        exact ⟨_, _, _, _, rfl, rfl, onlyR_mark (onlyR_bump0 hr (by decide)) _, rfl, fun w h => by cases h⟩
    · simp (disch := omega) only [↓reduceIte, h_let, hg_in, hg_zb, hg_z0, hg_z1, hg_nz, Option.bind_some, if_pos, if_neg, bI_0, bI_n0, nI_add, nI_mul, nI_ltI, nI_leI, nI_eq, nI_clamp, nI_subN, nI_divN, nI_mod2, nI_m1e, nI_em1, nI_m2e, nI_lt0, m1_lt0, m1_lt, m1_le, h_u_at, h_u_off2, h_u_pl, li_0, li_1, li_2, li_3, li_4, li_5, li_6, li_7, li_8, li_9, li_10, li_11, li_12, li_13, li_14, li_15, li_16, li_17, li_18, li_19, li_20, li_21, li_22, li_23, li_24, li_25, li_26, li_27, li_28, li_29, li_30, li_31, li_32, li_40, li_43, li_45, li_47, li_48, li_57, li_59, li_60, li_61, li_62, li_63, li_64, li_80, li_92, li_97, li_99, li_100, li_122, li_123, li_125, li_166, li_201, li_210, li_250, li_255, li_256, li_257, li_258, li_259, li_260, li_261, li_262, li_263, li_264, li_265, li_266, li_267, li_268, li_300, li_500, li_1000, li_12345, li_27720, li_1000000, li_1103515245, ne_m1, ne_m2, f1, c_refuse0, c_refuse1, h3, h4, r1]
      exact ⟨_, _, _, _, rfl, rfl, onlyR_mark (onlyR_bump0 hr (by decide)) _, rfl, fun w h => by cases h⟩
theorem pr_status {Ic Im : hI} (hr : refu Ic Im) (v : Int32) : ∃ (a : Int32) (Im' : hI), mC_status v Ic = some a ∧ mM_status v Im = some (a, Im') ∧ onlyR Ic Ic Im Im' := by
  unfold mC_status mM_status
  rcases range_splitL v (n := 3) (by omega) (k := 2) (by decide) with ⟨j, g1, rfl, g3, g4⟩ | ⟨g1, g2, g3⟩
  · simp (disch := omega) only [↓reduceIte, h_let, hg_in, hg_zb, hg_z0, hg_z1, hg_nz, Option.bind_some, if_pos, if_neg, bI_0, bI_n0, nI_add, nI_mul, nI_ltI, nI_leI, nI_eq, nI_clamp, nI_subN, nI_divN, nI_mod2, nI_m1e, nI_em1, nI_m2e, nI_lt0, m1_lt0, m1_lt, m1_le, h_u_at, h_u_off2, h_u_pl, li_0, li_1, li_2, li_3, li_4, li_5, li_6, li_7, li_8, li_9, li_10, li_11, li_12, li_13, li_14, li_15, li_16, li_17, li_18, li_19, li_20, li_21, li_22, li_23, li_24, li_25, li_26, li_27, li_28, li_29, li_30, li_31, li_32, li_40, li_43, li_45, li_47, li_48, li_57, li_59, li_60, li_61, li_62, li_63, li_64, li_80, li_92, li_97, li_99, li_100, li_122, li_123, li_125, li_166, li_201, li_210, li_250, li_255, li_256, li_257, li_258, li_259, li_260, li_261, li_262, li_263, li_264, li_265, li_266, li_267, li_268, li_300, li_500, li_1000, li_12345, li_27720, li_1000000, li_1103515245, ne_m1, ne_m2, g3, g4, hr j g1]
    exact ⟨_, _, rfl, rfl, onlyR_same hr _⟩
  · simp (disch := omega) only [↓reduceIte, h_let, hg_in, hg_zb, hg_z0, hg_z1, hg_nz, Option.bind_some, if_pos, if_neg, bI_0, bI_n0, nI_add, nI_mul, nI_ltI, nI_leI, nI_eq, nI_clamp, nI_subN, nI_divN, nI_mod2, nI_m1e, nI_em1, nI_m2e, nI_lt0, m1_lt0, m1_lt, m1_le, h_u_at, h_u_off2, h_u_pl, li_0, li_1, li_2, li_3, li_4, li_5, li_6, li_7, li_8, li_9, li_10, li_11, li_12, li_13, li_14, li_15, li_16, li_17, li_18, li_19, li_20, li_21, li_22, li_23, li_24, li_25, li_26, li_27, li_28, li_29, li_30, li_31, li_32, li_40, li_43, li_45, li_47, li_48, li_57, li_59, li_60, li_61, li_62, li_63, li_64, li_80, li_92, li_97, li_99, li_100, li_122, li_123, li_125, li_166, li_201, li_210, li_250, li_255, li_256, li_257, li_258, li_259, li_260, li_261, li_262, li_263, li_264, li_265, li_266, li_267, li_268, li_300, li_500, li_1000, li_12345, li_27720, li_1000000, li_1103515245, ne_m1, ne_m2, g2, g3]
    exact ⟨_, _, rfl, rfl, onlyR_same hr _⟩
