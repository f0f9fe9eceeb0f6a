/-! paid, ends, plan: both sides answer alike. -/
theorem zb_bI (x : Int32) : ∃ q : Bool, zb x = bI q := by
  unfold zb
  by_cases h : x = 0
  · exact ⟨false, by rw [if_pos h]; rfl⟩
  · exact ⟨true, by rw [if_neg h]; rfl⟩
section Pa
variable {D : rD} {hl : Bool} {Ic Im : hI} {Jc Jm : hJ}
theorem acc_fin (hr : refu Ic Im) (h9 : Ic 7 9 = (if pN D (D 0 0) ≤ 64 then nI (pN D (D 0 0)) else (-2 : Int32))) {Ic' Im' : hI} {Jc' Jm' : hJ} (a1 : ∀ a i, (a < 13 ∨ 19 < a) → Ic' a i = Ic a i) (a2 : ∀ a i, (a < 14 ∨ 30 < a) → Jc' a i = Jc a i) (a3 : Ic' 13 1 = nI 1) (a4 : plOk D (pN D (D 0 0)) Ic' Jc') (b1 : offP (h_u Im 0 0 (nI 0)) Im') (b2 : offQ Jm Jm') (b3 : Im' 0 67 = nI 1) (b4 : plMk D (pN D (D 0 0)) Im' Jm') : onlyP Ic Ic' Jc Jc' Im Im' Jm Jm' ∧ plB D Ic' Jc' Im' Jm' := by
  refine ⟨⟨fun c i _ q => a1 c i q, a2, fun c i q1 q2 q3 q4 => ?_, b2, fun i hi => ?_⟩, ?_, fun _ => ⟨Or.inr ⟨a3, a4⟩, Or.inr ⟨b3, b4⟩⟩⟩
  · rw [b1 c i q2 q3 (by omega)]
    by_cases e : c = 0
    · subst e; exact h_u_pl _ _ _ (by omega)
    · exact h_u_off2 _ _ _ _ e
  · rw [a1 60 i (by omega), b1 42 i (by decide) (by decide) (by omega), h_u_off2 _ _ _ _ (by decide)]
    exact hr i hi
  · rw [a1 7 9 (by decide)]; exact h9
theorem told_ok (hD : rOk D) {K : Nat} (hK1 : 1 ≤ K) {I : hI} {J : hJ} (h : plOk D K I J) (w q : Bool) {s k : Nat} (hs : s < D 0 0) (hk : k < 2) {x : Nat} (hx : x = (if w = true then 0 else 2) + (if q = true then 1 else 0)) : mPl_told (nI x) (nI s) (nI k) J = some (if qL D w (bpF D w q s (K - 1)) s = 0 then (-2 : Int64) else if k = 0 then lI (qU D w (bpF D w q s (K - 1)) s) else lI (qL D w (bpF D w q s (K - 1)) s)) := by
  have hn := hD.2.1
  obtain ⟨h1, h2, _⟩ := h s hs w q
  have hb := (qUL_bd hD w (p := bpF D w q s (K - 1)) hs).2
  have e0 : x * 10 + s = (if w = true then 0 else 20) + (if q = true then 10 else 0) + s := by subst hx; cases w <;> cases q <;> simp
  have hx4 : x < 4 := by subst hx; cases w <;> cases q <;> simp
  rw [← e0] at h1 h2
  have eo : mC_isOutside (nI (x * 10 + s)) (nI 40) = nI 0 := by
    unfold mC_isOutside
    simp (disch := omega) only [↓reduceIte, h_let, hg_in, hg_zb, hg_z0, hg_z1, hg_nz, Option.bind_some, if_pos, if_neg, bI_0, bI_n0, nI_add, nI_mul, nI_ltI, nI_leI, nI_eq, nI_clamp, nI_subN, nI_divN, nI_mod2, nI_m1e, nI_em1, nI_m2e, nI_lt0, m1_lt0, m1_lt, m1_le, h_u_at, h_u_off2, h_u_pl, li_0, li_1, li_2, li_3, li_4, li_5, li_6, li_7, li_8, li_9, li_10, li_11, li_12, li_13, li_14, li_15, li_16, li_17, li_18, li_19, li_20, li_21, li_22, li_23, li_24, li_25, li_26, li_27, li_28, li_29, li_30, li_31, li_32, li_40, li_43, li_45, li_47, li_48, li_57, li_59, li_60, li_61, li_62, li_63, li_64, li_80, li_92, li_97, li_99, li_100, li_122, li_123, li_125, li_166, li_201, li_210, li_250, li_255, li_256, li_257, li_258, li_259, li_260, li_261, li_262, li_263, li_264, li_265, li_266, li_267, li_268, li_300, li_500, li_1000, li_12345, li_27720, li_1000000, li_1103515245, ne_m1, ne_m2]
  have l0 : (0 : Int64) = lI 0 := rfl
  have ez := lI_eq (a := qL D w (bpF D w q s (K - 1)) s) (b := 0) (by omega) (by omega) (by omega) (by omega)
  unfold mPl_told
  rw [l0]
  by_cases c : qL D w (bpF D w q s (K - 1)) s = 0
  · rw [if_pos c]
    simp (disch := omega) only [↓reduceIte, h_let, hg_in, hg_zb, hg_z0, hg_z1, hg_nz, Option.bind_some, if_pos, if_neg, bI_0, bI_n0, nI_add, nI_mul, nI_ltI, nI_leI, nI_eq, nI_clamp, nI_subN, nI_divN, nI_mod2, nI_m1e, nI_em1, nI_m2e, nI_lt0, m1_lt0, m1_lt, m1_le, h_u_at, h_u_off2, h_u_pl, li_0, li_1, li_2, li_3, li_4, li_5, li_6, li_7, li_8, li_9, li_10, li_11, li_12, li_13, li_14, li_15, li_16, li_17, li_18, li_19, li_20, li_21, li_22, li_23, li_24, li_25, li_26, li_27, li_28, li_29, li_30, li_31, li_32, li_40, li_43, li_45, li_47, li_48, li_57, li_59, li_60, li_61, li_62, li_63, li_64, li_80, li_92, li_97, li_99, li_100, li_122, li_123, li_125, li_166, li_201, li_210, li_250, li_255, li_256, li_257, li_258, li_259, li_260, li_261, li_262, li_263, li_264, li_265, li_266, li_267, li_268, li_300, li_500, li_1000, li_12345, li_27720, li_1000000, li_1103515245, ne_m1, ne_m2, eo, h2, ez, if_pos c]
  · rw [if_neg c]
    by_cases ck : k = 0
    · subst ck
      simp (disch := omega) only [↓reduceIte, h_let, hg_in, hg_zb, hg_z0, hg_z1, hg_nz, Option.bind_some, if_pos, if_neg, bI_0, bI_n0, nI_add, nI_mul, nI_ltI, nI_leI, nI_eq, nI_clamp, nI_subN, nI_divN, nI_mod2, nI_m1e, nI_em1, nI_m2e, nI_lt0, m1_lt0, m1_lt, m1_le, h_u_at, h_u_off2, h_u_pl, li_0, li_1, li_2, li_3, li_4, li_5, li_6, li_7, li_8, li_9, li_10, li_11, li_12, li_13, li_14, li_15, li_16, li_17, li_18, li_19, li_20, li_21, li_22, li_23, li_24, li_25, li_26, li_27, li_28, li_29, li_30, li_31, li_32, li_40, li_43, li_45, li_47, li_48, li_57, li_59, li_60, li_61, li_62, li_63, li_64, li_80, li_92, li_97, li_99, li_100, li_122, li_123, li_125, li_166, li_201, li_210, li_250, li_255, li_256, li_257, li_258, li_259, li_260, li_261, li_262, li_263, li_264, li_265, li_266, li_267, li_268, li_300, li_500, li_1000, li_12345, li_27720, li_1000000, li_1103515245, ne_m1, ne_m2, eo, h1, h2, ez, if_neg c]
    · rw [if_neg ck]
      simp (disch := omega) only [↓reduceIte, h_let, hg_in, hg_zb, hg_z0, hg_z1, hg_nz, Option.bind_some, if_pos, if_neg, bI_0, bI_n0, nI_add, nI_mul, nI_ltI, nI_leI, nI_eq, nI_clamp, nI_subN, nI_divN, nI_mod2, nI_m1e, nI_em1, nI_m2e, nI_lt0, m1_lt0, m1_lt, m1_le, h_u_at, h_u_off2, h_u_pl, li_0, li_1, li_2, li_3, li_4, li_5, li_6, li_7, li_8, li_9, li_10, li_11, li_12, li_13, li_14, li_15, li_16, li_17, li_18, li_19, li_20, li_21, li_22, li_23, li_24, li_25, li_26, li_27, li_28, li_29, li_30, li_31, li_32, li_40, li_43, li_45, li_47, li_48, li_57, li_59, li_60, li_61, li_62, li_63, li_64, li_80, li_92, li_97, li_99, li_100, li_122, li_123, li_125, li_166, li_201, li_210, li_250, li_255, li_256, li_257, li_258, li_259, li_260, li_261, li_262, li_263, li_264, li_265, li_266, li_267, li_268, li_300, li_500, li_1000, li_12345, li_27720, li_1000000, li_1103515245, ne_m1, ne_m2, eo, h1, h2, ez, if_neg c]
theorem pr_paid (hf : flagL hl D Ic Im) (hr : refu Ic Im) (hb : hl = true → plB D Ic Jc Im Jm) (v1 v3 : Int32) (q : Bool) : ∃ (v : Int64) (Ic' : hI) (Jc' : hJ) (Im' : hI) (Jm' : hJ), mC_paid v1 (bI q) v3 Ic Jc = some (v, Ic', Jc') ∧ mM_paid v1 (bI q) v3 Im Jm = some (v, Im', Jm') ∧ onlyP Ic Ic' Jc Jc' Im Im' Jm Jm' ∧ (hl = true → plB D Ic' Jc' Im' Jm') := by
  obtain ⟨out, vm, s1, s2, s3⟩ : ∃ (out : Bool) (vm : Int32), mC_paid v1 (bI q) v3 Ic Jc = mC_paid_28 v1 (bI q) v3 (bI out) Ic Jc ∧ mM_paid v1 (bI q) v3 Im Jm = mM_paid_29 v1 (bI q) v3 vm (h_u Im 0 0 (nI 0)) Jm ∧ (hl = true → vm = bI (!out) ∧ (out = false → ∃ s k, s < D 0 0 ∧ k < 2 ∧ v1 = nI s ∧ v3 = nI k)) := by
    unfold mC_paid mM_paid mM_paid_28
    cases hl
    · obtain ⟨z, hz⟩ := m_isStateT v1 (h_u Im 0 0 (nI 0))
      rw [li_0]
      show ∃ out vm, _ ∧ Option.bind (mM_isState v1 (h_u Im 0 0 (nI 0))) _ = _ ∧ _
      rw [hz]
      by_cases c1 : mC_isOutside v1 (Ic 7 5) = nI 0 <;> by_cases c2 : mC_isOutside v3 (2 : Int32) = nI 0 <;> by_cases c3 : z = nI 0 <;> by_cases c4 : mM_in v3.toInt64 (0 : Int64) (1 : Int64) = nI 0 <;> simp only [c1, c2, c3, c4, if_true, if_false, Option.bind_some, li_0, li_1]
      all_goals first
        | exact ⟨false, _, rfl, rfl, fun h => absurd h (by decide)⟩
        | exact ⟨true, _, rfl, rfl, fun h => absurd h (by decide)⟩
    · obtain ⟨hD, hc, hm⟩ := hf.2.2 rfl
      have hm1 := mR_mark hm (nI 0)
      rw [hc.1, li_0, li_1, li_2]
      have hk : ((nI 2) - (nI 1)).toInt64 = (1 : Int64) := by decide
      rcases m_isState hD hm1.1 v1 with ⟨s, hs, e1, e2, e3⟩ | ⟨_, e2, e3⟩
      · rcases range_splitL v3 (n := 2) (by decide) hk with ⟨k, hk2, f1, f2, f3⟩ | ⟨_, f2, f3⟩
        · refine ⟨false, nI 1, ?_, ?_, fun _ => ⟨rfl, fun _ => ⟨s, k, hs, hk2, e1, f1⟩⟩⟩
          · simp (disch := omega) only [↓reduceIte, h_let, hg_in, hg_zb, hg_z0, hg_z1, hg_nz, Option.bind_some, if_pos, if_neg, bI_0, bI_n0, nI_add, nI_mul, nI_ltI, nI_leI, nI_eq, nI_clamp, nI_subN, nI_divN, nI_mod2, nI_m1e, nI_em1, nI_m2e, nI_lt0, m1_lt0, m1_lt, m1_le, h_u_at, h_u_off2, h_u_pl, li_0, li_1, li_2, li_3, li_4, li_5, li_6, li_7, li_8, li_9, li_10, li_11, li_12, li_13, li_14, li_15, li_16, li_17, li_18, li_19, li_20, li_21, li_22, li_23, li_24, li_25, li_26, li_27, li_28, li_29, li_30, li_31, li_32, li_40, li_43, li_45, li_47, li_48, li_57, li_59, li_60, li_61, li_62, li_63, li_64, li_80, li_92, li_97, li_99, li_100, li_122, li_123, li_125, li_166, li_201, li_210, li_250, li_255, li_256, li_257, li_258, li_259, li_260, li_261, li_262, li_263, li_264, li_265, li_266, li_267, li_268, li_300, li_500, li_1000, li_12345, li_27720, li_1000000, li_1103515245, ne_m1, ne_m2, e2, f2, bI_f]
          · simp (disch := omega) only [↓reduceIte, h_let, hg_in, hg_zb, hg_z0, hg_z1, hg_nz, Option.bind_some, if_pos, if_neg, bI_0, bI_n0, nI_add, nI_mul, nI_ltI, nI_leI, nI_eq, nI_clamp, nI_subN, nI_divN, nI_mod2, nI_m1e, nI_em1, nI_m2e, nI_lt0, m1_lt0, m1_lt, m1_le, h_u_at, h_u_off2, h_u_pl, li_0, li_1, li_2, li_3, li_4, li_5, li_6, li_7, li_8, li_9, li_10, li_11, li_12, li_13, li_14, li_15, li_16, li_17, li_18, li_19, li_20, li_21, li_22, li_23, li_24, li_25, li_26, li_27, li_28, li_29, li_30, li_31, li_32, li_40, li_43, li_45, li_47, li_48, li_57, li_59, li_60, li_61, li_62, li_63, li_64, li_80, li_92, li_97, li_99, li_100, li_122, li_123, li_125, li_166, li_201, li_210, li_250, li_255, li_256, li_257, li_258, li_259, li_260, li_261, li_262, li_263, li_264, li_265, li_266, li_267, li_268, li_300, li_500, li_1000, li_12345, li_27720, li_1000000, li_1103515245, ne_m1, ne_m2, e3, f3]
        · refine ⟨true, nI 0, ?_, ?_, fun _ => ⟨rfl, fun h => absurd h (by decide)⟩⟩
          · simp (disch := omega) only [↓reduceIte, h_let, hg_in, hg_zb, hg_z0, hg_z1, hg_nz, Option.bind_some, if_pos, if_neg, bI_0, bI_n0, nI_add, nI_mul, nI_ltI, nI_leI, nI_eq, nI_clamp, nI_subN, nI_divN, nI_mod2, nI_m1e, nI_em1, nI_m2e, nI_lt0, m1_lt0, m1_lt, m1_le, h_u_at, h_u_off2, h_u_pl, li_0, li_1, li_2, li_3, li_4, li_5, li_6, li_7, li_8, li_9, li_10, li_11, li_12, li_13, li_14, li_15, li_16, li_17, li_18, li_19, li_20, li_21, li_22, li_23, li_24, li_25, li_26, li_27, li_28, li_29, li_30, li_31, li_32, li_40, li_43, li_45, li_47, li_48, li_57, li_59, li_60, li_61, li_62, li_63, li_64, li_80, li_92, li_97, li_99, li_100, li_122, li_123, li_125, li_166, li_201, li_210, li_250, li_255, li_256, li_257, li_258, li_259, li_260, li_261, li_262, li_263, li_264, li_265, li_266, li_267, li_268, li_300, li_500, li_1000, li_12345, li_27720, li_1000000, li_1103515245, ne_m1, ne_m2, e2, f2, bI_t]
          · simp (disch := omega) only [↓reduceIte, h_let, hg_in, hg_zb, hg_z0, hg_z1, hg_nz, Option.bind_some, if_pos, if_neg, bI_0, bI_n0, nI_add, nI_mul, nI_ltI, nI_leI, nI_eq, nI_clamp, nI_subN, nI_divN, nI_mod2, nI_m1e, nI_em1, nI_m2e, nI_lt0, m1_lt0, m1_lt, m1_le, h_u_at, h_u_off2, h_u_pl, li_0, li_1, li_2, li_3, li_4, li_5, li_6, li_7, li_8, li_9, li_10, li_11, li_12, li_13, li_14, li_15, li_16, li_17, li_18, li_19, li_20, li_21, li_22, li_23, li_24, li_25, li_26, li_27, li_28, li_29, li_30, li_31, li_32, li_40, li_43, li_45, li_47, li_48, li_57, li_59, li_60, li_61, li_62, li_63, li_64, li_80, li_92, li_97, li_99, li_100, li_122, li_123, li_125, li_166, li_201, li_210, li_250, li_255, li_256, li_257, li_258, li_259, li_260, li_261, li_262, li_263, li_264, li_265, li_266, li_267, li_268, li_300, li_500, li_1000, li_12345, li_27720, li_1000000, li_1103515245, ne_m1, ne_m2, e3, f3]
      · refine ⟨true, nI 0, ?_, ?_, fun _ => ⟨rfl, fun h => absurd h (by decide)⟩⟩
        · simp (disch := omega) only [↓reduceIte, h_let, hg_in, hg_zb, hg_z0, hg_z1, hg_nz, Option.bind_some, if_pos, if_neg, bI_0, bI_n0, nI_add, nI_mul, nI_ltI, nI_leI, nI_eq, nI_clamp, nI_subN, nI_divN, nI_mod2, nI_m1e, nI_em1, nI_m2e, nI_lt0, m1_lt0, m1_lt, m1_le, h_u_at, h_u_off2, h_u_pl, li_0, li_1, li_2, li_3, li_4, li_5, li_6, li_7, li_8, li_9, li_10, li_11, li_12, li_13, li_14, li_15, li_16, li_17, li_18, li_19, li_20, li_21, li_22, li_23, li_24, li_25, li_26, li_27, li_28, li_29, li_30, li_31, li_32, li_40, li_43, li_45, li_47, li_48, li_57, li_59, li_60, li_61, li_62, li_63, li_64, li_80, li_92, li_97, li_99, li_100, li_122, li_123, li_125, li_166, li_201, li_210, li_250, li_255, li_256, li_257, li_258, li_259, li_260, li_261, li_262, li_263, li_264, li_265, li_266, li_267, li_268, li_300, li_500, li_1000, li_12345, li_27720, li_1000000, li_1103515245, ne_m1, ne_m2, e2, bI_t]
        · simp (disch := omega) only [↓reduceIte, h_let, hg_in, hg_zb, hg_z0, hg_z1, hg_nz, Option.bind_some, if_pos, if_neg, bI_0, bI_n0, nI_add, nI_mul, nI_ltI, nI_leI, nI_eq, nI_clamp, nI_subN, nI_divN, nI_mod2, nI_m1e, nI_em1, nI_m2e, nI_lt0, m1_lt0, m1_lt, m1_le, h_u_at, h_u_off2, h_u_pl, li_0, li_1, li_2, li_3, li_4, li_5, li_6, li_7, li_8, li_9, li_10, li_11, li_12, li_13, li_14, li_15, li_16, li_17, li_18, li_19, li_20, li_21, li_22, li_23, li_24, li_25, li_26, li_27, li_28, li_29, li_30, li_31, li_32, li_40, li_43, li_45, li_47, li_48, li_57, li_59, li_60, li_61, li_62, li_63, li_64, li_80, li_92, li_97, li_99, li_100, li_122, li_123, li_125, li_166, li_201, li_210, li_250, li_255, li_256, li_257, li_258, li_259, li_260, li_261, li_262, li_263, li_264, li_265, li_266, li_267, li_268, li_300, li_500, li_1000, li_12345, li_27720, li_1000000, li_1103515245, ne_m1, ne_m2, e3]
  rw [s1, s2]
  unfold mC_paid_28 mC_paid_52 mM_paid_29
  rcases planned hf hr hb out vm (fun h => (s3 h).1) with ⟨Ic', Im', g1, g2, g3⟩ | ⟨hl1, ho, hK, Ic', Jc', g1, g2, g3, g4, g5, g6⟩
  · refine ⟨(-1 : Int64), Ic', Jc, Im', Jm, ?_, ?_, onlyP_R g3, fun h => plB_R (hb h) g3⟩
    · simp (disch := omega) only [↓reduceIte, h_let, hg_in, hg_zb, hg_z0, hg_z1, hg_nz, Option.bind_some, if_pos, if_neg, bI_0, bI_n0, nI_add, nI_mul, nI_ltI, nI_leI, nI_eq, nI_clamp, nI_subN, nI_divN, nI_mod2, nI_m1e, nI_em1, nI_m2e, nI_lt0, m1_lt0, m1_lt, m1_le, h_u_at, h_u_off2, h_u_pl, li_0, li_1, li_2, li_3, li_4, li_5, li_6, li_7, li_8, li_9, li_10, li_11, li_12, li_13, li_14, li_15, li_16, li_17, li_18, li_19, li_20, li_21, li_22, li_23, li_24, li_25, li_26, li_27, li_28, li_29, li_30, li_31, li_32, li_40, li_43, li_45, li_47, li_48, li_57, li_59, li_60, li_61, li_62, li_63, li_64, li_80, li_92, li_97, li_99, li_100, li_122, li_123, li_125, li_166, li_201, li_210, li_250, li_255, li_256, li_257, li_258, li_259, li_260, li_261, li_262, li_263, li_264, li_265, li_266, li_267, li_268, li_300, li_500, li_1000, li_12345, li_27720, li_1000000, li_1103515245, ne_m1, ne_m2, g1]
    · rw [li_1]
      simp (disch := omega) only [↓reduceIte, h_let, hg_in, hg_zb, hg_z0, hg_z1, hg_nz, Option.bind_some, if_pos, if_neg, bI_0, bI_n0, nI_add, nI_mul, nI_ltI, nI_leI, nI_eq, nI_clamp, nI_subN, nI_divN, nI_mod2, nI_m1e, nI_em1, nI_m2e, nI_lt0, m1_lt0, m1_lt, m1_le, h_u_at, h_u_off2, h_u_pl, li_0, li_1, li_2, li_3, li_4, li_5, li_6, li_7, li_8, li_9, li_10, li_11, li_12, li_13, li_14, li_15, li_16, li_17, li_18, li_19, li_20, li_21, li_22, li_23, li_24, li_25, li_26, li_27, li_28, li_29, li_30, li_31, li_32, li_40, li_43, li_45, li_47, li_48, li_57, li_59, li_60, li_61, li_62, li_63, li_64, li_80, li_92, li_97, li_99, li_100, li_122, li_123, li_125, li_166, li_201, li_210, li_250, li_255, li_256, li_257, li_258, li_259, li_260, li_261, li_262, li_263, li_264, li_265, li_266, li_267, li_268, li_300, li_500, li_1000, li_12345, li_27720, li_1000000, li_1103515245, ne_m1, ne_m2, g2]
  · obtain ⟨hD, hc, hm⟩ := hf.2.2 hl1
    obtain ⟨s, k, hs, hk, rfl, rfl⟩ := (s3 hl1).2 ho
    have hm1 := mR_mark hm (nI 0)
    have hn := hD.2.1
    obtain ⟨Im', Jm', b1, b2, b3, b4, b5⟩ := mp_bestPlan hD hK true q hs hm1 (plMR_of ((hb hl1).2 hK).2 (h_u_pl _ _ _ (by decide)) (fun i => h_u_off2 _ _ _ _ (by decide)) (fun _ _ _ _ => rfl))
    have hp := pN_pos D (D 0 0)
    have hbl := bpF_le D true q s (pN D (D 0 0) - 1)
    have ht := told_ok hD hp g6 true q hs hk (x := if q = true then 1 else 0) (by simp)
    have hfin := acc_fin hr (hb hl1).1 g3 g4 g5 g6 b2 b3 b4 b5
    refine ⟨if qL D true (bpF D true q s (pN D (D 0 0) - 1)) s = 0 then (-2 : Int64) else if k = 0 then lI (qU D true (bpF D true q s (pN D (D 0 0) - 1)) s) else lI (qL D true (bpF D true q s (pN D (D 0 0) - 1)) s), Ic', Jc', Im', Jm', ?_, ?_, hfin.1, fun _ => hfin.2⟩
    · cases q
      · simp only [Bool.false_eq_true, if_false] at ht
        rw [bI_f]
        simp (disch := omega) only [↓reduceIte, h_let, hg_in, hg_zb, hg_z0, hg_z1, hg_nz, Option.bind_some, if_pos, if_neg, bI_0, bI_n0, nI_add, nI_mul, nI_ltI, nI_leI, nI_eq, nI_clamp, nI_subN, nI_divN, nI_mod2, nI_m1e, nI_em1, nI_m2e, nI_lt0, m1_lt0, m1_lt, m1_le, h_u_at, h_u_off2, h_u_pl, li_0, li_1, li_2, li_3, li_4, li_5, li_6, li_7, li_8, li_9, li_10, li_11, li_12, li_13, li_14, li_15, li_16, li_17, li_18, li_19, li_20, li_21, li_22, li_23, li_24, li_25, li_26, li_27, li_28, li_29, li_30, li_31, li_32, li_40, li_43, li_45, li_47, li_48, li_57, li_59, li_60, li_61, li_62, li_63, li_64, li_80, li_92, li_97, li_99, li_100, li_122, li_123, li_125, li_166, li_201, li_210, li_250, li_255, li_256, li_257, li_258, li_259, li_260, li_261, li_262, li_263, li_264, li_265, li_266, li_267, li_268, li_300, li_500, li_1000, li_12345, li_27720, li_1000000, li_1103515245, ne_m1, ne_m2, g1, ht]
      · simp only [if_true] at ht
        rw [bI_t]
        simp (disch := omega) only [↓reduceIte, h_let, hg_in, hg_zb, hg_z0, hg_z1, hg_nz, Option.bind_some, if_pos, if_neg, bI_0, bI_n0, nI_add, nI_mul, nI_ltI, nI_leI, nI_eq, nI_clamp, nI_subN, nI_divN, nI_mod2, nI_m1e, nI_em1, nI_m2e, nI_lt0, m1_lt0, m1_lt, m1_le, h_u_at, h_u_off2, h_u_pl, li_0, li_1, li_2, li_3, li_4, li_5, li_6, li_7, li_8, li_9, li_10, li_11, li_12, li_13, li_14, li_15, li_16, li_17, li_18, li_19, li_20, li_21, li_22, li_23, li_24, li_25, li_26, li_27, li_28, li_29, li_30, li_31, li_32, li_40, li_43, li_45, li_47, li_48, li_57, li_59, li_60, li_61, li_62, li_63, li_64, li_80, li_92, li_97, li_99, li_100, li_122, li_123, li_125, li_166, li_201, li_210, li_250, li_255, li_256, li_257, li_258, li_259, li_260, li_261, li_262, li_263, li_264, li_265, li_266, li_267, li_268, li_300, li_500, li_1000, li_12345, li_27720, li_1000000, li_1103515245, ne_m1, ne_m2, g1, ht]
    · rw [bI_t, ← li_1] at b1
      obtain ⟨c1, c2, c3⟩ := b5 (bpF D true q s (pN D (D 0 0) - 1)) (by omega)
      have c1 := c1 s hs
      obtain ⟨c4, c5⟩ := c2 s hs
      rw [← li_1] at g2
      rw [g2]
      show Option.bind (mM_bestPlan (nI s) (bI q) (1 : Int32) _ Jm) _ = _
      rw [b1]
      cases he : pEn D (bpF D true q s (pN D (D 0 0) - 1)) s
      · have hx := x_eq hD true (p := bpF D true q s (pN D (D 0 0) - 1)) hs (fun _ => he)
        have hpos := q_pos hD (w := true) (p := bpF D true q s (pN D (D 0 0) - 1)) (s := s) (fun _ => he)
        rw [hx.1] at c4
        rw [hx.2] at c5
        rw [he, bI_f] at c1
        rw [if_neg (by omega)]
        by_cases ck : k = 0
        · subst ck
          simp (disch := omega) only [↓reduceIte, h_let, hg_in, hg_zb, hg_z0, hg_z1, hg_nz, Option.bind_some, if_pos, if_neg, bI_0, bI_n0, nI_add, nI_mul, nI_ltI, nI_leI, nI_eq, nI_clamp, nI_subN, nI_divN, nI_mod2, nI_m1e, nI_em1, nI_m2e, nI_lt0, m1_lt0, m1_lt, m1_le, h_u_at, h_u_off2, h_u_pl, li_0, li_1, li_2, li_3, li_4, li_5, li_6, li_7, li_8, li_9, li_10, li_11, li_12, li_13, li_14, li_15, li_16, li_17, li_18, li_19, li_20, li_21, li_22, li_23, li_24, li_25, li_26, li_27, li_28, li_29, li_30, li_31, li_32, li_40, li_43, li_45, li_47, li_48, li_57, li_59, li_60, li_61, li_62, li_63, li_64, li_80, li_92, li_97, li_99, li_100, li_122, li_123, li_125, li_166, li_201, li_210, li_250, li_255, li_256, li_257, li_258, li_259, li_260, li_261, li_262, li_263, li_264, li_265, li_266, li_267, li_268, li_300, li_500, li_1000, li_12345, li_27720, li_1000000, li_1103515245, ne_m1, ne_m2, c1, c4]
        · rw [if_neg ck]
          simp (disch := omega) only [↓reduceIte, h_let, hg_in, hg_zb, hg_z0, hg_z1, hg_nz, Option.bind_some, if_pos, if_neg, bI_0, bI_n0, nI_add, nI_mul, nI_ltI, nI_leI, nI_eq, nI_clamp, nI_subN, nI_divN, nI_mod2, nI_m1e, nI_em1, nI_m2e, nI_lt0, m1_lt0, m1_lt, m1_le, h_u_at, h_u_off2, h_u_pl, li_0, li_1, li_2, li_3, li_4, li_5, li_6, li_7, li_8, li_9, li_10, li_11, li_12, li_13, li_14, li_15, li_16, li_17, li_18, li_19, li_20, li_21, li_22, li_23, li_24, li_25, li_26, li_27, li_28, li_29, li_30, li_31, li_32, li_40, li_43, li_45, li_47, li_48, li_57, li_59, li_60, li_61, li_62, li_63, li_64, li_80, li_92, li_97, li_99, li_100, li_122, li_123, li_125, li_166, li_201, li_210, li_250, li_255, li_256, li_257, li_258, li_259, li_260, li_261, li_262, li_263, li_264, li_265, li_266, li_267, li_268, li_300, li_500, li_1000, li_12345, li_27720, li_1000000, li_1103515245, ne_m1, ne_m2, c1, c5]
      · rw [he, bI_t] at c1
        rw [if_pos (q_end he).2]
        simp (disch := omega) only [↓reduceIte, h_let, hg_in, hg_zb, hg_z0, hg_z1, hg_nz, Option.bind_some, if_pos, if_neg, bI_0, bI_n0, nI_add, nI_mul, nI_ltI, nI_leI, nI_eq, nI_clamp, nI_subN, nI_divN, nI_mod2, nI_m1e, nI_em1, nI_m2e, nI_lt0, m1_lt0, m1_lt, m1_le, h_u_at, h_u_off2, h_u_pl, li_0, li_1, li_2, li_3, li_4, li_5, li_6, li_7, li_8, li_9, li_10, li_11, li_12, li_13, li_14, li_15, li_16, li_17, li_18, li_19, li_20, li_21, li_22, li_23, li_24, li_25, li_26, li_27, li_28, li_29, li_30, li_31, li_32, li_40, li_43, li_45, li_47, li_48, li_57, li_59, li_60, li_61, li_62, li_63, li_64, li_80, li_92, li_97, li_99, li_100, li_122, li_123, li_125, li_166, li_201, li_210, li_250, li_255, li_256, li_257, li_258, li_259, li_260, li_261, li_262, li_263, li_264, li_265, li_266, li_267, li_268, li_300, li_500, li_1000, li_12345, li_27720, li_1000000, li_1103515245, ne_m1, ne_m2, c1]
end Pa
