/-! run: both sides answer alike. -/
def onlyU (Ic Ic' Im Im' : hI) : Prop := (∀ c i, c ≠ 60 → c ≠ 6 → Ic' c i = Ic c i) ∧ (∀ c i, c ≠ 42 → (c ≠ 0 ∨ (i ≠ 0 ∧ (i < 53 ∨ 61 < i))) → Im' c i = Im c i) ∧ refu Ic' Im'
theorem onlyU_R {Ic Ic' Im Im' : hI} (ho : onlyR Ic Ic' Im Im') : onlyU Ic Ic' Im Im' := ⟨fun c i q1 _ => ho.1 c i q1, fun c i q1 q2 => ho.2.1 c i q1 (by omega), ho.2.2⟩
section Rv
variable {t w h sz n np wt : Nat} {Q : rD} {P E : cE} {pr : Nat → Int} {bn : Nat → Nat} {D : rD} {hl : Bool} {Ic Im : hI}
theorem pr_run {B : Bool × Bool} (hf : flagL hl D Ic Im) (h41 : hl = false → Im 0 41 = nI 0) (hr : refu Ic Im) (hg : hl = true → (h_pr B = t ∧ 61 ≤ t) ∧ pgQ t w h sz n np wt Q P E pr bn Ic Im ∧ (D 0 0 = w * h ∧ D 0 1 = w ∧ D 0 2 = h)) (v1 v2 v3 v4 v5 : Int32) : ∃ (v : Int32) (Ic' Im' : hI), mC_run v1 v2 v3 v4 v5 Ic B = some (v, Ic') ∧ mM_run v1 v2 v3 v4 v5 Im = some (v, Im') ∧ onlyU Ic Ic' Im Im' := by
  obtain ⟨f1, f2, f3⟩ := hf
  have g2 : h_u Im 0 0 (nI 0) 0 37 = bI hl := by rw [h_u_pl _ _ _ (by decide)]; exact f2
  cases hl
  · have f1 : Ic 0 11 = nI 0 := f1
    have r0 : ∀ v1 v2, mM_isRefused v1 v2 (h_u Im 0 0 (nI 0)) = _ := fun v1 v2 => m_ref0 g2
    have hz : mM_isState v1 (h_u Im 0 0 (nI 0)) = some (nI 0) := m_noState v1 (by rw [h_u_pl _ _ _ (by decide)]; exact h41 rfl)
    have ho := onlyR_bump hr (nI 0) (k := 0) (by decide)
    refine ⟨(-1 : Int32), _, _, ?_, ?_, onlyU_R ho⟩
    · unfold mC_run mC_run_13
      simp (disch := omega) only [↓reduceIte, h_let, hg_in, hg_zb, hg_z0, hg_z1, hg_nz, Option.bind_some, if_pos, if_neg, bI_0, bI_n0, nI_add, nI_mul, nI_ltI, nI_leI, nI_eq, nI_clamp, nI_subN, nI_divN, nI_mod2, nI_m1e, nI_em1, nI_m2e, nI_lt0, m1_lt0, m1_lt, m1_le, h_u_at, h_u_off2, h_u_pl, li_0, li_1, li_2, li_3, li_4, li_5, li_6, li_7, li_8, li_9, li_10, li_11, li_12, li_13, li_14, li_15, li_16, li_17, li_18, li_19, li_20, li_21, li_22, li_23, li_24, li_25, li_26, li_27, li_28, li_29, li_30, li_31, li_32, li_40, li_43, li_45, li_47, li_48, li_57, li_59, li_60, li_61, li_62, li_63, li_64, li_80, li_92, li_97, li_99, li_100, li_122, li_123, li_125, li_166, li_201, li_210, li_250, li_255, li_256, li_257, li_258, li_259, li_260, li_261, li_262, li_263, li_264, li_265, li_266, li_267, li_268, li_300, li_500, li_1000, li_12345, li_27720, li_1000000, li_1103515245, ne_m1, ne_m2, f1, c_refuse1]
    · unfold mM_run mM_run_56 mM_run_57
      simp (disch := omega) only [↓reduceIte, h_let, hg_in, hg_zb, hg_z0, hg_z1, hg_nz, Option.bind_some, if_pos, if_neg, bI_0, bI_n0, nI_add, nI_mul, nI_ltI, nI_leI, nI_eq, nI_clamp, nI_subN, nI_divN, nI_mod2, nI_m1e, nI_em1, nI_m2e, nI_lt0, m1_lt0, m1_lt, m1_le, h_u_at, h_u_off2, h_u_pl, li_0, li_1, li_2, li_3, li_4, li_5, li_6, li_7, li_8, li_9, li_10, li_11, li_12, li_13, li_14, li_15, li_16, li_17, li_18, li_19, li_20, li_21, li_22, li_23, li_24, li_25, li_26, li_27, li_28, li_29, li_30, li_31, li_32, li_40, li_43, li_45, li_47, li_48, li_57, li_59, li_60, li_61, li_62, li_63, li_64, li_80, li_92, li_97, li_99, li_100, li_122, li_123, li_125, li_166, li_201, li_210, li_250, li_255, li_256, li_257, li_258, li_259, li_260, li_261, li_262, li_263, li_264, li_265, li_266, li_267, li_268, li_300, li_500, li_1000, li_12345, li_27720, li_1000000, li_1103515245, ne_m1, ne_m2, hz, r0]
  · obtain ⟨hD, hc, hm⟩ := f3 rfl
    have hn := hD.2.1
    have hm' := mR_mark hm (nI 0)
    have f1 : Ic 0 11 = nI 1 := f1
    have r1 : ∀ v2, mM_isRefused (nI 0) v2 (h_u Im 0 0 (nI 0)) = _ := fun v2 => m_ref1 g2
    have r2 : mM_isRefused (nI 1) (nI 0) (h_u Im 0 0 (nI 0)) = _ := m_ref2 g2
    have ho := onlyR_bump hr (nI 0) (k := 1) (by decide)
    obtain ⟨⟨hB, ht⟩, hP, hd⟩ := hg rfl
    rcases m_isState hD hm'.1 v1 with ⟨s, hs, rfl, e2, e3⟩ | ⟨_, e2, e3⟩
    · rcases range_splitL v2 (n := 8) (by omega) (k := 7) (by decide) with ⟨pk, hpk, rfl, o2, o3⟩ | ⟨_, o2, o3⟩
      · rcases range_splitL v4 (n := 201) (by omega) (k := 200) (by decide) with ⟨R, hR, rfl, u2, u3⟩ | ⟨_, u2, u3⟩
        · rcases range_splitL v5 (n := 5) (by omega) (k := 4) (by decide) with ⟨wh, hwh, rfl, y2, y3⟩ | ⟨_, y2, y3⟩
          · -- the call is good
            obtain ⟨⟨f0, hb⟩, hN, ⟨v0, a3⟩, a4, a5, a6, a7, a8, a9, a10⟩ := hP
            have hw := wd_pos hD
            have ex := ro_xOf hD hc hs
            have ey := ro_yOf hD hc hs
            rw [hd.2.1] at ex ey hw
            have hs' : s < w * h := by rw [← hd.1]; exact hs
            have hx : s % w < w := Nat.mod_lt _ hw.1
            have hy : s / w < h := Nat.div_lt_of_lt_mul hs'
            have est : s % w + s / w * w = s := by rw [Nat.mul_comm]; exact Nat.mod_add_div s w
            obtain ⟨Ic1, hIc1⟩ : ∃ I, I = mWk_startDraws (nI (s % w)) (nI (s / w)) v3 Ic := ⟨_, rfl⟩
            obtain ⟨Im1, hIm1⟩ : ∃ I, I = h_u (h_u (h_u (h_u Im 0 0 (nI 0)) 0 59 v3) 0 61 (nI 1)) 0 56 (nI 0) := ⟨_, rfl⟩
            have oc1 : ∀ a i, a ≠ 6 → Ic1 a i = Ic a i := fun a i q => by
              rw [hIc1]
              unfold mWk_startDraws mWk_start
              simp (disch := omega) only [h_let, h_u_off2]
            have om1 : ∀ a i, (a ≠ 0 ∨ (i ≠ 0 ∧ (i < 53 ∨ 61 < i))) → Im1 a i = Im a i := fun a i q => by
              rw [hIm1]
              by_cases e : a = 0
              · subst e
                simp (disch := omega) only [h_u_pl]
              · simp (disch := omega) only [h_u_off2]
            have W : rnQ w h (nI 0) (s % w) (s / w) false Ic1 Im1 := by
              rw [hIc1, hIm1]
              unfold mWk_startDraws mWk_start
              simp only [h_let]
              refine ⟨hx, hy, ?_, ?_, ?_, ?_, ?_, ?_, ?_, ?_⟩ <;> simp (disch := omega) only [h_u_at, h_u_pl, bI_f, li_0, li_1]
            have HE : ruE t w h sz n Q P E pr D Ic1 Im1 := ⟨⟨Im1 0 58, enQ_set a3 (fun c i q => oc1 c i (by omega)) (fun c i q1 q2 => om1 c i (by omega)) ⟨om1 0 39 (by omega), om1 0 40 (by omega)⟩ rfl⟩, by rw [om1 0 46 (by omega)]; exact a10, cR_of hc (fun c i q1 q2 => oc1 c i (by omega)), mR_of hm (fun c i q1 q2 => om1 c i (by omega)) (fun i q1 q2 => om1 0 i (by omega))⟩
            obtain ⟨a, Ic', Im', z1, z2, z3, z4⟩ := ru_L (pk := pk) hD hd hB ht hb (show R ≤ 200 by omega) hwh R 0 hF hF (nI 0) (s % w) (s / w) false Ic1 Im1 (by omega) (by unfold hF; omega) (by unfold hF; omega) HE W
            rw [est, bI_f] at z2
            have eq1 : mWk_startDraws (nI (s % w)) (nI (s / w)) v3 Ic = Ic1 := hIc1.symm
            refine ⟨a, Ic', Im', ?_, ?_, fun c i q1 q2 => by rw [z3 c i q2, oc1 c i q2], fun c i q1 q2 => by rw [z4 c i (by omega), om1 c i (by omega)], fun i hi => by rw [z3 60 i (by decide), oc1 60 i (by decide), z4 42 i (Or.inl (by decide)), om1 42 i (Or.inl (by decide))]; exact hr i hi⟩
            · have top : mC_run (nI s) (nI pk) v3 (nI R) (nI wh) Ic B = mC_run_L108 hF (nI pk) (nI R) (nI wh) (nI 0) (nI 0) Ic1 B := by
                unfold mC_run mC_run_13 mC_run_69
                rw [f1]
                simp (disch := omega) only [↓reduceIte, Option.bind_some, hl_eq, li_0, li_1, li_8, li_201, li_5, c_refuse0, hc.1, e2, o2, u2, y2, ex, ey, eq1, if_neg (show ¬ nI 1 = nI 0 by decide), if_true]
              rw [top, z1]
            · have top : mM_run (nI s) (nI pk) v3 (nI R) (nI wh) Im = mM_run_L93 hF (nI pk) (nI R) (nI wh) (nI s) (nI 0) (nI 0) (nI 0) Im1 := by
                rw [hIm1]
                unfold mM_run mM_run_57
                simp (disch := omega) only [↓reduceIte, Option.bind_some, hl_eq, li_0, li_1, e3, o3, u3, y3, r2, if_neg (show ¬ nI 1 = nI 0 by decide), if_true]
              rw [top, z2]
          · refine ⟨(-1 : Int32), _, _, ?_, ?_, onlyU_R ho⟩
            · unfold mC_run mC_run_13 mC_run_69
              simp (disch := omega) only [↓reduceIte, h_let, hg_in, hg_zb, hg_z0, hg_z1, hg_nz, Option.bind_some, if_pos, if_neg, bI_0, bI_n0, nI_add, nI_mul, nI_ltI, nI_leI, nI_eq, nI_clamp, nI_subN, nI_divN, nI_mod2, nI_m1e, nI_em1, nI_m2e, nI_lt0, m1_lt0, m1_lt, m1_le, h_u_at, h_u_off2, h_u_pl, li_0, li_1, li_2, li_3, li_4, li_5, li_6, li_7, li_8, li_9, li_10, li_11, li_12, li_13, li_14, li_15, li_16, li_17, li_18, li_19, li_20, li_21, li_22, li_23, li_24, li_25, li_26, li_27, li_28, li_29, li_30, li_31, li_32, li_40, li_43, li_45, li_47, li_48, li_57, li_59, li_60, li_61, li_62, li_63, li_64, li_80, li_92, li_97, li_99, li_100, li_122, li_123, li_125, li_166, li_201, li_210, li_250, li_255, li_256, li_257, li_258, li_259, li_260, li_261, li_262, li_263, li_264, li_265, li_266, li_267, li_268, li_300, li_500, li_1000, li_12345, li_27720, li_1000000, li_1103515245, ne_m1, ne_m2, f1, c_refuse0, c_refuse1, hc.1, e2, o2, u2, y2]
            · unfold mM_run mM_run_56 mM_run_57
              simp (disch := omega) only [↓reduceIte, h_let, hg_in, hg_zb, hg_z0, hg_z1, hg_nz, Option.bind_some, if_pos, if_neg, bI_0, bI_n0, nI_add, nI_mul, nI_ltI, nI_leI, nI_eq, nI_clamp, nI_subN, nI_divN, nI_mod2, nI_m1e, nI_em1, nI_m2e, nI_lt0, m1_lt0, m1_lt, m1_le, h_u_at, h_u_off2, h_u_pl, li_0, li_1, li_2, li_3, li_4, li_5, li_6, li_7, li_8, li_9, li_10, li_11, li_12, li_13, li_14, li_15, li_16, li_17, li_18, li_19, li_20, li_21, li_22, li_23, li_24, li_25, li_26, li_27, li_28, li_29, li_30, li_31, li_32, li_40, li_43, li_45, li_47, li_48, li_57, li_59, li_60, li_61, li_62, li_63, li_64, li_80, li_92, li_97, li_99, li_100, li_122, li_123, li_125, li_166, li_201, li_210, li_250, li_255, li_256, li_257, li_258, li_259, li_260, li_261, li_262, li_263, li_264, li_265, li_266, li_267, li_268, li_300, li_500, li_1000, li_12345, li_27720, li_1000000, li_1103515245, ne_m1, ne_m2, e3, o3, u3, y3, r1]
        · refine ⟨(-1 : Int32), _, _, ?_, ?_, onlyU_R ho⟩
          · unfold mC_run mC_run_13 mC_run_69
            simp (disch := omega) only [↓reduceIte, h_let, hg_in, hg_zb, hg_z0, hg_z1, hg_nz, Option.bind_some, if_pos, if_neg, bI_0, bI_n0, nI_add, nI_mul, nI_ltI, nI_leI, nI_eq, nI_clamp, nI_subN, nI_divN, nI_mod2, nI_m1e, nI_em1, nI_m2e, nI_lt0, m1_lt0, m1_lt, m1_le, h_u_at, h_u_off2, h_u_pl, li_0, li_1, li_2, li_3, li_4, li_5, li_6, li_7, li_8, li_9, li_10, li_11, li_12, li_13, li_14, li_15, li_16, li_17, li_18, li_19, li_20, li_21, li_22, li_23, li_24, li_25, li_26, li_27, li_28, li_29, li_30, li_31, li_32, li_40, li_43, li_45, li_47, li_48, li_57, li_59, li_60, li_61, li_62, li_63, li_64, li_80, li_92, li_97, li_99, li_100, li_122, li_123, li_125, li_166, li_201, li_210, li_250, li_255, li_256, li_257, li_258, li_259, li_260, li_261, li_262, li_263, li_264, li_265, li_266, li_267, li_268, li_300, li_500, li_1000, li_12345, li_27720, li_1000000, li_1103515245, ne_m1, ne_m2, f1, c_refuse0, c_refuse1, hc.1, e2, o2, u2]
          · unfold mM_run mM_run_56 mM_run_57
            simp (disch := omega) only [↓reduceIte, h_let, hg_in, hg_zb, hg_z0, hg_z1, hg_nz, Option.bind_some, if_pos, if_neg, bI_0, bI_n0, nI_add, nI_mul, nI_ltI, nI_leI, nI_eq, nI_clamp, nI_subN, nI_divN, nI_mod2, nI_m1e, nI_em1, nI_m2e, nI_lt0, m1_lt0, m1_lt, m1_le, h_u_at, h_u_off2, h_u_pl, li_0, li_1, li_2, li_3, li_4, li_5, li_6, li_7, li_8, li_9, li_10, li_11, li_12, li_13, li_14, li_15, li_16, li_17, li_18, li_19, li_20, li_21, li_22, li_23, li_24, li_25, li_26, li_27, li_28, li_29, li_30, li_31, li_32, li_40, li_43, li_45, li_47, li_48, li_57, li_59, li_60, li_61, li_62, li_63, li_64, li_80, li_92, li_97, li_99, li_100, li_122, li_123, li_125, li_166, li_201, li_210, li_250, li_255, li_256, li_257, li_258, li_259, li_260, li_261, li_262, li_263, li_264, li_265, li_266, li_267, li_268, li_300, li_500, li_1000, li_12345, li_27720, li_1000000, li_1103515245, ne_m1, ne_m2, e3, o3, u3, r1]
      · refine ⟨(-1 : Int32), _, _, ?_, ?_, onlyU_R ho⟩
        · unfold mC_run mC_run_13 mC_run_69
          simp (disch := omega) only [↓reduceIte, h_let, hg_in, hg_zb, hg_z0, hg_z1, hg_nz, Option.bind_some, if_pos, if_neg, bI_0, bI_n0, nI_add, nI_mul, nI_ltI, nI_leI, nI_eq, nI_clamp, nI_subN, nI_divN, nI_mod2, nI_m1e, nI_em1, nI_m2e, nI_lt0, m1_lt0, m1_lt, m1_le, h_u_at, h_u_off2, h_u_pl, li_0, li_1, li_2, li_3, li_4, li_5, li_6, li_7, li_8, li_9, li_10, li_11, li_12, li_13, li_14, li_15, li_16, li_17, li_18, li_19, li_20, li_21, li_22, li_23, li_24, li_25, li_26, li_27, li_28, li_29, li_30, li_31, li_32, li_40, li_43, li_45, li_47, li_48, li_57, li_59, li_60, li_61, li_62, li_63, li_64, li_80, li_92, li_97, li_99, li_100, li_122, li_123, li_125, li_166, li_201, li_210, li_250, li_255, li_256, li_257, li_258, li_259, li_260, li_261, li_262, li_263, li_264, li_265, li_266, li_267, li_268, li_300, li_500, li_1000, li_12345, li_27720, li_1000000, li_1103515245, ne_m1, ne_m2, f1, c_refuse0, c_refuse1, hc.1, e2, o2]
        · unfold mM_run mM_run_56 mM_run_57
          simp (disch := omega) only [↓reduceIte, h_let, hg_in, hg_zb, hg_z0, hg_z1, hg_nz, Option.bind_some, if_pos, if_neg, bI_0, bI_n0, nI_add, nI_mul, nI_ltI, nI_leI, nI_eq, nI_clamp, nI_subN, nI_divN, nI_mod2, nI_m1e, nI_em1, nI_m2e, nI_lt0, m1_lt0, m1_lt, m1_le, h_u_at, h_u_off2, h_u_pl, li_0, li_1, li_2, li_3, li_4, li_5, li_6, li_7, li_8, li_9, li_10, li_11, li_12, li_13, li_14, li_15, li_16, li_17, li_18, li_19, li_20, li_21, li_22, li_23, li_24, li_25, li_26, li_27, li_28, li_29, li_30, li_31, li_32, li_40, li_43, li_45, li_47, li_48, li_57, li_59, li_60, li_61, li_62, li_63, li_64, li_80, li_92, li_97, li_99, li_100, li_122, li_123, li_125, li_166, li_201, li_210, li_250, li_255, li_256, li_257, li_258, li_259, li_260, li_261, li_262, li_263, li_264, li_265, li_266, li_267, li_268, li_300, li_500, li_1000, li_12345, li_27720, li_1000000, li_1103515245, ne_m1, ne_m2, e3, o3, r1]
    · refine ⟨(-1 : Int32), _, _, ?_, ?_, onlyU_R ho⟩
      · unfold mC_run mC_run_13 mC_run_69
        simp (disch := omega) only [↓reduceIte, h_let, hg_in, hg_zb, hg_z0, hg_z1, hg_nz, Option.bind_some, if_pos, if_neg, bI_0, bI_n0, nI_add, nI_mul, nI_ltI, nI_leI, nI_eq, nI_clamp, nI_subN, nI_divN, nI_mod2, nI_m1e, nI_em1, nI_m2e, nI_lt0, m1_lt0, m1_lt, m1_le, h_u_at, h_u_off2, h_u_pl, li_0, li_1, li_2, li_3, li_4, li_5, li_6, li_7, li_8, li_9, li_10, li_11, li_12, li_13, li_14, li_15, li_16, li_17, li_18, li_19, li_20, li_21, li_22, li_23, li_24, li_25, li_26, li_27, li_28, li_29, li_30, li_31, li_32, li_40, li_43, li_45, li_47, li_48, li_57, li_59, li_60, li_61, li_62, li_63, li_64, li_80, li_92, li_97, li_99, li_100, li_122, li_123, li_125, li_166, li_201, li_210, li_250, li_255, li_256, li_257, li_258, li_259, li_260, li_261, li_262, li_263, li_264, li_265, li_266, li_267, li_268, li_300, li_500, li_1000, li_12345, li_27720, li_1000000, li_1103515245, ne_m1, ne_m2, f1, c_refuse0, c_refuse1, hc.1, e2]
      · unfold mM_run mM_run_56 mM_run_57
        simp (disch := omega) only [↓reduceIte, h_let, hg_in, hg_zb, hg_z0, hg_z1, hg_nz, Option.bind_some, if_pos, if_neg, bI_0, bI_n0, nI_add, nI_mul, nI_ltI, nI_leI, nI_eq, nI_clamp, nI_subN, nI_divN, nI_mod2, nI_m1e, nI_em1, nI_m2e, nI_lt0, m1_lt0, m1_lt, m1_le, h_u_at, h_u_off2, h_u_pl, li_0, li_1, li_2, li_3, li_4, li_5, li_6, li_7, li_8, li_9, li_10, li_11, li_12, li_13, li_14, li_15, li_16, li_17, li_18, li_19, li_20, li_21, li_22, li_23, li_24, li_25, li_26, li_27, li_28, li_29, li_30, li_31, li_32, li_40, li_43, li_45, li_47, li_48, li_57, li_59, li_60, li_61, li_62, li_63, li_64, li_80, li_92, li_97, li_99, li_100, li_122, li_123, li_125, li_166, li_201, li_210, li_250, li_255, li_256, li_257, li_258, li_259, li_260, li_261, li_262, li_263, li_264, li_265, li_266, li_267, li_268, li_300, li_500, li_1000, li_12345, li_27720, li_1000000, li_1103515245, ne_m1, ne_m2, e3, r1]
end Rv
