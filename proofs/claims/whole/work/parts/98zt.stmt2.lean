/-! Statements: both readers read one (its begin, the kinds). -/
def cnP (s pk cc kd : Nat) : Prop := (kd = 258 ∨ kd = 259 ∨ kd = 261 ∨ (kd = 262 ∧ cc < 2) ∨ (kd = 263 ∧ pk < 3) ∨ kd = 264 ∨ kd = 265) ∧ s < 24
section Sx
variable {T : Nat → Nat} {N n p e t : Nat} {Ic Im : hI}
theorem lt_can {s pk cc kd : Nat} (h7 : Ic t 7 = nI s) (h8 : Ic t 8 = nI pk) (hs : s ≤ 24) (hpk : pk ≤ 3) (hcc : cc ≤ 2) (hk : kd < 269) (c : cnP s pk cc kd) : mLt_canBegin t (nI kd) (nI cc) Ic = nI 1 := by
  obtain ⟨c1, c2⟩ := c
  unfold mLt_canBegin
  rcases c1 with rfl | rfl | rfl | ⟨rfl, c3⟩ | ⟨rfl, c3⟩ | rfl | rfl <;> simp (disch := omega) only [↓reduceIte, hl_eq, hg_in, hg_zb, hg_z0, hg_z1, hg_nz, Option.bind_some, if_pos, if_neg, bI_0, bI_n0, nI_add, nI_mul, nI_ltI, nI_leI, nI_eq, nI_clamp, nI_subN, nI_divN, nI_mod2, nI_m1e, nI_em1, nI_m2e, nI_lt0, m1_lt0, m1_lt, m1_le, h_u_at, h_u_off2, h_u_pl, li_0, li_1, li_2, li_3, li_4, li_5, li_6, li_7, li_8, li_9, li_10, li_11, li_12, li_13, li_14, li_15, li_16, li_17, li_18, li_19, li_20, li_21, li_22, li_23, li_24, li_25, li_26, li_27, li_28, li_29, li_30, li_31, li_32, li_40, li_43, li_45, li_47, li_48, li_57, li_59, li_60, li_61, li_62, li_63, li_64, li_80, li_92, li_97, li_99, li_100, li_122, li_123, li_125, li_166, li_201, li_210, li_250, li_255, li_256, li_257, li_258, li_259, li_260, li_261, li_262, li_263, li_264, li_265, li_266, li_267, li_268, li_300, li_500, li_1000, li_12345, li_27720, li_1000000, li_1103515245, ne_m1, ne_m2, h7, h8]
theorem lt_cannot {s pk cc kd : Nat} (h7 : Ic t 7 = nI s) (h8 : Ic t 8 = nI pk) (hs : s ≤ 24) (hpk : pk ≤ 3) (hcc : cc ≤ 2) (hk : kd < 269) (c : ¬ cnP s pk cc kd) : mLt_canBegin t (nI kd) (nI cc) Ic = nI 0 := by
  unfold mLt_canBegin
  by_cases c2 : s < 24
  · have n0 : kd ≠ 258 := fun w => c ⟨Or.inl w, c2⟩
    have n1 : kd ≠ 259 := fun w => c ⟨Or.inr (Or.inl w), c2⟩
    have n2 : kd ≠ 261 := fun w => c ⟨Or.inr (Or.inr (Or.inl w)), c2⟩
    have n5 : kd ≠ 264 := fun w => c ⟨Or.inr (Or.inr (Or.inr (Or.inr (Or.inr (Or.inl w))))), c2⟩
    have n6 : kd ≠ 265 := fun w => c ⟨Or.inr (Or.inr (Or.inr (Or.inr (Or.inr (Or.inr w))))), c2⟩
    by_cases k3 : kd = 262
    · have n3 : 2 ≤ cc := by
        by_cases w : cc < 2
        · exact absurd ⟨Or.inr (Or.inr (Or.inr (Or.inl ⟨k3, w⟩))), c2⟩ c
        · omega
      subst k3
      simp (disch := omega) only [↓reduceIte, hl_eq, hg_in, hg_zb, hg_z0, hg_z1, hg_nz, Option.bind_some, if_pos, if_neg, bI_0, bI_n0, nI_add, nI_mul, nI_ltI, nI_leI, nI_eq, nI_clamp, nI_subN, nI_divN, nI_mod2, nI_m1e, nI_em1, nI_m2e, nI_lt0, m1_lt0, m1_lt, m1_le, h_u_at, h_u_off2, h_u_pl, li_0, li_1, li_2, li_3, li_4, li_5, li_6, li_7, li_8, li_9, li_10, li_11, li_12, li_13, li_14, li_15, li_16, li_17, li_18, li_19, li_20, li_21, li_22, li_23, li_24, li_25, li_26, li_27, li_28, li_29, li_30, li_31, li_32, li_40, li_43, li_45, li_47, li_48, li_57, li_59, li_60, li_61, li_62, li_63, li_64, li_80, li_92, li_97, li_99, li_100, li_122, li_123, li_125, li_166, li_201, li_210, li_250, li_255, li_256, li_257, li_258, li_259, li_260, li_261, li_262, li_263, li_264, li_265, li_266, li_267, li_268, li_300, li_500, li_1000, li_12345, li_27720, li_1000000, li_1103515245, ne_m1, ne_m2, h7, h8]
    · by_cases k4 : kd = 263
      · have n4 : 3 ≤ pk := by
          by_cases w : pk < 3
          · exact absurd ⟨Or.inr (Or.inr (Or.inr (Or.inr (Or.inl ⟨k4, w⟩)))), c2⟩ c
          · omega
        subst k4
        simp (disch := omega) only [↓reduceIte, hl_eq, hg_in, hg_zb, hg_z0, hg_z1, hg_nz, Option.bind_some, if_pos, if_neg, bI_0, bI_n0, nI_add, nI_mul, nI_ltI, nI_leI, nI_eq, nI_clamp, nI_subN, nI_divN, nI_mod2, nI_m1e, nI_em1, nI_m2e, nI_lt0, m1_lt0, m1_lt, m1_le, h_u_at, h_u_off2, h_u_pl, li_0, li_1, li_2, li_3, li_4, li_5, li_6, li_7, li_8, li_9, li_10, li_11, li_12, li_13, li_14, li_15, li_16, li_17, li_18, li_19, li_20, li_21, li_22, li_23, li_24, li_25, li_26, li_27, li_28, li_29, li_30, li_31, li_32, li_40, li_43, li_45, li_47, li_48, li_57, li_59, li_60, li_61, li_62, li_63, li_64, li_80, li_92, li_97, li_99, li_100, li_122, li_123, li_125, li_166, li_201, li_210, li_250, li_255, li_256, li_257, li_258, li_259, li_260, li_261, li_262, li_263, li_264, li_265, li_266, li_267, li_268, li_300, li_500, li_1000, li_12345, li_27720, li_1000000, li_1103515245, ne_m1, ne_m2, h7, h8]
      · by_cases k5 : kd = 260
        · subst k5
          simp (disch := omega) only [↓reduceIte, hl_eq, hg_in, hg_zb, hg_z0, hg_z1, hg_nz, Option.bind_some, if_pos, if_neg, bI_0, bI_n0, nI_add, nI_mul, nI_ltI, nI_leI, nI_eq, nI_clamp, nI_subN, nI_divN, nI_mod2, nI_m1e, nI_em1, nI_m2e, nI_lt0, m1_lt0, m1_lt, m1_le, h_u_at, h_u_off2, h_u_pl, li_0, li_1, li_2, li_3, li_4, li_5, li_6, li_7, li_8, li_9, li_10, li_11, li_12, li_13, li_14, li_15, li_16, li_17, li_18, li_19, li_20, li_21, li_22, li_23, li_24, li_25, li_26, li_27, li_28, li_29, li_30, li_31, li_32, li_40, li_43, li_45, li_47, li_48, li_57, li_59, li_60, li_61, li_62, li_63, li_64, li_80, li_92, li_97, li_99, li_100, li_122, li_123, li_125, li_166, li_201, li_210, li_250, li_255, li_256, li_257, li_258, li_259, li_260, li_261, li_262, li_263, li_264, li_265, li_266, li_267, li_268, li_300, li_500, li_1000, li_12345, li_27720, li_1000000, li_1103515245, ne_m1, ne_m2, h7, h8]
        · simp (disch := omega) only [↓reduceIte, hl_eq, hg_in, hg_zb, hg_z0, hg_z1, hg_nz, Option.bind_some, if_pos, if_neg, bI_0, bI_n0, nI_add, nI_mul, nI_ltI, nI_leI, nI_eq, nI_clamp, nI_subN, nI_divN, nI_mod2, nI_m1e, nI_em1, nI_m2e, nI_lt0, m1_lt0, m1_lt, m1_le, h_u_at, h_u_off2, h_u_pl, li_0, li_1, li_2, li_3, li_4, li_5, li_6, li_7, li_8, li_9, li_10, li_11, li_12, li_13, li_14, li_15, li_16, li_17, li_18, li_19, li_20, li_21, li_22, li_23, li_24, li_25, li_26, li_27, li_28, li_29, li_30, li_31, li_32, li_40, li_43, li_45, li_47, li_48, li_57, li_59, li_60, li_61, li_62, li_63, li_64, li_80, li_92, li_97, li_99, li_100, li_122, li_123, li_125, li_166, li_201, li_210, li_250, li_255, li_256, li_257, li_258, li_259, li_260, li_261, li_262, li_263, li_264, li_265, li_266, li_267, li_268, li_300, li_500, li_1000, li_12345, li_27720, li_1000000, li_1103515245, ne_m1, ne_m2, h7, h8]
  · simp (disch := omega) only [↓reduceIte, hl_eq, hg_in, hg_zb, hg_z0, hg_z1, hg_nz, Option.bind_some, if_pos, if_neg, bI_0, bI_n0, nI_add, nI_mul, nI_ltI, nI_leI, nI_eq, nI_clamp, nI_subN, nI_divN, nI_mod2, nI_m1e, nI_em1, nI_m2e, nI_lt0, m1_lt0, m1_lt, m1_le, h_u_at, h_u_off2, h_u_pl, li_0, li_1, li_2, li_3, li_4, li_5, li_6, li_7, li_8, li_9, li_10, li_11, li_12, li_13, li_14, li_15, li_16, li_17, li_18, li_19, li_20, li_21, li_22, li_23, li_24, li_25, li_26, li_27, li_28, li_29, li_30, li_31, li_32, li_40, li_43, li_45, li_47, li_48, li_57, li_59, li_60, li_61, li_62, li_63, li_64, li_80, li_92, li_97, li_99, li_100, li_122, li_123, li_125, li_166, li_201, li_210, li_250, li_255, li_256, li_257, li_258, li_259, li_260, li_261, li_262, li_263, li_264, li_265, li_266, li_267, li_268, li_300, li_500, li_1000, li_12345, li_27720, li_1000000, li_1103515245, ne_m1, ne_m2, h7, h8]
theorem iw_y (h : tkP T N n p 0 Ic Im) {j : Nat} (hj : j < 11) (hk : tkK T N p = 258 + j) : mM_isWord j Im = some (nI 1) := by
  rw [m_isWord h hj, decide_eq_true ⟨rfl, hk⟩]; rfl
theorem iw_n (h : tkP T N n p 0 Ic Im) {j : Nat} (hj : j < 11) (hk : ¬ tkK T N p = 258 + j) : mM_isWord j Im = some (nI 0) := by
  rw [m_isWord h hj, decide_eq_false (fun w => hk w.2)]; rfl
theorem m_isStm (h : tkP T N n p 0 Ic Im) : mM_isStatement Im = some (if tkK T N p = 258 ∨ tkK T N p = 259 ∨ tkK T N p = 261 ∨ tkK T N p = 262 ∨ tkK T N p = 263 ∨ tkK T N p = 264 ∨ tkK T N p = 265 then nI 1 else nI 0) := by
  have z0 : nI 0 = (0 : Int32) := rfl
  have z1 : ¬ nI 1 = (0 : Int32) := by decide
  unfold mM_isStatement
  by_cases c0 : tkK T N p = 258 + 0
  · rw [iw_y h (j := 0) (by omega) c0, Option.bind_some, if_neg z1, if_pos (by omega)]
    rfl
  · rw [iw_n h (j := 0) (by omega) c0, Option.bind_some, if_pos z0]
    by_cases c1 : tkK T N p = 258 + 1
    · rw [iw_y h (j := 1) (by omega) c1, Option.bind_some, if_neg z1, if_pos (by omega)]
      rfl
    · rw [iw_n h (j := 1) (by omega) c1, Option.bind_some, if_pos z0]
      by_cases c3 : tkK T N p = 258 + 3
      · rw [iw_y h (j := 3) (by omega) c3, Option.bind_some, if_neg z1, if_pos (by omega)]
        rfl
      · rw [iw_n h (j := 3) (by omega) c3, Option.bind_some, if_pos z0]
        by_cases c4 : tkK T N p = 258 + 4
        · rw [iw_y h (j := 4) (by omega) c4, Option.bind_some, if_neg z1, if_pos (by omega)]
          rfl
        · rw [iw_n h (j := 4) (by omega) c4, Option.bind_some, if_pos z0]
          by_cases c5 : tkK T N p = 258 + 5
          · rw [iw_y h (j := 5) (by omega) c5, Option.bind_some, if_neg z1, if_pos (by omega)]
            rfl
          · rw [iw_n h (j := 5) (by omega) c5, Option.bind_some, if_pos z0]
            by_cases c6 : tkK T N p = 258 + 6
            · rw [iw_y h (j := 6) (by omega) c6, Option.bind_some, if_neg z1, if_pos (by omega)]
              rfl
            · rw [iw_n h (j := 6) (by omega) c6, Option.bind_some, if_pos z0]
              by_cases c7 : tkK T N p = 258 + 7
              · rw [iw_y h (j := 7) (by omega) c7, Option.bind_some, if_neg z1, if_pos (by omega)]
                rfl
              · rw [iw_n h (j := 7) (by omega) c7, Option.bind_some, if_pos z0]
                rw [if_neg (by omega)]
                rfl
theorem m_stm_top {s pk cc : Nat} (h : tkP T N n p 0 Ic Im) (h24 : Im 0 24 = nI s) (h25 : Im 0 25 = nI pk) (h31 : Im 0 31 = nI cc) (hs : s ≤ 24) (hpk : pk ≤ 3) (hcc : cc ≤ 2) (rec : hI → Option (Int32 × hI)) : (cnP s pk cc (tkK T N p) → mM_readStatement rec Im = mM_readStatement_58 rec Im) ∧ (¬ cnP s pk cc (tkK T N p) → mM_readStatement rec Im = mM_readStatement_52 rec Im) := by
  have hk := (tk_kd h).1
  have z0 : nI 0 = (0 : Int32) := rfl
  have z1 : ¬ nI 1 = (0 : Int32) := by decide
  have top : mM_readStatement rec Im = if (if tkK T N p = 258 ∨ tkK T N p = 259 ∨ tkK T N p = 261 ∨ tkK T N p = 262 ∨ tkK T N p = 263 ∨ tkK T N p = 264 ∨ tkK T N p = 265 then nI 1 else nI 0) = (0 : Int32) then mM_readStatement_52 rec Im else (if nI s = (24 : Int32) then mM_readStatement_52 rec Im else ((mM_isWord 5 Im).bind fun q2 => if q2 = 0 then mM_readStatement_34 rec Im else (if nI pk = (3 : Int32) then mM_readStatement_52 rec Im else mM_readStatement_34 rec Im))) := by
    unfold mM_readStatement
    rw [m_isStm h, Option.bind_some, h24, h25]
  have t34 : mM_readStatement_34 rec Im = ((mM_isWord 4 Im).bind fun q1 => if q1 = 0 then mM_readStatement_58 rec Im else (if nI cc = (2 : Int32) then mM_readStatement_52 rec Im else mM_readStatement_58 rec Im)) := by
    unfold mM_readStatement_34
    rw [h31]
  have a34 : (tkK T N p = 262 → cc < 2) → mM_readStatement_34 rec Im = mM_readStatement_58 rec Im := fun w => by
    rw [t34]
    by_cases c : tkK T N p = 258 + 4
    · rw [iw_y h (by omega) c, Option.bind_some, if_neg z1, if_neg (fun q => by have := (nI_eq (by omega) (by omega)).mp (q.trans li_2); have := w (by omega); omega)]
    · rw [iw_n h (by omega) c, Option.bind_some, if_pos z0]
  have b34 : tkK T N p = 262 → ¬ cc < 2 → mM_readStatement_34 rec Im = mM_readStatement_52 rec Im := fun w1 w2 => by
    have e2 : cc = 2 := by omega
    rw [t34, iw_y h (j := 4) (by omega) w1, Option.bind_some, if_neg z1, if_pos (by rw [e2]; rfl)]
  constructor
  · rintro ⟨c1, c2⟩
    rw [top, if_neg, if_neg (fun q => by have := (nI_eq (by omega) (by omega)).mp (q.trans li_24); omega)]
    · by_cases c : tkK T N p = 258 + 5
      · rw [iw_y h (by omega) c, Option.bind_some, if_neg z1, if_neg (fun q => by have := (nI_eq (by omega) (by omega)).mp (q.trans li_3); omega), a34 (fun w => by omega)]
      · rw [iw_n h (by omega) c, Option.bind_some, if_pos z0, a34 (fun w => by omega)]
    · rw [if_pos (by omega)]
      exact z1
  · intro c
    rw [top]
    by_cases c1 : tkK T N p = 258 ∨ tkK T N p = 259 ∨ tkK T N p = 261 ∨ tkK T N p = 262 ∨ tkK T N p = 263 ∨ tkK T N p = 264 ∨ tkK T N p = 265
    · rw [if_pos c1, if_neg z1]
      by_cases c2 : s = 24
      · rw [if_pos (by rw [c2]; rfl)]
      · rw [if_neg (fun q => c2 ((nI_eq (by omega) (by omega)).mp (q.trans li_24)))]
        have hs2 : s < 24 := by omega
        by_cases c5 : tkK T N p = 258 + 5
        · have e3 : pk = 3 := by
            by_cases w : pk < 3
            · exact absurd ⟨Or.inr (Or.inr (Or.inr (Or.inr (Or.inl ⟨c5, w⟩)))), hs2⟩ c
            · omega
          rw [iw_y h (by omega) c5, Option.bind_some, if_neg z1, if_pos (by rw [e3]; rfl)]
        · rw [iw_n h (by omega) c5, Option.bind_some, if_pos z0]
          have c4 : tkK T N p = 262 := by
            by_cases w : tkK T N p = 262
            · exact w
            · exact absurd ⟨by omega, hs2⟩ c
          exact b34 c4 (fun w => c ⟨Or.inr (Or.inr (Or.inr (Or.inl ⟨c4, w⟩))), hs2⟩)
    · rw [if_neg c1, if_pos z0]
theorem ct_next {Im' : hI} {s kk kd : Nat} (h : ∀ y, y < s → Im' 9 y = Im 9 y) (h9 : Im' 9 s = nI kk) (h1 : kk < 2 ^ 31) (h2 : kd < 2 ^ 31) : ctK Im' kd (s + 1) = ctK Im kd s + (if kk = kd then 1 else 0) := by
  rw [ctK, ctK_congr s h, h9]
  by_cases c : kk = kd
  · rw [if_pos c, if_pos (by rw [c])]
  · rw [if_neg c, if_neg (fun w => c ((nI_eq h1 h2).mp w))]
theorem sum_bad (h : tkP T N n p e Ic Im) (he : 1 ≤ e) : ∃ Ic' : hI, mRd_readSum Ic = some Ic' ∧ tkP T N n p e Ic' Im ∧ frC2 Ic Ic' := by
  obtain ⟨I3, hI3⟩ : ∃ J, J = h_u (h_u (h_u Ic 1 9 (nI 0)) 1 10 (nI 0)) 1 11 (nI 0) := ⟨_, rfl⟩
  have f3 : ∀ c i, (c ≠ 1 ∨ i < 9 ∨ 11 < i) → I3 c i = Ic c i := fun c i w => by rw [hI3, hu_fr (by omega), hu_fr (by omega), hu_fr (by omega)]
  have h3 : tkP T N n p e I3 Im := tkP_of h (fun i _ => f3 1 i (by omega)) (fun c i _ _ => f3 c i (by omega)) (fun _ _ _ => rfl) (fun _ => rfl)
  have k0 := kd_isL h3 (v := 258) (x := 258) rfl (by omega)
  have k1 := kd_isL h3 (v := 259) (x := 259) rfl (by omega)
  have k2 := kd_isL h3 (v := 256) (x := 256) rfl (by omega)
  have k43 := kd_isL h3 (v := 43) (x := 43) rfl (by omega)
  have k45 := kd_isL h3 (v := 45) (x := 45) rfl (by omega)
  refine ⟨I3, ?_, h3, fun c i w => f3 c i (by omega)⟩
  have ep : mRd_readSumPart (1 : Int32) I3 = some I3 := by
    unfold mRd_readSumPart mRd_readSumPart_28 mRd_readSumPart_29 mRd_readSumPart_49 mRd_readSumPart_58
    rw [if_neg (fun w => by have := (k2.mp w).1; omega), if_pos rfl, if_pos rfl, if_neg (fun w => by have := (k0.mp w).1; omega), if_neg (fun w => by have := (k1.mp w).1; omega), if_pos rfl, fail_c ((kd_m1 h3).mpr he), Option.bind_some]
  unfold mRd_readSum
  rw [hl_eq, hl_eq, hl_eq]
  show mRd_readSum_B19 (mRd_readSum_L19 999) (1 : Int32) (0 : Int32) (h_u (h_u (h_u Ic 1 9 (nI 0)) 1 10 (nI 0)) 1 11 (nI 0)) = _
  rw [← hI3]
  unfold mRd_readSum_B19
  rw [if_neg (by decide), ep, Option.bind_some, if_neg (fun w => by have := (k43.mp w).1; omega), if_neg (fun w => by have := (k45.mp w).1; omega)]
/-- a fork's end is the statement's -/
theorem fork_fin {g dd s a k q p3 e3 k3 q3 p' e' : Nat} {v : Int32} {Ic3 Im3 Ic' Im' : hI} (hs : s < 24) (hc : FC t a k (ctK Im 2 s) Ic Ic3) (hm : FM s k q Im Im3) (hk : k ≤ k3) (hq : q ≤ q3) (hp : p < p3) (r3 : tkP T N n p' e' Ic' Im') (r4 : p3 ≤ p') (r5 : GC t Ic3 Ic') (r6 : FM s k3 q3 Im3 Im') (r7 : ∃ a', a' ≤ 48 ∧ Ic' t 3 = nI a') (r8 : e' = 0 → e3 = 0 ∧ p3 < p' ∧ ∃ s' a' pk' k' q' cc', v = nI cc' ∧ okS T N t g dd p' s' a' pk' k' q' cc' Ic' Im' ∧ FC t a k3 (ctK Im3 2 s) Ic3 Ic' ∧ (s < s' ∧ a ≤ a' ∧ k3 ≤ k' ∧ q3 ≤ q') ∧ stmR t (7 - dd) s s' a a' a' k' (ctK Im' 2 s') q' Ic' Im' ∧ Im' 15 s = (-1 : Int32)) : smR T N n t g dd p s a k q e' p' v (nI s) Ic Im Ic' Im' := by
  refine ⟨r3, by omega, GC_tr (GC_of hc) r5, FM_tr hm r6 (Nat.le_refl _) hk hq, r7, fun z => ?_⟩
  obtain ⟨b1, b2, s', a', pk', k', q', cc', b3, b4, b5, b6, b7, b8⟩ := r8 z
  have ec : ctK Im3 2 s = ctK Im 2 s := ctK_congr s (fun y hy => hm 9 y (by omega) (by omega) (by omega) (by omega))
  rw [ec] at b5
  exact ⟨by omega, s', a', pk', k', q', cc', b3, rfl, b4, FC_tr hc b5 (Nat.le_refl _) hk (Nat.le_refl _), by omega, b7, b8⟩
end Sx
