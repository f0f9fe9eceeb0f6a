/-! Parts of a text: the class splits it. -/
def tbN (T : Nat → Nat) (N a : Nat) : Nat := if a < N then T a else 0
theorem tb_in {T : Nat → Nat} {N a : Nat} (h : a < N) : tbN T N a = T a := if_pos h
theorem tb_out {T : Nat → Nat} {N a : Nat} (h : N ≤ a) : tbN T N a = 0 := if_neg (by omega)
theorem tb_lt {T : Nat → Nat} {N : Nat} (hT : ∀ i, i < N → 1 ≤ T i ∧ T i ≤ 255) (a : Nat) : tbN T N a < 256 := by
  unfold tbN
  split
  · rename_i h; have := hT a h; omega
  · omega
theorem tb_g {T : Nat → Nat} {N a : Nat} {g : Nat → Bool} (h0 : g 0 = false) (h : g (tbN T N a) = true) : a < N ∧ g (T a) = true := by
  by_cases c : a < N
  · rw [tb_in c] at h; exact ⟨c, h⟩
  · rw [tb_out (by omega), h0] at h; cases h
theorem rn_tn {T : Nat → Nat} {N a : Nat} {g : Nat → Bool} (h : ¬ g (tbN T N a) = true) : rn T N g a = a := by
  refine rn_n (fun c => ?_)
  rw [tb_in c] at h
  simpa using h
/-- the class holds the tape -/
def tpC (T : Nat → Nat) (N : Nat) (I : hI) : Prop := N ≤ 500 ∧ I 1 1 = nI N ∧ (∀ i, i < N → I 2 i = nI (T i)) ∧ ∀ i, i < N → 1 ≤ T i ∧ T i ≤ 255
theorem tpC_of {T : Nat → Nat} {N : Nat} {I I' : hI} (h : tpC T N I) (h1 : I' 1 1 = I 1 1) (h2 : ∀ i, I' 2 i = I 2 i) : tpC T N I' := ⟨h.1, by rw [h1]; exact h.2.1, fun i hi => by rw [h2]; exact h.2.2.1 i hi, h.2.2.2⟩
section Tk
variable {T : Nat → Nat} {N : Nat} {I : hI}
theorem rd_byteAt (h : tpC T N I) {a : Nat} (ha : a < 2 ^ 31) : mRd_byteAt (nI a) I = some (nI (tbN T N a)) := by
  obtain ⟨h1, h2, h3, h4⟩ := h
  unfold mRd_byteAt
  rw [h2]
  by_cases c : a < N
  · simp (disch := omega) only [↓reduceIte, hl_eq, hg_in, hg_zb, hg_z0, hg_z1, hg_nz, Option.bind_some, if_pos, if_neg, bI_0, bI_n0, nI_add, nI_mul, nI_ltI, nI_leI, nI_eq, nI_clamp, nI_subN, nI_divN, nI_mod2, nI_m1e, nI_em1, nI_m2e, nI_lt0, m1_lt0, m1_lt, m1_le, h_u_at, h_u_off2, h_u_pl, li_0, li_1, li_2, li_3, li_4, li_5, li_6, li_7, li_8, li_9, li_10, li_11, li_12, li_13, li_14, li_15, li_16, li_17, li_18, li_19, li_20, li_21, li_22, li_23, li_24, li_25, li_26, li_27, li_28, li_29, li_30, li_31, li_32, li_40, li_43, li_45, li_47, li_48, li_57, li_59, li_60, li_61, li_62, li_63, li_64, li_80, li_92, li_97, li_99, li_100, li_122, li_123, li_125, li_166, li_201, li_210, li_250, li_255, li_256, li_257, li_258, li_259, li_260, li_261, li_262, li_263, li_264, li_265, li_266, li_267, li_268, li_300, li_500, li_1000, li_12345, li_27720, li_1000000, li_1103515245, ne_m1, ne_m2, h3 a c, tb_in c]
  · simp (disch := omega) only [↓reduceIte, hl_eq, hg_in, hg_zb, hg_z0, hg_z1, hg_nz, Option.bind_some, if_pos, if_neg, bI_0, bI_n0, nI_add, nI_mul, nI_ltI, nI_leI, nI_eq, nI_clamp, nI_subN, nI_divN, nI_mod2, nI_m1e, nI_em1, nI_m2e, nI_lt0, m1_lt0, m1_lt, m1_le, h_u_at, h_u_off2, h_u_pl, li_0, li_1, li_2, li_3, li_4, li_5, li_6, li_7, li_8, li_9, li_10, li_11, li_12, li_13, li_14, li_15, li_16, li_17, li_18, li_19, li_20, li_21, li_22, li_23, li_24, li_25, li_26, li_27, li_28, li_29, li_30, li_31, li_32, li_40, li_43, li_45, li_47, li_48, li_57, li_59, li_60, li_61, li_62, li_63, li_64, li_80, li_92, li_97, li_99, li_100, li_122, li_123, li_125, li_166, li_201, li_210, li_250, li_255, li_256, li_257, li_258, li_259, li_260, li_261, li_262, li_263, li_264, li_265, li_266, li_267, li_268, li_300, li_500, li_1000, li_12345, li_27720, li_1000000, li_1103515245, ne_m1, ne_m2, tb_out (show N ≤ a by omega)]
theorem rd_isLetter {b : Nat} (hb : b < 2 ^ 31) : mRd_isLetter (nI b) = bI (isL b) := by
  unfold mRd_isLetter
  by_cases c1 : 97 ≤ b
  · by_cases c2 : b ≤ 122
    · have e : isL b = true := decide_eq_true ⟨c1, c2⟩
      rw [e, bI_t]
      simp (disch := omega) only [↓reduceIte, hl_eq, hg_in, hg_zb, hg_z0, hg_z1, hg_nz, Option.bind_some, if_pos, if_neg, bI_0, bI_n0, nI_add, nI_mul, nI_ltI, nI_leI, nI_eq, nI_clamp, nI_subN, nI_divN, nI_mod2, nI_m1e, nI_em1, nI_m2e, nI_lt0, m1_lt0, m1_lt, m1_le, h_u_at, h_u_off2, h_u_pl, li_0, li_1, li_2, li_3, li_4, li_5, li_6, li_7, li_8, li_9, li_10, li_11, li_12, li_13, li_14, li_15, li_16, li_17, li_18, li_19, li_20, li_21, li_22, li_23, li_24, li_25, li_26, li_27, li_28, li_29, li_30, li_31, li_32, li_40, li_43, li_45, li_47, li_48, li_57, li_59, li_60, li_61, li_62, li_63, li_64, li_80, li_92, li_97, li_99, li_100, li_122, li_123, li_125, li_166, li_201, li_210, li_250, li_255, li_256, li_257, li_258, li_259, li_260, li_261, li_262, li_263, li_264, li_265, li_266, li_267, li_268, li_300, li_500, li_1000, li_12345, li_27720, li_1000000, li_1103515245, ne_m1, ne_m2]
    · have e : isL b = false := decide_eq_false (by omega)
      rw [e, bI_f]
      simp (disch := omega) only [↓reduceIte, hl_eq, hg_in, hg_zb, hg_z0, hg_z1, hg_nz, Option.bind_some, if_pos, if_neg, bI_0, bI_n0, nI_add, nI_mul, nI_ltI, nI_leI, nI_eq, nI_clamp, nI_subN, nI_divN, nI_mod2, nI_m1e, nI_em1, nI_m2e, nI_lt0, m1_lt0, m1_lt, m1_le, h_u_at, h_u_off2, h_u_pl, li_0, li_1, li_2, li_3, li_4, li_5, li_6, li_7, li_8, li_9, li_10, li_11, li_12, li_13, li_14, li_15, li_16, li_17, li_18, li_19, li_20, li_21, li_22, li_23, li_24, li_25, li_26, li_27, li_28, li_29, li_30, li_31, li_32, li_40, li_43, li_45, li_47, li_48, li_57, li_59, li_60, li_61, li_62, li_63, li_64, li_80, li_92, li_97, li_99, li_100, li_122, li_123, li_125, li_166, li_201, li_210, li_250, li_255, li_256, li_257, li_258, li_259, li_260, li_261, li_262, li_263, li_264, li_265, li_266, li_267, li_268, li_300, li_500, li_1000, li_12345, li_27720, li_1000000, li_1103515245, ne_m1, ne_m2]
  · have e : isL b = false := decide_eq_false (by omega)
    rw [e, bI_f]
    simp (disch := omega) only [↓reduceIte, hl_eq, hg_in, hg_zb, hg_z0, hg_z1, hg_nz, Option.bind_some, if_pos, if_neg, bI_0, bI_n0, nI_add, nI_mul, nI_ltI, nI_leI, nI_eq, nI_clamp, nI_subN, nI_divN, nI_mod2, nI_m1e, nI_em1, nI_m2e, nI_lt0, m1_lt0, m1_lt, m1_le, h_u_at, h_u_off2, h_u_pl, li_0, li_1, li_2, li_3, li_4, li_5, li_6, li_7, li_8, li_9, li_10, li_11, li_12, li_13, li_14, li_15, li_16, li_17, li_18, li_19, li_20, li_21, li_22, li_23, li_24, li_25, li_26, li_27, li_28, li_29, li_30, li_31, li_32, li_40, li_43, li_45, li_47, li_48, li_57, li_59, li_60, li_61, li_62, li_63, li_64, li_80, li_92, li_97, li_99, li_100, li_122, li_123, li_125, li_166, li_201, li_210, li_250, li_255, li_256, li_257, li_258, li_259, li_260, li_261, li_262, li_263, li_264, li_265, li_266, li_267, li_268, li_300, li_500, li_1000, li_12345, li_27720, li_1000000, li_1103515245, ne_m1, ne_m2]
theorem rd_isDigit {b : Nat} (hb : b < 2 ^ 31) : mRd_isDigit (nI b) = bI (isD b) := by
  unfold mRd_isDigit
  by_cases c1 : 48 ≤ b
  · by_cases c2 : b ≤ 57
    · have e : isD b = true := decide_eq_true ⟨c1, c2⟩
      rw [e, bI_t]
      simp (disch := omega) only [↓reduceIte, hl_eq, hg_in, hg_zb, hg_z0, hg_z1, hg_nz, Option.bind_some, if_pos, if_neg, bI_0, bI_n0, nI_add, nI_mul, nI_ltI, nI_leI, nI_eq, nI_clamp, nI_subN, nI_divN, nI_mod2, nI_m1e, nI_em1, nI_m2e, nI_lt0, m1_lt0, m1_lt, m1_le, h_u_at, h_u_off2, h_u_pl, li_0, li_1, li_2, li_3, li_4, li_5, li_6, li_7, li_8, li_9, li_10, li_11, li_12, li_13, li_14, li_15, li_16, li_17, li_18, li_19, li_20, li_21, li_22, li_23, li_24, li_25, li_26, li_27, li_28, li_29, li_30, li_31, li_32, li_40, li_43, li_45, li_47, li_48, li_57, li_59, li_60, li_61, li_62, li_63, li_64, li_80, li_92, li_97, li_99, li_100, li_122, li_123, li_125, li_166, li_201, li_210, li_250, li_255, li_256, li_257, li_258, li_259, li_260, li_261, li_262, li_263, li_264, li_265, li_266, li_267, li_268, li_300, li_500, li_1000, li_12345, li_27720, li_1000000, li_1103515245, ne_m1, ne_m2]
    · have e : isD b = false := decide_eq_false (by omega)
      rw [e, bI_f]
      simp (disch := omega) only [↓reduceIte, hl_eq, hg_in, hg_zb, hg_z0, hg_z1, hg_nz, Option.bind_some, if_pos, if_neg, bI_0, bI_n0, nI_add, nI_mul, nI_ltI, nI_leI, nI_eq, nI_clamp, nI_subN, nI_divN, nI_mod2, nI_m1e, nI_em1, nI_m2e, nI_lt0, m1_lt0, m1_lt, m1_le, h_u_at, h_u_off2, h_u_pl, li_0, li_1, li_2, li_3, li_4, li_5, li_6, li_7, li_8, li_9, li_10, li_11, li_12, li_13, li_14, li_15, li_16, li_17, li_18, li_19, li_20, li_21, li_22, li_23, li_24, li_25, li_26, li_27, li_28, li_29, li_30, li_31, li_32, li_40, li_43, li_45, li_47, li_48, li_57, li_59, li_60, li_61, li_62, li_63, li_64, li_80, li_92, li_97, li_99, li_100, li_122, li_123, li_125, li_166, li_201, li_210, li_250, li_255, li_256, li_257, li_258, li_259, li_260, li_261, li_262, li_263, li_264, li_265, li_266, li_267, li_268, li_300, li_500, li_1000, li_12345, li_27720, li_1000000, li_1103515245, ne_m1, ne_m2]
  · have e : isD b = false := decide_eq_false (by omega)
    rw [e, bI_f]
    simp (disch := omega) only [↓reduceIte, hl_eq, hg_in, hg_zb, hg_z0, hg_z1, hg_nz, Option.bind_some, if_pos, if_neg, bI_0, bI_n0, nI_add, nI_mul, nI_ltI, nI_leI, nI_eq, nI_clamp, nI_subN, nI_divN, nI_mod2, nI_m1e, nI_em1, nI_m2e, nI_lt0, m1_lt0, m1_lt, m1_le, h_u_at, h_u_off2, h_u_pl, li_0, li_1, li_2, li_3, li_4, li_5, li_6, li_7, li_8, li_9, li_10, li_11, li_12, li_13, li_14, li_15, li_16, li_17, li_18, li_19, li_20, li_21, li_22, li_23, li_24, li_25, li_26, li_27, li_28, li_29, li_30, li_31, li_32, li_40, li_43, li_45, li_47, li_48, li_57, li_59, li_60, li_61, li_62, li_63, li_64, li_80, li_92, li_97, li_99, li_100, li_122, li_123, li_125, li_166, li_201, li_210, li_250, li_255, li_256, li_257, li_258, li_259, li_260, li_261, li_262, li_263, li_264, li_265, li_266, li_267, li_268, li_300, li_500, li_1000, li_12345, li_27720, li_1000000, li_1103515245, ne_m1, ne_m2]
theorem sp_L (h : tpC T N I) {s j : Nat} (hj : j < 11) (hz : s + wl j ≤ N) : ∀ (r i fuel : Nat), i + r = wl j → r < fuel → mRd_spells_L15 fuel (nI s) j (nI i) I = some (bI (spF T s j r i)) := by
  have hw := wl_le j hj
  have hN := h.1
  intro r
  induction r with
  | zero =>
    intro i fuel hi hf
    obtain ⟨fuel, rfl⟩ : ∃ m, fuel = m + 1 := ⟨fuel - 1, by omega⟩
    show mRd_spells_B15 (mRd_spells_L15 fuel) _ _ _ _ = _
    unfold mRd_spells_B15
    rw [sl_w, if_pos ((nI_leI (by omega) (by omega)).mpr (by omega)), spF]
    rfl
  | succ r ih =>
    intro i fuel hi hf
    obtain ⟨fuel, rfl⟩ : ∃ m, fuel = m + 1 := ⟨fuel - 1, by omega⟩
    have hb := rd_byteAt h (a := s + i) (by omega)
    rw [tb_in (by omega)] at hb
    have hT := h.2.2.2 (s + i) (by omega)
    have hwb := wb_lt j hj i (by omega)
    have hg : i < h_len.getD j 0 := (show i < wl j by omega)
    have hg2 : h_len.getD j 0 < 2 ^ 31 := (show wl j < 2 ^ 31 by omega)
    show mRd_spells_B15 (mRd_spells_L15 fuel) _ _ _ _ = _
    unfold mRd_spells_B15
    rw [sl_w, if_neg (fun q => by have := (nI_leI (by omega) (by omega)).mp q; omega), nI_add, hb, Option.bind_some, hg_in _ hg hg2, sc_w j hj i (by omega)]
    by_cases c : T (s + i) = wb j i
    · rw [if_pos (by rw [c]), li_1, nI_add, ih (i + 1) fuel (by omega) (by omega), spF, if_pos c]
    · rw [if_neg (fun q => c ((nI_eq (by omega) (by omega)).mp q)), spF, if_neg c]
      rfl
theorem rd_spells (h : tpC T N I) {s z j : Nat} (hs : s ≤ z) (hz : z ≤ N) (hj : j < 11) : mRd_spells (nI s) (nI z) j I = some (bI (spl T s z j)) := by
  have hw := wl_le j hj
  have hN := h.1
  unfold mRd_spells spl
  rw [nI_subN hs, sl_w]
  by_cases c : z - s = wl j
  · rw [if_pos (by rw [c]), li_0, sp_L h hj (by omega) (wl j) 0 hF (by omega) (by unfold hF; omega), decide_eq_true c, Bool.true_and]
  · rw [if_neg (fun q => c ((nI_eq (by omega) (by omega)).mp q)), decide_eq_false c, Bool.false_and]
    rfl
theorem rd_wordKind (h : tpC T N I) {s z : Nat} (hs : s ≤ z) (hz : z ≤ N) : mRd_wordKind (nI s) (nI z) I = some (nI (wkN T s z)) := by
  have e : ∀ j, j < 11 → mRd_spells (nI s) (nI z) j I = some (bI (spl T s z j)) := fun j hj => rd_spells h hs hz hj
  have n1 : ¬ bI true = (0 : Int32) := by decide
  have n0 : bI false = (0 : Int32) := rfl
  have ft : ¬ false = true := by decide
  unfold mRd_wordKind wkN
  rw [e 0 (by decide), Option.bind_some, wkF]
  cases spl T s z 0
  · rw [if_pos n0, if_neg ft]
    rw [e 1 (by decide), Option.bind_some, wkF]
    cases spl T s z 1
    · rw [if_pos n0, if_neg ft]
      rw [e 2 (by decide), Option.bind_some, wkF]
      cases spl T s z 2
      · rw [if_pos n0, if_neg ft]
        rw [e 3 (by decide), Option.bind_some, wkF]
        cases spl T s z 3
        · rw [if_pos n0, if_neg ft]
          rw [e 4 (by decide), Option.bind_some, wkF]
          cases spl T s z 4
          · rw [if_pos n0, if_neg ft]
            rw [e 5 (by decide), Option.bind_some, wkF]
            cases spl T s z 5
            · rw [if_pos n0, if_neg ft]
              rw [e 6 (by decide), Option.bind_some, wkF]
              cases spl T s z 6
              · rw [if_pos n0, if_neg ft]
                rw [e 7 (by decide), Option.bind_some, wkF]
                cases spl T s z 7
                · rw [if_pos n0, if_neg ft]
                  rw [e 8 (by decide), Option.bind_some, wkF]
                  cases spl T s z 8
                  · rw [if_pos n0, if_neg ft]
                    rw [e 9 (by decide), Option.bind_some, wkF]
                    cases spl T s z 9
                    · rw [if_pos n0, if_neg ft]
                      rw [e 10 (by decide), Option.bind_some, wkF]
                      cases spl T s z 10
                      · rw [if_pos n0, if_neg ft]
                        rfl
                      · rw [if_neg n1, if_pos rfl]
                        rfl
                    · rw [if_neg n1, if_pos rfl]
                      rfl
                  · rw [if_neg n1, if_pos rfl]
                    rfl
                · rw [if_neg n1, if_pos rfl]
                  rfl
              · rw [if_neg n1, if_pos rfl]
                rfl
            · rw [if_neg n1, if_pos rfl]
              rfl
          · rw [if_neg n1, if_pos rfl]
            rfl
        · rw [if_neg n1, if_pos rfl]
          rfl
      · rw [if_neg n1, if_pos rfl]
        rfl
    · rw [if_neg n1, if_pos rfl]
      rfl
  · rw [if_neg n1, if_pos rfl]
    rfl
theorem ap_L58 (h : tpC T N I) {s : Nat} : ∀ (r z fuel i : Nat), z + r = N → r < fuel → i < z → mRd_addPart_L58 fuel (nI s) (nI z) (nI i) I = mRd_addPart_86 (nI s) (nI (rn T N isL z)) I := by
  have hN := h.1
  intro r
  induction r with
  | zero =>
    intro z fuel i hz hf hi
    obtain ⟨fuel, rfl⟩ : ∃ m, fuel = m + 1 := ⟨fuel - 1, by omega⟩
    have hb := rd_byteAt h (a := z) (by omega)
    rw [tb_out (by omega)] at hb
    show mRd_addPart_B58 (mRd_addPart_L58 fuel) _ _ _ _ = _
    unfold mRd_addPart_B58
    rw [li_500, if_neg (fun q => by have := (nI_leI (by omega) (by omega)).mp q; omega), hb, Option.bind_some, if_pos (by decide), rn_n (fun q => by omega)]
  | succ r ih =>
    intro z fuel i hz hf hi
    obtain ⟨fuel, rfl⟩ : ∃ m, fuel = m + 1 := ⟨fuel - 1, by omega⟩
    have hT := h.2.2.2 z (by omega)
    have hb := rd_byteAt h (a := z) (by omega)
    rw [tb_in (by omega)] at hb
    show mRd_addPart_B58 (mRd_addPart_L58 fuel) _ _ _ _ = _
    unfold mRd_addPart_B58
    rw [li_500, if_neg (fun q => by have := (nI_leI (by omega) (by omega)).mp q; omega), hb, Option.bind_some, rd_isLetter (by omega)]
    cases c : isL (T z)
    · rw [if_pos (by decide), rn_n (fun _ => c)]
    · rw [if_neg (by decide), li_1, nI_add, nI_add, ih (z + 1) fuel (i + 1) (by omega) (by omega) (by omega), rn_y (by omega) c]
theorem ap_L114 (h : tpC T N I) {s : Nat} : ∀ (r z fuel i : Nat), z + r = N → r < fuel → i < z → mRd_addPart_L114 fuel (nI s) (nI z) (nI i) I = mRd_addPart_142 (nI s) (nI (rn T N isD z)) I := by
  have hN := h.1
  intro r
  induction r with
  | zero =>
    intro z fuel i hz hf hi
    obtain ⟨fuel, rfl⟩ : ∃ m, fuel = m + 1 := ⟨fuel - 1, by omega⟩
    have hb := rd_byteAt h (a := z) (by omega)
    rw [tb_out (by omega)] at hb
    show mRd_addPart_B114 (mRd_addPart_L114 fuel) _ _ _ _ = _
    unfold mRd_addPart_B114
    rw [li_500, if_neg (fun q => by have := (nI_leI (by omega) (by omega)).mp q; omega), hb, Option.bind_some, if_pos (by decide), rn_n (fun q => by omega)]
  | succ r ih =>
    intro z fuel i hz hf hi
    obtain ⟨fuel, rfl⟩ : ∃ m, fuel = m + 1 := ⟨fuel - 1, by omega⟩
    have hT := h.2.2.2 z (by omega)
    have hb := rd_byteAt h (a := z) (by omega)
    rw [tb_in (by omega)] at hb
    show mRd_addPart_B114 (mRd_addPart_L114 fuel) _ _ _ _ = _
    unfold mRd_addPart_B114
    rw [li_500, if_neg (fun q => by have := (nI_leI (by omega) (by omega)).mp q; omega), hb, Option.bind_some, rd_isDigit (by omega)]
    cases c : isD (T z)
    · rw [if_pos (by decide), rn_n (fun _ => c)]
    · rw [if_neg (by decide), li_1, nI_add, nI_add, ih (z + 1) fuel (i + 1) (by omega) (by omega) (by omega), rn_y (by omega) c]
theorem rd_numberAt (h : tpC T N I) {s : Nat} (hs : s < N) (hd : isD (T s) = true) : mRd_numberAt (nI s) (nI (rn T N isD (s + 1))) I = some (nI (nvF T s (rn T N isD (s + 1)))) := by
  have hN := h.1
  have hle := rn_le (T := T) (g := isD) (show s + 1 ≤ N by omega)
  obtain ⟨_, _, b3⟩ := nvF_bd hs hd
  have d1 := of_decide_eq_true hd
  generalize hz : rn T N isD (s + 1) = z at hle b3
  have hb := rd_byteAt h (a := z - 1) (by omega)
  have hb2 := rd_byteAt h (a := s) (by omega)
  rw [tb_in (by omega)] at hb hb2
  unfold mRd_numberAt nvF
  rw [li_1, nI_subN (by omega), hb, Option.bind_some, hl_eq, nI_subN (by omega)]
  by_cases c1 : z - s = 1
  · have e : z - 1 = s := by omega
    rw [if_pos (by rw [c1]), if_pos c1, e, li_48, nI_subN (by omega)]
  · rw [if_neg (fun q => c1 ((nI_eq (by omega) (by omega)).mp q)), if_neg c1, li_2]
    by_cases c2 : z - s = 2
    · obtain ⟨d2, _⟩ := b3 c2
      have d3 := of_decide_eq_true d2
      have e : z - 1 = s + 1 := by omega
      rw [if_pos (by rw [c2]), if_pos c2, hb2, Option.bind_some, e, li_48, li_10, nI_subN (by omega), nI_subN (by omega), nI_mul, nI_add]
    · rw [if_neg (fun q => c2 ((nI_eq (by omega) (by omega)).mp q)), if_neg c2]
      rfl
theorem rd_addPart (h : tpC T N I) {s k : Nat} (hs : s < N) (h5 : I 1 5 = nI k) (hk : k < 500) : ∃ I' : hI, mRd_addPart (nI s) I = some (nI (tkE T N s), I') ∧ I' 1 5 = nI (k + 1) ∧ I' 3 k = nI (kdF T N s (tkE T N s)) ∧ I' 4 k = nI s ∧ (kdF T N s (tkE T N s) = 256 → I' 5 k = nI (nvF T s (tkE T N s))) ∧ ∀ c i, (c ≠ 1 ∨ i ≠ 5) → (c < 3 ∨ 5 < c ∨ i ≠ k) → I' c i = I c i := by
  have hN := h.1
  have hT := h.2.2.2 s hs
  have hb := rd_byteAt h (a := s) (by omega)
  rw [tb_in hs] at hb
  have o : mC_isOutside (nI k) (500 : Int32) = nI 0 := by unfold mC_isOutside; simp (disch := omega) only [↓reduceIte, hl_eq, hg_in, hg_zb, hg_z0, hg_z1, hg_nz, Option.bind_some, if_pos, if_neg, bI_0, bI_n0, nI_add, nI_mul, nI_ltI, nI_leI, nI_eq, nI_clamp, nI_subN, nI_divN, nI_mod2, nI_m1e, nI_em1, nI_m2e, nI_lt0, m1_lt0, m1_lt, m1_le, h_u_at, h_u_off2, h_u_pl, li_0, li_1, li_2, li_3, li_4, li_5, li_6, li_7, li_8, li_9, li_10, li_11, li_12, li_13, li_14, li_15, li_16, li_17, li_18, li_19, li_20, li_21, li_22, li_23, li_24, li_25, li_26, li_27, li_28, li_29, li_30, li_31, li_32, li_40, li_43, li_45, li_47, li_48, li_57, li_59, li_60, li_61, li_62, li_63, li_64, li_80, li_92, li_97, li_99, li_100, li_122, li_123, li_125, li_166, li_201, li_210, li_250, li_255, li_256, li_257, li_258, li_259, li_260, li_261, li_262, li_263, li_264, li_265, li_266, li_267, li_268, li_300, li_500, li_1000, li_12345, li_27720, li_1000000, li_1103515245, ne_m1, ne_m2]
  obtain ⟨I6, hI6⟩ : ∃ J, J = h_u (h_u I 3 k (nI (T s))) 4 k (nI s) := ⟨_, rfl⟩
  have f6 : ∀ c i, (c ≠ 3 ∨ i ≠ k) → (c ≠ 4 ∨ i ≠ k) → I6 c i = I c i := fun c i q1 q2 => by
    rw [hI6]
    by_cases e4 : c = 4
    · subst e4; rw [h_u_pl _ _ _ (by omega), h_u_off2 _ _ _ _ (by decide)]
    · rw [h_u_off2 _ _ _ _ e4]
      by_cases e3 : c = 3
      · subst e3; rw [h_u_pl _ _ _ (by omega)]
      · rw [h_u_off2 _ _ _ _ e3]
  have h6 : tpC T N I6 := tpC_of h (f6 1 1 (by omega) (by omega)) (fun i => f6 2 i (by omega) (by omega))
  have e5 : I6 1 5 = nI k := by rw [f6 1 5 (by omega) (by omega)]; exact h5
  have e3 : I6 3 k = nI (T s) := by rw [hI6, h_u_off2 _ _ _ _ (by decide), h_u_at]
  have e4 : I6 4 k = nI s := by rw [hI6, h_u_at]
  have top : ∀ b1 b2, mRd_isLetter (nI (T s)) = bI b1 → mRd_isDigit (nI (T s)) = bI b2 → mRd_addPart (nI s) I = if bI b1 = nI 0 then (if bI b2 = nI 0 then mRd_addPart_169 (nI (s + 1)) I6 else mRd_addPart_L114 hF (nI s) (nI (s + 1)) (nI 0) I6) else mRd_addPart_L58 hF (nI s) (nI (s + 1)) (nI 0) I6 := by
    intro b1 b2 q1 q2
    unfold mRd_addPart
    rw [h5, o, if_pos (show nI 0 = (0 : Int32) from rfl), hb, Option.bind_some, hl_eq, hg_in _ (by omega) (by omega), hl_eq, nI_clamp (by omega)]
    rw [h_u_off2 _ _ _ _ (by decide), h5, hg_in _ (by omega) (by omega), hl_eq, nI_clamp (by omega), ← hI6, q1, q2, li_0, li_1, nI_add]
  rw [top _ _ (rd_isLetter (by omega)) (rd_isDigit (by omega))]
  cases c1 : isL (T s)
  · rw [if_pos (by decide)]
    cases c2 : isD (T s)
    · have eE : tkE T N s = s + 1 := by unfold tkE; rw [if_pos hs, c1, c2]; rfl
      have eK : kdF T N s (s + 1) = T s := by unfold kdF; rw [if_pos hs, c1, c2]; rfl
      rw [if_pos (by decide), eE, eK]
      refine ⟨h_u I6 1 5 (nI (k + 1)), ?_, h_u_at _ _ _ _, ?_, ?_, fun q => by omega, fun c i q1 q2 => ?_⟩
      · unfold mRd_addPart_169
        rw [hl_eq, e5, li_1, nI_add]
      · rw [h_u_off2 _ _ _ _ (by decide)]; exact e3
      · rw [h_u_off2 _ _ _ _ (by decide)]; exact e4
      · by_cases e : c = 1
        · subst e; rw [h_u_pl _ _ _ (by omega)]; exact f6 _ _ (by omega) (by omega)
        · rw [h_u_off2 _ _ _ _ e]; exact f6 _ _ (by omega) (by omega)
    · have eE : tkE T N s = rn T N isD (s + 1) := by unfold tkE; rw [if_pos hs, c1, c2]; rfl
      have eK : kdF T N s (rn T N isD (s + 1)) = 256 := by unfold kdF; rw [if_pos hs, c1, c2]; rfl
      have h7 : tpC T N (h_u I6 3 k (nI 256)) := tpC_of h6 (h_u_off2 _ _ _ _ (by decide)) (fun i => h_u_off2 _ _ _ _ (by decide))
      have en := rd_numberAt h7 hs c2
      rw [if_neg (by decide), ap_L114 h6 (N - (s + 1)) (s + 1) hF 0 (by omega) (by unfold hF; omega) (by omega), eE, eK]
      refine ⟨h_u (h_u (h_u I6 3 k (nI 256)) 5 k (nI (nvF T s (rn T N isD (s + 1))))) 1 5 (nI (k + 1)), ?_, h_u_at _ _ _ _, ?_, ?_, fun _ => ?_, fun c i q1 q2 => ?_⟩
      · unfold mRd_addPart_142 mRd_addPart_169
        rw [e5, hg_in _ (by omega) (by omega), hl_eq, nI_clamp (by omega), li_256, en, Option.bind_some]
        rw [h_u_off2 _ _ _ _ (by decide), e5, hg_in _ (by omega) (by omega), hl_eq, nI_clamp (by omega), hl_eq]
        rw [h_u_off2 _ _ _ _ (by decide), h_u_off2 _ _ _ _ (by decide), e5, li_1, nI_add]
      · rw [h_u_off2 _ _ _ _ (by decide), h_u_off2 _ _ _ _ (by decide), h_u_at]
      · rw [h_u_off2 _ _ _ _ (by decide), h_u_off2 _ _ _ _ (by decide), h_u_off2 _ _ _ _ (by decide)]; exact e4
      · rw [h_u_off2 _ _ _ _ (by decide), h_u_at]
      · by_cases e : c = 1
        · subst e; rw [h_u_pl _ _ _ (by omega), h_u_off2 _ _ _ _ (by decide), h_u_off2 _ _ _ _ (by decide)]; exact f6 _ _ (by omega) (by omega)
        · rw [h_u_off2 _ _ _ _ e]
          by_cases e5 : c = 5
          · subst e5; rw [h_u_pl _ _ _ (by omega), h_u_off2 _ _ _ _ (by decide)]; exact f6 _ _ (by omega) (by omega)
          · rw [h_u_off2 _ _ _ _ e5]
            by_cases e3 : c = 3
            · subst e3; rw [h_u_pl _ _ _ (by omega)]; exact f6 _ _ (by omega) (by omega)
            · rw [h_u_off2 _ _ _ _ e3]; exact f6 _ _ (by omega) (by omega)
  · have eE : tkE T N s = rn T N isL (s + 1) := by unfold tkE; rw [if_pos hs, c1]; rfl
    have eK : kdF T N s (rn T N isL (s + 1)) = wkN T s (rn T N isL (s + 1)) := by unfold kdF; rw [if_pos hs, c1]; rfl
    have hle := rn_le (T := T) (g := isL) (show s + 1 ≤ N by omega)
    have hwk := wkN_bd T s (rn T N isL (s + 1))
    have ew := rd_wordKind h6 (s := s) (z := rn T N isL (s + 1)) (by omega) (by omega)
    rw [if_neg (by decide), ap_L58 h6 (N - (s + 1)) (s + 1) hF 0 (by omega) (by unfold hF; omega) (by omega), eE, eK]
    refine ⟨h_u (h_u I6 3 k (nI (wkN T s (rn T N isL (s + 1))))) 1 5 (nI (k + 1)), ?_, h_u_at _ _ _ _, ?_, ?_, fun q => by omega, fun c i q1 q2 => ?_⟩
    · unfold mRd_addPart_86 mRd_addPart_169
      rw [ew, Option.bind_some, e5, hg_in _ (by omega) (by omega), hl_eq, nI_clamp (by omega), hl_eq]
      rw [h_u_off2 _ _ _ _ (by decide), e5, li_1, nI_add]
    · rw [h_u_off2 _ _ _ _ (by decide), h_u_at]
    · rw [h_u_off2 _ _ _ _ (by decide), h_u_off2 _ _ _ _ (by decide)]; exact e4
    · by_cases e : c = 1
      · subst e; rw [h_u_pl _ _ _ (by omega), h_u_off2 _ _ _ _ (by decide)]; exact f6 _ _ (by omega) (by omega)
      · rw [h_u_off2 _ _ _ _ e]
        by_cases e3 : c = 3
        · subst e3; rw [h_u_pl _ _ _ (by omega)]; exact f6 _ _ (by omega) (by omega)
        · rw [h_u_off2 _ _ _ _ e3]; exact f6 _ _ (by omega) (by omega)
/-- the class's list of parts -/
def tkC (T : Nat → Nat) (N n : Nat) (I : hI) : Prop := (∀ j, j < n → tkS T N j < N ∧ I 3 j = nI (tkK T N j) ∧ I 4 j = nI (tkS T N j) ∧ (tkK T N j = 256 → I 5 j = nI (tkV T N j)))
theorem op_L : ∀ (m r a k fuel i : Nat) (I : hI), r ≤ m → a + r = N → r < fuel → i ≤ a → k ≤ a → tpC T N I → I 1 5 = nI k → tkS T N k = rn T N isB a → tkC T N k I → ∃ (n : Nat) (I' : hI), mRd_open_L9 fuel (nI a) (nI i) I = mRd_open_52 I' ∧ n ≤ N ∧ tkS T N n = N ∧ tkC T N n I' ∧ I' 1 5 = nI n ∧ ∀ c i, (c ≠ 1 ∨ i ≠ 5) → (c < 3 ∨ 5 < c) → I' c i = I c i := by
  intro m
  induction m with
  | zero =>
    intro r a k fuel i I hm ha hf hi hk h h5 hS hC
    have hN := h.1
    obtain ⟨fuel, rfl⟩ : ∃ m, fuel = m + 1 := ⟨fuel - 1, by omega⟩
    refine ⟨k, I, ?_, by omega, ?_, hC, h5, fun _ _ _ _ => rfl⟩
    · show mRd_open_B9 (mRd_open_L9 fuel) _ _ _ = _
      unfold mRd_open_B9
      rw [h.2.1, if_pos ((nI_leI (by omega) (by omega)).mpr (by omega : N ≤ a))]
      split <;> rfl
    · rw [hS, rn_n (fun q => by omega)]; omega
  | succ m ih =>
    intro r a k fuel i I hm ha hf hi hk h h5 hS hC
    have hN := h.1
    obtain ⟨fuel, rfl⟩ : ∃ m, fuel = m + 1 := ⟨fuel - 1, by omega⟩
    by_cases haN : a < N
    · have hT := h.2.2.2 a haN
      have hb := rd_byteAt h (a := a) (by omega)
      rw [tb_in haN] at hb
      have top : mRd_open_L9 (fuel + 1) (nI a) (nI i) I = if nI (T a) = nI 32 then mRd_open_L9 fuel (nI (a + 1)) (nI (i + 1)) I else ((mRd_addPart (nI a) I).bind fun q2 => mRd_open_L9 fuel q2.1 (nI (i + 1)) q2.2) := by
        show mRd_open_B9 (mRd_open_L9 fuel) _ _ _ = _
        unfold mRd_open_B9
        rw [h.2.1, li_500, if_neg (fun q => by have := (nI_leI (by omega) (by omega)).mp q; omega), if_neg (fun q => by have := (nI_leI (by omega) (by omega)).mp q; omega), hb, Option.bind_some, li_32, li_1, nI_add, nI_add]
        rfl
      rw [top]
      by_cases c : T a = 32
      · rw [if_pos (by rw [c])]
        have eb : isB (T a) = true := decide_eq_true c
        exact ih (r - 1) (a + 1) k fuel (i + 1) I (by omega) (by omega) (by omega) (by omega) (by omega) h h5 (by rw [hS, rn_y haN eb]) hC
      · rw [if_neg (fun q => c ((nI_eq (by omega) (by omega)).mp q))]
        have eb : isB (T a) = false := decide_eq_false c
        have eS : tkS T N k = a := by rw [hS, rn_n (fun _ => eb)]
        have eA : tkA T N (k + 1) = tkE T N a := by
          show tkE T N (tkS T N k) = _
          rw [eS]
        obtain ⟨I1, p1, p2, p3, p4, p5, p6⟩ := rd_addPart h haN h5 (by omega)
        have hE := tkE_le (T := T) haN
        have eK : tkK T N k = kdF T N a (tkE T N a) := by unfold tkK; rw [eS, eA]
        have eV : tkV T N k = nvF T a (tkE T N a) := by unfold tkV; rw [eS, eA]
        have h1 : tpC T N I1 := tpC_of h (p6 1 1 (by omega) (by omega)) (fun i => p6 2 i (by omega) (by omega))
        have hC1 : tkC T N (k + 1) I1 := fun j hj => by
          by_cases ej : j = k
          · subst ej
            refine ⟨by omega, by rw [eK]; exact p3, by rw [eS]; exact p4, fun q => ?_⟩
            rw [eV]
            exact p5 (by rw [← eK]; exact q)
          · obtain ⟨g1, g2, g3, g4⟩ := hC j (by omega)
            exact ⟨g1, by rw [p6 3 j (by omega) (by omega)]; exact g2, by rw [p6 4 j (by omega) (by omega)]; exact g3, fun q => by rw [p6 5 j (by omega) (by omega)]; exact g4 q⟩
        obtain ⟨n, I2, q1, q2, q3, q4, q5, q6⟩ := ih (N - tkE T N a) (tkE T N a) (k + 1) fuel (i + 1) I1 (by omega) (by omega) (by omega) (by omega) (by omega) h1 p2 (by show rn T N isB (tkA T N (k + 1)) = _; rw [eA]) hC1
        refine ⟨n, I2, ?_, q2, q3, q4, q5, fun c i e1 e2 => by rw [q6 c i e1 e2, p6 c i e1 (by omega)]⟩
        rw [p1, Option.bind_some]
        exact q1
    · refine ⟨k, I, ?_, by omega, ?_, hC, h5, fun _ _ _ _ => rfl⟩
      · show mRd_open_B9 (mRd_open_L9 fuel) _ _ _ = _
        unfold mRd_open_B9
        rw [h.2.1, if_pos ((nI_leI (by omega) (by omega)).mpr (by omega : N ≤ a))]
        split <;> rfl
      · rw [hS, rn_n (fun q => by omega)]; omega
theorem rd_open (h : tpC T N I) : ∃ (n : Nat) (I' : hI), mRd_open I = some I' ∧ n ≤ N ∧ tkS T N n = N ∧ tkC T N n I' ∧ I' 3 n = nI 0 ∧ I' 4 n = nI N ∧ I' 1 5 = nI n ∧ I' 1 6 = nI 0 ∧ I' 1 7 = nI (tkK T N 0) ∧ I' 1 8 = (-1 : Int32) ∧ ∀ c i, (c ≠ 1 ∨ i < 5 ∨ 8 < i) → (c < 3 ∨ 5 < c) → I' c i = I c i := by
  have hN := h.1
  obtain ⟨I0, hI0⟩ : ∃ J, J = h_u I 1 5 (nI 0) := ⟨_, rfl⟩
  have f0 : ∀ c i, (c ≠ 1 ∨ i ≠ 5) → I0 c i = I c i := fun c i q => by
    rw [hI0]
    by_cases e : c = 1
    · subst e; exact h_u_pl _ _ _ (by omega)
    · exact h_u_off2 _ _ _ _ e
  have h0 : tpC T N I0 := tpC_of h (f0 1 1 (by omega)) (fun i => f0 2 i (by omega))
  obtain ⟨n, I1, q1, q2, q3, q4, q5, q6⟩ := op_L N N 0 0 hF 0 I0 (by omega) (by omega) (by unfold hF; omega) (by omega) (by omega) h0 (by rw [hI0, h_u_at]) rfl (fun j hj => by omega)
  have e11 : I1 1 1 = nI N := by rw [q6 1 1 (by omega) (by omega), f0 1 1 (by omega)]; exact h.2.1
  obtain ⟨I2, hI2⟩ : ∃ J, J = h_u (h_u I1 3 n (nI 0)) 4 n (nI N) := ⟨_, rfl⟩
  have f2 : ∀ c i, (c ≠ 3 ∨ i ≠ n) → (c ≠ 4 ∨ i ≠ n) → I2 c i = I1 c i := fun c i q1 q2 => by
    rw [hI2]
    by_cases e4 : c = 4
    · subst e4; rw [h_u_pl _ _ _ (by omega), h_u_off2 _ _ _ _ (by decide)]
    · rw [h_u_off2 _ _ _ _ e4]
      by_cases e3 : c = 3
      · subst e3; rw [h_u_pl _ _ _ (by omega)]
      · rw [h_u_off2 _ _ _ _ e3]
  have e3 : I2 3 n = nI 0 := by rw [hI2, h_u_off2 _ _ _ _ (by decide), h_u_at]
  have e4 : I2 4 n = nI N := by rw [hI2, h_u_at]
  have e30 : I2 3 0 = nI (tkK T N 0) := by
    by_cases c : n = 0
    · have ek : tkK T N 0 = 0 := by
        unfold tkK kdF
        rw [← c, q3, if_neg (by omega)]
      rw [ek]
      rw [c] at e3
      exact e3
    · rw [f2 3 0 (by omega) (by omega)]; exact (q4 0 (by omega)).2.1
  obtain ⟨I3, hI3⟩ : ∃ J, J = h_u (h_u (h_u I2 1 6 (nI 0)) 1 7 (nI (tkK T N 0))) 1 8 (-1 : Int32) := ⟨_, rfl⟩
  have f3 : ∀ c i, (c ≠ 1 ∨ i < 6 ∨ 8 < i) → I3 c i = I2 c i := fun c i q => by
    rw [hI3]
    by_cases e : c = 1
    · subst e; rw [h_u_pl _ _ _ (by omega), h_u_pl _ _ _ (by omega), h_u_pl _ _ _ (by omega)]
    · rw [h_u_off2 _ _ _ _ e, h_u_off2 _ _ _ _ e, h_u_off2 _ _ _ _ e]
  refine ⟨n, I3, ?_, q2, q3, fun j hj => ?_, by rw [f3 3 n (by omega)]; exact e3, by rw [f3 4 n (by omega)]; exact e4, by rw [f3 1 5 (by omega), f2 1 5 (by omega) (by omega)]; exact q5, ?_, ?_, ?_, fun c i w1 w2 => ?_⟩
  · have e0 : mRd_open I = mRd_open_L9 hF (nI 0) (nI 0) I0 := by
      unfold mRd_open
      rw [hl_eq, li_0, ← hI0]
    rw [e0, q1]
    unfold mRd_open_52
    rw [q5, hg_in _ (by omega) (by omega), hl_eq, nI_clamp (by omega), h_u_off2 _ _ _ _ (by decide), q5, hg_in _ (by omega) (by omega), hl_eq, nI_clamp (by omega), h_u_off2 _ _ _ _ (by decide), e11, li_0, ← hI2, hl_eq, hg_in _ (by omega) (by omega), nI_clamp (by omega), h_u_off2 _ _ _ _ (by decide), e30, hl_eq, hl_eq, ← hI3]
  · obtain ⟨g1, g2, g3, g4⟩ := q4 j hj
    exact ⟨g1, by rw [f3 3 j (by omega), f2 3 j (by omega) (by omega)]; exact g2, by rw [f3 4 j (by omega), f2 4 j (by omega) (by omega)]; exact g3, fun q => by rw [f3 5 j (by omega), f2 5 j (by omega) (by omega)]; exact g4 q⟩
  · rw [hI3, h_u_pl _ _ _ (by decide), h_u_pl _ _ _ (by decide), h_u_at]
  · rw [hI3, h_u_pl _ _ _ (by decide), h_u_at]
  · rw [hI3, h_u_at]
  · rw [f3 c i (by omega), f2 c i (by omega) (by omega), q6 c i (by omega) (by omega), f0 c i (by omega)]
end Tk
