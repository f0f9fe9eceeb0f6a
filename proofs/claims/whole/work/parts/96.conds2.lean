/-! best: the conditions laid, both sides. -/
theorem iI_subN (a : Int) (n : Nat) : iI a - nI n = iI (a - (n : Int)) := by rw [nI_iI, iI_sub]
section Cl
variable {D : rD}
theorem alL_len (hD : rOk D) : ∀ t, t ≤ D 0 0 → (alL D t).length ≤ 9 * t
  | 0, _ => Nat.le_refl _
  | t + 1, h => by
    have h1 := alL_len hD t (by omega)
    have h8 := hD.2.2.2.1 t (by omega)
    have hc : ∀ c, (chL D t c).length = c := by
      intro c
      induction c with
      | zero => rfl
      | succ c ih => rw [chL, List.length_append, ih]; rfl
    rw [alL, List.length_append]
    have : (stL D t).length ≤ 9 := by
      unfold stL
      split
      · rw [List.length_cons, hc]; omega
      · exact Nat.zero_le _
    omega
theorem chL_len (s : Nat) : ∀ c, (chL D s c).length = c
  | 0 => rfl
  | c + 1 => by rw [chL, List.length_append, chL_len s c]; rfl
theorem wd_pos (hD : rOk D) : 1 ≤ D 0 1 ∧ D 0 1 ≤ 10 := by
  have hn := hD.2.1
  have h1 := hD.1
  have h2 := hD.2.2.1
  have h3 : D 0 1 ≠ 0 := fun e => by rw [e] at h2; omega
  have h4 : D 0 2 ≠ 0 := fun e => by rw [e] at h2; omega
  have : D 0 1 * 1 ≤ D 0 1 * D 0 2 := Nat.mul_le_mul_left _ (by omega)
  omega
theorem rwW_out {s c t : Nat} (h : pIn D t = false) (k : Nat) : rwW D s c k (t + 1) = rwW D s c k t := by
  rw [rwW]
  unfold wIn
  rw [if_neg (by rw [h]; decide)]
  omega
theorem rwW_in {s c t : Nat} (h : pIn D t = true) (k : Nat) : rwW D s c k (t + 1) = rwW D s c k t - (D 5 (10 * (8 * s + c) + t) : Int) * rwS D t k := by
  rw [rwW]
  unfold wIn
  rw [if_pos h]
theorem co_choice_L (hD : rOk D) {s c : Nat} (hs : s < D 0 0) (hc : c < D 1 s) {F : Nat} {L : List (Nat → Int)} {I : hI} {J : hJ} (hcR : cR D I) (h : clQ F L I J) (hlen : F + L.length < 92) : ∃ (I' : hI) (J' : hJ), (∀ (r t fuel : Nat), t + r = D 0 0 → r < fuel → mCo_addChoice_L39 fuel (nI (8 * s + c)) (iI (rwW D s c 0 t)) (iI (rwW D s c 1 t)) (iI (rwW D s c 2 t)) (nI t) I J = some (I', J')) ∧ (∀ a i, (a ≠ 38 ∨ i ≠ 4) → I' a i = I a i) ∧ (∀ a i, (a < 40 ∨ 43 < a ∨ i ≠ F + L.length) → J' a i = J a i) ∧ clQ F (L ++ [rwC D s c]) I' J' := by
  have hn := hD.2.1
  have h8 := hD.2.2.2.1 s hs
  have e3 := (hcR.2.2.2.2.2 s hs c hc).2.1
  have h3 := (hD.2.2.2.2 s hs c hc).2.1
  obtain ⟨I', J', a1, a2, a3, a4⟩ := co_addRow h hlen (rwC D s c) (fun k hk => by
    unfold rwC
    split
    · have := rwW_b36 hD hs hc k (D 0 0) (Nat.le_refl _)
      omega
    · omega)
  have a1' : mCo_addRow (iI (rwW D s c 0 (D 0 0))) (iI (rwW D s c 1 (D 0 0))) (iI (rwW D s c 2 (D 0 0))) (nI (D 3 (8 * s + c))) I J = some (I', J') := a1
  refine ⟨I', J', ?_, a2, a3, a4⟩
  intro r
  induction r with
  | zero =>
    intro t fuel ht hf
    obtain ⟨fuel, rfl⟩ : ∃ m, fuel = m + 1 := ⟨fuel - 1, by omega⟩
    obtain rfl : t = D 0 0 := by omega
    unfold mCo_addChoice_L39 mCo_addChoice_B39
    rw [hcR.1]
    simp (disch := omega) only [↓reduceIte, h_let, hg_in, hg_zb, hg_z0, hg_z1, hg_nz, Option.bind_some, if_pos, if_neg, bI_0, bI_n0, nI_add, nI_mul, nI_ltI, nI_leI, nI_eq, nI_clamp, nI_subN, nI_divN, nI_mod2, nI_m1e, nI_em1, nI_m2e, nI_lt0, m1_lt0, m1_lt, m1_le, h_u_at, h_u_off2, h_u_pl, li_0, li_1, li_2, li_3, li_4, li_5, li_6, li_7, li_8, li_9, li_10, li_11, li_12, li_13, li_14, li_15, li_16, li_17, li_18, li_19, li_20, li_21, li_22, li_23, li_24, li_25, li_26, li_27, li_28, li_29, li_30, li_31, li_32, li_40, li_43, li_45, li_47, li_48, li_57, li_59, li_60, li_61, li_62, li_63, li_64, li_80, li_92, li_97, li_99, li_100, li_122, li_123, li_125, li_166, li_201, li_210, li_250, li_255, li_256, li_257, li_258, li_259, li_260, li_261, li_262, li_263, li_264, li_265, li_266, li_267, li_268, li_300, li_500, li_1000, li_12345, li_27720, li_1000000, li_1103515245, ne_m1, ne_m2, e3, a1']
  | succ r ih =>
    intro t fuel ht hf
    obtain ⟨fuel, rfl⟩ : ∃ m, fuel = m + 1 := ⟨fuel - 1, by omega⟩
    have go := ih (t + 1) fuel (by omega) (by omega)
    have ei := ro_isIn hD hcR (s := t) (by omega)
    have e1 : decide (t < D 0 0 ∧ 0 < D 1 t) = pIn D t := by unfold pIn; simp; omega
    rw [e1] at ei
    unfold mCo_addChoice_L39 mCo_addChoice_B39
    rw [hcR.1]
    cases hi : pIn D t
    · rw [hi, bI_f] at ei
      rw [rwW_out hi, rwW_out hi, rwW_out hi] at go
      rw [← go]
      simp (disch := omega) only [↓reduceIte, h_let, hg_in, hg_zb, hg_z0, hg_z1, hg_nz, Option.bind_some, if_pos, if_neg, bI_0, bI_n0, nI_add, nI_mul, nI_ltI, nI_leI, nI_eq, nI_clamp, nI_subN, nI_divN, nI_mod2, nI_m1e, nI_em1, nI_m2e, nI_lt0, m1_lt0, m1_lt, m1_le, h_u_at, h_u_off2, h_u_pl, li_0, li_1, li_2, li_3, li_4, li_5, li_6, li_7, li_8, li_9, li_10, li_11, li_12, li_13, li_14, li_15, li_16, li_17, li_18, li_19, li_20, li_21, li_22, li_23, li_24, li_25, li_26, li_27, li_28, li_29, li_30, li_31, li_32, li_40, li_43, li_45, li_47, li_48, li_57, li_59, li_60, li_61, li_62, li_63, li_64, li_80, li_92, li_97, li_99, li_100, li_122, li_123, li_125, li_166, li_201, li_210, li_250, li_255, li_256, li_257, li_258, li_259, li_260, li_261, li_262, li_263, li_264, li_265, li_266, li_267, li_268, li_300, li_500, li_1000, li_12345, li_27720, li_1000000, li_1103515245, ne_m1, ne_m2, ei]
    · rw [hi, bI_t] at ei
      have eq := ro_quarters hD hcR hs hc (show t < D 0 0 by omega)
      have ex := ro_xOf hD hcR (show t < D 0 0 by omega)
      have ey := ro_yOf hD hcR (show t < D 0 0 by omega)
      rw [rwW_in hi, rwW_in hi, rwW_in hi] at go
      have r0 : (D 5 (10 * (8 * s + c) + t) : Int) * rwS D t 0 = ((D 5 (10 * (8 * s + c) + t) * (t % D 0 1) : Nat) : Int) := by rw [Int.natCast_mul]; rfl
      have r1 : (D 5 (10 * (8 * s + c) + t) : Int) * rwS D t 1 = ((D 5 (10 * (8 * s + c) + t) * (t / D 0 1) : Nat) : Int) := by rw [Int.natCast_mul]; rfl
      have r2 : (D 5 (10 * (8 * s + c) + t) : Int) * rwS D t 2 = (D 5 (10 * (8 * s + c) + t) : Int) := by
        have : rwS D t 2 = 1 := rfl
        rw [this, Int.mul_one]
      rw [r0, r1, r2] at go
      rw [← go]
      simp (disch := omega) only [↓reduceIte, h_let, hg_in, hg_zb, hg_z0, hg_z1, hg_nz, Option.bind_some, if_pos, if_neg, bI_0, bI_n0, nI_add, nI_mul, nI_ltI, nI_leI, nI_eq, nI_clamp, nI_subN, nI_divN, nI_mod2, nI_m1e, nI_em1, nI_m2e, nI_lt0, m1_lt0, m1_lt, m1_le, h_u_at, h_u_off2, h_u_pl, li_0, li_1, li_2, li_3, li_4, li_5, li_6, li_7, li_8, li_9, li_10, li_11, li_12, li_13, li_14, li_15, li_16, li_17, li_18, li_19, li_20, li_21, li_22, li_23, li_24, li_25, li_26, li_27, li_28, li_29, li_30, li_31, li_32, li_40, li_43, li_45, li_47, li_48, li_57, li_59, li_60, li_61, li_62, li_63, li_64, li_80, li_92, li_97, li_99, li_100, li_122, li_123, li_125, li_166, li_201, li_210, li_250, li_255, li_256, li_257, li_258, li_259, li_260, li_261, li_262, li_263, li_264, li_265, li_266, li_267, li_268, li_300, li_500, li_1000, li_12345, li_27720, li_1000000, li_1103515245, ne_m1, ne_m2, ei, eq, ex, ey, iI_subN]
theorem co_addChoice (hD : rOk D) {s c : Nat} (hs : s < D 0 0) (hc : c < D 1 s) {F : Nat} {L : List (Nat → Int)} {I : hI} {J : hJ} (hcR : cR D I) (h : clQ F L I J) (hlen : F + L.length < 92) : ∃ (I' : hI) (J' : hJ), mCo_addChoice (nI s) (nI (8 * s + c)) I J = some (I', J') ∧ (∀ a i, (a ≠ 38 ∨ i ≠ 4) → I' a i = I a i) ∧ (∀ a i, (a < 40 ∨ 43 < a ∨ i ≠ F + L.length) → J' a i = J a i) ∧ clQ F (L ++ [rwC D s c]) I' J' := by
  have hn := hD.2.1
  have h8 := hD.2.2.2.1 s hs
  obtain ⟨I', J', a1, a2⟩ := co_choice_L hD hs hc hcR h hlen
  have go := a1 (D 0 0) 0 hF (by omega) (by unfold hF; omega)
  refine ⟨I', J', ?_, a2⟩
  have ex := ro_xOf hD hcR hs
  have ey := ro_yOf hD hcR hs
  have eo : mC_isOutside (nI (8 * s + c)) (nI 80) = nI 0 := by
    unfold mC_isOutside
    simp (disch := omega) only [↓reduceIte, h_let, hg_in, hg_zb, hg_z0, hg_z1, hg_nz, Option.bind_some, if_pos, if_neg, bI_0, bI_n0, nI_add, nI_mul, nI_ltI, nI_leI, nI_eq, nI_clamp, nI_subN, nI_divN, nI_mod2, nI_m1e, nI_em1, nI_m2e, nI_lt0, m1_lt0, m1_lt, m1_le, h_u_at, h_u_off2, h_u_pl, li_0, li_1, li_2, li_3, li_4, li_5, li_6, li_7, li_8, li_9, li_10, li_11, li_12, li_13, li_14, li_15, li_16, li_17, li_18, li_19, li_20, li_21, li_22, li_23, li_24, li_25, li_26, li_27, li_28, li_29, li_30, li_31, li_32, li_40, li_43, li_45, li_47, li_48, li_57, li_59, li_60, li_61, li_62, li_63, li_64, li_80, li_92, li_97, li_99, li_100, li_122, li_123, li_125, li_166, li_201, li_210, li_250, li_255, li_256, li_257, li_258, li_259, li_260, li_261, li_262, li_263, li_264, li_265, li_266, li_267, li_268, li_300, li_500, li_1000, li_12345, li_27720, li_1000000, li_1103515245, ne_m1, ne_m2]
  have r0 : iI (rwW D s c 0 0) = nI (4 * (s % D 0 1)) := by
    rw [nI_iI, Int.natCast_mul]; rfl
  have r1 : iI (rwW D s c 1 0) = nI (4 * (s / D 0 1)) := by
    rw [nI_iI, Int.natCast_mul]; rfl
  have r2 : iI (rwW D s c 2 0) = nI 4 := rfl
  rw [r0, r1, r2] at go
  unfold mCo_addChoice
  rw [← go]
  simp (disch := omega) only [↓reduceIte, h_let, hg_in, hg_zb, hg_z0, hg_z1, hg_nz, Option.bind_some, if_pos, if_neg, bI_0, bI_n0, nI_add, nI_mul, nI_ltI, nI_leI, nI_eq, nI_clamp, nI_subN, nI_divN, nI_mod2, nI_m1e, nI_em1, nI_m2e, nI_lt0, m1_lt0, m1_lt, m1_le, h_u_at, h_u_off2, h_u_pl, li_0, li_1, li_2, li_3, li_4, li_5, li_6, li_7, li_8, li_9, li_10, li_11, li_12, li_13, li_14, li_15, li_16, li_17, li_18, li_19, li_20, li_21, li_22, li_23, li_24, li_25, li_26, li_27, li_28, li_29, li_30, li_31, li_32, li_40, li_43, li_45, li_47, li_48, li_57, li_59, li_60, li_61, li_62, li_63, li_64, li_80, li_92, li_97, li_99, li_100, li_122, li_123, li_125, li_166, li_201, li_210, li_250, li_255, li_256, li_257, li_258, li_259, li_260, li_261, li_262, li_263, li_264, li_265, li_266, li_267, li_268, li_300, li_500, li_1000, li_12345, li_27720, li_1000000, li_1103515245, ne_m1, ne_m2, eo, ex, ey]
/-- what laying conditions leaves alone, the class's side -/
def offK (I I' : hI) (J J' : hJ) : Prop := (∀ a i, (a ≠ 38 ∨ (i ≠ 4 ∧ i ≠ 5)) → I' a i = I a i) ∧ ∀ a i, (a < 40 ∨ 43 < a) → J' a i = J a i
/-- the rows in front stay -/
def frK (F : Nat) (J J' : hJ) : Prop := ∀ a i, i < F → J' a i = J a i
theorem co_ch_L (hD : rOk D) {s : Nat} (hs : s < D 0 0) {F : Nat} {L : List (Nat → Int)} (hlen : F + L.length + D 1 s ≤ 92) (k51 : _) : ∀ (r c fuel : Nat) (I : hI) (J : hJ), c + r = D 1 s → r < fuel → cR D I → clQ F (L ++ chL D s c) I J → ∃ (I' : hI) (J' : hJ), mCo_makeConditions_L97 k51 fuel (nI s) (nI c) I J = k51 (nI (s + 1)) I' J' ∧ (∀ a i, (a ≠ 38 ∨ i ≠ 4) → I' a i = I a i) ∧ (∀ a i, (a < 40 ∨ 43 < a ∨ i < F) → J' a i = J a i) ∧ clQ F (L ++ chL D s (D 1 s)) I' J' := by
  have hn := hD.2.1
  have h8 := hD.2.2.2.1 s hs
  intro r
  induction r with
  | zero =>
    intro c fuel I J hc hf hcR h
    obtain ⟨fuel, rfl⟩ : ∃ m, fuel = m + 1 := ⟨fuel - 1, by omega⟩
    obtain rfl : c = D 1 s := by omega
    have ei := ro_isChoice hD hcR (s := s) (c := D 1 s) (by omega) (by omega)
    rw [decide_eq_false (by omega), bI_f] at ei
    refine ⟨I, J, ?_, fun _ _ _ => rfl, fun _ _ _ => rfl, h⟩
    unfold mCo_makeConditions_L97 mCo_makeConditions_B97
    simp (disch := omega) only [↓reduceIte, h_let, hg_in, hg_zb, hg_z0, hg_z1, hg_nz, Option.bind_some, if_pos, if_neg, bI_0, bI_n0, nI_add, nI_mul, nI_ltI, nI_leI, nI_eq, nI_clamp, nI_subN, nI_divN, nI_mod2, nI_m1e, nI_em1, nI_m2e, nI_lt0, m1_lt0, m1_lt, m1_le, h_u_at, h_u_off2, h_u_pl, li_0, li_1, li_2, li_3, li_4, li_5, li_6, li_7, li_8, li_9, li_10, li_11, li_12, li_13, li_14, li_15, li_16, li_17, li_18, li_19, li_20, li_21, li_22, li_23, li_24, li_25, li_26, li_27, li_28, li_29, li_30, li_31, li_32, li_40, li_43, li_45, li_47, li_48, li_57, li_59, li_60, li_61, li_62, li_63, li_64, li_80, li_92, li_97, li_99, li_100, li_122, li_123, li_125, li_166, li_201, li_210, li_250, li_255, li_256, li_257, li_258, li_259, li_260, li_261, li_262, li_263, li_264, li_265, li_266, li_267, li_268, li_300, li_500, li_1000, li_12345, li_27720, li_1000000, li_1103515245, ne_m1, ne_m2, ei]
  | succ r ih =>
    intro c fuel I J hc hf hcR h
    obtain ⟨fuel, rfl⟩ : ∃ m, fuel = m + 1 := ⟨fuel - 1, by omega⟩
    have ei := ro_isChoice hD hcR (s := s) (c := c) (by omega) (by omega)
    rw [decide_eq_true (by omega), bI_t] at ei
    have e8 : s * 8 + c = 8 * s + c := by omega
    have hl : (L ++ chL D s c).length = L.length + c := by rw [List.length_append, chL_len]
    obtain ⟨I1, J1, a1, a2, a3, a4⟩ := co_addChoice hD hs (show c < D 1 s by omega) hcR h (by omega)
    rw [List.append_assoc] at a4
    obtain ⟨I', J', b1, b2, b3, b4⟩ := ih (c + 1) fuel I1 J1 (by omega) (by omega) (cR_of hcR (fun a i q1 q2 => a2 a i (by omega))) a4
    refine ⟨I', J', ?_, fun a i hh => by rw [b2 a i hh, a2 a i hh], fun a i hh => by rw [b3 a i hh, a3 a i (by omega)], b4⟩
    unfold mCo_makeConditions_L97 mCo_makeConditions_B97
    rw [← b1]
    simp (disch := omega) only [↓reduceIte, h_let, hg_in, hg_zb, hg_z0, hg_z1, hg_nz, Option.bind_some, if_pos, if_neg, bI_0, bI_n0, nI_add, nI_mul, nI_ltI, nI_leI, nI_eq, nI_clamp, nI_subN, nI_divN, nI_mod2, nI_m1e, nI_em1, nI_m2e, nI_lt0, m1_lt0, m1_lt, m1_le, h_u_at, h_u_off2, h_u_pl, li_0, li_1, li_2, li_3, li_4, li_5, li_6, li_7, li_8, li_9, li_10, li_11, li_12, li_13, li_14, li_15, li_16, li_17, li_18, li_19, li_20, li_21, li_22, li_23, li_24, li_25, li_26, li_27, li_28, li_29, li_30, li_31, li_32, li_40, li_43, li_45, li_47, li_48, li_57, li_59, li_60, li_61, li_62, li_63, li_64, li_80, li_92, li_97, li_99, li_100, li_122, li_123, li_125, li_166, li_201, li_210, li_250, li_255, li_256, li_257, li_258, li_259, li_260, li_261, li_262, li_263, li_264, li_265, li_266, li_267, li_268, li_300, li_500, li_1000, li_12345, li_27720, li_1000000, li_1103515245, ne_m1, ne_m2, ei, e8, a1]
theorem co_mk_L (hD : rOk D) {F : Nat} (hF2 : F ≤ 2) : ∀ (r s fuel : Nat) (I : hI) (J : hJ), s + r = D 0 0 → r < fuel → cR D I → clQ F (alL D s) I J → ∃ (I' : hI) (J' : hJ), mCo_makeConditions_L51 fuel (nI s) I J = some (I', J') ∧ (∀ a i, (a ≠ 38 ∨ i ≠ 4) → I' a i = I a i) ∧ (∀ a i, (a < 40 ∨ 43 < a ∨ i < F) → J' a i = J a i) ∧ clQ F (alL D (D 0 0)) I' J' := by
  have hn := hD.2.1
  intro r
  induction r with
  | zero =>
    intro s fuel I J hs hf hcR h
    obtain ⟨fuel, rfl⟩ : ∃ m, fuel = m + 1 := ⟨fuel - 1, by omega⟩
    obtain rfl : s = D 0 0 := by omega
    refine ⟨I, J, ?_, fun _ _ _ => rfl, fun _ _ _ => rfl, h⟩
    unfold mCo_makeConditions_L51 mCo_makeConditions_B51
    rw [hcR.1]
    simp (disch := omega) only [↓reduceIte, h_let, hg_in, hg_zb, hg_z0, hg_z1, hg_nz, Option.bind_some, if_pos, if_neg, bI_0, bI_n0, nI_add, nI_mul, nI_ltI, nI_leI, nI_eq, nI_clamp, nI_subN, nI_divN, nI_mod2, nI_m1e, nI_em1, nI_m2e, nI_lt0, m1_lt0, m1_lt, m1_le, h_u_at, h_u_off2, h_u_pl, li_0, li_1, li_2, li_3, li_4, li_5, li_6, li_7, li_8, li_9, li_10, li_11, li_12, li_13, li_14, li_15, li_16, li_17, li_18, li_19, li_20, li_21, li_22, li_23, li_24, li_25, li_26, li_27, li_28, li_29, li_30, li_31, li_32, li_40, li_43, li_45, li_47, li_48, li_57, li_59, li_60, li_61, li_62, li_63, li_64, li_80, li_92, li_97, li_99, li_100, li_122, li_123, li_125, li_166, li_201, li_210, li_250, li_255, li_256, li_257, li_258, li_259, li_260, li_261, li_262, li_263, li_264, li_265, li_266, li_267, li_268, li_300, li_500, li_1000, li_12345, li_27720, li_1000000, li_1103515245, ne_m1, ne_m2]
  | succ r ih =>
    intro s fuel I J hs hf hcR h
    obtain ⟨fuel, rfl⟩ : ∃ m, fuel = m + 1 := ⟨fuel - 1, by omega⟩
    have h8 := hD.2.2.2.1 s (by omega)
    have hl := alL_len hD s (by omega)
    have ei := ro_isIn hD hcR (s := s) (by omega)
    have e1 : decide (s < D 0 0 ∧ 0 < D 1 s) = pIn D s := by unfold pIn; simp; omega
    rw [e1] at ei
    unfold mCo_makeConditions_L51 mCo_makeConditions_B51
    rw [hcR.1]
    cases hi : pIn D s
    · rw [hi, bI_f] at ei
      have hz : D 1 s = 0 := by
        unfold pIn at hi
        simp at hi
        exact hi
      have hst : alL D (s + 1) = alL D s := by rw [alL]; unfold stL; rw [hi]; simp
      obtain ⟨I1, J1, a1, a2, a3, a4⟩ := co_ch_L hD (s := s) (by omega) (F := F) (L := alL D s) (by omega) (mCo_makeConditions_L51 fuel) (D 1 s) 0 hF I J (by omega) (by unfold hF; omega) hcR (by rw [chL, List.append_nil]; exact h)
      rw [hz, chL, List.append_nil, ← hst] at a4
      obtain ⟨I', J', b1, b2, b3, b4⟩ := ih (s + 1) fuel I1 J1 (by omega) (by omega) (cR_of hcR (fun a i q1 q2 => a2 a i (by omega))) a4
      refine ⟨I', J', ?_, fun a i hh => by rw [b2 a i hh, a2 a i hh], fun a i hh => by rw [b3 a i hh, a3 a i hh], b4⟩
      rw [← b1]
      simp (disch := omega) only [↓reduceIte, h_let, hg_in, hg_zb, hg_z0, hg_z1, hg_nz, Option.bind_some, if_pos, if_neg, bI_0, bI_n0, nI_add, nI_mul, nI_ltI, nI_leI, nI_eq, nI_clamp, nI_subN, nI_divN, nI_mod2, nI_m1e, nI_em1, nI_m2e, nI_lt0, m1_lt0, m1_lt, m1_le, h_u_at, h_u_off2, h_u_pl, li_0, li_1, li_2, li_3, li_4, li_5, li_6, li_7, li_8, li_9, li_10, li_11, li_12, li_13, li_14, li_15, li_16, li_17, li_18, li_19, li_20, li_21, li_22, li_23, li_24, li_25, li_26, li_27, li_28, li_29, li_30, li_31, li_32, li_40, li_43, li_45, li_47, li_48, li_57, li_59, li_60, li_61, li_62, li_63, li_64, li_80, li_92, li_97, li_99, li_100, li_122, li_123, li_125, li_166, li_201, li_210, li_250, li_255, li_256, li_257, li_258, li_259, li_260, li_261, li_262, li_263, li_264, li_265, li_266, li_267, li_268, li_300, li_500, li_1000, li_12345, li_27720, li_1000000, li_1103515245, ne_m1, ne_m2, ei, a1]
    · rw [hi, bI_t] at ei
      have ex := ro_xOf hD hcR (show s < D 0 0 by omega)
      have ey := ro_yOf hD hcR (show s < D 0 0 by omega)
      obtain ⟨I0, J0, z1, z2, z3, z4⟩ := co_addRow h (by omega) (rwS D s) (fun k hk => by
        have := rwS_bd hD (s := s) (by omega) k
        omega)
      have z1' : mCo_addRow (nI (s % D 0 1)) (nI (s / D 0 1)) (nI 1) (nI 0) I J = some (I0, J0) := z1
      have hcR0 : cR D I0 := cR_of hcR (fun a i q1 q2 => z2 a i (by omega))
      obtain ⟨I1, J1, a1, a2, a3, a4⟩ := co_ch_L hD (s := s) (by omega) (F := F) (L := alL D s ++ [rwS D s]) (by rw [List.length_append]; show F + ((alL D s).length + 1) + D 1 s ≤ 92; omega) (mCo_makeConditions_L51 fuel) (D 1 s) 0 hF I0 J0 (by omega) (by unfold hF; omega) hcR0 (by rw [chL, List.append_nil]; exact z4)
      have hst : alL D (s + 1) = alL D s ++ [rwS D s] ++ chL D s (D 1 s) := by rw [alL]; unfold stL; rw [if_pos hi]; simp
      rw [← hst] at a4
      obtain ⟨I', J', b1, b2, b3, b4⟩ := ih (s + 1) fuel I1 J1 (by omega) (by omega) (cR_of hcR0 (fun a i q1 q2 => a2 a i (by omega))) a4
      refine ⟨I', J', ?_, fun a i hh => by rw [b2 a i hh, a2 a i hh, z2 a i hh], fun a i hh => by rw [b3 a i hh, a3 a i hh, z3 a i (by omega)], b4⟩
      rw [← b1]
      simp (disch := omega) only [↓reduceIte, h_let, hg_in, hg_zb, hg_z0, hg_z1, hg_nz, Option.bind_some, if_pos, if_neg, bI_0, bI_n0, nI_add, nI_mul, nI_ltI, nI_leI, nI_eq, nI_clamp, nI_subN, nI_divN, nI_mod2, nI_m1e, nI_em1, nI_m2e, nI_lt0, m1_lt0, m1_lt, m1_le, h_u_at, h_u_off2, h_u_pl, li_0, li_1, li_2, li_3, li_4, li_5, li_6, li_7, li_8, li_9, li_10, li_11, li_12, li_13, li_14, li_15, li_16, li_17, li_18, li_19, li_20, li_21, li_22, li_23, li_24, li_25, li_26, li_27, li_28, li_29, li_30, li_31, li_32, li_40, li_43, li_45, li_47, li_48, li_57, li_59, li_60, li_61, li_62, li_63, li_64, li_80, li_92, li_97, li_99, li_100, li_122, li_123, li_125, li_166, li_201, li_210, li_250, li_255, li_256, li_257, li_258, li_259, li_260, li_261, li_262, li_263, li_264, li_265, li_266, li_267, li_268, li_300, li_500, li_1000, li_12345, li_27720, li_1000000, li_1103515245, ne_m1, ne_m2, ei, ex, ey, z1', a1]
end Cl
