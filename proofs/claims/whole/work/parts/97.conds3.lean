/-! best: the conditions laid, the rest. -/
def fX : Nat → Int := fun k => if k = 0 then 1 else 0
def fY : Nat → Int := fun k => if k = 1 then 1 else 0
def foL (D : rD) : List (Nat → Int) := (if D 0 1 = 1 then [fX] else []) ++ (if D 0 2 = 1 then [fY] else [])
/-- the class's conditions -/
def coQ (D : rD) (I : hI) (J : hJ) : Prop := I 38 5 = nI (foL D).length ∧ clQ (foL D).length (alL D (D 0 0)) I J ∧ ∀ i, i < (foL D).length → ∀ k, k < 4 → J (40 + k) i = lI ((foL D).getD i rZ k)
section Cm
variable {D : rD}
theorem foL_len : (foL D).length ≤ 2 := by
  unfold foL
  split <;> split <;> decide
theorem co_make (hD : rOk D) {I : hI} (J : hJ) (hcR : cR D I) : ∃ (I' : hI) (J' : hJ), mCo_makeConditions I J = some (I', J') ∧ (∀ a i, (a ≠ 38 ∨ (i ≠ 4 ∧ i ≠ 5)) → I' a i = I a i) ∧ (∀ a i, (a < 40 ∨ 43 < a) → J' a i = J a i) ∧ coQ D I' J' := by
  have hn := hD.2.1
  have hw := wd_pos hD
  have ht : 1 ≤ D 0 2 := by
    have h2 := hD.2.2.1
    have h1 := hD.1
    have h4 : D 0 2 ≠ 0 := fun e => by rw [e] at h2; omega
    omega
  have ht10 : D 0 2 ≤ 10 := by
    have h2 := hD.2.2.1
    have : 1 * D 0 2 ≤ D 0 1 * D 0 2 := Nat.mul_le_mul_right _ hw.1
    omega
  have off1 : ∀ a i, (a ≠ 38 ∨ i ≠ 4) → h_u I 38 4 (nI 0) a i = I a i := fun a i hh => by
    by_cases e : a = 38
    · subst e; exact h_u_pl _ _ _ (by omega)
    · exact h_u_off2 _ _ _ _ e
  -- the forced rows
  have st1 : ∃ (I1 : hI) (J1 : hJ), (∀ a i, (a ≠ 38 ∨ i ≠ 4) → I1 a i = I a i) ∧ (∀ a i, (a < 40 ∨ 43 < a) → J1 a i = J a i) ∧ clQ 0 (if D 0 1 = 1 then [fX] else []) I1 J1 ∧ mCo_makeConditions I J = mCo_makeConditions_23 I1 J1 := by
    have h0 : clQ 0 [] (h_u I 38 4 (nI 0)) J := ⟨h_u_at _ _ _ _, fun i hi => absurd hi (Nat.not_lt_zero i)⟩
    have e7 : h_u I 38 4 (nI 0) 7 7 = nI (D 0 1 - 1) := by rw [h_u_off2 _ _ _ _ (by decide)]; exact hcR.2.1
    by_cases q : D 0 1 = 1
    · obtain ⟨I1, J1, a1, a2, a3, a4⟩ := co_addRow h0 (by decide) fX (fun k hk => by unfold fX; split <;> omega)
      have a1' : mCo_addRow (nI 1) (nI 0) (nI 0) (nI 0) (h_u I 38 4 (nI 0)) J = some (I1, J1) := a1
      refine ⟨I1, J1, fun a i hh => by rw [a2 a i hh, off1 a i hh], fun a i hh => a3 a i (by omega), by rw [if_pos q]; exact a4, ?_⟩
      unfold mCo_makeConditions
      have e7' : h_u I 38 4 (nI 0) 7 7 = nI 0 := by rw [e7, q]
      rw [li_0, li_1]
      show (if h_u I 38 4 (nI 0) 7 7 = nI 0 then _ else _) = _
      rw [if_pos e7', a1']
      rfl
    · refine ⟨h_u I 38 4 (nI 0), J, off1, fun _ _ _ => rfl, by rw [if_neg q]; exact h0, ?_⟩
      unfold mCo_makeConditions
      have e7' : ¬ h_u I 38 4 (nI 0) 7 7 = nI 0 := by
        rw [e7]
        intro e
        have := (nI_eq (a := D 0 1 - 1) (b := 0) (by omega) (by omega)).mp e
        omega
      rw [li_0]
      show (if h_u I 38 4 (nI 0) 7 7 = nI 0 then _ else _) = _
      rw [if_neg e7']
  obtain ⟨I1, J1, s1, s2, s3, s4⟩ := st1
  have st2 : ∃ (I2 : hI) (J2 : hJ), (∀ a i, (a ≠ 38 ∨ i ≠ 4) → I2 a i = I a i) ∧ (∀ a i, (a < 40 ∨ 43 < a) → J2 a i = J a i) ∧ clQ 0 (foL D) I2 J2 ∧ mCo_makeConditions_23 I1 J1 = mCo_makeConditions_41 I2 J2 := by
    have e8 : I1 7 8 = nI (D 0 2 - 1) := by rw [s1 7 8 (by decide)]; exact hcR.2.2.1
    have hl1 : (if D 0 1 = 1 then [fX] else ([] : List (Nat → Int))).length ≤ 1 := by split <;> decide
    by_cases q : D 0 2 = 1
    · obtain ⟨I2, J2, a1, a2, a3, a4⟩ := co_addRow s3 (by omega) fY (fun k hk => by unfold fY; split <;> omega)
      have a1' : mCo_addRow (nI 0) (nI 1) (nI 0) (nI 0) I1 J1 = some (I2, J2) := a1
      refine ⟨I2, J2, fun a i hh => by rw [a2 a i hh, s1 a i hh], fun a i hh => by rw [a3 a i (by omega), s2 a i hh], ?_, ?_⟩
      · unfold foL
        rw [if_pos q]
        exact a4
      · unfold mCo_makeConditions_23
        have e8' : I1 7 8 = nI 0 := by rw [e8, q]
        rw [li_0, li_1, if_pos e8', a1']
        rfl
    · refine ⟨I1, J1, s1, s2, ?_, ?_⟩
      · unfold foL
        rw [if_neg q, List.append_nil]
        exact s3
      · unfold mCo_makeConditions_23
        have e8' : ¬ I1 7 8 = nI 0 := by
          rw [e8]
          intro e
          have := (nI_eq (a := D 0 2 - 1) (b := 0) (by omega) (by omega)).mp e
          omega
        rw [li_0, if_neg e8']
  obtain ⟨I2, J2, t1, t2, t3, t4⟩ := st2
  have hF2 := foL_len (D := D)
  have e4 : I2 38 4 = nI (foL D).length := by have := t3.1; rw [Nat.zero_add] at this; exact this
  have o3 : ∀ a i, (a ≠ 38 ∨ i ≠ 5) → h_u I2 38 5 (nI (foL D).length) a i = I2 a i := fun a i hh => by
    by_cases e : a = 38
    · subst e; exact h_u_pl _ _ _ (by omega)
    · exact h_u_off2 _ _ _ _ e
  have hcR3 : cR D (h_u I2 38 5 (nI (foL D).length)) := cR_of hcR (fun a i q1 q2 => by rw [o3 a i (by omega), t1 a i (by omega)])
  obtain ⟨I', J', b1, b2, b3, b4⟩ := co_mk_L hD hF2 (D 0 0) 0 hF (h_u I2 38 5 (nI (foL D).length)) J2 (by omega) (by unfold hF; omega) hcR3 ⟨by rw [o3 38 4 (by decide), e4]; rfl, fun i hi => absurd hi (Nat.not_lt_zero i)⟩
  refine ⟨I', J', ?_, fun a i hh => by rw [b2 a i (by omega), o3 a i (by omega), t1 a i (by omega)], fun a i hh => by rw [b3 a i (by omega), t2 a i hh], ?_, b4, fun i hi k hk => ?_⟩
  · rw [s4, t4]
    unfold mCo_makeConditions_41
    rw [e4]
    exact b1
  · rw [b2 38 5 (by decide), h_u_at]
  · rw [b3 (40 + k) i (by omega)]
    have := t3.2 i hi k hk
    rw [Nat.zero_add] at this
    exact this
/-- the reference's ways of one choice -/
theorem mp_cw_L (hD : rOk D) {s c : Nat} (hs : s < D 0 0) (hc : c < D 1 s) {L : List (Nat → Int)} (hlen : L.length < 100) (k7 k45 : _) {I : hI} {J : hJ} (hm : mR D I) (h : mlQ L I J) : ∃ (I' : hI) (J' : hJ), (∀ (r t fuel : Nat), t + r = D 0 0 → r < fuel → mM_laysConditions_L92 k7 k45 fuel (nI s) (nI c) (nI (8 * s + c)) (lI (rwW D s c 0 t)) (lI (rwW D s c 1 t)) (lI (rwW D s c 2 t)) (nI t) I J = k45 (nI s) (nI (c + 1)) I' J') ∧ (∀ a i, (a ≠ 0 ∨ i ≠ 88) → I' a i = I a i) ∧ (∀ a i, (a < 45 ∨ 48 < a) → J' a i = J a i) ∧ mlQ (L ++ [rwC D s c]) I' J' := by
  have hn := hD.2.1
  have hw := wd_pos hD
  have h8 := hD.2.2.2.1 s hs
  have e3 := (hm.2.2.2.2 s hs c hc).2.1
  have h3 := (hD.2.2.2.2 s hs c hc).2.1
  obtain ⟨I', J', a1, a2, a3, a4⟩ := mp_condition h hlen (rwC D s c)
  have a1' : mM_condition (lI (rwW D s c 0 (D 0 0))) (lI (rwW D s c 1 (D 0 0))) (lI (rwW D s c 2 (D 0 0))) (lI (D 3 (8 * s + c) : Int)) I J = some (I', J') := a1
  refine ⟨I', J', ?_, a2, a3, a4⟩
  intro r
  induction r with
  | zero =>
    intro t fuel ht hf
    obtain ⟨fuel, rfl⟩ : ∃ m, fuel = m + 1 := ⟨fuel - 1, by omega⟩
    obtain rfl : t = D 0 0 := by omega
    have e1 := nI_lI (n := D 3 (8 * s + c)) (by omega)
    unfold mM_laysConditions_L92 mM_laysConditions_B92
    rw [hm.1]
    simp (disch := omega) only [↓reduceIte, h_let, hg_in, hg_zb, hg_z0, hg_z1, hg_nz, Option.bind_some, if_pos, if_neg, bI_0, bI_n0, nI_add, nI_mul, nI_ltI, nI_leI, nI_eq, nI_clamp, nI_subN, nI_divN, nI_mod2, nI_m1e, nI_em1, nI_m2e, nI_lt0, m1_lt0, m1_lt, m1_le, h_u_at, h_u_off2, h_u_pl, li_0, li_1, li_2, li_3, li_4, li_5, li_6, li_7, li_8, li_9, li_10, li_11, li_12, li_13, li_14, li_15, li_16, li_17, li_18, li_19, li_20, li_21, li_22, li_23, li_24, li_25, li_26, li_27, li_28, li_29, li_30, li_31, li_32, li_40, li_43, li_45, li_47, li_48, li_57, li_59, li_60, li_61, li_62, li_63, li_64, li_80, li_92, li_97, li_99, li_100, li_122, li_123, li_125, li_166, li_201, li_210, li_250, li_255, li_256, li_257, li_258, li_259, li_260, li_261, li_262, li_263, li_264, li_265, li_266, li_267, li_268, li_300, li_500, li_1000, li_12345, li_27720, li_1000000, li_1103515245, ne_m1, ne_m2, e3, e1, a1']
  | succ r ih =>
    intro t fuel ht hf
    obtain ⟨fuel, rfl⟩ : ∃ m, fuel = m + 1 := ⟨fuel - 1, by omega⟩
    have go := ih (t + 1) fuel (by omega) (by omega)
    have ei := m_isInside hD hm (s := t) (by omega)
    have e1 : decide (0 < D 1 t) = pIn D t := rfl
    rw [e1] at ei
    have hx : t % D 0 1 ≤ t := Nat.mod_le _ _
    have hy : t / D 0 1 ≤ t := Nat.div_le_self _ _
    have h4 := (hD.2.2.2.2 s hs c hc).2.2.2.1 t (by omega)
    unfold mM_laysConditions_L92 mM_laysConditions_B92 mM_laysConditions_126
    rw [hm.1, hm.2.1]
    cases hi : pIn D t
    · rw [hi, bI_f] at ei
      have z0 : (nI (0 * (t % D 0 1))).toInt64 = lI 0 := by rw [Nat.zero_mul]; rfl
      have z1 : (nI (0 * (t / D 0 1))).toInt64 = lI 0 := by rw [Nat.zero_mul]; rfl
      have z2 : (nI 0).toInt64 = lI 0 := rfl
      rw [rwW_out hi, rwW_out hi, rwW_out hi] at go
      rw [← go]
      simp (disch := omega) only [↓reduceIte, h_let, hg_in, hg_zb, hg_z0, hg_z1, hg_nz, Option.bind_some, if_pos, if_neg, bI_0, bI_n0, nI_add, nI_mul, nI_ltI, nI_leI, nI_eq, nI_clamp, nI_subN, nI_divN, nI_mod2, nI_m1e, nI_em1, nI_m2e, nI_lt0, m1_lt0, m1_lt, m1_le, h_u_at, h_u_off2, h_u_pl, li_0, li_1, li_2, li_3, li_4, li_5, li_6, li_7, li_8, li_9, li_10, li_11, li_12, li_13, li_14, li_15, li_16, li_17, li_18, li_19, li_20, li_21, li_22, li_23, li_24, li_25, li_26, li_27, li_28, li_29, li_30, li_31, li_32, li_40, li_43, li_45, li_47, li_48, li_57, li_59, li_60, li_61, li_62, li_63, li_64, li_80, li_92, li_97, li_99, li_100, li_122, li_123, li_125, li_166, li_201, li_210, li_250, li_255, li_256, li_257, li_258, li_259, li_260, li_261, li_262, li_263, li_264, li_265, li_266, li_267, li_268, li_300, li_500, li_1000, li_12345, li_27720, li_1000000, li_1103515245, ne_m1, ne_m2, ei, z0, z1, z2, lI_sub, Int.sub_zero]
    · rw [hi, bI_t] at ei
      have eq := (hm.2.2.2.2 s hs c hc).2.2.2 t (by omega)
      have p0 : D 5 (10 * (8 * s + c) + t) * (t % D 0 1) ≤ 4 * 10 := Nat.mul_le_mul h4 (by omega)
      have p1 : D 5 (10 * (8 * s + c) + t) * (t / D 0 1) ≤ 4 * 10 := Nat.mul_le_mul h4 (by omega)
      have z0 := nI_lI (n := D 5 (10 * (8 * s + c) + t) * (t % D 0 1)) (by omega)
      have z1 := nI_lI (n := D 5 (10 * (8 * s + c) + t) * (t / D 0 1)) (by omega)
      have z2 := nI_lI (n := D 5 (10 * (8 * s + c) + t)) (by omega)
      have r0 : (D 5 (10 * (8 * s + c) + t) : Int) * rwS D t 0 = ((D 5 (10 * (8 * s + c) + t) * (t % D 0 1) : Nat) : Int) := by rw [Int.natCast_mul]; rfl
      have r1 : (D 5 (10 * (8 * s + c) + t) : Int) * rwS D t 1 = ((D 5 (10 * (8 * s + c) + t) * (t / D 0 1) : Nat) : Int) := by rw [Int.natCast_mul]; rfl
      have r2 : (D 5 (10 * (8 * s + c) + t) : Int) * rwS D t 2 = (D 5 (10 * (8 * s + c) + t) : Int) := by
        have : rwS D t 2 = 1 := rfl
        rw [this, Int.mul_one]
      rw [rwW_in hi, rwW_in hi, rwW_in hi, r0, r1, r2] at go
      rw [← go]
      simp (disch := omega) only [↓reduceIte, h_let, hg_in, hg_zb, hg_z0, hg_z1, hg_nz, Option.bind_some, if_pos, if_neg, bI_0, bI_n0, nI_add, nI_mul, nI_ltI, nI_leI, nI_eq, nI_clamp, nI_subN, nI_divN, nI_mod2, nI_m1e, nI_em1, nI_m2e, nI_lt0, m1_lt0, m1_lt, m1_le, h_u_at, h_u_off2, h_u_pl, li_0, li_1, li_2, li_3, li_4, li_5, li_6, li_7, li_8, li_9, li_10, li_11, li_12, li_13, li_14, li_15, li_16, li_17, li_18, li_19, li_20, li_21, li_22, li_23, li_24, li_25, li_26, li_27, li_28, li_29, li_30, li_31, li_32, li_40, li_43, li_45, li_47, li_48, li_57, li_59, li_60, li_61, li_62, li_63, li_64, li_80, li_92, li_97, li_99, li_100, li_122, li_123, li_125, li_166, li_201, li_210, li_250, li_255, li_256, li_257, li_258, li_259, li_260, li_261, li_262, li_263, li_264, li_265, li_266, li_267, li_268, li_300, li_500, li_1000, li_12345, li_27720, li_1000000, li_1103515245, ne_m1, ne_m2, ei, eq, z0, z1, z2, lI_sub]
theorem mp_cc_L (hD : rOk D) {s : Nat} (hs : s < D 0 0) {L : List (Nat → Int)} (hlen : L.length + D 1 s ≤ 100) (k7 : _) : ∀ (r c fuel : Nat) (I : hI) (J : hJ), c + r = D 1 s → r < fuel → mR D I → mlQ (L ++ chL D s c) I J → ∃ (I' : hI) (J' : hJ), mM_laysConditions_L45 k7 fuel (nI s) (nI c) I J = k7 (nI (s + 1)) I' J' ∧ (∀ a i, (a ≠ 0 ∨ i ≠ 88) → I' a i = I a i) ∧ (∀ a i, (a < 45 ∨ 48 < a) → J' a i = J a i) ∧ mlQ (L ++ chL D s (D 1 s)) I' J' := by
  have hn := hD.2.1
  have hw := wd_pos hD
  have h8 := hD.2.2.2.1 s hs
  intro r
  induction r with
  | zero =>
    intro c fuel I J hc hf hm h
    obtain ⟨fuel, rfl⟩ : ∃ m, fuel = m + 1 := ⟨fuel - 1, by omega⟩
    obtain rfl : c = D 1 s := by omega
    have e25 := hm.2.2.2.1 s hs
    refine ⟨I, J, ?_, fun _ _ _ => rfl, fun _ _ _ => rfl, h⟩
    unfold mM_laysConditions_L45 mM_laysConditions_B45
    simp (disch := omega) only [↓reduceIte, h_let, hg_in, hg_zb, hg_z0, hg_z1, hg_nz, Option.bind_some, if_pos, if_neg, bI_0, bI_n0, nI_add, nI_mul, nI_ltI, nI_leI, nI_eq, nI_clamp, nI_subN, nI_divN, nI_mod2, nI_m1e, nI_em1, nI_m2e, nI_lt0, m1_lt0, m1_lt, m1_le, h_u_at, h_u_off2, h_u_pl, li_0, li_1, li_2, li_3, li_4, li_5, li_6, li_7, li_8, li_9, li_10, li_11, li_12, li_13, li_14, li_15, li_16, li_17, li_18, li_19, li_20, li_21, li_22, li_23, li_24, li_25, li_26, li_27, li_28, li_29, li_30, li_31, li_32, li_40, li_43, li_45, li_47, li_48, li_57, li_59, li_60, li_61, li_62, li_63, li_64, li_80, li_92, li_97, li_99, li_100, li_122, li_123, li_125, li_166, li_201, li_210, li_250, li_255, li_256, li_257, li_258, li_259, li_260, li_261, li_262, li_263, li_264, li_265, li_266, li_267, li_268, li_300, li_500, li_1000, li_12345, li_27720, li_1000000, li_1103515245, ne_m1, ne_m2, e25]
  | succ r ih =>
    intro c fuel I J hc hf hm h
    obtain ⟨fuel, rfl⟩ : ∃ m, fuel = m + 1 := ⟨fuel - 1, by omega⟩
    have e25 := hm.2.2.2.1 s hs
    have hl : (L ++ chL D s c).length = L.length + c := by rw [List.length_append, chL_len]
    obtain ⟨I1, J1, a1, a2, a3, a4⟩ := mp_cw_L hD hs (show c < D 1 s by omega) (by omega) k7 (mM_laysConditions_L45 k7 fuel) hm h
    have go := a1 (D 0 0) 0 hF (by omega) (by unfold hF; omega)
    rw [List.append_assoc] at a4
    obtain ⟨I', J', b1, b2, b3, b4⟩ := ih (c + 1) fuel I1 J1 (by omega) (by omega) (mR_of hm (fun a i q1 q2 => a2 a i (by omega)) (fun i q1 q2 => a2 0 i (by omega))) a4
    refine ⟨I', J', ?_, fun a i hh => by rw [b2 a i hh, a2 a i hh], fun a i hh => by rw [b3 a i hh, a3 a i hh], b4⟩
    have hx : s % D 0 1 ≤ s := Nat.mod_le _ _
    have hy : s / D 0 1 ≤ s := Nat.div_le_self _ _
    have z0 : (nI (4 * (s % D 0 1))).toInt64 = lI (rwW D s c 0 0) := by
      rw [nI_lI (by omega), Int.natCast_mul]; rfl
    have z1 : (nI (4 * (s / D 0 1))).toInt64 = lI (rwW D s c 1 0) := by
      rw [nI_lI (by omega), Int.natCast_mul]; rfl
    have z2 : (4 : Int64) = lI (rwW D s c 2 0) := rfl
    unfold mM_laysConditions_L45 mM_laysConditions_B45 mM_choiceAt
    rw [hm.2.1, z2, ← b1, ← go]
    simp (disch := omega) only [↓reduceIte, h_let, hg_in, hg_zb, hg_z0, hg_z1, hg_nz, Option.bind_some, if_pos, if_neg, bI_0, bI_n0, nI_add, nI_mul, nI_ltI, nI_leI, nI_eq, nI_clamp, nI_subN, nI_divN, nI_mod2, nI_m1e, nI_em1, nI_m2e, nI_lt0, m1_lt0, m1_lt, m1_le, h_u_at, h_u_off2, h_u_pl, li_0, li_1, li_2, li_3, li_4, li_5, li_6, li_7, li_8, li_9, li_10, li_11, li_12, li_13, li_14, li_15, li_16, li_17, li_18, li_19, li_20, li_21, li_22, li_23, li_24, li_25, li_26, li_27, li_28, li_29, li_30, li_31, li_32, li_40, li_43, li_45, li_47, li_48, li_57, li_59, li_60, li_61, li_62, li_63, li_64, li_80, li_92, li_97, li_99, li_100, li_122, li_123, li_125, li_166, li_201, li_210, li_250, li_255, li_256, li_257, li_258, li_259, li_260, li_261, li_262, li_263, li_264, li_265, li_266, li_267, li_268, li_300, li_500, li_1000, li_12345, li_27720, li_1000000, li_1103515245, ne_m1, ne_m2, e25, z0, z1]
theorem mp_cs_L (hD : rOk D) : ∀ (r s fuel : Nat) (I : hI) (J : hJ), s + r = D 0 0 → r < fuel → mR D I → mlQ (alL D s) I J → ∃ (I' : hI) (J' : hJ), mM_laysConditions_L7 fuel (nI s) I J = some (I', J') ∧ (∀ a i, (a ≠ 0 ∨ i ≠ 88) → I' a i = I a i) ∧ (∀ a i, (a < 45 ∨ 48 < a) → J' a i = J a i) ∧ mlQ (alL D (D 0 0)) I' J' := by
  have hn := hD.2.1
  have hw := wd_pos hD
  intro r
  induction r with
  | zero =>
    intro s fuel I J hs hf hm h
    obtain ⟨fuel, rfl⟩ : ∃ m, fuel = m + 1 := ⟨fuel - 1, by omega⟩
    obtain rfl : s = D 0 0 := by omega
    refine ⟨I, J, ?_, fun _ _ _ => rfl, fun _ _ _ => rfl, h⟩
    unfold mM_laysConditions_L7 mM_laysConditions_B7
    rw [hm.1]
    simp (disch := omega) only [↓reduceIte, h_let, hg_in, hg_zb, hg_z0, hg_z1, hg_nz, Option.bind_some, if_pos, if_neg, bI_0, bI_n0, nI_add, nI_mul, nI_ltI, nI_leI, nI_eq, nI_clamp, nI_subN, nI_divN, nI_mod2, nI_m1e, nI_em1, nI_m2e, nI_lt0, m1_lt0, m1_lt, m1_le, h_u_at, h_u_off2, h_u_pl, li_0, li_1, li_2, li_3, li_4, li_5, li_6, li_7, li_8, li_9, li_10, li_11, li_12, li_13, li_14, li_15, li_16, li_17, li_18, li_19, li_20, li_21, li_22, li_23, li_24, li_25, li_26, li_27, li_28, li_29, li_30, li_31, li_32, li_40, li_43, li_45, li_47, li_48, li_57, li_59, li_60, li_61, li_62, li_63, li_64, li_80, li_92, li_97, li_99, li_100, li_122, li_123, li_125, li_166, li_201, li_210, li_250, li_255, li_256, li_257, li_258, li_259, li_260, li_261, li_262, li_263, li_264, li_265, li_266, li_267, li_268, li_300, li_500, li_1000, li_12345, li_27720, li_1000000, li_1103515245, ne_m1, ne_m2]
  | succ r ih =>
    intro s fuel I J hs hf hm h
    obtain ⟨fuel, rfl⟩ : ∃ m, fuel = m + 1 := ⟨fuel - 1, by omega⟩
    have h8 := hD.2.2.2.1 s (by omega)
    have hl := alL_len hD s (by omega)
    have ei := m_isInside hD hm (s := s) (by omega)
    have e1 : decide (0 < D 1 s) = pIn D s := rfl
    rw [e1] at ei
    cases hi : pIn D s
    · rw [hi, bI_f] at ei
      have hst : alL D (s + 1) = alL D s := by rw [alL]; unfold stL; rw [hi]; simp
      obtain ⟨I', J', b1, b2⟩ := ih (s + 1) fuel I J (by omega) (by omega) hm (by rw [hst]; exact h)
      refine ⟨I', J', ?_, b2⟩
      unfold mM_laysConditions_L7 mM_laysConditions_B7
      rw [hm.1, ← b1]
      simp (disch := omega) only [↓reduceIte, h_let, hg_in, hg_zb, hg_z0, hg_z1, hg_nz, Option.bind_some, if_pos, if_neg, bI_0, bI_n0, nI_add, nI_mul, nI_ltI, nI_leI, nI_eq, nI_clamp, nI_subN, nI_divN, nI_mod2, nI_m1e, nI_em1, nI_m2e, nI_lt0, m1_lt0, m1_lt, m1_le, h_u_at, h_u_off2, h_u_pl, li_0, li_1, li_2, li_3, li_4, li_5, li_6, li_7, li_8, li_9, li_10, li_11, li_12, li_13, li_14, li_15, li_16, li_17, li_18, li_19, li_20, li_21, li_22, li_23, li_24, li_25, li_26, li_27, li_28, li_29, li_30, li_31, li_32, li_40, li_43, li_45, li_47, li_48, li_57, li_59, li_60, li_61, li_62, li_63, li_64, li_80, li_92, li_97, li_99, li_100, li_122, li_123, li_125, li_166, li_201, li_210, li_250, li_255, li_256, li_257, li_258, li_259, li_260, li_261, li_262, li_263, li_264, li_265, li_266, li_267, li_268, li_300, li_500, li_1000, li_12345, li_27720, li_1000000, li_1103515245, ne_m1, ne_m2, ei]
    · rw [hi, bI_t] at ei
      obtain ⟨I0, J0, z1, z2, z3, z4⟩ := mp_condition h (by omega) (rwS D s)
      have hm0 : mR D I0 := mR_of hm (fun a i q1 q2 => z2 a i (by omega)) (fun i q1 q2 => z2 0 i (by omega))
      obtain ⟨I1, J1, a1, a2, a3, a4⟩ := mp_cc_L hD (s := s) (by omega) (L := alL D s ++ [rwS D s]) (by rw [List.length_append]; show ((alL D s).length + 1) + D 1 s ≤ 100; omega) (mM_laysConditions_L7 fuel) (D 1 s) 0 hF I0 J0 (by omega) (by unfold hF; omega) hm0 (by rw [chL, List.append_nil]; exact z4)
      have hst : alL D (s + 1) = alL D s ++ [rwS D s] ++ chL D s (D 1 s) := by rw [alL]; unfold stL; rw [if_pos hi]; simp
      rw [← hst] at a4
      obtain ⟨I', J', b1, b2, b3, b4⟩ := ih (s + 1) fuel I1 J1 (by omega) (by omega) (mR_of hm0 (fun a i q1 q2 => a2 a i (by omega)) (fun i q1 q2 => a2 0 i (by omega))) a4
      refine ⟨I', J', ?_, fun a i hh => by rw [b2 a i hh, a2 a i hh, z2 a i hh], fun a i hh => by rw [b3 a i hh, a3 a i hh, z3 a i hh], b4⟩
      have hx : s % D 0 1 ≤ s := Nat.mod_le _ _
      have hy : s / D 0 1 ≤ s := Nat.div_le_self _ _
      have y0 : (nI (s % D 0 1)).toInt64 = lI (rwS D s 0) := nI_lI (by omega)
      have y1 : (nI (s / D 0 1)).toInt64 = lI (rwS D s 1) := nI_lI (by omega)
      have y2 : (1 : Int64) = lI (rwS D s 2) := rfl
      have y3 : (0 : Int64) = lI (rwS D s 3) := rfl
      unfold mM_laysConditions_L7 mM_laysConditions_B7
      rw [hm.1, hm.2.1, ← b1, ← a1, y2, y3]
      simp (disch := omega) only [↓reduceIte, h_let, hg_in, hg_zb, hg_z0, hg_z1, hg_nz, Option.bind_some, if_pos, if_neg, bI_0, bI_n0, nI_add, nI_mul, nI_ltI, nI_leI, nI_eq, nI_clamp, nI_subN, nI_divN, nI_mod2, nI_m1e, nI_em1, nI_m2e, nI_lt0, m1_lt0, m1_lt, m1_le, h_u_at, h_u_off2, h_u_pl, li_0, li_1, li_2, li_3, li_4, li_5, li_6, li_7, li_8, li_9, li_10, li_11, li_12, li_13, li_14, li_15, li_16, li_17, li_18, li_19, li_20, li_21, li_22, li_23, li_24, li_25, li_26, li_27, li_28, li_29, li_30, li_31, li_32, li_40, li_43, li_45, li_47, li_48, li_57, li_59, li_60, li_61, li_62, li_63, li_64, li_80, li_92, li_97, li_99, li_100, li_122, li_123, li_125, li_166, li_201, li_210, li_250, li_255, li_256, li_257, li_258, li_259, li_260, li_261, li_262, li_263, li_264, li_265, li_266, li_267, li_268, li_300, li_500, li_1000, li_12345, li_27720, li_1000000, li_1103515245, ne_m1, ne_m2, ei, y0, y1, z1]
theorem mp_laysConditions (hD : rOk D) {I : hI} (J : hJ) (hm : mR D I) : ∃ (I' : hI) (J' : hJ), mM_laysConditions I J = some (I', J') ∧ (∀ a i, (a ≠ 0 ∨ i ≠ 88) → I' a i = I a i) ∧ (∀ a i, (a < 45 ∨ 48 < a) → J' a i = J a i) ∧ mlQ (alL D (D 0 0)) I' J' := by
  have hn := hD.2.1
  have off1 : ∀ a i, (a ≠ 0 ∨ i ≠ 88) → h_u I 0 88 (nI 0) a i = I a i := fun a i hh => by
    by_cases e : a = 0
    · subst e; exact h_u_pl _ _ _ (by omega)
    · exact h_u_off2 _ _ _ _ e
  obtain ⟨I', J', b1, b2, b3, b4⟩ := mp_cs_L hD (D 0 0) 0 hF (h_u I 0 88 (nI 0)) J (by omega) (by unfold hF; omega) (mR_of hm (fun a i q1 q2 => off1 a i (by omega)) (fun i q1 q2 => off1 0 i (by omega))) ⟨h_u_at _ _ _ _, fun i hi => absurd hi (Nat.not_lt_zero i)⟩
  refine ⟨I', J', ?_, fun a i hh => by rw [b2 a i hh, off1 a i hh], b3, b4⟩
  unfold mM_laysConditions
  exact b1
end Cm
