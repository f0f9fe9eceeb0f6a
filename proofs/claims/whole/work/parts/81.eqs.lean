/-! Plans, the reference's side: the equations of the states asked, and their determinants. -/
/-- the states that are asked: of the pay (w) without those where it never ends -/
def qF (D : rD) (p : Nat) (w : Bool) (u : Nat) : Bool := pPs D p u && (!w || !pEn D p u)
def bL (w : Bool) : Nat := if w = true then 20 else 21
/-- the plan's things held by the reference -/
def mpH (D : rD) (p : Nat) (I : hI) : Prop := mR D I ∧ chM D p I ∧ ltM D p I ∧ ∀ s, s < D 0 0 → I 35 (10 * p + s) = bI (pEn D p s)
theorem mpH_of {D : rD} {p : Nat} {I I' : hI} (h : mpH D p I) (h1 : ∀ a i, a ≠ 38 → a ≠ 39 → (a ≠ 0 ∨ i ≠ 78) → I' a i = I a i) : mpH D p I' := by
  obtain ⟨a, b, c, d⟩ := h
  exact ⟨mR_of a (fun c i q1 q2 => h1 c i (by omega) (by omega) (by omega)) (fun i q1 q2 => h1 0 i (by omega) (by omega) (by omega)), fun s hs => by rw [h1 30 s (by omega) (by omega) (by omega)]; exact b s hs, fun s hs => by rw [h1 37 s (by omega) (by omega) (by omega)]; exact c s hs, fun s hs => by rw [h1 35 _ (by omega) (by omega) (by omega)]; exact d s hs⟩
section Eqs
variable {D : rD} {p : Nat}
theorem qF_ps (w : Bool) (u : Nat) (h : qF D p w u = true) : pPs D p u = true := by unfold qF at h; rw [Bool.and_eq_true] at h; exact h.1
theorem qF_in (w : Bool) (u : Nat) (h : qF D p w u = true) : pIn D u = true := hfPs u (qF_ps w u h)
/-- the states asked, in order -/
def askM (D : rD) (f : Nat → Bool) (I : hI) : Prop := I 0 78 = nI (cnt f (D 0 0)) ∧ ∀ j, j < cnt f (D 0 0) → I 38 j = nI (sel f (D 0 0) j)
theorem mp_ask_L (hD : rOk D) (hp : p < 64) (w : Bool) : ∀ (r s fuel : Nat) (I : hI) (J : hJ), s + r = D 0 0 → r < fuel → mpH D p I → I 0 78 = nI (cnt (qF D p w) s) → (∀ u, u < s → qF D p w u = true → I 38 (cnt (qF D p w) u) = nI u) → ∃ I' : hI, mM_laysEquations_L7 fuel (nI p) (bI w) (nI s) I J = mM_laysEquations_L98 hF (bI w) (nI 0) I' J ∧ (∀ a i, a ≠ 38 → a ≠ 39 → (a ≠ 0 ∨ i ≠ 78) → I' a i = I a i) ∧ askM D (qF D p w) I' := by
  have hn := hD.2.1
  intro r
  induction r with
  | zero =>
    intro s fuel I J hs hf h h78 h38
    obtain ⟨fuel, rfl⟩ : ∃ m, fuel = m + 1 := ⟨fuel - 1, by omega⟩
    obtain rfl : s = D 0 0 := by omega
    unfold mM_laysEquations_L7 mM_laysEquations_B7
    rw [h.1.1]
    simp (disch := omega) only [↓reduceIte, h_let, hg_in, hg_zb, hg_z0, hg_z1, hg_nz, Option.bind_some, if_pos, if_neg, bI_0, bI_n0, nI_add, nI_mul, nI_ltI, nI_leI, nI_eq, nI_clamp, nI_subN, nI_divN, nI_mod2, nI_m1e, nI_em1, nI_m2e, nI_lt0, m1_lt0, m1_lt, m1_le, h_u_at, h_u_off2, h_u_pl, li_0, li_1, li_2, li_3, li_4, li_5, li_6, li_7, li_8, li_9, li_10, li_11, li_12, li_13, li_14, li_15, li_16, li_17, li_18, li_19, li_20, li_21, li_22, li_23, li_24, li_25, li_26, li_27, li_28, li_29, li_30, li_31, li_32, li_40, li_43, li_45, li_47, li_48, li_57, li_59, li_60, li_61, li_62, li_63, li_64, li_80, li_92, li_97, li_99, li_100, li_122, li_123, li_125, li_166, li_201, li_210, li_250, li_255, li_256, li_257, li_258, li_259, li_260, li_261, li_262, li_263, li_264, li_265, li_266, li_267, li_268, li_300, li_500, li_1000, li_12345, li_27720, li_1000000, li_1103515245, ne_m1, ne_m2]
    refine ⟨I, rfl, fun _ _ _ _ _ => rfl, h78, fun j hj => ?_⟩
    obtain ⟨a, b, c⟩ := sel_spec (qF D p w) (D 0 0) j hj
    have := h38 _ a b
    rw [c] at this
    exact this
  | succ r ih =>
    intro s fuel I J hs hf h h78 h38
    obtain ⟨fuel, rfl⟩ : ∃ m, fuel = m + 1 := ⟨fuel - 1, by omega⟩
    have ei := m_isInside hD h.1 (s := s) (by omega)
    have e1 : decide (0 < D 1 s) = pIn D s := rfl
    rw [e1] at ei
    have el := h.2.2.1 s (by omega)
    have en := h.2.2.2 s (by omega)
    have hcs := cnt_le (qF D p w) s
    have no : qF D p w s = false → ∃ I' : hI, mM_laysEquations_L7 fuel (nI p) (bI w) (nI (s + 1)) (h_u I 39 s (-1 : Int32)) J = mM_laysEquations_L98 hF (bI w) (nI 0) I' J ∧ (∀ a i, a ≠ 38 → a ≠ 39 → (a ≠ 0 ∨ i ≠ 78) → I' a i = I a i) ∧ askM D (qF D p w) I' := fun hq => by
      obtain ⟨I', a1, a2, a3⟩ := ih (s + 1) fuel (h_u I 39 s (-1 : Int32)) J (by omega) (by omega) (mpH_of h (fun a i _ q2 _ => h_u_off2 _ _ _ _ q2)) (by rw [h_u_off2 _ _ _ _ (by omega), h78, cnt, hq]; rfl) (fun u hu hqu => by
        rw [h_u_off2 _ _ _ _ (by omega)]
        refine h38 u ?_ hqu
        by_cases e : u = s
        · rw [e, hq] at hqu; exact absurd hqu (by decide)
        · omega)
      exact ⟨I', a1, fun a i q1 q2 q3 => by rw [a2 a i q1 q2 q3, h_u_off2 _ _ _ _ q2], a3⟩
    have yes : qF D p w s = true → ∃ I' : hI, mM_laysEquations_L7 fuel (nI p) (bI w) (nI (s + 1)) (h_u (h_u (h_u I 38 (cnt (qF D p w) s) (nI s)) 39 s (nI (cnt (qF D p w) s))) 0 78 (nI (cnt (qF D p w) s + 1))) J = mM_laysEquations_L98 hF (bI w) (nI 0) I' J ∧ (∀ a i, a ≠ 38 → a ≠ 39 → (a ≠ 0 ∨ i ≠ 78) → I' a i = I a i) ∧ askM D (qF D p w) I' := fun hq => by
      have off : ∀ a i, a ≠ 38 → a ≠ 39 → (a ≠ 0 ∨ i ≠ 78) → h_u (h_u (h_u I 38 (cnt (qF D p w) s) (nI s)) 39 s (nI (cnt (qF D p w) s))) 0 78 (nI (cnt (qF D p w) s + 1)) a i = I a i := fun a i q1 q2 q3 => by
        have : h_u (h_u (h_u I 38 (cnt (qF D p w) s) (nI s)) 39 s (nI (cnt (qF D p w) s))) 0 78 (nI (cnt (qF D p w) s + 1)) a i = h_u (h_u I 38 (cnt (qF D p w) s) (nI s)) 39 s (nI (cnt (qF D p w) s)) a i := by
          by_cases e : a = 0
          · subst e; exact h_u_pl _ _ _ (by omega)
          · exact h_u_off2 _ _ _ _ e
        rw [this, h_u_off2 _ _ _ _ q2, h_u_off2 _ _ _ _ q1]
      obtain ⟨I', a1, a2, a3⟩ := ih (s + 1) fuel (h_u (h_u (h_u I 38 (cnt (qF D p w) s) (nI s)) 39 s (nI (cnt (qF D p w) s))) 0 78 (nI (cnt (qF D p w) s + 1))) J (by omega) (by omega) (mpH_of h off) (by rw [h_u_at, cnt, hq]; rfl) (fun u hu hqu => by
        rw [h_u_off2 _ _ _ _ (by omega), h_u_off2 _ _ _ _ (by omega)]
        by_cases e : u = s
        · subst e; rw [h_u_at]
        · rw [h_u_pl _ _ _ (by
            have := cnt_lt (qF D p w) (show u < s by omega) hqu
            omega)]
          exact h38 u (by omega) hqu)
      exact ⟨I', a1, fun a i q1 q2 q3 => by rw [a2 a i q1 q2 q3, off a i q1 q2 q3], a3⟩
    unfold mM_laysEquations_L7 mM_laysEquations_B7
    rw [h.1.1]
    cases hi : pIn D s
    · rw [hi, bI_f] at ei
      have := no (by unfold qF pPs; rw [hi]; rfl)
      unfold mM_laysEquations_83
      simp (disch := omega) only [↓reduceIte, h_let, hg_in, hg_zb, hg_z0, hg_z1, hg_nz, Option.bind_some, if_pos, if_neg, bI_0, bI_n0, nI_add, nI_mul, nI_ltI, nI_leI, nI_eq, nI_clamp, nI_subN, nI_divN, nI_mod2, nI_m1e, nI_em1, nI_m2e, nI_lt0, m1_lt0, m1_lt, m1_le, h_u_at, h_u_off2, h_u_pl, li_0, li_1, li_2, li_3, li_4, li_5, li_6, li_7, li_8, li_9, li_10, li_11, li_12, li_13, li_14, li_15, li_16, li_17, li_18, li_19, li_20, li_21, li_22, li_23, li_24, li_25, li_26, li_27, li_28, li_29, li_30, li_31, li_32, li_40, li_43, li_45, li_47, li_48, li_57, li_59, li_60, li_61, li_62, li_63, li_64, li_80, li_92, li_97, li_99, li_100, li_122, li_123, li_125, li_166, li_201, li_210, li_250, li_255, li_256, li_257, li_258, li_259, li_260, li_261, li_262, li_263, li_264, li_265, li_266, li_267, li_268, li_300, li_500, li_1000, li_12345, li_27720, li_1000000, li_1103515245, ne_m1, ne_m2, ei]
      exact this
    · rw [hi, bI_t] at ei
      cases hl : pSt D p s
      · rw [hl, bI_f] at el
        have hps : pPs D p s = true := by unfold pPs; rw [hi, hl]; rfl
        cases w
        · have := yes (by unfold qF; rw [hps]; rfl)
          rw [bI_f] at this ⊢
          unfold mM_laysEquations_50
          simp (disch := omega) only [↓reduceIte, h_let, hg_in, hg_zb, hg_z0, hg_z1, hg_nz, Option.bind_some, if_pos, if_neg, bI_0, bI_n0, nI_add, nI_mul, nI_ltI, nI_leI, nI_eq, nI_clamp, nI_subN, nI_divN, nI_mod2, nI_m1e, nI_em1, nI_m2e, nI_lt0, m1_lt0, m1_lt, m1_le, h_u_at, h_u_off2, h_u_pl, li_0, li_1, li_2, li_3, li_4, li_5, li_6, li_7, li_8, li_9, li_10, li_11, li_12, li_13, li_14, li_15, li_16, li_17, li_18, li_19, li_20, li_21, li_22, li_23, li_24, li_25, li_26, li_27, li_28, li_29, li_30, li_31, li_32, li_40, li_43, li_45, li_47, li_48, li_57, li_59, li_60, li_61, li_62, li_63, li_64, li_80, li_92, li_97, li_99, li_100, li_122, li_123, li_125, li_166, li_201, li_210, li_250, li_255, li_256, li_257, li_258, li_259, li_260, li_261, li_262, li_263, li_264, li_265, li_266, li_267, li_268, li_300, li_500, li_1000, li_12345, li_27720, li_1000000, li_1103515245, ne_m1, ne_m2, ei, el, h78]
          exact this
        · cases he : pEn D p s
          · rw [he, bI_f] at en
            have := yes (by unfold qF; rw [hps, he]; rfl)
            rw [bI_t] at this ⊢
            unfold mM_laysEquations_50
            simp (disch := omega) only [↓reduceIte, h_let, hg_in, hg_zb, hg_z0, hg_z1, hg_nz, Option.bind_some, if_pos, if_neg, bI_0, bI_n0, nI_add, nI_mul, nI_ltI, nI_leI, nI_eq, nI_clamp, nI_subN, nI_divN, nI_mod2, nI_m1e, nI_em1, nI_m2e, nI_lt0, m1_lt0, m1_lt, m1_le, h_u_at, h_u_off2, h_u_pl, li_0, li_1, li_2, li_3, li_4, li_5, li_6, li_7, li_8, li_9, li_10, li_11, li_12, li_13, li_14, li_15, li_16, li_17, li_18, li_19, li_20, li_21, li_22, li_23, li_24, li_25, li_26, li_27, li_28, li_29, li_30, li_31, li_32, li_40, li_43, li_45, li_47, li_48, li_57, li_59, li_60, li_61, li_62, li_63, li_64, li_80, li_92, li_97, li_99, li_100, li_122, li_123, li_125, li_166, li_201, li_210, li_250, li_255, li_256, li_257, li_258, li_259, li_260, li_261, li_262, li_263, li_264, li_265, li_266, li_267, li_268, li_300, li_500, li_1000, li_12345, li_27720, li_1000000, li_1103515245, ne_m1, ne_m2, ei, el, en, h78]
            exact this
          · rw [he, bI_t] at en
            have := no (by unfold qF; rw [he]; simp)
            rw [bI_t] at this ⊢
            unfold mM_laysEquations_83
            simp (disch := omega) only [↓reduceIte, h_let, hg_in, hg_zb, hg_z0, hg_z1, hg_nz, Option.bind_some, if_pos, if_neg, bI_0, bI_n0, nI_add, nI_mul, nI_ltI, nI_leI, nI_eq, nI_clamp, nI_subN, nI_divN, nI_mod2, nI_m1e, nI_em1, nI_m2e, nI_lt0, m1_lt0, m1_lt, m1_le, h_u_at, h_u_off2, h_u_pl, li_0, li_1, li_2, li_3, li_4, li_5, li_6, li_7, li_8, li_9, li_10, li_11, li_12, li_13, li_14, li_15, li_16, li_17, li_18, li_19, li_20, li_21, li_22, li_23, li_24, li_25, li_26, li_27, li_28, li_29, li_30, li_31, li_32, li_40, li_43, li_45, li_47, li_48, li_57, li_59, li_60, li_61, li_62, li_63, li_64, li_80, li_92, li_97, li_99, li_100, li_122, li_123, li_125, li_166, li_201, li_210, li_250, li_255, li_256, li_257, li_258, li_259, li_260, li_261, li_262, li_263, li_264, li_265, li_266, li_267, li_268, li_300, li_500, li_1000, li_12345, li_27720, li_1000000, li_1103515245, ne_m1, ne_m2, ei, el, en]
            exact this
      · rw [hl, bI_t] at el
        have := no (by unfold qF pPs; rw [hl]; simp)
        unfold mM_laysEquations_83
        simp (disch := omega) only [↓reduceIte, h_let, hg_in, hg_zb, hg_z0, hg_z1, hg_nz, Option.bind_some, if_pos, if_neg, bI_0, bI_n0, nI_add, nI_mul, nI_ltI, nI_leI, nI_eq, nI_clamp, nI_subN, nI_divN, nI_mod2, nI_m1e, nI_em1, nI_m2e, nI_lt0, m1_lt0, m1_lt, m1_le, h_u_at, h_u_off2, h_u_pl, li_0, li_1, li_2, li_3, li_4, li_5, li_6, li_7, li_8, li_9, li_10, li_11, li_12, li_13, li_14, li_15, li_16, li_17, li_18, li_19, li_20, li_21, li_22, li_23, li_24, li_25, li_26, li_27, li_28, li_29, li_30, li_31, li_32, li_40, li_43, li_45, li_47, li_48, li_57, li_59, li_60, li_61, li_62, li_63, li_64, li_80, li_92, li_97, li_99, li_100, li_122, li_123, li_125, li_166, li_201, li_210, li_250, li_255, li_256, li_257, li_258, li_259, li_260, li_261, li_262, li_263, li_264, li_265, li_266, li_267, li_268, li_300, li_500, li_1000, li_12345, li_27720, li_1000000, li_1103515245, ne_m1, ne_m2, ei, el]
        exact this
/-- the equations' square and its right side -/
def eqM (D : rD) (p : Nat) (f : Nat → Bool) (b : Nat) (J : hJ) : Prop := ∀ r, r < cnt f (D 0 0) → J 40 (11 * r + 10) = lI (eR D p f r b) ∧ ∀ i, i < cnt f (D 0 0) → J 40 (11 * r + i) = lI (eR D p f r i)
theorem nI_subl {a b : Nat} (ha : a < 2 ^ 30) (hb : b < 2 ^ 30) : (nI a - nI b).toInt64 = lI ((a : Int) - (b : Int)) := by
  have h1 : (nI a).toInt = (a : Int) := nI_toInt (by omega)
  have h2 : (nI b).toInt = (b : Int) := nI_toInt (by omega)
  apply Int64.toInt_inj.mp
  rw [lI_toInt (by omega) (by omega), Int32.toInt_toInt64, Int32.toInt_sub, h1, h2]
  exact Int.bmod_eq_of_le (by omega) (by omega)
theorem mp_eq_i (hD : rOk D) (w : Bool) {f : Nat → Bool} (hfi : ∀ u, f u = true → pIn D u = true) {I : hI} (h : mR D I) (hc : chM D p I) (ha : askM D f I) {r : Nat} (hr : r < cnt f (D 0 0)) (k98 : _) : ∀ (c i fuel : Nat) (J : hJ), i + c = cnt f (D 0 0) → c < fuel → (∀ i', i' < i → J 40 (11 * r + i') = lI (eR D p f r i')) → ∃ J' : hJ, mM_laysEquations_L117 k98 fuel (bI w) (nI r) (nI (sel f (D 0 0) r)) (nI i) I J = k98 (bI w) (nI (r + 1)) I J' ∧ (∀ a x, (a ≠ 40 ∨ x < 11 * r ∨ 11 * r + 10 < x) → J' a x = J a x) ∧ J' 40 (11 * r + 10) = lI (eR D p f r (bL w)) ∧ ∀ i', i' < cnt f (D 0 0) → J' 40 (11 * r + i') = lI (eR D p f r i') := by
  have hn := hD.2.1
  have hm := cnt_le f (D 0 0)
  obtain ⟨s1, s2, s3⟩ := sel_spec f (D 0 0) r hr
  have s4 := hfi _ s2
  have s5 : 0 < D 1 (sel f (D 0 0) r) := by simpa [pIn] using s4
  have hch := pCh_lt (p := p) s5
  have h8 := hD.2.2.2.1 _ s1
  have hps : pSl D p (sel f (D 0 0) r) < 80 := by unfold pSl; omega
  intro c
  induction c with
  | zero =>
    intro i fuel J hi hf hJ0
    obtain ⟨fuel, rfl⟩ : ∃ m, fuel = m + 1 := ⟨fuel - 1, by omega⟩
    unfold mM_laysEquations_L117 mM_laysEquations_B117 mM_laysEquations_207
    rw [ha.1]
    cases w
    · have e1 := mp_endedOf hD h hc s1 s4
      have e2 : eR D p f r (bL false) = ((D 4 (pSl D p (sel f (D 0 0) r)) + pO D p (sel f (D 0 0) r) (D 0 0) : Nat) : Int) := by
        unfold eR bL
        rw [if_neg (show ¬ (if (false : Bool) = true then 20 else 21) < cnt f (D 0 0) by simp; omega), if_neg (by decide), if_pos (by decide)]
        omega
      have hb := (hD.2.2.2.2 _ s1 _ hch).2.2.1
      have hpo : D 4 (pSl D p (sel f (D 0 0) r)) + pO D p (sel f (D 0 0) r) (D 0 0) ≤ 4 := by
        have h5 := (hD.2.2.2.2 _ s1 _ hch).2.2.2.2
        have h6 : pO D p (sel f (D 0 0) r) (D 0 0) ≤ sumU (D 0 0) (fun u => D 5 (10 * (8 * (sel f (D 0 0) r) + pCh D p (sel f (D 0 0) r)) + u)) := sumU_le (fun u hu => by
          show _ ≤ pW D p (sel f (D 0 0) r) u
          split <;> omega)
        have e7 : D 4 (pSl D p (sel f (D 0 0) r)) = D 4 (8 * (sel f (D 0 0) r) + pCh D p (sel f (D 0 0) r)) := rfl
        omega
      rw [bI_f]
      refine ⟨h_u J 40 (11 * r + 10) (lI (eR D p f r (bL false))), ?_, fun a x hx => ?_, h_u_at _ _ _ _, fun i' hi' => ?_⟩
      · rw [e2]
        have e3 := nI_lI (n := D 4 (pSl D p (sel f (D 0 0) r)) + pO D p (sel f (D 0 0) r) (D 0 0)) (by omega)
        simp (disch := omega) only [↓reduceIte, h_let, hg_in, hg_zb, hg_z0, hg_z1, hg_nz, Option.bind_some, if_pos, if_neg, bI_0, bI_n0, nI_add, nI_mul, nI_ltI, nI_leI, nI_eq, nI_clamp, nI_subN, nI_divN, nI_mod2, nI_m1e, nI_em1, nI_m2e, nI_lt0, m1_lt0, m1_lt, m1_le, h_u_at, h_u_off2, h_u_pl, li_0, li_1, li_2, li_3, li_4, li_5, li_6, li_7, li_8, li_9, li_10, li_11, li_12, li_13, li_14, li_15, li_16, li_17, li_18, li_19, li_20, li_21, li_22, li_23, li_24, li_25, li_26, li_27, li_28, li_29, li_30, li_31, li_32, li_40, li_43, li_45, li_47, li_48, li_57, li_59, li_60, li_61, li_62, li_63, li_64, li_80, li_92, li_97, li_99, li_100, li_122, li_123, li_125, li_166, li_201, li_210, li_250, li_255, li_256, li_257, li_258, li_259, li_260, li_261, li_262, li_263, li_264, li_265, li_266, li_267, li_268, li_300, li_500, li_1000, li_12345, li_27720, li_1000000, li_1103515245, ne_m1, ne_m2, e1, e3]
      · by_cases e : a = 40
        · subst e; exact h_u_pl _ _ _ (by omega)
        · exact h_u_off2 _ _ _ _ e
      · rw [h_u_pl _ _ _ (by omega)]; exact hJ0 i' (by omega)
    · have e1 := mp_byPlan hD hc s1 s4
      have e5 : I 27 (pSl D p (sel f (D 0 0) r)) = nI (D 3 (pSl D p (sel f (D 0 0) r))) := (h.2.2.2.2 _ s1 _ hch).2.1
      have e4 : D 3 (pSl D p (sel f (D 0 0) r)) ≤ 1920 := (hD.2.2.2.2 _ s1 _ hch).2.1
      have e2 : eR D p f r (bL true) = (D 3 (pSl D p (sel f (D 0 0) r)) : Int) := by
        unfold eR bL
        rw [if_neg (show ¬ (if (true : Bool) = true then 20 else 21) < cnt f (D 0 0) by simp; omega), if_pos (by decide)]
      rw [bI_t]
      refine ⟨h_u J 40 (11 * r + 10) (lI (eR D p f r (bL true))), ?_, fun a x hx => ?_, h_u_at _ _ _ _, fun i' hi' => ?_⟩
      · rw [e2]
        have e3 := nI_lI (n := D 3 (pSl D p (sel f (D 0 0) r))) (by omega)
        simp (disch := omega) only [↓reduceIte, h_let, hg_in, hg_zb, hg_z0, hg_z1, hg_nz, Option.bind_some, if_pos, if_neg, bI_0, bI_n0, nI_add, nI_mul, nI_ltI, nI_leI, nI_eq, nI_clamp, nI_subN, nI_divN, nI_mod2, nI_m1e, nI_em1, nI_m2e, nI_lt0, m1_lt0, m1_lt, m1_le, h_u_at, h_u_off2, h_u_pl, li_0, li_1, li_2, li_3, li_4, li_5, li_6, li_7, li_8, li_9, li_10, li_11, li_12, li_13, li_14, li_15, li_16, li_17, li_18, li_19, li_20, li_21, li_22, li_23, li_24, li_25, li_26, li_27, li_28, li_29, li_30, li_31, li_32, li_40, li_43, li_45, li_47, li_48, li_57, li_59, li_60, li_61, li_62, li_63, li_64, li_80, li_92, li_97, li_99, li_100, li_122, li_123, li_125, li_166, li_201, li_210, li_250, li_255, li_256, li_257, li_258, li_259, li_260, li_261, li_262, li_263, li_264, li_265, li_266, li_267, li_268, li_300, li_500, li_1000, li_12345, li_27720, li_1000000, li_1103515245, ne_m1, ne_m2, e1, e5, e3]
      · by_cases e : a = 40
        · subst e; exact h_u_pl _ _ _ (by omega)
        · exact h_u_off2 _ _ _ _ e
      · rw [h_u_pl _ _ _ (by omega)]; exact hJ0 i' (by omega)
  | succ c ih =>
    intro i fuel J hi hf hJ0
    obtain ⟨fuel, rfl⟩ : ∃ m, fuel = m + 1 := ⟨fuel - 1, by omega⟩
    obtain ⟨t1, t2, t3⟩ := sel_spec f (D 0 0) i (by omega)
    have e38 := ha.2 i (by omega)
    have et := mp_toOf hD h hc s1 t1 s4
    have hw4 : pW D p (sel f (D 0 0) r) (sel f (D 0 0) i) ≤ 4 := (hD.2.2.2.2 _ s1 _ hch).2.2.2.1 _ t1
    obtain ⟨J', a1, a2, a3, a4⟩ := ih (i + 1) fuel (h_u J 40 (11 * r + i) (lI (eR D p f r i))) (by omega) (by omega) (fun i' hi' => by
      by_cases e : i' = i
      · subst e; exact h_u_at _ _ _ _
      · rw [h_u_pl _ _ _ (by omega)]; exact hJ0 i' (by omega))
    refine ⟨J', ?_, fun a x hx => ?_, a3, a4⟩
    · have e2 := eR_lead (D := D) (p := p) (f := f) r i (by omega)
      unfold mM_laysEquations_L117 mM_laysEquations_B117 mM_laysEquations_148
      rw [ha.1]
      by_cases q : i = r
      · subst q
        have e3 : (nI (4 - pW D p (sel f (D 0 0) i) (sel f (D 0 0) i))).toInt64 = lI (4 - (pW D p (sel f (D 0 0) i) (sel f (D 0 0) i) : Int)) := by
          rw [nI_lI (by omega)]
          congr 1
          omega
        rw [if_pos rfl] at e2
        unfold eP at e2
        rw [e2] at a1
        simp (disch := omega) only [↓reduceIte, h_let, hg_in, hg_zb, hg_z0, hg_z1, hg_nz, Option.bind_some, if_pos, if_neg, bI_0, bI_n0, nI_add, nI_mul, nI_ltI, nI_leI, nI_eq, nI_clamp, nI_subN, nI_divN, nI_mod2, nI_m1e, nI_em1, nI_m2e, nI_lt0, m1_lt0, m1_lt, m1_le, h_u_at, h_u_off2, h_u_pl, li_0, li_1, li_2, li_3, li_4, li_5, li_6, li_7, li_8, li_9, li_10, li_11, li_12, li_13, li_14, li_15, li_16, li_17, li_18, li_19, li_20, li_21, li_22, li_23, li_24, li_25, li_26, li_27, li_28, li_29, li_30, li_31, li_32, li_40, li_43, li_45, li_47, li_48, li_57, li_59, li_60, li_61, li_62, li_63, li_64, li_80, li_92, li_97, li_99, li_100, li_122, li_123, li_125, li_166, li_201, li_210, li_250, li_255, li_256, li_257, li_258, li_259, li_260, li_261, li_262, li_263, li_264, li_265, li_266, li_267, li_268, li_300, li_500, li_1000, li_12345, li_27720, li_1000000, li_1103515245, ne_m1, ne_m2, e38, et, e3]
        exact a1
      · have e3 := nI_subl (a := 0) (b := pW D p (sel f (D 0 0) r) (sel f (D 0 0) i)) (by omega) (by omega)
        rw [if_neg q] at e2
        unfold eP at e2
        rw [e2] at a1
        simp (disch := omega) only [↓reduceIte, h_let, hg_in, hg_zb, hg_z0, hg_z1, hg_nz, Option.bind_some, if_pos, if_neg, bI_0, bI_n0, nI_add, nI_mul, nI_ltI, nI_leI, nI_eq, nI_clamp, nI_subN, nI_divN, nI_mod2, nI_m1e, nI_em1, nI_m2e, nI_lt0, m1_lt0, m1_lt, m1_le, h_u_at, h_u_off2, h_u_pl, li_0, li_1, li_2, li_3, li_4, li_5, li_6, li_7, li_8, li_9, li_10, li_11, li_12, li_13, li_14, li_15, li_16, li_17, li_18, li_19, li_20, li_21, li_22, li_23, li_24, li_25, li_26, li_27, li_28, li_29, li_30, li_31, li_32, li_40, li_43, li_45, li_47, li_48, li_57, li_59, li_60, li_61, li_62, li_63, li_64, li_80, li_92, li_97, li_99, li_100, li_122, li_123, li_125, li_166, li_201, li_210, li_250, li_255, li_256, li_257, li_258, li_259, li_260, li_261, li_262, li_263, li_264, li_265, li_266, li_267, li_268, li_300, li_500, li_1000, li_12345, li_27720, li_1000000, li_1103515245, ne_m1, ne_m2, e38, et, e3]
        exact a1
    · rw [a2 a x hx]
      by_cases e : a = 40
      · subst e; exact h_u_pl _ _ _ (by omega)
      · exact h_u_off2 _ _ _ _ e
theorem mp_eq_r (hD : rOk D) (w : Bool) {f : Nat → Bool} (hfi : ∀ u, f u = true → pIn D u = true) {I : hI} (h : mR D I) (hc : chM D p I) (ha : askM D f I) : ∀ (c r fuel : Nat) (J : hJ), r + c = cnt f (D 0 0) → c < fuel → (∀ r', r' < r → J 40 (11 * r' + 10) = lI (eR D p f r' (bL w)) ∧ ∀ i, i < cnt f (D 0 0) → J 40 (11 * r' + i) = lI (eR D p f r' i)) → ∃ J' : hJ, mM_laysEquations_L98 fuel (bI w) (nI r) I J = some (I, J') ∧ (∀ a x, a ≠ 40 → J' a x = J a x) ∧ eqM D p f (bL w) J' := by
  have hn := hD.2.1
  have hm := cnt_le f (D 0 0)
  intro c
  induction c with
  | zero =>
    intro r fuel J hr hf hJ0
    obtain ⟨fuel, rfl⟩ : ∃ m, fuel = m + 1 := ⟨fuel - 1, by omega⟩
    unfold mM_laysEquations_L98 mM_laysEquations_B98
    rw [ha.1]
    simp (disch := omega) only [↓reduceIte, h_let, hg_in, hg_zb, hg_z0, hg_z1, hg_nz, Option.bind_some, if_pos, if_neg, bI_0, bI_n0, nI_add, nI_mul, nI_ltI, nI_leI, nI_eq, nI_clamp, nI_subN, nI_divN, nI_mod2, nI_m1e, nI_em1, nI_m2e, nI_lt0, m1_lt0, m1_lt, m1_le, h_u_at, h_u_off2, h_u_pl, li_0, li_1, li_2, li_3, li_4, li_5, li_6, li_7, li_8, li_9, li_10, li_11, li_12, li_13, li_14, li_15, li_16, li_17, li_18, li_19, li_20, li_21, li_22, li_23, li_24, li_25, li_26, li_27, li_28, li_29, li_30, li_31, li_32, li_40, li_43, li_45, li_47, li_48, li_57, li_59, li_60, li_61, li_62, li_63, li_64, li_80, li_92, li_97, li_99, li_100, li_122, li_123, li_125, li_166, li_201, li_210, li_250, li_255, li_256, li_257, li_258, li_259, li_260, li_261, li_262, li_263, li_264, li_265, li_266, li_267, li_268, li_300, li_500, li_1000, li_12345, li_27720, li_1000000, li_1103515245, ne_m1, ne_m2]
    exact ⟨J, rfl, fun _ _ _ => rfl, fun r' hr' => hJ0 r' (by omega)⟩
  | succ c ih =>
    intro r fuel J hr hf hJ0
    obtain ⟨fuel, rfl⟩ : ∃ m, fuel = m + 1 := ⟨fuel - 1, by omega⟩
    have e38 := ha.2 r (by omega)
    obtain ⟨J1, a1, a2, a3, a4⟩ := mp_eq_i hD w hfi h hc ha (r := r) (by omega) (mM_laysEquations_L98 fuel) (cnt f (D 0 0)) 0 hF J (by omega) (by unfold hF; omega) (fun i' hi' => by omega)
    obtain ⟨J', b1, b2, b3⟩ := ih (r + 1) fuel J1 (by omega) (by omega) (fun r' hr' => by
      by_cases e : r' = r
      · subst e; exact ⟨a3, a4⟩
      · obtain ⟨q1, q2⟩ := hJ0 r' (by omega)
        exact ⟨by rw [a2 40 _ (by omega)]; exact q1, fun i hi => by rw [a2 40 _ (by omega)]; exact q2 i hi⟩)
    refine ⟨J', ?_, fun a x hx => by rw [b2 a x hx, a2 a x (Or.inl hx)], b3⟩
    unfold mM_laysEquations_L98 mM_laysEquations_B98
    rw [ha.1]
    simp (disch := omega) only [↓reduceIte, h_let, hg_in, hg_zb, hg_z0, hg_z1, hg_nz, Option.bind_some, if_pos, if_neg, bI_0, bI_n0, nI_add, nI_mul, nI_ltI, nI_leI, nI_eq, nI_clamp, nI_subN, nI_divN, nI_mod2, nI_m1e, nI_em1, nI_m2e, nI_lt0, m1_lt0, m1_lt, m1_le, h_u_at, h_u_off2, h_u_pl, li_0, li_1, li_2, li_3, li_4, li_5, li_6, li_7, li_8, li_9, li_10, li_11, li_12, li_13, li_14, li_15, li_16, li_17, li_18, li_19, li_20, li_21, li_22, li_23, li_24, li_25, li_26, li_27, li_28, li_29, li_30, li_31, li_32, li_40, li_43, li_45, li_47, li_48, li_57, li_59, li_60, li_61, li_62, li_63, li_64, li_80, li_92, li_97, li_99, li_100, li_122, li_123, li_125, li_166, li_201, li_210, li_250, li_255, li_256, li_257, li_258, li_259, li_260, li_261, li_262, li_263, li_264, li_265, li_266, li_267, li_268, li_300, li_500, li_1000, li_12345, li_27720, li_1000000, li_1103515245, ne_m1, ne_m2, e38, a1, b1]
theorem mp_laysEquations (hD : rOk D) (hp : p < 64) (w : Bool) {I : hI} (h : mpH D p I) (J : hJ) : ∃ (I' : hI) (J' : hJ), mM_laysEquations (nI p) (bI w) I J = some (I', J') ∧ (∀ a i, a ≠ 38 → a ≠ 39 → (a ≠ 0 ∨ i ≠ 78) → I' a i = I a i) ∧ (∀ a x, a ≠ 40 → J' a x = J a x) ∧ askM D (qF D p w) I' ∧ eqM D p (qF D p w) (bL w) J' := by
  have hn := hD.2.1
  have hm := cnt_le (qF D p w) (D 0 0)
  have off : ∀ a i, a ≠ 38 → a ≠ 39 → (a ≠ 0 ∨ i ≠ 78) → h_u I 0 78 (nI 0) a i = I a i := fun a i q1 q2 q3 => by
    by_cases e : a = 0
    · subst e; exact h_u_pl _ _ _ (by omega)
    · exact h_u_off2 _ _ _ _ e
  obtain ⟨I1, a1, a2, a3⟩ := mp_ask_L hD hp w (D 0 0) 0 hF (h_u I 0 78 (nI 0)) J (by omega) (by unfold hF; omega) (mpH_of h off) (h_u_at _ _ _ _) (fun u hu => by omega)
  have h1 := mpH_of (mpH_of h off) a2
  obtain ⟨J1, b1, b2, b3⟩ := mp_eq_r hD w (qF_in w) h1.1 h1.2.1 a3 (cnt (qF D p w) (D 0 0)) 0 hF J (by omega) (by unfold hF; omega) (fun r hr => by omega)
  refine ⟨I1, J1, ?_, fun a i q1 q2 q3 => by rw [a2 a i q1 q2 q3, off a i q1 q2 q3], b2, a3, b3⟩
  unfold mM_laysEquations
  simp (disch := omega) only [↓reduceIte, h_let, hg_in, hg_zb, hg_z0, hg_z1, hg_nz, Option.bind_some, if_pos, if_neg, bI_0, bI_n0, nI_add, nI_mul, nI_ltI, nI_leI, nI_eq, nI_clamp, nI_subN, nI_divN, nI_mod2, nI_m1e, nI_em1, nI_m2e, nI_lt0, m1_lt0, m1_lt, m1_le, h_u_at, h_u_off2, h_u_pl, li_0, li_1, li_2, li_3, li_4, li_5, li_6, li_7, li_8, li_9, li_10, li_11, li_12, li_13, li_14, li_15, li_16, li_17, li_18, li_19, li_20, li_21, li_22, li_23, li_24, li_25, li_26, li_27, li_28, li_29, li_30, li_31, li_32, li_40, li_43, li_45, li_47, li_48, li_57, li_59, li_60, li_61, li_62, li_63, li_64, li_80, li_92, li_97, li_99, li_100, li_122, li_123, li_125, li_166, li_201, li_210, li_250, li_255, li_256, li_257, li_258, li_259, li_260, li_261, li_262, li_263, li_264, li_265, li_266, li_267, li_268, li_300, li_500, li_1000, li_12345, li_27720, li_1000000, li_1103515245, ne_m1, ne_m2, a1, b1]
end Eqs
