/-! Plans: what the reference solves over fewer states is what the class solves. -/
section Sm
variable {D : rD} {p : Nat}
theorem pEn_edge {u t : Nat} (ht : t < D 0 0) (hi : pIn D u = true) (hw : 0 < pW D p u t) (he : pEn D p t = true) : pEn D p u = true := by
  unfold pEn at he ⊢
  rw [anyF_iff] at he ⊢
  obtain ⟨v, h1, h2, h3⟩ := he
  simp only [Bool.and_eq_true] at h3 ⊢
  exact ⟨v, h1, h2, ⟨pRe_trans ht (pRe_edge hi hw) h3.1.1, h3.1.2⟩, h3.2⟩
/-- one row of the equations, over states -/
def hT (D : rD) (p u : Nat) (X : Nat → Int) (t : Nat) : Int := ((if t = u then 4 else 0) - (pW D p u t : Int)) * X t
theorem row_states {g : Nat → Bool} {u : Nat} (hu : u < D 0 0) (hg : g u = true) (X : Nat → Int) : sumN (cnt g (D 0 0)) (fun j => eR D p g (cnt g u) j * X (sel g (D 0 0) j)) = sumN (D 0 0) (fun t => if g t = true then hT D p u X t else 0) := by
  rw [← sum_sel g (hT D p u X)]
  refine sumN_congr (fun j hj => ?_)
  obtain ⟨s1, s2, s3⟩ := sel_spec g (D 0 0) j hj
  rw [eR_lead _ _ hj]
  unfold eP hT
  rw [sel_cnt g hu hg]
  have : (j = cnt g u) ↔ (sel g (D 0 0) j = u) := ⟨fun e => by rw [e, sel_cnt g hu hg], fun e => by rw [← s3, e]⟩
  by_cases e : j = cnt g u
  · rw [if_pos e, if_pos (this.mp e)]
  · rw [if_neg e, if_neg (fun q => e (this.mpr q))]
theorem eR_20 (hD : rOk D) {g : Nat → Bool} {u : Nat} (hu : u < D 0 0) (hg : g u = true) : eR D p g (cnt g u) 20 = (D 3 (pSl D p u) : Int) := by
  have hn := hD.2.1
  have hm := cnt_le g (D 0 0)
  unfold eR
  rw [if_neg (by omega), if_pos rfl, sel_cnt g hu hg]
theorem less_same (hD : rOk D) {s : Nat} (hs : s < D 0 0) (hq : qF D p true s = true) : gS D p (qF D p true) (cnt (qF D p true) s) 20 * gD D p (pPs D p) = gS D p (pPs D p) (cnt (pPs D p) s) 20 * gD D p (qF D p true) := by
  have hX : ∀ u, u < D 0 0 → pPs D p u = true → sumN (D 0 0) (fun t => if pPs D p t = true then hT D p u (fun t => gS D p (pPs D p) (cnt (pPs D p) t) 20) t else 0) = (D 3 (pSl D p u) : Int) * gD D p (pPs D p) := fun u hu hg => by
    have h := cramer1 (r := eR D p (pPs D p) (cnt (pPs D p) u)) (rs := rsN (eR D p (pPs D p)) (cnt (pPs D p) (D 0 0))) ((rsN_mem _ _ _).mpr ⟨_, cnt_lt _ hu hg, rfl⟩) 20 (csN (cnt (pPs D p) (D 0 0)))
    rw [dX_csN, eR_20 hD hu hg] at h
    rw [← row_states hu hg]
    unfold gD
    rw [← h]
    refine sumN_congr (fun j hj => ?_)
    obtain ⟨s1, s2, s3⟩ := sel_spec (pPs D p) (D 0 0) j hj
    show _ * gS D p (pPs D p) (cnt (pPs D p) (sel (pPs D p) (D 0 0) j)) 20 = _
    rw [s3]
    rfl
  have hY : ∀ u, u < D 0 0 → qF D p true u = true → sumN (D 0 0) (fun t => if qF D p true t = true then hT D p u (fun t => gS D p (pPs D p) (cnt (pPs D p) t) 20) t else 0) = (D 3 (pSl D p u) : Int) * gD D p (pPs D p) := fun u hu hg => by
    rw [← hX u hu (qF_ps true u hg)]
    refine sumN_congr (fun t ht => ?_)
    have hne : pEn D p u = false := by
      unfold qF at hg
      cases he : pEn D p u
      · rfl
      · rw [he] at hg; simp at hg
    by_cases q : qF D p true t = true
    · rw [if_pos q, if_pos (qF_ps true t q)]
    · rw [if_neg q]
      by_cases q2 : pPs D p t = true
      · rw [if_pos q2]
        have he : pEn D p t = true := by
          cases he : pEn D p t
          · exact absurd (by unfold qF; rw [q2, he]; rfl) q
          · rfl
        have htu : t ≠ u := fun e => by rw [e, hne] at he; exact absurd he (by decide)
        have hw : pW D p u t = 0 := by
          by_cases hw : pW D p u t = 0
          · exact hw
          · have := pEn_edge ht (qF_in true u hg) (show 0 < pW D p u t by omega) he
            rw [hne] at this
            exact absurd this (by decide)
        unfold hT
        rw [if_neg htu, hw]
        simp
      · rw [if_neg q2]
  have hm := cnt_lt (qF D p true) hs hq
  have h2 := cramer2 (rs := rsN (eR D p (qF D p true)) (cnt (qF D p true) (D 0 0))) (cs := csN (cnt (qF D p true) (D 0 0))) (w := gD D p (pPs D p)) (j := 20) (x := fun i => (fun t => gS D p (pPs D p) (cnt (pPs D p) t) 20) (sel (qF D p true) (D 0 0) (cnt (qF D p true) (D 0 0) - 1 - i))) (fun r hr => by
    obtain ⟨i, hi, rfl⟩ := (rsN_mem _ _ r).mp hr
    obtain ⟨s1, s2, s3⟩ := sel_spec (qF D p true) (D 0 0) i hi
    have hy := hY _ s1 s2
    rw [← row_states s1 s2, s3] at hy
    have e20 := eR_20 (p := p) hD s1 s2
    rw [s3] at e20
    rw [dX_csN, e20, Int.mul_comm (gD D p (pPs D p)), ← hy]
    refine sumN_congr (fun j hj => ?_)
    have : cnt (qF D p true) (D 0 0) - 1 - (cnt (qF D p true) (D 0 0) - 1 - j) = j := by omega
    rw [this]) (i := cnt (qF D p true) (D 0 0) - 1 - cnt (qF D p true) s) (by rw [csN_len]; omega)
  have e1 : cnt (qF D p true) (D 0 0) - 1 - (cnt (qF D p true) (D 0 0) - 1 - cnt (qF D p true) s) = cnt (qF D p true) s := by omega
  simp only [e1] at h2
  rw [sel_cnt _ hs hq] at h2
  rw [Int.mul_comm]
  exact h2
/-- what the reference holds of a fraction -/
def xU (D : rD) (w : Bool) (p s : Nat) : Int := if qF D p w s = true then rdU (gS D p (qF D p w) (cnt (qF D p w) s) (bL w)) (gD D p (qF D p w)) else if w = true then 0 else if pIn D s = true then 0 else 1
def xL (D : rD) (w : Bool) (p s : Nat) : Int := if qF D p w s = true then rdL (gS D p (qF D p w) (cnt (qF D p w) s) (bL w)) (gD D p (qF D p w)) else 1
theorem x_eq (hD : rOk D) (w : Bool) {s : Nat} (hs : s < D 0 0) (he : w = true → pEn D p s = false) : xU D w p s = qU D w p s ∧ xL D w p s = qL D w p s := by
  cases w
  · have hf : qF D p false = pPs D p := by
      funext u
      unfold qF
      simp
    unfold xU xL qU qL rU rL
    rw [hf]
    by_cases h1 : pPs D p s = true
    · simp [h1, bL]
    · by_cases h2 : pIn D s = true
      · simp [h1, h2]
        decide
      · simp [h1, h2]
        decide
  · have he := he rfl
    have hq : qF D p true s = pPs D p s := by unfold qF; rw [he]; simp
    unfold xU xL qU qL rU rL
    rw [hq, he]
    by_cases h1 : pPs D p s = true
    · have hl := less_same hD hs (by rw [hq]; exact h1)
      have := rd_unique (gDf_le hD (fun u hu => qF_ps true u hu)).1 (gDf_le (p := p) hD (f := pPs D p) (fun _ h => h)).1 hl
      simp [h1, bL]
      exact this
    · simp [h1]
      decide
/-- the fractions of a plan, held -/
def frM (D : rD) (w : Bool) (p : Nat) (a3 a4 : Nat) (J : hJ) : Prop := ∀ s, s < D 0 0 → J a3 (10 * p + s) = lI (xU D w p s) ∧ J a4 (10 * p + s) = lI (xL D w p s)
theorem mp_base_L (hD : rOk D) (hp : p < 64) (w : Bool) {a3 a4 : Nat} (h34 : a3 ≠ a4) {I : hI} (h : mR D I) (KK : hJ → Option (hI × hJ)) (hK : ∀ (fuel : Nat) (J : hJ), mM_laysFractions_L3 (fuel + 1) (nI p) (bI w) a3 a4 (nI (D 0 0)) I J = KK J) : ∀ (r s fuel : Nat) (J : hJ), s + r = D 0 0 → r < fuel → (∀ u, u < s → J a3 (10 * p + u) = lI (if w = true then 0 else if pIn D u = true then 0 else 1) ∧ J a4 (10 * p + u) = lI 1) → ∃ J' : hJ, mM_laysFractions_L3 fuel (nI p) (bI w) a3 a4 (nI s) I J = KK J' ∧ (∀ a x, (a ≠ a3 ∧ a ≠ a4 ∨ x < 10 * p ∨ 10 * p + 10 ≤ x) → J' a x = J a x) ∧ ∀ u, u < D 0 0 → J' a3 (10 * p + u) = lI (if w = true then 0 else if pIn D u = true then 0 else 1) ∧ J' a4 (10 * p + u) = lI 1 := by
  have hn := hD.2.1
  intro r
  induction r with
  | zero =>
    intro s fuel J hs hf hJ0
    obtain ⟨fuel, rfl⟩ : ∃ m, fuel = m + 1 := ⟨fuel - 1, by omega⟩
    obtain rfl : s = D 0 0 := by omega
    exact ⟨J, hK fuel J, fun _ _ _ => rfl, hJ0⟩
  | succ r ih =>
    intro s fuel J hs hf hJ0
    obtain ⟨fuel, rfl⟩ : ∃ m, fuel = m + 1 := ⟨fuel - 1, by omega⟩
    have ei := m_isInside hD h (s := s) (by omega)
    have e1 : decide (0 < D 1 s) = pIn D s := rfl
    rw [e1] at ei
    obtain ⟨J', a1, a2, a5⟩ := ih (s + 1) fuel (h_u (h_u J a3 (10 * p + s) (lI (if w = true then 0 else if pIn D s = true then 0 else 1))) a4 (10 * p + s) (lI 1)) (by omega) (by omega) (fun u hu => by
      by_cases e : u = s
      · subst e
        exact ⟨by rw [h_u_off2 _ _ _ _ h34, h_u_at], by rw [h_u_at]⟩
      · obtain ⟨q1, q2⟩ := hJ0 u (by omega)
        exact ⟨by rw [h_u_off2 _ _ _ _ h34, h_u_pl _ _ _ (by omega)]; exact q1, by rw [h_u_pl _ _ _ (by omega), h_u_off2 _ _ _ _ (fun e => h34 e.symm)]; exact q2⟩)
    refine ⟨J', ?_, fun a x hx => ?_, a5⟩
    · unfold mM_laysFractions_L3 mM_laysFractions_B3 mM_laysFractions_37 mM_laysFractions_38
      rw [h.1]
      have l0 : (0 : Int64) = lI 0 := rfl
      have l1 : (1 : Int64) = lI 1 := rfl
      cases w
      · rw [bI_f] at a1 ⊢
        cases hi : pIn D s
        · rw [hi, bI_f] at ei
          rw [hi] at a1
          simp only [Bool.false_eq_true, if_false] at a1
          rw [l1]
          simp (disch := omega) only [↓reduceIte, h_let, hg_in, hg_zb, hg_z0, hg_z1, hg_nz, Option.bind_some, if_pos, if_neg, bI_0, bI_n0, nI_add, nI_mul, nI_ltI, nI_leI, nI_eq, nI_clamp, nI_subN, nI_divN, nI_mod2, nI_m1e, nI_em1, nI_m2e, nI_lt0, m1_lt0, m1_lt, m1_le, h_u_at, h_u_off2, h_u_pl, li_0, li_1, li_2, li_3, li_4, li_5, li_6, li_7, li_8, li_9, li_10, li_11, li_12, li_13, li_14, li_15, li_16, li_17, li_18, li_19, li_20, li_21, li_22, li_23, li_24, li_25, li_26, li_27, li_28, li_29, li_30, li_31, li_32, li_40, li_43, li_45, li_47, li_48, li_57, li_59, li_60, li_61, li_62, li_63, li_64, li_80, li_92, li_97, li_99, li_100, li_122, li_123, li_125, li_166, li_201, li_210, li_250, li_255, li_256, li_257, li_258, li_259, li_260, li_261, li_262, li_263, li_264, li_265, li_266, li_267, li_268, li_300, li_500, li_1000, li_12345, li_27720, li_1000000, li_1103515245, ne_m1, ne_m2, ei]
          exact a1
        · rw [hi, bI_t] at ei
          rw [hi] at a1
          simp only [Bool.false_eq_true, if_false, if_true] at a1
          rw [l1, l0]
          simp (disch := omega) only [↓reduceIte, h_let, hg_in, hg_zb, hg_z0, hg_z1, hg_nz, Option.bind_some, if_pos, if_neg, bI_0, bI_n0, nI_add, nI_mul, nI_ltI, nI_leI, nI_eq, nI_clamp, nI_subN, nI_divN, nI_mod2, nI_m1e, nI_em1, nI_m2e, nI_lt0, m1_lt0, m1_lt, m1_le, h_u_at, h_u_off2, h_u_pl, li_0, li_1, li_2, li_3, li_4, li_5, li_6, li_7, li_8, li_9, li_10, li_11, li_12, li_13, li_14, li_15, li_16, li_17, li_18, li_19, li_20, li_21, li_22, li_23, li_24, li_25, li_26, li_27, li_28, li_29, li_30, li_31, li_32, li_40, li_43, li_45, li_47, li_48, li_57, li_59, li_60, li_61, li_62, li_63, li_64, li_80, li_92, li_97, li_99, li_100, li_122, li_123, li_125, li_166, li_201, li_210, li_250, li_255, li_256, li_257, li_258, li_259, li_260, li_261, li_262, li_263, li_264, li_265, li_266, li_267, li_268, li_300, li_500, li_1000, li_12345, li_27720, li_1000000, li_1103515245, ne_m1, ne_m2, ei]
          exact a1
      · rw [bI_t] at a1 ⊢
        simp only [if_true] at a1
        rw [l1, l0]
        simp (disch := omega) only [↓reduceIte, h_let, hg_in, hg_zb, hg_z0, hg_z1, hg_nz, Option.bind_some, if_pos, if_neg, bI_0, bI_n0, nI_add, nI_mul, nI_ltI, nI_leI, nI_eq, nI_clamp, nI_subN, nI_divN, nI_mod2, nI_m1e, nI_em1, nI_m2e, nI_lt0, m1_lt0, m1_lt, m1_le, h_u_at, h_u_off2, h_u_pl, li_0, li_1, li_2, li_3, li_4, li_5, li_6, li_7, li_8, li_9, li_10, li_11, li_12, li_13, li_14, li_15, li_16, li_17, li_18, li_19, li_20, li_21, li_22, li_23, li_24, li_25, li_26, li_27, li_28, li_29, li_30, li_31, li_32, li_40, li_43, li_45, li_47, li_48, li_57, li_59, li_60, li_61, li_62, li_63, li_64, li_80, li_92, li_97, li_99, li_100, li_122, li_123, li_125, li_166, li_201, li_210, li_250, li_255, li_256, li_257, li_258, li_259, li_260, li_261, li_262, li_263, li_264, li_265, li_266, li_267, li_268, li_300, li_500, li_1000, li_12345, li_27720, li_1000000, li_1103515245, ne_m1, ne_m2]
        exact a1
    · rw [a2 a x hx]
      have e7 : ∀ (K : hJ) (c : Nat) (v : Int64), (c = a3 ∨ c = a4) → h_u K c (10 * p + s) v a x = K a x := fun K c v hc => by
        by_cases e : a = c
        · subst e; exact h_u_pl _ _ _ (by omega)
        · exact h_u_off2 _ _ _ _ e
      rw [e7 _ _ _ (Or.inr rfl), e7 _ _ _ (Or.inl rfl)]
theorem mp_laysFractions (hD : rOk D) (hp : p < 64) (w : Bool) {a3 a4 : Nat} (h34 : a3 ≠ a4) (h3 : a3 ≠ 40 ∧ a3 ≠ 41) (h4 : a4 ≠ 40 ∧ a4 ≠ 41) {I : hI} (h : mpH D p I) (J : hJ) : ∃ (I' : hI) (J' : hJ), mM_laysFractions (nI p) (bI w) a3 a4 I J = some (I', J') ∧ (∀ a i, a ≠ 38 → a ≠ 39 → (a ≠ 0 ∨ i ≠ 78) → I' a i = I a i) ∧ (∀ a x, a ≠ 40 → a ≠ 41 → (a ≠ a3 ∧ a ≠ a4 ∨ x < 10 * p ∨ 10 * p + 10 ≤ x) → J' a x = J a x) ∧ frM D w p a3 a4 J' := by
  have hn := hD.2.1
  obtain ⟨J1, a1, a2, a5⟩ := mp_base_L hD hp w h34 h.1 (fun J => (mM_laysEquations (nI p) (bI w) I J).bind fun q1 => (mM_determinantWith (-1 : Int32) q1.1 q1.2).bind fun q2 => h_let q2.1 fun v5x2 => mM_laysFractions_L72 hF (nI p) a3 a4 v5x2 (0 : Int32) q1.1 q2.2) (fun fuel J => by
    unfold mM_laysFractions_L3 mM_laysFractions_B3
    rw [h.1.1, if_pos (Int32.le_refl _)]) (D 0 0) 0 hF J (by omega) (by unfold hF; omega) (fun u hu => by omega)
  obtain ⟨I2, J2, b1, b2, b3, b4, b5⟩ := mp_laysEquations hD hp w h J1
  have hb : bL w = 20 ∨ bL w = 21 := by unfold bL; cases w <;> simp
  obtain ⟨J3, c1, c2⟩ := mp_detAll hD (qF_in w) hb b4 b5
  have g3 : eqM D p (qF D p w) (bL w) J3 := fun r hr => ⟨by rw [c2 40 _ (by decide)]; exact (b5 r hr).1, fun i hi => by rw [c2 40 _ (by decide)]; exact (b5 r hr).2 i hi⟩
  obtain ⟨J4, d1, d2, d3⟩ := mp_fr_L hD hp (qF_ps w) hb b4 h34 h3 h4 (cnt (qF D p w) (D 0 0)) 0 hF J3 (by omega) (by have := cnt_le (qF D p w) (D 0 0); unfold hF; omega) g3 (fun i hi => by omega)
  refine ⟨I2, J4, ?_, b2, fun a x q1 q2 q3 => ?_, fun s hs => ?_⟩
  · unfold mM_laysFractions
    rw [li_0, a1]
    show Option.bind _ _ = _
    rw [b1]
    show Option.bind (mM_determinantWith (-1 : Int32) I2 J2) _ = _
    rw [c1]
    exact d1
  · rw [d2 a x q2 (by
      rcases q3 with q3 | q3
      · exact Or.inl q3
      · exact Or.inr (fun s hs _ => by omega)), c2 a x q2, b3 a x q1, a2 a x q3]
  · unfold xU xL
    by_cases q : qF D p w s = true
    · rw [if_pos q, if_pos q]
      have := d3 (cnt (qF D p w) s) (cnt_lt _ hs q)
      rw [sel_cnt _ hs q] at this
      exact this
    · rw [if_neg q, if_neg q]
      have hx : ∀ a, a ≠ 40 ∧ a ≠ 41 → J4 a (10 * p + s) = J1 a (10 * p + s) := fun a ha => by
        rw [d2 a _ ha.2 (Or.inr (fun u hu hqu e => q (by
          have : u = s := by omega
          rw [← this]; exact hqu))), c2 a _ ha.2, b3 a _ ha.1]
      rw [hx a3 h3, hx a4 h4]
      exact a5 s hs
end Sm
