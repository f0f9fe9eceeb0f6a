/-! The choices of all states, both sides; the rounds' data read off. -/
section Sa
variable {t w h sz n np wt : Nat} {Q : rD} {P E : cE} {pr : Nat → Int} {bn : Nat → Nat}
def stA (N w wt : Nat) (E : cE) (s : Nat) (Ic Im : hI) : Prop := ∃ c, Ic 8 s = nI c ∧ stQ N s c Ic Im ∧ (0 < c ↔ inB E w wt s = true)
theorem agQ_of {N slot : Nat} {Ic Im Ic' Im' : hI} (H : agQ N slot Ic Im) (h1 : Ic' 9 slot = Ic 9 slot ∧ Ic' 10 slot = Ic 10 slot ∧ Ic' 11 slot = Ic 11 slot ∧ ∀ u, u < N → Ic' 12 (10 * slot + u) = Ic 12 (10 * slot + u)) (h2 : Im' 26 slot = Im 26 slot ∧ Im' 27 slot = Im 27 slot ∧ Im' 28 slot = Im 28 slot ∧ ∀ u, u < N → Im' 29 (10 * slot + u) = Im 29 (10 * slot + u)) : agQ N slot Ic' Im' := by
  obtain ⟨pk, pd, en, f, x1, x2⟩ := H
  exact ⟨pk, pd, en, f, slQ_of x1 h1 h2, x2⟩
theorem bto_np (hbn : ∀ k, bn k < 3) (h0 : ∀ k, np ≤ k → bn k = 0) (hnp : np ≤ 3) : bto (bn 0) (bn 1) (bn 2) < 2 ^ np := by
  obtain ⟨a, b, c, d⟩ := bto_lt (bn 0) (bn 1) (bn 2)
  rcases (show np = 0 ∨ np = 1 ∨ np = 2 ∨ np = 3 by omega) with rfl | rfl | rfl | rfl
  · exact d (h0 2 (by omega)) (h0 1 (by omega)) (h0 0 (by omega))
  · exact c (h0 2 (by omega)) (h0 1 (by omega))
  · exact b (h0 2 (by omega))
  · exact a
theorem sr_L {f0 : Nat} (hb : bodyOk Q f0 6 0 n 0 sz) (ht : 61 ≤ t) (hN : w * h ≤ 10) : ∀ (r s fuel fuel2 : Nat) (Ic Im : hI), s + r = w * h → r < fuel → r < fuel2 → lyQ t w h sz n np wt Q P E pr bn Ic Im → (∀ u, u < s → stA (w * h) w wt E u Ic Im) → ∃ (Ic' Im' : hI), mRo_makeChoices_L3 fuel t (nI (bmk (bn 0) (bn 1) (bn 2))) (nI (bto (bn 0) (bn 1) (bn 2))) (nI s) Ic = ((mRo_countPlans Ic').bind fun q1 => some (h_u Ic' 7 9 q1)) ∧ mM_laysRounds_L7 fuel2 (nI s) Im = some Im' ∧ lyQ t w h sz n np wt Q P E pr bn Ic' Im' ∧ (∀ u, u < w * h → stA (w * h) w wt E u Ic' Im') ∧ offYc Ic Ic' ∧ offYm Im Im' := by
  intro r
  induction r with
  | zero =>
    intro s fuel fuel2 Ic Im hr hf hf2 H hA
    obtain ⟨fuel, rfl⟩ : ∃ m, fuel = m + 1 := ⟨fuel - 1, by omega⟩
    obtain ⟨fuel2, rfl⟩ : ∃ m, fuel2 = m + 1 := ⟨fuel2 - 1, by omega⟩
    obtain rfl : s = w * h := by omega
    refine ⟨Ic, Im, ?_, ?_, H, hA, fun _ _ _ _ => rfl, fun _ _ _ _ => rfl⟩
    · show mRo_makeChoices_B3 (mRo_makeChoices_L3 fuel) _ _ _ _ _ = _
      unfold mRo_makeChoices_B3
      rw [H.2.2.2.2.2.2.1, if_pos ((nI_leI (by omega) (by omega)).mpr (Nat.le_refl _))]
      rfl
    · show mM_laysRounds_B7 (mM_laysRounds_L7 fuel2) _ _ = _
      unfold mM_laysRounds_B7
      rw [H.2.2.2.2.2.2.2.2.1, if_pos ((nI_leI (by omega) (by omega)).mpr (Nat.le_refl _))]
  | succ r ih =>
    intro s fuel fuel2 Ic Im hr hf hf2 H hA
    obtain ⟨fuel, rfl⟩ : ∃ m, fuel = m + 1 := ⟨fuel - 1, by omega⟩
    obtain ⟨fuel2, rfl⟩ : ∃ m, fuel2 = m + 1 := ⟨fuel2 - 1, by omega⟩
    have hs : s < w * h := by omega
    have hw : 1 ≤ w ∧ w ≤ 10 := by obtain ⟨⟨_, q⟩, _⟩ := H; exact q.2.2.1
    have hnp := H.2.2.2.1
    obtain ⟨b1, b2, b3, b4, b5⟩ := H.2.2.1
    have hbt := bto_np b1 b2 hnp
    have om0 : ∀ a i, (a ≠ 25 ∨ i ≠ s) → h_u Im 25 s (nI 0) a i = Im a i := fun a i hh => by
      by_cases e : a = 25
      · subst e; exact h_u_pl _ _ _ (by omega)
      · exact h_u_off2 _ _ _ _ e
    have H0 : lyQ t w h sz n np wt Q P E pr bn Ic (h_u Im 25 s (nI 0)) := lyQ_of ht H (fun _ _ _ _ => rfl) (fun a i q1 q2 => om0 a i (by omega))
    -- this state
    have one : ∃ (Ic1 Im1 : hI) (c : Nat), mRo_makeChoices_L18 (mRo_makeChoices_L3 fuel) hF t (nI (bmk (bn 0) (bn 1) (bn 2))) (nI (bto (bn 0) (bn 1) (bn 2))) (nI s) (nI 0) (nI 0) Ic = mRo_makeChoices_99 (mRo_makeChoices_L3 fuel) t (nI (bmk (bn 0) (bn 1) (bn 2))) (nI (bto (bn 0) (bn 1) (bn 2))) (nI s) (nI c) Ic1 ∧ mM_laysRounds_L24 (mM_laysRounds_L7 fuel2) hF (nI s) (nI 0) (h_u Im 25 s (nI 0)) = mM_laysRounds_L7 fuel2 (nI (s + 1)) Im1 ∧ stQ (w * h) s c Ic1 Im1 ∧ (0 < c ↔ inB E w wt s = true) ∧ offSc s Ic Ic1 ∧ offSm s Im Im1 := by
      cases hin : inB E w wt s
      · refine ⟨Ic, h_u Im 25 s (nI 0), 0, ?_, ?_, ⟨by rw [h_u_at], by omega, fun k hk => by omega⟩, by simp, fun _ _ _ _ => rfl, fun a i q0 q1 q2 => om0 a i q0⟩
        · have e8 := H.2.2.2.2.1
          have sh := shl_p np (by omega)
          have z31 : (31 : Int32) = nI 31 := rfl
          have p0 : 0 < 2 ^ np := Nat.pow_pos (by decide)
          have p8 : 2 ^ np ≤ 2 ^ 3 := Nat.pow_le_pow_right (by decide) hnp
          have ei := ly_isIn H hN hs
          rw [hin, bI_f] at ei
          obtain ⟨f', hf'⟩ : ∃ f', hF = f' + 1 := ⟨999, rfl⟩
          rw [hf']
          show mRo_makeChoices_B18 _ (mRo_makeChoices_L18 _ f') _ _ _ _ _ _ _ = _
          unfold mRo_makeChoices_B18
          rw [e8, li_1, z31, sh, if_neg (fun q => by have := (nI_leI (by omega) (by omega)).mp q; omega), ei, if_pos (show nI 0 = (0 : Int32) from rfl)]
        · have e43 := H0.2.2.2.2.2.1
          have sh := shl_p np (by omega)
          have z31 : (31 : Int32) = nI 31 := rfl
          have p0 : 0 < 2 ^ np := Nat.pow_pos (by decide)
          have p8 : 2 ^ np ≤ 2 ^ 3 := Nat.pow_le_pow_right (by decide) hnp
          have ei := mp_isIn H0.2.1 hw (show s < 10 by omega)
          rw [hin, bI_f] at ei
          obtain ⟨f', hf'⟩ : ∃ f', hF = f' + 1 := ⟨999, rfl⟩
          rw [hf']
          show mM_laysRounds_B24 _ (mM_laysRounds_L24 _ f') _ _ _ = _
          unfold mM_laysRounds_B24
          rw [e43, li_1, z31, sh, if_neg (fun q => by have := (nI_leI (by omega) (by omega)).mp q; omega), ei, Option.bind_some, if_pos (show nI 0 = (0 : Int32) from rfl), nI_add]
      · have p8 : 2 ^ np ≤ 2 ^ 3 := Nat.pow_le_pow_right (by decide) hnp
        obtain ⟨Ic1, Im1, c, x1, x2, x3, x4, x5, x6⟩ := pk_L hb ht hN hs hin (mRo_makeChoices_L3 fuel) (mM_laysRounds_L7 fuel2) (2 ^ np) 0 hF hF 0 Ic (h_u Im 25 s (nI 0)) (by omega) (by unfold hF; omega) (by unfold hF; omega) H0 ⟨by rw [h_u_at], by omega, fun k hk => by omega⟩ (by omega) (by omega) hbt
        exact ⟨Ic1, Im1, c, x1, x2, x3, ⟨fun _ => rfl, fun _ => by omega⟩, x5, fun a i q0 q1 q2 => by rw [x6 a i q0 q1 q2, om0 a i q0]⟩
    obtain ⟨Ic1, Im1, c, x1, x2, x3, x4, x5, x6⟩ := one
    have oc2 : ∀ a i, (a ≠ 8 ∨ i ≠ s) → h_u Ic1 8 s (nI c) a i = Ic1 a i := fun a i hh => by
      by_cases e : a = 8
      · subst e; exact h_u_pl _ _ _ (by omega)
      · exact h_u_off2 _ _ _ _ e
    have fc : offYc Ic (h_u Ic1 8 s (nI c)) := fun a i q1 q2 => by rw [oc2 a i (by omega), x5 a i q1 (by omega)]
    have fm : offYm Im Im1 := fun a i q1 q2 => x6 a i (by omega) q1 (by omega)
    have hA1 : ∀ u, u < s + 1 → stA (w * h) w wt E u (h_u Ic1 8 s (nI c)) Im1 := fun u hu => by
      by_cases e : u = s
      · subst e
        refine ⟨c, by rw [h_u_at], ⟨x3.1, x3.2.1, fun k hk => agQ_of (x3.2.2 k hk) ⟨oc2 _ _ (by omega), oc2 _ _ (by omega), oc2 _ _ (by omega), fun _ _ => oc2 _ _ (by omega)⟩ ⟨rfl, rfl, rfl, fun _ _ => rfl⟩⟩, x4⟩
      · obtain ⟨d, y1, ⟨y2, y3, y4⟩, y5⟩ := hA u (by omega)
        refine ⟨d, by rw [oc2 _ _ (by omega), x5 _ _ (by omega) (by omega)]; exact y1, ⟨by rw [x6 _ _ (by omega) (by omega) (by omega)]; exact y2, y3, fun k hk => agQ_of (y4 k hk) ⟨?_, ?_, ?_, fun v hv => ?_⟩ ⟨?_, ?_, ?_, fun v hv => ?_⟩⟩, y5⟩
        · rw [oc2 _ _ (by omega), x5 _ _ (by omega) (by omega)]
        · rw [oc2 _ _ (by omega), x5 _ _ (by omega) (by omega)]
        · rw [oc2 _ _ (by omega), x5 _ _ (by omega) (by omega)]
        · rw [oc2 _ _ (by omega), x5 _ _ (by omega) (by omega)]
        · rw [x6 _ _ (by omega) (by omega) (by omega)]
        · rw [x6 _ _ (by omega) (by omega) (by omega)]
        · rw [x6 _ _ (by omega) (by omega) (by omega)]
        · rw [x6 _ _ (by omega) (by omega) (by omega)]
    obtain ⟨Ic', Im', z1, z2, z3, z4, z5, z6⟩ := ih (s + 1) fuel fuel2 (h_u Ic1 8 s (nI c)) Im1 (by omega) (by omega) (by omega) (lyQ_of ht H fc fm) hA1
    refine ⟨Ic', Im', ?_, ?_, z3, z4, fun a i q1 q2 => by rw [z5 a i q1 q2, fc a i q1 q2], fun a i q1 q2 => by rw [z6 a i q1 q2, fm a i q1 q2]⟩
    · show mRo_makeChoices_B3 (mRo_makeChoices_L3 fuel) _ _ _ _ _ = _
      unfold mRo_makeChoices_B3
      rw [H.2.2.2.2.2.2.1, if_neg (fun q => by have := (nI_leI (by omega) (by omega)).mp q; omega), li_0, x1]
      unfold mRo_makeChoices_99
      rw [hg_in _ (by omega) (by omega), hl_eq, nI_clamp (by omega), li_1, nI_add]
      exact z1
    · show mM_laysRounds_B7 (mM_laysRounds_L7 fuel2) _ _ = _
      unfold mM_laysRounds_B7
      rw [H.2.2.2.2.2.2.2.2.1, if_neg (fun q => by have := (nI_leI (by omega) (by omega)).mp q; omega), li_0, hg_in _ (by omega) (by omega), hl_eq, nI_clamp (by omega), x2]
      exact z2
/-- the rounds' data, read off the class's cells -/
def rdD (w h : Nat) (I : hI) : rD := fun r k => if r = 0 then (if k = 0 then w * h else if k = 1 then w else h) else if r = 1 then (I 8 k).toNatClampNeg else if r = 2 then (I 9 k).toNatClampNeg else if r = 3 then (I 10 k).toNatClampNeg else if r = 4 then (I 11 k).toNatClampNeg else (I 12 k).toNatClampNeg
theorem rd_ok {Ic Im : hI} (hw : 1 ≤ w) (hh : 1 ≤ h) (hN : w * h ≤ 10) (hA : ∀ u, u < w * h → stA (w * h) w wt E u Ic Im) (c5 : Ic 7 5 = nI (w * h)) (c7 : Ic 7 7 = nI (w - 1)) (c8 : Ic 7 8 = nI (h - 1)) (c6 : bm (Ic 7 6) (w * h) (inB E w wt)) (m41 : Im 0 41 = nI (w * h)) (m39 : Im 0 39 = nI w) (m40 : Im 0 40 = nI h) : rOk (rdD w h Ic) ∧ cR (rdD w h Ic) Ic ∧ mR (rdD w h Ic) Im := by
  have d00 : rdD w h Ic 0 0 = w * h := rfl
  have d01 : rdD w h Ic 0 1 = w := rfl
  have d02 : rdD w h Ic 0 2 = h := rfl
  have d1 : ∀ u, rdD w h Ic 1 u = (Ic 8 u).toNatClampNeg := fun _ => rfl
  have d2 : ∀ u, rdD w h Ic 2 u = (Ic 9 u).toNatClampNeg := fun _ => rfl
  have d3 : ∀ u, rdD w h Ic 3 u = (Ic 10 u).toNatClampNeg := fun _ => rfl
  have d4 : ∀ u, rdD w h Ic 4 u = (Ic 11 u).toNatClampNeg := fun _ => rfl
  have d5 : ∀ u, rdD w h Ic 5 u = (Ic 12 u).toNatClampNeg := fun _ => rfl
  have h1 : ∀ u, u < w * h → ∃ c, rdD w h Ic 1 u = c ∧ c ≤ 8 ∧ Ic 8 u = nI c ∧ Im 25 u = nI c ∧ (0 < c ↔ inB E w wt u = true) ∧ ∀ k, k < c → agQ (w * h) (8 * u + k) Ic Im := fun u hu => by
    obtain ⟨c, a1, ⟨a2, a3, a4⟩, a5⟩ := hA u hu
    exact ⟨c, by rw [d1, a1, nI_clamp (by omega)], a3, a1, a2, a5, a4⟩
  have hag : ∀ slot, agQ (w * h) slot Ic Im → (rdD w h Ic 2 slot < 8 ∧ rdD w h Ic 3 slot ≤ 1920 ∧ rdD w h Ic 4 slot ≤ 4 ∧ (∀ u, u < w * h → rdD w h Ic 5 (10 * slot + u) ≤ 4) ∧ rdD w h Ic 4 slot + sumU (w * h) (fun u => rdD w h Ic 5 (10 * slot + u)) = 4) ∧ (Ic 9 slot = nI (rdD w h Ic 2 slot) ∧ Ic 10 slot = nI (rdD w h Ic 3 slot) ∧ Ic 11 slot = nI (rdD w h Ic 4 slot) ∧ ∀ u, u < w * h → Ic 12 (10 * slot + u) = nI (rdD w h Ic 5 (10 * slot + u))) ∧ (Im 26 slot = nI (rdD w h Ic 2 slot) ∧ Im 27 slot = nI (rdD w h Ic 3 slot) ∧ Im 28 slot = nI (rdD w h Ic 4 slot) ∧ ∀ u, u < w * h → Im 29 (10 * slot + u) = nI (rdD w h Ic 5 (10 * slot + u))) := fun slot H => by
    obtain ⟨pk, pd, en, f, ⟨⟨s1, s1'⟩, ⟨s2, s2'⟩, ⟨s3, s3'⟩, s4⟩, b1, b2, b3⟩ := H
    have hf : ∀ u, u < w * h → f u ≤ 4 := fun u hu => by have := sumU_ge (f := f) hu; omega
    have e2 : rdD w h Ic 2 slot = pk := by rw [d2, s1, nI_clamp (by omega)]
    have e3 : rdD w h Ic 3 slot = pd := by rw [d3, s2, nI_clamp (by omega)]
    have e4 : rdD w h Ic 4 slot = en := by rw [d4, s3, nI_clamp (by omega)]
    have e5 : ∀ u, u < w * h → rdD w h Ic 5 (10 * slot + u) = f u := fun u hu => by rw [d5, (s4 u hu).1, nI_clamp (by have := hf u hu; omega)]
    refine ⟨⟨by omega, by omega, by omega, fun u hu => by rw [e5 u hu]; exact hf u hu, ?_⟩, ⟨by rw [e2]; exact s1, by rw [e3]; exact s2, by rw [e4]; exact s3, fun u hu => by rw [e5 u hu]; exact (s4 u hu).1⟩, ⟨by rw [e2]; exact s1', by rw [e3]; exact s2', by rw [e4]; exact s3', fun u hu => by rw [e5 u hu]; exact (s4 u hu).2⟩⟩
    rw [e4, sumU_congr e5]
    exact b3
  have hNp : 1 ≤ w * h := Nat.mul_pos hw hh
  refine ⟨⟨hNp, hN, rfl, fun s hs => ?_, fun s hs c hc => ?_⟩, ⟨c5, c7, c8, bm_congr c6 (fun u hu => ?_), fun s hs => ?_, fun s hs c hc => ?_⟩, ⟨m41, m39, m40, fun s hs => ?_, fun s hs c hc => ?_⟩⟩
  · obtain ⟨c, a1, a2, _⟩ := h1 s hs
    omega
  · obtain ⟨c', a1, a2, a3, a4, a5, a6⟩ := h1 s hs
    exact (hag _ (a6 c (by omega))).1
  · obtain ⟨c', a1, a2, a3, a4, a5, a6⟩ := h1 u hu
    rw [a1]
    cases hv : inB E w wt u
    · rw [hv] at a5
      have : ¬ 0 < c' := fun q => absurd (a5.mp q) (by decide)
      simp [this]
    · rw [hv] at a5
      simp [a5.mpr rfl]
  · obtain ⟨c', a1, a2, a3, _⟩ := h1 s hs
    rw [a1]; exact a3
  · obtain ⟨c', a1, a2, a3, a4, a5, a6⟩ := h1 s hs
    exact (hag _ (a6 c (by omega))).2.1
  · obtain ⟨c', a1, a2, a3, a4, _⟩ := h1 s hs
    rw [a1]; exact a4
  · obtain ⟨c', a1, a2, a3, a4, a5, a6⟩ := h1 s hs
    exact (hag _ (a6 c (by omega))).2.2
end Sa
