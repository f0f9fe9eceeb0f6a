/-! loop, guess: both sides alike. -/
theorem sw_pr (B : Bool × Bool) : h_pr (!B.1, B.2) = h_sp B ∧ h_td (!B.1, B.2) = h_td B := by
  obtain ⟨b1, b2⟩ := B
  cases b1 <;> exact ⟨rfl, rfl⟩
theorem sw_td (B : Bool × Bool) : h_pr (B.1, !B.2) = h_pr B ∧ h_td (B.1, !B.2) = h_st B := by
  obtain ⟨b1, b2⟩ := B
  cases b2 <;> exact ⟨rfl, rfl⟩
theorem lm_L123 (I : hI) : ∃ I' : hI, mM_loop_L123 hF (nI 0) I = ((mM_laysRounds I').bind fun q1 => some ((q1 0 41), q1)) ∧ (∀ k, k < 3 → I' 24 k = (-1 : Int32)) ∧ ∀ c i, (c ≠ 24 ∨ 3 ≤ i) → I' c i = I c i := by
  refine ⟨h_u (h_u (h_u I 24 0 (-1 : Int32)) 24 1 (-1 : Int32)) 24 2 (-1 : Int32), ?_, fun k hk => ?_, fun c i w => by rw [hu_fr (by omega), hu_fr (by omega), hu_fr (by omega)]⟩
  · show mM_loop_B123 (mM_loop_L123 999) (nI 0) I = _
    unfold mM_loop_B123
    rw [if_neg (by decide), hg_in _ (by omega) (by omega), hl_eq, nI_clamp (by omega), show nI 0 + (1 : Int32) = nI 1 from rfl]
    show mM_loop_B123 (mM_loop_L123 998) (nI 1) _ = _
    unfold mM_loop_B123
    rw [if_neg (by decide), hg_in _ (by omega) (by omega), hl_eq, nI_clamp (by omega), show nI 1 + (1 : Int32) = nI 2 from rfl]
    show mM_loop_B123 (mM_loop_L123 997) (nI 2) _ = _
    unfold mM_loop_B123
    rw [if_neg (by decide), hg_in _ (by omega) (by omega), hl_eq, nI_clamp (by omega), show nI 2 + (1 : Int32) = nI 3 from rfl]
    show mM_loop_B123 (mM_loop_L123 996) (nI 3) _ = _
    unfold mM_loop_B123
    rw [if_pos (by decide)]
  · have hc : k = 0 ∨ k = 1 ∨ k = 2 := by omega
    rcases hc with rfl | rfl | rfl
    · rw [hu_fr (by omega), hu_fr (by omega), h_u_at]
    · rw [hu_fr (by omega), h_u_at]
    · rw [h_u_at]
theorem bd_none {np : Nat} {Ic Im : hI} (h1 : Ic 0 13 = nI 0) (h2 : Ic 0 14 = nI 0) (h3 : ∀ k, k < 3 → Im 24 k = (-1 : Int32)) : bdQ np (fun _ => 0) Ic Im := ⟨fun _ => (show (0 : Nat) < 3 by omega), fun _ _ => rfl, h1, h2, h3⟩
theorem rw_loop : stp_loop RelW := by
  rintro Ic Jc B Im Jm ⟨hl, hg, D0, h, hr, hca⟩
  have hpr := pr_ge B
  have htd := td_ge B
  obtain ⟨sw1, sw2⟩ := sw_pr B
  have h0 := h
  obtain ⟨⟨T, N, a1, a2⟩, _⟩ := h0
  obtain ⟨v, Ic1, Im1, x1, x2, x3, x4, x5⟩ := loop_both (t := h_sp B) (by omega) a1 (tpM_0 a2)
  by_cases hv : v = (-1 : Int32)
  · subst hv
    obtain ⟨w, hh, sz, n, np, wt, k, q, H⟩ := x5 rfl
    have H0 := H
    obtain ⟨⟨d1, d2, d3⟩, ⟨_, _, m26, m27⟩, _, ⟨_, m28, _, wtk⟩, ⟨_, m24, cn⟩, ⟨_, m25, cnp⟩, _, ⟨m11, m16, cq, ck⟩, m29, _⟩ := H
    have ptn : ptN 0 n ≤ n := ptN_le (by omega)
    have on1 : mM_on (ptI 0 (ptN 0 n)) (nI 24) = ptI 24 (ptN 0 n) := on_pt (by omega)
    -- the reference's fields
    obtain ⟨M, hM⟩ : ∃ J, J = h_u (h_u (h_u (h_u (h_u (h_u (h_u (h_u (h_u (h_u (h_u (h_u Im1 0 2 (nI 0)) 0 37 (nI 1)) 0 38 (nI 0)) 0 47 (nI 0)) 0 39 (nI w)) 0 40 (nI hh)) 0 41 (nI (w * hh))) 0 42 (nI n)) 0 43 (nI np)) 0 44 (nI 500)) 0 45 (nI (500 + wt))) 0 46 (ptI 24 (ptN 0 n)) := ⟨_, rfl⟩
    have fM : ∀ c i, (c ≠ 0 ∨ (i ≠ 2 ∧ (i < 37 ∨ 47 < i))) → M c i = Im1 c i := fun c i w => by rw [hM, hu_fr (by omega), hu_fr (by omega), hu_fr (by omega), hu_fr (by omega), hu_fr (by omega), hu_fr (by omega), hu_fr (by omega), hu_fr (by omega), hu_fr (by omega), hu_fr (by omega), hu_fr (by omega), hu_fr (by omega)]
    have topM : mM_loop Im = ((mM_keepsSums (nI 0) M).bind fun q15 => (mM_keepsStatements q15).bind fun q16 => mM_loop_L123 hF (nI 0) q16) := by
      unfold mM_loop
      rw [hl_eq, li_0, x2, Option.bind_some, if_pos (show (((-1 : Int32), Im1) : Int32 × hI).1 = (-1 : Int32) from rfl), hM]
      simp (disch := omega) only [hl_eq, h_u_at, h_u_pl, m26, m27, m24, m25, m28, m29, li_1, li_24, li_500, nI_mul, nI_add, on1]
    obtain ⟨M2, k1, k2, k3, k4⟩ := keeps_m (o := 0) (q := q) (k := k) (I := M) (by omega) (by omega) (by rw [fM 0 11 (by omega)]; exact m11) (by rw [fM 0 16 (by omega)]; exact m16)
    obtain ⟨M3, s1, s2, s3⟩ := kt_L cn n 0 hF M2 (by omega) (by unfold hF; omega) (by rw [k4 0 24 (by omega), fM 0 24 (by omega)]; exact m24)
    obtain ⟨M4, l1, l2, l3⟩ := lm_L123 M3
    have gM : ∀ c i, (c ≠ 24 ∨ 3 ≤ i) → (c < 9 ∨ 15 < c ∨ i < 24 ∨ 24 + n ≤ i) → M4 c i = M2 c i := fun c i w1 w2 => by rw [l3 c i w1, s3 c i (by omega)]
    have gF : ∀ i, M4 0 i = M 0 i := fun i => by rw [gM 0 i (by omega) (by omega), k4 0 i (by omega)]
    -- the class's fields
    obtain ⟨I6, hI6⟩ : ∃ J, J = h_u (h_u (h_u (h_u (h_u Ic1 1 1 (nI 0)) 0 11 (nI 1)) 0 12 (nI 0)) 0 13 (nI 0)) 0 14 (nI 0) := ⟨_, rfl⟩
    have f6 : ∀ c i, 2 ≤ c → I6 c i = Ic1 c i := fun c i w => by rw [hI6, hu_fr (by omega), hu_fr (by omega), hu_fr (by omega), hu_fr (by omega), hu_fr (by omega)]
    obtain ⟨Q, hK⟩ := ks_of_lp (t := h_sp B) (Ic' := I6) (M := M4) (by omega) H0 (fun c i w => f6 c i (by omega)) (fun c i w1 w2 w3 w4 => by rw [gM c _ (by omega) (by omega), k2 c i w1 w2 w3 w4, fM c i (by omega)]) (fun i w1 w2 => by
      obtain ⟨e1, e2, e3, e4⟩ := k3 i w1 w2
      exact ⟨by rw [gM 5 _ (by omega) (by omega), e1, fM 5 i (by omega)], by rw [gM 6 _ (by omega) (by omega), e2, fM 6 i (by omega)], by rw [gM 7 _ (by omega) (by omega), e3, fM 7 i (by omega)], by rw [gM 8 _ (by omega) (by omega), e4, fM 8 i (by omega)]⟩) (fun x hx => by
      obtain ⟨e1, e2, e3, e4, e5, e6, e7⟩ := s2 x (by omega) hx
      have g : ∀ c, 9 ≤ c → c ≤ 15 → M2 c x = Im1 c x := fun c w1 w2 => by rw [k4 c x (by omega), fM c x (by omega)]
      rw [g 9 (by omega) (by omega), g 10 (by omega) (by omega)] at e2
      exact ⟨by rw [l3 9 _ (by omega), e1, g 9 (by omega) (by omega)], by rw [l3 10 _ (by omega), e2], by rw [l3 11 _ (by omega), e3, g 11 (by omega) (by omega)], by rw [l3 12 _ (by omega), e4, g 12 (by omega) (by omega)], by rw [l3 13 _ (by omega), e5, g 13 (by omega) (by omega)], by rw [l3 14 _ (by omega), e6, g 14 (by omega) (by omega)], by rw [l3 15 _ (by omega), e7, g 15 (by omega) (by omega)]⟩) (by
      rw [gF, gF, gF, gF, gF, gF, gF, gF, hM]
      refine ⟨?_, ?_, ?_, ?_, ?_, ?_, ?_, ?_⟩ <;> simp (disch := omega) only [h_u_at, h_u_pl])
    have i13 : I6 0 13 = nI 0 := by rw [hI6, hu_fr (by omega), h_u_at]
    have i14 : I6 0 14 = nI 0 := by rw [hI6, h_u_at]
    have hbd : bdQ np (fun _ => 0) I6 M4 := bd_none i13 i14 l2
    obtain ⟨Ic', Im', D, r1, r2, r3, r4, r5, r6, r7, r8, r9, r10, r11⟩ := renew_both (B := (!B.1, B.2)) (Jc := Jc) (Jm := Jm) sw1 (show 61 ≤ h_sp B by omega) (pg_of (by omega) hK hbd)
    refine ⟨nI (D 0 0), Ic', (!B.1, B.2), Im', ?_, ?_, ⟨true, false, D, ⟨⟨T, 0, ⟨by omega, ?_, fun i hi => by omega, fun i hi => by omega⟩, ⟨by omega, ?_, fun i hi => by omega, fun i hi => by omega⟩⟩, ⟨⟨?_, ?_⟩, fun _ => ?_, fun w => (by cases w)⟩, ⟨?_, ?_, fun _ => ⟨r3, r4, r5⟩⟩, fun w => (by cases w), fun _ => ⟨w, hh, sz, n, np, wt, Q, fun _ => 0, ?_, ?_, r6⟩⟩, fun i hi => ?_, fun _ => ⟨r7, r8, r9⟩⟩⟩
    · have e6 : h_u (h_u (h_u (h_u (h_u Ic1 1 1 (0 : Int32)) 0 11 (1 : Int32)) 0 12 (0 : Int32)) 0 13 (0 : Int32)) 0 14 (0 : Int32) = I6 := hI6.symm
      unfold mC_loop
      rw [x1, Option.bind_some, if_pos (show (((-1 : Int32), Ic1) : Int32 × hI).1 = (-1 : Int32) from rfl), hl_eq, hl_eq, hl_eq, hl_eq, hl_eq]
      show ((mC_renew (h_u (h_u (h_u (h_u (h_u Ic1 1 1 (0 : Int32)) 0 11 (1 : Int32)) 0 12 (0 : Int32)) 0 13 (0 : Int32)) 0 14 (0 : Int32)) (!B.1, B.2)).bind fun q7 => some ((q7 7 5), q7, (!B.1, B.2))) = _
      rw [e6, r1, Option.bind_some, r4.1]
    · rw [topM, k1, Option.bind_some]
      unfold mM_keepsStatements
      rw [li_0, s1, Option.bind_some, l1, r2, Option.bind_some, r5.1]
    · rw [r10 1 1 (by omega), hI6, hu_fr (by omega), hu_fr (by omega), hu_fr (by omega), hu_fr (by omega), h_u_at]
    · rw [r11 0 2 (by omega) (by omega), gF, hM]
      simp (disch := omega) only [h_u_at, h_u_pl]
    · rw [r10 0 12 (by omega), hI6, hu_fr (by omega), hu_fr (by omega), h_u_at]
      rfl
    · rw [r11 0 38 (by omega) (by omega), gF, hM]
      simp (disch := omega) only [h_u_at, h_u_pl]
      rfl
    · rw [r11 0 47 (by omega) (by omega), gF, hM]
      simp (disch := omega) only [h_u_at, h_u_pl]
    · rw [r10 0 11 (by omega), hI6, hu_fr (by omega), hu_fr (by omega), hu_fr (by omega), h_u_at]
      rfl
    · rw [r11 0 37 (by omega) (by omega), gF, hM]
      simp (disch := omega) only [h_u_at, h_u_pl]
      rfl
    · rw [sw1]
      exact ksP_of hK (fun c i w1 w2 => r10 c i (by omega)) (fun c i w1 w2 w3 w4 => r11 c i (by omega) (by omega)) (fun c i w1 w2 w3 => r11 c i (by omega) (by omega)) (fun i w1 w2 => r11 0 i (by omega) (by omega))
    · exact bdQ_of hbd ⟨r10 0 13 (by omega), r10 0 14 (by omega)⟩ (fun k => r11 24 k (by omega) (by omega))
    · rw [r10 60 i (by omega), f6 60 i (by omega), x3 60 i (by omega) (by omega), r11 42 i (by omega) (by omega), gM 42 i (by omega) (by omega), k4 42 i (by omega), fM 42 i (by omega), x4 42 i (by omega) (by omega) (by omega), hu_fr (by omega)]
      exact hr i hi
  · refine ⟨(-1 : Int32), Ic1, B, Im1, ?_, ?_, rel_readL h hr hca x3 x4⟩
    · unfold mC_loop
      rw [x1, Option.bind_some, if_neg (show ¬ ((v, Ic1) : Int32 × hI).1 = (-1 : Int32) from hv)]
    · unfold mM_loop
      rw [hl_eq, li_0, x2, Option.bind_some, if_neg (show ¬ ((v, Im1) : Int32 × hI).1 = (-1 : Int32) from hv)]
