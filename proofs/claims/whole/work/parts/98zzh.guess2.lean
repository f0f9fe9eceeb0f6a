/-! guess: both sides alike. -/
theorem gk_L {J : Nat} (hJ : J ≤ 8) : ∀ (r x fuel : Nat) (I : hI), x + r = J → r < fuel → I 0 47 = nI J → ∃ I' : hI, mM_guess_L42 fuel (nI x) I = some (nI J, I') ∧ (∀ y, x ≤ y → y < J → I' 20 y = nI 500 + I 16 y ∧ I' 21 y = nI 500 + I 17 y ∧ I' 22 y = nI 500 + I 18 y ∧ I' 23 y = I 19 y) ∧ ∀ c i, (c < 20 ∨ 23 < c ∨ i < x ∨ J ≤ i) → I' c i = I c i := by
  intro r
  induction r with
  | zero =>
    intro x fuel I hx hf h
    obtain ⟨fuel, rfl⟩ : ∃ m, fuel = m + 1 := ⟨fuel - 1, by omega⟩
    refine ⟨I, ?_, fun y q1 q2 => by omega, fun _ _ _ => rfl⟩
    show mM_guess_B42 (mM_guess_L42 fuel) _ _ = _
    unfold mM_guess_B42
    rw [h, if_pos ((nI_leI (by omega) (by omega)).mpr (by omega))]
  | succ r ih =>
    intro x fuel I hx hf h
    obtain ⟨fuel, rfl⟩ : ∃ m, fuel = m + 1 := ⟨fuel - 1, by omega⟩
    obtain ⟨K, hK⟩ : ∃ K, K = h_u (h_u (h_u (h_u I 20 x (nI 500 + I 16 x)) 21 x (nI 500 + I 17 x)) 22 x (nI 500 + I 18 x)) 23 x (I 19 x) := ⟨_, rfl⟩
    have fK : ∀ c i, (c < 20 ∨ 23 < c ∨ i ≠ x) → K c i = I c i := fun c i w => by rw [hK, hu_fr (by omega), hu_fr (by omega), hu_fr (by omega), hu_fr (by omega)]
    obtain ⟨I', a1, a2, a3⟩ := ih (x + 1) fuel K (by omega) (by omega) (by rw [fK 0 47 (by omega)]; exact h)
    refine ⟨I', ?_, fun y q1 q2 => ?_, fun c i w => by rw [a3 c i (by omega), fK c i (by omega)]⟩
    · rw [← a1]
      show mM_guess_B42 (mM_guess_L42 fuel) _ _ = _
      unfold mM_guess_B42
      rw [h, if_neg (fun w => by have := (nI_leI (by omega) (by omega)).mp w; omega), hg_in _ (by omega) (by omega), hg_in _ (by omega) (by omega), hl_eq, hg_in _ (by omega) (by omega), hg_in _ (by omega) (by omega), hl_eq, hg_in _ (by omega) (by omega), hg_in _ (by omega) (by omega), hl_eq, hg_in _ (by omega) (by omega), hg_in _ (by omega) (by omega), hl_eq, nI_clamp (by omega), hu_fr (show (17 : Nat) ≠ 20 ∨ x ≠ x by omega), hu_fr (show (18 : Nat) ≠ 21 ∨ x ≠ x by omega), hu_fr (show (18 : Nat) ≠ 20 ∨ x ≠ x by omega), hu_fr (show (19 : Nat) ≠ 22 ∨ x ≠ x by omega), hu_fr (show (19 : Nat) ≠ 21 ∨ x ≠ x by omega), hu_fr (show (19 : Nat) ≠ 20 ∨ x ≠ x by omega), li_500, ← hK, li_1, nI_add]
    · by_cases e : y = x
      · subst e
        rw [a3 20 y (by omega), a3 21 y (by omega), a3 22 y (by omega), a3 23 y (by omega), hK]
        refine ⟨?_, ?_, ?_, ?_⟩
        · rw [hu_fr (by omega), hu_fr (by omega), hu_fr (by omega), h_u_at]
        · rw [hu_fr (by omega), hu_fr (by omega), h_u_at]
        · rw [hu_fr (by omega), h_u_at]
        · rw [h_u_at]
      · obtain ⟨b1, b2, b3, b4⟩ := a2 y (by omega) q2
        exact ⟨by rw [b1, fK 16 y (by omega)], by rw [b2, fK 17 y (by omega)], by rw [b3, fK 18 y (by omega)], by rw [b4, fK 19 y (by omega)]⟩
theorem rw_guess : stp_guess RelW := by
  rintro Ic Jc B Im Jm ⟨hl, hg, D, h, hr, hca⟩
  have hpr := pr_ge B
  have htd := td_ge B
  obtain ⟨sw1, sw2⟩ := sw_td B
  have h0 := h
  obtain ⟨⟨T, N, a1, a2⟩, _⟩ := h0
  obtain ⟨v, Ic1, Im1, x1, x2, x3, x4, x5⟩ := guess_both (t := h_st B) (by omega) a1 (tpM_0 a2)
  by_cases hv : v = (-1 : Int32)
  · subst hv
    obtain ⟨J, k, q, hJ, ⟨⟨g7, g36⟩, ⟨g15, g16, g11⟩, gk, gq⟩, gp, gc, gl⟩ := x5 rfl
    obtain ⟨M, hM⟩ : ∃ K, K = h_u (h_u (h_u Im1 0 2 (nI 0)) 0 38 (nI 1)) 0 47 (nI J) := ⟨_, rfl⟩
    have fM : ∀ c i, (c ≠ 0 ∨ (i ≠ 2 ∧ i ≠ 38 ∧ i ≠ 47)) → M c i = Im1 c i := fun c i w => by rw [hM, hu_fr (by omega), hu_fr (by omega), hu_fr (by omega)]
    have topM : mM_guess Im = ((mM_keepsSums (nI 250) M).bind fun q6 => mM_guess_L42 hF (nI 0) q6) := by
      unfold mM_guess
      rw [hl_eq, li_0, x2, Option.bind_some, if_pos (show (((-1 : Int32), Im1) : Int32 × hI).1 = (-1 : Int32) from rfl), hl_eq, hl_eq, hl_eq]
      show ((mM_keepsSums (nI 250) (h_u (h_u (h_u Im1 0 2 (nI 0)) 0 38 (nI 1)) 0 47 (h_u (h_u Im1 0 2 (nI 0)) 0 38 (nI 1) 0 36))).bind fun q6 => mM_guess_L42 hF (nI 0) q6) = _
      rw [hu_fr (show (0 : Nat) ≠ 0 ∨ 36 ≠ 38 by omega), hu_fr (show (0 : Nat) ≠ 0 ∨ 36 ≠ 2 by omega), g36, ← hM]
    obtain ⟨M2, k1, k2, k3, k4⟩ := keeps_m (o := 250) (q := 250 + q) (k := 250 + k) (I := M) (by omega) (by omega) (by rw [fM 0 11 (by omega)]; exact g11) (by rw [fM 0 16 (by omega)]; exact g16)
    obtain ⟨M3, s1, s2, s3⟩ := gk_L hJ.2 J 0 hF M2 (by omega) (by unfold hF; omega) (by rw [k4 0 47 (by omega), hM, h_u_at])
    obtain ⟨I2, hI2⟩ : ∃ K, K = h_u (h_u Ic1 1 1 (nI 0)) 0 12 (nI 1) := ⟨_, rfl⟩
    have f2 : ∀ c i, (c ≠ 1 ∨ i ≠ 1) → (c ≠ 0 ∨ i ≠ 12) → I2 c i = Ic1 c i := fun c i w1 w2 => by rw [hI2, hu_fr (by omega), hu_fr (by omega)]
    -- everything but the GUESS stays
    have hC : ∀ c i, (c < 1 ∨ c = 2 ∨ 5 < c) → (c < h_st B ∨ h_st B + 13 ≤ c) → (c ≠ 0 ∨ i ≠ 12) → I2 c i = Ic c i := fun c i w1 w2 w3 => by rw [f2 c i (by omega) w3, x3 c i (by omega) w2]
    have hMm : ∀ c i, (c ≠ 0 ∨ i = 1 ∨ (7 < i ∧ i ≠ 11 ∧ i ≠ 16 ∧ i ≠ 36 ∧ i ≠ 38 ∧ i ≠ 47)) → (c < 2 ∨ 8 < c ∨ (500 ≤ i ∧ i < 750)) → (c < 16 ∨ 23 < c) → M3 c i = Im c i := fun c i w1 w2 w3 => by
      rw [s3 c i (by omega), k4 c i (by omega), fM c i (by omega), x4 c i (by omega) (by omega) (by omega), hu_fr (by omega)]
    have g47 : M3 0 47 = nI J := by rw [s3 0 47 (by omega), k4 0 47 (by omega), hM, h_u_at]
    have cn : ∀ a b, b ≤ k → cnR 250 (h_st B + 1) (250 + q) a b Ic1 Im1 → cnR 750 (h_st B + 1) 1000 a b I2 M3 := fun a b hb H => by
      have e : cnR 750 (h_st B + 1) 1000 a b Ic1 M2 := cnR_keep (o := 250) (k := 250 + k) (by omega) (by omega) (by omega) H (fun c i w1 w2 w3 w4 => by rw [k2 c i w1 w2 w3 w4, fM c i (by omega)]) (fun i w1 w2 => by
        obtain ⟨e1, e2, e3, e4⟩ := k3 i w1 w2
        exact ⟨by rw [e1, fM 5 i (by omega)], by rw [e2, fM 6 i (by omega)], by rw [e3, fM 7 i (by omega)], by rw [e4, fM 8 i (by omega)]⟩)
      exact cnR_of e (Nat.le_refl _) (fun c i w1 w2 w3 w4 => f2 c i (by omega) (by omega)) (fun c i w1 w2 w3 w4 => s3 c i (by omega)) (fun c i w1 w2 w3 w4 => s3 c i (by omega))
    have hgk : gkP (h_st B) J I2 M3 := by
      refine ⟨hJ, ⟨by rw [f2 _ 7 (by omega) (by omega)]; exact g7, g47⟩, fun x hx => ?_, fun x hx => ?_, ?_⟩
      · obtain ⟨l, by1, u, b1, b2, ⟨t1, t2, t3, t4⟩, b4, b5, b6, b7, b8, b9⟩ := gp x hx
        obtain ⟨e1, e2, e3, e4⟩ := s2 x (by omega) hx
        have gg : ∀ c, 16 ≤ c → c ≤ 19 → M2 c x = Im1 c x := fun c w1 w2 => by rw [k4 c x (by omega), fM c x (by omega)]
        have sm : ∀ c, 2 ≤ c → c ≤ 4 → M3 c (500 + l) = Im1 c l := fun c w1 w2 => by rw [s3 c _ (by omega), k2 c l w1 w2 (by omega) (by omega), fM c l (by omega)]
        exact ⟨500 + l, by1, u, by omega, by rw [e3, gg 18 (by omega) (by omega), b2, nI_add], ⟨by rw [sm 2 (by omega) (by omega)]; exact t1, by rw [sm 3 (by omega) (by omega)]; exact t2, by rw [sm 4 (by omega) (by omega)]; exact t3, t4⟩, by rw [f2 _ x (by omega) (by omega)]; exact b4, by rw [f2 _ x (by omega) (by omega)]; exact b5, by rw [f2 _ x (by omega) (by omega)]; exact b6, b7, by rw [f2 _ x (by omega) (by omega)]; exact b8, by rw [e4, gg 19 (by omega) (by omega)]; exact b9⟩
      · obtain ⟨c2, c3, b1, b2, b3, b4, b5, b6, b7, b8⟩ := gc x hx
        obtain ⟨e1, e2, e3, e4⟩ := s2 x (by omega) (by omega)
        have gg : ∀ c, 16 ≤ c → c ≤ 19 → M2 c x = Im1 c x := fun c w1 w2 => by rw [k4 c x (by omega), fM c x (by omega)]
        have q2 : 500 + (250 + c2) = 750 + c2 := by omega
        have q3 : 500 + (250 + c3) = 750 + c3 := by omega
        exact ⟨c2, c3, b1, by omega, by rw [f2 _ x (by omega) (by omega)]; exact b3, by rw [f2 _ x (by omega) (by omega)]; exact b4, by rw [e1, gg 16 (by omega) (by omega), b5, nI_add, q2], by rw [e2, gg 17 (by omega) (by omega), b6, nI_add, q3], cn c2 c3 b2 b7, by rw [f2 _ _ (by omega) (by omega)]; exact b8⟩
      · obtain ⟨e1, e2, e3, e4⟩ := s2 (J - 1) (by omega) (by omega)
        rw [e1, e2, k4 16 _ (by omega), fM 16 _ (by omega), k4 17 _ (by omega), fM 17 _ (by omega), gl]
    obtain ⟨_, ⟨⟨_, _⟩, _, _⟩, ⟨b7, b8, b9⟩, b10, b11⟩ := h
    refine ⟨nI J, I2, (B.1, !B.2), M3, ?_, ?_, ⟨hl, true, D, ⟨⟨T, 0, ⟨by omega, ?_, fun i hi => by omega, fun i hi => by omega⟩, ⟨by omega, ?_, fun i hi => by omega, fun i hi => by omega⟩⟩, ⟨⟨?_, ?_⟩, fun w => (by cases w), fun _ => ⟨J, by rw [sw2]; exact hgk⟩⟩, ⟨by rw [hC 0 11 (by omega) (by omega) (by omega)]; exact b7, by rw [hMm 0 37 (by omega) (by omega) (by omega)]; exact b8, fun w => ?_⟩, fun w => by rw [hMm 0 41 (by omega) (by omega) (by omega)]; exact b10 w, fun w => ?_⟩, fun i hi => by rw [hC 60 i (by omega) (by omega) (by omega), hMm 42 i (by omega) (by omega) (by omega)]; exact hr i hi, fun w => ?_⟩⟩
    · unfold mC_guess
      rw [x1, Option.bind_some, if_pos (show (((-1 : Int32), Ic1) : Int32 × hI).1 = (-1 : Int32) from rfl), hl_eq, hl_eq, sw2]
      show some ((h_u (h_u Ic1 1 1 (nI 0)) 0 12 (nI 1) (h_st B) 7), h_u (h_u Ic1 1 1 (nI 0)) 0 12 (nI 1), (B.1, !B.2)) = _
      rw [← hI2, f2 (h_st B) 7 (by omega) (by omega), g7]
    · rw [topM, k1, Option.bind_some]
      exact s1
    · rw [hI2, hu_fr (by omega), h_u_at]
    · rw [s3 0 2 (by omega), k4 0 2 (by omega), hM, hu_fr (by omega), hu_fr (by omega), h_u_at]
    · rw [hI2, h_u_at]
      rfl
    · rw [s3 0 38 (by omega), k4 0 38 (by omega), hM, hu_fr (by omega), h_u_at]
      rfl
    · obtain ⟨c1, c2, c3⟩ := b9 w
      exact ⟨c1, cR_of c2 (fun c i w1 w2 => hC c i (by omega) (by omega) (by omega)), mR_of c3 (fun c i w1 w2 => hMm c i (by omega) (by omega) (by omega)) (fun i w1 w2 => hMm 0 i (by omega) (by omega) (by omega))⟩
    · obtain ⟨w', hh, sz, n, np, wt, Q, bn, c1, c2, c3⟩ := b11 w
      refine ⟨w', hh, sz, n, np, wt, Q, bn, ?_, bdQ_of c2 ⟨hC 0 13 (by omega) (by omega) (by omega), hC 0 14 (by omega) (by omega) (by omega)⟩ (fun k => hMm 24 k (by omega) (by omega) (by omega)), c3⟩
      rw [sw1]
      exact ksP_of c1 (fun c i w1 w2 => hC c i (by omega) (by omega) (by omega)) (fun c i w1 w2 w3 w4 => hMm c i (by omega) (by omega) (by omega)) (fun c i w1 w2 w3 => hMm c i (by omega) (by omega) (by omega)) (fun i w1 w2 => hMm 0 i (by omega) (by omega) (by omega))
    · exact caQ_of (b9 w).1 (hca w) (hC 7 9 (by omega) (by omega) (by omega)) (hC 13 1 (by omega) (by omega) (by omega)) (fun i => hC 16 i (by omega) (by omega) (by omega)) (fun i => hC 37 i (by omega) (by omega) (by omega)) ⟨hC 38 1 (by omega) (by omega) (by omega), hC 38 2 (by omega) (by omega) (by omega)⟩ (fun _ _ _ => rfl) (hMm 0 67 (by omega) (by omega) (by omega)) (fun i => hMm 35 i (by omega) (by omega) (by omega)) (fun _ _ _ _ => rfl)
  · refine ⟨(-1 : Int32), Ic1, B, Im1, ?_, ?_, rel_readG h hr hca x3 x4⟩
    · unfold mC_guess
      rw [x1, Option.bind_some, if_neg (show ¬ ((v, Ic1) : Int32 × hI).1 = (-1 : Int32) from hv)]
    · unfold mM_guess
      rw [hl_eq, li_0, x2, Option.bind_some, if_neg (show ¬ ((v, Im1) : Int32 × hI).1 = (-1 : Int32) from hv)]
