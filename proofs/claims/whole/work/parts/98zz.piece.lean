/-! A GUESS's text: pieces. -/
section Gp
variable {T : Nat → Nat} {N n p e t : Nat} {Ic Im : hI}
/-- a piece behind its sum -/
theorem pt_both (ht : 61 ≤ t) (h : tkP T N n p e Ic Im) {j k : Nat} (hj : j < 8) (hk : k ≤ 200) (h7 : Ic t 7 = nI j) (h15 : Ic (t + 1) 5 = nI k) (m16 : Im 0 16 = nI (250 + k)) (has : Bool) (vs : Int32) : ∃ (b : Bool) (Ic' Im' : hI) (p' e' by1 : Nat), mGt_readPiece_62 t (bI has) Ic = some (bI b, Ic') ∧ mM_readPiece_67 (nI j) vs (bI has) Im = some (bI has, Im') ∧ tkP T N n p' e' Ic' Im' ∧ p ≤ p' ∧ b = (has && decide (e' = 0)) ∧ Ic' t 7 = nI (j + 1) ∧ (Ic' (t + 12) j = nI k ∧ Ic' (t + 7) j = Ic 1 9 ∧ Ic' (t + 8) j = Ic 1 10 ∧ Ic' (t + 9) j = Ic 1 11 ∧ Im' 17 j = nI (250 + k) ∧ Im' 18 j = vs) ∧ (1 ≤ by1 ∧ by1 ≤ 12 ∧ Ic' (t + 10) j = nI by1 ∧ Im' 19 j = nI by1) ∧ (e' = 0 → e = 0 ∧ (has = true → p < p')) ∧ (∀ c i, (c ≠ 1 ∨ i < 6 ∨ 8 < i) → (c ≠ t ∨ i ≠ 7) → (c < t + 7 ∨ t + 12 < c ∨ c = t + 11 ∨ i ≠ j) → Ic' c i = Ic c i) ∧ ∀ c i, (c ≠ 0 ∨ i < 3 ∨ 7 < i) → ((c ≠ 17 ∧ c ≠ 18 ∧ c ≠ 19) ∨ i ≠ j) → Im' c i = Im c i := by
  obtain ⟨J, hJ⟩ : ∃ J, J = h_u (h_u (h_u (h_u Ic (t + 12) j (nI k)) (t + 7) j (Ic 1 9)) (t + 8) j (Ic 1 10)) (t + 9) j (Ic 1 11) := ⟨_, rfl⟩
  have fJ : ∀ c i, (c < t + 7 ∨ (t + 9 < c ∧ c ≠ t + 12) ∨ i ≠ j) → J c i = Ic c i := fun c i w => by rw [hJ, hu_fr (by omega), hu_fr (by omega), hu_fr (by omega), hu_fr (by omega)]
  obtain ⟨M, hM⟩ : ∃ J, J = h_u (h_u Im 17 j (nI (250 + k))) 18 j vs := ⟨_, rfl⟩
  have fM : ∀ c i, ((c ≠ 17 ∧ c ≠ 18) ∨ i ≠ j) → M c i = Im c i := fun c i w => by rw [hM, hu_fr (by omega), hu_fr (by omega)]
  have kJ : tkP T N n p e J M := tkP_of h (fun i _ => fJ 1 i (by omega)) (fun c i _ _ => fJ c i (by omega)) (fun i _ _ => fM 0 i (by omega)) (fun i => fM 1 i (by omega))
  have topC : mGt_readPiece_62 t (bI has) Ic = ((mRd_skip (268 : Int32) J).bind fun q9 => if q9.1 = 0 then mGt_readPiece_146 t (bI has) (t + 10) (nI j) (1 : Int32) q9.2 else ((mRd_takeNumber (1 : Int32) (12 : Int32) q9.2).bind fun q10 => mGt_readPiece_146 t (bI has) (t + 10) (nI j) q10.1 q10.2)) := by
    have f1 : ∀ x, h_u Ic (t + 12) j x t 7 = nI j := fun x => by rw [hu_fr (by omega)]; exact h7
    have f2 : ∀ x y, h_u (h_u Ic (t + 12) j x) (t + 7) j y t 7 = nI j := fun x y => by rw [hu_fr (by omega)]; exact f1 x
    have f3 : ∀ x y z, h_u (h_u (h_u Ic (t + 12) j x) (t + 7) j y) (t + 8) j z t 7 = nI j := fun x y z => by rw [hu_fr (by omega)]; exact f2 x y
    unfold mGt_readPiece_62
    rw [h7, hg_in _ hj (by omega), hl_eq, nI_clamp (by omega), f1, hg_in _ hj (by omega), hl_eq, nI_clamp (by omega), f2, hg_in _ hj (by omega), hl_eq, nI_clamp (by omega), f3, hg_in _ hj (by omega), hl_eq, nI_clamp (by omega), h15]
    rw [hu_fr (show (1 : Nat) ≠ t + 12 ∨ 9 ≠ j by omega), hu_fr (show (1 : Nat) ≠ t + 7 ∨ 10 ≠ j by omega), hu_fr (show (1 : Nat) ≠ t + 12 ∨ 10 ≠ j by omega), hu_fr (show (1 : Nat) ≠ t + 8 ∨ 11 ≠ j by omega), hu_fr (show (1 : Nat) ≠ t + 7 ∨ 11 ≠ j by omega), hu_fr (show (1 : Nat) ≠ t + 12 ∨ 11 ≠ j by omega), ← hJ, fJ t 7 (by omega), h7]
  have topM : mM_readPiece_67 (nI j) vs (bI has) Im = ((mM_takesWord 10 M).bind fun q5 => if q5.1 = 0 then mM_readPiece_110 (bI has) (nI j) (1 : Int32) q5.2 else ((mM_takesNumber (1 : Int32) (12 : Int32) q5.2).bind fun q6 => mM_readPiece_110 (bI has) (nI j) q6.1 q6.2)) := by
    unfold mM_readPiece_67
    rw [m16, hg_in _ hj (by omega), hl_eq, hg_in _ hj (by omega), hl_eq, nI_clamp (by omega), ← hM]
  -- behind the 'by'
  have fin : ∀ (by1 p2 e2 : Nat) (Ic2 Im2 : hI), 1 ≤ by1 ∧ by1 ≤ 12 → tkP T N n p2 e2 Ic2 Im2 → p ≤ p2 → (e2 = 0 → e = 0) → (∀ c i, (c ≠ 1 ∨ i < 6 ∨ 8 < i) → Ic2 c i = J c i) → (∀ c i, (c ≠ 0 ∨ i < 3 ∨ 7 < i) → Im2 c i = M c i) → ∃ (b : Bool) (Ic' Im' : hI) (p' e' : Nat), mGt_readPiece_146 t (bI has) (t + 10) (nI j) (nI by1) Ic2 = some (bI b, Ic') ∧ mM_readPiece_110 (bI has) (nI j) (nI by1) Im2 = some (bI has, Im') ∧ tkP T N n p' e' Ic' Im' ∧ p ≤ p' ∧ b = (has && decide (e' = 0)) ∧ Ic' t 7 = nI (j + 1) ∧ (Ic' (t + 12) j = nI k ∧ Ic' (t + 7) j = Ic 1 9 ∧ Ic' (t + 8) j = Ic 1 10 ∧ Ic' (t + 9) j = Ic 1 11 ∧ Im' 17 j = nI (250 + k) ∧ Im' 18 j = vs) ∧ (1 ≤ by1 ∧ by1 ≤ 12 ∧ Ic' (t + 10) j = nI by1 ∧ Im' 19 j = nI by1) ∧ (e' = 0 → e = 0 ∧ (has = true → p < p')) ∧ (∀ c i, (c ≠ 1 ∨ i < 6 ∨ 8 < i) → (c ≠ t ∨ i ≠ 7) → (c < t + 7 ∨ t + 12 < c ∨ c = t + 11 ∨ i ≠ j) → Ic' c i = Ic c i) ∧ ∀ c i, (c ≠ 0 ∨ i < 3 ∨ 7 < i) → ((c ≠ 17 ∧ c ≠ 18 ∧ c ≠ 19) ∨ i ≠ j) → Im' c i = Im c i := by
    intro by1 p2 e2 Ic2 Im2 hb k2 hp2 he2 g1 g2
    obtain ⟨J2, hJ2⟩ : ∃ J, J = h_u (h_u Ic2 (t + 10) j (nI by1)) t 7 (nI (j + 1)) := ⟨_, rfl⟩
    have fJ2 : ∀ c i, (c ≠ t + 10 ∨ i ≠ j) → (c ≠ t ∨ i ≠ 7) → J2 c i = Ic2 c i := fun c i w1 w2 => by rw [hJ2, hu_fr w2, hu_fr w1]
    obtain ⟨M2, hM2⟩ : ∃ J, J = h_u Im2 19 j (nI by1) := ⟨_, rfl⟩
    have fM2 : ∀ c i, (c ≠ 19 ∨ i ≠ j) → M2 c i = Im2 c i := fun c i w => by rw [hM2, hu_fr w]
    have kJ2 : tkP T N n p2 e2 J2 M2 := tkP_of k2 (fun i _ => fJ2 1 i (by omega) (by omega)) (fun c i _ _ => fJ2 c i (by omega) (by omega)) (fun i _ _ => fM2 0 i (by omega)) (fun i => fM2 1 i (by omega))
    have e7 : Ic2 t 7 = nI j := by rw [g1 t 7 (by omega), fJ t 7 (by omega)]; exact h7
    have e1 : nI j + (1 : Int32) = nI (j + 1) := by rw [li_1, nI_add]
    have tC : mGt_readPiece_146 t (bI has) (t + 10) (nI j) (nI by1) Ic2 = if bI has = 0 then mGt_readPiece_167 (bI has) J2 else ((mRd_take (59 : Int32) J2).bind fun q4 => mGt_readPiece_167 (bI has) q4) := by
      unfold mGt_readPiece_146
      rw [hg_in _ hj (by omega), hl_eq, nI_clamp (by omega), hl_eq, hu_fr (show t ≠ t + 10 ∨ 7 ≠ j by omega), e7, e1, ← hJ2]
    have tM : mM_readPiece_110 (bI has) (nI j) (nI by1) Im2 = if bI has = 0 then some (bI has, M2) else ((mM_must (59 : Int32) M2).bind fun q3 => some (bI has, q3)) := by
      unfold mM_readPiece_110
      rw [hg_in _ hj (by omega), hl_eq, nI_clamp (by omega), ← hM2, hg_zb]
      simp only [hg_zb]
    rw [tC, tM]
    have facts : ∀ (Ic' Im' : hI), (∀ c i, (c ≠ 1 ∨ i < 6 ∨ 8 < i) → Ic' c i = J2 c i) → (∀ c i, (c ≠ 0 ∨ i < 3 ∨ 7 < i) → Im' c i = M2 c i) → Ic' t 7 = nI (j + 1) ∧ (Ic' (t + 12) j = nI k ∧ Ic' (t + 7) j = Ic 1 9 ∧ Ic' (t + 8) j = Ic 1 10 ∧ Ic' (t + 9) j = Ic 1 11 ∧ Im' 17 j = nI (250 + k) ∧ Im' 18 j = vs) ∧ (1 ≤ by1 ∧ by1 ≤ 12 ∧ Ic' (t + 10) j = nI by1 ∧ Im' 19 j = nI by1) ∧ (∀ c i, (c ≠ 1 ∨ i < 6 ∨ 8 < i) → (c ≠ t ∨ i ≠ 7) → (c < t + 7 ∨ t + 12 < c ∨ c = t + 11 ∨ i ≠ j) → Ic' c i = Ic c i) ∧ ∀ c i, (c ≠ 0 ∨ i < 3 ∨ 7 < i) → ((c ≠ 17 ∧ c ≠ 18 ∧ c ≠ 19) ∨ i ≠ j) → Im' c i = Im c i := by
      intro Ic' Im' q1 q2
      refine ⟨by rw [q1 t 7 (by omega), hJ2, h_u_at], ⟨?_, ?_, ?_, ?_, ?_, ?_⟩, ⟨hb.1, hb.2, ?_, ?_⟩, fun c i w1 w2 w3 => ?_, fun c i w1 w2 => ?_⟩
      · rw [q1 _ j (by omega), fJ2 _ j (by omega) (by omega), g1 _ j (by omega), hJ, hu_fr (by omega), hu_fr (by omega), hu_fr (by omega), h_u_at]
      · rw [q1 _ j (by omega), fJ2 _ j (by omega) (by omega), g1 _ j (by omega), hJ, hu_fr (by omega), hu_fr (by omega), h_u_at]
      · rw [q1 _ j (by omega), fJ2 _ j (by omega) (by omega), g1 _ j (by omega), hJ, hu_fr (by omega), h_u_at]
      · rw [q1 _ j (by omega), fJ2 _ j (by omega) (by omega), g1 _ j (by omega), hJ, h_u_at]
      · rw [q2 17 j (by omega), fM2 17 j (by omega), g2 17 j (by omega), hM, hu_fr (by omega), h_u_at]
      · rw [q2 18 j (by omega), fM2 18 j (by omega), g2 18 j (by omega), hM, h_u_at]
      · rw [q1 _ j (by omega), hJ2, hu_fr (by omega), h_u_at]
      · rw [q2 19 j (by omega), hM2, h_u_at]
      · rw [q1 c i w1, fJ2 c i (by omega) (by omega), g1 c i w1, fJ c i (by omega)]
      · rw [q2 c i w1, fM2 c i (by omega), g2 c i w1, fM c i (by omega)]
    cases has
    · obtain ⟨y1, y2, y3, y4, y5⟩ := facts J2 M2 (fun _ _ _ => rfl) (fun _ _ _ => rfl)
      refine ⟨false, J2, M2, p2, e2, ?_, ?_, kJ2, hp2, by simp, y1, y2, y3, fun z => ⟨he2 z, fun w => by cases w⟩, y4, y5⟩
      · rw [if_pos (by decide)]
        unfold mGt_readPiece_167
        rw [if_pos (by decide)]
        rfl
      · rw [if_pos (by decide)]
    · obtain ⟨Ic3, Im3, p3, e3, x1, x2, x3, x4, x5, xp, x6⟩ := take_both kJ2 (c := 59) (by omega)
      have x1' : mRd_take (59 : Int32) J2 = some Ic3 := x1
      have x2' : mM_must (59 : Int32) M2 = some Im3 := x2
      obtain ⟨y1, y2, y3, y4, y5⟩ := facts Ic3 Im3 (fun c i w => x4 c i w) (fun c i w => x5 c i w)
      refine ⟨decide (e3 = 0), Ic3, Im3, p3, e3, ?_, ?_, x3, by omega, by simp, y1, y2, y3, fun z => ⟨he2 (x6 z).1, fun _ => by have := (x6 z).2.2.2; omega⟩, y4, y5⟩
      · rw [if_neg (by decide), x1', Option.bind_some]
        unfold mGt_readPiece_167
        rw [if_neg (by decide)]
        by_cases z : e3 = 0
        · rw [if_neg (fun w => by have := (kd_m1 x3).mp w; omega), decide_eq_true z]
          rfl
        · rw [if_pos ((kd_m1 x3).mpr (by omega)), decide_eq_false z]
          rfl
      · rw [if_neg (by decide), x2', Option.bind_some]
  rw [topC, topM]
  rcases skipW_both kJ (j := 10) (by omega) with ⟨e0, c2, hp, Ic2, Im2, q1, q2, q3, q4, q5⟩ | ⟨_, q1, q2⟩
  · have q1' : mRd_skip (268 : Int32) J = some (nI 1, Ic2) := q1
    obtain ⟨v, Ic3, Im3, p3, e3, x1, x2, x3, x4, x5, x6, xp, x7⟩ := number_both q3 (lo := 1) (hi := 12) (by omega) (by omega)
    have x1' : mRd_takeNumber (1 : Int32) (12 : Int32) Ic2 = some (nI v, Ic3) := x1
    have x2' : mM_takesNumber (1 : Int32) (12 : Int32) Im2 = some (nI v, Im3) := x2
    obtain ⟨b, Ic', Im', p', e', r⟩ := fin v p3 e3 Ic3 Im3 x3 x4 (by omega) (fun _ => e0) (fun c i w => by rw [x5 c i w, q4 c i w]) (fun c i w => by rw [x6 c i w, q5 c i w])
    refine ⟨b, Ic', Im', p', e', v, ?_, ?_, r.2.2⟩
    · rw [q1', Option.bind_some, if_neg (pr1 _)]
      try dsimp only
      rw [x1', Option.bind_some]
      exact r.1
    · rw [q2, Option.bind_some, if_neg (pr1 _)]
      try dsimp only
      rw [x2', Option.bind_some]
      exact r.2.1
  · have q1' : mRd_skip (268 : Int32) J = some (nI 0, J) := q1
    obtain ⟨b, Ic', Im', p', e', r⟩ := fin 1 p e J M (by omega) kJ (Nat.le_refl _) (fun z => z) (fun _ _ _ => rfl) (fun _ _ _ => rfl)
    refine ⟨b, Ic', Im', p', e', 1, ?_, ?_, r.2.2⟩
    · rw [q1', Option.bind_some, if_pos (pr0 _)]
      exact r.1
    · rw [q2, Option.bind_some, if_pos (pr0 _)]
      exact r.2.1
end Gp
