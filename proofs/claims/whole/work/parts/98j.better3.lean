/-! best: the better corner, the reference's side. -/
section Bv
variable {D : rD}
/-- the reference holds a corner in four places of its first cell -/
def pmQ (o : Nat) (P : Nat → Int) (J : hJ) : Prop := J 0 o = lI (P 0) ∧ J 0 (o + 1) = lI (P 1) ∧ J 0 (o + 2) = lI (P 2) ∧ J 0 (o + 3) = lI (P 3)
theorem mp_isBetter (hD : rOk D) {I : hI} {J : hJ} (hm : mR D I) {s : Nat} (hs : s < D 0 0) {C K : Nat → Int} (hC : pmQ 89 C J) (hK : pmQ 93 K J) (bC : ptB C) (bK : ptB K) : ∃ b : Bool, mM_isBetter (nI s) I J = some (bI b) ∧ (b = true ↔ ltP (s % D 0 1 : Nat) (s / D 0 1 : Nat) C K) := by
  have hn := hD.2.1
  have hw := wd_pos hD
  have hx : s % D 0 1 ≤ 9 := by have : s % D 0 1 ≤ s := Nat.mod_le _ _; omega
  have hy : s / D 0 1 ≤ 9 := by have : s / D 0 1 ≤ s := Nat.div_le_self _ _; omega
  have e1 := nI_lI (n := s % D 0 1) (by omega)
  have e2 := nI_lI (n := s / D 0 1) (by omega)
  have v1 := pV_bd bC hx hy
  have v2 := pV_bd bK hx hy
  obtain ⟨c0, c1, c2, c3⟩ := hC
  obtain ⟨k0, k1, k2, k3⟩ := hK
  obtain ⟨x0, x1, x2, x3⟩ := bC
  obtain ⟨y0, y1, y2, y3⟩ := bK
  have hA : C 0 * (s % D 0 1 : Nat) + C 1 * (s / D 0 1 : Nat) + C 2 = pV (s % D 0 1 : Nat) (s / D 0 1 : Nat) C := rfl
  have hB : K 0 * (s % D 0 1 : Nat) + K 1 * (s / D 0 1 : Nat) + K 2 = pV (s % D 0 1 : Nat) (s / D 0 1 : Nat) K := rfl
  have p1 := pbd v1 y3
  have p2 := pbd v2 x3
  have g0 := cmp_sg p1.1 p1.2 p2.1 p2.2
  have q1 := pbd (show - 283668480 ≤ C 0 ∧ C 0 ≤ 283668480 by omega) y3
  have q2 := pbd (show - 283668480 ≤ K 0 ∧ K 0 ≤ 283668480 by omega) x3
  have g1 := cmp_sg q1.1 q1.2 q2.1 q2.2
  have r1 := pbd (show - 283668480 ≤ C 1 ∧ C 1 ≤ 283668480 by omega) y3
  have r2 := pbd (show - 283668480 ≤ K 1 ∧ K 1 ≤ 283668480 by omega) x3
  have g2 := cmp_sg r1.1 r1.2 r2.1 r2.2
  have f139 : mM_isBetter_139 (-1 : Int32) I J = some (nI 1) ∧ mM_isBetter_139 (nI 0) I J = some (nI 0) ∧ mM_isBetter_139 (nI 1) I J = some (nI 0) := by
    unfold mM_isBetter_139
    exact ⟨rfl, rfl, rfl⟩
  have hg2 : mM_compared (J 0 90) (J 0 92) (J 0 94) (J 0 96) = sg (C 1 * K 3) (K 1 * C 3) := by
    unfold mM_compared
    rw [c1, c3, k1, k3, lI_mul, lI_mul]
    exact g2
  have hg1 : mM_compared (J 0 89) (J 0 92) (J 0 93) (J 0 96) = sg (C 0 * K 3) (K 0 * C 3) := by
    unfold mM_compared
    rw [c0, c3, k0, k3, lI_mul, lI_mul]
    exact g1
  have n1 : ¬ (-1 : Int32) = 0 := by decide
  have n2 : ¬ nI 1 = (0 : Int32) := by decide
  have n3 : nI 0 = (0 : Int32) := rfl
  have f108 : ∃ b : Bool, mM_isBetter_108 (sg (C 0 * K 3) (K 0 * C 3)) I J = some (bI b) ∧ (b = true ↔ (C 0 * K 3 < K 0 * C 3 ∨ (C 0 * K 3 = K 0 * C 3 ∧ C 1 * K 3 < K 1 * C 3))) := by
    unfold mM_isBetter_108
    rw [hg2]
    rcases Int.lt_trichotomy (C 0 * K 3) (K 0 * C 3) with h | h | h
    · rw [sg_lt h, if_neg n1, f139.1]
      exact ⟨true, rfl, by simp; omega⟩
    · rw [sg_eq h, if_pos n3]
      rcases Int.lt_trichotomy (C 1 * K 3) (K 1 * C 3) with h' | h' | h'
      · rw [sg_lt h', f139.1]
        exact ⟨true, rfl, by simp; omega⟩
      · rw [sg_eq h', f139.2.1]
        exact ⟨false, rfl, by simp; omega⟩
      · rw [sg_gt h', f139.2.2]
        exact ⟨false, rfl, by simp; omega⟩
    · rw [sg_gt h, if_neg n2, f139.2.2]
      exact ⟨false, rfl, by simp; omega⟩
  have top : mM_isBetter (nI s) I J = (if sg (pV (s % D 0 1 : Nat) (s / D 0 1 : Nat) C * K 3) (pV (s % D 0 1 : Nat) (s / D 0 1 : Nat) K * C 3) = (0 : Int32) then mM_isBetter_108 (sg (C 0 * K 3) (K 0 * C 3)) I J else mM_isBetter_108 (sg (pV (s % D 0 1 : Nat) (s / D 0 1 : Nat) C * K 3) (pV (s % D 0 1 : Nat) (s / D 0 1 : Nat) K * C 3)) I J) := by
    unfold mM_isBetter
    rw [hg1, hm.2.1]
    unfold mM_compared
    rw [c0, c1, c2, c3, k0, k1, k2, k3]
    simp (disch := omega) only [h_let, hg_nz, nI_mod2, nI_divN, nI_mul, nI_subN, e1, e2, lI_mul, lI_add, hA, hB, g0]
  rw [top]
  unfold ltP
  rcases Int.lt_trichotomy (pV (s % D 0 1 : Nat) (s / D 0 1 : Nat) C * K 3) (pV (s % D 0 1 : Nat) (s / D 0 1 : Nat) K * C 3) with h | h | h
  · rw [sg_lt h, if_neg n1]
    unfold mM_isBetter_108
    rw [if_neg n1, f139.1]
    exact ⟨true, rfl, ⟨fun _ => Or.inl h, fun _ => rfl⟩⟩
  · rw [sg_eq h, if_pos n3]
    obtain ⟨b, b1, b2⟩ := f108
    refine ⟨b, b1, b2.trans ⟨fun q => Or.inr ⟨h, q⟩, fun q => ?_⟩⟩
    rcases q with q | q
    · omega
    · exact q.2
  · rw [sg_gt h, if_neg n2]
    unfold mM_isBetter_108
    rw [if_neg n2, f139.2.2]
    exact ⟨false, rfl, ⟨fun q => absurd q (by decide), fun q => by rcases q with q | q <;> omega⟩⟩
end Bv
