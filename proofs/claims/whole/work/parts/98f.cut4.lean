/-! best: cutLine as a whole. -/
section Cw
variable {R : Nat → Nat → Int} {M : Nat}
theorem ct_top (I : hI) (J : hJ) : mCo_cutLine I J = mCo_cutLine_L15 hF (h_u (h_u I 38 9 (nI 0)) 38 10 (nI 0) 38 5) (h_u (h_u I 38 9 (nI 0)) 38 10 (nI 0)) J := by
  have z0 : (0 : Int32) = nI 0 := rfl
  unfold mCo_cutLine
  rw [hl_eq, hl_eq, hl_eq, z0]
theorem co_cutLine (hb : bdR R M) (hM : M ≤ 92) {i j F : Nat} (hi : i < M) (hj : j < M) (hFM : F ≤ M) {I : hI} {J : hJ} (h4 : I 38 4 = nI M) (h5 : I 38 5 = nI F) (ht : tbR R M J) (hl : lnQ (R i) (R j) J) : ∃ (I' : hI) (J' : hJ), offC I I' J J' ∧ ((mCo_cutLine I J = some (nI 0, I', J') ∧ noPt R i j F M) ∨ ∃ lo hi, mCo_cutLine I J = some (nI 1, I', J') ∧ endQ 46 9 lo I' J' ∧ endQ 47 10 hi I' J' ∧ cutI R i j F M lo hi) := by
  have off : ∀ a x, (a ≠ 38 ∨ (x ≠ 9 ∧ x ≠ 10)) → h_u (h_u I 38 9 (nI 0)) 38 10 (nI 0) a x = I a x := fun a x hh => by
    by_cases e : a = 38
    · subst e
      rw [h_u_pl _ _ _ (by omega), h_u_pl _ _ _ (by omega)]
    · rw [h_u_off2 _ _ _ _ e, h_u_off2 _ _ _ _ e]
  have e5 := off 38 5 (by decide)
  rw [h5] at e5
  obtain ⟨I', J', a1, a2⟩ := ct_L hb hM (F := F) hi hj (M - F) F hF (h_u (h_u I 38 9 (nI 0)) 38 10 (nI 0)) J none none (by omega) (by unfold hF; omega) (Nat.le_refl _) (by rw [off 38 4 (by decide)]; exact h4) ht hl (Or.inl ⟨rfl, by rw [h_u_pl _ _ _ (by decide), h_u_at]⟩) (Or.inl ⟨rfl, h_u_at _ _ _ _⟩) ⟨fun r q1 q2 => by omega, fun r q1 q2 => by omega, fun r q1 q2 => by omega, fun u l e => absurd e (by simp), fun u l e => absurd e (by simp), fun u l u' l' e => absurd e (by simp)⟩
  refine ⟨I', J', ⟨fun a x hh => by rw [a1.1 a x hh, off a x hh], a1.2⟩, ?_⟩
  rw [ct_top, e5]
  exact a2
end Cw
/-- the greatest common divisor, a little wider -/
theorem c_divisor49 {a b : Int} (h1 : - 2 ^ 63 < a) (h2 : a < 2 ^ 63) (h3 : - 2 ^ 49 < b) (h4 : b < 2 ^ 49) : mC_divisor (lI a) (lI b) = some (lN (Nat.gcd a.natAbs b.natAbs)) := by
  unfold mC_divisor
  simp only [h_let]
  rw [abs_lI h1 h2, abs_lI (by omega) (by omega), li_0]
  exact c_div_L 49 _ _ 0 hF (by omega) (by omega) (by omega) (by omega) (by decide)
