/-! best: which of two corners is the better one, at a state. -/
def pV (x y : Int) (P : Nat → Int) : Int := P 0 * x + P 1 * y + P 2
def ltP (x y : Int) (P Q : Nat → Int) : Prop := pV x y P * Q 3 < pV x y Q * P 3 ∨ (pV x y P * Q 3 = pV x y Q * P 3 ∧ (P 0 * Q 3 < Q 0 * P 3 ∨ (P 0 * Q 3 = Q 0 * P 3 ∧ P 1 * Q 3 < Q 1 * P 3)))
/-- the same point -/
def eqP (P Q : Nat → Int) : Prop := P 0 * Q 3 = Q 0 * P 3 ∧ P 1 * Q 3 = Q 1 * P 3 ∧ P 2 * Q 3 = Q 2 * P 3
theorem fr_lt {p d q e r g : Int} (he : 0 < e) (hd : 0 < d) (hg : 0 < g) (h1 : p * e ≤ q * d) (h2 : q * g ≤ r * e) : p * g ≤ r * d ∧ ((p * e < q * d ∨ q * g < r * e) → p * g < r * d) ∧ (p * g = r * d → p * e = q * d ∧ q * g = r * e) := by
  have a1 : p * e * g ≤ q * d * g := Int.mul_le_mul_of_nonneg_right h1 (by omega)
  have a2 : q * g * d ≤ r * e * d := Int.mul_le_mul_of_nonneg_right h2 (by omega)
  have e1 : p * e * g = p * g * e := by grind
  have e2 : q * d * g = q * g * d := by grind
  have e3 : r * e * d = r * d * e := by grind
  have key : p * g * e ≤ r * d * e := by omega
  have key2 : (p * e < q * d ∨ q * g < r * e) → p * g < r * d := fun h => by
    have : p * g * e < r * d * e := by
      rcases h with h | h
      · have := Int.mul_lt_mul_of_pos_right h hg
        omega
      · have := Int.mul_lt_mul_of_pos_right h hd
        omega
    exact Int.lt_of_mul_lt_mul_right this (by omega)
  refine ⟨Int.le_of_mul_le_mul_right key he, key2, fun h => ?_⟩
  have n1 : ¬ p * e < q * d := fun c => by have := key2 (Or.inl c); omega
  have n2 : ¬ q * g < r * e := fun c => by have := key2 (Or.inr c); omega
  omega
section Or
variable {x y : Int} {P Q S : Nat → Int}
theorem eqP_refl (P : Nat → Int) : eqP P P := ⟨rfl, rfl, rfl⟩
theorem eqP_symm (h : eqP P Q) : eqP Q P := ⟨h.1.symm, h.2.1.symm, h.2.2.symm⟩
theorem eqP_V (h : eqP P Q) : pV x y P * Q 3 = pV x y Q * P 3 := by
  obtain ⟨a, b, c⟩ := h
  unfold pV
  grind
theorem eqP_trans (hP : 0 < P 3) (hQ : 0 < Q 3) (hS : 0 < S 3) (h1 : eqP P Q) (h2 : eqP Q S) : eqP P S := by
  have key : ∀ p q s : Int, p * Q 3 = q * P 3 → q * S 3 = s * Q 3 → p * S 3 = s * P 3 := fun p q s a b => by
    have e : p * S 3 * Q 3 = s * P 3 * Q 3 := by grind
    exact Int.eq_of_mul_eq_mul_right (by omega) e
  exact ⟨key _ _ _ h1.1 h2.1, key _ _ _ h1.2.1 h2.2.1, key _ _ _ h1.2.2 h2.2.2⟩
/-- not better and not worse: the same point -/
theorem lt_total (h1 : ¬ ltP x y P Q) (h2 : ¬ ltP x y Q P) : eqP P Q := by
  unfold ltP at h1 h2
  have a : pV x y P * Q 3 = pV x y Q * P 3 := by omega
  have b : P 0 * Q 3 = Q 0 * P 3 := by omega
  have c : P 1 * Q 3 = Q 1 * P 3 := by omega
  refine ⟨b, c, ?_⟩
  unfold pV at a
  grind
/-- at least as good: goes on -/
theorem nlt_trans (hP : 0 < P 3) (hQ : 0 < Q 3) (hS : 0 < S 3) (h1 : ¬ ltP x y Q P) (h2 : ¬ ltP x y S Q) : ¬ ltP x y S P := by
  intro h
  unfold ltP at h h1 h2
  have v1 : pV x y P * Q 3 ≤ pV x y Q * P 3 := by omega
  have v2 : pV x y Q * S 3 ≤ pV x y S * Q 3 := by omega
  obtain ⟨w1, w2, w3⟩ := fr_lt hQ hP hS v1 v2
  rcases h with h | ⟨ha, h⟩
  · omega
  · obtain ⟨z1, z2⟩ := w3 ha.symm
    have u1 : P 0 * Q 3 ≤ Q 0 * P 3 := by omega
    have u2 : Q 0 * S 3 ≤ S 0 * Q 3 := by omega
    obtain ⟨w4, w5, w6⟩ := fr_lt hQ hP hS u1 u2
    rcases h with h | ⟨hb, h⟩
    · omega
    · obtain ⟨z3, z4⟩ := w6 hb.symm
      have t1 : P 1 * Q 3 ≤ Q 1 * P 3 := by omega
      have t2 : Q 1 * S 3 ≤ S 1 * Q 3 := by omega
      obtain ⟨w7, _, _⟩ := fr_lt hQ hP hS t1 t2
      omega
/-- the same point is neither better nor worse -/
theorem eq_nlt (h : eqP P Q) : ¬ ltP x y P Q ∧ ¬ ltP x y Q P := by
  have a := eqP_V (x := x) (y := y) h
  obtain ⟨b, c, _⟩ := h
  unfold ltP
  omega
/-- the least of two sets of the same points is one point -/
theorem least_one {A B : (Nat → Int) → Prop} (hA : ∀ P, A P → 0 < P 3) (hB : ∀ P, B P → 0 < P 3) (hAB : ∀ P, A P → ∃ Q, B Q ∧ eqP P Q) (hBA : ∀ Q, B Q → ∃ P, A P ∧ eqP P Q) {K L : Nat → Int} (hK : A K) (hKm : ∀ P, A P → ¬ ltP x y P K) (hL : B L) (hLm : ∀ Q, B Q → ¬ ltP x y Q L) : eqP K L := by
  obtain ⟨L', a1, a2⟩ := hBA L hL
  obtain ⟨K', b1, b2⟩ := hAB K hK
  -- K is not worse than L' = L, L is not worse than K' = K
  have c1 := nlt_trans (hA K hK) (hA L' a1) (hB L hL) (hKm L' a1) (eq_nlt (x := x) (y := y) a2).2
  have c2 := nlt_trans (hB L hL) (hB K' b1) (hA K hK) (hLm K' b1) (eq_nlt (x := x) (y := y) b2).1
  exact lt_total c2 c1
end Or
