/-! best: lines, corners: the identities. -/
def wy0 (i j : Nat → Int) : Int := i 1 * j 2 - i 2 * j 1
def wy1 (i j : Nat → Int) : Int := i 2 * j 0 - i 0 * j 2
def wy2 (i j : Nat → Int) : Int := i 0 * j 1 - i 1 * j 0
def wyS (i j : Nat → Int) : Int := wy0 i j * wy0 i j + wy1 i j * wy1 i j + wy2 i j * wy2 i j
def pt0 (i j : Nat → Int) : Int := i 3 * (j 1 * wy2 i j - j 2 * wy1 i j) + j 3 * (i 2 * wy1 i j - i 1 * wy2 i j)
def pt1 (i j : Nat → Int) : Int := i 3 * (j 2 * wy0 i j - j 0 * wy2 i j) + j 3 * (i 0 * wy2 i j - i 2 * wy0 i j)
def pt2 (i j : Nat → Int) : Int := i 3 * (j 0 * wy1 i j - j 1 * wy0 i j) + j 3 * (i 1 * wy0 i j - i 0 * wy1 i j)
/-- slope, what is missing -/
def slp (i j r : Nat → Int) : Int := r 0 * wy0 i j + r 1 * wy1 i j + r 2 * wy2 i j
def mis (i j r : Nat → Int) : Int := r 3 * wyS i j - r 0 * pt0 i j - r 1 * pt1 i j - r 2 * pt2 i j
/-- Cramer's numbers of three conditions just met -/
def cn0 (i j r : Nat → Int) : Int := i 3 * (j 1 * r 2 - j 2 * r 1) + j 3 * (r 1 * i 2 - r 2 * i 1) + r 3 * wy0 i j
def cn1 (i j r : Nat → Int) : Int := i 3 * (j 2 * r 0 - j 0 * r 2) + j 3 * (r 2 * i 0 - r 0 * i 2) + r 3 * wy1 i j
def cn2 (i j r : Nat → Int) : Int := i 3 * (j 0 * r 1 - j 1 * r 0) + j 3 * (r 0 * i 1 - r 1 * i 0) + r 3 * wy2 i j
section Ge
variable (i j r q : Nat → Int)
theorem wy_i : i 0 * wy0 i j + i 1 * wy1 i j + i 2 * wy2 i j = 0 := by unfold wy0 wy1 wy2; grind
theorem wy_j : j 0 * wy0 i j + j 1 * wy1 i j + j 2 * wy2 i j = 0 := by unfold wy0 wy1 wy2; grind
/-- the point's product with the way -/
theorem pw0 : pt1 i j * wy2 i j - pt2 i j * wy1 i j = wyS i j * (j 3 * i 0 - i 3 * j 0) := by
  have h1 := wy_i i j
  have h2 := wy_j i j
  unfold pt1 pt2 wyS
  generalize wy0 i j = a at *
  generalize wy1 i j = b at *
  generalize wy2 i j = c at *
  grind
theorem pw1 : pt2 i j * wy0 i j - pt0 i j * wy2 i j = wyS i j * (j 3 * i 1 - i 3 * j 1) := by
  have h1 := wy_i i j
  have h2 := wy_j i j
  unfold pt2 pt0 wyS
  generalize wy0 i j = a at *
  generalize wy1 i j = b at *
  generalize wy2 i j = c at *
  grind
theorem pw2 : pt0 i j * wy1 i j - pt1 i j * wy0 i j = wyS i j * (j 3 * i 2 - i 3 * j 2) := by
  have h1 := wy_i i j
  have h2 := wy_j i j
  unfold pt0 pt1 wyS
  generalize wy0 i j = a at *
  generalize wy1 i j = b at *
  generalize wy2 i j = c at *
  grind
theorem cor0 : slp i j r * pt0 i j + mis i j r * wy0 i j = wyS i j * cn0 i j r := by
  have h0 := pw0 i j
  have h1 := pw1 i j
  have h2 := pw2 i j
  unfold slp mis cn0
  generalize wyS i j = S at *
  generalize pt0 i j = x at *
  generalize pt1 i j = y at *
  generalize pt2 i j = z at *
  generalize wy0 i j = a at *
  generalize wy1 i j = b at *
  generalize wy2 i j = c at *
  grind
theorem cor1 : slp i j r * pt1 i j + mis i j r * wy1 i j = wyS i j * cn1 i j r := by
  have h0 := pw0 i j
  have h1 := pw1 i j
  have h2 := pw2 i j
  unfold slp mis cn1
  generalize wyS i j = S at *
  generalize pt0 i j = x at *
  generalize pt1 i j = y at *
  generalize pt2 i j = z at *
  generalize wy0 i j = a at *
  generalize wy1 i j = b at *
  generalize wy2 i j = c at *
  grind
theorem cor2 : slp i j r * pt2 i j + mis i j r * wy2 i j = wyS i j * cn2 i j r := by
  have h0 := pw0 i j
  have h1 := pw1 i j
  have h2 := pw2 i j
  unfold slp mis cn2
  generalize wyS i j = S at *
  generalize pt0 i j = x at *
  generalize pt1 i j = y at *
  generalize pt2 i j = z at *
  generalize wy0 i j = a at *
  generalize wy1 i j = b at *
  generalize wy2 i j = c at *
  grind
/-- the corner's place against a further condition, on the line and by Cramer -/
theorem cor_at : wyS i j * (q 0 * cn0 i j r + q 1 * cn1 i j r + q 2 * cn2 i j r - q 3 * slp i j r) = mis i j r * slp i j q - mis i j q * slp i j r := by
  have h0 := cor0 i j r
  have h1 := cor1 i j r
  have h2 := cor2 i j r
  have e1 : slp i j q = q 0 * wy0 i j + q 1 * wy1 i j + q 2 * wy2 i j := rfl
  have e2 : mis i j q = q 3 * wyS i j - q 0 * pt0 i j - q 1 * pt1 i j - q 2 * pt2 i j := rfl
  rw [e1, e2]
  generalize wyS i j = S at *
  generalize pt0 i j = x at *
  generalize pt1 i j = y at *
  generalize pt2 i j = z at *
  generalize wy0 i j = a at *
  generalize wy1 i j = b at *
  generalize wy2 i j = c at *
  generalize cn0 i j r = u at *
  generalize cn1 i j r = v at *
  generalize cn2 i j r = w at *
  generalize slp i j r = d at *
  generalize mis i j r = m at *
  grind
/-- on the line both conditions are just met -/
theorem on_i : slp i j i = 0 ∧ mis i j i = 0 := by
  have h1 := wy_i i j
  have h2 := wy_j i j
  refine ⟨h1, ?_⟩
  have key : i 0 * pt0 i j + i 1 * pt1 i j + i 2 * pt2 i j = i 3 * wyS i j := by
    unfold pt0 pt1 pt2 wyS
    have e0 : wy0 i j = i 1 * j 2 - i 2 * j 1 := rfl
    have e1 : wy1 i j = i 2 * j 0 - i 0 * j 2 := rfl
    have e2 : wy2 i j = i 0 * j 1 - i 1 * j 0 := rfl
    generalize wy0 i j = a at *
    generalize wy1 i j = b at *
    generalize wy2 i j = c at *
    grind
  unfold mis
  omega
theorem on_j : slp i j j = 0 ∧ mis i j j = 0 := by
  have h1 := wy_i i j
  have h2 := wy_j i j
  refine ⟨h2, ?_⟩
  have key : j 0 * pt0 i j + j 1 * pt1 i j + j 2 * pt2 i j = j 3 * wyS i j := by
    unfold pt0 pt1 pt2 wyS
    have e0 : wy0 i j = i 1 * j 2 - i 2 * j 1 := rfl
    have e1 : wy1 i j = i 2 * j 0 - i 0 * j 2 := rfl
    have e2 : wy2 i j = i 0 * j 1 - i 1 * j 0 := rfl
    generalize wy0 i j = a at *
    generalize wy1 i j = b at *
    generalize wy2 i j = c at *
    grind
  unfold mis
  omega
/-- the order of three conditions does not matter, but for the sign -/
theorem swp_ij : slp j i r = - slp i j r ∧ cn0 j i r = - cn0 i j r ∧ cn1 j i r = - cn1 i j r ∧ cn2 j i r = - cn2 i j r := by
  unfold slp cn0 cn1 cn2 wy0 wy1 wy2
  refine ⟨?_, ?_, ?_, ?_⟩ <;> grind
theorem swp_jr : slp i r j = - slp i j r ∧ cn0 i r j = - cn0 i j r ∧ cn1 i r j = - cn1 i j r ∧ cn2 i r j = - cn2 i j r := by
  unfold slp cn0 cn1 cn2 wy0 wy1 wy2
  refine ⟨?_, ?_, ?_, ?_⟩ <;> grind
theorem sq_nz {a b c : Int} (h : a * a + b * b + c * c = 0) : a = 0 ∧ b = 0 ∧ c = 0 := by
  have hs : ∀ x : Int, 0 ≤ x * x ∧ (x * x = 0 → x = 0) := fun x => ⟨by
    rcases Int.le_total 0 x with h | h
    · exact Int.mul_nonneg h h
    · exact Int.mul_nonneg_of_nonpos_of_nonpos h h, fun h => by
    rcases Int.mul_eq_zero.mp h with e | e <;> exact e⟩
  obtain ⟨a1, a2⟩ := hs a
  obtain ⟨b1, b2⟩ := hs b
  obtain ⟨c1, c2⟩ := hs c
  exact ⟨a2 (by omega), b2 (by omega), c2 (by omega)⟩
theorem wyS_nn : 0 ≤ wyS i j := by
  have hs : ∀ x : Int, 0 ≤ x * x := fun x => by
    rcases Int.le_total 0 x with h | h
    · exact Int.mul_nonneg h h
    · exact Int.mul_nonneg_of_nonpos_of_nonpos h h
  unfold wyS
  have := hs (wy0 i j)
  have := hs (wy1 i j)
  have := hs (wy2 i j)
  omega
/-- no line: no corner on it -/
theorem wyS_0 (h : wyS i j = 0) : slp i j r = 0 := by
  obtain ⟨a, b, c⟩ := sq_nz h
  unfold slp
  rw [a, b, c]
  simp
end Ge
