/-! best: the ends of a line are the corners on it. -/
/-- a corner: three numbers over one, that meets the conditions F to M -/
def feaQ (R : Nat → Nat → Int) (F M : Nat) (a b c d : Int) : Prop := ∀ r, F ≤ r → r < M → R r 3 * d ≤ R r 0 * a + R r 1 * b + R r 2 * c
section Ve
variable {R : Nat → Nat → Int} {M : Nat}
theorem fea_p {i j r F : Nat} (hS : 0 < wyS (R i) (R j)) : feaQ R F M (cn0 (R i) (R j) (R r)) (cn1 (R i) (R j) (R r)) (cn2 (R i) (R j) (R r)) (slp (R i) (R j) (R r)) ↔ ∀ q, F ≤ q → q < M → mis (R i) (R j) (R q) * slp (R i) (R j) (R r) ≤ mis (R i) (R j) (R r) * slp (R i) (R j) (R q) := by
  unfold feaQ
  constructor
  · intro h q h1 h2
    have e := cor_at (R i) (R j) (R r) (R q)
    have := Int.mul_nonneg (Int.le_of_lt hS) (show 0 ≤ R q 0 * cn0 (R i) (R j) (R r) + R q 1 * cn1 (R i) (R j) (R r) + R q 2 * cn2 (R i) (R j) (R r) - R q 3 * slp (R i) (R j) (R r) by have := h q h1 h2; omega)
    omega
  · intro h q h1 h2
    have e := cor_at (R i) (R j) (R r) (R q)
    have h3 := h q h1 h2
    by_cases c : 0 ≤ R q 0 * cn0 (R i) (R j) (R r) + R q 1 * cn1 (R i) (R j) (R r) + R q 2 * cn2 (R i) (R j) (R r) - R q 3 * slp (R i) (R j) (R r)
    · omega
    · have := Int.mul_neg_of_pos_of_neg hS (show R q 0 * cn0 (R i) (R j) (R r) + R q 1 * cn1 (R i) (R j) (R r) + R q 2 * cn2 (R i) (R j) (R r) - R q 3 * slp (R i) (R j) (R r) < 0 by omega)
      omega
theorem fea_n {i j r F : Nat} (hS : 0 < wyS (R i) (R j)) : feaQ R F M (- cn0 (R i) (R j) (R r)) (- cn1 (R i) (R j) (R r)) (- cn2 (R i) (R j) (R r)) (- slp (R i) (R j) (R r)) ↔ ∀ q, F ≤ q → q < M → mis (R i) (R j) (R r) * slp (R i) (R j) (R q) ≤ mis (R i) (R j) (R q) * slp (R i) (R j) (R r) := by
  have neg : ∀ q, R q 0 * (- cn0 (R i) (R j) (R r)) + R q 1 * (- cn1 (R i) (R j) (R r)) + R q 2 * (- cn2 (R i) (R j) (R r)) - R q 3 * (- slp (R i) (R j) (R r)) = - (R q 0 * cn0 (R i) (R j) (R r) + R q 1 * cn1 (R i) (R j) (R r) + R q 2 * cn2 (R i) (R j) (R r) - R q 3 * slp (R i) (R j) (R r)) := fun q => by grind
  unfold feaQ
  constructor
  · intro h q h1 h2
    have e := cor_at (R i) (R j) (R r) (R q)
    have h3 := h q h1 h2
    have h4 := neg q
    by_cases c : R q 0 * cn0 (R i) (R j) (R r) + R q 1 * cn1 (R i) (R j) (R r) + R q 2 * cn2 (R i) (R j) (R r) - R q 3 * slp (R i) (R j) (R r) ≤ 0
    · have := Int.mul_nonpos_of_nonneg_of_nonpos (Int.le_of_lt hS) c
      omega
    · omega
  · intro h q h1 h2
    have e := cor_at (R i) (R j) (R r) (R q)
    have h3 := h q h1 h2
    have h4 := neg q
    by_cases c : 0 < R q 0 * cn0 (R i) (R j) (R r) + R q 1 * cn1 (R i) (R j) (R r) + R q 2 * cn2 (R i) (R j) (R r) - R q 3 * slp (R i) (R j) (R r)
    · have := Int.mul_pos hS c
      omega
    · omega
/-- the low end is a corner -/
theorem end_lo {i j F : Nat} {lo hi : Option (Int × Int)} (h : cutI R i j F M lo hi) (hS : 0 < wyS (R i) (R j)) {u l : Int} (hl : lo = some (u, l)) : ∃ r, F ≤ r ∧ r < M ∧ 0 < slp (R i) (R j) (R r) ∧ u = mis (R i) (R j) (R r) ∧ l = slp (R i) (R j) (R r) ∧ feaQ R F M (cn0 (R i) (R j) (R r)) (cn1 (R i) (R j) (R r)) (cn2 (R i) (R j) (R r)) (slp (R i) (R j) (R r)) := by
  obtain ⟨c1, c2, c3, c4, c5, c6⟩ := h
  obtain ⟨hp, r, a1, a2, a3, a4, a5⟩ := c4 u l hl
  refine ⟨r, a1, a2, a3, a4, a5, (fea_p hS).mpr (fun q q1 q2 => ?_)⟩
  rw [← a4, ← a5]
  by_cases z : slp (R i) (R j) (R q) = 0
  · have := c1 q q1 q2 z
    rw [z, Int.mul_zero]
    exact Int.mul_nonpos_of_nonpos_of_nonneg this (by omega)
  · by_cases zp : 0 < slp (R i) (R j) (R q)
    · obtain ⟨u0, l0, x1, x2⟩ := c2 q q1 q2 zp
      rw [hl] at x1
      cases x1
      exact x2
    · obtain ⟨u', l', x1, x2⟩ := c3 q q1 q2 (by omega)
      have x3 := c6 u l u' l' hl x1
      have := frac_tr (a := u) (l0 := l') (u0 := u') (s := l) (l := - slp (R i) (R j) (R q)) (u := - mis (R i) (R j) (R q)) (c5 u' l' x1).1 (by omega) (by omega) x3 x2
      have e1 : u * - slp (R i) (R j) (R q) = - (u * slp (R i) (R j) (R q)) := by grind
      have e2 : - mis (R i) (R j) (R q) * l = - (mis (R i) (R j) (R q) * l) := by grind
      omega
/-- the high end is a corner -/
theorem end_hi {i j F : Nat} {lo hi : Option (Int × Int)} (h : cutI R i j F M lo hi) (hS : 0 < wyS (R i) (R j)) {u l : Int} (hl : hi = some (u, l)) : ∃ r, F ≤ r ∧ r < M ∧ slp (R i) (R j) (R r) < 0 ∧ u = - mis (R i) (R j) (R r) ∧ l = - slp (R i) (R j) (R r) ∧ feaQ R F M (- cn0 (R i) (R j) (R r)) (- cn1 (R i) (R j) (R r)) (- cn2 (R i) (R j) (R r)) (- slp (R i) (R j) (R r)) := by
  obtain ⟨c1, c2, c3, c4, c5, c6⟩ := h
  obtain ⟨hp, r, a1, a2, a3, a4, a5⟩ := c5 u l hl
  refine ⟨r, a1, a2, a3, a4, a5, (fea_n hS).mpr (fun q q1 q2 => ?_)⟩
  have em : mis (R i) (R j) (R r) = - u := by omega
  have es : slp (R i) (R j) (R r) = - l := by omega
  rw [em, es]
  have e1 : -u * slp (R i) (R j) (R q) = - (u * slp (R i) (R j) (R q)) := by grind
  have e2 : mis (R i) (R j) (R q) * -l = - (mis (R i) (R j) (R q) * l) := by grind
  rw [e1, e2]
  by_cases z : slp (R i) (R j) (R q) = 0
  · have := c1 q q1 q2 z
    rw [z, Int.mul_zero]
    have := Int.mul_nonpos_of_nonpos_of_nonneg this (show 0 ≤ l by omega)
    omega
  · by_cases zp : 0 < slp (R i) (R j) (R q)
    · obtain ⟨u0, l0, x1, x2⟩ := c2 q q1 q2 zp
      have x3 := c6 u0 l0 u l x1 hl
      have := frac_tr (a := mis (R i) (R j) (R q)) (l0 := l0) (u0 := u0) (s := slp (R i) (R j) (R q)) (l := l) (u := u) (c4 u0 l0 x1).1 (by omega) (by omega) x2 x3
      omega
    · obtain ⟨u', l', x1, x2⟩ := c3 q q1 q2 (by omega)
      rw [hl] at x1
      cases x1
      have f1 : u * - slp (R i) (R j) (R q) = - (u * slp (R i) (R j) (R q)) := by grind
      have f2 : - mis (R i) (R j) (R q) * l = - (mis (R i) (R j) (R q) * l) := by grind
      omega
/-- a corner on the line is its low end, if its condition rises along it -/
theorem is_lo {i j r F : Nat} (hS : 0 < wyS (R i) (R j)) (h1 : F ≤ r) (h2 : r < M) (hp : 0 < slp (R i) (R j) (R r)) (hf : feaQ R F M (cn0 (R i) (R j) (R r)) (cn1 (R i) (R j) (R r)) (cn2 (R i) (R j) (R r)) (slp (R i) (R j) (R r))) : ¬ noPt R i j F M ∧ ∀ lo hi, cutI R i j F M lo hi → ∃ u l, lo = some (u, l) ∧ u * slp (R i) (R j) (R r) = mis (R i) (R j) (R r) * l := by
  have hq := (fea_p hS).mp hf
  refine ⟨fun hn => ?_, fun lo hi hc => ?_⟩
  · obtain ⟨q, a, b, c⟩ := hn (mis (R i) (R j) (R r)) (slp (R i) (R j) (R r)) hp
    have := hq q a b
    omega
  · obtain ⟨u, l, x1, x2⟩ := hc.2.1 r h1 h2 hp
    obtain ⟨_, r', a1, a2, a3, a4, a5⟩ := hc.2.2.2.1 u l x1
    have := hq r' a1 a2
    rw [← a4, ← a5] at this
    exact ⟨u, l, x1, by omega⟩
theorem is_hi {i j r F : Nat} (hS : 0 < wyS (R i) (R j)) (h1 : F ≤ r) (h2 : r < M) (hp : slp (R i) (R j) (R r) < 0) (hf : feaQ R F M (- cn0 (R i) (R j) (R r)) (- cn1 (R i) (R j) (R r)) (- cn2 (R i) (R j) (R r)) (- slp (R i) (R j) (R r))) : ¬ noPt R i j F M ∧ ∀ lo hi, cutI R i j F M lo hi → ∃ u l, hi = some (u, l) ∧ u * (- slp (R i) (R j) (R r)) = - mis (R i) (R j) (R r) * l := by
  have hq := (fea_n hS).mp hf
  refine ⟨fun hn => ?_, fun lo hi hc => ?_⟩
  · obtain ⟨q, a, b, c⟩ := hn (- mis (R i) (R j) (R r)) (- slp (R i) (R j) (R r)) (by omega)
    have := hq q a b
    have e1 : - mis (R i) (R j) (R r) * slp (R i) (R j) (R q) = - (mis (R i) (R j) (R r) * slp (R i) (R j) (R q)) := by grind
    have e2 : mis (R i) (R j) (R q) * - slp (R i) (R j) (R r) = - (mis (R i) (R j) (R q) * slp (R i) (R j) (R r)) := by grind
    omega
  · obtain ⟨u, l, x1, x2⟩ := hc.2.2.1 r h1 h2 hp
    obtain ⟨_, r', a1, a2, a3, a4, a5⟩ := hc.2.2.2.2.1 u l x1
    have := hq r' a1 a2
    have em : mis (R i) (R j) (R r') = - u := by omega
    have es : slp (R i) (R j) (R r') = - l := by omega
    rw [em, es] at this
    have e1 : mis (R i) (R j) (R r) * -l = - (mis (R i) (R j) (R r) * l) := by grind
    have e2 : -u * slp (R i) (R j) (R r) = - (u * slp (R i) (R j) (R r)) := by grind
    have e3 : u * - slp (R i) (R j) (R r) = - (u * slp (R i) (R j) (R r)) := by grind
    have e4 : - mis (R i) (R j) (R r) * l = - (mis (R i) (R j) (R r) * l) := by grind
    exact ⟨u, l, x1, by omega⟩
end Ve
