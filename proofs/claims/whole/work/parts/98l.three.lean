/-! best: the reference's determinants of three conditions. -/
theorem m_three (a b c d e f g h k : Int) : mM_three (lI a) (lI b) (lI c) (lI d) (lI e) (lI f) (lI g) (lI h) (lI k) = lI (a * (e * k - f * h) - b * (d * k - f * g) + c * (d * h - e * g)) := by
  unfold mM_three
  simp only [lI_mul, lI_sub, lI_add]
section Th
variable (i j r : Nat → Int)
theorem th_d : i 0 * (j 1 * r 2 - j 2 * r 1) - i 1 * (j 0 * r 2 - j 2 * r 0) + i 2 * (j 0 * r 1 - j 1 * r 0) = slp i j r := by
  unfold slp wy0 wy1 wy2
  grind
theorem th_0 : i 3 * (j 1 * r 2 - j 2 * r 1) - i 1 * (j 3 * r 2 - j 2 * r 3) + i 2 * (j 3 * r 1 - j 1 * r 3) = cn0 i j r := by
  unfold cn0 wy0
  grind
theorem th_1 : i 0 * (j 3 * r 2 - j 2 * r 3) - i 3 * (j 0 * r 2 - j 2 * r 0) + i 2 * (j 0 * r 3 - j 3 * r 0) = cn1 i j r := by
  unfold cn1 wy1
  grind
theorem th_2 : i 0 * (j 1 * r 3 - j 3 * r 1) - i 1 * (j 0 * r 3 - j 3 * r 0) + i 3 * (j 0 * r 1 - j 1 * r 0) = cn2 i j r := by
  unfold cn2 wy2
  grind
end Th
