/-! Greatest common divisors by both; fractions in lowest terms. -/
theorem lI_mod {a b : Int} (h1 : - 2 ^ 63 < a) (h2 : a < 2 ^ 63) (h3 : - 2 ^ 63 ≤ b) (h4 : b < 2 ^ 63) : lI a - lI a / lI b * lI b = lI (a.tmod b) := by
  rw [lI_div h1 h2 h3 h4, lI_mul, lI_sub]
  congr 1
  rw [Int.tmod_def, Int.mul_comm b]
theorem halve {x y k : Nat} (hy : y < 2 ^ (k + 1)) (h0 : 0 < x % y) (hy0 : 0 < y) : y % (x % y) < 2 ^ k := by
  have h1 : x % y < y := Nat.mod_lt _ hy0
  have h2 : y % (x % y) < x % y := Nat.mod_lt _ h0
  rw [Nat.pow_succ] at hy
  by_cases h : 2 * (x % y) ≤ y
  · omega
  · have h3 : y % (x % y) = y - x % y := by
      rw [Nat.mod_eq_sub_mod (by omega), Nat.mod_eq_of_lt (by omega)]
    omega
theorem lN_mod {x y : Nat} (hx : x < 2 ^ 63) (hy : y < 2 ^ 63) : lN x - lN x / lN y * lN y = lN (x % y) := by
  have h := lI_mod (a := (x : Int)) (b := (y : Int)) (by omega) (by omega) (by omega) (by omega)
  rw [← lN_lI, ← lN_lI] at h
  rw [h, lN_lI]
  congr 1
theorem lN_eqz {y : Nat} (hy : y < 2 ^ 63) : (lN y = (0 : Int64)) ↔ y = 0 := by
  have e : (0 : Int64) = lI 0 := rfl
  rw [e, lN_lI, lI_eq (by omega) (by omega) (by decide) (by decide)]
  omega
theorem hg_nzN {β : Type} {b : Nat} (k : Option β) (h : b ≠ 0) (h2 : b < 2 ^ 63) : h_g (h_nzL (lN b)) k = k := by
  rw [lN_lI]
  exact hg_nzL k (by omega) (by omega) (by omega)
theorem c_div_L : ∀ (k x y i fuel : Nat), x < 2 ^ 63 → y < 2 ^ 63 → y < 2 ^ k → i + 2 * k + 1 ≤ 100 → 2 * k + 1 < fuel → mC_divisor_L15 fuel (lN x) (lN y) (nI i) = some (lN (Nat.gcd x y))
  | 0, x, y, i, fuel, hx, hy, hk, hi, hf => by
    obtain ⟨fuel, rfl⟩ : ∃ m, fuel = m + 1 := ⟨fuel - 1, by omega⟩
    have hy0 : y = 0 := by omega
    subst hy0
    unfold mC_divisor_L15 mC_divisor_B15
    simp (disch := omega) only [↓reduceIte, h_let, hg_in, hg_zb, hg_z0, hg_z1, hg_nz, Option.bind_some, if_pos, if_neg, bI_0, bI_n0, nI_add, nI_mul, nI_ltI, nI_leI, nI_eq, nI_clamp, nI_subN, nI_divN, nI_mod2, nI_m1e, nI_em1, nI_m2e, nI_lt0, m1_lt0, m1_lt, m1_le, h_u_at, h_u_off2, h_u_pl, li_0, li_1, li_2, li_3, li_4, li_5, li_6, li_7, li_8, li_9, li_10, li_11, li_12, li_13, li_14, li_15, li_16, li_17, li_18, li_19, li_20, li_21, li_22, li_23, li_24, li_25, li_26, li_27, li_28, li_29, li_30, li_31, li_32, li_40, li_43, li_45, li_47, li_48, li_57, li_59, li_60, li_61, li_62, li_63, li_64, li_80, li_92, li_97, li_99, li_100, li_122, li_123, li_125, li_166, li_201, li_210, li_250, li_255, li_256, li_257, li_258, li_259, li_260, li_261, li_262, li_263, li_264, li_265, li_266, li_267, li_268, li_300, li_500, li_1000, li_12345, li_27720, li_1000000, li_1103515245, ne_m1, ne_m2, lN_eqz, Nat.gcd_zero_right]
  | k + 1, x, y, i, fuel, hx, hy, hk, hi, hf => by
    obtain ⟨fuel, rfl⟩ : ∃ m, fuel = m + 1 := ⟨fuel - 1, by omega⟩
    by_cases hy0 : y = 0
    · subst hy0
      unfold mC_divisor_L15 mC_divisor_B15
      simp (disch := omega) only [↓reduceIte, h_let, hg_in, hg_zb, hg_z0, hg_z1, hg_nz, Option.bind_some, if_pos, if_neg, bI_0, bI_n0, nI_add, nI_mul, nI_ltI, nI_leI, nI_eq, nI_clamp, nI_subN, nI_divN, nI_mod2, nI_m1e, nI_em1, nI_m2e, nI_lt0, m1_lt0, m1_lt, m1_le, h_u_at, h_u_off2, h_u_pl, li_0, li_1, li_2, li_3, li_4, li_5, li_6, li_7, li_8, li_9, li_10, li_11, li_12, li_13, li_14, li_15, li_16, li_17, li_18, li_19, li_20, li_21, li_22, li_23, li_24, li_25, li_26, li_27, li_28, li_29, li_30, li_31, li_32, li_40, li_43, li_45, li_47, li_48, li_57, li_59, li_60, li_61, li_62, li_63, li_64, li_80, li_92, li_97, li_99, li_100, li_122, li_123, li_125, li_166, li_201, li_210, li_250, li_255, li_256, li_257, li_258, li_259, li_260, li_261, li_262, li_263, li_264, li_265, li_266, li_267, li_268, li_300, li_500, li_1000, li_12345, li_27720, li_1000000, li_1103515245, ne_m1, ne_m2, lN_eqz, Nat.gcd_zero_right]
    · have e1 : Nat.gcd x y = Nat.gcd y (x % y) := by rw [Nat.gcd_comm, Nat.gcd_rec, Nat.gcd_comm]
      have hml : x % y < y := Nat.mod_lt _ (by omega)
      obtain ⟨fuel, rfl⟩ : ∃ m, fuel = m + 1 := ⟨fuel - 1, by omega⟩
      unfold mC_divisor_L15 mC_divisor_B15
      simp (disch := omega) only [↓reduceIte, h_let, hg_in, hg_zb, hg_z0, hg_z1, hg_nz, Option.bind_some, if_pos, if_neg, bI_0, bI_n0, nI_add, nI_mul, nI_ltI, nI_leI, nI_eq, nI_clamp, nI_subN, nI_divN, nI_mod2, nI_m1e, nI_em1, nI_m2e, nI_lt0, m1_lt0, m1_lt, m1_le, h_u_at, h_u_off2, h_u_pl, li_0, li_1, li_2, li_3, li_4, li_5, li_6, li_7, li_8, li_9, li_10, li_11, li_12, li_13, li_14, li_15, li_16, li_17, li_18, li_19, li_20, li_21, li_22, li_23, li_24, li_25, li_26, li_27, li_28, li_29, li_30, li_31, li_32, li_40, li_43, li_45, li_47, li_48, li_57, li_59, li_60, li_61, li_62, li_63, li_64, li_80, li_92, li_97, li_99, li_100, li_122, li_123, li_125, li_166, li_201, li_210, li_250, li_255, li_256, li_257, li_258, li_259, li_260, li_261, li_262, li_263, li_264, li_265, li_266, li_267, li_268, li_300, li_500, li_1000, li_12345, li_27720, li_1000000, li_1103515245, ne_m1, ne_m2, lN_eqz, hg_nzN, lN_mod]
      unfold mC_divisor_L15 mC_divisor_B15
      by_cases hm : x % y = 0
      · rw [e1, hm, Nat.gcd_zero_right]
        simp (disch := omega) only [↓reduceIte, h_let, hg_in, hg_zb, hg_z0, hg_z1, hg_nz, Option.bind_some, if_pos, if_neg, bI_0, bI_n0, nI_add, nI_mul, nI_ltI, nI_leI, nI_eq, nI_clamp, nI_subN, nI_divN, nI_mod2, nI_m1e, nI_em1, nI_m2e, nI_lt0, m1_lt0, m1_lt, m1_le, h_u_at, h_u_off2, h_u_pl, li_0, li_1, li_2, li_3, li_4, li_5, li_6, li_7, li_8, li_9, li_10, li_11, li_12, li_13, li_14, li_15, li_16, li_17, li_18, li_19, li_20, li_21, li_22, li_23, li_24, li_25, li_26, li_27, li_28, li_29, li_30, li_31, li_32, li_40, li_43, li_45, li_47, li_48, li_57, li_59, li_60, li_61, li_62, li_63, li_64, li_80, li_92, li_97, li_99, li_100, li_122, li_123, li_125, li_166, li_201, li_210, li_250, li_255, li_256, li_257, li_258, li_259, li_260, li_261, li_262, li_263, li_264, li_265, li_266, li_267, li_268, li_300, li_500, li_1000, li_12345, li_27720, li_1000000, li_1103515245, ne_m1, ne_m2, lN_eqz]
      · have e2 : Nat.gcd y (x % y) = Nat.gcd (x % y) (y % (x % y)) := by rw [Nat.gcd_comm, Nat.gcd_rec, Nat.gcd_comm]
        have hm2 : y % (x % y) < x % y := Nat.mod_lt _ (by omega)
        have ih := c_div_L k (x % y) (y % (x % y)) (i + 1 + 1) fuel (by omega) (by omega) (halve hk (by omega) (by omega)) (by omega) (by omega)
        simp (disch := omega) only [↓reduceIte, h_let, hg_in, hg_zb, hg_z0, hg_z1, hg_nz, Option.bind_some, if_pos, if_neg, bI_0, bI_n0, nI_add, nI_mul, nI_ltI, nI_leI, nI_eq, nI_clamp, nI_subN, nI_divN, nI_mod2, nI_m1e, nI_em1, nI_m2e, nI_lt0, m1_lt0, m1_lt, m1_le, h_u_at, h_u_off2, h_u_pl, li_0, li_1, li_2, li_3, li_4, li_5, li_6, li_7, li_8, li_9, li_10, li_11, li_12, li_13, li_14, li_15, li_16, li_17, li_18, li_19, li_20, li_21, li_22, li_23, li_24, li_25, li_26, li_27, li_28, li_29, li_30, li_31, li_32, li_40, li_43, li_45, li_47, li_48, li_57, li_59, li_60, li_61, li_62, li_63, li_64, li_80, li_92, li_97, li_99, li_100, li_122, li_123, li_125, li_166, li_201, li_210, li_250, li_255, li_256, li_257, li_258, li_259, li_260, li_261, li_262, li_263, li_264, li_265, li_266, li_267, li_268, li_300, li_500, li_1000, li_12345, li_27720, li_1000000, li_1103515245, ne_m1, ne_m2, lN_eqz, hg_nzN, lN_mod, ih]
        rw [e1, e2]
theorem abs_lI {a : Int} (h1 : - 2 ^ 63 < a) (h2 : a < 2 ^ 63) : (if (0 : Int64) < lI a then lI a else - lI a) = lN a.natAbs := by
  have e : (0 : Int64) = lI 0 := rfl
  rw [e, lN_lI]
  by_cases h : 0 < a
  · rw [if_pos ((lI_lt (by decide) (by decide) (by omega) h2).mpr h)]
    congr 1
    omega
  · rw [if_neg (fun q => h ((lI_lt (by decide) (by decide) (by omega) h2).mp q)), lI_neg]
    congr 1
    omega
theorem c_divisor {a b : Int} (h1 : - 2 ^ 63 < a) (h2 : a < 2 ^ 63) (h3 : - 2 ^ 48 < b) (h4 : b < 2 ^ 48) : mC_divisor (lI a) (lI b) = some (lN (Nat.gcd a.natAbs b.natAbs)) := by
  unfold mC_divisor
  simp only [h_let]
  rw [abs_lI h1 h2, abs_lI (by omega) (by omega), li_0]
  exact c_div_L 48 _ _ 0 hF (by omega) (by omega) (by omega) (by omega) (by decide)
theorem m_div_L : ∀ (k : Nat) (a b : Int) (fuel : Nat), - 2 ^ 63 < a → a < 2 ^ 63 → b.natAbs < 2 ^ 63 → b.natAbs < 2 ^ k → 2 * k + 1 ≤ fuel → mM_divisor fuel (lI a) (lI b) = some (lN (Nat.gcd a.natAbs b.natAbs))
  | 0, a, b, fuel, h1, h2, h3, hk, hf => by
    obtain ⟨fuel, rfl⟩ : ∃ m, fuel = m + 1 := ⟨fuel - 1, by omega⟩
    have hb : b = 0 := by omega
    subst hb
    have e : (0 : Int64) = lI 0 := rfl
    unfold mM_divisor mM_divisor_B
    rw [if_pos e.symm, abs_lI h1 h2]
    simp
  | k + 1, a, b, fuel, h1, h2, h3, hk, hf => by
    obtain ⟨fuel, rfl⟩ : ∃ m, fuel = m + 1 := ⟨fuel - 1, by omega⟩
    have e : (0 : Int64) = lI 0 := rfl
    by_cases hb : b = 0
    · subst hb
      unfold mM_divisor mM_divisor_B
      rw [if_pos e.symm, abs_lI h1 h2]
      simp
    · obtain ⟨fuel, rfl⟩ : ∃ m, fuel = m + 1 := ⟨fuel - 1, by omega⟩
      have hz : ¬ (lI b = (0 : Int64)) := fun q => hb ((lI_eq (b := 0) (by omega) (by omega) (by decide) (by decide)).mp q)
      have hta : (a.tmod b).natAbs = a.natAbs % b.natAbs := Int.natAbs_tmod a b
      have hml : a.natAbs % b.natAbs < b.natAbs := Nat.mod_lt _ (by omega)
      have e1 : Nat.gcd a.natAbs b.natAbs = Nat.gcd b.natAbs (a.natAbs % b.natAbs) := by rw [Nat.gcd_comm, Nat.gcd_rec, Nat.gcd_comm]
      rw [mM_divisor]
      unfold mM_divisor_B
      rw [if_neg hz, hg_nzL _ hb (by omega) (by omega), lI_mod h1 h2 (by omega) (by omega)]
      by_cases hm : a.tmod b = 0
      · rw [hm, mM_divisor]
        unfold mM_divisor_B
        rw [if_pos e.symm, abs_lI (by omega) (by omega), Option.bind_some]
        have : a.natAbs % b.natAbs = 0 := by rw [← hta, hm]; rfl
        rw [e1, this, Nat.gcd_zero_right]
      · have hz2 : ¬ (lI (a.tmod b) = (0 : Int64)) := fun q => hm ((lI_eq (b := 0) (by omega) (by omega) (by decide) (by decide)).mp q)
        have htb : (b.tmod (a.tmod b)).natAbs = b.natAbs % (a.natAbs % b.natAbs) := by rw [Int.natAbs_tmod, hta]
        have hm0 : 0 < a.natAbs % b.natAbs := by rw [← hta]; omega
        have hml2 : b.natAbs % (a.natAbs % b.natAbs) < a.natAbs % b.natAbs := Nat.mod_lt _ hm0
        have e2 : Nat.gcd b.natAbs (a.natAbs % b.natAbs) = Nat.gcd (a.natAbs % b.natAbs) (b.natAbs % (a.natAbs % b.natAbs)) := by rw [Nat.gcd_comm, Nat.gcd_rec, Nat.gcd_comm]
        have ih := m_div_L k (a.tmod b) (b.tmod (a.tmod b)) fuel (by omega) (by omega) (by omega) (by rw [htb]; exact halve hk hm0 (by omega)) (by omega)
        rw [mM_divisor]
        unfold mM_divisor_B
        rw [if_neg hz2, hg_nzL _ hm (by omega) (by omega), lI_mod (by omega) (by omega) (by omega) (by omega), ih, Option.bind_some, Option.bind_some, hta, htb, e1, e2]
theorem m_divisor {a b : Int} (h1 : - 2 ^ 63 < a) (h2 : a < 2 ^ 63) (h3 : - 2 ^ 48 < b) (h4 : b < 2 ^ 48) : mM_divisor 100 (lI a) (lI b) = some (lN (Nat.gcd a.natAbs b.natAbs)) := m_div_L 48 a b 100 h1 h2 (by omega) (by omega) (by decide)
def gcI (a b : Int) : Int := ((Nat.gcd a.natAbs b.natAbs : Nat) : Int)
def rdU (a b : Int) : Int := a.tdiv (gcI a b)
def rdL (a b : Int) : Int := b.tdiv (gcI a b)
theorem gcI_pos {a b : Int} (h : b ≠ 0) : 0 < gcI a b := by
  unfold gcI
  have : 0 < Nat.gcd a.natAbs b.natAbs := Nat.gcd_pos_of_pos_right _ (by omega)
  omega
theorem gcI_le {a b : Int} (h : b ≠ 0) : gcI a b ≤ b.natAbs := by
  unfold gcI
  have : Nat.gcd a.natAbs b.natAbs ≤ b.natAbs := Nat.gcd_le_right _ (by omega)
  omega
theorem rd_eq {a b : Int} (h : b ≠ 0) : a = gcI a b * rdU a b ∧ b = gcI a b * rdL a b := by
  have h0 := gcI_pos (a := a) h
  have d1 : gcI a b ∣ a := by
    unfold gcI
    exact Int.ofNat_dvd_left.mpr (Nat.gcd_dvd_left _ _)
  have d2 : gcI a b ∣ b := by
    unfold gcI
    exact Int.ofNat_dvd_left.mpr (Nat.gcd_dvd_right _ _)
  unfold rdU rdL
  exact ⟨(Int.mul_tdiv_cancel' d1).symm, (Int.mul_tdiv_cancel' d2).symm⟩
theorem rd_cop {a b : Int} (h : b ≠ 0) : Nat.gcd (rdU a b).natAbs (rdL a b).natAbs = 1 := by
  obtain ⟨e1, e2⟩ := rd_eq (a := a) h
  have h0 := gcI_pos (a := a) h
  have n1 : a.natAbs = Nat.gcd a.natAbs b.natAbs * (rdU a b).natAbs := by
    have := congrArg Int.natAbs e1
    rw [Int.natAbs_mul] at this
    exact this
  have n2 : b.natAbs = Nat.gcd a.natAbs b.natAbs * (rdL a b).natAbs := by
    have := congrArg Int.natAbs e2
    rw [Int.natAbs_mul] at this
    exact this
  have h1 : Nat.gcd a.natAbs b.natAbs = Nat.gcd a.natAbs b.natAbs * Nat.gcd (rdU a b).natAbs (rdL a b).natAbs := by
    have h5 : ∀ g, a.natAbs = g * (rdU a b).natAbs → b.natAbs = g * (rdL a b).natAbs → Nat.gcd a.natAbs b.natAbs = g * Nat.gcd (rdU a b).natAbs (rdL a b).natAbs := fun g q1 q2 => by
      rw [q1, q2, Nat.gcd_mul_left]
    exact h5 _ n1 n2
  have hg : 0 < Nat.gcd a.natAbs b.natAbs := Nat.gcd_pos_of_pos_right _ (by omega)
  have h2 : Nat.gcd a.natAbs b.natAbs * 1 = Nat.gcd a.natAbs b.natAbs * Nat.gcd (rdU a b).natAbs (rdL a b).natAbs := by rw [Nat.mul_one]; exact h1
  exact (Nat.eq_of_mul_eq_mul_left hg h2).symm
/-- the same fraction has the same lowest terms -/
theorem rd_unique {a b c d : Int} (hb : 0 < b) (hd : 0 < d) (h : a * d = c * b) : rdU a b = rdU c d ∧ rdL a b = rdL c d := by
  obtain ⟨a1, b1⟩ := rd_eq (a := a) (b := b) (by omega)
  obtain ⟨c1, d1⟩ := rd_eq (a := c) (b := d) (by omega)
  have k1 := rd_cop (a := a) (b := b) (by omega)
  have k2 := rd_cop (a := c) (b := d) (by omega)
  have g1 := gcI_pos (a := a) (b := b) (by omega)
  have g2 := gcI_pos (a := c) (b := d) (by omega)
  generalize gcI a b = g at *
  generalize gcI c d = q at *
  generalize rdU a b = x at *
  generalize rdL a b = y at *
  generalize rdU c d = u at *
  generalize rdL c d = v at *
  have hy : 0 < y := by
    rcases Int.lt_trichotomy y 0 with e | e | e
    · have : g * y < 0 := Int.mul_neg_of_pos_of_neg g1 e
      omega
    · rw [e] at b1; omega
    · exact e
  have hv : 0 < v := by
    rcases Int.lt_trichotomy v 0 with e | e | e
    · have : q * v < 0 := Int.mul_neg_of_pos_of_neg g2 e
      omega
    · rw [e] at d1; omega
    · exact e
  have hx : x * v = u * y := by
    have h3 : (g * q) * (x * v) = (g * q) * (u * y) := by
      have e1 : (g * q) * (x * v) = (g * x) * (q * v) := by grind
      have e2 : (g * q) * (u * y) = (q * u) * (g * y) := by grind
      rw [e1, e2, ← a1, ← d1, ← c1, ← b1]
      exact h
    exact Int.eq_of_mul_eq_mul_left (by have := Int.mul_pos g1 g2; omega) h3
  have hn : x.natAbs * v.natAbs = u.natAbs * y.natAbs := by
    have := congrArg Int.natAbs hx
    rw [Int.natAbs_mul, Int.natAbs_mul] at this
    exact this
  have dy : y.natAbs ∣ v.natAbs := by
    have : y.natAbs ∣ x.natAbs * v.natAbs := by rw [hn]; exact Nat.dvd_mul_left _ _
    exact Nat.Coprime.dvd_of_dvd_mul_left (by show Nat.gcd _ _ = 1; rw [Nat.gcd_comm]; exact k1) this
  have dv : v.natAbs ∣ y.natAbs := by
    have : v.natAbs ∣ u.natAbs * y.natAbs := by rw [← hn]; exact Nat.dvd_mul_left _ _
    exact Nat.Coprime.dvd_of_dvd_mul_left (by show Nat.gcd _ _ = 1; rw [Nat.gcd_comm]; exact k2) this
  have hyv : y.natAbs = v.natAbs := Nat.dvd_antisymm dy dv
  have hyv2 : y = v := by omega
  subst hyv2
  exact ⟨Int.eq_of_mul_eq_mul_right (by omega) hx, rfl⟩
theorem rd_pos {a b : Int} (h : 0 < b) : 0 < rdL a b := by
  obtain ⟨e1, e2⟩ := rd_eq (a := a) (b := b) (by omega)
  have g1 := gcI_pos (a := a) (b := b) (by omega)
  rcases Int.lt_trichotomy (rdL a b) 0 with e | e | e
  · have := Int.mul_neg_of_pos_of_neg g1 e; omega
  · rw [e] at e2; omega
  · exact e
theorem rd_abs (a b : Int) : (rdU a b).natAbs ≤ a.natAbs ∧ (rdL a b).natAbs ≤ b.natAbs := ⟨Int.natAbs_tdiv_le_natAbs _ _, Int.natAbs_tdiv_le_natAbs _ _⟩
