/-! best: the class notes a corner. -/
theorem gcI_mul {S a b : Int} (hS : 0 ≤ S) : gcI (S * a) (S * b) = S * gcI a b := by
  unfold gcI
  rw [Int.natAbs_mul, Int.natAbs_mul, Nat.gcd_mul_left, Int.natCast_mul, Int.natAbs_of_nonneg hS]
theorem gcI_dl (a b : Int) : gcI a b ∣ a := by
  unfold gcI
  rw [Int.ofNat_dvd_left]
  exact Nat.gcd_dvd_left _ _
theorem gcI_dr (a b : Int) : gcI a b ∣ b := by
  unfold gcI
  rw [Int.ofNat_dvd_left]
  exact Nat.gcd_dvd_right _ _
theorem gcI_nn (a b : Int) : 0 ≤ gcI a b := by unfold gcI; omega
theorem gcI_posl {a b : Int} (h : a ≠ 0) : 0 < gcI a b := by
  unfold gcI
  have : 0 < Nat.gcd a.natAbs b.natAbs := Nat.gcd_pos_of_pos_left _ (by omega)
  omega
theorem gcI_lel {a b : Int} (h : 0 < a) : gcI a b ≤ a := by
  unfold gcI
  have : Nat.gcd a.natAbs b.natAbs ≤ a.natAbs := Nat.gcd_le_left _ (by omega)
  omega
theorem nc_23 {I : hI} {J : hJ} {u l g : Int} {k : Nat} (hk : k < 3) {p w a : Int} (h1 : J 44 k = lI p) (h2 : J 45 k = lI w) (h3 : p * l + u * w = a) (hg : 0 ≤ g) (hg2 : g < 2 ^ 63) (ha : - 2 ^ 49 < a) (ha2 : a < 2 ^ 49) (K : Int64 → Int64 → Int64 → Int32 → hI → hJ → Option (hI × hJ)) : mCo_noteCorner_B23 K (lI u) (lI l) (lI g) (nI k) I J = K (lI u) (lI l) (lI (gcI g a)) (nI (k + 1)) I (h_u J 48 k (lI a)) := by
  have e := c_divisor49 (a := g) (b := a) (by omega) hg2 ha ha2
  have e3 : lN (Nat.gcd g.natAbs a.natAbs) = lI (gcI g a) := rfl
  rw [e3] at e
  unfold mCo_noteCorner_B23
  simp (disch := omega) only [↓reduceIte, h_let, hg_in, hg_zb, hg_z0, hg_z1, hg_nz, Option.bind_some, if_pos, if_neg, bI_0, bI_n0, nI_add, nI_mul, nI_ltI, nI_leI, nI_eq, nI_clamp, nI_subN, nI_divN, nI_mod2, nI_m1e, nI_em1, nI_m2e, nI_lt0, m1_lt0, m1_lt, m1_le, h_u_at, h_u_off2, h_u_pl, li_0, li_1, li_2, li_3, li_4, li_5, li_6, li_7, li_8, li_9, li_10, li_11, li_12, li_13, li_14, li_15, li_16, li_17, li_18, li_19, li_20, li_21, li_22, li_23, li_24, li_25, li_26, li_27, li_28, li_29, li_30, li_31, li_32, li_40, li_43, li_45, li_47, li_48, li_57, li_59, li_60, li_61, li_62, li_63, li_64, li_80, li_92, li_97, li_99, li_100, li_122, li_123, li_125, li_166, li_201, li_210, li_250, li_255, li_256, li_257, li_258, li_259, li_260, li_261, li_262, li_263, li_264, li_265, li_266, li_267, li_268, li_300, li_500, li_1000, li_12345, li_27720, li_1000000, li_1103515245, ne_m1, ne_m2, h1, h2, lI_mul, lI_add, h3, e]
theorem nc_78 {I : hI} {J : hJ} {G q : Int} {k : Nat} (hk : k < 4) (h1 : J 48 k = lI (G * q)) (hG : 0 < G) (hG2 : G < 2 ^ 63) (ha : - 2 ^ 63 < G * q) (ha2 : G * q < 2 ^ 63) (K : Int64 → Int32 → hI → hJ → Option (hI × hJ)) : mCo_noteCorner_B78 K (lI G) (nI k) I J = K (lI G) (nI (k + 1)) I (h_u J 48 k (lI q)) := by
  have e := lI_divx (q := q) (b := G) (by omega) ha ha2 (by omega) hG2
  have hne : ¬ lI G = (0 : Int64) := fun e => by
    have := (lI_eq (a := G) (b := 0) (by omega) (by omega) (by omega) (by omega)).mp e
    omega
  have hnz : ∀ {β : Type} (k : Option β), h_g (h_nzL (lI G)) k = k := fun k => hg_nzL k (by omega) (by omega) (by omega)
  unfold mCo_noteCorner_B78
  rw [if_neg hne, hnz]
  simp (disch := omega) only [↓reduceIte, h_let, hg_in, hg_zb, hg_z0, hg_z1, hg_nz, Option.bind_some, if_pos, if_neg, bI_0, bI_n0, nI_add, nI_mul, nI_ltI, nI_leI, nI_eq, nI_clamp, nI_subN, nI_divN, nI_mod2, nI_m1e, nI_em1, nI_m2e, nI_lt0, m1_lt0, m1_lt, m1_le, h_u_at, h_u_off2, h_u_pl, li_0, li_1, li_2, li_3, li_4, li_5, li_6, li_7, li_8, li_9, li_10, li_11, li_12, li_13, li_14, li_15, li_16, li_17, li_18, li_19, li_20, li_21, li_22, li_23, li_24, li_25, li_26, li_27, li_28, li_29, li_30, li_31, li_32, li_40, li_43, li_45, li_47, li_48, li_57, li_59, li_60, li_61, li_62, li_63, li_64, li_80, li_92, li_97, li_99, li_100, li_122, li_123, li_125, li_166, li_201, li_210, li_250, li_255, li_256, li_257, li_258, li_259, li_260, li_261, li_262, li_263, li_264, li_265, li_266, li_267, li_268, li_300, li_500, li_1000, li_12345, li_27720, li_1000000, li_1103515245, ne_m1, ne_m2, h1, e]
/-- a corner's own numbers: those given, by what they share -/
theorem co_nums {I : hI} {J : hJ} {u l S : Int} {p w c : Nat → Int} (h8 : J 38 8 = lI S) (hp : ∀ k, k < 3 → J 44 k = lI (p k)) (hw : ∀ k, k < 3 → J 45 k = lI (w k)) (hc : ∀ k, k < 3 → p k * l + u * w k = S * c k) (hl : l = c 3) (hS : 0 < S) (hS2 : S ≤ 20155392) (bc : ptB c) : ∃ (P : Nat → Int) (J' : hJ), mCo_noteCorner (lI u) (lI l) I J = mCo_noteCorner_L112 hF (nI 0) I J' ∧ ptQ 48 P J' ∧ ptB P ∧ eqP P c ∧ ∀ a x, a ≠ 48 → J' a x = J a x := by
  obtain ⟨b0, b1, b2, b3⟩ := bc
  obtain ⟨f, hf⟩ := hF4
  obtain ⟨f5, hf5⟩ : ∃ f, hF = f + 1 + 1 + 1 + 1 + 1 := ⟨995, rfl⟩
  have s23 : ∀ n v1 v2 v3 v4 K L, mCo_noteCorner_L23 (n + 1) v1 v2 v3 v4 K L = mCo_noteCorner_B23 (mCo_noteCorner_L23 n) v1 v2 v3 v4 K L := fun _ _ _ _ _ _ _ => rfl
  have s78 : ∀ n v1 v2 K L, mCo_noteCorner_L78 (n + 1) v1 v2 K L = mCo_noteCorner_B78 (mCo_noteCorner_L78 n) v1 v2 K L := fun _ _ _ _ _ => rfl
  have m0 := mb (show - 20155392 ≤ S ∧ S ≤ 20155392 by omega) b0
  have m1 := mb (show - 20155392 ≤ S ∧ S ≤ 20155392 by omega) b1
  have m2 := mb (show - 20155392 ≤ S ∧ S ≤ 20155392 by omega) b2
  have m3 := mb (show - 20155392 ≤ S ∧ S ≤ 20155392 by omega) (show - 279936 ≤ c 3 ∧ c 3 ≤ 279936 by omega)
  have p3 : 0 < S * c 3 := Int.mul_pos hS b3.1
  -- what they share
  have n1 := gcI_nn (c 3) (c 0)
  have q1 := gcI_posl (a := c 3) (b := c 0) (by omega)
  have r1 := gcI_lel (a := c 3) (b := c 0) (by omega)
  have q2 := gcI_posl (a := gcI (c 3) (c 0)) (b := c 1) (by omega)
  have r2 := gcI_lel (a := gcI (c 3) (c 0)) (b := c 1) (by omega)
  have q3 := gcI_posl (a := gcI (gcI (c 3) (c 0)) (c 1)) (b := c 2) (by omega)
  have r3 := gcI_lel (a := gcI (gcI (c 3) (c 0)) (c 1)) (b := c 2) (by omega)
  have d2 := gcI_dr (gcI (gcI (c 3) (c 0)) (c 1)) (c 2)
  have d01 := gcI_dl (gcI (gcI (c 3) (c 0)) (c 1)) (c 2)
  have d1 := Int.dvd_trans d01 (gcI_dr (gcI (c 3) (c 0)) (c 1))
  have d00 := Int.dvd_trans d01 (gcI_dl (gcI (c 3) (c 0)) (c 1))
  have d0 := Int.dvd_trans d00 (gcI_dr (c 3) (c 0))
  have d3 := Int.dvd_trans d00 (gcI_dl (c 3) (c 0))
  have g1 : gcI (S * c 3) (S * c 0) = S * gcI (c 3) (c 0) := gcI_mul (by omega)
  have g2 : gcI (S * gcI (c 3) (c 0)) (S * c 1) = S * gcI (gcI (c 3) (c 0)) (c 1) := gcI_mul (by omega)
  have g3 : gcI (S * gcI (gcI (c 3) (c 0)) (c 1)) (S * c 2) = S * gcI (gcI (gcI (c 3) (c 0)) (c 1)) (c 2) := gcI_mul (by omega)
  have t1 := mb (show - 20155392 ≤ S ∧ S ≤ 20155392 by omega) (show - 279936 ≤ gcI (c 3) (c 0) ∧ gcI (c 3) (c 0) ≤ 279936 by omega)
  have t2 := mb (show - 20155392 ≤ S ∧ S ≤ 20155392 by omega) (show - 279936 ≤ gcI (gcI (c 3) (c 0)) (c 1) ∧ gcI (gcI (c 3) (c 0)) (c 1) ≤ 279936 by omega)
  have t3 := mb (show - 20155392 ≤ S ∧ S ≤ 20155392 by omega) (show - 279936 ≤ gcI (gcI (gcI (c 3) (c 0)) (c 1)) (c 2) ∧ gcI (gcI (gcI (c 3) (c 0)) (c 1)) (c 2) ≤ 279936 by omega)
  have o1 : 0 ≤ S * gcI (c 3) (c 0) := Int.mul_nonneg (by omega) (by omega)
  have o2 : 0 ≤ S * gcI (gcI (c 3) (c 0)) (c 1) := Int.mul_nonneg (by omega) (by omega)
  have o3 : 0 < S * gcI (gcI (gcI (c 3) (c 0)) (c 1)) (c 2) := Int.mul_pos hS q3
  generalize gcI (gcI (gcI (c 3) (c 0)) (c 1)) (c 2) = g at *
  have E : ∀ k, g ∣ c k → c k = g * (c k / g) := fun k h => (Int.mul_ediv_cancel' h).symm
  have e0 := E 0 d0
  have e1 := E 1 d1
  have e2 := E 2 d2
  have e3 := E 3 d3
  have bd : ∀ a q B : Int, a = g * q → - B ≤ a → a ≤ B → - B ≤ q ∧ q ≤ B := fun a q B h h1 h2 => by
    have : a.natAbs = g.natAbs * q.natAbs := by rw [h, Int.natAbs_mul]
    have h3 : 1 * q.natAbs ≤ g.natAbs * q.natAbs := Nat.mul_le_mul_right _ (by omega)
    omega
  have f0 := bd _ _ 14929920 e0 b0.1 b0.2
  have f1 := bd _ _ 14929920 e1 b1.1 b1.2
  have f2 := bd _ _ 14929920 e2 b2.1 b2.2
  have f3 := bd _ _ 279936 e3 (by omega) b3.2
  have f3' : 0 < c 3 / g := by
    by_cases h : 0 < c 3 / g
    · exact h
    · have := Int.mul_nonpos_of_nonneg_of_nonpos (show 0 ≤ g by omega) (show c 3 / g ≤ 0 by omega)
      omega
  have G : ∀ k, c k = g * (c k / g) → S * c k = S * g * (c k / g) := fun k h => by
    rw [Int.mul_assoc, ← h]
  have G0 := G 0 e0
  have G1 := G 1 e1
  have G2 := G 2 e2
  have G3 := G 3 e3
  obtain ⟨K1, hK1⟩ : ∃ K, K = h_u J 48 3 (lI (S * c 3)) := ⟨_, rfl⟩
  have w1 : ∀ a x, a ≠ 48 → K1 a x = J a x := fun a x h => by rw [hK1, h_u_off2 _ _ _ _ h]
  have z1 := nc_23 (I := I) (J := K1) (u := u) (l := l) (g := S * c 3) (k := 0) (by decide) (by rw [w1 44 0 (by decide)]; exact hp 0 (by decide)) (by rw [w1 45 0 (by decide)]; exact hw 0 (by decide)) (hc 0 (by decide)) (by omega) (by omega) (by omega) (by omega) (mCo_noteCorner_L23 (f + 1 + 1 + 1))
  obtain ⟨K2, hK2⟩ : ∃ K, K = h_u K1 48 0 (lI (S * c 0)) := ⟨_, rfl⟩
  rw [← hK2, g1] at z1
  have w2 : ∀ a x, a ≠ 48 → K2 a x = J a x := fun a x h => by rw [hK2, h_u_off2 _ _ _ _ h, w1 a x h]
  have z2 := nc_23 (I := I) (J := K2) (u := u) (l := l) (g := S * gcI (c 3) (c 0)) (k := 1) (by decide) (by rw [w2 44 1 (by decide)]; exact hp 1 (by decide)) (by rw [w2 45 1 (by decide)]; exact hw 1 (by decide)) (hc 1 (by decide)) (by omega) (by omega) (by omega) (by omega) (mCo_noteCorner_L23 (f + 1 + 1))
  obtain ⟨K3, hK3⟩ : ∃ K, K = h_u K2 48 1 (lI (S * c 1)) := ⟨_, rfl⟩
  rw [← hK3, g2] at z2
  have w3 : ∀ a x, a ≠ 48 → K3 a x = J a x := fun a x h => by rw [hK3, h_u_off2 _ _ _ _ h, w2 a x h]
  have z3 := nc_23 (I := I) (J := K3) (u := u) (l := l) (g := S * gcI (gcI (c 3) (c 0)) (c 1)) (k := 2) (by decide) (by rw [w3 44 2 (by decide)]; exact hp 2 (by decide)) (by rw [w3 45 2 (by decide)]; exact hw 2 (by decide)) (hc 2 (by decide)) (by omega) (by omega) (by omega) (by omega) (mCo_noteCorner_L23 (f + 1))
  obtain ⟨K4, hK4⟩ : ∃ K, K = h_u K3 48 2 (lI (S * c 2)) := ⟨_, rfl⟩
  rw [← hK4, g3] at z3
  have w4 : ∀ a x, a ≠ 48 → K4 a x = J a x := fun a x h => by rw [hK4, h_u_off2 _ _ _ _ h, w3 a x h]
  have z4 : mCo_noteCorner_B23 (mCo_noteCorner_L23 f) (lI u) (lI l) (lI (S * g)) (nI 3) I K4 = mCo_noteCorner_L78 hF (lI (S * g)) (nI 0) I K4 := by
    unfold mCo_noteCorner_B23
    simp (disch := omega) only [↓reduceIte, h_let, hg_in, hg_zb, hg_z0, hg_z1, hg_nz, Option.bind_some, if_pos, if_neg, bI_0, bI_n0, nI_add, nI_mul, nI_ltI, nI_leI, nI_eq, nI_clamp, nI_subN, nI_divN, nI_mod2, nI_m1e, nI_em1, nI_m2e, nI_lt0, m1_lt0, m1_lt, m1_le, h_u_at, h_u_off2, h_u_pl, li_0, li_1, li_2, li_3, li_4, li_5, li_6, li_7, li_8, li_9, li_10, li_11, li_12, li_13, li_14, li_15, li_16, li_17, li_18, li_19, li_20, li_21, li_22, li_23, li_24, li_25, li_26, li_27, li_28, li_29, li_30, li_31, li_32, li_40, li_43, li_45, li_47, li_48, li_57, li_59, li_60, li_61, li_62, li_63, li_64, li_80, li_92, li_97, li_99, li_100, li_122, li_123, li_125, li_166, li_201, li_210, li_250, li_255, li_256, li_257, li_258, li_259, li_260, li_261, li_262, li_263, li_264, li_265, li_266, li_267, li_268, li_300, li_500, li_1000, li_12345, li_27720, li_1000000, li_1103515245, ne_m1, ne_m2]
  have k40 : K4 48 0 = lI (S * c 0) := by simp (disch := omega) only [hK4, hK3, hK2, hK1, h_u_at, h_u_pl]
  have k41 : K4 48 1 = lI (S * c 1) := by simp (disch := omega) only [hK4, hK3, hK2, hK1, h_u_at, h_u_pl]
  have k42 : K4 48 2 = lI (S * c 2) := by simp (disch := omega) only [hK4, hK3, hK2, hK1, h_u_at, h_u_pl]
  have k43 : K4 48 3 = lI (S * c 3) := by simp (disch := omega) only [hK4, hK3, hK2, hK1, h_u_at, h_u_pl]
  have x1 := nc_78 (I := I) (J := K4) (G := S * g) (q := c 0 / g) (k := 0) (by decide) (by rw [k40, G0]) o3 (by omega) (by omega) (by omega) (mCo_noteCorner_L78 (f5 + 1 + 1 + 1 + 1))
  obtain ⟨K5, hK5⟩ : ∃ K, K = h_u K4 48 0 (lI (c 0 / g)) := ⟨_, rfl⟩
  rw [← hK5] at x1
  have x2 := nc_78 (I := I) (J := K5) (G := S * g) (q := c 1 / g) (k := 1) (by decide) (by rw [hK5, h_u_pl _ _ _ (by decide), k41, G1]) o3 (by omega) (by omega) (by omega) (mCo_noteCorner_L78 (f5 + 1 + 1 + 1))
  obtain ⟨K6, hK6⟩ : ∃ K, K = h_u K5 48 1 (lI (c 1 / g)) := ⟨_, rfl⟩
  rw [← hK6] at x2
  have x3 := nc_78 (I := I) (J := K6) (G := S * g) (q := c 2 / g) (k := 2) (by decide) (by rw [hK6, h_u_pl _ _ _ (by decide), hK5, h_u_pl _ _ _ (by decide), k42, G2]) o3 (by omega) (by omega) (by omega) (mCo_noteCorner_L78 (f5 + 1 + 1))
  obtain ⟨K7, hK7⟩ : ∃ K, K = h_u K6 48 2 (lI (c 2 / g)) := ⟨_, rfl⟩
  rw [← hK7] at x3
  have x4 := nc_78 (I := I) (J := K7) (G := S * g) (q := c 3 / g) (k := 3) (by decide) (by rw [hK7, h_u_pl _ _ _ (by decide), hK6, h_u_pl _ _ _ (by decide), hK5, h_u_pl _ _ _ (by decide), k43, G3]) o3 (by omega) (by omega) (by omega) (mCo_noteCorner_L78 (f5 + 1))
  obtain ⟨K8, hK8⟩ : ∃ K, K = h_u K7 48 3 (lI (c 3 / g)) := ⟨_, rfl⟩
  rw [← hK8] at x4
  have x5 : mCo_noteCorner_B78 (mCo_noteCorner_L78 f5) (lI (S * g)) (nI 4) I K8 = mCo_noteCorner_L112 hF (nI 0) I K8 := by
    unfold mCo_noteCorner_B78
    simp (disch := omega) only [↓reduceIte, h_let, hg_in, hg_zb, hg_z0, hg_z1, hg_nz, Option.bind_some, if_pos, if_neg, bI_0, bI_n0, nI_add, nI_mul, nI_ltI, nI_leI, nI_eq, nI_clamp, nI_subN, nI_divN, nI_mod2, nI_m1e, nI_em1, nI_m2e, nI_lt0, m1_lt0, m1_lt, m1_le, h_u_at, h_u_off2, h_u_pl, li_0, li_1, li_2, li_3, li_4, li_5, li_6, li_7, li_8, li_9, li_10, li_11, li_12, li_13, li_14, li_15, li_16, li_17, li_18, li_19, li_20, li_21, li_22, li_23, li_24, li_25, li_26, li_27, li_28, li_29, li_30, li_31, li_32, li_40, li_43, li_45, li_47, li_48, li_57, li_59, li_60, li_61, li_62, li_63, li_64, li_80, li_92, li_97, li_99, li_100, li_122, li_123, li_125, li_166, li_201, li_210, li_250, li_255, li_256, li_257, li_258, li_259, li_260, li_261, li_262, li_263, li_264, li_265, li_266, li_267, li_268, li_300, li_500, li_1000, li_12345, li_27720, li_1000000, li_1103515245, ne_m1, ne_m2]
  have top : mCo_noteCorner (lI u) (lI l) I J = mCo_noteCorner_L23 hF (lI u) (lI l) (lI (S * c 3)) (nI 0) I K1 := by
    unfold mCo_noteCorner
    rw [hl_eq, hl_eq, h8, hl, lI_mul, hK1]
    rfl
  refine ⟨fun k => c k / g, K8, ?_, ⟨?_, ?_, ?_, ?_⟩, ⟨f0, f1, f2, f3', f3.2⟩, ⟨?_, ?_, ?_⟩, fun a x h => by rw [hK8, h_u_off2 _ _ _ _ h, hK7, h_u_off2 _ _ _ _ h, hK6, h_u_off2 _ _ _ _ h, hK5, h_u_off2 _ _ _ _ h, w4 a x h]⟩
  · rw [top, hf, s23, z1, s23, z2, s23, z3, s23, z4, hf5, s78, x1, s78, x2, s78, x3, s78, x4, s78, x5]
    rw [hf]
  · simp (disch := omega) only [hK8, hK7, hK6, hK5, h_u_at, h_u_pl]
  · simp (disch := omega) only [hK8, hK7, hK6, hK5, h_u_at, h_u_pl]
  · simp (disch := omega) only [hK8, hK7, hK6, hK5, h_u_at, h_u_pl]
  · simp (disch := omega) only [hK8, hK7, hK6, hK5, h_u_at, h_u_pl]
  · show c 0 / g * c 3 = c 0 * (c 3 / g)
    generalize c 0 / g = a at *
    generalize c 3 / g = b at *
    rw [e0, e3]
    grind
  · show c 1 / g * c 3 = c 1 * (c 3 / g)
    generalize c 1 / g = a at *
    generalize c 3 / g = b at *
    rw [e1, e3]
    grind
  · show c 2 / g * c 3 = c 2 * (c 3 / g)
    generalize c 2 / g = a at *
    generalize c 3 / g = b at *
    rw [e2, e3]
    grind
