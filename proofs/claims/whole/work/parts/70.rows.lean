/-! Where a plan stays; the rows of its equations. -/
def lI (z : Int) : Int64 := Int64.ofInt z
theorem lI_add (a b : Int) : lI a + lI b = lI (a + b) := (Int64.ofInt_add a b).symm
theorem lI_sub (a b : Int) : lI a - lI b = lI (a - b) := (Int64.ofInt_sub a b).symm
theorem lI_mul (a b : Int) : lI a * lI b = lI (a * b) := (Int64.ofInt_mul a b).symm
theorem lI_neg (a : Int) : - lI a = lI (-a) := (Int64.ofInt_neg a).symm
theorem lI_toInt {a : Int} (h1 : - 2 ^ 63 ≤ a) (h2 : a < 2 ^ 63) : (lI a).toInt = a := Int64.toInt_ofInt_of_le h1 h2
theorem lN_lI (n : Nat) : lN n = lI (n : Int) := rfl
theorem lI_lt {a b : Int} (h1 : - 2 ^ 63 ≤ a) (h2 : a < 2 ^ 63) (h3 : - 2 ^ 63 ≤ b) (h4 : b < 2 ^ 63) : lI a < lI b ↔ a < b := by rw [Int64.lt_iff_toInt_lt, lI_toInt h1 h2, lI_toInt h3 h4]
theorem lI_le {a b : Int} (h1 : - 2 ^ 63 ≤ a) (h2 : a < 2 ^ 63) (h3 : - 2 ^ 63 ≤ b) (h4 : b < 2 ^ 63) : lI a ≤ lI b ↔ a ≤ b := by rw [Int64.le_iff_toInt_le, lI_toInt h1 h2, lI_toInt h3 h4]
theorem lI_eq {a b : Int} (h1 : - 2 ^ 63 ≤ a) (h2 : a < 2 ^ 63) (h3 : - 2 ^ 63 ≤ b) (h4 : b < 2 ^ 63) : lI a = lI b ↔ a = b := by
  constructor
  · intro h
    have := congrArg Int64.toInt h
    rw [lI_toInt h1 h2, lI_toInt h3 h4] at this
    exact this
  · intro h; rw [h]
theorem lI_div {a b : Int} (h1 : - 2 ^ 63 < a) (h2 : a < 2 ^ 63) (h3 : - 2 ^ 63 ≤ b) (h4 : b < 2 ^ 63) : lI a / lI b = lI (a.tdiv b) := by
  apply Int64.toInt_inj.mp
  have hne : lI a ≠ Int64.minValue := by
    intro h
    have := congrArg Int64.toInt h
    rw [lI_toInt (by omega) h2] at this
    have e : Int64.minValue.toInt = - 2 ^ 63 := by decide
    omega
  have hb : (a.tdiv b).natAbs ≤ a.natAbs := by
    rw [Int.natAbs_tdiv]
    exact Nat.div_le_self _ _
  rw [Int64.toInt_div_of_ne_left _ _ hne, lI_toInt (by omega) h2, lI_toInt h3 h4, lI_toInt (by omega) (by omega)]
theorem lI_divx {q b : Int} (hb : b ≠ 0) (h1 : - 2 ^ 63 < b * q) (h2 : b * q < 2 ^ 63) (h3 : - 2 ^ 63 ≤ b) (h4 : b < 2 ^ 63) : lI (b * q) / lI b = lI q := by
  rw [lI_div h1 h2 h3 h4, Int.mul_tdiv_cancel_left _ hb]
theorem nI_lI {n : Nat} (h : n < 2 ^ 31) : (nI n).toInt64 = lI (n : Int) := nI_l h
/-- how many ahead of a place; the one with so many ahead -/
def cnt (f : Nat → Bool) : Nat → Nat
  | 0 => 0
  | n + 1 => cnt f n + (if f n = true then 1 else 0)
def sel (f : Nat → Bool) : Nat → Nat → Nat
  | 0, _ => 0
  | n + 1, i => if f n = true ∧ cnt f n = i then n else sel f n i
theorem cnt_le (f : Nat → Bool) : ∀ n, cnt f n ≤ n
  | 0 => Nat.le_refl _
  | n + 1 => by have := cnt_le f n; unfold cnt; split <;> omega
theorem cnt_mono (f : Nat → Bool) {a b : Nat} (h : a ≤ b) : cnt f a ≤ cnt f b := by
  induction b with
  | zero => have : a = 0 := by omega
            subst this; exact Nat.le_refl _
  | succ b ih =>
    by_cases e : a = b + 1
    · subst e; exact Nat.le_refl _
    · have := ih (by omega)
      rw [cnt]
      omega
theorem cnt_lt (f : Nat → Bool) {s n : Nat} (h : s < n) (hf : f s = true) : cnt f s < cnt f n := by
  have h1 : cnt f (s + 1) ≤ cnt f n := cnt_mono f (by omega)
  rw [cnt, if_pos hf] at h1
  omega
theorem sel_spec (f : Nat → Bool) : ∀ n i, i < cnt f n → sel f n i < n ∧ f (sel f n i) = true ∧ cnt f (sel f n i) = i
  | 0, i, h => absurd h (by simp [cnt])
  | n + 1, i, h => by
    unfold sel
    by_cases e : f n = true ∧ cnt f n = i
    · rw [if_pos e]; exact ⟨by omega, e.1, e.2⟩
    · rw [if_neg e]
      have h2 : i < cnt f n := by
        rw [cnt] at h
        by_cases hf : f n = true
        · rw [if_pos hf] at h
          by_cases e2 : cnt f n = i
          · exact absurd ⟨hf, e2⟩ e
          · omega
        · rw [if_neg hf] at h; omega
      obtain ⟨a, b, c⟩ := sel_spec f n i h2
      exact ⟨by omega, b, c⟩
theorem cnt_inj (f : Nat → Bool) {s t : Nat} (hs : f s = true) (ht : f t = true) (h : cnt f s = cnt f t) : s = t := by
  rcases Nat.lt_trichotomy s t with e | e | e
  · have := cnt_lt f e hs; omega
  · exact e
  · have := cnt_lt f e ht; omega
theorem sel_cnt (f : Nat → Bool) {n s : Nat} (hs : s < n) (hf : f s = true) : sel f n (cnt f s) = s := by
  obtain ⟨a, b, c⟩ := sel_spec f n (cnt f s) (cnt_lt f hs hf)
  exact cnt_inj f b hf c
def allF (f : Nat → Bool) : Nat → Nat → Bool
  | _, 0 => true
  | t, r + 1 => f t && allF f (t + 1) r
theorem allF_iff {f : Nat → Bool} : ∀ r t, allF f t r = true ↔ ∀ i, t ≤ i → i < t + r → f i = true
  | 0, t => by
    simp only [allF, true_iff]
    intro i h1 h2
    omega
  | r + 1, t => by
    rw [allF, Bool.and_eq_true, allF_iff r (t + 1)]
    constructor
    · intro h i h1 h2
      by_cases e : i = t
      · subst e; exact h.1
      · exact h.2 i (by omega) (by omega)
    · intro h
      exact ⟨h t (by omega) (by omega), fun i h1 h2 => h i (by omega) (by omega)⟩
theorem allF_allB (f : Nat → Bool) (n : Nat) : allF f 0 n = allB f n := by
  have h1 := allF_iff (f := f) n 0
  have h2 := allB_iff (f := f) n
  cases ha : allF f 0 n <;> cases hb : allB f n
  · rfl
  · rw [hb] at h2; rw [ha] at h1
    exact absurd (h1.mpr (fun i _ hi => h2.mp rfl i (by omega))) (by decide)
  · rw [hb] at h2; rw [ha] at h1
    exact absurd (h2.mpr (fun i hi => h1.mp rfl i (by omega) (by omega))) (by decide)
  · rfl
def pPs (D : rD) (p s : Nat) : Bool := pIn D s && !pSt D p s
section PlS
variable {D : rD} {p : Nat}
def pG (D : rD) (p s u : Nat) : Bool := !pRe D p s u || (pIn D u && !pLv D p u && pRe D p u s)
theorem pl_stay_L (hD : rOk D) {s : Nat} (hs : s < D 0 0) {I : hI} (h : cR D I) (hC : plC D p I) : ∀ (r t fuel : Nat), t + r = D 0 0 → r < fuel → mPl_isStaying_L2 fuel (nI s) (nI t) I = some (bI (allF (pG D p s) t r)) := by
  have hn := hD.2.1
  intro r
  induction r with
  | zero =>
    intro t fuel ht hf
    obtain ⟨fuel, rfl⟩ : ∃ m, fuel = m + 1 := ⟨fuel - 1, by omega⟩
    unfold mPl_isStaying_L2 mPl_isStaying_B2
    rw [h.1]
    simp (disch := omega) only [↓reduceIte, h_let, hg_in, hg_zb, hg_z0, hg_z1, hg_nz, Option.bind_some, if_pos, if_neg, bI_0, bI_n0, nI_add, nI_mul, nI_ltI, nI_leI, nI_eq, nI_clamp, nI_subN, nI_divN, nI_mod2, nI_m1e, nI_em1, nI_m2e, nI_lt0, m1_lt0, m1_lt, m1_le, h_u_at, h_u_off2, h_u_pl, li_0, li_1, li_2, li_3, li_4, li_5, li_6, li_7, li_8, li_9, li_10, li_11, li_12, li_13, li_14, li_15, li_16, li_17, li_18, li_19, li_20, li_21, li_22, li_23, li_24, li_25, li_26, li_27, li_28, li_29, li_30, li_31, li_32, li_40, li_43, li_45, li_47, li_48, li_57, li_59, li_60, li_61, li_62, li_63, li_64, li_80, li_92, li_97, li_99, li_100, li_122, li_123, li_125, li_166, li_201, li_210, li_250, li_255, li_256, li_257, li_258, li_259, li_260, li_261, li_262, li_263, li_264, li_265, li_266, li_267, li_268, li_300, li_500, li_1000, li_12345, li_27720, li_1000000, li_1103515245, ne_m1, ne_m2]
    rfl
  | succ r ih =>
    intro t fuel ht hf
    obtain ⟨fuel, rfl⟩ : ∃ m, fuel = m + 1 := ⟨fuel - 1, by omega⟩
    have ein := ro_isIn hD h (s := t) (by omega)
    have e1 : decide (t < D 0 0 ∧ 0 < D 1 t) = pIn D t := by
      unfold pIn
      have : t < D 0 0 := by omega
      simp [this]
    rw [e1] at ein
    have b1 := bm_test (hC.1 s hs).1 hn (t := t) (by omega)
    have b2 := bm_test hC.2 hn (t := t) (by omega)
    have b3 := bm_test (hC.1 t (by omega)).1 hn hs
    have i1 := ih (t + 1) fuel (by omega) (by omega)
    unfold mPl_isStaying_L2 mPl_isStaying_B2 mPl_isStaying_31 mPl_isStaying_72
    rw [h.1, allF, pG]
    cases hR : pRe D p s t <;> cases hI : pIn D t <;> cases hL : pLv D p t <;> cases hR2 : pRe D p t s <;> rw [hR] at b1 <;> rw [hI] at ein <;> rw [hL] at b2 <;> rw [hR2] at b3 <;> (try rw [bI_t] at ein) <;> (try rw [bI_f] at ein) <;> simp (disch := omega) only [↓reduceIte, h_let, hg_in, hg_zb, hg_z0, hg_z1, hg_nz, Option.bind_some, if_pos, if_neg, bI_0, bI_n0, nI_add, nI_mul, nI_ltI, nI_leI, nI_eq, nI_clamp, nI_subN, nI_divN, nI_mod2, nI_m1e, nI_em1, nI_m2e, nI_lt0, m1_lt0, m1_lt, m1_le, h_u_at, h_u_off2, h_u_pl, li_0, li_1, li_2, li_3, li_4, li_5, li_6, li_7, li_8, li_9, li_10, li_11, li_12, li_13, li_14, li_15, li_16, li_17, li_18, li_19, li_20, li_21, li_22, li_23, li_24, li_25, li_26, li_27, li_28, li_29, li_30, li_31, li_32, li_40, li_43, li_45, li_47, li_48, li_57, li_59, li_60, li_61, li_62, li_63, li_64, li_80, li_92, li_97, li_99, li_100, li_122, li_123, li_125, li_166, li_201, li_210, li_250, li_255, li_256, li_257, li_258, li_259, li_260, li_261, li_262, li_263, li_264, li_265, li_266, li_267, li_268, li_300, li_500, li_1000, li_12345, li_27720, li_1000000, li_1103515245, ne_m1, ne_m2, ein, b1, b2, b3, i1] <;> rfl
theorem pl_isStaying (hD : rOk D) {s : Nat} (hs : s < D 0 0) {I : hI} (h : cR D I) (hC : plC D p I) (hin : pIn D s = true) : mPl_isStaying (nI s) I = some (bI (pSt D p s)) := by
  have hn := hD.2.1
  unfold mPl_isStaying
  have i1 := pl_stay_L hD hs h hC (D 0 0) 0 hF (by omega) (by unfold hF; omega)
  rw [li_0, i1]
  congr 2
  unfold pSt
  rw [hin, Bool.true_and]
  exact allF_allB _ _
theorem plC_of {I I' : hI} (h : plC D p I) (h1 : ∀ i, I' 18 i = I 18 i) (h2 : ∀ i, I' 17 i = I 17 i) (h3 : I' 13 9 = I 13 9) : plC D p I' := by
  unfold plC at h ⊢
  simp only [h1, h2, h3]
  exact h
theorem pl_find_L (hD : rOk D) : ∀ (r s fuel : Nat) (I : hI), s + r = D 0 0 → r < fuel → cR D I → plC D p I → bm (I 13 10) (D 0 0) (fun u => decide (u < s) && pSt D p u) → ∃ I' : hI, mPl_findStaying_L7 fuel (nI s) I = some I' ∧ (∀ a i, (a ≠ 13 ∨ i ≠ 10) → I' a i = I a i) ∧ bm (I' 13 10) (D 0 0) (pSt D p) := by
  have hn := hD.2.1
  intro r
  induction r with
  | zero =>
    intro s fuel I hs hf h hC hb
    obtain ⟨fuel, rfl⟩ : ∃ m, fuel = m + 1 := ⟨fuel - 1, by omega⟩
    unfold mPl_findStaying_L7 mPl_findStaying_B7
    rw [h.1]
    simp (disch := omega) only [↓reduceIte, h_let, hg_in, hg_zb, hg_z0, hg_z1, hg_nz, Option.bind_some, if_pos, if_neg, bI_0, bI_n0, nI_add, nI_mul, nI_ltI, nI_leI, nI_eq, nI_clamp, nI_subN, nI_divN, nI_mod2, nI_m1e, nI_em1, nI_m2e, nI_lt0, m1_lt0, m1_lt, m1_le, h_u_at, h_u_off2, h_u_pl, li_0, li_1, li_2, li_3, li_4, li_5, li_6, li_7, li_8, li_9, li_10, li_11, li_12, li_13, li_14, li_15, li_16, li_17, li_18, li_19, li_20, li_21, li_22, li_23, li_24, li_25, li_26, li_27, li_28, li_29, li_30, li_31, li_32, li_40, li_43, li_45, li_47, li_48, li_57, li_59, li_60, li_61, li_62, li_63, li_64, li_80, li_92, li_97, li_99, li_100, li_122, li_123, li_125, li_166, li_201, li_210, li_250, li_255, li_256, li_257, li_258, li_259, li_260, li_261, li_262, li_263, li_264, li_265, li_266, li_267, li_268, li_300, li_500, li_1000, li_12345, li_27720, li_1000000, li_1103515245, ne_m1, ne_m2]
    exact ⟨I, rfl, fun _ _ _ => rfl, bm_congr hb (fun u hu => by have : u < s := by omega
                                                                 simp [this])⟩
  | succ r ih =>
    intro s fuel I hs hf h hC hb
    obtain ⟨fuel, rfl⟩ : ∃ m, fuel = m + 1 := ⟨fuel - 1, by omega⟩
    have ein := ro_isIn hD h (s := s) (by omega)
    have e1 : decide (s < D 0 0 ∧ 0 < D 1 s) = pIn D s := by
      unfold pIn
      have : s < D 0 0 := by omega
      simp [this]
    rw [e1] at ein
    have same : pSt D p s = false → ∃ I' : hI, mPl_findStaying_L7 fuel (nI (s + 1)) I = some I' ∧ (∀ a i, (a ≠ 13 ∨ i ≠ 10) → I' a i = I a i) ∧ bm (I' 13 10) (D 0 0) (pSt D p) := fun hst => ih (s + 1) fuel I (by omega) (by omega) h hC (bm_congr hb (fun u hu => by
        by_cases e : u = s
        · subst e; simp [hst]
        · by_cases e2 : u < s
          · have : u < s + 1 := by omega
            simp [e2, this]
          · have : ¬ u < s + 1 := by omega
            simp [e2, this]))
    unfold mPl_findStaying_L7 mPl_findStaying_B7
    rw [h.1]
    cases hin : pIn D s
    · rw [hin, bI_f] at ein
      have s1 := same (by simp [pSt, hin])
      simp (disch := omega) only [↓reduceIte, h_let, hg_in, hg_zb, hg_z0, hg_z1, hg_nz, Option.bind_some, if_pos, if_neg, bI_0, bI_n0, nI_add, nI_mul, nI_ltI, nI_leI, nI_eq, nI_clamp, nI_subN, nI_divN, nI_mod2, nI_m1e, nI_em1, nI_m2e, nI_lt0, m1_lt0, m1_lt, m1_le, h_u_at, h_u_off2, h_u_pl, li_0, li_1, li_2, li_3, li_4, li_5, li_6, li_7, li_8, li_9, li_10, li_11, li_12, li_13, li_14, li_15, li_16, li_17, li_18, li_19, li_20, li_21, li_22, li_23, li_24, li_25, li_26, li_27, li_28, li_29, li_30, li_31, li_32, li_40, li_43, li_45, li_47, li_48, li_57, li_59, li_60, li_61, li_62, li_63, li_64, li_80, li_92, li_97, li_99, li_100, li_122, li_123, li_125, li_166, li_201, li_210, li_250, li_255, li_256, li_257, li_258, li_259, li_260, li_261, li_262, li_263, li_264, li_265, li_266, li_267, li_268, li_300, li_500, li_1000, li_12345, li_27720, li_1000000, li_1103515245, ne_m1, ne_m2, ein]
      exact s1
    · rw [hin, bI_t] at ein
      have est := pl_isStaying hD (p := p) (s := s) (by omega) h hC hin
      cases hst : pSt D p s
      · rw [hst, bI_f] at est
        have s1 := same hst
        simp (disch := omega) only [↓reduceIte, h_let, hg_in, hg_zb, hg_z0, hg_z1, hg_nz, Option.bind_some, if_pos, if_neg, bI_0, bI_n0, nI_add, nI_mul, nI_ltI, nI_leI, nI_eq, nI_clamp, nI_subN, nI_divN, nI_mod2, nI_m1e, nI_em1, nI_m2e, nI_lt0, m1_lt0, m1_lt, m1_le, h_u_at, h_u_off2, h_u_pl, li_0, li_1, li_2, li_3, li_4, li_5, li_6, li_7, li_8, li_9, li_10, li_11, li_12, li_13, li_14, li_15, li_16, li_17, li_18, li_19, li_20, li_21, li_22, li_23, li_24, li_25, li_26, li_27, li_28, li_29, li_30, li_31, li_32, li_40, li_43, li_45, li_47, li_48, li_57, li_59, li_60, li_61, li_62, li_63, li_64, li_80, li_92, li_97, li_99, li_100, li_122, li_123, li_125, li_166, li_201, li_210, li_250, li_255, li_256, li_257, li_258, li_259, li_260, li_261, li_262, li_263, li_264, li_265, li_266, li_267, li_268, li_300, li_500, li_1000, li_12345, li_27720, li_1000000, li_1103515245, ne_m1, ne_m2, ein, est]
        exact s1
      · rw [hst, bI_t] at est
        obtain ⟨I', a1, a2, a3⟩ := ih (s + 1) fuel (h_u I 13 10 (I 13 10 ||| (nI 1 <<< (nI s &&& nI 31)))) (by omega) (by omega) (cR_of h (fun c i h1 h2 => h_u_off2 _ _ _ _ (by omega))) (plC_of hC (fun i => h_u_off2 _ _ _ _ (by decide)) (fun i => h_u_off2 _ _ _ _ (by decide)) (h_u_pl _ _ _ (by decide))) (by
          rw [h_u_at]
          refine bm_congr (bm_or hb (bm_bit (by omega) hn)) (fun u hu => ?_)
          by_cases e : u = s
          · subst e; simp [hst]
          · by_cases e2 : u < s
            · have : u < s + 1 := by omega
              simp [e, e2, this]
            · have : ¬ u < s + 1 := by omega
              simp [e, e2, this])
        simp (disch := omega) only [↓reduceIte, h_let, hg_in, hg_zb, hg_z0, hg_z1, hg_nz, Option.bind_some, if_pos, if_neg, bI_0, bI_n0, nI_add, nI_mul, nI_ltI, nI_leI, nI_eq, nI_clamp, nI_subN, nI_divN, nI_mod2, nI_m1e, nI_em1, nI_m2e, nI_lt0, m1_lt0, m1_lt, m1_le, h_u_at, h_u_off2, h_u_pl, li_0, li_1, li_2, li_3, li_4, li_5, li_6, li_7, li_8, li_9, li_10, li_11, li_12, li_13, li_14, li_15, li_16, li_17, li_18, li_19, li_20, li_21, li_22, li_23, li_24, li_25, li_26, li_27, li_28, li_29, li_30, li_31, li_32, li_40, li_43, li_45, li_47, li_48, li_57, li_59, li_60, li_61, li_62, li_63, li_64, li_80, li_92, li_97, li_99, li_100, li_122, li_123, li_125, li_166, li_201, li_210, li_250, li_255, li_256, li_257, li_258, li_259, li_260, li_261, li_262, li_263, li_264, li_265, li_266, li_267, li_268, li_300, li_500, li_1000, li_12345, li_27720, li_1000000, li_1103515245, ne_m1, ne_m2, ein, est, a1]
        refine ⟨I', rfl, fun a i hne => ?_, a3⟩
        rw [a2 a i hne]
        rcases hne with hne | hne
        · exact h_u_off2 _ _ _ _ hne
        · by_cases e : a = 13
          · subst e; exact h_u_pl _ _ _ hne
          · exact h_u_off2 _ _ _ _ e
theorem pl_findStaying (hD : rOk D) {I : hI} (h : cR D I) (hC : plC D p I) : ∃ I' : hI, mPl_findStaying I = some I' ∧ (∀ a i, (a ≠ 13 ∨ i ≠ 10) → I' a i = I a i) ∧ bm (I' 13 10) (D 0 0) (pSt D p) := by
  have hn := hD.2.1
  obtain ⟨I', a1, a2, a3⟩ := pl_find_L hD (p := p) (D 0 0) 0 hF (h_u I 13 10 (nI 0)) (by omega) (by unfold hF; omega) (cR_of h (fun c i h1 h2 => h_u_off2 _ _ _ _ (by omega))) (plC_of hC (fun i => h_u_off2 _ _ _ _ (by decide)) (fun i => h_u_off2 _ _ _ _ (by decide)) (h_u_pl _ _ _ (by decide))) (by rw [h_u_at]; exact bm_congr (bm_zero _) (fun u hu => by simp))
  unfold mPl_findStaying
  simp (disch := omega) only [↓reduceIte, h_let, hg_in, hg_zb, hg_z0, hg_z1, hg_nz, Option.bind_some, if_pos, if_neg, bI_0, bI_n0, nI_add, nI_mul, nI_ltI, nI_leI, nI_eq, nI_clamp, nI_subN, nI_divN, nI_mod2, nI_m1e, nI_em1, nI_m2e, nI_lt0, m1_lt0, m1_lt, m1_le, h_u_at, h_u_off2, h_u_pl, li_0, li_1, li_2, li_3, li_4, li_5, li_6, li_7, li_8, li_9, li_10, li_11, li_12, li_13, li_14, li_15, li_16, li_17, li_18, li_19, li_20, li_21, li_22, li_23, li_24, li_25, li_26, li_27, li_28, li_29, li_30, li_31, li_32, li_40, li_43, li_45, li_47, li_48, li_57, li_59, li_60, li_61, li_62, li_63, li_64, li_80, li_92, li_97, li_99, li_100, li_122, li_123, li_125, li_166, li_201, li_210, li_250, li_255, li_256, li_257, li_258, li_259, li_260, li_261, li_262, li_263, li_264, li_265, li_266, li_267, li_268, li_300, li_500, li_1000, li_12345, li_27720, li_1000000, li_1103515245, ne_m1, ne_m2, a1]
  refine ⟨I', rfl, fun a i hne => ?_, a3⟩
  rw [a2 a i hne]
  rcases hne with hne | hne
  · exact h_u_off2 _ _ _ _ hne
  · by_cases e : a = 13
    · subst e; exact h_u_pl _ _ _ hne
    · exact h_u_off2 _ _ _ _ e
end PlS
