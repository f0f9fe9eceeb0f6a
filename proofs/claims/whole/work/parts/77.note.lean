/-! What is kept of all plans: the class's side. -/
def anyF (f : Nat → Bool) : Nat → Nat → Bool
  | _, 0 => false
  | t, r + 1 => f t || anyF f (t + 1) r
def pEn (D : rD) (p s : Nat) : Bool := anyF (fun t => pRe D p s t && pSt D p t && decide (0 < D 3 (pSl D p t))) 0 (D 0 0)
/-- a plan's answers, as they come out of the equations: paid (w) or the odds -/
def rU (D : rD) (w : Bool) (p s : Nat) : Int := if w = true then (if pEn D p s = true then 1 else if pPs D p s = true then gS D p (pPs D p) (cnt (pPs D p) s) 20 else 0) else (if pPs D p s = true then gS D p (pPs D p) (cnt (pPs D p) s) 21 else if pIn D s = true then 0 else 1)
def rL (D : rD) (w : Bool) (p s : Nat) : Int := if w = true ∧ pEn D p s = true then 0 else if pPs D p s = true then gD D p (pPs D p) else 1
/-- in lowest terms -/
def qU (D : rD) (w : Bool) (p s : Nat) : Int := rdU (rU D w p s) (rL D w p s)
def qL (D : rD) (w : Bool) (p s : Nat) : Int := rdL (rU D w p s) (rL D w p s)
def lessQ (D : rD) (w : Bool) (a b s : Nat) : Prop := qU D w a s * qL D w b s < qU D w b s * qL D w a s
def bpF (D : rD) (w q : Bool) (s : Nat) : Nat → Nat
  | 0 => 0
  | k + 1 => if q = true then (if qU D w (bpF D w q s k) s * qL D w (k + 1) s < qU D w (k + 1) s * qL D w (bpF D w q s k) s then k + 1 else bpF D w q s k) else (if qU D w (k + 1) s * qL D w (bpF D w q s k) s < qU D w (bpF D w q s k) s * qL D w (k + 1) s then k + 1 else bpF D w q s k)
theorem bpF_le (D : rD) (w q : Bool) (s : Nat) : ∀ k, bpF D w q s k ≤ k
  | 0 => Nat.le_refl _
  | k + 1 => by
    have := bpF_le D w q s k
    unfold bpF
    split <;> split <;> omega
section Nt
variable {D : rD} {p : Nat}
theorem hfPs : ∀ u, pPs D p u = true → pIn D u = true := fun u hu => by unfold pPs at hu; rw [Bool.and_eq_true] at hu; exact hu.1
theorem gS_le (hD : rOk D) {i b : Nat} (hi : i < cnt (pPs D p) (D 0 0)) (hb : b = 20 ∨ b = 21) : - 5033164800 ≤ gS D p (pPs D p) i b ∧ gS D p (pPs D p) i b ≤ 5033164800 := by
  have hn := hD.2.1
  have hm := cnt_le (pPs D p) (D 0 0)
  unfold gS
  rw [rsN_map]
  have h := minor_le (p := p) hD hfPs hb (csN (cnt (pPs D p) (D 0 0))) ((csN (cnt (pPs D p) (D 0 0))).set (cnt (pPs D p) (D 0 0) - 1 - i) b) (fun x hx => (csN_mem _ x).mp hx) (by simp) (fun c hc => by
    rcases List.mem_or_eq_of_mem_set hc with e | e
    · exact Or.inl ((csN_mem _ c).mp e)
    · exact Or.inr e) (by simp [csN_len]; omega)
  have hc := minor_cap (k := ((csN (cnt (pPs D p) (D 0 0))).set (cnt (pPs D p) (D 0 0) - 1 - i) b).length) (by simp [csN_len]; omega)
  omega
theorem gD_le (hD : rOk D) : 0 < gD D p (pPs D p) ∧ gD D p (pPs D p) ≤ 1048576 := ⟨eq_pos hD (fun _ h => h) _ (Nat.le_refl _), lead_le hD hfPs (Nat.le_refl _)⟩
theorem rUL_bd (hD : rOk D) (w : Bool) {s : Nat} (hs : s < D 0 0) : (- 5033164800 ≤ rU D w p s ∧ rU D w p s ≤ 5033164800) ∧ (0 ≤ rL D w p s ∧ rL D w p s ≤ 1048576) := by
  have h1 := gD_le (p := p) hD
  have h2 : pPs D p s = true → (- 5033164800 ≤ gS D p (pPs D p) (cnt (pPs D p) s) 20 ∧ gS D p (pPs D p) (cnt (pPs D p) s) 20 ≤ 5033164800) ∧ (- 5033164800 ≤ gS D p (pPs D p) (cnt (pPs D p) s) 21 ∧ gS D p (pPs D p) (cnt (pPs D p) s) 21 ≤ 5033164800) := fun h => ⟨gS_le hD (cnt_lt _ hs h) (Or.inl rfl), gS_le hD (cnt_lt _ hs h) (Or.inr rfl)⟩
  unfold rU rL
  constructor
  · by_cases e : pPs D p s = true
    · have := h2 e
      split
      · split
        · omega
        · exact this.1
      · exact this.2
    · split
      · split
        · omega
        · omega
      · split <;> omega
  · split
    · omega
    · split <;> omega
theorem rUL_nz (hD : rOk D) (w : Bool) (s : Nat) : 0 < gcI (rU D w p s) (rL D w p s) := by
  unfold gcI
  have h : 0 < Nat.gcd (rU D w p s).natAbs (rL D w p s).natAbs := by
    by_cases e : w = true ∧ pEn D p s = true
    · have e1 : rU D w p s = 1 := by unfold rU; rw [if_pos e.1, if_pos e.2]
      rw [e1]
      exact Nat.gcd_pos_of_pos_left _ (by decide)
    · have e1 : 0 < rL D w p s := by
        have h1 := gD_le (p := p) hD
        unfold rL
        rw [if_neg e]
        split <;> omega
      exact Nat.gcd_pos_of_pos_right _ (by omega)
  omega
theorem qUL_bd (hD : rOk D) (w : Bool) {s : Nat} (hs : s < D 0 0) : (- 5033164800 ≤ qU D w p s ∧ qU D w p s ≤ 5033164800) ∧ (0 ≤ qL D w p s ∧ qL D w p s ≤ 1048576) := by
  have h1 := rUL_bd (p := p) hD w hs
  have h2 := rd_abs (rU D w p s) (rL D w p s)
  have h3 := rUL_nz (p := p) hD w s
  have e1 : (qU D w p s).natAbs ≤ (rU D w p s).natAbs := h2.1
  have e2 : (qL D w p s).natAbs ≤ (rL D w p s).natAbs := h2.2
  have e3 : 0 ≤ qL D w p s := by
    unfold qL rdL
    exact Int.tdiv_nonneg h1.2.1 (by omega)
  omega
theorem qprod {a b c d : Int} (ha : - 5033164800 ≤ a ∧ a ≤ 5033164800) (hb : 0 ≤ b ∧ b ≤ 1048576) : - 2 ^ 62 < a * b ∧ a * b < 2 ^ 62 := by
  have h : (a * b).natAbs ≤ 5033164800 * 1048576 := by
    rw [Int.natAbs_mul]
    exact Nat.mul_le_mul (by omega) (by omega)
  omega
theorem pl_end_L (hD : rOk D) {I : hI} (h : cR D I) (hC : plC D p I) (hst : bm (I 13 10) (D 0 0) (pSt D p)) {s : Nat} {x : Int32} (hx : bm x (D 0 0) (fun t => pRe D p s t && pSt D p t)) : ∀ (r t fuel : Nat), t + r = D 0 0 → r < fuel → mPl_isEndless_L27 fuel x (nI t) I = some (bI (anyF (fun t => pRe D p s t && pSt D p t && decide (0 < D 3 (pSl D p t))) t r)) := by
  have hn := hD.2.1
  intro r
  induction r with
  | zero =>
    intro t fuel ht hf
    obtain ⟨fuel, rfl⟩ : ∃ m, fuel = m + 1 := ⟨fuel - 1, by omega⟩
    unfold mPl_isEndless_L27 mPl_isEndless_B27
    rw [h.1]
    simp (disch := omega) only [↓reduceIte, h_let, hg_in, hg_zb, hg_z0, hg_z1, hg_nz, Option.bind_some, if_pos, if_neg, bI_0, bI_n0, nI_add, nI_mul, nI_ltI, nI_leI, nI_eq, nI_clamp, nI_subN, nI_divN, nI_mod2, nI_m1e, nI_em1, nI_m2e, nI_lt0, m1_lt0, m1_lt, m1_le, h_u_at, h_u_off2, h_u_pl, li_0, li_1, li_2, li_3, li_4, li_5, li_6, li_7, li_8, li_9, li_10, li_11, li_12, li_13, li_14, li_15, li_16, li_17, li_18, li_19, li_20, li_21, li_22, li_23, li_24, li_25, li_26, li_27, li_28, li_29, li_30, li_31, li_32, li_40, li_43, li_45, li_47, li_48, li_57, li_59, li_60, li_61, li_62, li_63, li_64, li_80, li_92, li_97, li_99, li_100, li_122, li_123, li_125, li_166, li_201, li_210, li_250, li_255, li_256, li_257, li_258, li_259, li_260, li_261, li_262, li_263, li_264, li_265, li_266, li_267, li_268, li_300, li_500, li_1000, li_12345, li_27720, li_1000000, li_1103515245, ne_m1, ne_m2]
    rfl
  | succ r ih =>
    intro t fuel ht hf
    obtain ⟨fuel, rfl⟩ : ∃ m, fuel = m + 1 := ⟨fuel - 1, by omega⟩
    have b1 := bm_test hx hn (t := t) (by omega)
    have i1 := ih (t + 1) fuel (by omega) (by omega)
    unfold mPl_isEndless_L27 mPl_isEndless_B27
    rw [h.1, anyF]
    cases hc : (pRe D p s t && pSt D p t)
    · simp only [hc] at b1
      rw [Bool.false_and, Bool.false_or]
      simp (disch := omega) only [↓reduceIte, h_let, hg_in, hg_zb, hg_z0, hg_z1, hg_nz, Option.bind_some, if_pos, if_neg, bI_0, bI_n0, nI_add, nI_mul, nI_ltI, nI_leI, nI_eq, nI_clamp, nI_subN, nI_divN, nI_mod2, nI_m1e, nI_em1, nI_m2e, nI_lt0, m1_lt0, m1_lt, m1_le, h_u_at, h_u_off2, h_u_pl, li_0, li_1, li_2, li_3, li_4, li_5, li_6, li_7, li_8, li_9, li_10, li_11, li_12, li_13, li_14, li_15, li_16, li_17, li_18, li_19, li_20, li_21, li_22, li_23, li_24, li_25, li_26, li_27, li_28, li_29, li_30, li_31, li_32, li_40, li_43, li_45, li_47, li_48, li_57, li_59, li_60, li_61, li_62, li_63, li_64, li_80, li_92, li_97, li_99, li_100, li_122, li_123, li_125, li_166, li_201, li_210, li_250, li_255, li_256, li_257, li_258, li_259, li_260, li_261, li_262, li_263, li_264, li_265, li_266, li_267, li_268, li_300, li_500, li_1000, li_12345, li_27720, li_1000000, li_1103515245, ne_m1, ne_m2, b1, i1]
    · simp only [hc] at b1
      rw [Bool.true_and]
      have hin : pIn D t = true := by
        have : pSt D p t = true := (Bool.and_eq_true _ _ ▸ hc).2
        unfold pSt at this
        rw [Bool.and_eq_true] at this
        exact this.1
      have hi : 0 < D 1 t := by simpa [pIn] using hin
      have hcl := pCh_lt (D := D) (p := p) hi
      have h8 := hD.2.2.2.1 t (by omega)
      have hsl := (hC.1 t (by omega)).2 hin
      obtain ⟨_, d3, _⟩ := hD.2.2.2.2 t (by omega) _ hcl
      obtain ⟨_, e3, _⟩ := h.2.2.2.2.2 t (by omega) _ hcl
      have e9 : 8 * t + pCh D p t = pSl D p t := rfl
      rw [e9] at d3 e3
      have hps : pSl D p t < 80 := by unfold pSl; omega
      have hz2 : ¬ ((true : Bool) = false) := by decide
      by_cases hz : 0 < D 3 (pSl D p t)
      · have : decide (0 < D 3 (pSl D p t)) = true := by simpa using hz
        rw [this, Bool.true_or]
        simp (disch := omega) only [↓reduceIte, h_let, hg_in, hg_zb, hg_z0, hg_z1, hg_nz, Option.bind_some, if_pos, if_neg, bI_0, bI_n0, nI_add, nI_mul, nI_ltI, nI_leI, nI_eq, nI_clamp, nI_subN, nI_divN, nI_mod2, nI_m1e, nI_em1, nI_m2e, nI_lt0, m1_lt0, m1_lt, m1_le, h_u_at, h_u_off2, h_u_pl, li_0, li_1, li_2, li_3, li_4, li_5, li_6, li_7, li_8, li_9, li_10, li_11, li_12, li_13, li_14, li_15, li_16, li_17, li_18, li_19, li_20, li_21, li_22, li_23, li_24, li_25, li_26, li_27, li_28, li_29, li_30, li_31, li_32, li_40, li_43, li_45, li_47, li_48, li_57, li_59, li_60, li_61, li_62, li_63, li_64, li_80, li_92, li_97, li_99, li_100, li_122, li_123, li_125, li_166, li_201, li_210, li_250, li_255, li_256, li_257, li_258, li_259, li_260, li_261, li_262, li_263, li_264, li_265, li_266, li_267, li_268, li_300, li_500, li_1000, li_12345, li_27720, li_1000000, li_1103515245, ne_m1, ne_m2, b1, hz2, hsl, e3]
        rfl
      · have : decide (0 < D 3 (pSl D p t)) = false := by simpa using hz
        rw [this, Bool.false_or]
        simp (disch := omega) only [↓reduceIte, h_let, hg_in, hg_zb, hg_z0, hg_z1, hg_nz, Option.bind_some, if_pos, if_neg, bI_0, bI_n0, nI_add, nI_mul, nI_ltI, nI_leI, nI_eq, nI_clamp, nI_subN, nI_divN, nI_mod2, nI_m1e, nI_em1, nI_m2e, nI_lt0, m1_lt0, m1_lt, m1_le, h_u_at, h_u_off2, h_u_pl, li_0, li_1, li_2, li_3, li_4, li_5, li_6, li_7, li_8, li_9, li_10, li_11, li_12, li_13, li_14, li_15, li_16, li_17, li_18, li_19, li_20, li_21, li_22, li_23, li_24, li_25, li_26, li_27, li_28, li_29, li_30, li_31, li_32, li_40, li_43, li_45, li_47, li_48, li_57, li_59, li_60, li_61, li_62, li_63, li_64, li_80, li_92, li_97, li_99, li_100, li_122, li_123, li_125, li_166, li_201, li_210, li_250, li_255, li_256, li_257, li_258, li_259, li_260, li_261, li_262, li_263, li_264, li_265, li_266, li_267, li_268, li_300, li_500, li_1000, li_12345, li_27720, li_1000000, li_1103515245, ne_m1, ne_m2, b1, hz2, hsl, e3, i1]
theorem pl_isEndless (hD : rOk D) {I : hI} (h : cR D I) (hC : plC D p I) (hst : bm (I 13 10) (D 0 0) (pSt D p)) {s : Nat} (hs : s < D 0 0) : mPl_isEndless (nI s) I = some (bI (pEn D p s)) := by
  have hn := hD.2.1
  have hx := bm_and (hC.1 s hs).1 hst
  have i1 := pl_end_L hD h hC hst hx (D 0 0) 0 hF (by omega) (by unfold hF; omega)
  have ho : mC_isOutside (nI s) (nI 10) = nI 0 := by
    unfold mC_isOutside
    simp (disch := omega) only [↓reduceIte, h_let, hg_in, hg_zb, hg_z0, hg_z1, hg_nz, Option.bind_some, if_pos, if_neg, bI_0, bI_n0, nI_add, nI_mul, nI_ltI, nI_leI, nI_eq, nI_clamp, nI_subN, nI_divN, nI_mod2, nI_m1e, nI_em1, nI_m2e, nI_lt0, m1_lt0, m1_lt, m1_le, h_u_at, h_u_off2, h_u_pl, li_0, li_1, li_2, li_3, li_4, li_5, li_6, li_7, li_8, li_9, li_10, li_11, li_12, li_13, li_14, li_15, li_16, li_17, li_18, li_19, li_20, li_21, li_22, li_23, li_24, li_25, li_26, li_27, li_28, li_29, li_30, li_31, li_32, li_40, li_43, li_45, li_47, li_48, li_57, li_59, li_60, li_61, li_62, li_63, li_64, li_80, li_92, li_97, li_99, li_100, li_122, li_123, li_125, li_166, li_201, li_210, li_250, li_255, li_256, li_257, li_258, li_259, li_260, li_261, li_262, li_263, li_264, li_265, li_266, li_267, li_268, li_300, li_500, li_1000, li_12345, li_27720, li_1000000, li_1103515245, ne_m1, ne_m2]
  unfold mPl_isEndless
  simp (disch := omega) only [↓reduceIte, h_let, hg_in, hg_zb, hg_z0, hg_z1, hg_nz, Option.bind_some, if_pos, if_neg, bI_0, bI_n0, nI_add, nI_mul, nI_ltI, nI_leI, nI_eq, nI_clamp, nI_subN, nI_divN, nI_mod2, nI_m1e, nI_em1, nI_m2e, nI_lt0, m1_lt0, m1_lt, m1_le, h_u_at, h_u_off2, h_u_pl, li_0, li_1, li_2, li_3, li_4, li_5, li_6, li_7, li_8, li_9, li_10, li_11, li_12, li_13, li_14, li_15, li_16, li_17, li_18, li_19, li_20, li_21, li_22, li_23, li_24, li_25, li_26, li_27, li_28, li_29, li_30, li_31, li_32, li_40, li_43, li_45, li_47, li_48, li_57, li_59, li_60, li_61, li_62, li_63, li_64, li_80, li_92, li_97, li_99, li_100, li_122, li_123, li_125, li_166, li_201, li_210, li_250, li_255, li_256, li_257, li_258, li_259, li_260, li_261, li_262, li_263, li_264, li_265, li_266, li_267, li_268, li_300, li_500, li_1000, li_12345, li_27720, li_1000000, li_1103515245, ne_m1, ne_m2, ho, i1]
  rfl
/-- the two places of an answer behind plan k -/
def ntOk (D : rD) (w : Bool) (k s : Nat) (I : hI) (J : hJ) : Prop := ∀ q : Bool, J 14 ((if w = true then 0 else 20) + (if q = true then 10 else 0) + s) = lI (qU D w (bpF D w q s k) s) ∧ J 15 ((if w = true then 0 else 20) + (if q = true then 10 else 0) + s) = lI (qL D w (bpF D w q s k) s) ∧ I 16 ((if w = true then 0 else 20) + (if q = true then 10 else 0) + s) = nI (bpF D w q s k)
theorem pl_keep {x k : Nat} (hx : x < 40) (u l : Int64) (I : hI) (J : hJ) : mPl_keep (nI x) (nI k) u l I J = some (h_u I 16 x (nI k), h_u (h_u J 14 x u) 15 x l) := by
  have ho : mC_isOutside (nI x) (nI 40) = nI 0 := by
    unfold mC_isOutside
    simp (disch := omega) only [↓reduceIte, h_let, hg_in, hg_zb, hg_z0, hg_z1, hg_nz, Option.bind_some, if_pos, if_neg, bI_0, bI_n0, nI_add, nI_mul, nI_ltI, nI_leI, nI_eq, nI_clamp, nI_subN, nI_divN, nI_mod2, nI_m1e, nI_em1, nI_m2e, nI_lt0, m1_lt0, m1_lt, m1_le, h_u_at, h_u_off2, h_u_pl, li_0, li_1, li_2, li_3, li_4, li_5, li_6, li_7, li_8, li_9, li_10, li_11, li_12, li_13, li_14, li_15, li_16, li_17, li_18, li_19, li_20, li_21, li_22, li_23, li_24, li_25, li_26, li_27, li_28, li_29, li_30, li_31, li_32, li_40, li_43, li_45, li_47, li_48, li_57, li_59, li_60, li_61, li_62, li_63, li_64, li_80, li_92, li_97, li_99, li_100, li_122, li_123, li_125, li_166, li_201, li_210, li_250, li_255, li_256, li_257, li_258, li_259, li_260, li_261, li_262, li_263, li_264, li_265, li_266, li_267, li_268, li_300, li_500, li_1000, li_12345, li_27720, li_1000000, li_1103515245, ne_m1, ne_m2]
  unfold mPl_keep
  simp (disch := omega) only [↓reduceIte, h_let, hg_in, hg_zb, hg_z0, hg_z1, hg_nz, Option.bind_some, if_pos, if_neg, bI_0, bI_n0, nI_add, nI_mul, nI_ltI, nI_leI, nI_eq, nI_clamp, nI_subN, nI_divN, nI_mod2, nI_m1e, nI_em1, nI_m2e, nI_lt0, m1_lt0, m1_lt, m1_le, h_u_at, h_u_off2, h_u_pl, li_0, li_1, li_2, li_3, li_4, li_5, li_6, li_7, li_8, li_9, li_10, li_11, li_12, li_13, li_14, li_15, li_16, li_17, li_18, li_19, li_20, li_21, li_22, li_23, li_24, li_25, li_26, li_27, li_28, li_29, li_30, li_31, li_32, li_40, li_43, li_45, li_47, li_48, li_57, li_59, li_60, li_61, li_62, li_63, li_64, li_80, li_92, li_97, li_99, li_100, li_122, li_123, li_125, li_166, li_201, li_210, li_250, li_255, li_256, li_257, li_258, li_259, li_260, li_261, li_262, li_263, li_264, li_265, li_266, li_267, li_268, li_300, li_500, li_1000, li_12345, li_27720, li_1000000, li_1103515245, ne_m1, ne_m2, ho]
theorem pl_noteAnswer (hD : rOk D) (w : Bool) {k s : Nat} (hs : s < D 0 0) (hk : k < 64) {I : hI} {J : hJ} (hpre : 0 < k → ntOk D w (k - 1) s I J) : ∃ (I' : hI) (J' : hJ), mPl_noteAnswer (nI (if w = true then 0 else 2)) (nI k) (nI s) (lI (rU D w k s)) (lI (rL D w k s)) I J = some (I', J') ∧ (∀ a i, (a ≠ 16 ∨ (i ≠ (if w = true then 0 else 20) + s ∧ i ≠ (if w = true then 0 else 20) + 10 + s)) → I' a i = I a i) ∧ (∀ a i, ((a ≠ 14 ∧ a ≠ 15) ∨ (i ≠ (if w = true then 0 else 20) + s ∧ i ≠ (if w = true then 0 else 20) + 10 + s)) → J' a i = J a i) ∧ ntOk D w k s I' J' := by
  have hn := hD.2.1
  have hb := rUL_bd (p := k) hD w hs
  have hg := rUL_nz (p := k) hD w s
  have hq := qUL_bd (p := k) hD w hs
  have hgl : gcI (rU D w k s) (rL D w k s) ≤ 5033164800 := by
    by_cases e : rL D w k s = 0
    · unfold gcI
      rw [e]
      simp
      omega
    · have := gcI_le (a := rU D w k s) e
      omega
  have edv := c_divisor (a := rU D w k s) (b := rL D w k s) (by omega) (by omega) (by omega) (by omega)
  have eg : lN (Nat.gcd (rU D w k s).natAbs (rL D w k s).natAbs) = lI (gcI (rU D w k s) (rL D w k s)) := rfl
  rw [eg] at edv
  have eU : lI (rU D w k s) / lI (gcI (rU D w k s) (rL D w k s)) = lI (qU D w k s) := lI_div (by omega) (by omega) (by omega) (by omega)
  have eL : lI (rL D w k s) / lI (gcI (rU D w k s) (rL D w k s)) = lI (qL D w k s) := lI_div (by omega) (by omega) (by omega) (by omega)
  have hgz : ¬ (lI (gcI (rU D w k s) (rL D w k s)) = (0 : Int64)) := fun e => by
    have := (lI_eq (b := 0) (by omega) (by omega) (by decide) (by decide)).mp e
    omega
  obtain ⟨P, hP⟩ : ∃ P, P = (if w = true then 0 else 20) + s := ⟨_, rfl⟩
  have hPl : P < 30 := by rw [hP]; split <;> omega
  have eP : (if w = true then 0 else 2) * 10 + s = P := by rw [hP]; split <;> omega
  have hnt : ∀ (k' : Nat) (I : hI) (J : hJ), ntOk D w k' s I J ↔ (J 14 P = lI (qU D w (bpF D w false s k') s) ∧ J 15 P = lI (qL D w (bpF D w false s k') s) ∧ I 16 P = nI (bpF D w false s k')) ∧ (J 14 (P + 10) = lI (qU D w (bpF D w true s k') s) ∧ J 15 (P + 10) = lI (qL D w (bpF D w true s k') s) ∧ I 16 (P + 10) = nI (bpF D w true s k')) := by
    intro k' I J
    have e1 : (if w = true then 0 else 20) + (if (false : Bool) = true then 10 else 0) + s = P := by rw [hP]; simp
    have e2 : (if w = true then 0 else 20) + (if (true : Bool) = true then 10 else 0) + s = P + 10 := by rw [hP]; simp; omega
    constructor
    · intro h
      have a := h false
      have b := h true
      rw [e1] at a
      rw [e2] at b
      exact ⟨a, b⟩
    · rintro ⟨a, b⟩ q
      cases q
      · rw [e1]; exact a
      · rw [e2]; exact b
  have hfr : ∀ (X : Prop), (∀ (i : Nat), (i ≠ (if w = true then 0 else 20) + s ∧ i ≠ (if w = true then 0 else 20) + 10 + s) ↔ (i ≠ P ∧ i ≠ P + 10)) := fun _ i => by
    rw [← hP]
    have : (if w = true then 0 else 20) + 10 + s = P + 10 := by rw [hP]; omega
    rw [this]
  simp only [hfr True]
  have fI : ∀ (b1 b2 : Bool) (a i : Nat), (a ≠ 16 ∨ (i ≠ P ∧ i ≠ P + 10)) → (if b2 = true then h_u (if b1 = true then h_u I 16 P (nI k) else I) 16 (P + 10) (nI k) else (if b1 = true then h_u I 16 P (nI k) else I)) a i = I a i := by
    intro b1 b2 a i h
    have q1 : (if b1 = true then h_u I 16 P (nI k) else I) a i = I a i := by
      split
      · rcases h with h | h
        · exact h_u_off2 _ _ _ _ h
        · by_cases e : a = 16
          · subst e; exact h_u_pl _ _ _ h.1
          · exact h_u_off2 _ _ _ _ e
      · rfl
    split
    · rw [← q1]
      rcases h with h | h
      · exact h_u_off2 _ _ _ _ h
      · by_cases e : a = 16
        · subst e; exact h_u_pl _ _ _ h.2
        · exact h_u_off2 _ _ _ _ e
    · exact q1
  have fJ : ∀ (J : hJ) (x : Nat) (u l : Int64) (a i : Nat), ((a ≠ 14 ∧ a ≠ 15) ∨ i ≠ x) → h_u (h_u J 14 x u) 15 x l a i = J a i := by
    intro J x u l a i h
    rcases h with h | h
    · rw [h_u_off2 _ _ _ _ h.2, h_u_off2 _ _ _ _ h.1]
    · by_cases e : a = 15
      · subst e; rw [h_u_pl _ _ _ h, h_u_off2 _ _ _ _ (by decide)]
      · rw [h_u_off2 _ _ _ _ e]
        by_cases e2 : a = 14
        · subst e2; exact h_u_pl _ _ _ h
        · exact h_u_off2 _ _ _ _ e2
  have gJ1 : ∀ (J : hJ) (x : Nat) (u l : Int64), h_u (h_u J 14 x u) 15 x l 14 x = u ∧ h_u (h_u J 14 x u) 15 x l 15 x = l := fun J x u l => ⟨by rw [h_u_off2 _ _ _ _ (by decide), h_u_at], h_u_at _ _ _ _⟩
  unfold mPl_noteAnswer mPl_noteAnswer_57 mPl_noteAnswer_76 mPl_noteAnswer_106 mPl_noteAnswer_117 mPl_noteAnswer_145
  by_cases hk0 : k = 0
  · subst hk0
    simp (disch := omega) only [↓reduceIte, h_let, hg_in, hg_zb, hg_z0, hg_z1, hg_nz, Option.bind_some, if_pos, if_neg, bI_0, bI_n0, nI_add, nI_mul, nI_ltI, nI_leI, nI_eq, nI_clamp, nI_subN, nI_divN, nI_mod2, nI_m1e, nI_em1, nI_m2e, nI_lt0, m1_lt0, m1_lt, m1_le, h_u_at, h_u_off2, h_u_pl, li_0, li_1, li_2, li_3, li_4, li_5, li_6, li_7, li_8, li_9, li_10, li_11, li_12, li_13, li_14, li_15, li_16, li_17, li_18, li_19, li_20, li_21, li_22, li_23, li_24, li_25, li_26, li_27, li_28, li_29, li_30, li_31, li_32, li_40, li_43, li_45, li_47, li_48, li_57, li_59, li_60, li_61, li_62, li_63, li_64, li_80, li_92, li_97, li_99, li_100, li_122, li_123, li_125, li_166, li_201, li_210, li_250, li_255, li_256, li_257, li_258, li_259, li_260, li_261, li_262, li_263, li_264, li_265, li_266, li_267, li_268, li_300, li_500, li_1000, li_12345, li_27720, li_1000000, li_1103515245, ne_m1, ne_m2, eP, edv, hgz, hg_nzL, eU, eL, pl_keep]
    refine ⟨_, _, rfl, fun a i h => fI true true a i h, fun a i h => ?_, ?_⟩
    · rw [fJ _ _ _ _ a i (by omega), fJ _ _ _ _ a i (by omega)]
    · rw [hnt]
      refine ⟨⟨?_, ?_, ?_⟩, (gJ1 _ _ _ _).1, (gJ1 _ _ _ _).2, h_u_at _ _ _ _⟩
      · rw [fJ _ _ _ _ 14 P (by omega)]; exact (gJ1 _ _ _ _).1
      · rw [fJ _ _ _ _ 15 P (by omega)]; exact (gJ1 _ _ _ _).2
      · rw [h_u_pl _ _ _ (by omega), h_u_at]; rfl
  · obtain ⟨⟨p1, p2, p3⟩, ⟨p4, p5, p6⟩⟩ := (hnt _ _ _).mp (hpre (by omega))
    obtain ⟨k', rfl⟩ : ∃ k', k = k' + 1 := ⟨k - 1, by omega⟩
    rw [Nat.add_sub_cancel] at p1 p2 p3 p4 p5 p6
    have hq0 := qUL_bd (p := bpF D w false s k') hD w hs
    have hq1 := qUL_bd (p := bpF D w true s k') hD w hs
    have m1 := qprod (c := 0) (d := 0) hq0.1 hq.2
    have m2 := qprod (c := 0) (d := 0) hq.1 hq0.2
    have m3 := qprod (c := 0) (d := 0) hq.1 hq1.2
    have m4 := qprod (c := 0) (d := 0) hq1.1 hq.2
    by_cases c0 : qU D w (k' + 1) s * qL D w (bpF D w false s k') s < qU D w (bpF D w false s k') s * qL D w (k' + 1) s
    · have b0 : bpF D w false s (k' + 1) = k' + 1 := by rw [bpF, if_neg (by decide), if_pos c0]
      by_cases c1 : qU D w (bpF D w true s k') s * qL D w (k' + 1) s < qU D w (k' + 1) s * qL D w (bpF D w true s k') s
      · have b1 : bpF D w true s (k' + 1) = k' + 1 := by rw [bpF, if_pos rfl, if_pos c1]
        simp (disch := omega) only [↓reduceIte, h_let, hg_in, hg_zb, hg_z0, hg_z1, hg_nz, Option.bind_some, if_pos, if_neg, bI_0, bI_n0, nI_add, nI_mul, nI_ltI, nI_leI, nI_eq, nI_clamp, nI_subN, nI_divN, nI_mod2, nI_m1e, nI_em1, nI_m2e, nI_lt0, m1_lt0, m1_lt, m1_le, h_u_at, h_u_off2, h_u_pl, li_0, li_1, li_2, li_3, li_4, li_5, li_6, li_7, li_8, li_9, li_10, li_11, li_12, li_13, li_14, li_15, li_16, li_17, li_18, li_19, li_20, li_21, li_22, li_23, li_24, li_25, li_26, li_27, li_28, li_29, li_30, li_31, li_32, li_40, li_43, li_45, li_47, li_48, li_57, li_59, li_60, li_61, li_62, li_63, li_64, li_80, li_92, li_97, li_99, li_100, li_122, li_123, li_125, li_166, li_201, li_210, li_250, li_255, li_256, li_257, li_258, li_259, li_260, li_261, li_262, li_263, li_264, li_265, li_266, li_267, li_268, li_300, li_500, li_1000, li_12345, li_27720, li_1000000, li_1103515245, ne_m1, ne_m2, eP, edv, hgz, hg_nzL, eU, eL, pl_keep, p1, p2, p4, p5, lI_mul, lI_le]
        refine ⟨_, _, rfl, fun a i h => fI true true a i h, fun a i h => ?_, ?_⟩
        · rw [fJ _ _ _ _ a i (by omega), fJ _ _ _ _ a i (by omega)]
        · rw [hnt, b0, b1]
          refine ⟨⟨?_, ?_, ?_⟩, (gJ1 _ _ _ _).1, (gJ1 _ _ _ _).2, h_u_at _ _ _ _⟩
          · rw [fJ _ _ _ _ 14 P (by omega)]; exact (gJ1 _ _ _ _).1
          · rw [fJ _ _ _ _ 15 P (by omega)]; exact (gJ1 _ _ _ _).2
          · rw [h_u_pl _ _ _ (by omega), h_u_at]
      · have b1 : bpF D w true s (k' + 1) = bpF D w true s k' := by rw [bpF, if_pos rfl, if_neg c1]
        simp (disch := omega) only [↓reduceIte, h_let, hg_in, hg_zb, hg_z0, hg_z1, hg_nz, Option.bind_some, if_pos, if_neg, bI_0, bI_n0, nI_add, nI_mul, nI_ltI, nI_leI, nI_eq, nI_clamp, nI_subN, nI_divN, nI_mod2, nI_m1e, nI_em1, nI_m2e, nI_lt0, m1_lt0, m1_lt, m1_le, h_u_at, h_u_off2, h_u_pl, li_0, li_1, li_2, li_3, li_4, li_5, li_6, li_7, li_8, li_9, li_10, li_11, li_12, li_13, li_14, li_15, li_16, li_17, li_18, li_19, li_20, li_21, li_22, li_23, li_24, li_25, li_26, li_27, li_28, li_29, li_30, li_31, li_32, li_40, li_43, li_45, li_47, li_48, li_57, li_59, li_60, li_61, li_62, li_63, li_64, li_80, li_92, li_97, li_99, li_100, li_122, li_123, li_125, li_166, li_201, li_210, li_250, li_255, li_256, li_257, li_258, li_259, li_260, li_261, li_262, li_263, li_264, li_265, li_266, li_267, li_268, li_300, li_500, li_1000, li_12345, li_27720, li_1000000, li_1103515245, ne_m1, ne_m2, eP, edv, hgz, hg_nzL, eU, eL, pl_keep, p1, p2, p4, p5, lI_mul, lI_le]
        refine ⟨_, _, rfl, fun a i h => fI true false a i h, fun a i h => ?_, ?_⟩
        · rw [fJ _ _ _ _ a i (by omega)]
        · rw [hnt, b0, b1]
          refine ⟨⟨(gJ1 _ _ _ _).1, (gJ1 _ _ _ _).2, h_u_at _ _ _ _⟩, ?_, ?_, ?_⟩
          · rw [fJ _ _ _ _ 14 (P + 10) (by omega)]; exact p4
          · rw [fJ _ _ _ _ 15 (P + 10) (by omega)]; exact p5
          · rw [h_u_pl _ _ _ (by omega)]; exact p6
    · have b0 : bpF D w false s (k' + 1) = bpF D w false s k' := by rw [bpF, if_neg (by decide), if_neg c0]
      by_cases c1 : qU D w (bpF D w true s k') s * qL D w (k' + 1) s < qU D w (k' + 1) s * qL D w (bpF D w true s k') s
      · have b1 : bpF D w true s (k' + 1) = k' + 1 := by rw [bpF, if_pos rfl, if_pos c1]
        simp (disch := omega) only [↓reduceIte, h_let, hg_in, hg_zb, hg_z0, hg_z1, hg_nz, Option.bind_some, if_pos, if_neg, bI_0, bI_n0, nI_add, nI_mul, nI_ltI, nI_leI, nI_eq, nI_clamp, nI_subN, nI_divN, nI_mod2, nI_m1e, nI_em1, nI_m2e, nI_lt0, m1_lt0, m1_lt, m1_le, h_u_at, h_u_off2, h_u_pl, li_0, li_1, li_2, li_3, li_4, li_5, li_6, li_7, li_8, li_9, li_10, li_11, li_12, li_13, li_14, li_15, li_16, li_17, li_18, li_19, li_20, li_21, li_22, li_23, li_24, li_25, li_26, li_27, li_28, li_29, li_30, li_31, li_32, li_40, li_43, li_45, li_47, li_48, li_57, li_59, li_60, li_61, li_62, li_63, li_64, li_80, li_92, li_97, li_99, li_100, li_122, li_123, li_125, li_166, li_201, li_210, li_250, li_255, li_256, li_257, li_258, li_259, li_260, li_261, li_262, li_263, li_264, li_265, li_266, li_267, li_268, li_300, li_500, li_1000, li_12345, li_27720, li_1000000, li_1103515245, ne_m1, ne_m2, eP, edv, hgz, hg_nzL, eU, eL, pl_keep, p1, p2, p4, p5, lI_mul, lI_le]
        refine ⟨_, _, rfl, fun a i h => fI false true a i h, fun a i h => ?_, ?_⟩
        · rw [fJ _ _ _ _ a i (by omega)]
        · rw [hnt, b0, b1]
          refine ⟨⟨?_, ?_, ?_⟩, (gJ1 _ _ _ _).1, (gJ1 _ _ _ _).2, h_u_at _ _ _ _⟩
          · rw [fJ _ _ _ _ 14 P (by omega)]; exact p1
          · rw [fJ _ _ _ _ 15 P (by omega)]; exact p2
          · rw [h_u_pl _ _ _ (by omega)]; exact p3
      · have b1 : bpF D w true s (k' + 1) = bpF D w true s k' := by rw [bpF, if_pos rfl, if_neg c1]
        simp (disch := omega) only [↓reduceIte, h_let, hg_in, hg_zb, hg_z0, hg_z1, hg_nz, Option.bind_some, if_pos, if_neg, bI_0, bI_n0, nI_add, nI_mul, nI_ltI, nI_leI, nI_eq, nI_clamp, nI_subN, nI_divN, nI_mod2, nI_m1e, nI_em1, nI_m2e, nI_lt0, m1_lt0, m1_lt, m1_le, h_u_at, h_u_off2, h_u_pl, li_0, li_1, li_2, li_3, li_4, li_5, li_6, li_7, li_8, li_9, li_10, li_11, li_12, li_13, li_14, li_15, li_16, li_17, li_18, li_19, li_20, li_21, li_22, li_23, li_24, li_25, li_26, li_27, li_28, li_29, li_30, li_31, li_32, li_40, li_43, li_45, li_47, li_48, li_57, li_59, li_60, li_61, li_62, li_63, li_64, li_80, li_92, li_97, li_99, li_100, li_122, li_123, li_125, li_166, li_201, li_210, li_250, li_255, li_256, li_257, li_258, li_259, li_260, li_261, li_262, li_263, li_264, li_265, li_266, li_267, li_268, li_300, li_500, li_1000, li_12345, li_27720, li_1000000, li_1103515245, ne_m1, ne_m2, eP, edv, hgz, hg_nzL, eU, eL, pl_keep, p1, p2, p4, p5, lI_mul, lI_le]
        refine ⟨_, _, rfl, fun a i h => rfl, fun a i h => rfl, ?_⟩
        rw [hnt, b0, b1]
        exact ⟨⟨p1, p2, p3⟩, p4, p5, p6⟩
end Nt
