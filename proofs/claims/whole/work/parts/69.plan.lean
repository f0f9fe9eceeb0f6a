/-! Plans: what they choose, where they lead, where they stay. -/
def pRest (D : rD) (p : Nat) : Nat → Nat
  | 0 => p
  | k + 1 => if D 1 (D 0 0 - 1 - k) = 0 then pRest D p k else pRest D p k / D 1 (D 0 0 - 1 - k)
def pCh (D : rD) (p s : Nat) : Nat := pRest D p (D 0 0 - 1 - s) % D 1 s
def pSl (D : rD) (p s : Nat) : Nat := 8 * s + pCh D p s
def pW (D : rD) (p s t : Nat) : Nat := D 5 (10 * pSl D p s + t)
def pIn (D : rD) (s : Nat) : Bool := decide (0 < D 1 s)
def pE (D : rD) (p s t : Nat) : Bool := decide (t = s) || (pIn D s && decide (0 < pW D p s t))
def pK (D : rD) (p : Nat) : Nat → Nat → Nat → Bool
  | 0, s, t => pE D p s t
  | k + 1, s, t => pK D p k s t || (pK D p k s k && pK D p k k t)
def pRe (D : rD) (p s t : Nat) : Bool := pK D p (D 0 0) s t
def pLv (D : rD) (p s : Nat) : Bool := pIn D s && decide (0 < D 4 (pSl D p s))
def allB (f : Nat → Bool) : Nat → Bool
  | 0 => true
  | n + 1 => allB f n && f n
theorem allB_iff {f : Nat → Bool} : ∀ n, allB f n = true ↔ ∀ i, i < n → f i = true
  | 0 => by simp [allB]
  | n + 1 => by
    rw [allB, Bool.and_eq_true, allB_iff n]
    constructor
    · intro h i hi
      by_cases e : i = n
      · subst e; exact h.2
      · exact h.1 i (by omega)
    · intro h
      exact ⟨fun i hi => h i (by omega), h n (by omega)⟩
def pSt (D : rD) (p s : Nat) : Bool := pIn D s && allB (fun t => !pRe D p s t || (pIn D t && !pLv D p t && pRe D p t s)) (D 0 0)
theorem pRest_le (D : rD) (p : Nat) : ∀ k, pRest D p k ≤ p
  | 0 => Nat.le_refl _
  | k + 1 => by
    unfold pRest
    split
    · exact pRest_le D p k
    · exact Nat.le_trans (Nat.div_le_self _ _) (pRest_le D p k)
theorem nI_addm1 {a : Nat} (h : 1 ≤ a) : nI a + (-1 : Int32) = nI (a - 1) := by
  obtain ⟨b, rfl⟩ : ∃ b, a = b + 1 := ⟨a - 1, by omega⟩
  rw [Nat.add_sub_cancel, nI_succ, Int32.add_assoc]
  have : (1 : Int32) + -1 = 0 := by decide
  rw [this, Int32.add_zero]
theorem pCh_lt {D : rD} {p s : Nat} (h : 0 < D 1 s) : pCh D p s < D 1 s := Nat.mod_lt _ h
section PlC
variable {D : rD} {p : Nat}
theorem pl_ch_L (hD : rOk D) (hp : p < 2 ^ 31) {s : Nat} (hs : s < D 0 0) {I : hI} (h : cR D I) : ∀ (r k fuel : Nat), k + r = D 0 0 - 1 - s → r < fuel → mPl_choiceOf_L13 fuel (nI s) (nI (pRest D p k)) (nI (D 0 0 - 1 - k)) I = some (if 0 < D 1 s then nI (pCh D p s) else (-1 : Int32)) := by
  have hn := hD.2.1
  have h8 := hD.2.2.2.1 s hs
  intro r
  induction r with
  | zero =>
    intro k fuel hk hf
    obtain ⟨fuel, rfl⟩ : ∃ m, fuel = m + 1 := ⟨fuel - 1, by omega⟩
    have hpr := pRest_le D p k
    have e1 : D 0 0 - 1 - k = s := by omega
    have ek : D 0 0 - 1 - s = k := by omega
    unfold mPl_choiceOf_L13 mPl_choiceOf_B13 mPl_choiceOf_56 mC_isOutside
    rw [e1]
    by_cases hi : 0 < D 1 s
    · simp (disch := omega) only [↓reduceIte, h_let, hg_in, hg_zb, hg_z0, hg_z1, hg_nz, Option.bind_some, if_pos, if_neg, bI_0, bI_n0, nI_add, nI_mul, nI_ltI, nI_leI, nI_eq, nI_clamp, nI_subN, nI_divN, nI_mod2, nI_m1e, nI_em1, nI_m2e, nI_lt0, m1_lt0, m1_lt, m1_le, h_u_at, h_u_off2, h_u_pl, li_0, li_1, li_2, li_3, li_4, li_5, li_6, li_7, li_8, li_9, li_10, li_11, li_12, li_13, li_14, li_15, li_16, li_17, li_18, li_19, li_20, li_21, li_22, li_23, li_24, li_25, li_26, li_27, li_28, li_29, li_30, li_31, li_32, li_40, li_43, li_45, li_47, li_48, li_57, li_59, li_60, li_61, li_62, li_63, li_64, li_80, li_92, li_97, li_99, li_100, li_122, li_123, li_125, li_166, li_201, li_210, li_250, li_255, li_256, li_257, li_258, li_259, li_260, li_261, li_262, li_263, li_264, li_265, li_266, li_267, li_268, li_300, li_500, li_1000, li_12345, li_27720, li_1000000, li_1103515245, ne_m1, ne_m2, h.2.2.2.2.1 s hs]
      unfold pCh
      rw [ek]
    · simp (disch := omega) only [↓reduceIte, h_let, hg_in, hg_zb, hg_z0, hg_z1, hg_nz, Option.bind_some, if_pos, if_neg, bI_0, bI_n0, nI_add, nI_mul, nI_ltI, nI_leI, nI_eq, nI_clamp, nI_subN, nI_divN, nI_mod2, nI_m1e, nI_em1, nI_m2e, nI_lt0, m1_lt0, m1_lt, m1_le, h_u_at, h_u_off2, h_u_pl, li_0, li_1, li_2, li_3, li_4, li_5, li_6, li_7, li_8, li_9, li_10, li_11, li_12, li_13, li_14, li_15, li_16, li_17, li_18, li_19, li_20, li_21, li_22, li_23, li_24, li_25, li_26, li_27, li_28, li_29, li_30, li_31, li_32, li_40, li_43, li_45, li_47, li_48, li_57, li_59, li_60, li_61, li_62, li_63, li_64, li_80, li_92, li_97, li_99, li_100, li_122, li_123, li_125, li_166, li_201, li_210, li_250, li_255, li_256, li_257, li_258, li_259, li_260, li_261, li_262, li_263, li_264, li_265, li_266, li_267, li_268, li_300, li_500, li_1000, li_12345, li_27720, li_1000000, li_1103515245, ne_m1, ne_m2, h.2.2.2.2.1 s hs]
  | succ r ih =>
    intro k fuel hk hf
    obtain ⟨fuel, rfl⟩ : ∃ m, fuel = m + 1 := ⟨fuel - 1, by omega⟩
    have hpr := pRest_le D p k
    have h8o := hD.2.2.2.1 (D 0 0 - 1 - k) (by omega)
    have i1 := ih (k + 1) fuel (by omega) (by omega)
    have e0 : D 0 0 - 1 - (k + 1) = D 0 0 - 1 - k - 1 := by omega
    rw [e0] at i1
    unfold mPl_choiceOf_L13 mPl_choiceOf_B13
    by_cases hz : D 1 (D 0 0 - 1 - k) = 0
    · rw [pRest, if_pos hz] at i1
      simp (disch := omega) only [↓reduceIte, h_let, hg_in, hg_zb, hg_z0, hg_z1, hg_nz, Option.bind_some, if_pos, if_neg, bI_0, bI_n0, nI_add, nI_mul, nI_ltI, nI_leI, nI_eq, nI_clamp, nI_subN, nI_divN, nI_mod2, nI_m1e, nI_em1, nI_m2e, nI_lt0, m1_lt0, m1_lt, m1_le, h_u_at, h_u_off2, h_u_pl, li_0, li_1, li_2, li_3, li_4, li_5, li_6, li_7, li_8, li_9, li_10, li_11, li_12, li_13, li_14, li_15, li_16, li_17, li_18, li_19, li_20, li_21, li_22, li_23, li_24, li_25, li_26, li_27, li_28, li_29, li_30, li_31, li_32, li_40, li_43, li_45, li_47, li_48, li_57, li_59, li_60, li_61, li_62, li_63, li_64, li_80, li_92, li_97, li_99, li_100, li_122, li_123, li_125, li_166, li_201, li_210, li_250, li_255, li_256, li_257, li_258, li_259, li_260, li_261, li_262, li_263, li_264, li_265, li_266, li_267, li_268, li_300, li_500, li_1000, li_12345, li_27720, li_1000000, li_1103515245, ne_m1, ne_m2, h.2.2.2.2.1, nI_addm1, i1]
    · rw [pRest, if_neg hz] at i1
      simp (disch := omega) only [↓reduceIte, h_let, hg_in, hg_zb, hg_z0, hg_z1, hg_nz, Option.bind_some, if_pos, if_neg, bI_0, bI_n0, nI_add, nI_mul, nI_ltI, nI_leI, nI_eq, nI_clamp, nI_subN, nI_divN, nI_mod2, nI_m1e, nI_em1, nI_m2e, nI_lt0, m1_lt0, m1_lt, m1_le, h_u_at, h_u_off2, h_u_pl, li_0, li_1, li_2, li_3, li_4, li_5, li_6, li_7, li_8, li_9, li_10, li_11, li_12, li_13, li_14, li_15, li_16, li_17, li_18, li_19, li_20, li_21, li_22, li_23, li_24, li_25, li_26, li_27, li_28, li_29, li_30, li_31, li_32, li_40, li_43, li_45, li_47, li_48, li_57, li_59, li_60, li_61, li_62, li_63, li_64, li_80, li_92, li_97, li_99, li_100, li_122, li_123, li_125, li_166, li_201, li_210, li_250, li_255, li_256, li_257, li_258, li_259, li_260, li_261, li_262, li_263, li_264, li_265, li_266, li_267, li_268, li_300, li_500, li_1000, li_12345, li_27720, li_1000000, li_1103515245, ne_m1, ne_m2, h.2.2.2.2.1, nI_addm1, i1]
theorem pl_choiceOf (hD : rOk D) (hp : p < 2 ^ 31) {s : Nat} (hs : s < D 0 0) {I : hI} (h : cR D I) : mPl_choiceOf (nI p) (nI s) I = some (if 0 < D 1 s then nI (pCh D p s) else (-1 : Int32)) := by
  have hn := hD.2.1
  unfold mPl_choiceOf
  rw [h.1]
  have i1 := pl_ch_L hD hp hs h (D 0 0 - 1 - s) 0 hF (by omega) (by unfold hF; omega)
  simp (disch := omega) only [↓reduceIte, h_let, hg_in, hg_zb, hg_z0, hg_z1, hg_nz, Option.bind_some, if_pos, if_neg, bI_0, bI_n0, nI_add, nI_mul, nI_ltI, nI_leI, nI_eq, nI_clamp, nI_subN, nI_divN, nI_mod2, nI_m1e, nI_em1, nI_m2e, nI_lt0, m1_lt0, m1_lt, m1_le, h_u_at, h_u_off2, h_u_pl, li_0, li_1, li_2, li_3, li_4, li_5, li_6, li_7, li_8, li_9, li_10, li_11, li_12, li_13, li_14, li_15, li_16, li_17, li_18, li_19, li_20, li_21, li_22, li_23, li_24, li_25, li_26, li_27, li_28, li_29, li_30, li_31, li_32, li_40, li_43, li_45, li_47, li_48, li_57, li_59, li_60, li_61, li_62, li_63, li_64, li_80, li_92, li_97, li_99, li_100, li_122, li_123, li_125, li_166, li_201, li_210, li_250, li_255, li_256, li_257, li_258, li_259, li_260, li_261, li_262, li_263, li_264, li_265, li_266, li_267, li_268, li_300, li_500, li_1000, li_12345, li_27720, li_1000000, li_1103515245, ne_m1, ne_m2]
  exact i1
/-- bits of the ways of a state by its slot -/
theorem pl_ways_L (hD : rOk D) {s c : Nat} (hs : s < D 0 0) (hc : c < D 1 s) : ∀ (r t fuel : Nat) (I : hI) (f : Nat → Bool), t + r = D 0 0 → r < fuel → cR D I → bm (I 18 s) (D 0 0) f → ∃ I' : hI, mPl_noteWays_L45 fuel (nI s) (nI (8 * s + c)) (nI t) I = some I' ∧ (∀ a i, (a ≠ 18 ∨ i ≠ s) → I' a i = I a i) ∧ bm (I' 18 s) (D 0 0) (fun u => f u || (decide (t ≤ u) && decide (0 < D 5 (10 * (8 * s + c) + u)))) := by
  have hn := hD.2.1
  have h8 := hD.2.2.2.1 s hs
  intro r
  induction r with
  | zero =>
    intro t fuel I f ht hf h hb
    obtain ⟨fuel, rfl⟩ : ∃ m, fuel = m + 1 := ⟨fuel - 1, by omega⟩
    unfold mPl_noteWays_L45 mPl_noteWays_B45
    rw [h.1]
    simp (disch := omega) only [↓reduceIte, h_let, hg_in, hg_zb, hg_z0, hg_z1, hg_nz, Option.bind_some, if_pos, if_neg, bI_0, bI_n0, nI_add, nI_mul, nI_ltI, nI_leI, nI_eq, nI_clamp, nI_subN, nI_divN, nI_mod2, nI_m1e, nI_em1, nI_m2e, nI_lt0, m1_lt0, m1_lt, m1_le, h_u_at, h_u_off2, h_u_pl, li_0, li_1, li_2, li_3, li_4, li_5, li_6, li_7, li_8, li_9, li_10, li_11, li_12, li_13, li_14, li_15, li_16, li_17, li_18, li_19, li_20, li_21, li_22, li_23, li_24, li_25, li_26, li_27, li_28, li_29, li_30, li_31, li_32, li_40, li_43, li_45, li_47, li_48, li_57, li_59, li_60, li_61, li_62, li_63, li_64, li_80, li_92, li_97, li_99, li_100, li_122, li_123, li_125, li_166, li_201, li_210, li_250, li_255, li_256, li_257, li_258, li_259, li_260, li_261, li_262, li_263, li_264, li_265, li_266, li_267, li_268, li_300, li_500, li_1000, li_12345, li_27720, li_1000000, li_1103515245, ne_m1, ne_m2]
    refine ⟨I, rfl, fun _ _ _ => rfl, bm_congr hb (fun u hu => ?_)⟩
    have : ¬ t ≤ u := by omega
    simp [this]
  | succ r ih =>
    intro t fuel I f ht hf h hb
    obtain ⟨fuel, rfl⟩ : ∃ m, fuel = m + 1 := ⟨fuel - 1, by omega⟩
    have eq := ro_quarters hD h hs hc (t := t) (by omega)
    have e4 := (hD.2.2.2.2 s hs c hc).2.2.2.1 t (by omega)
    unfold mPl_noteWays_L45 mPl_noteWays_B45
    rw [h.1]
    by_cases hz : 0 < D 5 (10 * (8 * s + c) + t)
    · obtain ⟨I', a1, a2, a3⟩ := ih (t + 1) fuel (h_u I 18 s (I 18 s ||| (nI 1 <<< (nI t &&& nI 31)))) (fun u => f u || decide (u = t)) (by omega) (by omega) (cR_of h (fun c i h1 h2 => h_u_off2 _ _ _ _ (by omega))) (by rw [h_u_at]; exact bm_or hb (bm_bit (by omega) hn))
      simp (disch := omega) only [↓reduceIte, h_let, hg_in, hg_zb, hg_z0, hg_z1, hg_nz, Option.bind_some, if_pos, if_neg, bI_0, bI_n0, nI_add, nI_mul, nI_ltI, nI_leI, nI_eq, nI_clamp, nI_subN, nI_divN, nI_mod2, nI_m1e, nI_em1, nI_m2e, nI_lt0, m1_lt0, m1_lt, m1_le, h_u_at, h_u_off2, h_u_pl, li_0, li_1, li_2, li_3, li_4, li_5, li_6, li_7, li_8, li_9, li_10, li_11, li_12, li_13, li_14, li_15, li_16, li_17, li_18, li_19, li_20, li_21, li_22, li_23, li_24, li_25, li_26, li_27, li_28, li_29, li_30, li_31, li_32, li_40, li_43, li_45, li_47, li_48, li_57, li_59, li_60, li_61, li_62, li_63, li_64, li_80, li_92, li_97, li_99, li_100, li_122, li_123, li_125, li_166, li_201, li_210, li_250, li_255, li_256, li_257, li_258, li_259, li_260, li_261, li_262, li_263, li_264, li_265, li_266, li_267, li_268, li_300, li_500, li_1000, li_12345, li_27720, li_1000000, li_1103515245, ne_m1, ne_m2, eq, a1]
      refine ⟨I', rfl, fun a i hne => ?_, bm_congr a3 (fun u hu => ?_)⟩
      · rw [a2 a i hne]
        rcases hne with hne | hne
        · exact h_u_off2 _ _ _ _ hne
        · by_cases e : a = 18
          · subst e; exact h_u_pl _ _ _ hne
          · exact h_u_off2 _ _ _ _ e
      · by_cases e : u = t
        · subst e; simp [hz]
        · by_cases e2 : t ≤ u
          · have : t + 1 ≤ u := by omega
            simp [e, e2, this]
          · have : ¬ t + 1 ≤ u := by omega
            simp [e, e2, this]
    · obtain ⟨I', a1, a2, a3⟩ := ih (t + 1) fuel I f (by omega) (by omega) h hb
      simp (disch := omega) only [↓reduceIte, h_let, hg_in, hg_zb, hg_z0, hg_z1, hg_nz, Option.bind_some, if_pos, if_neg, bI_0, bI_n0, nI_add, nI_mul, nI_ltI, nI_leI, nI_eq, nI_clamp, nI_subN, nI_divN, nI_mod2, nI_m1e, nI_em1, nI_m2e, nI_lt0, m1_lt0, m1_lt, m1_le, h_u_at, h_u_off2, h_u_pl, li_0, li_1, li_2, li_3, li_4, li_5, li_6, li_7, li_8, li_9, li_10, li_11, li_12, li_13, li_14, li_15, li_16, li_17, li_18, li_19, li_20, li_21, li_22, li_23, li_24, li_25, li_26, li_27, li_28, li_29, li_30, li_31, li_32, li_40, li_43, li_45, li_47, li_48, li_57, li_59, li_60, li_61, li_62, li_63, li_64, li_80, li_92, li_97, li_99, li_100, li_122, li_123, li_125, li_166, li_201, li_210, li_250, li_255, li_256, li_257, li_258, li_259, li_260, li_261, li_262, li_263, li_264, li_265, li_266, li_267, li_268, li_300, li_500, li_1000, li_12345, li_27720, li_1000000, li_1103515245, ne_m1, ne_m2, eq, a1]
      refine ⟨I', rfl, a2, bm_congr a3 (fun u hu => ?_)⟩
      by_cases e : u = t
      · subst e; simp [hz]
      · by_cases e2 : t ≤ u
        · have : t + 1 ≤ u := by omega
          simp [e2, this]
        · have : ¬ t + 1 ≤ u := by omega
          simp [e2, this]
theorem pl_noteWays (hD : rOk D) {s c : Nat} (hs : s < D 0 0) (hc : c < D 1 s) {I : hI} {f g : Nat → Bool} (h : cR D I) (hb : bm (I 18 s) (D 0 0) f) (hg : bm (I 13 9) (D 0 0) g) : ∃ I' : hI, mPl_noteWays (nI s) (nI (8 * s + c)) I = some I' ∧ (∀ a i, (a ≠ 18 ∨ i ≠ s) → (a ≠ 13 ∨ i ≠ 9) → I' a i = I a i) ∧ bm (I' 18 s) (D 0 0) (fun u => f u || decide (0 < D 5 (10 * (8 * s + c) + u))) ∧ bm (I' 13 9) (D 0 0) (fun u => g u || (decide (u = s) && decide (0 < D 4 (8 * s + c)))) := by
  have hn := hD.2.1
  have h8 := hD.2.2.2.1 s hs
  obtain ⟨_, _, d4, _⟩ := hD.2.2.2.2 s hs c hc
  obtain ⟨_, _, e4, _⟩ := h.2.2.2.2.2 s hs c hc
  unfold mPl_noteWays mC_isOutside
  by_cases hz : 0 < D 4 (8 * s + c)
  · obtain ⟨I', a1, a2, a3⟩ := pl_ways_L hD hs hc (D 0 0) 0 hF (h_u I 13 9 (I 13 9 ||| (nI 1 <<< (nI s &&& nI 31)))) f (by omega) (by unfold hF; omega) (cR_of h (fun c i h1 h2 => h_u_off2 _ _ _ _ (by omega))) (by rw [h_u_off2 _ _ _ _ (by decide)]; exact hb)
    simp (disch := omega) only [↓reduceIte, h_let, hg_in, hg_zb, hg_z0, hg_z1, hg_nz, Option.bind_some, if_pos, if_neg, bI_0, bI_n0, nI_add, nI_mul, nI_ltI, nI_leI, nI_eq, nI_clamp, nI_subN, nI_divN, nI_mod2, nI_m1e, nI_em1, nI_m2e, nI_lt0, m1_lt0, m1_lt, m1_le, h_u_at, h_u_off2, h_u_pl, li_0, li_1, li_2, li_3, li_4, li_5, li_6, li_7, li_8, li_9, li_10, li_11, li_12, li_13, li_14, li_15, li_16, li_17, li_18, li_19, li_20, li_21, li_22, li_23, li_24, li_25, li_26, li_27, li_28, li_29, li_30, li_31, li_32, li_40, li_43, li_45, li_47, li_48, li_57, li_59, li_60, li_61, li_62, li_63, li_64, li_80, li_92, li_97, li_99, li_100, li_122, li_123, li_125, li_166, li_201, li_210, li_250, li_255, li_256, li_257, li_258, li_259, li_260, li_261, li_262, li_263, li_264, li_265, li_266, li_267, li_268, li_300, li_500, li_1000, li_12345, li_27720, li_1000000, li_1103515245, ne_m1, ne_m2, e4, a1]
    refine ⟨I', rfl, fun a i h1 h2 => ?_, bm_congr a3 (fun u hu => by simp), ?_⟩
    · rw [a2 a i h1]
      rcases h2 with h2 | h2
      · exact h_u_off2 _ _ _ _ h2
      · by_cases e : a = 13
        · subst e; exact h_u_pl _ _ _ h2
        · exact h_u_off2 _ _ _ _ e
    · rw [a2 13 9 (Or.inl (by decide)), h_u_at]
      exact bm_congr (bm_or hg (bm_bit hs hn)) (fun u hu => by simp [hz])
  · obtain ⟨I', a1, a2, a3⟩ := pl_ways_L hD hs hc (D 0 0) 0 hF I f (by omega) (by unfold hF; omega) h hb
    simp (disch := omega) only [↓reduceIte, h_let, hg_in, hg_zb, hg_z0, hg_z1, hg_nz, Option.bind_some, if_pos, if_neg, bI_0, bI_n0, nI_add, nI_mul, nI_ltI, nI_leI, nI_eq, nI_clamp, nI_subN, nI_divN, nI_mod2, nI_m1e, nI_em1, nI_m2e, nI_lt0, m1_lt0, m1_lt, m1_le, h_u_at, h_u_off2, h_u_pl, li_0, li_1, li_2, li_3, li_4, li_5, li_6, li_7, li_8, li_9, li_10, li_11, li_12, li_13, li_14, li_15, li_16, li_17, li_18, li_19, li_20, li_21, li_22, li_23, li_24, li_25, li_26, li_27, li_28, li_29, li_30, li_31, li_32, li_40, li_43, li_45, li_47, li_48, li_57, li_59, li_60, li_61, li_62, li_63, li_64, li_80, li_92, li_97, li_99, li_100, li_122, li_123, li_125, li_166, li_201, li_210, li_250, li_255, li_256, li_257, li_258, li_259, li_260, li_261, li_262, li_263, li_264, li_265, li_266, li_267, li_268, li_300, li_500, li_1000, li_12345, li_27720, li_1000000, li_1103515245, ne_m1, ne_m2, e4, a1]
    refine ⟨I', rfl, fun a i h1 h2 => a2 a i h1, bm_congr a3 (fun u hu => by simp), ?_⟩
    rw [a2 13 9 (Or.inl (by decide))]
    exact bm_congr hg (fun u hu => by simp [hz])
/-- Warshall: one state taken as a way station -/
theorem pl_by_L (hD : rOk D) {k : Nat} (hk : k < D 0 0) (k78 : _) : ∀ (r s fuel : Nat) (I : hI), s + r = D 0 0 → r < fuel → cR D I → (∀ u, u < D 0 0 → bm (I 18 u) (D 0 0) (if u < s then pK D p (k + 1) u else pK D p k u)) → pK D p k k k = true → ∃ I' : hI, mPl_choosePlan_L91 k78 fuel (nI k) (nI s) I = k78 (nI (k + 1)) I' ∧ (∀ a i, a ≠ 18 → I' a i = I a i) ∧ ∀ u, u < D 0 0 → bm (I' 18 u) (D 0 0) (pK D p (k + 1) u) := by
  have hn := hD.2.1
  intro r
  induction r with
  | zero =>
    intro s fuel I ht hf h hb _
    obtain ⟨fuel, rfl⟩ : ∃ m, fuel = m + 1 := ⟨fuel - 1, by omega⟩
    unfold mPl_choosePlan_L91 mPl_choosePlan_B91
    rw [h.1]
    simp (disch := omega) only [↓reduceIte, h_let, hg_in, hg_zb, hg_z0, hg_z1, hg_nz, Option.bind_some, if_pos, if_neg, bI_0, bI_n0, nI_add, nI_mul, nI_ltI, nI_leI, nI_eq, nI_clamp, nI_subN, nI_divN, nI_mod2, nI_m1e, nI_em1, nI_m2e, nI_lt0, m1_lt0, m1_lt, m1_le, h_u_at, h_u_off2, h_u_pl, li_0, li_1, li_2, li_3, li_4, li_5, li_6, li_7, li_8, li_9, li_10, li_11, li_12, li_13, li_14, li_15, li_16, li_17, li_18, li_19, li_20, li_21, li_22, li_23, li_24, li_25, li_26, li_27, li_28, li_29, li_30, li_31, li_32, li_40, li_43, li_45, li_47, li_48, li_57, li_59, li_60, li_61, li_62, li_63, li_64, li_80, li_92, li_97, li_99, li_100, li_122, li_123, li_125, li_166, li_201, li_210, li_250, li_255, li_256, li_257, li_258, li_259, li_260, li_261, li_262, li_263, li_264, li_265, li_266, li_267, li_268, li_300, li_500, li_1000, li_12345, li_27720, li_1000000, li_1103515245, ne_m1, ne_m2]
    refine ⟨I, rfl, fun _ _ _ => rfl, fun u hu => ?_⟩
    have := hb u hu
    rw [if_pos (by omega)] at this
    exact this
  | succ r ih =>
    intro s fuel I ht hf h hb hr
    obtain ⟨fuel, rfl⟩ : ∃ m, fuel = m + 1 := ⟨fuel - 1, by omega⟩
    have hs := hb s (by omega)
    rw [if_neg (by omega)] at hs
    have hkk : bm (I 18 k) (D 0 0) (pK D p k k) := by
      have := hb k hk
      by_cases e : k < s
      · rw [if_pos e] at this
        refine bm_congr this (fun t ht => ?_)
        rw [pK, hr]
        cases pK D p k k t <;> rfl
      · rw [if_neg e] at this
        exact this
    have ht := bm_test hs hn hk
    unfold mPl_choosePlan_L91 mPl_choosePlan_B91
    rw [h.1]
    have nxt : ∀ I1 : hI, cR D I1 → (∀ a i, (a ≠ 18 ∨ i ≠ s) → I1 a i = I a i) → bm (I1 18 s) (D 0 0) (pK D p (k + 1) s) → ∃ I' : hI, mPl_choosePlan_L91 k78 fuel (nI k) (nI (s + 1)) I1 = k78 (nI (k + 1)) I' ∧ (∀ a i, a ≠ 18 → I' a i = I a i) ∧ ∀ u, u < D 0 0 → bm (I' 18 u) (D 0 0) (pK D p (k + 1) u) := by
      intro I1 c1 c2 c3
      obtain ⟨I', a1, a2, a3⟩ := ih (s + 1) fuel I1 (by omega) (by omega) c1 (fun u hu => by
        by_cases e : u = s
        · subst e; rw [if_pos (by omega)]; exact c3
        · rw [c2 18 u (Or.inr e)]
          have := hb u hu
          by_cases e2 : u < s
          · rw [if_pos e2] at this; rw [if_pos (by omega)]; exact this
          · rw [if_neg e2] at this; rw [if_neg (by omega)]; exact this) hr
      exact ⟨I', a1, fun a i hne => by rw [a2 a i hne, c2 a i (Or.inl hne)], a3⟩
    by_cases hz : pK D p k s k = true
    · have hz2 : ¬ (pK D p k s k = false) := by rw [hz]; decide
      have n1 := nxt (h_u I 18 s (I 18 s ||| I 18 k)) (cR_of h (fun c i h1 h2 => h_u_off2 _ _ _ _ (by omega))) (fun a i hne => by
        rcases hne with hne | hne
        · exact h_u_off2 _ _ _ _ hne
        · by_cases e : a = 18
          · subst e; exact h_u_pl _ _ _ hne
          · exact h_u_off2 _ _ _ _ e) (by
        rw [h_u_at]
        refine bm_congr (bm_or hs hkk) (fun t ht => ?_)
        rw [pK, hz]
        simp)
      simp (disch := omega) only [↓reduceIte, h_let, hg_in, hg_zb, hg_z0, hg_z1, hg_nz, Option.bind_some, if_pos, if_neg, bI_0, bI_n0, nI_add, nI_mul, nI_ltI, nI_leI, nI_eq, nI_clamp, nI_subN, nI_divN, nI_mod2, nI_m1e, nI_em1, nI_m2e, nI_lt0, m1_lt0, m1_lt, m1_le, h_u_at, h_u_off2, h_u_pl, li_0, li_1, li_2, li_3, li_4, li_5, li_6, li_7, li_8, li_9, li_10, li_11, li_12, li_13, li_14, li_15, li_16, li_17, li_18, li_19, li_20, li_21, li_22, li_23, li_24, li_25, li_26, li_27, li_28, li_29, li_30, li_31, li_32, li_40, li_43, li_45, li_47, li_48, li_57, li_59, li_60, li_61, li_62, li_63, li_64, li_80, li_92, li_97, li_99, li_100, li_122, li_123, li_125, li_166, li_201, li_210, li_250, li_255, li_256, li_257, li_258, li_259, li_260, li_261, li_262, li_263, li_264, li_265, li_266, li_267, li_268, li_300, li_500, li_1000, li_12345, li_27720, li_1000000, li_1103515245, ne_m1, ne_m2, ht, hz2]
      exact n1
    · have hz2 : pK D p k s k = false := by simpa using hz
      have n1 := nxt I h (fun _ _ _ => rfl) (bm_congr hs (fun t ht => by rw [pK, hz2]; simp))
      simp (disch := omega) only [↓reduceIte, h_let, hg_in, hg_zb, hg_z0, hg_z1, hg_nz, Option.bind_some, if_pos, if_neg, bI_0, bI_n0, nI_add, nI_mul, nI_ltI, nI_leI, nI_eq, nI_clamp, nI_subN, nI_divN, nI_mod2, nI_m1e, nI_em1, nI_m2e, nI_lt0, m1_lt0, m1_lt, m1_le, h_u_at, h_u_off2, h_u_pl, li_0, li_1, li_2, li_3, li_4, li_5, li_6, li_7, li_8, li_9, li_10, li_11, li_12, li_13, li_14, li_15, li_16, li_17, li_18, li_19, li_20, li_21, li_22, li_23, li_24, li_25, li_26, li_27, li_28, li_29, li_30, li_31, li_32, li_40, li_43, li_45, li_47, li_48, li_57, li_59, li_60, li_61, li_62, li_63, li_64, li_80, li_92, li_97, li_99, li_100, li_122, li_123, li_125, li_166, li_201, li_210, li_250, li_255, li_256, li_257, li_258, li_259, li_260, li_261, li_262, li_263, li_264, li_265, li_266, li_267, li_268, li_300, li_500, li_1000, li_12345, li_27720, li_1000000, li_1103515245, ne_m1, ne_m2, ht, hz2]
      exact n1
theorem pK_refl (D : rD) (p s : Nat) : ∀ k, pK D p k s s = true
  | 0 => by simp [pK, pE]
  | k + 1 => by rw [pK, pK_refl D p s k]; rfl
theorem pl_war_L (hD : rOk D) : ∀ (r k fuel : Nat) (I : hI), k + r = D 0 0 → r < fuel → cR D I → (∀ u, u < D 0 0 → bm (I 18 u) (D 0 0) (pK D p k u)) → ∃ I' : hI, mPl_choosePlan_L78 fuel (nI k) I = some I' ∧ (∀ a i, a ≠ 18 → I' a i = I a i) ∧ ∀ u, u < D 0 0 → bm (I' 18 u) (D 0 0) (pRe D p u) := by
  have hn := hD.2.1
  intro r
  induction r with
  | zero =>
    intro k fuel I hk hf h hb
    obtain ⟨fuel, rfl⟩ : ∃ m, fuel = m + 1 := ⟨fuel - 1, by omega⟩
    obtain rfl : k = D 0 0 := by omega
    unfold mPl_choosePlan_L78 mPl_choosePlan_B78
    rw [h.1]
    simp (disch := omega) only [↓reduceIte, h_let, hg_in, hg_zb, hg_z0, hg_z1, hg_nz, Option.bind_some, if_pos, if_neg, bI_0, bI_n0, nI_add, nI_mul, nI_ltI, nI_leI, nI_eq, nI_clamp, nI_subN, nI_divN, nI_mod2, nI_m1e, nI_em1, nI_m2e, nI_lt0, m1_lt0, m1_lt, m1_le, h_u_at, h_u_off2, h_u_pl, li_0, li_1, li_2, li_3, li_4, li_5, li_6, li_7, li_8, li_9, li_10, li_11, li_12, li_13, li_14, li_15, li_16, li_17, li_18, li_19, li_20, li_21, li_22, li_23, li_24, li_25, li_26, li_27, li_28, li_29, li_30, li_31, li_32, li_40, li_43, li_45, li_47, li_48, li_57, li_59, li_60, li_61, li_62, li_63, li_64, li_80, li_92, li_97, li_99, li_100, li_122, li_123, li_125, li_166, li_201, li_210, li_250, li_255, li_256, li_257, li_258, li_259, li_260, li_261, li_262, li_263, li_264, li_265, li_266, li_267, li_268, li_300, li_500, li_1000, li_12345, li_27720, li_1000000, li_1103515245, ne_m1, ne_m2]
    exact ⟨I, rfl, fun _ _ _ => rfl, hb⟩
  | succ r ih =>
    intro k fuel I hk hf h hb
    obtain ⟨fuel, rfl⟩ : ∃ m, fuel = m + 1 := ⟨fuel - 1, by omega⟩
    obtain ⟨I1, a1, a2, a3⟩ := pl_by_L hD (p := p) (k := k) (by omega) (mPl_choosePlan_L78 fuel) (D 0 0) 0 hF I (by omega) (by unfold hF; omega) h (fun u hu => by rw [if_neg (by omega)]; exact hb u hu) (pK_refl D p k k)
    obtain ⟨I2, b1, b2, b3⟩ := ih (k + 1) fuel I1 (by omega) (by omega) (cR_of h (fun c i h1 h2 => a2 c i (by omega))) a3
    unfold mPl_choosePlan_L78 mPl_choosePlan_B78
    rw [h.1]
    simp (disch := omega) only [↓reduceIte, h_let, hg_in, hg_zb, hg_z0, hg_z1, hg_nz, Option.bind_some, if_pos, if_neg, bI_0, bI_n0, nI_add, nI_mul, nI_ltI, nI_leI, nI_eq, nI_clamp, nI_subN, nI_divN, nI_mod2, nI_m1e, nI_em1, nI_m2e, nI_lt0, m1_lt0, m1_lt, m1_le, h_u_at, h_u_off2, h_u_pl, li_0, li_1, li_2, li_3, li_4, li_5, li_6, li_7, li_8, li_9, li_10, li_11, li_12, li_13, li_14, li_15, li_16, li_17, li_18, li_19, li_20, li_21, li_22, li_23, li_24, li_25, li_26, li_27, li_28, li_29, li_30, li_31, li_32, li_40, li_43, li_45, li_47, li_48, li_57, li_59, li_60, li_61, li_62, li_63, li_64, li_80, li_92, li_97, li_99, li_100, li_122, li_123, li_125, li_166, li_201, li_210, li_250, li_255, li_256, li_257, li_258, li_259, li_260, li_261, li_262, li_263, li_264, li_265, li_266, li_267, li_268, li_300, li_500, li_1000, li_12345, li_27720, li_1000000, li_1103515245, ne_m1, ne_m2, a1, b1]
    exact ⟨I2, rfl, fun a i hne => by rw [b2 a i hne, a2 a i hne], b3⟩
theorem pl_choose_L (hD : rOk D) (hp : p < 2 ^ 31) : ∀ (r s fuel : Nat) (I : hI), s + r = D 0 0 → r < fuel → cR D I → (∀ u, u < s → bm (I 18 u) (D 0 0) (pE D p u) ∧ (pIn D u = true → I 17 u = nI (pSl D p u))) → bm (I 13 9) (D 0 0) (fun u => decide (u < s) && pLv D p u) → ∃ I' : hI, mPl_choosePlan_L7 fuel (nI p) (nI s) I = some I' ∧ (∀ a i, a ≠ 18 → a ≠ 17 → (a ≠ 13 ∨ i ≠ 9) → I' a i = I a i) ∧ (∀ u, u < D 0 0 → bm (I' 18 u) (D 0 0) (pRe D p u) ∧ (pIn D u = true → I' 17 u = nI (pSl D p u))) ∧ bm (I' 13 9) (D 0 0) (pLv D p) := by
  have hn := hD.2.1
  intro r
  induction r with
  | zero =>
    intro s fuel I hs hf h hb hl
    obtain ⟨fuel, rfl⟩ : ∃ m, fuel = m + 1 := ⟨fuel - 1, by omega⟩
    obtain ⟨I1, a1, a2, a3⟩ := pl_war_L hD (p := p) (D 0 0) 0 hF I (by omega) (by unfold hF; omega) h (fun u hu => (hb u (by omega)).1)
    unfold mPl_choosePlan_L7 mPl_choosePlan_B7
    rw [h.1]
    simp (disch := omega) only [↓reduceIte, h_let, hg_in, hg_zb, hg_z0, hg_z1, hg_nz, Option.bind_some, if_pos, if_neg, bI_0, bI_n0, nI_add, nI_mul, nI_ltI, nI_leI, nI_eq, nI_clamp, nI_subN, nI_divN, nI_mod2, nI_m1e, nI_em1, nI_m2e, nI_lt0, m1_lt0, m1_lt, m1_le, h_u_at, h_u_off2, h_u_pl, li_0, li_1, li_2, li_3, li_4, li_5, li_6, li_7, li_8, li_9, li_10, li_11, li_12, li_13, li_14, li_15, li_16, li_17, li_18, li_19, li_20, li_21, li_22, li_23, li_24, li_25, li_26, li_27, li_28, li_29, li_30, li_31, li_32, li_40, li_43, li_45, li_47, li_48, li_57, li_59, li_60, li_61, li_62, li_63, li_64, li_80, li_92, li_97, li_99, li_100, li_122, li_123, li_125, li_166, li_201, li_210, li_250, li_255, li_256, li_257, li_258, li_259, li_260, li_261, li_262, li_263, li_264, li_265, li_266, li_267, li_268, li_300, li_500, li_1000, li_12345, li_27720, li_1000000, li_1103515245, ne_m1, ne_m2, a1]
    refine ⟨I1, rfl, fun a i h1 h2 h3 => a2 a i h1, fun u hu => ⟨a3 u hu, fun hi => by rw [a2 17 u (by decide)]; exact (hb u (by omega)).2 hi⟩, ?_⟩
    rw [a2 13 9 (by decide)]
    exact bm_congr hl (fun u hu => by have : u < s := by omega
                                      simp [this])
  | succ r ih =>
    intro s fuel I hs hf h hb hl
    obtain ⟨fuel, rfl⟩ : ∃ m, fuel = m + 1 := ⟨fuel - 1, by omega⟩
    have h1c : cR D (h_u I 18 s (nI 1 <<< (nI s &&& nI 31))) := cR_of h (fun c i h1 h2 => h_u_off2 _ _ _ _ (by omega))
    have ein := ro_isIn hD h1c (s := s) (by omega)
    have nxt : ∀ I1 : hI, cR D I1 → (∀ a i, (a ≠ 18 ∨ i ≠ s) → (a ≠ 17 ∨ i ≠ s) → (a ≠ 13 ∨ i ≠ 9) → I1 a i = I a i) → bm (I1 18 s) (D 0 0) (pE D p s) → (pIn D s = true → I1 17 s = nI (pSl D p s)) → bm (I1 13 9) (D 0 0) (fun u => decide (u < s + 1) && pLv D p u) → ∃ I' : hI, mPl_choosePlan_L7 fuel (nI p) (nI (s + 1)) I1 = some I' ∧ (∀ a i, a ≠ 18 → a ≠ 17 → (a ≠ 13 ∨ i ≠ 9) → I' a i = I a i) ∧ (∀ u, u < D 0 0 → bm (I' 18 u) (D 0 0) (pRe D p u) ∧ (pIn D u = true → I' 17 u = nI (pSl D p u))) ∧ bm (I' 13 9) (D 0 0) (pLv D p) := by
      intro I1 c1 c2 c3 c4 c5
      obtain ⟨I', a1, a2, a3⟩ := ih (s + 1) fuel I1 (by omega) (by omega) c1 (fun u hu => by
        by_cases e : u = s
        · subst e; exact ⟨c3, c4⟩
        · rw [c2 18 u (Or.inr e) (Or.inl (by decide)) (Or.inl (by decide)), c2 17 u (Or.inl (by decide)) (Or.inr e) (Or.inl (by decide))]
          exact hb u (by omega)) c5
      exact ⟨I', a1, fun a i g1 g2 g3 => by rw [a2 a i g1 g2 g3, c2 a i (Or.inl g1) (Or.inl g2) g3], a3⟩
    unfold mPl_choosePlan_L7 mPl_choosePlan_B7
    rw [h.1]
    by_cases hi : 0 < D 1 s
    · have e1 : decide (s < D 0 0 ∧ 0 < D 1 s) = true := by simp [hi]; omega
      rw [e1, bI_t] at ein
      have ech := pl_choiceOf hD hp (s := s) (by omega) h1c
      rw [if_pos hi] at ech
      have hcl := pCh_lt (D := D) (p := p) hi
      have h8 := hD.2.2.2.1 s (by omega)
      have e8 : s * 8 + pCh D p s = pSl D p s := by unfold pSl; omega
      have h2c : cR D (h_u (h_u I 18 s (nI 1 <<< (nI s &&& nI 31))) 17 s (nI (pSl D p s))) := cR_of h1c (fun c i h1 h2 => h_u_off2 _ _ _ _ (by omega))
      obtain ⟨I', a1, a2, a3, a4⟩ := pl_noteWays hD (s := s) (c := pCh D p s) (by omega) hcl h2c (f := fun t => decide (t = s)) (g := fun u => decide (u < s) && pLv D p u) (by rw [h_u_off2 _ _ _ _ (by decide), h_u_at]; exact bm_bit (by omega) hn) (by rw [h_u_off2 _ _ _ _ (by decide), h_u_off2 _ _ _ _ (by decide)]; exact hl)
      have e9 : 8 * s + pCh D p s = pSl D p s := rfl
      rw [e9] at a1 a3 a4
      have n1 := nxt I' (cR_of h2c (fun c i g1 g2 => a2 c i (by omega) (by omega))) (fun a i g1 g2 g3 => by
          rw [a2 a i g1 g3]
          have q1 : h_u (h_u I 18 s (nI 1 <<< (nI s &&& nI 31))) 17 s (nI (pSl D p s)) a i = h_u I 18 s (nI 1 <<< (nI s &&& nI 31)) a i := by
            rcases g2 with g2 | g2
            · exact h_u_off2 _ _ _ _ g2
            · by_cases e : a = 17
              · subst e; exact h_u_pl _ _ _ g2
              · exact h_u_off2 _ _ _ _ e
          rw [q1]
          rcases g1 with g1 | g1
          · exact h_u_off2 _ _ _ _ g1
          · by_cases e : a = 18
            · subst e; exact h_u_pl _ _ _ g1
            · exact h_u_off2 _ _ _ _ e) (bm_congr a3 (fun t ht => by
          show _ = (decide (t = s) || (pIn D s && decide (0 < pW D p s t)))
          rw [show pIn D s = true from by simp [pIn, hi], Bool.true_and]
          rfl)) (fun _ => by rw [a2 17 s (Or.inl (by decide)) (Or.inl (by decide)), h_u_at]) (bm_congr a4 (fun t ht => by
          by_cases e : t = s
          · subst e; simp [pLv, pIn, hi]
          · by_cases e2 : t < s
            · have : t < s + 1 := by omega
              simp [e, e2, this]
            · have : ¬ t < s + 1 := by omega
              simp [e, e2, this]))
      simp (disch := omega) only [↓reduceIte, h_let, hg_in, hg_zb, hg_z0, hg_z1, hg_nz, Option.bind_some, if_pos, if_neg, bI_0, bI_n0, nI_add, nI_mul, nI_ltI, nI_leI, nI_eq, nI_clamp, nI_subN, nI_divN, nI_mod2, nI_m1e, nI_em1, nI_m2e, nI_lt0, m1_lt0, m1_lt, m1_le, h_u_at, h_u_off2, h_u_pl, li_0, li_1, li_2, li_3, li_4, li_5, li_6, li_7, li_8, li_9, li_10, li_11, li_12, li_13, li_14, li_15, li_16, li_17, li_18, li_19, li_20, li_21, li_22, li_23, li_24, li_25, li_26, li_27, li_28, li_29, li_30, li_31, li_32, li_40, li_43, li_45, li_47, li_48, li_57, li_59, li_60, li_61, li_62, li_63, li_64, li_80, li_92, li_97, li_99, li_100, li_122, li_123, li_125, li_166, li_201, li_210, li_250, li_255, li_256, li_257, li_258, li_259, li_260, li_261, li_262, li_263, li_264, li_265, li_266, li_267, li_268, li_300, li_500, li_1000, li_12345, li_27720, li_1000000, li_1103515245, ne_m1, ne_m2, ein, ech, e8, a1]
      exact n1
    · have e1 : decide (s < D 0 0 ∧ 0 < D 1 s) = false := by simp [hi]
      rw [e1, bI_f] at ein
      have n1 := nxt (h_u I 18 s (nI 1 <<< (nI s &&& nI 31))) h1c (fun a i g1 g2 g3 => by
          rcases g1 with g1 | g1
          · exact h_u_off2 _ _ _ _ g1
          · by_cases e : a = 18
            · subst e; exact h_u_pl _ _ _ g1
            · exact h_u_off2 _ _ _ _ e) (by rw [h_u_at]; exact bm_congr (bm_bit (by omega) hn) (fun t ht => by simp [pE, pIn, hi])) (fun hin => by simp [pIn, hi] at hin) (by
          rw [h_u_off2 _ _ _ _ (by decide)]
          refine bm_congr hl (fun t ht => ?_)
          by_cases e : t = s
          · subst e; simp [pLv, pIn, hi]
          · by_cases e2 : t < s
            · have : t < s + 1 := by omega
              simp [e2, this]
            · have : ¬ t < s + 1 := by omega
              simp [e2, this])
      simp (disch := omega) only [↓reduceIte, h_let, hg_in, hg_zb, hg_z0, hg_z1, hg_nz, Option.bind_some, if_pos, if_neg, bI_0, bI_n0, nI_add, nI_mul, nI_ltI, nI_leI, nI_eq, nI_clamp, nI_subN, nI_divN, nI_mod2, nI_m1e, nI_em1, nI_m2e, nI_lt0, m1_lt0, m1_lt, m1_le, h_u_at, h_u_off2, h_u_pl, li_0, li_1, li_2, li_3, li_4, li_5, li_6, li_7, li_8, li_9, li_10, li_11, li_12, li_13, li_14, li_15, li_16, li_17, li_18, li_19, li_20, li_21, li_22, li_23, li_24, li_25, li_26, li_27, li_28, li_29, li_30, li_31, li_32, li_40, li_43, li_45, li_47, li_48, li_57, li_59, li_60, li_61, li_62, li_63, li_64, li_80, li_92, li_97, li_99, li_100, li_122, li_123, li_125, li_166, li_201, li_210, li_250, li_255, li_256, li_257, li_258, li_259, li_260, li_261, li_262, li_263, li_264, li_265, li_266, li_267, li_268, li_300, li_500, li_1000, li_12345, li_27720, li_1000000, li_1103515245, ne_m1, ne_m2, ein]
      exact n1
/-- what the class holds of a plan -/
def plC (D : rD) (p : Nat) (I : hI) : Prop := (∀ u, u < D 0 0 → bm (I 18 u) (D 0 0) (pRe D p u) ∧ (pIn D u = true → I 17 u = nI (pSl D p u))) ∧ bm (I 13 9) (D 0 0) (pLv D p)
theorem pl_choosePlan (hD : rOk D) (hp : p < 2 ^ 31) {I : hI} (h : cR D I) : ∃ I' : hI, mPl_choosePlan (nI p) I = some I' ∧ (∀ a i, a ≠ 18 → a ≠ 17 → (a ≠ 13 ∨ i ≠ 9) → I' a i = I a i) ∧ plC D p I' := by
  have hn := hD.2.1
  obtain ⟨I', a1, a2, a3, a4⟩ := pl_choose_L hD hp (D 0 0) 0 hF (h_u I 13 9 (nI 0)) (by omega) (by unfold hF; omega) (cR_of h (fun c i h1 h2 => h_u_off2 _ _ _ _ (by omega))) (fun u hu => absurd hu (by omega)) (by rw [h_u_at]; exact bm_congr (bm_zero _) (fun u hu => by simp))
  unfold mPl_choosePlan
  simp (disch := omega) only [↓reduceIte, h_let, hg_in, hg_zb, hg_z0, hg_z1, hg_nz, Option.bind_some, if_pos, if_neg, bI_0, bI_n0, nI_add, nI_mul, nI_ltI, nI_leI, nI_eq, nI_clamp, nI_subN, nI_divN, nI_mod2, nI_m1e, nI_em1, nI_m2e, nI_lt0, m1_lt0, m1_lt, m1_le, h_u_at, h_u_off2, h_u_pl, li_0, li_1, li_2, li_3, li_4, li_5, li_6, li_7, li_8, li_9, li_10, li_11, li_12, li_13, li_14, li_15, li_16, li_17, li_18, li_19, li_20, li_21, li_22, li_23, li_24, li_25, li_26, li_27, li_28, li_29, li_30, li_31, li_32, li_40, li_43, li_45, li_47, li_48, li_57, li_59, li_60, li_61, li_62, li_63, li_64, li_80, li_92, li_97, li_99, li_100, li_122, li_123, li_125, li_166, li_201, li_210, li_250, li_255, li_256, li_257, li_258, li_259, li_260, li_261, li_262, li_263, li_264, li_265, li_266, li_267, li_268, li_300, li_500, li_1000, li_12345, li_27720, li_1000000, li_1103515245, ne_m1, ne_m2, a1]
  refine ⟨I', rfl, fun a i h1 h2 h3 => ?_, a3, a4⟩
  rw [a2 a i h1 h2 h3]
  rcases h3 with h3 | h3
  · exact h_u_off2 _ _ _ _ h3
  · by_cases e : a = 13
    · subst e; exact h_u_pl _ _ _ h3
    · exact h_u_off2 _ _ _ _ e
end PlC
