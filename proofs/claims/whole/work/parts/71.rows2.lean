/-! The rows of a plan's equations, as the class lays them. -/
def pO (D : rD) (p s t : Nat) : Nat := sumU t (fun u => if pIn D u = true then 0 else pW D p s u)
/-- an equation: weights, what is paid, what ends -/
def eV (D : rD) (p : Nat) (f : Nat → Bool) (s j : Nat) : Int := if j < cnt f (D 0 0) then (if j = cnt f s then 4 else 0) - (pW D p s (sel f (D 0 0) j) : Int) else if j = cnt f (D 0 0) then (D 3 (pSl D p s) : Int) else (D 4 (pSl D p s) : Int) + (pO D p s (D 0 0) : Int)
def eT (D : rD) (p : Nat) (f : Nat → Bool) (s t j : Nat) : Int := if j < cnt f (D 0 0) then (if j = cnt f s then 4 else 0) - (if sel f (D 0 0) j < t then (pW D p s (sel f (D 0 0) j) : Int) else 0) else if j = cnt f (D 0 0) then (D 3 (pSl D p s) : Int) else (D 4 (pSl D p s) : Int) + (pO D p s t : Int)
theorem sel_ne_lt {a t : Nat} {x : Int} (h : a ≠ t) : (if a < t + 1 then x else 0) = (if a < t then x else 0) := by
  by_cases e : a < t
  · rw [if_pos e, if_pos (by omega)]
  · rw [if_neg e, if_neg (by omega)]
/-- which row a state has -/
def rowOk (D : rD) (f : Nat → Bool) (I : hI) : Prop := I 13 11 = nI (cnt f (D 0 0)) ∧ ∀ u, u < D 0 0 → I 19 u = if f u = true then nI (cnt f u) else (-1 : Int32)
section PlR
variable {D : rD} {p : Nat} {f : Nat → Bool}
theorem pl_row_L (hD : rOk D) (hfi : ∀ u, f u = true → pIn D u = true) {s : Nat} (hs : s < D 0 0) (hfs : f s = true) {I : hI} (h : cR D I) (hr : rowOk D f I) : ∀ (r t fuel : Nat) (J : hJ), t + r = D 0 0 → r < fuel → (∀ j, j < cnt f (D 0 0) + 2 → J (21 + cnt f s) j = lI (eT D p f s t j)) → ∃ J' : hJ, mPl_makeRow_L99 fuel (21 + cnt f s) (nI (pSl D p s)) (nI t) I J = some J' ∧ (∀ a i, a ≠ 21 + cnt f s → J' a i = J a i) ∧ ∀ j, j < cnt f (D 0 0) + 2 → J' (21 + cnt f s) j = lI (eT D p f s (D 0 0) j) := by
  have hn := hD.2.1
  have hm := cnt_le f (D 0 0)
  have hin : 0 < D 1 s := by have := hfi s hfs; simpa [pIn] using this
  have hcl := pCh_lt (D := D) (p := p) hin
  intro r
  induction r with
  | zero =>
    intro t fuel J ht hf gJ
    obtain ⟨fuel, rfl⟩ : ∃ m, fuel = m + 1 := ⟨fuel - 1, by omega⟩
    obtain rfl : t = D 0 0 := by omega
    unfold mPl_makeRow_L99 mPl_makeRow_B99
    rw [h.1]
    simp (disch := omega) only [↓reduceIte, h_let, hg_in, hg_zb, hg_z0, hg_z1, hg_nz, Option.bind_some, if_pos, if_neg, bI_0, bI_n0, nI_add, nI_mul, nI_ltI, nI_leI, nI_eq, nI_clamp, nI_subN, nI_divN, nI_mod2, nI_m1e, nI_em1, nI_m2e, nI_lt0, m1_lt0, m1_lt, m1_le, h_u_at, h_u_off2, h_u_pl, li_0, li_1, li_2, li_3, li_4, li_5, li_6, li_7, li_8, li_9, li_10, li_11, li_12, li_13, li_14, li_15, li_16, li_17, li_18, li_19, li_20, li_21, li_22, li_23, li_24, li_25, li_26, li_27, li_28, li_29, li_30, li_31, li_32, li_40, li_43, li_45, li_47, li_48, li_57, li_59, li_60, li_61, li_62, li_63, li_64, li_80, li_92, li_97, li_99, li_100, li_122, li_123, li_125, li_166, li_201, li_210, li_250, li_255, li_256, li_257, li_258, li_259, li_260, li_261, li_262, li_263, li_264, li_265, li_266, li_267, li_268, li_300, li_500, li_1000, li_12345, li_27720, li_1000000, li_1103515245, ne_m1, ne_m2]
    exact ⟨J, rfl, fun _ _ _ => rfl, gJ⟩
  | succ r ih =>
    intro t fuel J ht hf gJ
    obtain ⟨fuel, rfl⟩ : ∃ m, fuel = m + 1 := ⟨fuel - 1, by omega⟩
    have eq := ro_quarters hD h hs hcl (t := t) (by omega)
    have e9 : 8 * s + pCh D p s = pSl D p s := rfl
    rw [e9] at eq
    have e4 := (hD.2.2.2.2 s hs _ hcl).2.2.2.1 t (by omega)
    rw [e9] at e4
    have ein := ro_isIn hD h (s := t) (by omega)
    have e1 : decide (t < D 0 0 ∧ 0 < D 1 t) = pIn D t := by
      unfold pIn
      have : t < D 0 0 := by omega
      simp [this]
    rw [e1] at ein
    have hw : D 5 (10 * pSl D p s + t) = pW D p s t := rfl
    rw [hw] at eq e4
    have hsel : ∀ j, j < cnt f (D 0 0) → f (sel f (D 0 0) j) = true ∧ cnt f (sel f (D 0 0) j) = j := fun j hj => (sel_spec f (D 0 0) j hj).2
    have hsl := sel_spec f (D 0 0)
    have hrow := hr.2 t (by omega)
    have hpO : pO D p s (t + 1) = pO D p s t + (if pIn D t = true then 0 else pW D p s t) := sumU_succ _ _
    unfold mPl_makeRow_L99 mPl_makeRow_B99
    rw [h.1, hr.1]
    have nxt : ∀ J1 : hJ, (∀ a i, a ≠ 21 + cnt f s → J1 a i = J a i) → (∀ j, j < cnt f (D 0 0) + 2 → J1 (21 + cnt f s) j = lI (eT D p f s (t + 1) j)) → ∃ J' : hJ, mPl_makeRow_L99 fuel (21 + cnt f s) (nI (pSl D p s)) (nI (t + 1)) I J1 = some J' ∧ (∀ a i, a ≠ 21 + cnt f s → J' a i = J a i) ∧ ∀ j, j < cnt f (D 0 0) + 2 → J' (21 + cnt f s) j = lI (eT D p f s (D 0 0) j) := by
      intro J1 c1 c2
      obtain ⟨J', a1, a2, a3⟩ := ih (t + 1) fuel J1 (by omega) (by omega) c2
      exact ⟨J', a1, fun a i hne => by rw [a2 a i hne, c1 a i hne], a3⟩
    cases hi : pIn D t
    · rw [hi, bI_f] at ein
      have hft : f t = false := by
        cases hq : f t
        · rfl
        · have := hfi t hq; rw [hi] at this; exact absurd this (by decide)
      have n1 := nxt (h_u J (21 + cnt f s) (cnt f (D 0 0) + 1) (J (21 + cnt f s) (cnt f (D 0 0) + 1) + lI (pW D p s t : Int))) (fun a i hne => h_u_off2 _ _ _ _ hne) (fun j hj => by
        by_cases ej : j = cnt f (D 0 0) + 1
        · subst ej
          rw [h_u_at, gJ _ hj, lI_add]
          congr 1
          unfold eT
          rw [if_neg (by omega), if_neg (by omega), if_neg (by omega), if_neg (by omega), hpO, hi]
          simp
          omega
        · rw [h_u_pl _ _ _ ej, gJ j hj]
          congr 1
          unfold eT
          by_cases hjm : j < cnt f (D 0 0)
          · rw [if_pos hjm, if_pos hjm]
            have hne : sel f (D 0 0) j ≠ t := fun e => by have := (hsel j hjm).1; rw [e, hft] at this; exact absurd this (by decide)
            rw [sel_ne_lt hne]
          · rw [if_neg hjm, if_neg hjm, if_pos (by omega), if_pos (by omega)])
      simp (disch := omega) only [↓reduceIte, h_let, hg_in, hg_zb, hg_z0, hg_z1, hg_nz, Option.bind_some, if_pos, if_neg, bI_0, bI_n0, nI_add, nI_mul, nI_ltI, nI_leI, nI_eq, nI_clamp, nI_subN, nI_divN, nI_mod2, nI_m1e, nI_em1, nI_m2e, nI_lt0, m1_lt0, m1_lt, m1_le, h_u_at, h_u_off2, h_u_pl, li_0, li_1, li_2, li_3, li_4, li_5, li_6, li_7, li_8, li_9, li_10, li_11, li_12, li_13, li_14, li_15, li_16, li_17, li_18, li_19, li_20, li_21, li_22, li_23, li_24, li_25, li_26, li_27, li_28, li_29, li_30, li_31, li_32, li_40, li_43, li_45, li_47, li_48, li_57, li_59, li_60, li_61, li_62, li_63, li_64, li_80, li_92, li_97, li_99, li_100, li_122, li_123, li_125, li_166, li_201, li_210, li_250, li_255, li_256, li_257, li_258, li_259, li_260, li_261, li_262, li_263, li_264, li_265, li_266, li_267, li_268, li_300, li_500, li_1000, li_12345, li_27720, li_1000000, li_1103515245, ne_m1, ne_m2, eq, ein, nI_lI]
      exact n1
    · rw [hi, bI_t] at ein
      cases hft : f t
      · rw [hft] at hrow
        have n1 := nxt J (fun _ _ _ => rfl) (fun j hj => by
          rw [gJ j hj]
          congr 1
          unfold eT
          by_cases hjm : j < cnt f (D 0 0)
          · rw [if_pos hjm, if_pos hjm]
            have hne : sel f (D 0 0) j ≠ t := fun e => by have := (hsel j hjm).1; rw [e, hft] at this; exact absurd this (by decide)
            rw [sel_ne_lt hne]
          · rw [if_neg hjm, if_neg hjm]
            by_cases ej : j = cnt f (D 0 0)
            · rw [if_pos ej, if_pos ej]
            · rw [if_neg ej, if_neg ej, hpO, hi]
              simp)
        have ho : mC_isOutside (-1 : Int32) (nI (cnt f (D 0 0))) = nI 1 := rfl
        simp (disch := omega) only [↓reduceIte, h_let, hg_in, hg_zb, hg_z0, hg_z1, hg_nz, Option.bind_some, if_pos, if_neg, bI_0, bI_n0, nI_add, nI_mul, nI_ltI, nI_leI, nI_eq, nI_clamp, nI_subN, nI_divN, nI_mod2, nI_m1e, nI_em1, nI_m2e, nI_lt0, m1_lt0, m1_lt, m1_le, h_u_at, h_u_off2, h_u_pl, li_0, li_1, li_2, li_3, li_4, li_5, li_6, li_7, li_8, li_9, li_10, li_11, li_12, li_13, li_14, li_15, li_16, li_17, li_18, li_19, li_20, li_21, li_22, li_23, li_24, li_25, li_26, li_27, li_28, li_29, li_30, li_31, li_32, li_40, li_43, li_45, li_47, li_48, li_57, li_59, li_60, li_61, li_62, li_63, li_64, li_80, li_92, li_97, li_99, li_100, li_122, li_123, li_125, li_166, li_201, li_210, li_250, li_255, li_256, li_257, li_258, li_259, li_260, li_261, li_262, li_263, li_264, li_265, li_266, li_267, li_268, li_300, li_500, li_1000, li_12345, li_27720, li_1000000, li_1103515245, ne_m1, ne_m2, eq, ein, hrow, Bool.false_eq_true, ho]
        exact n1
      · rw [hft] at hrow
        have hlt := cnt_lt f (show t < D 0 0 by omega) hft
        have hst := sel_cnt f (show t < D 0 0 by omega) hft
        have n1 := nxt (h_u J (21 + cnt f s) (cnt f t) (J (21 + cnt f s) (cnt f t) - lI (pW D p s t : Int))) (fun a i hne => h_u_off2 _ _ _ _ hne) (fun j hj => by
          by_cases ej : j = cnt f t
          · subst ej
            rw [h_u_at, gJ _ hj, lI_sub]
            congr 1
            unfold eT
            rw [if_pos hlt, if_pos hlt, hst, if_neg (Nat.lt_irrefl t), if_pos (Nat.lt_succ_self t)]
            omega
          · rw [h_u_pl _ _ _ ej, gJ j hj]
            congr 1
            unfold eT
            by_cases hjm : j < cnt f (D 0 0)
            · rw [if_pos hjm, if_pos hjm]
              have hne : sel f (D 0 0) j ≠ t := fun e => by have := (hsel j hjm).2; rw [e] at this; exact ej this.symm
              rw [sel_ne_lt hne]
            · rw [if_neg hjm, if_neg hjm]
              by_cases ej : j = cnt f (D 0 0)
              · rw [if_pos ej, if_pos ej]
              · rw [if_neg ej, if_neg ej, hpO, hi]
                simp)
        have ho : mC_isOutside (nI (cnt f t)) (nI (cnt f (D 0 0))) = nI 0 := by
          unfold mC_isOutside
          simp (disch := omega) only [↓reduceIte, h_let, hg_in, hg_zb, hg_z0, hg_z1, hg_nz, Option.bind_some, if_pos, if_neg, bI_0, bI_n0, nI_add, nI_mul, nI_ltI, nI_leI, nI_eq, nI_clamp, nI_subN, nI_divN, nI_mod2, nI_m1e, nI_em1, nI_m2e, nI_lt0, m1_lt0, m1_lt, m1_le, h_u_at, h_u_off2, h_u_pl, li_0, li_1, li_2, li_3, li_4, li_5, li_6, li_7, li_8, li_9, li_10, li_11, li_12, li_13, li_14, li_15, li_16, li_17, li_18, li_19, li_20, li_21, li_22, li_23, li_24, li_25, li_26, li_27, li_28, li_29, li_30, li_31, li_32, li_40, li_43, li_45, li_47, li_48, li_57, li_59, li_60, li_61, li_62, li_63, li_64, li_80, li_92, li_97, li_99, li_100, li_122, li_123, li_125, li_166, li_201, li_210, li_250, li_255, li_256, li_257, li_258, li_259, li_260, li_261, li_262, li_263, li_264, li_265, li_266, li_267, li_268, li_300, li_500, li_1000, li_12345, li_27720, li_1000000, li_1103515245, ne_m1, ne_m2]
        simp (disch := omega) only [↓reduceIte, h_let, hg_in, hg_zb, hg_z0, hg_z1, hg_nz, Option.bind_some, if_pos, if_neg, bI_0, bI_n0, nI_add, nI_mul, nI_ltI, nI_leI, nI_eq, nI_clamp, nI_subN, nI_divN, nI_mod2, nI_m1e, nI_em1, nI_m2e, nI_lt0, m1_lt0, m1_lt, m1_le, h_u_at, h_u_off2, h_u_pl, li_0, li_1, li_2, li_3, li_4, li_5, li_6, li_7, li_8, li_9, li_10, li_11, li_12, li_13, li_14, li_15, li_16, li_17, li_18, li_19, li_20, li_21, li_22, li_23, li_24, li_25, li_26, li_27, li_28, li_29, li_30, li_31, li_32, li_40, li_43, li_45, li_47, li_48, li_57, li_59, li_60, li_61, li_62, li_63, li_64, li_80, li_92, li_97, li_99, li_100, li_122, li_123, li_125, li_166, li_201, li_210, li_250, li_255, li_256, li_257, li_258, li_259, li_260, li_261, li_262, li_263, li_264, li_265, li_266, li_267, li_268, li_300, li_500, li_1000, li_12345, li_27720, li_1000000, li_1103515245, ne_m1, ne_m2, eq, ein, hrow, ho, nI_lI]
        exact n1
theorem pl_zero_L {a1 m : Nat} {I : hI} {v2 v3 : Int32} (KK : hJ → Option hJ) (hK : ∀ (fuel : Nat) (J : hJ), mPl_makeRow_L38 (fuel + 1) a1 v2 v3 (nI 12) I J = KK J) : ∀ (r t fuel : Nat) (J : hJ), t + r = 12 → r < fuel → (∀ j, j < t → J a1 j = lI 0) → ∃ J' : hJ, mPl_makeRow_L38 fuel a1 v2 v3 (nI t) I J = KK J' ∧ (∀ a i, a ≠ a1 → J' a i = J a i) ∧ ∀ j, j < 12 → J' a1 j = lI 0 := by
  intro r
  induction r with
  | zero =>
    intro t fuel J ht hf gJ
    obtain ⟨fuel, rfl⟩ : ∃ m, fuel = m + 1 := ⟨fuel - 1, by omega⟩
    obtain rfl : t = 12 := by omega
    exact ⟨J, hK fuel J, fun _ _ _ => rfl, gJ⟩
  | succ r ih =>
    intro t fuel J ht hf gJ
    obtain ⟨fuel, rfl⟩ : ∃ m, fuel = m + 1 := ⟨fuel - 1, by omega⟩
    obtain ⟨J', a1', a2, a3⟩ := ih (t + 1) fuel (h_u J a1 t (lI 0)) (by omega) (by omega) (fun j hj => by
      by_cases e : j = t
      · subst e; exact h_u_at _ _ _ _
      · rw [h_u_pl _ _ _ e]; exact gJ j (by omega))
    unfold mPl_makeRow_L38 mPl_makeRow_B38
    have e0 : (0 : Int64) = lI 0 := rfl
    simp (disch := omega) only [↓reduceIte, h_let, hg_in, hg_zb, hg_z0, hg_z1, hg_nz, Option.bind_some, if_pos, if_neg, bI_0, bI_n0, nI_add, nI_mul, nI_ltI, nI_leI, nI_eq, nI_clamp, nI_subN, nI_divN, nI_mod2, nI_m1e, nI_em1, nI_m2e, nI_lt0, m1_lt0, m1_lt, m1_le, h_u_at, h_u_off2, h_u_pl, li_0, li_1, li_2, li_3, li_4, li_5, li_6, li_7, li_8, li_9, li_10, li_11, li_12, li_13, li_14, li_15, li_16, li_17, li_18, li_19, li_20, li_21, li_22, li_23, li_24, li_25, li_26, li_27, li_28, li_29, li_30, li_31, li_32, li_40, li_43, li_45, li_47, li_48, li_57, li_59, li_60, li_61, li_62, li_63, li_64, li_80, li_92, li_97, li_99, li_100, li_122, li_123, li_125, li_166, li_201, li_210, li_250, li_255, li_256, li_257, li_258, li_259, li_260, li_261, li_262, li_263, li_264, li_265, li_266, li_267, li_268, li_300, li_500, li_1000, li_12345, li_27720, li_1000000, li_1103515245, ne_m1, ne_m2, e0, a1']
    exact ⟨J', rfl, fun a i hne => by rw [a2 a i hne, h_u_off2 _ _ _ _ hne], a3⟩
theorem pl_makeRow (hD : rOk D) (hfi : ∀ u, f u = true → pIn D u = true) {s : Nat} (hs : s < D 0 0) (hfs : f s = true) {I : hI} (h : cR D I) (hr : rowOk D f I) (J : hJ) : ∃ J' : hJ, mPl_makeRow (21 + cnt f s) (nI (cnt f s)) (nI (pSl D p s)) I J = some J' ∧ (∀ a i, a ≠ 21 + cnt f s → J' a i = J a i) ∧ ∀ j, j < cnt f (D 0 0) + 2 → J' (21 + cnt f s) j = lI (eV D p f s j) := by
  have hn := hD.2.1
  have hm := cnt_le f (D 0 0)
  have hin : 0 < D 1 s := by have := hfi s hfs; simpa [pIn] using this
  have hcl := pCh_lt (D := D) (p := p) hin
  have h8 := hD.2.2.2.1 s hs
  have hlt := cnt_lt f hs hfs
  obtain ⟨_, d3, d4, _⟩ := hD.2.2.2.2 s hs _ hcl
  obtain ⟨_, e3, e4, _⟩ := h.2.2.2.2.2 s hs _ hcl
  have e9 : 8 * s + pCh D p s = pSl D p s := rfl
  rw [e9] at d3 d4 e3 e4
  have hps : pSl D p s < 80 := by unfold pSl; omega
  have hK : ∀ (fuel : Nat) (J : hJ), mPl_makeRow_L38 (fuel + 1) (21 + cnt f s) (nI (cnt f s)) (nI (pSl D p s)) (nI 12) I J = mPl_makeRow_L99 hF (21 + cnt f s) (nI (pSl D p s)) (nI 0) I (h_u (h_u (h_u J (21 + cnt f s) (cnt f s) (lI 4)) (21 + cnt f s) (cnt f (D 0 0)) (lI (D 3 (pSl D p s) : Int))) (21 + cnt f s) (cnt f (D 0 0) + 1) (lI (D 4 (pSl D p s) : Int))) := by
    intro fuel J
    unfold mPl_makeRow_L38 mPl_makeRow_B38
    rw [hr.1]
    have e0 : (4 : Int64) = lI 4 := rfl
    simp (disch := omega) only [↓reduceIte, h_let, hg_in, hg_zb, hg_z0, hg_z1, hg_nz, Option.bind_some, if_pos, if_neg, bI_0, bI_n0, nI_add, nI_mul, nI_ltI, nI_leI, nI_eq, nI_clamp, nI_subN, nI_divN, nI_mod2, nI_m1e, nI_em1, nI_m2e, nI_lt0, m1_lt0, m1_lt, m1_le, h_u_at, h_u_off2, h_u_pl, li_0, li_1, li_2, li_3, li_4, li_5, li_6, li_7, li_8, li_9, li_10, li_11, li_12, li_13, li_14, li_15, li_16, li_17, li_18, li_19, li_20, li_21, li_22, li_23, li_24, li_25, li_26, li_27, li_28, li_29, li_30, li_31, li_32, li_40, li_43, li_45, li_47, li_48, li_57, li_59, li_60, li_61, li_62, li_63, li_64, li_80, li_92, li_97, li_99, li_100, li_122, li_123, li_125, li_166, li_201, li_210, li_250, li_255, li_256, li_257, li_258, li_259, li_260, li_261, li_262, li_263, li_264, li_265, li_266, li_267, li_268, li_300, li_500, li_1000, li_12345, li_27720, li_1000000, li_1103515245, ne_m1, ne_m2, e0, e3, e4, nI_lI]
  obtain ⟨J1, a1, a2, a3⟩ := pl_zero_L (m := 0) _ hK 12 0 hF J (by omega) (by decide) (fun j hj => absurd hj (by omega))
  have hO0 : pO D p s 0 = 0 := rfl
  obtain ⟨J2, b1, b2, b3⟩ := pl_row_L (p := p) hD hfi hs hfs h hr (D 0 0) 0 hF (h_u (h_u (h_u J1 (21 + cnt f s) (cnt f s) (lI 4)) (21 + cnt f s) (cnt f (D 0 0)) (lI (D 3 (pSl D p s) : Int))) (21 + cnt f s) (cnt f (D 0 0) + 1) (lI (D 4 (pSl D p s) : Int))) (by omega) (by unfold hF; omega) (fun j hj => by
    unfold eT
    by_cases h1 : j < cnt f (D 0 0)
    · rw [if_pos h1, if_neg (Nat.not_lt_zero (sel f (D 0 0) j)), h_u_pl _ _ _ (by omega), h_u_pl _ _ _ (by omega)]
      by_cases h2 : j = cnt f s
      · subst h2; rw [h_u_at, if_pos rfl]; rfl
      · rw [h_u_pl _ _ _ h2, if_neg h2, a3 j (by omega)]; rfl
    · rw [if_neg h1]
      by_cases h2 : j = cnt f (D 0 0)
      · subst h2; rw [if_pos rfl, h_u_pl _ _ _ (by omega), h_u_at]
      · rw [if_neg h2]
        have h3 : j = cnt f (D 0 0) + 1 := by omega
        subst h3
        rw [h_u_at, hO0]
        congr 1)
  unfold mPl_makeRow
  rw [hr.1]
  have ho1 : mC_isOutside (nI (pSl D p s)) (nI 80) = nI 0 := by
    unfold mC_isOutside
    simp (disch := omega) only [↓reduceIte, h_let, hg_in, hg_zb, hg_z0, hg_z1, hg_nz, Option.bind_some, if_pos, if_neg, bI_0, bI_n0, nI_add, nI_mul, nI_ltI, nI_leI, nI_eq, nI_clamp, nI_subN, nI_divN, nI_mod2, nI_m1e, nI_em1, nI_m2e, nI_lt0, m1_lt0, m1_lt, m1_le, h_u_at, h_u_off2, h_u_pl, li_0, li_1, li_2, li_3, li_4, li_5, li_6, li_7, li_8, li_9, li_10, li_11, li_12, li_13, li_14, li_15, li_16, li_17, li_18, li_19, li_20, li_21, li_22, li_23, li_24, li_25, li_26, li_27, li_28, li_29, li_30, li_31, li_32, li_40, li_43, li_45, li_47, li_48, li_57, li_59, li_60, li_61, li_62, li_63, li_64, li_80, li_92, li_97, li_99, li_100, li_122, li_123, li_125, li_166, li_201, li_210, li_250, li_255, li_256, li_257, li_258, li_259, li_260, li_261, li_262, li_263, li_264, li_265, li_266, li_267, li_268, li_300, li_500, li_1000, li_12345, li_27720, li_1000000, li_1103515245, ne_m1, ne_m2]
  have ho2 : mC_isOutside (nI (cnt f s)) (nI (cnt f (D 0 0))) = nI 0 := by
    unfold mC_isOutside
    simp (disch := omega) only [↓reduceIte, h_let, hg_in, hg_zb, hg_z0, hg_z1, hg_nz, Option.bind_some, if_pos, if_neg, bI_0, bI_n0, nI_add, nI_mul, nI_ltI, nI_leI, nI_eq, nI_clamp, nI_subN, nI_divN, nI_mod2, nI_m1e, nI_em1, nI_m2e, nI_lt0, m1_lt0, m1_lt, m1_le, h_u_at, h_u_off2, h_u_pl, li_0, li_1, li_2, li_3, li_4, li_5, li_6, li_7, li_8, li_9, li_10, li_11, li_12, li_13, li_14, li_15, li_16, li_17, li_18, li_19, li_20, li_21, li_22, li_23, li_24, li_25, li_26, li_27, li_28, li_29, li_30, li_31, li_32, li_40, li_43, li_45, li_47, li_48, li_57, li_59, li_60, li_61, li_62, li_63, li_64, li_80, li_92, li_97, li_99, li_100, li_122, li_123, li_125, li_166, li_201, li_210, li_250, li_255, li_256, li_257, li_258, li_259, li_260, li_261, li_262, li_263, li_264, li_265, li_266, li_267, li_268, li_300, li_500, li_1000, li_12345, li_27720, li_1000000, li_1103515245, ne_m1, ne_m2]
  have ho3 : mC_isOutside (nI (cnt f (D 0 0) + 1)) (nI 12) = nI 0 := by
    unfold mC_isOutside
    simp (disch := omega) only [↓reduceIte, h_let, hg_in, hg_zb, hg_z0, hg_z1, hg_nz, Option.bind_some, if_pos, if_neg, bI_0, bI_n0, nI_add, nI_mul, nI_ltI, nI_leI, nI_eq, nI_clamp, nI_subN, nI_divN, nI_mod2, nI_m1e, nI_em1, nI_m2e, nI_lt0, m1_lt0, m1_lt, m1_le, h_u_at, h_u_off2, h_u_pl, li_0, li_1, li_2, li_3, li_4, li_5, li_6, li_7, li_8, li_9, li_10, li_11, li_12, li_13, li_14, li_15, li_16, li_17, li_18, li_19, li_20, li_21, li_22, li_23, li_24, li_25, li_26, li_27, li_28, li_29, li_30, li_31, li_32, li_40, li_43, li_45, li_47, li_48, li_57, li_59, li_60, li_61, li_62, li_63, li_64, li_80, li_92, li_97, li_99, li_100, li_122, li_123, li_125, li_166, li_201, li_210, li_250, li_255, li_256, li_257, li_258, li_259, li_260, li_261, li_262, li_263, li_264, li_265, li_266, li_267, li_268, li_300, li_500, li_1000, li_12345, li_27720, li_1000000, li_1103515245, ne_m1, ne_m2]
  simp (disch := omega) only [↓reduceIte, h_let, hg_in, hg_zb, hg_z0, hg_z1, hg_nz, Option.bind_some, if_pos, if_neg, bI_0, bI_n0, nI_add, nI_mul, nI_ltI, nI_leI, nI_eq, nI_clamp, nI_subN, nI_divN, nI_mod2, nI_m1e, nI_em1, nI_m2e, nI_lt0, m1_lt0, m1_lt, m1_le, h_u_at, h_u_off2, h_u_pl, li_0, li_1, li_2, li_3, li_4, li_5, li_6, li_7, li_8, li_9, li_10, li_11, li_12, li_13, li_14, li_15, li_16, li_17, li_18, li_19, li_20, li_21, li_22, li_23, li_24, li_25, li_26, li_27, li_28, li_29, li_30, li_31, li_32, li_40, li_43, li_45, li_47, li_48, li_57, li_59, li_60, li_61, li_62, li_63, li_64, li_80, li_92, li_97, li_99, li_100, li_122, li_123, li_125, li_166, li_201, li_210, li_250, li_255, li_256, li_257, li_258, li_259, li_260, li_261, li_262, li_263, li_264, li_265, li_266, li_267, li_268, li_300, li_500, li_1000, li_12345, li_27720, li_1000000, li_1103515245, ne_m1, ne_m2, ho1, ho2, ho3, a1, b1]
  refine ⟨J2, rfl, fun a i hne => ?_, fun j hj => ?_⟩
  · rw [b2 a i hne, h_u_off2 _ _ _ _ hne, h_u_off2 _ _ _ _ hne, h_u_off2 _ _ _ _ hne, a2 a i hne]
  · rw [b3 j hj]
    congr 1
    unfold eT eV
    by_cases h1 : j < cnt f (D 0 0)
    · rw [if_pos h1, if_pos h1, if_pos (sel_spec f (D 0 0) j h1).1]
    · rw [if_neg h1, if_neg h1]
theorem pl_lay_L (hD : rOk D) (hfi : ∀ u, f u = true → pIn D u = true) {I : hI} (h : cR D I) (hC : plC D p I) (hr : rowOk D f I) : ∀ (r s fuel : Nat) (J : hJ), s + r = D 0 0 → r < fuel → (∀ u, u < s → f u = true → ∀ j, j < cnt f (D 0 0) + 2 → J (21 + cnt f u) j = lI (eV D p f u j)) → ∃ J' : hJ, mPl_makeRows_L86 fuel (nI s) I J = some (I, J') ∧ (∀ a i, (a < 21 ∨ 30 < a) → J' a i = J a i) ∧ ∀ u, u < D 0 0 → f u = true → ∀ j, j < cnt f (D 0 0) + 2 → J' (21 + cnt f u) j = lI (eV D p f u j) := by
  have hn := hD.2.1
  have hm := cnt_le f (D 0 0)
  intro r
  induction r with
  | zero =>
    intro s fuel J hs hf gJ
    obtain ⟨fuel, rfl⟩ : ∃ m, fuel = m + 1 := ⟨fuel - 1, by omega⟩
    unfold mPl_makeRows_L86 mPl_makeRows_B86
    rw [h.1]
    simp (disch := omega) only [↓reduceIte, h_let, hg_in, hg_zb, hg_z0, hg_z1, hg_nz, Option.bind_some, if_pos, if_neg, bI_0, bI_n0, nI_add, nI_mul, nI_ltI, nI_leI, nI_eq, nI_clamp, nI_subN, nI_divN, nI_mod2, nI_m1e, nI_em1, nI_m2e, nI_lt0, m1_lt0, m1_lt, m1_le, h_u_at, h_u_off2, h_u_pl, li_0, li_1, li_2, li_3, li_4, li_5, li_6, li_7, li_8, li_9, li_10, li_11, li_12, li_13, li_14, li_15, li_16, li_17, li_18, li_19, li_20, li_21, li_22, li_23, li_24, li_25, li_26, li_27, li_28, li_29, li_30, li_31, li_32, li_40, li_43, li_45, li_47, li_48, li_57, li_59, li_60, li_61, li_62, li_63, li_64, li_80, li_92, li_97, li_99, li_100, li_122, li_123, li_125, li_166, li_201, li_210, li_250, li_255, li_256, li_257, li_258, li_259, li_260, li_261, li_262, li_263, li_264, li_265, li_266, li_267, li_268, li_300, li_500, li_1000, li_12345, li_27720, li_1000000, li_1103515245, ne_m1, ne_m2]
    exact ⟨J, rfl, fun _ _ _ => rfl, fun u hu => gJ u (by omega)⟩
  | succ r ih =>
    intro s fuel J hs hf gJ
    obtain ⟨fuel, rfl⟩ : ∃ m, fuel = m + 1 := ⟨fuel - 1, by omega⟩
    have hrow := hr.2 s (by omega)
    unfold mPl_makeRows_L86 mPl_makeRows_B86
    rw [h.1]
    cases hft : f s
    · rw [hft] at hrow
      obtain ⟨J', a1, a2, a3⟩ := ih (s + 1) fuel J (by omega) (by omega) (fun u hu hfu => by
        by_cases e : u = s
        · subst e; rw [hft] at hfu; exact absurd hfu (by decide)
        · exact gJ u (by omega) hfu)
      have ho : mC_isOutside (-1 : Int32) (nI 10) = nI 1 := rfl
      simp (disch := omega) only [↓reduceIte, h_let, hg_in, hg_zb, hg_z0, hg_z1, hg_nz, Option.bind_some, if_pos, if_neg, bI_0, bI_n0, nI_add, nI_mul, nI_ltI, nI_leI, nI_eq, nI_clamp, nI_subN, nI_divN, nI_mod2, nI_m1e, nI_em1, nI_m2e, nI_lt0, m1_lt0, m1_lt, m1_le, h_u_at, h_u_off2, h_u_pl, li_0, li_1, li_2, li_3, li_4, li_5, li_6, li_7, li_8, li_9, li_10, li_11, li_12, li_13, li_14, li_15, li_16, li_17, li_18, li_19, li_20, li_21, li_22, li_23, li_24, li_25, li_26, li_27, li_28, li_29, li_30, li_31, li_32, li_40, li_43, li_45, li_47, li_48, li_57, li_59, li_60, li_61, li_62, li_63, li_64, li_80, li_92, li_97, li_99, li_100, li_122, li_123, li_125, li_166, li_201, li_210, li_250, li_255, li_256, li_257, li_258, li_259, li_260, li_261, li_262, li_263, li_264, li_265, li_266, li_267, li_268, li_300, li_500, li_1000, li_12345, li_27720, li_1000000, li_1103515245, ne_m1, ne_m2, hrow, Bool.false_eq_true, ho, a1]
      exact ⟨J', rfl, a2, a3⟩
    · rw [hft] at hrow
      have hlt := cnt_lt f (show s < D 0 0 by omega) hft
      have hsl := (hC.1 s (by omega)).2 (hfi s hft)
      obtain ⟨J1, b1, b2, b3⟩ := pl_makeRow (p := p) hD hfi (s := s) (by omega) hft h hr J
      obtain ⟨J', a1, a2, a3⟩ := ih (s + 1) fuel J1 (by omega) (by omega) (fun u hu hfu => by
        by_cases e : u = s
        · subst e; exact b3
        · intro j hj
          have hne : cnt f u ≠ cnt f s := fun e2 => e (cnt_inj f hfu hft e2)
          rw [b2 _ _ (by omega)]
          exact gJ u (by omega) hfu j hj)
      have ho : mC_isOutside (nI (cnt f s)) (nI 10) = nI 0 := by
        unfold mC_isOutside
        simp (disch := omega) only [↓reduceIte, h_let, hg_in, hg_zb, hg_z0, hg_z1, hg_nz, Option.bind_some, if_pos, if_neg, bI_0, bI_n0, nI_add, nI_mul, nI_ltI, nI_leI, nI_eq, nI_clamp, nI_subN, nI_divN, nI_mod2, nI_m1e, nI_em1, nI_m2e, nI_lt0, m1_lt0, m1_lt, m1_le, h_u_at, h_u_off2, h_u_pl, li_0, li_1, li_2, li_3, li_4, li_5, li_6, li_7, li_8, li_9, li_10, li_11, li_12, li_13, li_14, li_15, li_16, li_17, li_18, li_19, li_20, li_21, li_22, li_23, li_24, li_25, li_26, li_27, li_28, li_29, li_30, li_31, li_32, li_40, li_43, li_45, li_47, li_48, li_57, li_59, li_60, li_61, li_62, li_63, li_64, li_80, li_92, li_97, li_99, li_100, li_122, li_123, li_125, li_166, li_201, li_210, li_250, li_255, li_256, li_257, li_258, li_259, li_260, li_261, li_262, li_263, li_264, li_265, li_266, li_267, li_268, li_300, li_500, li_1000, li_12345, li_27720, li_1000000, li_1103515245, ne_m1, ne_m2]
      simp (disch := omega) only [↓reduceIte, h_let, hg_in, hg_zb, hg_z0, hg_z1, hg_nz, Option.bind_some, if_pos, if_neg, bI_0, bI_n0, nI_add, nI_mul, nI_ltI, nI_leI, nI_eq, nI_clamp, nI_subN, nI_divN, nI_mod2, nI_m1e, nI_em1, nI_m2e, nI_lt0, m1_lt0, m1_lt, m1_le, h_u_at, h_u_off2, h_u_pl, li_0, li_1, li_2, li_3, li_4, li_5, li_6, li_7, li_8, li_9, li_10, li_11, li_12, li_13, li_14, li_15, li_16, li_17, li_18, li_19, li_20, li_21, li_22, li_23, li_24, li_25, li_26, li_27, li_28, li_29, li_30, li_31, li_32, li_40, li_43, li_45, li_47, li_48, li_57, li_59, li_60, li_61, li_62, li_63, li_64, li_80, li_92, li_97, li_99, li_100, li_122, li_123, li_125, li_166, li_201, li_210, li_250, li_255, li_256, li_257, li_258, li_259, li_260, li_261, li_262, li_263, li_264, li_265, li_266, li_267, li_268, li_300, li_500, li_1000, li_12345, li_27720, li_1000000, li_1103515245, ne_m1, ne_m2, hrow, ho, hsl, b1, a1]
      exact ⟨J', rfl, fun a i hne => by rw [a2 a i hne, b2 a i (by omega)], a3⟩
theorem pl_idx_L (hD : rOk D) {st : Nat → Bool} (hf1 : ∀ u, f u = (pIn D u && !st u)) : ∀ (r s fuel : Nat) (I : hI) (J : hJ), s + r = D 0 0 → r < fuel → cR D I → bm (I 13 10) (D 0 0) st → I 13 11 = nI (cnt f s) → (∀ u, u < s → I 19 u = if f u = true then nI (cnt f u) else (-1 : Int32)) → ∃ I' : hI, mPl_makeRows_L7 fuel (nI s) I J = mPl_makeRows_L86 hF (nI 0) I' J ∧ (∀ a i, a ≠ 19 → (a ≠ 13 ∨ i ≠ 11) → I' a i = I a i) ∧ rowOk D f I' := by
  have hn := hD.2.1
  intro r
  induction r with
  | zero =>
    intro s fuel I J hs hf h hb h11 h19
    obtain ⟨fuel, rfl⟩ : ∃ m, fuel = m + 1 := ⟨fuel - 1, by omega⟩
    obtain rfl : s = D 0 0 := by omega
    unfold mPl_makeRows_L7 mPl_makeRows_B7
    rw [h.1]
    simp (disch := omega) only [↓reduceIte, h_let, hg_in, hg_zb, hg_z0, hg_z1, hg_nz, Option.bind_some, if_pos, if_neg, bI_0, bI_n0, nI_add, nI_mul, nI_ltI, nI_leI, nI_eq, nI_clamp, nI_subN, nI_divN, nI_mod2, nI_m1e, nI_em1, nI_m2e, nI_lt0, m1_lt0, m1_lt, m1_le, h_u_at, h_u_off2, h_u_pl, li_0, li_1, li_2, li_3, li_4, li_5, li_6, li_7, li_8, li_9, li_10, li_11, li_12, li_13, li_14, li_15, li_16, li_17, li_18, li_19, li_20, li_21, li_22, li_23, li_24, li_25, li_26, li_27, li_28, li_29, li_30, li_31, li_32, li_40, li_43, li_45, li_47, li_48, li_57, li_59, li_60, li_61, li_62, li_63, li_64, li_80, li_92, li_97, li_99, li_100, li_122, li_123, li_125, li_166, li_201, li_210, li_250, li_255, li_256, li_257, li_258, li_259, li_260, li_261, li_262, li_263, li_264, li_265, li_266, li_267, li_268, li_300, li_500, li_1000, li_12345, li_27720, li_1000000, li_1103515245, ne_m1, ne_m2]
    exact ⟨I, rfl, fun _ _ _ _ => rfl, h11, h19⟩
  | succ r ih =>
    intro s fuel I J hs hf h hb h11 h19
    obtain ⟨fuel, rfl⟩ : ∃ m, fuel = m + 1 := ⟨fuel - 1, by omega⟩
    have hm := cnt_le f s
    have ein := ro_isIn hD h (s := s) (by omega)
    have e1 : decide (s < D 0 0 ∧ 0 < D 1 s) = pIn D s := by
      unfold pIn
      have : s < D 0 0 := by omega
      simp [this]
    rw [e1] at ein
    have b1 := bm_test hb hn (t := s) (by omega)
    have no : f s = false → ∃ I' : hI, mPl_makeRows_L7 fuel (nI (s + 1)) (h_u I 19 s (-1 : Int32)) J = mPl_makeRows_L86 hF (nI 0) I' J ∧ (∀ a i, a ≠ 19 → (a ≠ 13 ∨ i ≠ 11) → I' a i = I a i) ∧ rowOk D f I' := by
      intro hfs
      obtain ⟨I', a1, a2, a3⟩ := ih (s + 1) fuel (h_u I 19 s (-1 : Int32)) J (by omega) (by omega) (cR_of h (fun c i h1 h2 => h_u_off2 _ _ _ _ (by omega))) (by rw [h_u_off2 _ _ _ _ (by decide)]; exact hb) (by rw [h_u_off2 _ _ _ _ (by decide), cnt, hfs]; exact h11) (fun u hu => by
        by_cases e : u = s
        · subst e; rw [h_u_at, hfs]; rfl
        · rw [h_u_pl _ _ _ e]; exact h19 u (by omega))
      exact ⟨I', a1, fun a i g1 g2 => by rw [a2 a i g1 g2, h_u_off2 _ _ _ _ g1], a3⟩
    unfold mPl_makeRows_L7 mPl_makeRows_B7 mPl_makeRows_44 mPl_makeRows_45 mPl_makeRows_63
    rw [h.1]
    cases hin : pIn D s
    · rw [hin, bI_f] at ein
      have s1 := no (by rw [hf1, hin]; rfl)
      simp (disch := omega) only [↓reduceIte, h_let, hg_in, hg_zb, hg_z0, hg_z1, hg_nz, Option.bind_some, if_pos, if_neg, bI_0, bI_n0, nI_add, nI_mul, nI_ltI, nI_leI, nI_eq, nI_clamp, nI_subN, nI_divN, nI_mod2, nI_m1e, nI_em1, nI_m2e, nI_lt0, m1_lt0, m1_lt, m1_le, h_u_at, h_u_off2, h_u_pl, li_0, li_1, li_2, li_3, li_4, li_5, li_6, li_7, li_8, li_9, li_10, li_11, li_12, li_13, li_14, li_15, li_16, li_17, li_18, li_19, li_20, li_21, li_22, li_23, li_24, li_25, li_26, li_27, li_28, li_29, li_30, li_31, li_32, li_40, li_43, li_45, li_47, li_48, li_57, li_59, li_60, li_61, li_62, li_63, li_64, li_80, li_92, li_97, li_99, li_100, li_122, li_123, li_125, li_166, li_201, li_210, li_250, li_255, li_256, li_257, li_258, li_259, li_260, li_261, li_262, li_263, li_264, li_265, li_266, li_267, li_268, li_300, li_500, li_1000, li_12345, li_27720, li_1000000, li_1103515245, ne_m1, ne_m2, ein]
      exact s1
    · rw [hin, bI_t] at ein
      cases hst : st s
      · rw [hst] at b1
        have hfs : f s = true := by rw [hf1, hin, hst]; rfl
        obtain ⟨I', a1, a2, a3⟩ := ih (s + 1) fuel (h_u (h_u I 19 s (nI (cnt f s))) 13 11 (nI (cnt f s + 1))) J (by omega) (by omega) (cR_of h (fun c i h1 h2 => by rw [h_u_off2 _ _ _ _ (by omega), h_u_off2 _ _ _ _ (by omega)])) (by rw [h_u_pl _ _ _ (by decide), h_u_off2 _ _ _ _ (by decide)]; exact hb) (by rw [h_u_at, cnt, hfs]; rfl) (fun u hu => by
          rw [h_u_off2 _ _ _ _ (by decide)]
          by_cases e : u = s
          · subst e; rw [h_u_at, hfs]; rfl
          · rw [h_u_pl _ _ _ e]; exact h19 u (by omega))
        simp (disch := omega) only [↓reduceIte, h_let, hg_in, hg_zb, hg_z0, hg_z1, hg_nz, Option.bind_some, if_pos, if_neg, bI_0, bI_n0, nI_add, nI_mul, nI_ltI, nI_leI, nI_eq, nI_clamp, nI_subN, nI_divN, nI_mod2, nI_m1e, nI_em1, nI_m2e, nI_lt0, m1_lt0, m1_lt, m1_le, h_u_at, h_u_off2, h_u_pl, li_0, li_1, li_2, li_3, li_4, li_5, li_6, li_7, li_8, li_9, li_10, li_11, li_12, li_13, li_14, li_15, li_16, li_17, li_18, li_19, li_20, li_21, li_22, li_23, li_24, li_25, li_26, li_27, li_28, li_29, li_30, li_31, li_32, li_40, li_43, li_45, li_47, li_48, li_57, li_59, li_60, li_61, li_62, li_63, li_64, li_80, li_92, li_97, li_99, li_100, li_122, li_123, li_125, li_166, li_201, li_210, li_250, li_255, li_256, li_257, li_258, li_259, li_260, li_261, li_262, li_263, li_264, li_265, li_266, li_267, li_268, li_300, li_500, li_1000, li_12345, li_27720, li_1000000, li_1103515245, ne_m1, ne_m2, ein, b1, h11, a1]
        refine ⟨I', rfl, fun a i g1 g2 => ?_, a3⟩
        rw [a2 a i g1 g2]
        rcases g2 with g2 | g2
        · rw [h_u_off2 _ _ _ _ g2, h_u_off2 _ _ _ _ g1]
        · by_cases e : a = 13
          · subst e; rw [h_u_pl _ _ _ g2, h_u_off2 _ _ _ _ g1]
          · rw [h_u_off2 _ _ _ _ e, h_u_off2 _ _ _ _ g1]
      · rw [hst] at b1
        have s1 := no (by rw [hf1, hin, hst]; rfl)
        have hz2 : ¬ ((true : Bool) = false) := by decide
        simp (disch := omega) only [↓reduceIte, h_let, hg_in, hg_zb, hg_z0, hg_z1, hg_nz, Option.bind_some, if_pos, if_neg, bI_0, bI_n0, nI_add, nI_mul, nI_ltI, nI_leI, nI_eq, nI_clamp, nI_subN, nI_divN, nI_mod2, nI_m1e, nI_em1, nI_m2e, nI_lt0, m1_lt0, m1_lt, m1_le, h_u_at, h_u_off2, h_u_pl, li_0, li_1, li_2, li_3, li_4, li_5, li_6, li_7, li_8, li_9, li_10, li_11, li_12, li_13, li_14, li_15, li_16, li_17, li_18, li_19, li_20, li_21, li_22, li_23, li_24, li_25, li_26, li_27, li_28, li_29, li_30, li_31, li_32, li_40, li_43, li_45, li_47, li_48, li_57, li_59, li_60, li_61, li_62, li_63, li_64, li_80, li_92, li_97, li_99, li_100, li_122, li_123, li_125, li_166, li_201, li_210, li_250, li_255, li_256, li_257, li_258, li_259, li_260, li_261, li_262, li_263, li_264, li_265, li_266, li_267, li_268, li_300, li_500, li_1000, li_12345, li_27720, li_1000000, li_1103515245, ne_m1, ne_m2, ein, b1, hz2]
        exact s1
theorem pl_makeRows (hD : rOk D) {I : hI} (h : cR D I) (hC : plC D p I) (hst : bm (I 13 10) (D 0 0) (pSt D p)) (J : hJ) : ∃ (I' : hI) (J' : hJ), mPl_makeRows I J = some (I', J') ∧ (∀ a i, a ≠ 19 → (a ≠ 13 ∨ i ≠ 11) → I' a i = I a i) ∧ rowOk D (pPs D p) I' ∧ (∀ a i, (a < 21 ∨ 30 < a) → J' a i = J a i) ∧ ∀ u, u < D 0 0 → pPs D p u = true → ∀ j, j < cnt (pPs D p) (D 0 0) + 2 → J' (21 + cnt (pPs D p) u) j = lI (eV D p (pPs D p) u j) := by
  have hn := hD.2.1
  have hfi : ∀ u, pPs D p u = true → pIn D u = true := fun u hu => by unfold pPs at hu; rw [Bool.and_eq_true] at hu; exact hu.1
  obtain ⟨I1, a1, a2, a3⟩ := pl_idx_L (f := pPs D p) hD (fun u => rfl) (D 0 0) 0 hF (h_u I 13 11 (nI 0)) J (by omega) (by unfold hF; omega) (cR_of h (fun c i h1 h2 => h_u_off2 _ _ _ _ (by omega))) (by rw [h_u_pl _ _ _ (by decide)]; exact hst) (h_u_at _ _ _ _) (fun u hu => absurd hu (by omega))
  have h1 : ∀ a i, a ≠ 19 → (a ≠ 13 ∨ i ≠ 11) → I1 a i = I a i := fun a i g1 g2 => by
    rw [a2 a i g1 g2]
    rcases g2 with g2 | g2
    · exact h_u_off2 _ _ _ _ g2
    · by_cases e : a = 13
      · subst e; exact h_u_pl _ _ _ g2
      · exact h_u_off2 _ _ _ _ e
  obtain ⟨J2, b1, b2, b3⟩ := pl_lay_L (p := p) hD hfi (cR_of h (fun c i g1 g2 => h1 c i (by omega) (by omega))) (plC_of hC (fun i => h1 18 i (by omega) (by omega)) (fun i => h1 17 i (by omega) (by omega)) (h1 13 9 (by decide) (by decide))) a3 (D 0 0) 0 hF J (by omega) (by unfold hF; omega) (fun u hu => absurd hu (by omega))
  unfold mPl_makeRows
  simp (disch := omega) only [↓reduceIte, h_let, hg_in, hg_zb, hg_z0, hg_z1, hg_nz, Option.bind_some, if_pos, if_neg, bI_0, bI_n0, nI_add, nI_mul, nI_ltI, nI_leI, nI_eq, nI_clamp, nI_subN, nI_divN, nI_mod2, nI_m1e, nI_em1, nI_m2e, nI_lt0, m1_lt0, m1_lt, m1_le, h_u_at, h_u_off2, h_u_pl, li_0, li_1, li_2, li_3, li_4, li_5, li_6, li_7, li_8, li_9, li_10, li_11, li_12, li_13, li_14, li_15, li_16, li_17, li_18, li_19, li_20, li_21, li_22, li_23, li_24, li_25, li_26, li_27, li_28, li_29, li_30, li_31, li_32, li_40, li_43, li_45, li_47, li_48, li_57, li_59, li_60, li_61, li_62, li_63, li_64, li_80, li_92, li_97, li_99, li_100, li_122, li_123, li_125, li_166, li_201, li_210, li_250, li_255, li_256, li_257, li_258, li_259, li_260, li_261, li_262, li_263, li_264, li_265, li_266, li_267, li_268, li_300, li_500, li_1000, li_12345, li_27720, li_1000000, li_1103515245, ne_m1, ne_m2, a1, b1]
  exact ⟨I1, J2, rfl, h1, a3, b2, b3⟩
end PlR
