/-! best: the conditions, both sides. -/
def iI (z : Int) : Int32 := Int32.ofInt z
theorem iI_sub (a b : Int) : iI a - iI b = iI (a - b) := (Int32.ofInt_sub a b).symm
theorem iI_mul (a b : Int) : iI a * iI b = iI (a * b) := (Int32.ofInt_mul a b).symm
theorem nI_iI (n : Nat) : nI n = iI (n : Int) := rfl
theorem iI_toInt {a : Int} (h1 : - 2 ^ 31 ≤ a) (h2 : a < 2 ^ 31) : (iI a).toInt = a := Int32.toInt_ofInt_of_le h1 h2
theorem iI_l {a : Int} (h1 : - 2 ^ 31 ≤ a) (h2 : a < 2 ^ 31) : (iI a).toInt64 = lI a := by
  apply Int64.toInt_inj.mp
  rw [lI_toInt (by omega) (by omega), Int32.toInt_toInt64, iI_toInt h1 h2]
/-- a state's row: x, y, 1, and at least 0 -/
def rwS (D : rD) (s : Nat) : Nat → Int := fun k => if k = 0 then ((s % D 0 1 : Nat) : Int) else if k = 1 then ((s / D 0 1 : Nat) : Int) else if k = 2 then 1 else 0
def wIn (D : rD) (s c t : Nat) : Int := if pIn D t = true then (D 5 (10 * (8 * s + c) + t) : Int) else 0
/-- a choice's row, the ways to the states below t taken away -/
def rwW (D : rD) (s c k : Nat) : Nat → Int
  | 0 => 4 * rwS D s k
  | t + 1 => rwW D s c k t - wIn D s c t * rwS D t k
def rwC (D : rD) (s c : Nat) : Nat → Int := fun k => if k < 3 then rwW D s c k (D 0 0) else (D 3 (8 * s + c) : Int)
def chL (D : rD) (s : Nat) : Nat → List (Nat → Int)
  | 0 => []
  | c + 1 => chL D s c ++ [rwC D s c]
def stL (D : rD) (s : Nat) : List (Nat → Int) := if pIn D s = true then rwS D s :: chL D s (D 1 s) else []
def alL (D : rD) : Nat → List (Nat → Int)
  | 0 => []
  | t + 1 => alL D t ++ stL D t
def rZ : Nat → Int := fun _ => 0
/-- the class holds these rows, F places in -/
def clQ (F : Nat) (L : List (Nat → Int)) (I : hI) (J : hJ) : Prop := I 38 4 = nI (F + L.length) ∧ ∀ i, i < L.length → ∀ k, k < 4 → J (40 + k) (F + i) = lI (L.getD i rZ k)
def mlQ (L : List (Nat → Int)) (I : hI) (J : hJ) : Prop := I 0 88 = nI L.length ∧ ∀ i, i < L.length → ∀ k, k < 4 → J (45 + k) i = lI (L.getD i rZ k)
theorem getD_app {L : List (Nat → Int)} {r : Nat → Int} {i : Nat} (h : i < L.length) : (L ++ [r]).getD i rZ = L.getD i rZ := by
  simp [List.getD, List.getElem?_append_left h]
theorem getD_last {L : List (Nat → Int)} {r : Nat → Int} : (L ++ [r]).getD L.length rZ = r := by
  simp [List.getD]
section Cq
variable {D : rD}
theorem rwS_bd (hD : rOk D) {s : Nat} (hs : s < D 0 0) (k : Nat) : 0 ≤ rwS D s k ∧ rwS D s k ≤ 9 := by
  have hn := hD.2.1
  have h1 : s % D 0 1 ≤ s := Nat.mod_le _ _
  have h2 : s / D 0 1 ≤ s := Nat.div_le_self _ _
  unfold rwS
  generalize s % D 0 1 = x at h1 ⊢
  generalize s / D 0 1 = y at h2 ⊢
  split
  · omega
  · split
    · omega
    · split <;> omega
theorem rwW_bd (hD : rOk D) {s c : Nat} (hs : s < D 0 0) (hc : c < D 1 s) (k : Nat) : ∀ t, t ≤ D 0 0 → - (9 * sumU t (fun u => D 5 (10 * (8 * s + c) + u)) : Int) ≤ rwW D s c k t ∧ rwW D s c k t ≤ 36
  | 0, _ => by
    have := rwS_bd hD hs k
    rw [rwW]
    have e : sumU 0 (fun u => D 5 (10 * (8 * s + c) + u)) = 0 := rfl
    rw [e]
    omega
  | t + 1, ht => by
    obtain ⟨h1, h2⟩ := rwW_bd hD hs hc k t (by omega)
    have h4 := (hD.2.2.2.2 s hs c hc).2.2.2.1 t (by omega)
    have hr := rwS_bd hD (s := t) (by omega) k
    rw [rwW, sumU_succ]
    have hw : 0 ≤ wIn D s c t * rwS D t k ∧ wIn D s c t * rwS D t k ≤ 9 * (D 5 (10 * (8 * s + c) + t) : Int) := by
      unfold wIn
      by_cases q : pIn D t = true
      · rw [if_pos q]
        constructor
        · exact Int.mul_nonneg (by omega) hr.1
        · have := Int.mul_le_mul_of_nonneg_left hr.2 (show (0 : Int) ≤ (D 5 (10 * (8 * s + c) + t) : Int) by omega)
          omega
      · rw [if_neg q]
        omega
    have e : ((sumU t (fun u => D 5 (10 * (8 * s + c) + u)) + D 5 (10 * (8 * s + c) + t) : Nat) : Int) = (sumU t (fun u => D 5 (10 * (8 * s + c) + u)) : Int) + (D 5 (10 * (8 * s + c) + t) : Int) := by omega
    omega
theorem rwW_b36 (hD : rOk D) {s c : Nat} (hs : s < D 0 0) (hc : c < D 1 s) (k t : Nat) (ht : t ≤ D 0 0) : - 36 ≤ rwW D s c k t ∧ rwW D s c k t ≤ 36 := by
  have h := rwW_bd hD hs hc k t ht
  have h5 := (hD.2.2.2.2 s hs c hc).2.2.2.2
  have hm : ∀ m, t ≤ m → sumU t (fun u => D 5 (10 * (8 * s + c) + u)) ≤ sumU m (fun u => D 5 (10 * (8 * s + c) + u)) := by
    intro m hm
    induction m with
    | zero => have : t = 0 := by omega
              subst this; exact Nat.le_refl _
    | succ m ih =>
      by_cases e : t = m + 1
      · subst e; exact Nat.le_refl _
      · rw [sumU_succ]
        have := ih (by omega)
        omega
  have := hm _ ht
  omega
theorem co_addRow {F : Nat} {L : List (Nat → Int)} {I : hI} {J : hJ} (h : clQ F L I J) (hlen : F + L.length < 92) (r : Nat → Int) (hr : ∀ k, k < 4 → - 2 ^ 31 ≤ r k ∧ r k < 2 ^ 31) : ∃ (I' : hI) (J' : hJ), mCo_addRow (iI (r 0)) (iI (r 1)) (iI (r 2)) (iI (r 3)) I J = some (I', J') ∧ (∀ a i, (a ≠ 38 ∨ i ≠ 4) → I' a i = I a i) ∧ (∀ a i, (a < 40 ∨ 43 < a ∨ i ≠ F + L.length) → J' a i = J a i) ∧ clQ F (L ++ [r]) I' J' := by
  have e0 := iI_l (hr 0 (by decide)).1 (hr 0 (by decide)).2
  have e1 := iI_l (hr 1 (by decide)).1 (hr 1 (by decide)).2
  have e2 := iI_l (hr 2 (by decide)).1 (hr 2 (by decide)).2
  have e3 := iI_l (hr 3 (by decide)).1 (hr 3 (by decide)).2
  have eo : mC_isOutside (nI (F + L.length)) (nI 92) = nI 0 := by
    unfold mC_isOutside
    simp (disch := omega) only [↓reduceIte, h_let, hg_in, hg_zb, hg_z0, hg_z1, hg_nz, Option.bind_some, if_pos, if_neg, bI_0, bI_n0, nI_add, nI_mul, nI_ltI, nI_leI, nI_eq, nI_clamp, nI_subN, nI_divN, nI_mod2, nI_m1e, nI_em1, nI_m2e, nI_lt0, m1_lt0, m1_lt, m1_le, h_u_at, h_u_off2, h_u_pl, li_0, li_1, li_2, li_3, li_4, li_5, li_6, li_7, li_8, li_9, li_10, li_11, li_12, li_13, li_14, li_15, li_16, li_17, li_18, li_19, li_20, li_21, li_22, li_23, li_24, li_25, li_26, li_27, li_28, li_29, li_30, li_31, li_32, li_40, li_43, li_45, li_47, li_48, li_57, li_59, li_60, li_61, li_62, li_63, li_64, li_80, li_92, li_97, li_99, li_100, li_122, li_123, li_125, li_166, li_201, li_210, li_250, li_255, li_256, li_257, li_258, li_259, li_260, li_261, li_262, li_263, li_264, li_265, li_266, li_267, li_268, li_300, li_500, li_1000, li_12345, li_27720, li_1000000, li_1103515245, ne_m1, ne_m2]
  have off : ∀ a i, (a < 40 ∨ 43 < a ∨ i ≠ F + L.length) → h_u (h_u (h_u (h_u J 40 (F + L.length) (lI (r 0))) 41 (F + L.length) (lI (r 1))) 42 (F + L.length) (lI (r 2))) 43 (F + L.length) (lI (r 3)) a i = J a i := fun a i hh => by
    have key : ∀ (K : hJ) (c : Nat) (v : Int64), 40 ≤ c → c ≤ 43 → h_u K c (F + L.length) v a i = K a i := fun K c v h1 h2 => by
      by_cases e : a = c
      · subst e; exact h_u_pl _ _ _ (by omega)
      · exact h_u_off2 _ _ _ _ e
    rw [key _ 43 _ (by omega) (by omega), key _ 42 _ (by omega) (by omega), key _ 41 _ (by omega) (by omega), key _ 40 _ (by omega) (by omega)]
  refine ⟨h_u I 38 4 (nI (F + L.length + 1)), h_u (h_u (h_u (h_u J 40 (F + L.length) (lI (r 0))) 41 (F + L.length) (lI (r 1))) 42 (F + L.length) (lI (r 2))) 43 (F + L.length) (lI (r 3)), ?_, fun a i hh => ?_, off, ?_, ?_⟩
  · unfold mCo_addRow
    rw [h.1]
    simp (disch := omega) only [↓reduceIte, h_let, hg_in, hg_zb, hg_z0, hg_z1, hg_nz, Option.bind_some, if_pos, if_neg, bI_0, bI_n0, nI_add, nI_mul, nI_ltI, nI_leI, nI_eq, nI_clamp, nI_subN, nI_divN, nI_mod2, nI_m1e, nI_em1, nI_m2e, nI_lt0, m1_lt0, m1_lt, m1_le, h_u_at, h_u_off2, h_u_pl, li_0, li_1, li_2, li_3, li_4, li_5, li_6, li_7, li_8, li_9, li_10, li_11, li_12, li_13, li_14, li_15, li_16, li_17, li_18, li_19, li_20, li_21, li_22, li_23, li_24, li_25, li_26, li_27, li_28, li_29, li_30, li_31, li_32, li_40, li_43, li_45, li_47, li_48, li_57, li_59, li_60, li_61, li_62, li_63, li_64, li_80, li_92, li_97, li_99, li_100, li_122, li_123, li_125, li_166, li_201, li_210, li_250, li_255, li_256, li_257, li_258, li_259, li_260, li_261, li_262, li_263, li_264, li_265, li_266, li_267, li_268, li_300, li_500, li_1000, li_12345, li_27720, li_1000000, li_1103515245, ne_m1, ne_m2, eo, e0, e1, e2, e3]
  · by_cases e : a = 38
    · subst e; exact h_u_pl _ _ _ (by omega)
    · exact h_u_off2 _ _ _ _ e
  · rw [h_u_at, List.length_append]
    rfl
  · intro i hi k hk
    rw [List.length_append] at hi
    have hi : i < L.length + 1 := hi
    by_cases e : i = L.length
    · subst e
      rw [getD_last]
      rcases (show k = 0 ∨ k = 1 ∨ k = 2 ∨ k = 3 by omega) with q | q | q | q <;> subst q
      · rw [h_u_off2 _ _ _ _ (by decide), h_u_off2 _ _ _ _ (by decide), h_u_off2 _ _ _ _ (by decide), h_u_at]
      · rw [h_u_off2 _ _ _ _ (by decide), h_u_off2 _ _ _ _ (by decide), h_u_at]
      · rw [h_u_off2 _ _ _ _ (by decide), h_u_at]
      · rw [h_u_at]
    · rw [off _ _ (by omega), getD_app (by omega)]
      exact h.2 i (by omega) k hk
theorem mp_condition {L : List (Nat → Int)} {I : hI} {J : hJ} (h : mlQ L I J) (hlen : L.length < 100) (r : Nat → Int) : ∃ (I' : hI) (J' : hJ), mM_condition (lI (r 0)) (lI (r 1)) (lI (r 2)) (lI (r 3)) I J = some (I', J') ∧ (∀ a i, (a ≠ 0 ∨ i ≠ 88) → I' a i = I a i) ∧ (∀ a i, (a < 45 ∨ 48 < a) → J' a i = J a i) ∧ mlQ (L ++ [r]) I' J' := by
  have off : ∀ a i, (a < 45 ∨ 48 < a ∨ i ≠ L.length) → h_u (h_u (h_u (h_u J 45 L.length (lI (r 0))) 46 L.length (lI (r 1))) 47 L.length (lI (r 2))) 48 L.length (lI (r 3)) a i = J a i := fun a i hh => by
    have key : ∀ (K : hJ) (c : Nat) (v : Int64), 45 ≤ c → c ≤ 48 → h_u K c L.length v a i = K a i := fun K c v h1 h2 => by
      by_cases e : a = c
      · subst e; exact h_u_pl _ _ _ (by omega)
      · exact h_u_off2 _ _ _ _ e
    rw [key _ 48 _ (by omega) (by omega), key _ 47 _ (by omega) (by omega), key _ 46 _ (by omega) (by omega), key _ 45 _ (by omega) (by omega)]
  refine ⟨h_u I 0 88 (nI (L.length + 1)), h_u (h_u (h_u (h_u J 45 L.length (lI (r 0))) 46 L.length (lI (r 1))) 47 L.length (lI (r 2))) 48 L.length (lI (r 3)), ?_, fun a i hh => ?_, fun a i hh => off a i (by omega), ?_, ?_⟩
  · unfold mM_condition
    rw [h.1]
    simp (disch := omega) only [↓reduceIte, h_let, hg_in, hg_zb, hg_z0, hg_z1, hg_nz, Option.bind_some, if_pos, if_neg, bI_0, bI_n0, nI_add, nI_mul, nI_ltI, nI_leI, nI_eq, nI_clamp, nI_subN, nI_divN, nI_mod2, nI_m1e, nI_em1, nI_m2e, nI_lt0, m1_lt0, m1_lt, m1_le, h_u_at, h_u_off2, h_u_pl, li_0, li_1, li_2, li_3, li_4, li_5, li_6, li_7, li_8, li_9, li_10, li_11, li_12, li_13, li_14, li_15, li_16, li_17, li_18, li_19, li_20, li_21, li_22, li_23, li_24, li_25, li_26, li_27, li_28, li_29, li_30, li_31, li_32, li_40, li_43, li_45, li_47, li_48, li_57, li_59, li_60, li_61, li_62, li_63, li_64, li_80, li_92, li_97, li_99, li_100, li_122, li_123, li_125, li_166, li_201, li_210, li_250, li_255, li_256, li_257, li_258, li_259, li_260, li_261, li_262, li_263, li_264, li_265, li_266, li_267, li_268, li_300, li_500, li_1000, li_12345, li_27720, li_1000000, li_1103515245, ne_m1, ne_m2, h.1]
  · by_cases e : a = 0
    · subst e; exact h_u_pl _ _ _ (by omega)
    · exact h_u_off2 _ _ _ _ e
  · rw [h_u_at, List.length_append]
    rfl
  · intro i hi k hk
    rw [List.length_append] at hi
    have hi : i < L.length + 1 := hi
    by_cases e : i = L.length
    · subst e
      rw [getD_last]
      rcases (show k = 0 ∨ k = 1 ∨ k = 2 ∨ k = 3 by omega) with q | q | q | q <;> subst q
      · rw [h_u_off2 _ _ _ _ (by decide), h_u_off2 _ _ _ _ (by decide), h_u_off2 _ _ _ _ (by decide), h_u_at]
      · rw [h_u_off2 _ _ _ _ (by decide), h_u_off2 _ _ _ _ (by decide), h_u_at]
      · rw [h_u_off2 _ _ _ _ (by decide), h_u_at]
      · rw [h_u_at]
    · rw [off _ _ (by omega), getD_app (by omega)]
      exact h.2 i (by omega) k hk
end Cq
