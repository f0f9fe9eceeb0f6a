/-! best: the class cuts a line. -/
theorem frac_tr {a s u0 l0 u l : Int} (h0 : 0 < l0) (hl : 0 < l) (hs : 0 ≤ s) (h1 : a * l0 ≤ u0 * s) (h2 : u0 * l ≤ u * l0) : a * l ≤ u * s := by
  have e1 : a * l0 * l ≤ u0 * s * l := Int.mul_le_mul_of_nonneg_right h1 (by omega)
  have e2 : u0 * l * s ≤ u * l0 * s := Int.mul_le_mul_of_nonneg_right h2 hs
  have e3 : a * l * l0 ≤ u * s * l0 := by
    have q1 : a * l * l0 = a * l0 * l := by grind
    have q2 : u * s * l0 = u * l0 * s := by grind
    have q3 : u0 * s * l = u0 * l * s := by grind
    omega
  exact Int.le_of_mul_le_mul_right e3 h0
/-- one end of what is left of a line -/
def endQ (c b : Nat) (o : Option (Int × Int)) (I : hI) (J : hJ) : Prop := (o = none ∧ I 38 b = nI 0) ∨ ∃ u l, o = some (u, l) ∧ I 38 b = nI 1 ∧ J c 0 = lI u ∧ J c 1 = lI l ∧ (- 116095057920 ≤ u ∧ u ≤ 116095057920) ∧ (0 < l ∧ l ≤ 279936)
theorem endQ_of {c b : Nat} {o : Option (Int × Int)} {I I' : hI} {J J' : hJ} (h : endQ c b o I J) (h1 : I' 38 b = I 38 b) (h2 : J' c 0 = J c 0 ∧ J' c 1 = J c 1) : endQ c b o I' J' := by
  rcases h with ⟨q1, q2⟩ | ⟨u, l, q1, q2, q3, q4, q5⟩
  · exact Or.inl ⟨q1, by rw [h1]; exact q2⟩
  · exact Or.inr ⟨u, l, q1, by rw [h1]; exact q2, by rw [h2.1]; exact q3, by rw [h2.2]; exact q4, q5⟩
theorem ebd {a b : Int} (ha : - 116095057920 ≤ a ∧ a ≤ 116095057920) (hb : 0 < b ∧ b ≤ 279936) : - 2 ^ 62 ≤ a * b ∧ a * b < 2 ^ 62 := by
  have := mb ha (show - 279936 ≤ b ∧ b ≤ 279936 by omega)
  omega
theorem co_raise {o : Option (Int × Int)} {I : hI} {J : hJ} (h : endQ 46 9 o I J) {m s : Int} (hm : - 116095057920 ≤ m ∧ m ≤ 116095057920) (hs : 0 < s ∧ s ≤ 279936) : ∃ (I' : hI) (J' : hJ) (u l : Int), mCo_raiseLow (lI m) (lI s) I J = some (I', J') ∧ endQ 46 9 (some (u, l)) I' J' ∧ (∀ a i, (a ≠ 38 ∨ i ≠ 9) → I' a i = I a i) ∧ (∀ a i, a ≠ 46 → J' a i = J a i) ∧ ((u, l) = (m, s) ∨ o = some (u, l)) ∧ m * l ≤ u * s ∧ ∀ u0 l0, o = some (u0, l0) → u0 * l ≤ u * l0 := by
  have fin : endQ 46 9 (some (m, s)) (h_u I 38 9 (nI 1)) (h_u (h_u J 46 0 (lI m)) 46 1 (lI s)) := Or.inr ⟨m, s, rfl, h_u_at _ _ _ _, by rw [h_u_pl _ _ _ (by decide), h_u_at], by rw [h_u_at], hm, hs⟩
  have o1 : ∀ a i, (a ≠ 38 ∨ i ≠ 9) → h_u I 38 9 (nI 1) a i = I a i := fun a i hh => by
    by_cases e : a = 38
    · subst e; exact h_u_pl _ _ _ (by omega)
    · exact h_u_off2 _ _ _ _ e
  have o2 : ∀ a i, a ≠ 46 → h_u (h_u J 46 0 (lI m)) 46 1 (lI s) a i = J a i := fun a i hh => by rw [h_u_off2 _ _ _ _ hh, h_u_off2 _ _ _ _ hh]
  rcases h with ⟨q1, q2⟩ | ⟨u, l, q1, q2, q3, q4, q5, q6⟩
  · refine ⟨_, _, m, s, ?_, fin, o1, o2, Or.inl rfl, Int.le_refl _, fun u0 l0 e => by rw [q1] at e; exact absurd e (by simp)⟩
    unfold mCo_raiseLow mCo_raiseLow_27
    rw [q2]
    simp (disch := omega) only [↓reduceIte, h_let, hg_in, hg_zb, hg_z0, hg_z1, hg_nz, Option.bind_some, if_pos, if_neg, bI_0, bI_n0, nI_add, nI_mul, nI_ltI, nI_leI, nI_eq, nI_clamp, nI_subN, nI_divN, nI_mod2, nI_m1e, nI_em1, nI_m2e, nI_lt0, m1_lt0, m1_lt, m1_le, h_u_at, h_u_off2, h_u_pl, li_0, li_1, li_2, li_3, li_4, li_5, li_6, li_7, li_8, li_9, li_10, li_11, li_12, li_13, li_14, li_15, li_16, li_17, li_18, li_19, li_20, li_21, li_22, li_23, li_24, li_25, li_26, li_27, li_28, li_29, li_30, li_31, li_32, li_40, li_43, li_45, li_47, li_48, li_57, li_59, li_60, li_61, li_62, li_63, li_64, li_80, li_92, li_97, li_99, li_100, li_122, li_123, li_125, li_166, li_201, li_210, li_250, li_255, li_256, li_257, li_258, li_259, li_260, li_261, li_262, li_263, li_264, li_265, li_266, li_267, li_268, li_300, li_500, li_1000, li_12345, li_27720, li_1000000, li_1103515245, ne_m1, ne_m2]
  · have b1 := ebd hm q6
    have b2 := ebd q5 hs
    have e := lI_le (a := m * l) (b := u * s) (by omega) (by omega) (by omega) (by omega)
    by_cases c : m * l ≤ u * s
    · refine ⟨I, J, u, l, ?_, Or.inr ⟨u, l, rfl, q2, q3, q4, q5, q6⟩, fun _ _ _ => rfl, fun _ _ _ => rfl, Or.inr q1, c, fun u0 l0 e => by rw [q1] at e; cases e; exact Int.le_refl _⟩
      unfold mCo_raiseLow
      rw [q2]
      simp (disch := omega) only [↓reduceIte, h_let, hg_in, hg_zb, hg_z0, hg_z1, hg_nz, Option.bind_some, if_pos, if_neg, bI_0, bI_n0, nI_add, nI_mul, nI_ltI, nI_leI, nI_eq, nI_clamp, nI_subN, nI_divN, nI_mod2, nI_m1e, nI_em1, nI_m2e, nI_lt0, m1_lt0, m1_lt, m1_le, h_u_at, h_u_off2, h_u_pl, li_0, li_1, li_2, li_3, li_4, li_5, li_6, li_7, li_8, li_9, li_10, li_11, li_12, li_13, li_14, li_15, li_16, li_17, li_18, li_19, li_20, li_21, li_22, li_23, li_24, li_25, li_26, li_27, li_28, li_29, li_30, li_31, li_32, li_40, li_43, li_45, li_47, li_48, li_57, li_59, li_60, li_61, li_62, li_63, li_64, li_80, li_92, li_97, li_99, li_100, li_122, li_123, li_125, li_166, li_201, li_210, li_250, li_255, li_256, li_257, li_258, li_259, li_260, li_261, li_262, li_263, li_264, li_265, li_266, li_267, li_268, li_300, li_500, li_1000, li_12345, li_27720, li_1000000, li_1103515245, ne_m1, ne_m2, q3, q4, lI_mul, e]
    · refine ⟨_, _, m, s, ?_, fin, o1, o2, Or.inl rfl, Int.le_refl _, fun u0 l0 e => by rw [q1] at e; cases e; omega⟩
      unfold mCo_raiseLow mCo_raiseLow_27
      rw [q2]
      simp (disch := omega) only [↓reduceIte, h_let, hg_in, hg_zb, hg_z0, hg_z1, hg_nz, Option.bind_some, if_pos, if_neg, bI_0, bI_n0, nI_add, nI_mul, nI_ltI, nI_leI, nI_eq, nI_clamp, nI_subN, nI_divN, nI_mod2, nI_m1e, nI_em1, nI_m2e, nI_lt0, m1_lt0, m1_lt, m1_le, h_u_at, h_u_off2, h_u_pl, li_0, li_1, li_2, li_3, li_4, li_5, li_6, li_7, li_8, li_9, li_10, li_11, li_12, li_13, li_14, li_15, li_16, li_17, li_18, li_19, li_20, li_21, li_22, li_23, li_24, li_25, li_26, li_27, li_28, li_29, li_30, li_31, li_32, li_40, li_43, li_45, li_47, li_48, li_57, li_59, li_60, li_61, li_62, li_63, li_64, li_80, li_92, li_97, li_99, li_100, li_122, li_123, li_125, li_166, li_201, li_210, li_250, li_255, li_256, li_257, li_258, li_259, li_260, li_261, li_262, li_263, li_264, li_265, li_266, li_267, li_268, li_300, li_500, li_1000, li_12345, li_27720, li_1000000, li_1103515245, ne_m1, ne_m2, q3, q4, lI_mul, e]
theorem co_sink {o : Option (Int × Int)} {I : hI} {J : hJ} (h : endQ 47 10 o I J) {m s : Int} (hm : - 116095057920 ≤ m ∧ m ≤ 116095057920) (hs : 0 < s ∧ s ≤ 279936) : ∃ (I' : hI) (J' : hJ) (u l : Int), mCo_sinkHigh (lI m) (lI s) I J = some (I', J') ∧ endQ 47 10 (some (u, l)) I' J' ∧ (∀ a i, (a ≠ 38 ∨ i ≠ 10) → I' a i = I a i) ∧ (∀ a i, a ≠ 47 → J' a i = J a i) ∧ ((u, l) = (m, s) ∨ o = some (u, l)) ∧ u * s ≤ m * l ∧ ∀ u0 l0, o = some (u0, l0) → u * l0 ≤ u0 * l := by
  have fin : endQ 47 10 (some (m, s)) (h_u I 38 10 (nI 1)) (h_u (h_u J 47 0 (lI m)) 47 1 (lI s)) := Or.inr ⟨m, s, rfl, h_u_at _ _ _ _, by rw [h_u_pl _ _ _ (by decide), h_u_at], by rw [h_u_at], hm, hs⟩
  have o1 : ∀ a i, (a ≠ 38 ∨ i ≠ 10) → h_u I 38 10 (nI 1) a i = I a i := fun a i hh => by
    by_cases e : a = 38
    · subst e; exact h_u_pl _ _ _ (by omega)
    · exact h_u_off2 _ _ _ _ e
  have o2 : ∀ a i, a ≠ 47 → h_u (h_u J 47 0 (lI m)) 47 1 (lI s) a i = J a i := fun a i hh => by rw [h_u_off2 _ _ _ _ hh, h_u_off2 _ _ _ _ hh]
  rcases h with ⟨q1, q2⟩ | ⟨u, l, q1, q2, q3, q4, q5, q6⟩
  · refine ⟨_, _, m, s, ?_, fin, o1, o2, Or.inl rfl, Int.le_refl _, fun u0 l0 e => by rw [q1] at e; exact absurd e (by simp)⟩
    unfold mCo_sinkHigh mCo_sinkHigh_27
    rw [q2]
    simp (disch := omega) only [↓reduceIte, h_let, hg_in, hg_zb, hg_z0, hg_z1, hg_nz, Option.bind_some, if_pos, if_neg, bI_0, bI_n0, nI_add, nI_mul, nI_ltI, nI_leI, nI_eq, nI_clamp, nI_subN, nI_divN, nI_mod2, nI_m1e, nI_em1, nI_m2e, nI_lt0, m1_lt0, m1_lt, m1_le, h_u_at, h_u_off2, h_u_pl, li_0, li_1, li_2, li_3, li_4, li_5, li_6, li_7, li_8, li_9, li_10, li_11, li_12, li_13, li_14, li_15, li_16, li_17, li_18, li_19, li_20, li_21, li_22, li_23, li_24, li_25, li_26, li_27, li_28, li_29, li_30, li_31, li_32, li_40, li_43, li_45, li_47, li_48, li_57, li_59, li_60, li_61, li_62, li_63, li_64, li_80, li_92, li_97, li_99, li_100, li_122, li_123, li_125, li_166, li_201, li_210, li_250, li_255, li_256, li_257, li_258, li_259, li_260, li_261, li_262, li_263, li_264, li_265, li_266, li_267, li_268, li_300, li_500, li_1000, li_12345, li_27720, li_1000000, li_1103515245, ne_m1, ne_m2]
  · have b1 := ebd hm q6
    have b2 := ebd q5 hs
    have e := lI_le (a := u * s) (b := m * l) (by omega) (by omega) (by omega) (by omega)
    by_cases c : u * s ≤ m * l
    · refine ⟨I, J, u, l, ?_, Or.inr ⟨u, l, rfl, q2, q3, q4, q5, q6⟩, fun _ _ _ => rfl, fun _ _ _ => rfl, Or.inr q1, c, fun u0 l0 e => by rw [q1] at e; cases e; exact Int.le_refl _⟩
      unfold mCo_sinkHigh
      rw [q2]
      simp (disch := omega) only [↓reduceIte, h_let, hg_in, hg_zb, hg_z0, hg_z1, hg_nz, Option.bind_some, if_pos, if_neg, bI_0, bI_n0, nI_add, nI_mul, nI_ltI, nI_leI, nI_eq, nI_clamp, nI_subN, nI_divN, nI_mod2, nI_m1e, nI_em1, nI_m2e, nI_lt0, m1_lt0, m1_lt, m1_le, h_u_at, h_u_off2, h_u_pl, li_0, li_1, li_2, li_3, li_4, li_5, li_6, li_7, li_8, li_9, li_10, li_11, li_12, li_13, li_14, li_15, li_16, li_17, li_18, li_19, li_20, li_21, li_22, li_23, li_24, li_25, li_26, li_27, li_28, li_29, li_30, li_31, li_32, li_40, li_43, li_45, li_47, li_48, li_57, li_59, li_60, li_61, li_62, li_63, li_64, li_80, li_92, li_97, li_99, li_100, li_122, li_123, li_125, li_166, li_201, li_210, li_250, li_255, li_256, li_257, li_258, li_259, li_260, li_261, li_262, li_263, li_264, li_265, li_266, li_267, li_268, li_300, li_500, li_1000, li_12345, li_27720, li_1000000, li_1103515245, ne_m1, ne_m2, q3, q4, lI_mul, e]
    · refine ⟨_, _, m, s, ?_, fin, o1, o2, Or.inl rfl, Int.le_refl _, fun u0 l0 e => by rw [q1] at e; cases e; omega⟩
      unfold mCo_sinkHigh mCo_sinkHigh_27
      rw [q2]
      simp (disch := omega) only [↓reduceIte, h_let, hg_in, hg_zb, hg_z0, hg_z1, hg_nz, Option.bind_some, if_pos, if_neg, bI_0, bI_n0, nI_add, nI_mul, nI_ltI, nI_leI, nI_eq, nI_clamp, nI_subN, nI_divN, nI_mod2, nI_m1e, nI_em1, nI_m2e, nI_lt0, m1_lt0, m1_lt, m1_le, h_u_at, h_u_off2, h_u_pl, li_0, li_1, li_2, li_3, li_4, li_5, li_6, li_7, li_8, li_9, li_10, li_11, li_12, li_13, li_14, li_15, li_16, li_17, li_18, li_19, li_20, li_21, li_22, li_23, li_24, li_25, li_26, li_27, li_28, li_29, li_30, li_31, li_32, li_40, li_43, li_45, li_47, li_48, li_57, li_59, li_60, li_61, li_62, li_63, li_64, li_80, li_92, li_97, li_99, li_100, li_122, li_123, li_125, li_166, li_201, li_210, li_250, li_255, li_256, li_257, li_258, li_259, li_260, li_261, li_262, li_263, li_264, li_265, li_266, li_267, li_268, li_300, li_500, li_1000, li_12345, li_27720, li_1000000, li_1103515245, ne_m1, ne_m2, q3, q4, lI_mul, e]
section Ct
variable {R : Nat → Nat → Int} {M : Nat}
theorem slp_bd (hb : bdR R M) {i j p : Nat} (hi : i < M) (hj : j < M) (hp : p < M) : - 279936 ≤ slp (R i) (R j) (R p) ∧ slp (R i) (R j) (R p) ≤ 279936 := by
  obtain ⟨h0, h1, h2⟩ := wy_bd hb hi hj
  obtain ⟨a0, a1, a2, _⟩ := hb p hp
  have := mb a0 h0
  have := mb a1 h1
  have := mb a2 h2
  unfold slp
  omega
theorem mis_bd (hb : bdR R M) {i j p : Nat} (hi : i < M) (hj : j < M) (hp : p < M) : - 116095057920 ≤ mis (R i) (R j) (R p) ∧ mis (R i) (R j) (R p) ≤ 116095057920 := by
  obtain ⟨h0, h1, h2⟩ := pt_bd hb hi hj
  have hS := wyS_bd hb hi hj
  obtain ⟨a0, a1, a2, a3⟩ := hb p hp
  have := mb a0 h0
  have := mb a1 h1
  have := mb a2 h2
  have := mb (show - 1920 ≤ R p 3 ∧ R p 3 ≤ 1920 by omega) (show - 20155392 ≤ wyS (R i) (R j) ∧ wyS (R i) (R j) ≤ 20155392 by omega)
  unfold mis
  omega
/-- what is known of the ends after the conditions F to p -/
def cutI (R : Nat → Nat → Int) (i j F p : Nat) (lo hi : Option (Int × Int)) : Prop := (∀ r, F ≤ r → r < p → slp (R i) (R j) (R r) = 0 → mis (R i) (R j) (R r) ≤ 0) ∧ (∀ r, F ≤ r → r < p → 0 < slp (R i) (R j) (R r) → ∃ u l, lo = some (u, l) ∧ mis (R i) (R j) (R r) * l ≤ u * slp (R i) (R j) (R r)) ∧ (∀ r, F ≤ r → r < p → slp (R i) (R j) (R r) < 0 → ∃ u l, hi = some (u, l) ∧ u * (- slp (R i) (R j) (R r)) ≤ (- mis (R i) (R j) (R r)) * l) ∧ (∀ u l, lo = some (u, l) → 0 < l ∧ ∃ r, F ≤ r ∧ r < p ∧ 0 < slp (R i) (R j) (R r) ∧ u = mis (R i) (R j) (R r) ∧ l = slp (R i) (R j) (R r)) ∧ (∀ u l, hi = some (u, l) → 0 < l ∧ ∃ r, F ≤ r ∧ r < p ∧ slp (R i) (R j) (R r) < 0 ∧ u = - mis (R i) (R j) (R r) ∧ l = - slp (R i) (R j) (R r)) ∧ ∀ u l u' l', lo = some (u, l) → hi = some (u', l') → u * l' ≤ u' * l
/-- no point of the line meets the conditions F to p -/
def noPt (R : Nat → Nat → Int) (i j F p : Nat) : Prop := ∀ u l : Int, 0 < l → ∃ r, F ≤ r ∧ r < p ∧ u * slp (R i) (R j) (R r) < mis (R i) (R j) (R r) * l
end Ct
