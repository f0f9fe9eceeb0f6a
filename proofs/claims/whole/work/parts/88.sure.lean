/-! Sure states, outermost states: both sides. -/
theorem nI_nem1 {u : Nat} (h : u < 2 ^ 31) : ¬ nI u = (-1 : Int32) := fun e => by
  have : (nI u).toInt = (u : Int) := nI_toInt h
  rw [e] at this
  have e2 : (-1 : Int32).toInt = -1 := by decide
  omega
def bpA (D : rD) (w q : Bool) (s : Nat) : Nat := bpF D w q s (pN D (D 0 0) - 1)
def suB (D : rD) (q : Bool) (s : Nat) : Bool := decide (qU D false (bpA D false q s) s = qL D false (bpA D false q s) s)
def lsB (D : rD) (w q : Bool) (u t : Nat) : Bool := decide (qU D w (bpA D w q u) u * qL D w (bpA D w q t) t < qU D w (bpA D w q t) t * qL D w (bpA D w q u) u)
def oI : Option Nat → Int32
  | none => (-1 : Int32)
  | some u => nI u
def omT (D : rD) (w q : Bool) (t : Nat) : Option Nat → Option Nat
  | none => some t
  | some u => if (if q = true then lsB D w q u t else lsB D w q t u) = true then some t else some u
def omF (D : rD) (w q : Bool) (t : Nat) : Nat → Option Nat → Option Nat
  | 0, b => b
  | r + 1, b => omF D w q (t + 1) r (if pIn D t = true then omT D w q t b else b)
def unF (f : Nat → Bool) : Nat → Nat → Int32
  | _, 0 => (-1 : Int32)
  | t, r + 1 => if f t = true then unF f (t + 1) r else nI t
section Su
variable {D : rD}
theorem bpA_lt (w q : Bool) (s : Nat) : bpA D w q s < pN D (D 0 0) := by
  have h1 := bpF_le D w q s (pN D (D 0 0) - 1)
  have h2 := pN_pos D (D 0 0)
  unfold bpA
  omega
theorem pl_isSure (hD : rOk D) {I : hI} {J : hJ} (h : plOk D (pN D (D 0 0)) I J) (q : Bool) {s x : Nat} (hs : s < D 0 0) (hx : x = if q = true then 3 else 2) : mPl_isSure (nI x) (nI s) J = some (bI (suB D q s)) := by
  have hp := pN_pos D (D 0 0)
  have t0 := told_ok hD hp h false q hs (k := 0) (by decide) (x := x) (by subst hx; cases q <;> rfl)
  have t1 := told_ok hD hp h false q hs (k := 1) (by decide) (x := x) (by subst hx; cases q <;> rfl)
  have hpos := q_pos hD (w := false) (p := bpF D false q s (pN D (D 0 0) - 1)) (s := s) (fun h => absurd h (by decide))
  have hb := qUL_bd hD false (p := bpF D false q s (pN D (D 0 0) - 1)) hs
  rw [if_neg (by omega), if_pos rfl] at t0
  rw [if_neg (by omega), if_neg (by decide)] at t1
  have e := lI_eq (a := qU D false (bpF D false q s (pN D (D 0 0) - 1)) s) (b := qL D false (bpF D false q s (pN D (D 0 0) - 1)) s) (by omega) (by omega) (by omega) (by omega)
  unfold mPl_isSure
  simp (disch := omega) only [↓reduceIte, h_let, hg_in, hg_zb, hg_z0, hg_z1, hg_nz, Option.bind_some, if_pos, if_neg, bI_0, bI_n0, nI_add, nI_mul, nI_ltI, nI_leI, nI_eq, nI_clamp, nI_subN, nI_divN, nI_mod2, nI_m1e, nI_em1, nI_m2e, nI_lt0, m1_lt0, m1_lt, m1_le, h_u_at, h_u_off2, h_u_pl, li_0, li_1, li_2, li_3, li_4, li_5, li_6, li_7, li_8, li_9, li_10, li_11, li_12, li_13, li_14, li_15, li_16, li_17, li_18, li_19, li_20, li_21, li_22, li_23, li_24, li_25, li_26, li_27, li_28, li_29, li_30, li_31, li_32, li_40, li_43, li_45, li_47, li_48, li_57, li_59, li_60, li_61, li_62, li_63, li_64, li_80, li_92, li_97, li_99, li_100, li_122, li_123, li_125, li_166, li_201, li_210, li_250, li_255, li_256, li_257, li_258, li_259, li_260, li_261, li_262, li_263, li_264, li_265, li_266, li_267, li_268, li_300, li_500, li_1000, li_12345, li_27720, li_1000000, li_1103515245, ne_m1, ne_m2, t0, t1, e]
  unfold suB bpA
  by_cases c : qU D false (bpF D false q s (pN D (D 0 0) - 1)) s = qL D false (bpF D false q s (pN D (D 0 0) - 1)) s
  · rw [if_pos c, decide_eq_true c, bI_t]
  · rw [if_neg c, decide_eq_false c, bI_f]
theorem pl_less (hD : rOk D) {I : hI} {J : hJ} (h : plOk D (pN D (D 0 0)) I J) (w q : Bool) {u t x : Nat} (hu : u < D 0 0) (ht : t < D 0 0) (hx : x = (if w = true then 0 else 2) + (if q = true then 1 else 0)) : mPl_isPlaceLess (nI (x * 10 + u)) (nI (x * 10 + t)) J = some (bI (lsB D w q u t)) := by
  have hn := hD.2.1
  obtain ⟨a1, a2, _⟩ := h u hu w q
  obtain ⟨b1, b2, _⟩ := h t ht w q
  have e0 : ∀ s, (if w = true then 0 else 20) + (if q = true then 10 else 0) + s = x * 10 + s := fun s => by subst hx; cases w <;> cases q <;> simp
  have hx4 : x < 4 := by subst hx; cases w <;> cases q <;> simp
  rw [e0] at a1 a2 b1 b2
  have eo : ∀ s, s < D 0 0 → mC_isOutside (nI (x * 10 + s)) (nI 40) = nI 0 := fun s hs => by
    unfold mC_isOutside
    simp (disch := omega) only [↓reduceIte, h_let, hg_in, hg_zb, hg_z0, hg_z1, hg_nz, Option.bind_some, if_pos, if_neg, bI_0, bI_n0, nI_add, nI_mul, nI_ltI, nI_leI, nI_eq, nI_clamp, nI_subN, nI_divN, nI_mod2, nI_m1e, nI_em1, nI_m2e, nI_lt0, m1_lt0, m1_lt, m1_le, h_u_at, h_u_off2, h_u_pl, li_0, li_1, li_2, li_3, li_4, li_5, li_6, li_7, li_8, li_9, li_10, li_11, li_12, li_13, li_14, li_15, li_16, li_17, li_18, li_19, li_20, li_21, li_22, li_23, li_24, li_25, li_26, li_27, li_28, li_29, li_30, li_31, li_32, li_40, li_43, li_45, li_47, li_48, li_57, li_59, li_60, li_61, li_62, li_63, li_64, li_80, li_92, li_97, li_99, li_100, li_122, li_123, li_125, li_166, li_201, li_210, li_250, li_255, li_256, li_257, li_258, li_259, li_260, li_261, li_262, li_263, li_264, li_265, li_266, li_267, li_268, li_300, li_500, li_1000, li_12345, li_27720, li_1000000, li_1103515245, ne_m1, ne_m2]
  have e1 := eo u hu
  have e2 := eo t ht
  have pu := qUL_bd hD w (p := bpF D w q u (pN D (D 0 0) - 1)) hu
  have pt := qUL_bd hD w (p := bpF D w q t (pN D (D 0 0) - 1)) ht
  have p1 := qprod (c := 0) (d := 0) pu.1 pt.2
  have p2 := qprod (c := 0) (d := 0) pt.1 pu.2
  have e := lI_le (a := qU D w (bpF D w q t (pN D (D 0 0) - 1)) t * qL D w (bpF D w q u (pN D (D 0 0) - 1)) u) (b := qU D w (bpF D w q u (pN D (D 0 0) - 1)) u * qL D w (bpF D w q t (pN D (D 0 0) - 1)) t) (by omega) (by omega) (by omega) (by omega)
  unfold mPl_isPlaceLess lsB bpA
  simp (disch := omega) only [↓reduceIte, h_let, hg_in, hg_zb, hg_z0, hg_z1, hg_nz, Option.bind_some, if_pos, if_neg, bI_0, bI_n0, nI_add, nI_mul, nI_ltI, nI_leI, nI_eq, nI_clamp, nI_subN, nI_divN, nI_mod2, nI_m1e, nI_em1, nI_m2e, nI_lt0, m1_lt0, m1_lt, m1_le, h_u_at, h_u_off2, h_u_pl, li_0, li_1, li_2, li_3, li_4, li_5, li_6, li_7, li_8, li_9, li_10, li_11, li_12, li_13, li_14, li_15, li_16, li_17, li_18, li_19, li_20, li_21, li_22, li_23, li_24, li_25, li_26, li_27, li_28, li_29, li_30, li_31, li_32, li_40, li_43, li_45, li_47, li_48, li_57, li_59, li_60, li_61, li_62, li_63, li_64, li_80, li_92, li_97, li_99, li_100, li_122, li_123, li_125, li_166, li_201, li_210, li_250, li_255, li_256, li_257, li_258, li_259, li_260, li_261, li_262, li_263, li_264, li_265, li_266, li_267, li_268, li_300, li_500, li_1000, li_12345, li_27720, li_1000000, li_1103515245, ne_m1, ne_m2, e1, e2, a1, a2, b1, b2, lI_mul, e]
  by_cases c : qU D w (bpF D w q t (pN D (D 0 0) - 1)) t * qL D w (bpF D w q u (pN D (D 0 0) - 1)) u ≤ qU D w (bpF D w q u (pN D (D 0 0) - 1)) u * qL D w (bpF D w q t (pN D (D 0 0) - 1)) t
  · rw [if_pos c, decide_eq_false (by omega), bI_f]
  · rw [if_neg c, decide_eq_true (by omega), bI_t]
theorem pl_outer_L (hD : rOk D) {I : hI} {J : hJ} (hc : cR D I) (h : plOk D (pN D (D 0 0)) I J) (w q : Bool) {x : Nat} (hx : x = (if w = true then 0 else 2) + (if q = true then 1 else 0)) : ∀ (r t fuel : Nat) (b : Option Nat), t + r = D 0 0 → r < fuel → (∀ u, b = some u → u < D 0 0) → mPl_outermost_L5 fuel (nI x) (bI q) (oI b) (nI t) I J = some (oI (omF D w q t r b)) := by
  have hn := hD.2.1
  have hx4 : x < 4 := by subst hx; cases w <;> cases q <;> simp
  intro r
  induction r with
  | zero =>
    intro t fuel b ht hf hb
    obtain ⟨fuel, rfl⟩ : ∃ m, fuel = m + 1 := ⟨fuel - 1, by omega⟩
    unfold mPl_outermost_L5 mPl_outermost_B5
    rw [hc.1]
    simp (disch := omega) only [↓reduceIte, h_let, hg_in, hg_zb, hg_z0, hg_z1, hg_nz, Option.bind_some, if_pos, if_neg, bI_0, bI_n0, nI_add, nI_mul, nI_ltI, nI_leI, nI_eq, nI_clamp, nI_subN, nI_divN, nI_mod2, nI_m1e, nI_em1, nI_m2e, nI_lt0, m1_lt0, m1_lt, m1_le, h_u_at, h_u_off2, h_u_pl, li_0, li_1, li_2, li_3, li_4, li_5, li_6, li_7, li_8, li_9, li_10, li_11, li_12, li_13, li_14, li_15, li_16, li_17, li_18, li_19, li_20, li_21, li_22, li_23, li_24, li_25, li_26, li_27, li_28, li_29, li_30, li_31, li_32, li_40, li_43, li_45, li_47, li_48, li_57, li_59, li_60, li_61, li_62, li_63, li_64, li_80, li_92, li_97, li_99, li_100, li_122, li_123, li_125, li_166, li_201, li_210, li_250, li_255, li_256, li_257, li_258, li_259, li_260, li_261, li_262, li_263, li_264, li_265, li_266, li_267, li_268, li_300, li_500, li_1000, li_12345, li_27720, li_1000000, li_1103515245, ne_m1, ne_m2, omF]
  | succ r ih =>
    intro t fuel b ht hf hb
    obtain ⟨fuel, rfl⟩ : ∃ m, fuel = m + 1 := ⟨fuel - 1, by omega⟩
    have ei := ro_isIn hD hc (s := t) (by omega)
    have e1 : decide (t < D 0 0 ∧ 0 < D 1 t) = pIn D t := by unfold pIn; simp; omega
    rw [e1] at ei
    unfold mPl_outermost_L5 mPl_outermost_B5
    rw [hc.1, omF]
    cases hi : pIn D t
    · rw [hi, bI_f] at ei
      have go := ih (t + 1) fuel b (by omega) (by omega) hb
      simp (disch := omega) only [↓reduceIte, h_let, hg_in, hg_zb, hg_z0, hg_z1, hg_nz, Option.bind_some, if_pos, if_neg, bI_0, bI_n0, nI_add, nI_mul, nI_ltI, nI_leI, nI_eq, nI_clamp, nI_subN, nI_divN, nI_mod2, nI_m1e, nI_em1, nI_m2e, nI_lt0, m1_lt0, m1_lt, m1_le, h_u_at, h_u_off2, h_u_pl, li_0, li_1, li_2, li_3, li_4, li_5, li_6, li_7, li_8, li_9, li_10, li_11, li_12, li_13, li_14, li_15, li_16, li_17, li_18, li_19, li_20, li_21, li_22, li_23, li_24, li_25, li_26, li_27, li_28, li_29, li_30, li_31, li_32, li_40, li_43, li_45, li_47, li_48, li_57, li_59, li_60, li_61, li_62, li_63, li_64, li_80, li_92, li_97, li_99, li_100, li_122, li_123, li_125, li_166, li_201, li_210, li_250, li_255, li_256, li_257, li_258, li_259, li_260, li_261, li_262, li_263, li_264, li_265, li_266, li_267, li_268, li_300, li_500, li_1000, li_12345, li_27720, li_1000000, li_1103515245, ne_m1, ne_m2, ei, Bool.false_eq_true, if_false]
      exact go
    · rw [hi, bI_t] at ei
      rw [if_pos rfl]
      cases b with
      | none =>
        have go := ih (t + 1) fuel (some t) (by omega) (by omega) (fun u hu => by cases hu; omega)
        show _ = some (oI (omF D w q (t + 1) r (some t)))
        rw [← go]
        simp (disch := omega) only [↓reduceIte, h_let, hg_in, hg_zb, hg_z0, hg_z1, hg_nz, Option.bind_some, if_pos, if_neg, bI_0, bI_n0, nI_add, nI_mul, nI_ltI, nI_leI, nI_eq, nI_clamp, nI_subN, nI_divN, nI_mod2, nI_m1e, nI_em1, nI_m2e, nI_lt0, m1_lt0, m1_lt, m1_le, h_u_at, h_u_off2, h_u_pl, li_0, li_1, li_2, li_3, li_4, li_5, li_6, li_7, li_8, li_9, li_10, li_11, li_12, li_13, li_14, li_15, li_16, li_17, li_18, li_19, li_20, li_21, li_22, li_23, li_24, li_25, li_26, li_27, li_28, li_29, li_30, li_31, li_32, li_40, li_43, li_45, li_47, li_48, li_57, li_59, li_60, li_61, li_62, li_63, li_64, li_80, li_92, li_97, li_99, li_100, li_122, li_123, li_125, li_166, li_201, li_210, li_250, li_255, li_256, li_257, li_258, li_259, li_260, li_261, li_262, li_263, li_264, li_265, li_266, li_267, li_268, li_300, li_500, li_1000, li_12345, li_27720, li_1000000, li_1103515245, ne_m1, ne_m2, ei, oI, if_true]
      | some u =>
        rw [omT]
        have hu := hb u rfl
        have hne := nI_nem1 (u := u) (by omega)
        have g1 := ih (t + 1) fuel (some t) (by omega) (by omega) (fun u hu => by cases hu; omega)
        have g2 := ih (t + 1) fuel (some u) (by omega) (by omega) hb
        have l1 := pl_less hD h w q (u := u) (t := t) hu (by omega) hx
        have l2 := pl_less hD h w q (u := t) (t := u) (by omega) hu hx
        cases q
        · simp only [Bool.false_eq_true, if_false]
          rw [bI_f] at g1 g2 ⊢
          cases hl : lsB D w false t u
          · rw [hl, bI_f] at l2
            rw [if_neg (show ¬ (false : Bool) = true by decide), ← g2]
            simp (disch := omega) only [↓reduceIte, h_let, hg_in, hg_zb, hg_z0, hg_z1, hg_nz, Option.bind_some, if_pos, if_neg, bI_0, bI_n0, nI_add, nI_mul, nI_ltI, nI_leI, nI_eq, nI_clamp, nI_subN, nI_divN, nI_mod2, nI_m1e, nI_em1, nI_m2e, nI_lt0, m1_lt0, m1_lt, m1_le, h_u_at, h_u_off2, h_u_pl, li_0, li_1, li_2, li_3, li_4, li_5, li_6, li_7, li_8, li_9, li_10, li_11, li_12, li_13, li_14, li_15, li_16, li_17, li_18, li_19, li_20, li_21, li_22, li_23, li_24, li_25, li_26, li_27, li_28, li_29, li_30, li_31, li_32, li_40, li_43, li_45, li_47, li_48, li_57, li_59, li_60, li_61, li_62, li_63, li_64, li_80, li_92, li_97, li_99, li_100, li_122, li_123, li_125, li_166, li_201, li_210, li_250, li_255, li_256, li_257, li_258, li_259, li_260, li_261, li_262, li_263, li_264, li_265, li_266, li_267, li_268, li_300, li_500, li_1000, li_12345, li_27720, li_1000000, li_1103515245, ne_m1, ne_m2, ei, oI, if_neg hne, l2]
          · rw [hl, bI_t] at l2
            rw [if_pos (show (true : Bool) = true from rfl), ← g1]
            simp (disch := omega) only [↓reduceIte, h_let, hg_in, hg_zb, hg_z0, hg_z1, hg_nz, Option.bind_some, if_pos, if_neg, bI_0, bI_n0, nI_add, nI_mul, nI_ltI, nI_leI, nI_eq, nI_clamp, nI_subN, nI_divN, nI_mod2, nI_m1e, nI_em1, nI_m2e, nI_lt0, m1_lt0, m1_lt, m1_le, h_u_at, h_u_off2, h_u_pl, li_0, li_1, li_2, li_3, li_4, li_5, li_6, li_7, li_8, li_9, li_10, li_11, li_12, li_13, li_14, li_15, li_16, li_17, li_18, li_19, li_20, li_21, li_22, li_23, li_24, li_25, li_26, li_27, li_28, li_29, li_30, li_31, li_32, li_40, li_43, li_45, li_47, li_48, li_57, li_59, li_60, li_61, li_62, li_63, li_64, li_80, li_92, li_97, li_99, li_100, li_122, li_123, li_125, li_166, li_201, li_210, li_250, li_255, li_256, li_257, li_258, li_259, li_260, li_261, li_262, li_263, li_264, li_265, li_266, li_267, li_268, li_300, li_500, li_1000, li_12345, li_27720, li_1000000, li_1103515245, ne_m1, ne_m2, ei, oI, if_neg hne, l2]
        · simp only [if_true]
          rw [bI_t] at g1 g2 ⊢
          cases hl : lsB D w true u t
          · rw [hl, bI_f] at l1
            rw [if_neg (show ¬ (false : Bool) = true by decide), ← g2]
            simp (disch := omega) only [↓reduceIte, h_let, hg_in, hg_zb, hg_z0, hg_z1, hg_nz, Option.bind_some, if_pos, if_neg, bI_0, bI_n0, nI_add, nI_mul, nI_ltI, nI_leI, nI_eq, nI_clamp, nI_subN, nI_divN, nI_mod2, nI_m1e, nI_em1, nI_m2e, nI_lt0, m1_lt0, m1_lt, m1_le, h_u_at, h_u_off2, h_u_pl, li_0, li_1, li_2, li_3, li_4, li_5, li_6, li_7, li_8, li_9, li_10, li_11, li_12, li_13, li_14, li_15, li_16, li_17, li_18, li_19, li_20, li_21, li_22, li_23, li_24, li_25, li_26, li_27, li_28, li_29, li_30, li_31, li_32, li_40, li_43, li_45, li_47, li_48, li_57, li_59, li_60, li_61, li_62, li_63, li_64, li_80, li_92, li_97, li_99, li_100, li_122, li_123, li_125, li_166, li_201, li_210, li_250, li_255, li_256, li_257, li_258, li_259, li_260, li_261, li_262, li_263, li_264, li_265, li_266, li_267, li_268, li_300, li_500, li_1000, li_12345, li_27720, li_1000000, li_1103515245, ne_m1, ne_m2, ei, oI, if_neg hne, l1]
          · rw [hl, bI_t] at l1
            rw [if_pos (show (true : Bool) = true from rfl), ← g1]
            simp (disch := omega) only [↓reduceIte, h_let, hg_in, hg_zb, hg_z0, hg_z1, hg_nz, Option.bind_some, if_pos, if_neg, bI_0, bI_n0, nI_add, nI_mul, nI_ltI, nI_leI, nI_eq, nI_clamp, nI_subN, nI_divN, nI_mod2, nI_m1e, nI_em1, nI_m2e, nI_lt0, m1_lt0, m1_lt, m1_le, h_u_at, h_u_off2, h_u_pl, li_0, li_1, li_2, li_3, li_4, li_5, li_6, li_7, li_8, li_9, li_10, li_11, li_12, li_13, li_14, li_15, li_16, li_17, li_18, li_19, li_20, li_21, li_22, li_23, li_24, li_25, li_26, li_27, li_28, li_29, li_30, li_31, li_32, li_40, li_43, li_45, li_47, li_48, li_57, li_59, li_60, li_61, li_62, li_63, li_64, li_80, li_92, li_97, li_99, li_100, li_122, li_123, li_125, li_166, li_201, li_210, li_250, li_255, li_256, li_257, li_258, li_259, li_260, li_261, li_262, li_263, li_264, li_265, li_266, li_267, li_268, li_300, li_500, li_1000, li_12345, li_27720, li_1000000, li_1103515245, ne_m1, ne_m2, ei, oI, if_neg hne, l1]
theorem pl_sures_L (hD : rOk D) {I : hI} {J : hJ} (hc : cR D I) (h : plOk D (pN D (D 0 0)) I J) (q : Bool) {x : Nat} (hx : x = if q = true then 3 else 2) : ∀ (r t fuel c : Nat), t + r = D 0 0 → r < fuel → mPl_sureStates_L4 fuel (nI x) (nI c) (nI t) I J = some (nI (c + sumF (fun s => if suB D q s = true then 1 else 0) t r)) := by
  have hn := hD.2.1
  intro r
  induction r with
  | zero =>
    intro t fuel c ht hf
    obtain ⟨fuel, rfl⟩ : ∃ m, fuel = m + 1 := ⟨fuel - 1, by omega⟩
    unfold mPl_sureStates_L4 mPl_sureStates_B4
    rw [hc.1]
    simp (disch := omega) only [↓reduceIte, h_let, hg_in, hg_zb, hg_z0, hg_z1, hg_nz, Option.bind_some, if_pos, if_neg, bI_0, bI_n0, nI_add, nI_mul, nI_ltI, nI_leI, nI_eq, nI_clamp, nI_subN, nI_divN, nI_mod2, nI_m1e, nI_em1, nI_m2e, nI_lt0, m1_lt0, m1_lt, m1_le, h_u_at, h_u_off2, h_u_pl, li_0, li_1, li_2, li_3, li_4, li_5, li_6, li_7, li_8, li_9, li_10, li_11, li_12, li_13, li_14, li_15, li_16, li_17, li_18, li_19, li_20, li_21, li_22, li_23, li_24, li_25, li_26, li_27, li_28, li_29, li_30, li_31, li_32, li_40, li_43, li_45, li_47, li_48, li_57, li_59, li_60, li_61, li_62, li_63, li_64, li_80, li_92, li_97, li_99, li_100, li_122, li_123, li_125, li_166, li_201, li_210, li_250, li_255, li_256, li_257, li_258, li_259, li_260, li_261, li_262, li_263, li_264, li_265, li_266, li_267, li_268, li_300, li_500, li_1000, li_12345, li_27720, li_1000000, li_1103515245, ne_m1, ne_m2, sumF, Nat.add_zero]
  | succ r ih =>
    intro t fuel c ht hf
    obtain ⟨fuel, rfl⟩ : ∃ m, fuel = m + 1 := ⟨fuel - 1, by omega⟩
    have e := pl_isSure hD h q (s := t) (by omega) hx
    unfold mPl_sureStates_L4 mPl_sureStates_B4
    rw [hc.1, sumF]
    cases hs : suB D q t
    · rw [hs, bI_f] at e
      have go := ih (t + 1) fuel c (by omega) (by omega)
      simp (disch := omega) only [↓reduceIte, h_let, hg_in, hg_zb, hg_z0, hg_z1, hg_nz, Option.bind_some, if_pos, if_neg, bI_0, bI_n0, nI_add, nI_mul, nI_ltI, nI_leI, nI_eq, nI_clamp, nI_subN, nI_divN, nI_mod2, nI_m1e, nI_em1, nI_m2e, nI_lt0, m1_lt0, m1_lt, m1_le, h_u_at, h_u_off2, h_u_pl, li_0, li_1, li_2, li_3, li_4, li_5, li_6, li_7, li_8, li_9, li_10, li_11, li_12, li_13, li_14, li_15, li_16, li_17, li_18, li_19, li_20, li_21, li_22, li_23, li_24, li_25, li_26, li_27, li_28, li_29, li_30, li_31, li_32, li_40, li_43, li_45, li_47, li_48, li_57, li_59, li_60, li_61, li_62, li_63, li_64, li_80, li_92, li_97, li_99, li_100, li_122, li_123, li_125, li_166, li_201, li_210, li_250, li_255, li_256, li_257, li_258, li_259, li_260, li_261, li_262, li_263, li_264, li_265, li_266, li_267, li_268, li_300, li_500, li_1000, li_12345, li_27720, li_1000000, li_1103515245, ne_m1, ne_m2, e, go, Bool.false_eq_true, if_false, Nat.zero_add]
    · rw [hs, bI_t] at e
      have go := ih (t + 1) fuel (c + 1) (by omega) (by omega)
      simp (disch := omega) only [↓reduceIte, h_let, hg_in, hg_zb, hg_z0, hg_z1, hg_nz, Option.bind_some, if_pos, if_neg, bI_0, bI_n0, nI_add, nI_mul, nI_ltI, nI_leI, nI_eq, nI_clamp, nI_subN, nI_divN, nI_mod2, nI_m1e, nI_em1, nI_m2e, nI_lt0, m1_lt0, m1_lt, m1_le, h_u_at, h_u_off2, h_u_pl, li_0, li_1, li_2, li_3, li_4, li_5, li_6, li_7, li_8, li_9, li_10, li_11, li_12, li_13, li_14, li_15, li_16, li_17, li_18, li_19, li_20, li_21, li_22, li_23, li_24, li_25, li_26, li_27, li_28, li_29, li_30, li_31, li_32, li_40, li_43, li_45, li_47, li_48, li_57, li_59, li_60, li_61, li_62, li_63, li_64, li_80, li_92, li_97, li_99, li_100, li_122, li_123, li_125, li_166, li_201, li_210, li_250, li_255, li_256, li_257, li_258, li_259, li_260, li_261, li_262, li_263, li_264, li_265, li_266, li_267, li_268, li_300, li_500, li_1000, li_12345, li_27720, li_1000000, li_1103515245, ne_m1, ne_m2, e, go, if_true]
      congr 2
      omega
theorem pl_unsure_L (hD : rOk D) {I : hI} {J : hJ} (hc : cR D I) (h : plOk D (pN D (D 0 0)) I J) : ∀ (r t fuel : Nat), t + r = D 0 0 → r < fuel → mC_unsure_L12 fuel (nI t) I J = some (unF (suB D false) t r, I, J) := by
  have hn := hD.2.1
  intro r
  induction r with
  | zero =>
    intro t fuel ht hf
    obtain ⟨fuel, rfl⟩ : ∃ m, fuel = m + 1 := ⟨fuel - 1, by omega⟩
    unfold mC_unsure_L12 mC_unsure_B12
    rw [hc.1]
    simp (disch := omega) only [↓reduceIte, h_let, hg_in, hg_zb, hg_z0, hg_z1, hg_nz, Option.bind_some, if_pos, if_neg, bI_0, bI_n0, nI_add, nI_mul, nI_ltI, nI_leI, nI_eq, nI_clamp, nI_subN, nI_divN, nI_mod2, nI_m1e, nI_em1, nI_m2e, nI_lt0, m1_lt0, m1_lt, m1_le, h_u_at, h_u_off2, h_u_pl, li_0, li_1, li_2, li_3, li_4, li_5, li_6, li_7, li_8, li_9, li_10, li_11, li_12, li_13, li_14, li_15, li_16, li_17, li_18, li_19, li_20, li_21, li_22, li_23, li_24, li_25, li_26, li_27, li_28, li_29, li_30, li_31, li_32, li_40, li_43, li_45, li_47, li_48, li_57, li_59, li_60, li_61, li_62, li_63, li_64, li_80, li_92, li_97, li_99, li_100, li_122, li_123, li_125, li_166, li_201, li_210, li_250, li_255, li_256, li_257, li_258, li_259, li_260, li_261, li_262, li_263, li_264, li_265, li_266, li_267, li_268, li_300, li_500, li_1000, li_12345, li_27720, li_1000000, li_1103515245, ne_m1, ne_m2, unF]
  | succ r ih =>
    intro t fuel ht hf
    obtain ⟨fuel, rfl⟩ : ∃ m, fuel = m + 1 := ⟨fuel - 1, by omega⟩
    have e := pl_isSure hD h false (s := t) (x := 2) (by omega) rfl
    have go := ih (t + 1) fuel (by omega) (by omega)
    unfold mC_unsure_L12 mC_unsure_B12
    rw [hc.1, unF]
    cases hs : suB D false t
    · rw [hs, bI_f] at e
      simp (disch := omega) only [↓reduceIte, h_let, hg_in, hg_zb, hg_z0, hg_z1, hg_nz, Option.bind_some, if_pos, if_neg, bI_0, bI_n0, nI_add, nI_mul, nI_ltI, nI_leI, nI_eq, nI_clamp, nI_subN, nI_divN, nI_mod2, nI_m1e, nI_em1, nI_m2e, nI_lt0, m1_lt0, m1_lt, m1_le, h_u_at, h_u_off2, h_u_pl, li_0, li_1, li_2, li_3, li_4, li_5, li_6, li_7, li_8, li_9, li_10, li_11, li_12, li_13, li_14, li_15, li_16, li_17, li_18, li_19, li_20, li_21, li_22, li_23, li_24, li_25, li_26, li_27, li_28, li_29, li_30, li_31, li_32, li_40, li_43, li_45, li_47, li_48, li_57, li_59, li_60, li_61, li_62, li_63, li_64, li_80, li_92, li_97, li_99, li_100, li_122, li_123, li_125, li_166, li_201, li_210, li_250, li_255, li_256, li_257, li_258, li_259, li_260, li_261, li_262, li_263, li_264, li_265, li_266, li_267, li_268, li_300, li_500, li_1000, li_12345, li_27720, li_1000000, li_1103515245, ne_m1, ne_m2, e, Bool.false_eq_true, if_false]
    · rw [hs, bI_t] at e
      simp (disch := omega) only [↓reduceIte, h_let, hg_in, hg_zb, hg_z0, hg_z1, hg_nz, Option.bind_some, if_pos, if_neg, bI_0, bI_n0, nI_add, nI_mul, nI_ltI, nI_leI, nI_eq, nI_clamp, nI_subN, nI_divN, nI_mod2, nI_m1e, nI_em1, nI_m2e, nI_lt0, m1_lt0, m1_lt, m1_le, h_u_at, h_u_off2, h_u_pl, li_0, li_1, li_2, li_3, li_4, li_5, li_6, li_7, li_8, li_9, li_10, li_11, li_12, li_13, li_14, li_15, li_16, li_17, li_18, li_19, li_20, li_21, li_22, li_23, li_24, li_25, li_26, li_27, li_28, li_29, li_30, li_31, li_32, li_40, li_43, li_45, li_47, li_48, li_57, li_59, li_60, li_61, li_62, li_63, li_64, li_80, li_92, li_97, li_99, li_100, li_122, li_123, li_125, li_166, li_201, li_210, li_250, li_255, li_256, li_257, li_258, li_259, li_260, li_261, li_262, li_263, li_264, li_265, li_266, li_267, li_268, li_300, li_500, li_1000, li_12345, li_27720, li_1000000, li_1103515245, ne_m1, ne_m2, e, go, if_true]
/-- the reference, on its way through answers out of the plans -/
def mWy (D : rD) (I0 : hI) (J0 : hJ) (I : hI) (J : hJ) : Prop := offP I0 I ∧ offQ J0 J ∧ plMR D (pN D (D 0 0)) I J
theorem mWy_best (hD : rOk D) (hK : pN D (D 0 0) ≤ 64) (w q : Bool) {s : Nat} (hs : s < D 0 0) {I0 I : hI} {J0 J : hJ} (h0 : mR D I0) (h : mWy D I0 J0 I J) : ∃ (I' : hI) (J' : hJ), mM_bestPlan (nI s) (bI q) (bI w) I J = some (nI (bpA D w q s), I', J') ∧ mWy D I0 J0 I' J' ∧ plMk D (pN D (D 0 0)) I' J' := by
  obtain ⟨I', J', a1, a2, a3, a4, a5⟩ := mp_bestPlan hD hK w q hs (offP_mR h0 h.1) h.2.2
  exact ⟨I', J', a1, ⟨offP_trans h.1 a2, offQ_trans h.2.1 a3, Or.inr ⟨a4, a5⟩⟩, a5⟩
theorem mp_isSure (hD : rOk D) (hK : pN D (D 0 0) ≤ 64) (q : Bool) {s : Nat} (hs : s < D 0 0) {I0 I : hI} {J0 J : hJ} (h0 : mR D I0) (h : mWy D I0 J0 I J) : ∃ (I' : hI) (J' : hJ), mM_isSure (nI s) (bI (!q)) I J = some (bI (suB D q s), I', J') ∧ mWy D I0 J0 I' J' := by
  have hn := hD.2.1
  obtain ⟨I', J', a1, a2, a3⟩ := mWy_best hD hK false q hs h0 h
  have hbl := bpA_lt (D := D) false q s
  refine ⟨I', J', ?_, a2⟩
  have hx := x_eq hD false (p := bpA D false q s) hs (fun h => absurd h (by decide))
  obtain ⟨c4, c5⟩ := (a3 _ hbl).2.2 s hs
  rw [hx.1] at c4
  rw [hx.2] at c5
  have hb := qUL_bd hD false (p := bpA D false q s) hs
  have e := lI_eq (a := qU D false (bpA D false q s) s) (b := qL D false (bpA D false q s) s) (by omega) (by omega) (by omega) (by omega)
  unfold mM_isSure mM_isSure_13 suB
  have key : ((mM_bestPlan (nI s) (bI q) (nI 0) I J).bind fun q1 => h_let ((nI 10 * q1.1) + nI s) fun v3x1 => h_g (h_in v3x1 640) <| h_g (h_in v3x1 640) <| if (q1.2.2 33 v3x1.toNatClampNeg) = (q1.2.2 34 v3x1.toNatClampNeg) then some (nI 1, q1.2.1, q1.2.2) else some (nI 0, q1.2.1, q1.2.2)) = some (bI (decide (qU D false (bpA D false q s) s = qL D false (bpA D false q s) s)), I', J') := by
    rw [bI_f] at a1
    rw [a1]
    simp (disch := omega) only [↓reduceIte, h_let, hg_in, hg_zb, hg_z0, hg_z1, hg_nz, Option.bind_some, if_pos, if_neg, bI_0, bI_n0, nI_add, nI_mul, nI_ltI, nI_leI, nI_eq, nI_clamp, nI_subN, nI_divN, nI_mod2, nI_m1e, nI_em1, nI_m2e, nI_lt0, m1_lt0, m1_lt, m1_le, h_u_at, h_u_off2, h_u_pl, li_0, li_1, li_2, li_3, li_4, li_5, li_6, li_7, li_8, li_9, li_10, li_11, li_12, li_13, li_14, li_15, li_16, li_17, li_18, li_19, li_20, li_21, li_22, li_23, li_24, li_25, li_26, li_27, li_28, li_29, li_30, li_31, li_32, li_40, li_43, li_45, li_47, li_48, li_57, li_59, li_60, li_61, li_62, li_63, li_64, li_80, li_92, li_97, li_99, li_100, li_122, li_123, li_125, li_166, li_201, li_210, li_250, li_255, li_256, li_257, li_258, li_259, li_260, li_261, li_262, li_263, li_264, li_265, li_266, li_267, li_268, li_300, li_500, li_1000, li_12345, li_27720, li_1000000, li_1103515245, ne_m1, ne_m2, c4, c5, e]
    by_cases c : qU D false (bpA D false q s) s = qL D false (bpA D false q s) s
    · rw [if_pos c, decide_eq_true c, bI_t]
    · rw [if_neg c, decide_eq_false c, bI_f]
  cases q
  · rw [bI_f] at key
    exact key
  · rw [bI_t] at key
    exact key
theorem mp_sures_L (hD : rOk D) (hK : pN D (D 0 0) ≤ 64) (q : Bool) {I0 : hI} {J0 : hJ} (h0 : mR D I0) : ∀ (r t fuel c : Nat) (I : hI) (J : hJ), t + r = D 0 0 → r < fuel → mWy D I0 J0 I J → ∃ (I' : hI) (J' : hJ), mM_surely_L4 fuel (bI (!q)) (nI c) (nI t) I J = some (nI (c + sumF (fun s => if suB D q s = true then 1 else 0) t r), I', J') ∧ mWy D I0 J0 I' J' := by
  have hn := hD.2.1
  intro r
  induction r with
  | zero =>
    intro t fuel c I J ht hf h
    obtain ⟨fuel, rfl⟩ : ∃ m, fuel = m + 1 := ⟨fuel - 1, by omega⟩
    refine ⟨I, J, ?_, h⟩
    unfold mM_surely_L4 mM_surely_B4
    rw [(offP_mR h0 h.1).1]
    simp (disch := omega) only [↓reduceIte, h_let, hg_in, hg_zb, hg_z0, hg_z1, hg_nz, Option.bind_some, if_pos, if_neg, bI_0, bI_n0, nI_add, nI_mul, nI_ltI, nI_leI, nI_eq, nI_clamp, nI_subN, nI_divN, nI_mod2, nI_m1e, nI_em1, nI_m2e, nI_lt0, m1_lt0, m1_lt, m1_le, h_u_at, h_u_off2, h_u_pl, li_0, li_1, li_2, li_3, li_4, li_5, li_6, li_7, li_8, li_9, li_10, li_11, li_12, li_13, li_14, li_15, li_16, li_17, li_18, li_19, li_20, li_21, li_22, li_23, li_24, li_25, li_26, li_27, li_28, li_29, li_30, li_31, li_32, li_40, li_43, li_45, li_47, li_48, li_57, li_59, li_60, li_61, li_62, li_63, li_64, li_80, li_92, li_97, li_99, li_100, li_122, li_123, li_125, li_166, li_201, li_210, li_250, li_255, li_256, li_257, li_258, li_259, li_260, li_261, li_262, li_263, li_264, li_265, li_266, li_267, li_268, li_300, li_500, li_1000, li_12345, li_27720, li_1000000, li_1103515245, ne_m1, ne_m2, sumF, Nat.add_zero]
  | succ r ih =>
    intro t fuel c I J ht hf h
    obtain ⟨fuel, rfl⟩ : ∃ m, fuel = m + 1 := ⟨fuel - 1, by omega⟩
    obtain ⟨I1, J1, e, h1⟩ := mp_isSure hD hK q (s := t) (by omega) h0 h
    unfold mM_surely_L4 mM_surely_B4
    rw [(offP_mR h0 h.1).1, sumF]
    cases hs : suB D q t
    · rw [hs, bI_f] at e
      obtain ⟨I', J', go, h2⟩ := ih (t + 1) fuel c I1 J1 (by omega) (by omega) h1
      refine ⟨I', J', ?_, h2⟩
      simp (disch := omega) only [↓reduceIte, h_let, hg_in, hg_zb, hg_z0, hg_z1, hg_nz, Option.bind_some, if_pos, if_neg, bI_0, bI_n0, nI_add, nI_mul, nI_ltI, nI_leI, nI_eq, nI_clamp, nI_subN, nI_divN, nI_mod2, nI_m1e, nI_em1, nI_m2e, nI_lt0, m1_lt0, m1_lt, m1_le, h_u_at, h_u_off2, h_u_pl, li_0, li_1, li_2, li_3, li_4, li_5, li_6, li_7, li_8, li_9, li_10, li_11, li_12, li_13, li_14, li_15, li_16, li_17, li_18, li_19, li_20, li_21, li_22, li_23, li_24, li_25, li_26, li_27, li_28, li_29, li_30, li_31, li_32, li_40, li_43, li_45, li_47, li_48, li_57, li_59, li_60, li_61, li_62, li_63, li_64, li_80, li_92, li_97, li_99, li_100, li_122, li_123, li_125, li_166, li_201, li_210, li_250, li_255, li_256, li_257, li_258, li_259, li_260, li_261, li_262, li_263, li_264, li_265, li_266, li_267, li_268, li_300, li_500, li_1000, li_12345, li_27720, li_1000000, li_1103515245, ne_m1, ne_m2, e, Nat.add_zero, go, Bool.false_eq_true, if_false, Nat.zero_add]
    · rw [hs, bI_t] at e
      obtain ⟨I', J', go, h2⟩ := ih (t + 1) fuel (c + 1) I1 J1 (by omega) (by omega) h1
      refine ⟨I', J', ?_, h2⟩
      simp (disch := omega) only [↓reduceIte, h_let, hg_in, hg_zb, hg_z0, hg_z1, hg_nz, Option.bind_some, if_pos, if_neg, bI_0, bI_n0, nI_add, nI_mul, nI_ltI, nI_leI, nI_eq, nI_clamp, nI_subN, nI_divN, nI_mod2, nI_m1e, nI_em1, nI_m2e, nI_lt0, m1_lt0, m1_lt, m1_le, h_u_at, h_u_off2, h_u_pl, li_0, li_1, li_2, li_3, li_4, li_5, li_6, li_7, li_8, li_9, li_10, li_11, li_12, li_13, li_14, li_15, li_16, li_17, li_18, li_19, li_20, li_21, li_22, li_23, li_24, li_25, li_26, li_27, li_28, li_29, li_30, li_31, li_32, li_40, li_43, li_45, li_47, li_48, li_57, li_59, li_60, li_61, li_62, li_63, li_64, li_80, li_92, li_97, li_99, li_100, li_122, li_123, li_125, li_166, li_201, li_210, li_250, li_255, li_256, li_257, li_258, li_259, li_260, li_261, li_262, li_263, li_264, li_265, li_266, li_267, li_268, li_300, li_500, li_1000, li_12345, li_27720, li_1000000, li_1103515245, ne_m1, ne_m2, e, go, if_true]
      congr 3
      omega
theorem mp_unsure_L (hD : rOk D) (hK : pN D (D 0 0) ≤ 64) {I0 : hI} {J0 : hJ} (h0 : mR D I0) : ∀ (r t fuel : Nat) (I : hI) (J : hJ), t + r = D 0 0 → r < fuel → mWy D I0 J0 I J → ∃ (I' : hI) (J' : hJ), mM_unsure_L18 fuel (nI t) I J = some (unF (suB D false) t r, I', J') ∧ mWy D I0 J0 I' J' := by
  have hn := hD.2.1
  intro r
  induction r with
  | zero =>
    intro t fuel I J ht hf h
    obtain ⟨fuel, rfl⟩ : ∃ m, fuel = m + 1 := ⟨fuel - 1, by omega⟩
    refine ⟨I, J, ?_, h⟩
    unfold mM_unsure_L18 mM_unsure_B18
    rw [(offP_mR h0 h.1).1]
    simp (disch := omega) only [↓reduceIte, h_let, hg_in, hg_zb, hg_z0, hg_z1, hg_nz, Option.bind_some, if_pos, if_neg, bI_0, bI_n0, nI_add, nI_mul, nI_ltI, nI_leI, nI_eq, nI_clamp, nI_subN, nI_divN, nI_mod2, nI_m1e, nI_em1, nI_m2e, nI_lt0, m1_lt0, m1_lt, m1_le, h_u_at, h_u_off2, h_u_pl, li_0, li_1, li_2, li_3, li_4, li_5, li_6, li_7, li_8, li_9, li_10, li_11, li_12, li_13, li_14, li_15, li_16, li_17, li_18, li_19, li_20, li_21, li_22, li_23, li_24, li_25, li_26, li_27, li_28, li_29, li_30, li_31, li_32, li_40, li_43, li_45, li_47, li_48, li_57, li_59, li_60, li_61, li_62, li_63, li_64, li_80, li_92, li_97, li_99, li_100, li_122, li_123, li_125, li_166, li_201, li_210, li_250, li_255, li_256, li_257, li_258, li_259, li_260, li_261, li_262, li_263, li_264, li_265, li_266, li_267, li_268, li_300, li_500, li_1000, li_12345, li_27720, li_1000000, li_1103515245, ne_m1, ne_m2, unF]
  | succ r ih =>
    intro t fuel I J ht hf h
    obtain ⟨fuel, rfl⟩ : ∃ m, fuel = m + 1 := ⟨fuel - 1, by omega⟩
    obtain ⟨I1, J1, e, h1⟩ := mp_isSure hD hK false (s := t) (by omega) h0 h
    rw [Bool.not_false, bI_t] at e
    unfold mM_unsure_L18 mM_unsure_B18
    rw [(offP_mR h0 h.1).1, unF]
    cases hs : suB D false t
    · rw [hs, bI_f] at e
      refine ⟨I1, J1, ?_, h1⟩
      simp (disch := omega) only [↓reduceIte, h_let, hg_in, hg_zb, hg_z0, hg_z1, hg_nz, Option.bind_some, if_pos, if_neg, bI_0, bI_n0, nI_add, nI_mul, nI_ltI, nI_leI, nI_eq, nI_clamp, nI_subN, nI_divN, nI_mod2, nI_m1e, nI_em1, nI_m2e, nI_lt0, m1_lt0, m1_lt, m1_le, h_u_at, h_u_off2, h_u_pl, li_0, li_1, li_2, li_3, li_4, li_5, li_6, li_7, li_8, li_9, li_10, li_11, li_12, li_13, li_14, li_15, li_16, li_17, li_18, li_19, li_20, li_21, li_22, li_23, li_24, li_25, li_26, li_27, li_28, li_29, li_30, li_31, li_32, li_40, li_43, li_45, li_47, li_48, li_57, li_59, li_60, li_61, li_62, li_63, li_64, li_80, li_92, li_97, li_99, li_100, li_122, li_123, li_125, li_166, li_201, li_210, li_250, li_255, li_256, li_257, li_258, li_259, li_260, li_261, li_262, li_263, li_264, li_265, li_266, li_267, li_268, li_300, li_500, li_1000, li_12345, li_27720, li_1000000, li_1103515245, ne_m1, ne_m2, e, Bool.false_eq_true, if_false]
    · rw [hs, bI_t] at e
      obtain ⟨I', J', go, h2⟩ := ih (t + 1) fuel I1 J1 (by omega) (by omega) h1
      refine ⟨I', J', ?_, h2⟩
      simp (disch := omega) only [↓reduceIte, h_let, hg_in, hg_zb, hg_z0, hg_z1, hg_nz, Option.bind_some, if_pos, if_neg, bI_0, bI_n0, nI_add, nI_mul, nI_ltI, nI_leI, nI_eq, nI_clamp, nI_subN, nI_divN, nI_mod2, nI_m1e, nI_em1, nI_m2e, nI_lt0, m1_lt0, m1_lt, m1_le, h_u_at, h_u_off2, h_u_pl, li_0, li_1, li_2, li_3, li_4, li_5, li_6, li_7, li_8, li_9, li_10, li_11, li_12, li_13, li_14, li_15, li_16, li_17, li_18, li_19, li_20, li_21, li_22, li_23, li_24, li_25, li_26, li_27, li_28, li_29, li_30, li_31, li_32, li_40, li_43, li_45, li_47, li_48, li_57, li_59, li_60, li_61, li_62, li_63, li_64, li_80, li_92, li_97, li_99, li_100, li_122, li_123, li_125, li_166, li_201, li_210, li_250, li_255, li_256, li_257, li_258, li_259, li_260, li_261, li_262, li_263, li_264, li_265, li_266, li_267, li_268, li_300, li_500, li_1000, li_12345, li_27720, li_1000000, li_1103515245, ne_m1, ne_m2, e, go, if_true]
end Su
