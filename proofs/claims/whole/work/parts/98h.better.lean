/-! best: the better corner, both sides. -/
/-- a corner held in a cell -/
def ptQ (c : Nat) (P : Nat → Int) (J : hJ) : Prop := J c 0 = lI (P 0) ∧ J c 1 = lI (P 1) ∧ J c 2 = lI (P 2) ∧ J c 3 = lI (P 3)
def ptB (P : Nat → Int) : Prop := (- 14929920 ≤ P 0 ∧ P 0 ≤ 14929920) ∧ (- 14929920 ≤ P 1 ∧ P 1 ≤ 14929920) ∧ (- 14929920 ≤ P 2 ∧ P 2 ≤ 14929920) ∧ (0 < P 3 ∧ P 3 ≤ 279936)
theorem pV_bd {P : Nat → Int} (h : ptB P) {x y : Nat} (hx : x ≤ 9) (hy : y ≤ 9) : - 283668480 ≤ pV x y P ∧ pV x y P ≤ 283668480 := by
  obtain ⟨a, b, c, _⟩ := h
  have := mb a (show - 9 ≤ (x : Int) ∧ (x : Int) ≤ 9 by omega)
  have := mb b (show - 9 ≤ (y : Int) ∧ (y : Int) ≤ 9 by omega)
  unfold pV
  omega
section Bt
variable {D : rD}
theorem co_tells (hD : rOk D) {I : hI} {J : hJ} (hc : cR D I) {s c : Nat} (hs : s < D 0 0) {P : Nat → Int} (h : ptQ c P J) : mCo_tells (nI s) c I J = some (lI (pV (s % D 0 1 : Nat) (s / D 0 1 : Nat) P)) := by
  have hn := hD.2.1
  obtain ⟨p0, p1, p2, _⟩ := h
  have ex := ro_xOf hD hc hs
  have ey := ro_yOf hD hc hs
  have hx : s % D 0 1 ≤ s := Nat.mod_le _ _
  have hy : s / D 0 1 ≤ s := Nat.div_le_self _ _
  have e1 := nI_lI (n := s % D 0 1) (by omega)
  have e2 := nI_lI (n := s / D 0 1) (by omega)
  unfold mCo_tells pV
  simp (disch := omega) only [↓reduceIte, h_let, hg_in, hg_zb, hg_z0, hg_z1, hg_nz, Option.bind_some, if_pos, if_neg, bI_0, bI_n0, nI_add, nI_mul, nI_ltI, nI_leI, nI_eq, nI_clamp, nI_subN, nI_divN, nI_mod2, nI_m1e, nI_em1, nI_m2e, nI_lt0, m1_lt0, m1_lt, m1_le, h_u_at, h_u_off2, h_u_pl, li_0, li_1, li_2, li_3, li_4, li_5, li_6, li_7, li_8, li_9, li_10, li_11, li_12, li_13, li_14, li_15, li_16, li_17, li_18, li_19, li_20, li_21, li_22, li_23, li_24, li_25, li_26, li_27, li_28, li_29, li_30, li_31, li_32, li_40, li_43, li_45, li_47, li_48, li_57, li_59, li_60, li_61, li_62, li_63, li_64, li_80, li_92, li_97, li_99, li_100, li_122, li_123, li_125, li_166, li_201, li_210, li_250, li_255, li_256, li_257, li_258, li_259, li_260, li_261, li_262, li_263, li_264, li_265, li_266, li_267, li_268, li_300, li_500, li_1000, li_12345, li_27720, li_1000000, li_1103515245, ne_m1, ne_m2, p0, p1, p2, ex, ey, e1, e2, lI_mul, lI_add]
end Bt
