/-! Which picks are allowed; the choices of a state, both sides. -/
/-- what a pick is bound to: 0: nothing, 1: 0, 2: 1 -/
def bdI (b : Nat) : Int32 := if b = 0 then (-1 : Int32) else nI (b - 1)
def bmk (b0 b1 b2 : Nat) : Nat := (if b0 = 0 then 0 else 1) + (if b1 = 0 then 0 else 2) + (if b2 = 0 then 0 else 4)
def bto (b0 b1 b2 : Nat) : Nat := (if b0 = 2 then 1 else 0) + (if b1 = 2 then 2 else 0) + (if b2 = 2 then 4 else 0)
def okP (b by1 k : Nat) : Bool := b == 0 || (by1 / 2 ^ k % 2 == b - 1)
def alw (b0 b1 b2 by1 : Nat) : Bool := okP b0 by1 0 && (okP b1 by1 1 && (okP b2 by1 2 && true))
theorem alw_c : ∀ b0, b0 < 3 → ∀ b1, b1 < 3 → ∀ b2, b2 < 3 → ∀ y, y < 8 → (decide ((nI y &&& nI (bmk b0 b1 b2)) = nI (bto b0 b1 b2)) = alw b0 b1 b2 y) := by decide +kernel
theorem alw_to : ∀ b0, b0 < 3 → ∀ b1, b1 < 3 → ∀ b2, b2 < 3 → alw b0 b1 b2 (bto b0 b1 b2) = true := by decide +kernel
theorem bto_lt (b0 b1 b2 : Nat) : bto b0 b1 b2 < 8 ∧ (b2 = 0 → bto b0 b1 b2 < 4) ∧ (b2 = 0 → b1 = 0 → bto b0 b1 b2 < 2) ∧ (b2 = 0 → b1 = 0 → b0 = 0 → bto b0 b1 b2 < 1) := by
  have key : ∀ b v : Nat, (if b = 2 then v else 0) ≤ v ∧ (b = 0 → (if b = 2 then v else 0) = 0) := fun b v => by
    split <;> omega
  have e0 := key b0 1
  have e1 := key b1 2
  have e2 := key b2 4
  unfold bto
  generalize (if b0 = 2 then 1 else 0) = x at *
  generalize (if b1 = 2 then 2 else 0) = y at *
  generalize (if b2 = 2 then 4 else 0) = z at *
  omega
theorem bit_p : ∀ y, y < 8 → ∀ k, k < 3 → ((nI y >>> (nI k &&& nI 31)) &&& nI 1) = nI (y / 2 ^ k % 2) := by decide +kernel
theorem shl_p : ∀ k, k < 4 → (nI 1 <<< (nI k &&& nI 31)) = nI (2 ^ k) := by decide +kernel
/-- both sides hold what picks are bound to -/
def bdQ (np : Nat) (bn : Nat → Nat) (Ic Im : hI) : Prop := (∀ k, bn k < 3) ∧ (∀ k, np ≤ k → bn k = 0) ∧ Ic 0 13 = nI (bmk (bn 0) (bn 1) (bn 2)) ∧ Ic 0 14 = nI (bto (bn 0) (bn 1) (bn 2)) ∧ ∀ k, k < 3 → Im 24 k = bdI (bn k)
section Pk
variable {np : Nat} {bn : Nat → Nat}
theorem al_L {I : hI} (h43 : I 0 43 = nI np) (hnp : np ≤ 3) (hbn : ∀ k, bn k < 3) (h24 : ∀ k, k < 3 → I 24 k = bdI (bn k)) {y : Nat} (hy : y < 8) : ∀ (r k fuel : Nat) (z : Bool), k + r = np → r < fuel → mM_isAllowed_L4 fuel (nI y) (bI z) (nI k) I = some (bI (z && allF (fun k => okP (bn k) y k) k r)) := by
  intro r
  induction r with
  | zero =>
    intro k fuel z hk hf
    obtain ⟨fuel, rfl⟩ : ∃ m, fuel = m + 1 := ⟨fuel - 1, by omega⟩
    show mM_isAllowed_B4 (mM_isAllowed_L4 fuel) _ _ _ _ = _
    unfold mM_isAllowed_B4
    rw [h43, allF, Bool.and_true]
    simp (disch := omega) only [↓reduceIte, h_let, hg_in, hg_zb, hg_z0, hg_z1, hg_nz, Option.bind_some, if_pos, if_neg, bI_0, bI_n0, nI_add, nI_mul, nI_ltI, nI_leI, nI_eq, nI_clamp, nI_subN, nI_divN, nI_mod2, nI_m1e, nI_em1, nI_m2e, nI_lt0, m1_lt0, m1_lt, m1_le, h_u_at, h_u_off2, h_u_pl, li_0, li_1, li_2, li_3, li_4, li_5, li_6, li_7, li_8, li_9, li_10, li_11, li_12, li_13, li_14, li_15, li_16, li_17, li_18, li_19, li_20, li_21, li_22, li_23, li_24, li_25, li_26, li_27, li_28, li_29, li_30, li_31, li_32, li_40, li_43, li_45, li_47, li_48, li_57, li_59, li_60, li_61, li_62, li_63, li_64, li_80, li_92, li_97, li_99, li_100, li_122, li_123, li_125, li_166, li_201, li_210, li_250, li_255, li_256, li_257, li_258, li_259, li_260, li_261, li_262, li_263, li_264, li_265, li_266, li_267, li_268, li_300, li_500, li_1000, li_12345, li_27720, li_1000000, li_1103515245, ne_m1, ne_m2]
  | succ r ih =>
    intro k fuel z hk hf
    obtain ⟨fuel, rfl⟩ : ∃ m, fuel = m + 1 := ⟨fuel - 1, by omega⟩
    have gf := ih (k + 1) fuel false (by omega) (by omega)
    have gt := ih (k + 1) fuel true (by omega) (by omega)
    rw [Bool.false_and, bI_f] at gf
    rw [Bool.true_and, bI_t] at gt
    have e24 := h24 k (by omega)
    have hb := hbn k
    have bp := bit_p y hy k (by omega)
    show mM_isAllowed_B4 (mM_isAllowed_L4 fuel) _ _ _ _ = _
    unfold mM_isAllowed_B4
    rw [h43, allF]
    cases z
    · rw [Bool.false_and, bI_f, ← gf]
      simp (disch := omega) only [↓reduceIte, h_let, hg_in, hg_zb, hg_z0, hg_z1, hg_nz, Option.bind_some, if_pos, if_neg, bI_0, bI_n0, nI_add, nI_mul, nI_ltI, nI_leI, nI_eq, nI_clamp, nI_subN, nI_divN, nI_mod2, nI_m1e, nI_em1, nI_m2e, nI_lt0, m1_lt0, m1_lt, m1_le, h_u_at, h_u_off2, h_u_pl, li_0, li_1, li_2, li_3, li_4, li_5, li_6, li_7, li_8, li_9, li_10, li_11, li_12, li_13, li_14, li_15, li_16, li_17, li_18, li_19, li_20, li_21, li_22, li_23, li_24, li_25, li_26, li_27, li_28, li_29, li_30, li_31, li_32, li_40, li_43, li_45, li_47, li_48, li_57, li_59, li_60, li_61, li_62, li_63, li_64, li_80, li_92, li_97, li_99, li_100, li_122, li_123, li_125, li_166, li_201, li_210, li_250, li_255, li_256, li_257, li_258, li_259, li_260, li_261, li_262, li_263, li_264, li_265, li_266, li_267, li_268, li_300, li_500, li_1000, li_12345, li_27720, li_1000000, li_1103515245, ne_m1, ne_m2]
    · rw [Bool.true_and, bI_t]
      by_cases e0 : bn k = 0
      · have eo : okP (bn k) y k = true := by unfold okP; rw [e0]; rfl
        have e24' : I 24 k = (-1 : Int32) := by rw [e24, e0]; rfl
        rw [eo, Bool.true_and, ← gt]
        simp (disch := omega) only [↓reduceIte, h_let, hg_in, hg_zb, hg_z0, hg_z1, hg_nz, Option.bind_some, if_pos, if_neg, bI_0, bI_n0, nI_add, nI_mul, nI_ltI, nI_leI, nI_eq, nI_clamp, nI_subN, nI_divN, nI_mod2, nI_m1e, nI_em1, nI_m2e, nI_lt0, m1_lt0, m1_lt, m1_le, h_u_at, h_u_off2, h_u_pl, li_0, li_1, li_2, li_3, li_4, li_5, li_6, li_7, li_8, li_9, li_10, li_11, li_12, li_13, li_14, li_15, li_16, li_17, li_18, li_19, li_20, li_21, li_22, li_23, li_24, li_25, li_26, li_27, li_28, li_29, li_30, li_31, li_32, li_40, li_43, li_45, li_47, li_48, li_57, li_59, li_60, li_61, li_62, li_63, li_64, li_80, li_92, li_97, li_99, li_100, li_122, li_123, li_125, li_166, li_201, li_210, li_250, li_255, li_256, li_257, li_258, li_259, li_260, li_261, li_262, li_263, li_264, li_265, li_266, li_267, li_268, li_300, li_500, li_1000, li_12345, li_27720, li_1000000, li_1103515245, ne_m1, ne_m2, e24']
      · have e24' : I 24 k = nI (bn k - 1) := by rw [e24]; unfold bdI; rw [if_neg e0]
        have nm := nI_m1e (a := bn k - 1) (by omega)
        have ne := nI_eq (a := y / 2 ^ k % 2) (b := bn k - 1) (by omega) (by omega)
        by_cases e1 : y / 2 ^ k % 2 = bn k - 1
        · have eo : okP (bn k) y k = true := by unfold okP; simp [e1]
          rw [eo, Bool.true_and, ← gt]
          simp (disch := omega) only [↓reduceIte, h_let, hg_in, hg_zb, hg_z0, hg_z1, hg_nz, Option.bind_some, if_pos, if_neg, bI_0, bI_n0, nI_add, nI_mul, nI_ltI, nI_leI, nI_eq, nI_clamp, nI_subN, nI_divN, nI_mod2, nI_m1e, nI_em1, nI_m2e, nI_lt0, m1_lt0, m1_lt, m1_le, h_u_at, h_u_off2, h_u_pl, li_0, li_1, li_2, li_3, li_4, li_5, li_6, li_7, li_8, li_9, li_10, li_11, li_12, li_13, li_14, li_15, li_16, li_17, li_18, li_19, li_20, li_21, li_22, li_23, li_24, li_25, li_26, li_27, li_28, li_29, li_30, li_31, li_32, li_40, li_43, li_45, li_47, li_48, li_57, li_59, li_60, li_61, li_62, li_63, li_64, li_80, li_92, li_97, li_99, li_100, li_122, li_123, li_125, li_166, li_201, li_210, li_250, li_255, li_256, li_257, li_258, li_259, li_260, li_261, li_262, li_263, li_264, li_265, li_266, li_267, li_268, li_300, li_500, li_1000, li_12345, li_27720, li_1000000, li_1103515245, ne_m1, ne_m2, e24', bp]
        · have eo : okP (bn k) y k = false := by unfold okP; simp [e0, e1]
          rw [eo, Bool.false_and, bI_f, ← gf]
          simp (disch := omega) only [↓reduceIte, h_let, hg_in, hg_zb, hg_z0, hg_z1, hg_nz, Option.bind_some, if_pos, if_neg, bI_0, bI_n0, nI_add, nI_mul, nI_ltI, nI_leI, nI_eq, nI_clamp, nI_subN, nI_divN, nI_mod2, nI_m1e, nI_em1, nI_m2e, nI_lt0, m1_lt0, m1_lt, m1_le, h_u_at, h_u_off2, h_u_pl, li_0, li_1, li_2, li_3, li_4, li_5, li_6, li_7, li_8, li_9, li_10, li_11, li_12, li_13, li_14, li_15, li_16, li_17, li_18, li_19, li_20, li_21, li_22, li_23, li_24, li_25, li_26, li_27, li_28, li_29, li_30, li_31, li_32, li_40, li_43, li_45, li_47, li_48, li_57, li_59, li_60, li_61, li_62, li_63, li_64, li_80, li_92, li_97, li_99, li_100, li_122, li_123, li_125, li_166, li_201, li_210, li_250, li_255, li_256, li_257, li_258, li_259, li_260, li_261, li_262, li_263, li_264, li_265, li_266, li_267, li_268, li_300, li_500, li_1000, li_12345, li_27720, li_1000000, li_1103515245, ne_m1, ne_m2, e24', bp]
theorem mp_allowed {I : hI} (h43 : I 0 43 = nI np) (hnp : np ≤ 3) (hbn : ∀ k, bn k < 3) (h0 : ∀ k, np ≤ k → bn k = 0) (h24 : ∀ k, k < 3 → I 24 k = bdI (bn k)) {y : Nat} (hy : y < 8) : mM_isAllowed (nI y) I = some (bI (alw (bn 0) (bn 1) (bn 2) y)) := by
  have go := al_L h43 hnp hbn h24 hy np 0 hF true (by omega) (by unfold hF; omega)
  rw [Bool.true_and, bI_t] at go
  have ez : ∀ k, np ≤ k → okP (bn k) y k = true := fun k hk => by unfold okP; rw [h0 k hk]; rfl
  have e : allF (fun k => okP (bn k) y k) 0 np = alw (bn 0) (bn 1) (bn 2) y := by
    unfold alw
    rcases (show np = 0 ∨ np = 1 ∨ np = 2 ∨ np = 3 by omega) with rfl | rfl | rfl | rfl
    · rw [ez 0 (by omega), ez 1 (by omega), ez 2 (by omega)]; rfl
    · rw [ez 1 (by omega), ez 2 (by omega)]; rfl
    · rw [ez 2 (by omega)]; rfl
    · rfl
  unfold mM_isAllowed
  rw [li_0, li_1, go, e]
end Pk
/-- the condition of a LOOP, both sides -/
def whQ (t w wt : Nat) (E : cE) (Ic Im : hI) : Prop := (0 < wt ∧ wt ≤ 166) ∧ cbQ E 0 wt ∧ opB E 0 = true ∧ ccQ (t + 1) E 0 wt Ic ∧ Ic t 6 = nI wt ∧ cmQ 500 E 0 wt Im ∧ Im 0 44 = nI 500 ∧ Im 0 45 = nI (500 + wt) ∧ Im 0 39 = nI w
def inB (E : cE) (w wt s : Nat) : Bool := hvB E 0 wt (s % w) (s / w)
theorem mp_isIn {t w wt s : Nat} {E : cE} {Ic Im : hI} (H : whQ t w wt E Ic Im) (hw : 1 ≤ w ∧ w ≤ 10) (hs : s < 10) : mM_isIn (nI s) Im = some (bI (inB E w wt s)) := by
  obtain ⟨a1, a2, a3, a4, a5, a6, a7, a8, a9⟩ := H
  have hx : s % w ≤ 9 := by have : s % w ≤ s := Nat.mod_le _ _; omega
  have hy : s / w ≤ 9 := by have : s / w ≤ s := Nat.div_le_self _ _; omega
  have e := m_holds (o := 500) (a := 0) a2 a6 a1.1 a3 (by omega) hx hy
  unfold mM_isIn
  rw [a9, a7, a8, hg_nz _ (by omega) (by omega), hg_nz _ (by omega) (by omega), nI_divN (by omega) (by omega), nI_mul, nI_mod2]
  have e' : mM_holds (nI 500) (nI (500 + wt)) (nI (s % w)) (nI (s / w)) Im = some (bI (inB E w wt s)) := e
  rw [e', Option.bind_some, hg_zb]
theorem whQ_of {t w wt : Nat} {E : cE} {Ic Ic' Im Im' : hI} (H : whQ t w wt E Ic Im) (o1 : ∀ c i, t ≤ c → Ic' c i = Ic c i) (o2 : ∀ c i, 2 ≤ c → c ≤ 8 → Im' c i = Im c i) (o3 : Im' 0 39 = Im 0 39 ∧ Im' 0 44 = Im 0 44 ∧ Im' 0 45 = Im 0 45) : whQ t w wt E Ic' Im' := by
  obtain ⟨a1, a2, a3, a4, a5, a6, a7, a8, a9⟩ := H
  exact ⟨a1, a2, a3, ccQ_of a4 (fun c i q1 q2 => o1 c i (by omega)), by rw [o1 _ _ (Nat.le_refl _)]; exact a5, cmQ_of a6 o2, by rw [o3.2.1]; exact a7, by rw [o3.2.2]; exact a8, by rw [o3.1]; exact a9⟩
