/-! Plans: the best one, the reference's side. -/
section Be
variable {D : rD}
theorem q_end {p s : Nat} (he : pEn D p s = true) : qU D true p s = 1 ∧ qL D true p s = 0 := by
  unfold qU qL rU rL
  rw [if_pos rfl, if_pos he, if_pos ⟨rfl, he⟩]
  exact ⟨by decide, by decide⟩
theorem q_pos (hD : rOk D) {w : Bool} {p s : Nat} (he : w = true → pEn D p s = false) : 0 < qL D w p s := by
  unfold qL
  refine rd_pos ?_
  unfold rL
  have : ¬ (w = true ∧ pEn D p s = true) := fun h => by rw [he h.1] at h; exact absurd h.2 (by decide)
  rw [if_neg this]
  by_cases q : pPs D p s = true
  · rw [if_pos q]; exact (gD_le hD).1
  · rw [if_neg q]; decide
theorem q_prod (hD : rOk D) (w : Bool) {a b s : Nat} (hs : s < D 0 0) : - 2 ^ 62 < qU D w a s * qL D w b s ∧ qU D w a s * qL D w b s < 2 ^ 62 :=
  qprod (c := 0) (d := 0) (qUL_bd hD w hs).1 (qUL_bd hD w hs).2
def lessB (D : rD) (w : Bool) (a b s : Nat) : Bool := decide (qU D w a s * qL D w b s < qU D w b s * qL D w a s)
theorem m_lessOdds (hD : rOk D) {K : Nat} (hK : K ≤ 64) {I : hI} {J : hJ} (h : plMk D K I J) {a b s : Nat} (ha : a < K) (hb : b < K) (hs : s < D 0 0) : mM_areLessOdds (nI a) (nI b) (nI s) J = some (bI (lessB D false a b s)) := by
  have hn := hD.2.1
  have xa := x_eq hD false (p := a) hs (fun h => absurd h (by decide))
  have xb := x_eq hD false (p := b) hs (fun h => absurd h (by decide))
  obtain ⟨a1, a2⟩ := (h a ha).2.2 s hs
  obtain ⟨b1, b2⟩ := (h b hb).2.2 s hs
  rw [xa.1] at a1
  rw [xa.2] at a2
  rw [xb.1] at b1
  rw [xb.2] at b2
  have p1 := q_prod hD false (a := a) (b := b) hs
  have p2 := q_prod hD false (a := b) (b := a) hs
  have e := lI_le (a := qU D false b s * qL D false a s) (b := qU D false a s * qL D false b s) (by omega) (by omega) (by omega) (by omega)
  unfold mM_areLessOdds
  simp (disch := omega) only [↓reduceIte, h_let, hg_in, hg_zb, hg_z0, hg_z1, hg_nz, Option.bind_some, if_pos, if_neg, bI_0, bI_n0, nI_add, nI_mul, nI_ltI, nI_leI, nI_eq, nI_clamp, nI_subN, nI_divN, nI_mod2, nI_m1e, nI_em1, nI_m2e, nI_lt0, m1_lt0, m1_lt, m1_le, h_u_at, h_u_off2, h_u_pl, li_0, li_1, li_2, li_3, li_4, li_5, li_6, li_7, li_8, li_9, li_10, li_11, li_12, li_13, li_14, li_15, li_16, li_17, li_18, li_19, li_20, li_21, li_22, li_23, li_24, li_25, li_26, li_27, li_28, li_29, li_30, li_31, li_32, li_40, li_43, li_45, li_47, li_48, li_57, li_59, li_60, li_61, li_62, li_63, li_64, li_80, li_92, li_97, li_99, li_100, li_122, li_123, li_125, li_166, li_201, li_210, li_250, li_255, li_256, li_257, li_258, li_259, li_260, li_261, li_262, li_263, li_264, li_265, li_266, li_267, li_268, li_300, li_500, li_1000, li_12345, li_27720, li_1000000, li_1103515245, ne_m1, ne_m2, a1, a2, b1, b2, lI_mul, e]
  unfold lessB
  by_cases q : qU D false b s * qL D false a s ≤ qU D false a s * qL D false b s
  · rw [if_pos q]
    have : decide (qU D false a s * qL D false b s < qU D false b s * qL D false a s) = false := by simp; omega
    rw [this, bI_f]
  · rw [if_neg q]
    have : decide (qU D false a s * qL D false b s < qU D false b s * qL D false a s) = true := by simp; omega
    rw [this, bI_t]
theorem m_lessPaid (hD : rOk D) {K : Nat} (hK : K ≤ 64) {I : hI} {J : hJ} (h : plMk D K I J) {a b s : Nat} (ha : a < K) (hb : b < K) (hs : s < D 0 0) : mM_isLessPaid (nI a) (nI b) (nI s) I J = some (bI (lessB D true a b s)) := by
  have hn := hD.2.1
  have fa := (h a ha).1 s hs
  have fb := (h b hb).1 s hs
  unfold mM_isLessPaid mM_isLessPaid_36
  unfold lessB
  cases ea : pEn D a s
  · rw [ea, bI_f] at fa
    have xa := x_eq hD true (p := a) hs (fun _ => ea)
    have pa := q_pos hD (w := true) (p := a) (s := s) (fun _ => ea)
    cases eb : pEn D b s
    · rw [eb, bI_f] at fb
      have xb := x_eq hD true (p := b) hs (fun _ => eb)
      obtain ⟨a1, a2⟩ := (h a ha).2.1 s hs
      obtain ⟨b1, b2⟩ := (h b hb).2.1 s hs
      rw [xa.1] at a1
      rw [xa.2] at a2
      rw [xb.1] at b1
      rw [xb.2] at b2
      have p1 := q_prod hD true (a := a) (b := b) hs
      have p2 := q_prod hD true (a := b) (b := a) hs
      have e := lI_le (a := qU D true b s * qL D true a s) (b := qU D true a s * qL D true b s) (by omega) (by omega) (by omega) (by omega)
      simp (disch := omega) only [↓reduceIte, h_let, hg_in, hg_zb, hg_z0, hg_z1, hg_nz, Option.bind_some, if_pos, if_neg, bI_0, bI_n0, nI_add, nI_mul, nI_ltI, nI_leI, nI_eq, nI_clamp, nI_subN, nI_divN, nI_mod2, nI_m1e, nI_em1, nI_m2e, nI_lt0, m1_lt0, m1_lt, m1_le, h_u_at, h_u_off2, h_u_pl, li_0, li_1, li_2, li_3, li_4, li_5, li_6, li_7, li_8, li_9, li_10, li_11, li_12, li_13, li_14, li_15, li_16, li_17, li_18, li_19, li_20, li_21, li_22, li_23, li_24, li_25, li_26, li_27, li_28, li_29, li_30, li_31, li_32, li_40, li_43, li_45, li_47, li_48, li_57, li_59, li_60, li_61, li_62, li_63, li_64, li_80, li_92, li_97, li_99, li_100, li_122, li_123, li_125, li_166, li_201, li_210, li_250, li_255, li_256, li_257, li_258, li_259, li_260, li_261, li_262, li_263, li_264, li_265, li_266, li_267, li_268, li_300, li_500, li_1000, li_12345, li_27720, li_1000000, li_1103515245, ne_m1, ne_m2, fa, fb, a1, a2, b1, b2, lI_mul, e]
      by_cases q : qU D true b s * qL D true a s ≤ qU D true a s * qL D true b s
      · rw [if_pos q]
        have : decide (qU D true a s * qL D true b s < qU D true b s * qL D true a s) = false := by simp; omega
        rw [this, bI_f]
      · rw [if_neg q]
        have : decide (qU D true a s * qL D true b s < qU D true b s * qL D true a s) = true := by simp; omega
        rw [this, bI_t]
    · rw [eb, bI_t] at fb
      obtain ⟨u1, u2⟩ := q_end eb
      have : decide (qU D true a s * qL D true b s < qU D true b s * qL D true a s) = true := by rw [u1, u2]; simp; omega
      rw [this, bI_t]
      simp (disch := omega) only [↓reduceIte, h_let, hg_in, hg_zb, hg_z0, hg_z1, hg_nz, Option.bind_some, if_pos, if_neg, bI_0, bI_n0, nI_add, nI_mul, nI_ltI, nI_leI, nI_eq, nI_clamp, nI_subN, nI_divN, nI_mod2, nI_m1e, nI_em1, nI_m2e, nI_lt0, m1_lt0, m1_lt, m1_le, h_u_at, h_u_off2, h_u_pl, li_0, li_1, li_2, li_3, li_4, li_5, li_6, li_7, li_8, li_9, li_10, li_11, li_12, li_13, li_14, li_15, li_16, li_17, li_18, li_19, li_20, li_21, li_22, li_23, li_24, li_25, li_26, li_27, li_28, li_29, li_30, li_31, li_32, li_40, li_43, li_45, li_47, li_48, li_57, li_59, li_60, li_61, li_62, li_63, li_64, li_80, li_92, li_97, li_99, li_100, li_122, li_123, li_125, li_166, li_201, li_210, li_250, li_255, li_256, li_257, li_258, li_259, li_260, li_261, li_262, li_263, li_264, li_265, li_266, li_267, li_268, li_300, li_500, li_1000, li_12345, li_27720, li_1000000, li_1103515245, ne_m1, ne_m2, fa, fb]
  · rw [ea, bI_t] at fa
    obtain ⟨u1, u2⟩ := q_end ea
    have hq := (qUL_bd hD true (p := b) hs).2.1
    have : decide (qU D true a s * qL D true b s < qU D true b s * qL D true a s) = false := by rw [u1, u2]; simp; omega
    rw [this, bI_f]
    simp (disch := omega) only [↓reduceIte, h_let, hg_in, hg_zb, hg_z0, hg_z1, hg_nz, Option.bind_some, if_pos, if_neg, bI_0, bI_n0, nI_add, nI_mul, nI_ltI, nI_leI, nI_eq, nI_clamp, nI_subN, nI_divN, nI_mod2, nI_m1e, nI_em1, nI_m2e, nI_lt0, m1_lt0, m1_lt, m1_le, h_u_at, h_u_off2, h_u_pl, li_0, li_1, li_2, li_3, li_4, li_5, li_6, li_7, li_8, li_9, li_10, li_11, li_12, li_13, li_14, li_15, li_16, li_17, li_18, li_19, li_20, li_21, li_22, li_23, li_24, li_25, li_26, li_27, li_28, li_29, li_30, li_31, li_32, li_40, li_43, li_45, li_47, li_48, li_57, li_59, li_60, li_61, li_62, li_63, li_64, li_80, li_92, li_97, li_99, li_100, li_122, li_123, li_125, li_166, li_201, li_210, li_250, li_255, li_256, li_257, li_258, li_259, li_260, li_261, li_262, li_263, li_264, li_265, li_266, li_267, li_268, li_300, li_500, li_1000, li_12345, li_27720, li_1000000, li_1103515245, ne_m1, ne_m2, fa]
theorem mp_best_L (hD : rOk D) {K : Nat} (hK : K ≤ 64) (w q : Bool) {s : Nat} (hs : s < D 0 0) {I : hI} {J : hJ} (h : plMk D K I J) : ∀ (r k fuel : Nat), k + 1 + r = K → r < fuel → mM_bestPlan_L16 fuel (nI s) (bI q) (bI w) (nI (bpF D w q s k)) (nI K) (nI (k + 1)) I J = some (nI (bpF D w q s (K - 1)), I, J) := by
  have hn := hD.2.1
  intro r
  induction r with
  | zero =>
    intro k fuel hk hf
    obtain ⟨fuel, rfl⟩ : ∃ m, fuel = m + 1 := ⟨fuel - 1, by omega⟩
    have e : K - 1 = k := by omega
    unfold mM_bestPlan_L16 mM_bestPlan_B16
    rw [e]
    simp (disch := omega) only [↓reduceIte, h_let, hg_in, hg_zb, hg_z0, hg_z1, hg_nz, Option.bind_some, if_pos, if_neg, bI_0, bI_n0, nI_add, nI_mul, nI_ltI, nI_leI, nI_eq, nI_clamp, nI_subN, nI_divN, nI_mod2, nI_m1e, nI_em1, nI_m2e, nI_lt0, m1_lt0, m1_lt, m1_le, h_u_at, h_u_off2, h_u_pl, li_0, li_1, li_2, li_3, li_4, li_5, li_6, li_7, li_8, li_9, li_10, li_11, li_12, li_13, li_14, li_15, li_16, li_17, li_18, li_19, li_20, li_21, li_22, li_23, li_24, li_25, li_26, li_27, li_28, li_29, li_30, li_31, li_32, li_40, li_43, li_45, li_47, li_48, li_57, li_59, li_60, li_61, li_62, li_63, li_64, li_80, li_92, li_97, li_99, li_100, li_122, li_123, li_125, li_166, li_201, li_210, li_250, li_255, li_256, li_257, li_258, li_259, li_260, li_261, li_262, li_263, li_264, li_265, li_266, li_267, li_268, li_300, li_500, li_1000, li_12345, li_27720, li_1000000, li_1103515245, ne_m1, ne_m2]
  | succ r ih =>
    intro k fuel hk hf
    obtain ⟨fuel, rfl⟩ : ∃ m, fuel = m + 1 := ⟨fuel - 1, by omega⟩
    have hbl := bpF_le D w q s k
    have go := ih (k + 1) fuel (by omega) (by omega)
    rw [bpF] at go
    have i1 := m_lessOdds hD hK h (a := k + 1) (b := bpF D w q s k) (s := s) (by omega) (by omega) hs
    have i2 := m_lessOdds hD hK h (a := bpF D w q s k) (b := k + 1) (s := s) (by omega) (by omega) hs
    have i3 := m_lessPaid hD hK h (a := k + 1) (b := bpF D w q s k) (s := s) (by omega) (by omega) hs
    have i4 := m_lessPaid hD hK h (a := bpF D w q s k) (b := k + 1) (s := s) (by omega) (by omega) hs
    have f5 := (h (bpF D w q s k) (by omega)).1 s hs
    unfold mM_bestPlan_L16 mM_bestPlan_B16 mM_bestPlan_103
    cases w <;> cases q
    · rw [bI_f] at go ⊢
      simp only [Bool.false_eq_true, if_false] at go
      unfold lessB at i1
      by_cases c : qU D false (k + 1) s * qL D false (bpF D false false s k) s < qU D false (bpF D false false s k) s * qL D false (k + 1) s
      · rw [if_pos c] at go
        rw [decide_eq_true c, bI_t] at i1
        simp (disch := omega) only [↓reduceIte, h_let, hg_in, hg_zb, hg_z0, hg_z1, hg_nz, Option.bind_some, if_pos, if_neg, bI_0, bI_n0, nI_add, nI_mul, nI_ltI, nI_leI, nI_eq, nI_clamp, nI_subN, nI_divN, nI_mod2, nI_m1e, nI_em1, nI_m2e, nI_lt0, m1_lt0, m1_lt, m1_le, h_u_at, h_u_off2, h_u_pl, li_0, li_1, li_2, li_3, li_4, li_5, li_6, li_7, li_8, li_9, li_10, li_11, li_12, li_13, li_14, li_15, li_16, li_17, li_18, li_19, li_20, li_21, li_22, li_23, li_24, li_25, li_26, li_27, li_28, li_29, li_30, li_31, li_32, li_40, li_43, li_45, li_47, li_48, li_57, li_59, li_60, li_61, li_62, li_63, li_64, li_80, li_92, li_97, li_99, li_100, li_122, li_123, li_125, li_166, li_201, li_210, li_250, li_255, li_256, li_257, li_258, li_259, li_260, li_261, li_262, li_263, li_264, li_265, li_266, li_267, li_268, li_300, li_500, li_1000, li_12345, li_27720, li_1000000, li_1103515245, ne_m1, ne_m2, i1]
        exact go
      · rw [if_neg c] at go
        rw [decide_eq_false c, bI_f] at i1
        simp (disch := omega) only [↓reduceIte, h_let, hg_in, hg_zb, hg_z0, hg_z1, hg_nz, Option.bind_some, if_pos, if_neg, bI_0, bI_n0, nI_add, nI_mul, nI_ltI, nI_leI, nI_eq, nI_clamp, nI_subN, nI_divN, nI_mod2, nI_m1e, nI_em1, nI_m2e, nI_lt0, m1_lt0, m1_lt, m1_le, h_u_at, h_u_off2, h_u_pl, li_0, li_1, li_2, li_3, li_4, li_5, li_6, li_7, li_8, li_9, li_10, li_11, li_12, li_13, li_14, li_15, li_16, li_17, li_18, li_19, li_20, li_21, li_22, li_23, li_24, li_25, li_26, li_27, li_28, li_29, li_30, li_31, li_32, li_40, li_43, li_45, li_47, li_48, li_57, li_59, li_60, li_61, li_62, li_63, li_64, li_80, li_92, li_97, li_99, li_100, li_122, li_123, li_125, li_166, li_201, li_210, li_250, li_255, li_256, li_257, li_258, li_259, li_260, li_261, li_262, li_263, li_264, li_265, li_266, li_267, li_268, li_300, li_500, li_1000, li_12345, li_27720, li_1000000, li_1103515245, ne_m1, ne_m2, i1]
        exact go
    · rw [bI_f, bI_t] at go ⊢
      simp only [if_true] at go
      unfold lessB at i2
      by_cases c : qU D false (bpF D false true s k) s * qL D false (k + 1) s < qU D false (k + 1) s * qL D false (bpF D false true s k) s
      · rw [if_pos c] at go
        rw [decide_eq_true c, bI_t] at i2
        simp (disch := omega) only [↓reduceIte, h_let, hg_in, hg_zb, hg_z0, hg_z1, hg_nz, Option.bind_some, if_pos, if_neg, bI_0, bI_n0, nI_add, nI_mul, nI_ltI, nI_leI, nI_eq, nI_clamp, nI_subN, nI_divN, nI_mod2, nI_m1e, nI_em1, nI_m2e, nI_lt0, m1_lt0, m1_lt, m1_le, h_u_at, h_u_off2, h_u_pl, li_0, li_1, li_2, li_3, li_4, li_5, li_6, li_7, li_8, li_9, li_10, li_11, li_12, li_13, li_14, li_15, li_16, li_17, li_18, li_19, li_20, li_21, li_22, li_23, li_24, li_25, li_26, li_27, li_28, li_29, li_30, li_31, li_32, li_40, li_43, li_45, li_47, li_48, li_57, li_59, li_60, li_61, li_62, li_63, li_64, li_80, li_92, li_97, li_99, li_100, li_122, li_123, li_125, li_166, li_201, li_210, li_250, li_255, li_256, li_257, li_258, li_259, li_260, li_261, li_262, li_263, li_264, li_265, li_266, li_267, li_268, li_300, li_500, li_1000, li_12345, li_27720, li_1000000, li_1103515245, ne_m1, ne_m2, i2]
        exact go
      · rw [if_neg c] at go
        rw [decide_eq_false c, bI_f] at i2
        simp (disch := omega) only [↓reduceIte, h_let, hg_in, hg_zb, hg_z0, hg_z1, hg_nz, Option.bind_some, if_pos, if_neg, bI_0, bI_n0, nI_add, nI_mul, nI_ltI, nI_leI, nI_eq, nI_clamp, nI_subN, nI_divN, nI_mod2, nI_m1e, nI_em1, nI_m2e, nI_lt0, m1_lt0, m1_lt, m1_le, h_u_at, h_u_off2, h_u_pl, li_0, li_1, li_2, li_3, li_4, li_5, li_6, li_7, li_8, li_9, li_10, li_11, li_12, li_13, li_14, li_15, li_16, li_17, li_18, li_19, li_20, li_21, li_22, li_23, li_24, li_25, li_26, li_27, li_28, li_29, li_30, li_31, li_32, li_40, li_43, li_45, li_47, li_48, li_57, li_59, li_60, li_61, li_62, li_63, li_64, li_80, li_92, li_97, li_99, li_100, li_122, li_123, li_125, li_166, li_201, li_210, li_250, li_255, li_256, li_257, li_258, li_259, li_260, li_261, li_262, li_263, li_264, li_265, li_266, li_267, li_268, li_300, li_500, li_1000, li_12345, li_27720, li_1000000, li_1103515245, ne_m1, ne_m2, i2]
        exact go
    · rw [bI_f, bI_t] at go ⊢
      simp only [Bool.false_eq_true, if_false] at go
      unfold lessB at i3
      by_cases c : qU D true (k + 1) s * qL D true (bpF D true false s k) s < qU D true (bpF D true false s k) s * qL D true (k + 1) s
      · rw [if_pos c] at go
        rw [decide_eq_true c, bI_t] at i3
        simp (disch := omega) only [↓reduceIte, h_let, hg_in, hg_zb, hg_z0, hg_z1, hg_nz, Option.bind_some, if_pos, if_neg, bI_0, bI_n0, nI_add, nI_mul, nI_ltI, nI_leI, nI_eq, nI_clamp, nI_subN, nI_divN, nI_mod2, nI_m1e, nI_em1, nI_m2e, nI_lt0, m1_lt0, m1_lt, m1_le, h_u_at, h_u_off2, h_u_pl, li_0, li_1, li_2, li_3, li_4, li_5, li_6, li_7, li_8, li_9, li_10, li_11, li_12, li_13, li_14, li_15, li_16, li_17, li_18, li_19, li_20, li_21, li_22, li_23, li_24, li_25, li_26, li_27, li_28, li_29, li_30, li_31, li_32, li_40, li_43, li_45, li_47, li_48, li_57, li_59, li_60, li_61, li_62, li_63, li_64, li_80, li_92, li_97, li_99, li_100, li_122, li_123, li_125, li_166, li_201, li_210, li_250, li_255, li_256, li_257, li_258, li_259, li_260, li_261, li_262, li_263, li_264, li_265, li_266, li_267, li_268, li_300, li_500, li_1000, li_12345, li_27720, li_1000000, li_1103515245, ne_m1, ne_m2, i3]
        exact go
      · rw [if_neg c] at go
        rw [decide_eq_false c, bI_f] at i3
        simp (disch := omega) only [↓reduceIte, h_let, hg_in, hg_zb, hg_z0, hg_z1, hg_nz, Option.bind_some, if_pos, if_neg, bI_0, bI_n0, nI_add, nI_mul, nI_ltI, nI_leI, nI_eq, nI_clamp, nI_subN, nI_divN, nI_mod2, nI_m1e, nI_em1, nI_m2e, nI_lt0, m1_lt0, m1_lt, m1_le, h_u_at, h_u_off2, h_u_pl, li_0, li_1, li_2, li_3, li_4, li_5, li_6, li_7, li_8, li_9, li_10, li_11, li_12, li_13, li_14, li_15, li_16, li_17, li_18, li_19, li_20, li_21, li_22, li_23, li_24, li_25, li_26, li_27, li_28, li_29, li_30, li_31, li_32, li_40, li_43, li_45, li_47, li_48, li_57, li_59, li_60, li_61, li_62, li_63, li_64, li_80, li_92, li_97, li_99, li_100, li_122, li_123, li_125, li_166, li_201, li_210, li_250, li_255, li_256, li_257, li_258, li_259, li_260, li_261, li_262, li_263, li_264, li_265, li_266, li_267, li_268, li_300, li_500, li_1000, li_12345, li_27720, li_1000000, li_1103515245, ne_m1, ne_m2, i3]
        exact go
    · rw [bI_t] at go ⊢
      simp only [if_true] at go
      unfold lessB at i4
      by_cases c : qU D true (bpF D true true s k) s * qL D true (k + 1) s < qU D true (k + 1) s * qL D true (bpF D true true s k) s
      · rw [if_pos c] at go
        rw [decide_eq_true c, bI_t] at i4
        cases he : pEn D (bpF D true true s k) s
        · rw [he, bI_f] at f5
          simp (disch := omega) only [↓reduceIte, h_let, hg_in, hg_zb, hg_z0, hg_z1, hg_nz, Option.bind_some, if_pos, if_neg, bI_0, bI_n0, nI_add, nI_mul, nI_ltI, nI_leI, nI_eq, nI_clamp, nI_subN, nI_divN, nI_mod2, nI_m1e, nI_em1, nI_m2e, nI_lt0, m1_lt0, m1_lt, m1_le, h_u_at, h_u_off2, h_u_pl, li_0, li_1, li_2, li_3, li_4, li_5, li_6, li_7, li_8, li_9, li_10, li_11, li_12, li_13, li_14, li_15, li_16, li_17, li_18, li_19, li_20, li_21, li_22, li_23, li_24, li_25, li_26, li_27, li_28, li_29, li_30, li_31, li_32, li_40, li_43, li_45, li_47, li_48, li_57, li_59, li_60, li_61, li_62, li_63, li_64, li_80, li_92, li_97, li_99, li_100, li_122, li_123, li_125, li_166, li_201, li_210, li_250, li_255, li_256, li_257, li_258, li_259, li_260, li_261, li_262, li_263, li_264, li_265, li_266, li_267, li_268, li_300, li_500, li_1000, li_12345, li_27720, li_1000000, li_1103515245, ne_m1, ne_m2, i4, f5]
          exact go
        · obtain ⟨u1, u2⟩ := q_end he
          have hq := (qUL_bd hD true (p := k + 1) hs).2.1
          rw [u1, u2] at c
          omega
      · rw [if_neg c] at go
        rw [decide_eq_false c, bI_f] at i4
        simp (disch := omega) only [↓reduceIte, h_let, hg_in, hg_zb, hg_z0, hg_z1, hg_nz, Option.bind_some, if_pos, if_neg, bI_0, bI_n0, nI_add, nI_mul, nI_ltI, nI_leI, nI_eq, nI_clamp, nI_subN, nI_divN, nI_mod2, nI_m1e, nI_em1, nI_m2e, nI_lt0, m1_lt0, m1_lt, m1_le, h_u_at, h_u_off2, h_u_pl, li_0, li_1, li_2, li_3, li_4, li_5, li_6, li_7, li_8, li_9, li_10, li_11, li_12, li_13, li_14, li_15, li_16, li_17, li_18, li_19, li_20, li_21, li_22, li_23, li_24, li_25, li_26, li_27, li_28, li_29, li_30, li_31, li_32, li_40, li_43, li_45, li_47, li_48, li_57, li_59, li_60, li_61, li_62, li_63, li_64, li_80, li_92, li_97, li_99, li_100, li_122, li_123, li_125, li_166, li_201, li_210, li_250, li_255, li_256, li_257, li_258, li_259, li_260, li_261, li_262, li_263, li_264, li_265, li_266, li_267, li_268, li_300, li_500, li_1000, li_12345, li_27720, li_1000000, li_1103515245, ne_m1, ne_m2, i4]
        exact go
theorem mp_bestPlan (hD : rOk D) (hK : pN D (D 0 0) ≤ 64) (w q : Bool) {s : Nat} (hs : s < D 0 0) {I : hI} {J : hJ} (h : mR D I) (hr : plMR D (pN D (D 0 0)) I J) : ∃ (I' : hI) (J' : hJ), mM_bestPlan (nI s) (bI q) (bI w) I J = some (nI (bpF D w q s (pN D (D 0 0) - 1)), I', J') ∧ offP I I' ∧ offQ J J' ∧ I' 0 67 = nI 1 ∧ plMk D (pN D (D 0 0)) I' J' := by
  have hp := pN_pos D (D 0 0)
  obtain ⟨I', J', a1, a2, a3, a4, a5⟩ := mp_laysPlans hD hK h hr
  have e1 := mp_plans hD (offP_mR h a2)
  rw [(pQ_spec D (D 0 0)).1 hK] at e1
  have e2 := mp_best_L hD hK w q hs a5 (pN D (D 0 0) - 1) 0 hF (by omega) (by unfold hF; omega)
  rw [bpF] at e2
  refine ⟨I', J', ?_, a2, a3, a4, a5⟩
  unfold mM_bestPlan
  simp (disch := omega) only [↓reduceIte, h_let, hg_in, hg_zb, hg_z0, hg_z1, hg_nz, Option.bind_some, if_pos, if_neg, bI_0, bI_n0, nI_add, nI_mul, nI_ltI, nI_leI, nI_eq, nI_clamp, nI_subN, nI_divN, nI_mod2, nI_m1e, nI_em1, nI_m2e, nI_lt0, m1_lt0, m1_lt, m1_le, h_u_at, h_u_off2, h_u_pl, li_0, li_1, li_2, li_3, li_4, li_5, li_6, li_7, li_8, li_9, li_10, li_11, li_12, li_13, li_14, li_15, li_16, li_17, li_18, li_19, li_20, li_21, li_22, li_23, li_24, li_25, li_26, li_27, li_28, li_29, li_30, li_31, li_32, li_40, li_43, li_45, li_47, li_48, li_57, li_59, li_60, li_61, li_62, li_63, li_64, li_80, li_92, li_97, li_99, li_100, li_122, li_123, li_125, li_166, li_201, li_210, li_250, li_255, li_256, li_257, li_258, li_259, li_260, li_261, li_262, li_263, li_264, li_265, li_266, li_267, li_268, li_300, li_500, li_1000, li_12345, li_27720, li_1000000, li_1103515245, ne_m1, ne_m2, a1, e1, e2]
end Be
/-- what the plans' answers may change on both sides -/
def onlyP (Ic Ic' : hI) (Jc Jc' : hJ) (Im Im' : hI) (Jm Jm' : hJ) : Prop := (∀ c i, c ≠ 60 → (c < 13 ∨ 19 < c) → Ic' c i = Ic c i) ∧ (∀ c i, (c < 14 ∨ 30 < c) → Jc' c i = Jc c i) ∧ (∀ c i, c ≠ 42 → c ≠ 30 → (c < 35 ∨ 39 < c) → (c ≠ 0 ∨ (i ≠ 0 ∧ i ≠ 67 ∧ i ≠ 78)) → Im' c i = Im c i) ∧ offQ Jm Jm' ∧ refu Ic' Im'
/-- both sides' plans, of the rounds' data -/
def plB (D : rD) (Ic : hI) (Jc : hJ) (Im : hI) (Jm : hJ) : Prop := Ic 7 9 = (if pN D (D 0 0) ≤ 64 then nI (pN D (D 0 0)) else (-2 : Int32)) ∧ (pN D (D 0 0) ≤ 64 → plRdy D (pN D (D 0 0)) Ic Jc ∧ plMR D (pN D (D 0 0)) Im Jm)
section Pd
variable {D : rD} {hl : Bool} {Ic Im : hI} {Jc Jm : hJ}
theorem plRdy_of {K : Nat} {I I' : hI} {J J' : hJ} (h : plRdy D K I J) (h1 : I' 13 1 = I 13 1) (h2 : ∀ i, I' 16 i = I 16 i) (h3 : ∀ i, J' 14 i = J 14 i ∧ J' 15 i = J 15 i) : plRdy D K I' J' := by
  rcases h with h | ⟨h, hp⟩
  · exact Or.inl (by rw [h1]; exact h)
  · refine Or.inr ⟨by rw [h1]; exact h, fun u hu w => ntOk_of (hp u hu w) (fun q => h2 _) (fun q => h3 _)⟩
theorem plMR_of {K : Nat} {I I' : hI} {J J' : hJ} (h : plMR D K I J) (h1 : I' 0 67 = I 0 67) (h2 : ∀ i, I' 35 i = I 35 i) (h3 : ∀ a i, 31 ≤ a → a ≤ 34 → J' a i = J a i) : plMR D K I' J' := by
  rcases h with h | ⟨h, hp⟩
  · exact Or.inl (by rw [h1]; exact h)
  · refine Or.inr ⟨by rw [h1]; exact h, fun p hpk => ⟨fun s hs => by rw [h2]; exact (hp p hpk).1 s hs, fun s hs => by rw [h3 31 _ (by decide) (by decide), h3 32 _ (by decide) (by decide)]; exact (hp p hpk).2.1 s hs, fun s hs => by rw [h3 33 _ (by decide) (by decide), h3 34 _ (by decide) (by decide)]; exact (hp p hpk).2.2 s hs⟩⟩
theorem plB_R {Ic' Im' : hI} (h : plB D Ic Jc Im Jm) (ho : onlyR Ic Ic' Im Im') : plB D Ic' Jc Im' Jm := by
  refine ⟨by rw [ho.1 7 9 (by decide)]; exact h.1, fun hk => ⟨plRdy_of (h.2 hk).1 (ho.1 13 1 (by decide)) (fun i => ho.1 16 i (by decide)) (fun i => ⟨rfl, rfl⟩), plMR_of (h.2 hk).2 (ho.2.1 0 67 (by decide) (by decide)) (fun i => ho.2.1 35 i (by decide) (by simp)) (fun _ _ _ _ => rfl)⟩⟩
theorem onlyP_R {Ic' Im' : hI} (ho : onlyR Ic Ic' Im Im') : onlyP Ic Ic' Jc Jc Im Im' Jm Jm := ⟨fun c i q1 _ => ho.1 c i q1, fun _ _ _ => rfl, fun c i q1 q2 q3 q4 => ho.2.1 c i q1 (by omega), fun _ _ _ => rfl, ho.2.2⟩
/-- the refusals before an answer out of the plans, both sides -/
theorem planned (hf : flagL hl D Ic Im) (hr : refu Ic Im) (hb : hl = true → plB D Ic Jc Im Jm) (out : Bool) (vm : Int32) (hvm : hl = true → vm = bI (!out)) : (∃ Ic' Im' : hI, mC_refusePlanned (bI out) Ic Jc = some (nI 1, Ic', Jc) ∧ mM_isRefused vm (nI 1) (h_u Im 0 0 (nI 0)) = some (nI 1, Im') ∧ onlyR Ic Ic' Im Im') ∨ (hl = true ∧ out = false ∧ pN D (D 0 0) ≤ 64 ∧ ∃ (Ic' : hI) (Jc' : hJ), mC_refusePlanned (bI out) Ic Jc = some (nI 0, Ic', Jc') ∧ mM_isRefused vm (nI 1) (h_u Im 0 0 (nI 0)) = some (nI 0, h_u Im 0 0 (nI 0)) ∧ (∀ a i, (a < 13 ∨ 19 < a) → Ic' a i = Ic a i) ∧ (∀ a i, (a < 14 ∨ 30 < a) → Jc' a i = Jc a i) ∧ Ic' 13 1 = nI 1 ∧ plOk D (pN D (D 0 0)) Ic' Jc') := by
  obtain ⟨f1, f2, f3⟩ := hf
  have e37 : h_u Im 0 0 (nI 0) 0 37 = bI hl := by rw [h_u_pl _ _ _ (by decide)]; exact f2
  unfold mC_refusePlanned mC_refusePlanned_13 mC_refusePlanned_47
  cases hl
  · rw [bI_f] at f1 e37
    left
    refine ⟨_, _, ?_, m_ref0 e37, onlyR_bump hr (nI 0) (k := 0) (by decide)⟩
    rw [f1]
    simp (disch := omega) only [↓reduceIte, h_let, hg_in, hg_zb, hg_z0, hg_z1, hg_nz, Option.bind_some, if_pos, if_neg, bI_0, bI_n0, nI_add, nI_mul, nI_ltI, nI_leI, nI_eq, nI_clamp, nI_subN, nI_divN, nI_mod2, nI_m1e, nI_em1, nI_m2e, nI_lt0, m1_lt0, m1_lt, m1_le, h_u_at, h_u_off2, h_u_pl, li_0, li_1, li_2, li_3, li_4, li_5, li_6, li_7, li_8, li_9, li_10, li_11, li_12, li_13, li_14, li_15, li_16, li_17, li_18, li_19, li_20, li_21, li_22, li_23, li_24, li_25, li_26, li_27, li_28, li_29, li_30, li_31, li_32, li_40, li_43, li_45, li_47, li_48, li_57, li_59, li_60, li_61, li_62, li_63, li_64, li_80, li_92, li_97, li_99, li_100, li_122, li_123, li_125, li_166, li_201, li_210, li_250, li_255, li_256, li_257, li_258, li_259, li_260, li_261, li_262, li_263, li_264, li_265, li_266, li_267, li_268, li_300, li_500, li_1000, li_12345, li_27720, li_1000000, li_1103515245, ne_m1, ne_m2, c_refuse1]
  · rw [bI_t] at f1 e37
    obtain ⟨hD, hc, hm⟩ := f3 rfl
    have hvm := hvm rfl
    subst hvm
    obtain ⟨h9, hpl⟩ := hb rfl
    have hp := pN_pos D (D 0 0)
    cases out
    · have em := mp_many hD (mR_mark hm (nI 0))
      have er := m_ref3 e37 em
      by_cases hK : pN D (D 0 0) ≤ 64
      · right
        rw [if_pos hK] at h9
        have e64 : decide (64 < pN D (D 0 0)) = false := by simp; omega
        rw [e64, bI_f] at er
        obtain ⟨Ic', Jc', a1, a2, a3, a4, a5⟩ := pl_prepare hD hp hK hc h9 (hpl hK).1
        refine ⟨rfl, rfl, hK, Ic', Jc', ?_, er, a2, a3, a4, a5⟩
        have hne : ¬ nI (pN D (D 0 0)) = (-2 : Int32) := fun e => by
          have : (nI (pN D (D 0 0))).toInt = (pN D (D 0 0) : Int) := nI_toInt (by omega)
          rw [e] at this
          have e2 : (-2 : Int32).toInt = -2 := by decide
          omega
        rw [f1, bI_f]
        simp (disch := omega) only [↓reduceIte, h_let, hg_in, hg_zb, hg_z0, hg_z1, hg_nz, Option.bind_some, if_pos, if_neg, bI_0, bI_n0, nI_add, nI_mul, nI_ltI, nI_leI, nI_eq, nI_clamp, nI_subN, nI_divN, nI_mod2, nI_m1e, nI_em1, nI_m2e, nI_lt0, m1_lt0, m1_lt, m1_le, h_u_at, h_u_off2, h_u_pl, li_0, li_1, li_2, li_3, li_4, li_5, li_6, li_7, li_8, li_9, li_10, li_11, li_12, li_13, li_14, li_15, li_16, li_17, li_18, li_19, li_20, li_21, li_22, li_23, li_24, li_25, li_26, li_27, li_28, li_29, li_30, li_31, li_32, li_40, li_43, li_45, li_47, li_48, li_57, li_59, li_60, li_61, li_62, li_63, li_64, li_80, li_92, li_97, li_99, li_100, li_122, li_123, li_125, li_166, li_201, li_210, li_250, li_255, li_256, li_257, li_258, li_259, li_260, li_261, li_262, li_263, li_264, li_265, li_266, li_267, li_268, li_300, li_500, li_1000, li_12345, li_27720, li_1000000, li_1103515245, ne_m1, ne_m2, c_refuse0, h9, if_neg hne, a1]
      · left
        rw [if_neg hK] at h9
        have e64 : decide (64 < pN D (D 0 0)) = true := by simp; omega
        rw [e64, bI_t, if_pos rfl] at er
        refine ⟨_, _, ?_, er, onlyR_bump hr (nI 0) (k := 2) (by decide)⟩
        rw [f1, bI_f]
        simp (disch := omega) only [↓reduceIte, h_let, hg_in, hg_zb, hg_z0, hg_z1, hg_nz, Option.bind_some, if_pos, if_neg, bI_0, bI_n0, nI_add, nI_mul, nI_ltI, nI_leI, nI_eq, nI_clamp, nI_subN, nI_divN, nI_mod2, nI_m1e, nI_em1, nI_m2e, nI_lt0, m1_lt0, m1_lt, m1_le, h_u_at, h_u_off2, h_u_pl, li_0, li_1, li_2, li_3, li_4, li_5, li_6, li_7, li_8, li_9, li_10, li_11, li_12, li_13, li_14, li_15, li_16, li_17, li_18, li_19, li_20, li_21, li_22, li_23, li_24, li_25, li_26, li_27, li_28, li_29, li_30, li_31, li_32, li_40, li_43, li_45, li_47, li_48, li_57, li_59, li_60, li_61, li_62, li_63, li_64, li_80, li_92, li_97, li_99, li_100, li_122, li_123, li_125, li_166, li_201, li_210, li_250, li_255, li_256, li_257, li_258, li_259, li_260, li_261, li_262, li_263, li_264, li_265, li_266, li_267, li_268, li_300, li_500, li_1000, li_12345, li_27720, li_1000000, li_1103515245, ne_m1, ne_m2, c_refuse0, h9, if_true, c_refuse1]
    · left
      refine ⟨_, _, ?_, m_ref1 e37, onlyR_bump hr (nI 0) (k := 1) (by decide)⟩
      rw [f1, bI_t]
      simp (disch := omega) only [↓reduceIte, h_let, hg_in, hg_zb, hg_z0, hg_z1, hg_nz, Option.bind_some, if_pos, if_neg, bI_0, bI_n0, nI_add, nI_mul, nI_ltI, nI_leI, nI_eq, nI_clamp, nI_subN, nI_divN, nI_mod2, nI_m1e, nI_em1, nI_m2e, nI_lt0, m1_lt0, m1_lt, m1_le, h_u_at, h_u_off2, h_u_pl, li_0, li_1, li_2, li_3, li_4, li_5, li_6, li_7, li_8, li_9, li_10, li_11, li_12, li_13, li_14, li_15, li_16, li_17, li_18, li_19, li_20, li_21, li_22, li_23, li_24, li_25, li_26, li_27, li_28, li_29, li_30, li_31, li_32, li_40, li_43, li_45, li_47, li_48, li_57, li_59, li_60, li_61, li_62, li_63, li_64, li_80, li_92, li_97, li_99, li_100, li_122, li_123, li_125, li_166, li_201, li_210, li_250, li_255, li_256, li_257, li_258, li_259, li_260, li_261, li_262, li_263, li_264, li_265, li_266, li_267, li_268, li_300, li_500, li_1000, li_12345, li_27720, li_1000000, li_1103515245, ne_m1, ne_m2, c_refuse0, c_refuse1]
end Pd
