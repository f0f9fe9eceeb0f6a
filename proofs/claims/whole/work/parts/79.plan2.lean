/-! Plans, the reference's side: choices, ways, what is lost. -/
theorem nar0 : vp_nar .boolean (nI 0) = nI 0 := rfl
theorem nar1 : vp_nar .boolean (nI 1) = nI 1 := rfl
theorem nI0m1 : nI 0 + (-1 : Int32) = (-1 : Int32) := by decide
/-- the choices of a plan, as the reference holds them -/
def chM (D : rD) (p : Nat) (I : hI) : Prop := ∀ s, s < D 0 0 → I 30 s = nI (if 0 < D 1 s then pCh D p s else 0)
section Mp
variable {D : rD} {p : Nat}
theorem mp_plan_L (hD : rOk D) (hp : p < 2 ^ 31) : ∀ (r k fuel : Nat) (I : hI), k + r = D 0 0 → r < fuel → mR D I → (∀ s, D 0 0 - k ≤ s → s < D 0 0 → I 30 s = nI (if 0 < D 1 s then pCh D p s else 0)) → ∃ I' : hI, mM_laysPlan_L9 fuel (nI (pRest D p k)) (if k < D 0 0 then nI (D 0 0 - 1 - k) else (-1 : Int32)) I = some I' ∧ (∀ a i, a ≠ 30 → I' a i = I a i) ∧ chM D p I' := by
  have hn := hD.2.1
  intro r
  induction r with
  | zero =>
    intro k fuel I hk hf h h30
    obtain ⟨fuel, rfl⟩ : ∃ m, fuel = m + 1 := ⟨fuel - 1, by omega⟩
    unfold mM_laysPlan_L9 mM_laysPlan_B9
    rw [if_neg (show ¬ k < D 0 0 by omega)]
    simp (disch := omega) only [↓reduceIte, h_let, hg_in, hg_zb, hg_z0, hg_z1, hg_nz, Option.bind_some, if_pos, if_neg, bI_0, bI_n0, nI_add, nI_mul, nI_ltI, nI_leI, nI_eq, nI_clamp, nI_subN, nI_divN, nI_mod2, nI_m1e, nI_em1, nI_m2e, nI_lt0, m1_lt0, m1_lt, m1_le, h_u_at, h_u_off2, h_u_pl, li_0, li_1, li_2, li_3, li_4, li_5, li_6, li_7, li_8, li_9, li_10, li_11, li_12, li_13, li_14, li_15, li_16, li_17, li_18, li_19, li_20, li_21, li_22, li_23, li_24, li_25, li_26, li_27, li_28, li_29, li_30, li_31, li_32, li_40, li_43, li_45, li_47, li_48, li_57, li_59, li_60, li_61, li_62, li_63, li_64, li_80, li_92, li_97, li_99, li_100, li_122, li_123, li_125, li_166, li_201, li_210, li_250, li_255, li_256, li_257, li_258, li_259, li_260, li_261, li_262, li_263, li_264, li_265, li_266, li_267, li_268, li_300, li_500, li_1000, li_12345, li_27720, li_1000000, li_1103515245, ne_m1, ne_m2]
    exact ⟨I, rfl, fun _ _ _ => rfl, fun s hs => h30 s (by omega) hs⟩
  | succ r ih =>
    intro k fuel I hk hf h h30
    obtain ⟨fuel, rfl⟩ : ∃ m, fuel = m + 1 := ⟨fuel - 1, by omega⟩
    have hpr := pRest_le D p k
    have h8 := hD.2.2.2.1 (D 0 0 - 1 - k) (by omega)
    have hmm := h.2.2.2.1 (D 0 0 - 1 - k) (by omega)
    have hnext : nI (D 0 0 - 1 - k) + (-1 : Int32) = if k + 1 < D 0 0 then nI (D 0 0 - 1 - (k + 1)) else (-1 : Int32) := by
      by_cases e : k + 1 < D 0 0
      · rw [if_pos e, nI_addm1 (by omega)]
        congr 1
      · rw [if_neg e]
        have : D 0 0 - 1 - k = 0 := by omega
        rw [this]
        exact nI0m1
    have hk1 : D 0 0 - 1 - (D 0 0 - 1 - k) = k := by omega
    unfold mM_laysPlan_L9 mM_laysPlan_B9
    rw [if_pos (show k < D 0 0 by omega)]
    have fin : ∀ x, x = nI (if 0 < D 1 (D 0 0 - 1 - k) then pCh D p (D 0 0 - 1 - k) else 0) → ∀ I1 : hI, (∀ a i, (a ≠ 30 ∨ i ≠ D 0 0 - 1 - k) → I1 a i = I a i) → I1 30 (D 0 0 - 1 - k) = x → ∃ I' : hI, mM_laysPlan_L9 fuel (nI (pRest D p (k + 1))) (if k + 1 < D 0 0 then nI (D 0 0 - 1 - (k + 1)) else (-1 : Int32)) I1 = some I' ∧ (∀ a i, a ≠ 30 → I' a i = I a i) ∧ chM D p I' := by
      intro x hx I1 g1 g2
      obtain ⟨I', a1, a2, a3⟩ := ih (k + 1) fuel I1 (by omega) (by omega) (mR_of h (fun c i q1 q2 => g1 c i (by omega)) (fun i q1 q2 => g1 0 i (by omega))) (fun s q1 q2 => by
        by_cases e : s = D 0 0 - 1 - k
        · subst e; rw [g2, hx]
        · rw [g1 30 s (Or.inr e)]; exact h30 s (by omega) q2)
      exact ⟨I', a1, fun a i hh => by rw [a2 a i hh, g1 a i (Or.inl hh)], a3⟩
    by_cases hz : 0 < D 1 (D 0 0 - 1 - k)
    · have f1 := fin _ rfl (h_u (h_u I 30 (D 0 0 - 1 - k) (nI 0)) 30 (D 0 0 - 1 - k) (nI (pRest D p k % D 1 (D 0 0 - 1 - k)))) (fun a i hh => by
        rcases hh with hh | hh
        · rw [h_u_off2 _ _ _ _ hh, h_u_off2 _ _ _ _ hh]
        · by_cases e : a = 30
          · subst e; rw [h_u_pl _ _ _ hh, h_u_pl _ _ _ hh]
          · rw [h_u_off2 _ _ _ _ e, h_u_off2 _ _ _ _ e]) (by rw [h_u_at, if_pos hz]; unfold pCh; rw [hk1])
      rw [pRest, if_neg (by omega)] at f1
      simp (disch := omega) only [↓reduceIte, h_let, hg_in, hg_zb, hg_z0, hg_z1, hg_nz, Option.bind_some, if_pos, if_neg, bI_0, bI_n0, nI_add, nI_mul, nI_ltI, nI_leI, nI_eq, nI_clamp, nI_subN, nI_divN, nI_mod2, nI_m1e, nI_em1, nI_m2e, nI_lt0, m1_lt0, m1_lt, m1_le, h_u_at, h_u_off2, h_u_pl, li_0, li_1, li_2, li_3, li_4, li_5, li_6, li_7, li_8, li_9, li_10, li_11, li_12, li_13, li_14, li_15, li_16, li_17, li_18, li_19, li_20, li_21, li_22, li_23, li_24, li_25, li_26, li_27, li_28, li_29, li_30, li_31, li_32, li_40, li_43, li_45, li_47, li_48, li_57, li_59, li_60, li_61, li_62, li_63, li_64, li_80, li_92, li_97, li_99, li_100, li_122, li_123, li_125, li_166, li_201, li_210, li_250, li_255, li_256, li_257, li_258, li_259, li_260, li_261, li_262, li_263, li_264, li_265, li_266, li_267, li_268, li_300, li_500, li_1000, li_12345, li_27720, li_1000000, li_1103515245, ne_m1, ne_m2, hmm, hnext]
      exact f1
    · have f1 := fin _ rfl (h_u I 30 (D 0 0 - 1 - k) (nI 0)) (fun a i hh => by
        rcases hh with hh | hh
        · exact h_u_off2 _ _ _ _ hh
        · by_cases e : a = 30
          · subst e; exact h_u_pl _ _ _ hh
          · exact h_u_off2 _ _ _ _ e) (by rw [h_u_at, if_neg hz])
      rw [pRest, if_pos (by omega)] at f1
      simp (disch := omega) only [↓reduceIte, h_let, hg_in, hg_zb, hg_z0, hg_z1, hg_nz, Option.bind_some, if_pos, if_neg, bI_0, bI_n0, nI_add, nI_mul, nI_ltI, nI_leI, nI_eq, nI_clamp, nI_subN, nI_divN, nI_mod2, nI_m1e, nI_em1, nI_m2e, nI_lt0, m1_lt0, m1_lt, m1_le, h_u_at, h_u_off2, h_u_pl, li_0, li_1, li_2, li_3, li_4, li_5, li_6, li_7, li_8, li_9, li_10, li_11, li_12, li_13, li_14, li_15, li_16, li_17, li_18, li_19, li_20, li_21, li_22, li_23, li_24, li_25, li_26, li_27, li_28, li_29, li_30, li_31, li_32, li_40, li_43, li_45, li_47, li_48, li_57, li_59, li_60, li_61, li_62, li_63, li_64, li_80, li_92, li_97, li_99, li_100, li_122, li_123, li_125, li_166, li_201, li_210, li_250, li_255, li_256, li_257, li_258, li_259, li_260, li_261, li_262, li_263, li_264, li_265, li_266, li_267, li_268, li_300, li_500, li_1000, li_12345, li_27720, li_1000000, li_1103515245, ne_m1, ne_m2, hmm, hnext]
      exact f1
theorem mp_laysPlan (hD : rOk D) (hp : p < 2 ^ 31) {I : hI} (h : mR D I) : ∃ I' : hI, mM_laysPlan (nI p) I = some I' ∧ (∀ a i, a ≠ 30 → I' a i = I a i) ∧ chM D p I' := by
  have hn := hD.2.1
  have hn1 := hD.1
  obtain ⟨I', a1, a2, a3⟩ := mp_plan_L hD hp (D 0 0) 0 hF I (by omega) (by unfold hF; omega) h (fun s g1 g2 => by omega)
  rw [if_pos (show 0 < D 0 0 by omega), pRest] at a1
  unfold mM_laysPlan
  rw [h.1]
  simp (disch := omega) only [↓reduceIte, h_let, hg_in, hg_zb, hg_z0, hg_z1, hg_nz, Option.bind_some, if_pos, if_neg, bI_0, bI_n0, nI_add, nI_mul, nI_ltI, nI_leI, nI_eq, nI_clamp, nI_subN, nI_divN, nI_mod2, nI_m1e, nI_em1, nI_m2e, nI_lt0, m1_lt0, m1_lt, m1_le, h_u_at, h_u_off2, h_u_pl, li_0, li_1, li_2, li_3, li_4, li_5, li_6, li_7, li_8, li_9, li_10, li_11, li_12, li_13, li_14, li_15, li_16, li_17, li_18, li_19, li_20, li_21, li_22, li_23, li_24, li_25, li_26, li_27, li_28, li_29, li_30, li_31, li_32, li_40, li_43, li_45, li_47, li_48, li_57, li_59, li_60, li_61, li_62, li_63, li_64, li_80, li_92, li_97, li_99, li_100, li_122, li_123, li_125, li_166, li_201, li_210, li_250, li_255, li_256, li_257, li_258, li_259, li_260, li_261, li_262, li_263, li_264, li_265, li_266, li_267, li_268, li_300, li_500, li_1000, li_12345, li_27720, li_1000000, li_1103515245, ne_m1, ne_m2]
  exact ⟨I', a1, a2, a3⟩
theorem mp_byPlan (hD : rOk D) {I : hI} (hc : chM D p I) {s : Nat} (hs : s < D 0 0) (hin : pIn D s = true) : mM_byPlan (nI s) I = some (nI (pSl D p s)) := by
  have hn := hD.2.1
  have hi : 0 < D 1 s := by simpa [pIn] using hin
  have e := hc s hs
  rw [if_pos hi] at e
  unfold mM_byPlan mM_choiceAt
  simp (disch := omega) only [↓reduceIte, h_let, hg_in, hg_zb, hg_z0, hg_z1, hg_nz, Option.bind_some, if_pos, if_neg, bI_0, bI_n0, nI_add, nI_mul, nI_ltI, nI_leI, nI_eq, nI_clamp, nI_subN, nI_divN, nI_mod2, nI_m1e, nI_em1, nI_m2e, nI_lt0, m1_lt0, m1_lt, m1_le, h_u_at, h_u_off2, h_u_pl, li_0, li_1, li_2, li_3, li_4, li_5, li_6, li_7, li_8, li_9, li_10, li_11, li_12, li_13, li_14, li_15, li_16, li_17, li_18, li_19, li_20, li_21, li_22, li_23, li_24, li_25, li_26, li_27, li_28, li_29, li_30, li_31, li_32, li_40, li_43, li_45, li_47, li_48, li_57, li_59, li_60, li_61, li_62, li_63, li_64, li_80, li_92, li_97, li_99, li_100, li_122, li_123, li_125, li_166, li_201, li_210, li_250, li_255, li_256, li_257, li_258, li_259, li_260, li_261, li_262, li_263, li_264, li_265, li_266, li_267, li_268, li_300, li_500, li_1000, li_12345, li_27720, li_1000000, li_1103515245, ne_m1, ne_m2, e]
  rfl
theorem mp_toOf (hD : rOk D) {I : hI} (h : mR D I) (hc : chM D p I) {s t : Nat} (hs : s < D 0 0) (ht : t < D 0 0) (hin : pIn D s = true) : mM_toOf (nI s) (nI t) I = some (nI (pW D p s t)) := by
  have hn := hD.2.1
  have hi : 0 < D 1 s := by simpa [pIn] using hin
  have hcl := pCh_lt (D := D) (p := p) hi
  have h8 := hD.2.2.2.1 s hs
  have e1 := mp_byPlan hD hc hs hin
  have e2 := (h.2.2.2.2 s hs _ hcl).2.2.2 t ht
  have e9 : 8 * s + pCh D p s = pSl D p s := rfl
  rw [e9] at e2
  have hps : pSl D p s < 80 := by unfold pSl; omega
  unfold mM_toOf
  simp (disch := omega) only [↓reduceIte, h_let, hg_in, hg_zb, hg_z0, hg_z1, hg_nz, Option.bind_some, if_pos, if_neg, bI_0, bI_n0, nI_add, nI_mul, nI_ltI, nI_leI, nI_eq, nI_clamp, nI_subN, nI_divN, nI_mod2, nI_m1e, nI_em1, nI_m2e, nI_lt0, m1_lt0, m1_lt, m1_le, h_u_at, h_u_off2, h_u_pl, li_0, li_1, li_2, li_3, li_4, li_5, li_6, li_7, li_8, li_9, li_10, li_11, li_12, li_13, li_14, li_15, li_16, li_17, li_18, li_19, li_20, li_21, li_22, li_23, li_24, li_25, li_26, li_27, li_28, li_29, li_30, li_31, li_32, li_40, li_43, li_45, li_47, li_48, li_57, li_59, li_60, li_61, li_62, li_63, li_64, li_80, li_92, li_97, li_99, li_100, li_122, li_123, li_125, li_166, li_201, li_210, li_250, li_255, li_256, li_257, li_258, li_259, li_260, li_261, li_262, li_263, li_264, li_265, li_266, li_267, li_268, li_300, li_500, li_1000, li_12345, li_27720, li_1000000, li_1103515245, ne_m1, ne_m2, e1, e2]
  rfl
theorem mp_ended_L (hD : rOk D) {I : hI} (h : mR D I) (hc : chM D p I) {s : Nat} (hs : s < D 0 0) (hin : pIn D s = true) : ∀ (r t acc fuel : Nat), t + r = D 0 0 → r < fuel → mM_endedOf_L13 fuel (nI s) (nI acc) (nI t) I = some (nI (acc + sumF (fun u => if pIn D u = true then 0 else pW D p s u) t r)) := by
  have hn := hD.2.1
  intro r
  induction r with
  | zero =>
    intro t acc fuel ht hf
    obtain ⟨fuel, rfl⟩ : ∃ m, fuel = m + 1 := ⟨fuel - 1, by omega⟩
    unfold mM_endedOf_L13 mM_endedOf_B13
    rw [h.1]
    simp (disch := omega) only [↓reduceIte, h_let, hg_in, hg_zb, hg_z0, hg_z1, hg_nz, Option.bind_some, if_pos, if_neg, bI_0, bI_n0, nI_add, nI_mul, nI_ltI, nI_leI, nI_eq, nI_clamp, nI_subN, nI_divN, nI_mod2, nI_m1e, nI_em1, nI_m2e, nI_lt0, m1_lt0, m1_lt, m1_le, h_u_at, h_u_off2, h_u_pl, li_0, li_1, li_2, li_3, li_4, li_5, li_6, li_7, li_8, li_9, li_10, li_11, li_12, li_13, li_14, li_15, li_16, li_17, li_18, li_19, li_20, li_21, li_22, li_23, li_24, li_25, li_26, li_27, li_28, li_29, li_30, li_31, li_32, li_40, li_43, li_45, li_47, li_48, li_57, li_59, li_60, li_61, li_62, li_63, li_64, li_80, li_92, li_97, li_99, li_100, li_122, li_123, li_125, li_166, li_201, li_210, li_250, li_255, li_256, li_257, li_258, li_259, li_260, li_261, li_262, li_263, li_264, li_265, li_266, li_267, li_268, li_300, li_500, li_1000, li_12345, li_27720, li_1000000, li_1103515245, ne_m1, ne_m2, sumF, Nat.add_zero]
  | succ r ih =>
    intro t acc fuel ht hf
    obtain ⟨fuel, rfl⟩ : ∃ m, fuel = m + 1 := ⟨fuel - 1, by omega⟩
    have ei := m_isInside hD h (s := t) (by omega)
    have e1 : decide (0 < D 1 t) = pIn D t := rfl
    rw [e1] at ei
    have et := mp_toOf hD h hc hs (show t < D 0 0 by omega) hin
    unfold mM_endedOf_L13 mM_endedOf_B13
    rw [h.1, sumF]
    cases hi : pIn D t
    · rw [hi, bI_f] at ei
      have i1 := ih (t + 1) (acc + pW D p s t) fuel (by omega) (by omega)
      simp (disch := omega) only [↓reduceIte, h_let, hg_in, hg_zb, hg_z0, hg_z1, hg_nz, Option.bind_some, if_pos, if_neg, bI_0, bI_n0, nI_add, nI_mul, nI_ltI, nI_leI, nI_eq, nI_clamp, nI_subN, nI_divN, nI_mod2, nI_m1e, nI_em1, nI_m2e, nI_lt0, m1_lt0, m1_lt, m1_le, h_u_at, h_u_off2, h_u_pl, li_0, li_1, li_2, li_3, li_4, li_5, li_6, li_7, li_8, li_9, li_10, li_11, li_12, li_13, li_14, li_15, li_16, li_17, li_18, li_19, li_20, li_21, li_22, li_23, li_24, li_25, li_26, li_27, li_28, li_29, li_30, li_31, li_32, li_40, li_43, li_45, li_47, li_48, li_57, li_59, li_60, li_61, li_62, li_63, li_64, li_80, li_92, li_97, li_99, li_100, li_122, li_123, li_125, li_166, li_201, li_210, li_250, li_255, li_256, li_257, li_258, li_259, li_260, li_261, li_262, li_263, li_264, li_265, li_266, li_267, li_268, li_300, li_500, li_1000, li_12345, li_27720, li_1000000, li_1103515245, ne_m1, ne_m2, ei, et, i1, Bool.false_eq_true]
      congr 2
      omega
    · rw [hi, bI_t] at ei
      have i1 := ih (t + 1) (acc + 0) fuel (by omega) (by omega)
      simp (disch := omega) only [↓reduceIte, h_let, hg_in, hg_zb, hg_z0, hg_z1, hg_nz, Option.bind_some, if_pos, if_neg, bI_0, bI_n0, nI_add, nI_mul, nI_ltI, nI_leI, nI_eq, nI_clamp, nI_subN, nI_divN, nI_mod2, nI_m1e, nI_em1, nI_m2e, nI_lt0, m1_lt0, m1_lt, m1_le, h_u_at, h_u_off2, h_u_pl, li_0, li_1, li_2, li_3, li_4, li_5, li_6, li_7, li_8, li_9, li_10, li_11, li_12, li_13, li_14, li_15, li_16, li_17, li_18, li_19, li_20, li_21, li_22, li_23, li_24, li_25, li_26, li_27, li_28, li_29, li_30, li_31, li_32, li_40, li_43, li_45, li_47, li_48, li_57, li_59, li_60, li_61, li_62, li_63, li_64, li_80, li_92, li_97, li_99, li_100, li_122, li_123, li_125, li_166, li_201, li_210, li_250, li_255, li_256, li_257, li_258, li_259, li_260, li_261, li_262, li_263, li_264, li_265, li_266, li_267, li_268, li_300, li_500, li_1000, li_12345, li_27720, li_1000000, li_1103515245, ne_m1, ne_m2, ei, i1]
      congr 2
      omega
theorem mp_endedOf (hD : rOk D) {I : hI} (h : mR D I) (hc : chM D p I) {s : Nat} (hs : s < D 0 0) (hin : pIn D s = true) : mM_endedOf (nI s) I = some (nI (D 4 (pSl D p s) + pO D p s (D 0 0))) := by
  have hn := hD.2.1
  have hi : 0 < D 1 s := by simpa [pIn] using hin
  have hcl := pCh_lt (D := D) (p := p) hi
  have h8 := hD.2.2.2.1 s hs
  have e1 := mp_byPlan hD hc hs hin
  obtain ⟨_, _, e2, _⟩ := h.2.2.2.2 s hs _ hcl
  have e9 : 8 * s + pCh D p s = pSl D p s := rfl
  rw [e9] at e2
  have hps : pSl D p s < 80 := by unfold pSl; omega
  have i1 := mp_ended_L hD h hc hs hin (D 0 0) 0 (D 4 (pSl D p s)) hF (by omega) (by unfold hF; omega)
  unfold mM_endedOf
  simp (disch := omega) only [↓reduceIte, h_let, hg_in, hg_zb, hg_z0, hg_z1, hg_nz, Option.bind_some, if_pos, if_neg, bI_0, bI_n0, nI_add, nI_mul, nI_ltI, nI_leI, nI_eq, nI_clamp, nI_subN, nI_divN, nI_mod2, nI_m1e, nI_em1, nI_m2e, nI_lt0, m1_lt0, m1_lt, m1_le, h_u_at, h_u_off2, h_u_pl, li_0, li_1, li_2, li_3, li_4, li_5, li_6, li_7, li_8, li_9, li_10, li_11, li_12, li_13, li_14, li_15, li_16, li_17, li_18, li_19, li_20, li_21, li_22, li_23, li_24, li_25, li_26, li_27, li_28, li_29, li_30, li_31, li_32, li_40, li_43, li_45, li_47, li_48, li_57, li_59, li_60, li_61, li_62, li_63, li_64, li_80, li_92, li_97, li_99, li_100, li_122, li_123, li_125, li_166, li_201, li_210, li_250, li_255, li_256, li_257, li_258, li_259, li_260, li_261, li_262, li_263, li_264, li_265, li_266, li_267, li_268, li_300, li_500, li_1000, li_12345, li_27720, li_1000000, li_1103515245, ne_m1, ne_m2, e1, e2, i1]
  rfl
def mK (D : rD) (p : Nat) : Nat → Nat → Nat → Bool
  | 0, s, t => decide (t = s) || (pIn D s && pIn D t && decide (0 < pW D p s t))
  | k + 1, s, t => mK D p k s t || (mK D p k s k && mK D p k k t)
theorem mK_refl (s : Nat) : ∀ k, mK D p k s s = true
  | 0 => by simp [mK]
  | k + 1 => by rw [mK, mK_refl s k]; rfl
/-- but for states that are OUT it is the class's reach -/
theorem mK_pK : ∀ (k s t : Nat), mK D p k s t = (pK D p k s t && (decide (t = s) || pIn D t))
  | 0, s, t => by
    simp only [mK, pK, pE]
    by_cases e : t = s
    · simp [e]
    · simp only [e, decide_false, Bool.false_or]
      cases pIn D s <;> cases pIn D t <;> simp
  | k + 1, s, t => by
    rw [mK, pK, mK_pK k s t, mK_pK k s k, mK_pK k k t]
    have hkk := pK_refl D p k k
    have hss := pK_refl D p s k
    by_cases e1 : t = s
    · subst e1; rw [hss]; simp
    · by_cases e2 : t = k
      · subst e2
        have e3 : ¬ t = s := e1
        simp [e3, hkk]
      · by_cases e3 : k = s
        · subst e3
          simp [e1, hkk]
        · simp [e1, e2, e3]
          cases hI : pIn D t
          · simp
          · cases hk : pIn D k
            · -- an OUT way station leads nowhere
              have hno : ∀ j u, u ≠ k → pK D p j k u = false := by
                intro j
                induction j with
                | zero => intro u hu; simp [pK, pE, hu, hk]
                | succ j ihj =>
                  intro u hu
                  rw [pK, ihj u hu]
                  by_cases ej : j = k
                  · subst ej; rw [ihj u hu]; simp
                  · rw [ihj j ej]; simp
              rw [hno k t e2]
              simp
            · simp
/-- what comes is held -/
def cmM (n : Nat) (f : Nat → Nat → Bool) (I : hI) : Prop := ∀ s t, s < n → t < n → I 36 (10 * s + t) = bI (f s t)
theorem mp_com0_i (hD : rOk D) {s : Nat} (hs : s < D 0 0) (k2 : _) : ∀ (r t fuel : Nat) (I : hI), t + r = D 0 0 → r < fuel → mR D I → chM D p I → (∀ u, u < t → I 36 (10 * s + u) = bI (mK D p 0 s u)) → ∃ I' : hI, mM_laysComing_L12 k2 fuel (nI s) (nI t) I = k2 (nI (s + 1)) I' ∧ (∀ a i, (a ≠ 36 ∨ i < 10 * s ∨ 10 * s + 10 ≤ i) → I' a i = I a i) ∧ ∀ u, u < D 0 0 → I' 36 (10 * s + u) = bI (mK D p 0 s u) := by
  have hn := hD.2.1
  intro r
  induction r with
  | zero =>
    intro t fuel I ht hf h hc h36
    obtain ⟨fuel, rfl⟩ : ∃ m, fuel = m + 1 := ⟨fuel - 1, by omega⟩
    unfold mM_laysComing_L12 mM_laysComing_B12
    rw [h.1]
    simp (disch := omega) only [↓reduceIte, h_let, hg_in, hg_zb, hg_z0, hg_z1, hg_nz, Option.bind_some, if_pos, if_neg, bI_0, bI_n0, nI_add, nI_mul, nI_ltI, nI_leI, nI_eq, nI_clamp, nI_subN, nI_divN, nI_mod2, nI_m1e, nI_em1, nI_m2e, nI_lt0, m1_lt0, m1_lt, m1_le, h_u_at, h_u_off2, h_u_pl, li_0, li_1, li_2, li_3, li_4, li_5, li_6, li_7, li_8, li_9, li_10, li_11, li_12, li_13, li_14, li_15, li_16, li_17, li_18, li_19, li_20, li_21, li_22, li_23, li_24, li_25, li_26, li_27, li_28, li_29, li_30, li_31, li_32, li_40, li_43, li_45, li_47, li_48, li_57, li_59, li_60, li_61, li_62, li_63, li_64, li_80, li_92, li_97, li_99, li_100, li_122, li_123, li_125, li_166, li_201, li_210, li_250, li_255, li_256, li_257, li_258, li_259, li_260, li_261, li_262, li_263, li_264, li_265, li_266, li_267, li_268, li_300, li_500, li_1000, li_12345, li_27720, li_1000000, li_1103515245, ne_m1, ne_m2]
    exact ⟨I, rfl, fun _ _ _ => rfl, fun u hu => h36 u (by omega)⟩
  | succ r ih =>
    intro t fuel I ht hf h hc h36
    obtain ⟨fuel, rfl⟩ : ∃ m, fuel = m + 1 := ⟨fuel - 1, by omega⟩
    have ei := m_isInside hD h hs
    have ej := m_isInside hD h (s := t) (by omega)
    have e1 : ∀ u, decide (0 < D 1 u) = pIn D u := fun _ => rfl
    rw [e1] at ei ej
    have fin : ∀ b : Bool, b = mK D p 0 s t → ∃ I' : hI, mM_laysComing_L12 k2 fuel (nI s) (nI (t + 1)) (h_u I 36 (10 * s + t) (bI b)) = k2 (nI (s + 1)) I' ∧ (∀ a i, (a ≠ 36 ∨ i < 10 * s ∨ 10 * s + 10 ≤ i) → I' a i = I a i) ∧ ∀ u, u < D 0 0 → I' 36 (10 * s + u) = bI (mK D p 0 s u) := by
      intro b hb
      obtain ⟨I', a1, a2, a3⟩ := ih (t + 1) fuel (h_u I 36 (10 * s + t) (bI b)) (by omega) (by omega) (mR_of h (fun c i q1 q2 => h_u_off2 _ _ _ _ (by omega)) (fun i q1 q2 => h_u_off2 _ _ _ _ (by omega))) (fun u hu => by rw [h_u_off2 _ _ _ _ (by decide)]; exact hc u hu) (fun u hu => by
        by_cases e : u = t
        · subst e; rw [h_u_at, hb]
        · rw [h_u_pl _ _ _ (by omega)]; exact h36 u (by omega))
      refine ⟨I', a1, fun a i hh => ?_, a3⟩
      rw [a2 a i hh]
      by_cases e : a = 36
      · subst e; exact h_u_pl _ _ _ (by omega)
      · exact h_u_off2 _ _ _ _ e
    unfold mM_laysComing_L12 mM_laysComing_B12 mM_laysComing_64 mM_laysComing_65
    rw [h.1]
    by_cases est : s = t
    · have f1 := fin true (by simp [mK, est])
      rw [bI_t] at f1
      simp (disch := omega) only [↓reduceIte, h_let, hg_in, hg_zb, hg_z0, hg_z1, hg_nz, Option.bind_some, if_pos, if_neg, bI_0, bI_n0, nI_add, nI_mul, nI_ltI, nI_leI, nI_eq, nI_clamp, nI_subN, nI_divN, nI_mod2, nI_m1e, nI_em1, nI_m2e, nI_lt0, m1_lt0, m1_lt, m1_le, h_u_at, h_u_off2, h_u_pl, li_0, li_1, li_2, li_3, li_4, li_5, li_6, li_7, li_8, li_9, li_10, li_11, li_12, li_13, li_14, li_15, li_16, li_17, li_18, li_19, li_20, li_21, li_22, li_23, li_24, li_25, li_26, li_27, li_28, li_29, li_30, li_31, li_32, li_40, li_43, li_45, li_47, li_48, li_57, li_59, li_60, li_61, li_62, li_63, li_64, li_80, li_92, li_97, li_99, li_100, li_122, li_123, li_125, li_166, li_201, li_210, li_250, li_255, li_256, li_257, li_258, li_259, li_260, li_261, li_262, li_263, li_264, li_265, li_266, li_267, li_268, li_300, li_500, li_1000, li_12345, li_27720, li_1000000, li_1103515245, ne_m1, ne_m2, nar0, nar1]
      exact f1
    · have est2 : ¬ t = s := fun e => est e.symm
      cases hi : pIn D s
      · rw [hi, bI_f] at ei
        have f1 := fin false (by simp [mK, est2, hi])
        rw [bI_f] at f1
        simp (disch := omega) only [↓reduceIte, h_let, hg_in, hg_zb, hg_z0, hg_z1, hg_nz, Option.bind_some, if_pos, if_neg, bI_0, bI_n0, nI_add, nI_mul, nI_ltI, nI_leI, nI_eq, nI_clamp, nI_subN, nI_divN, nI_mod2, nI_m1e, nI_em1, nI_m2e, nI_lt0, m1_lt0, m1_lt, m1_le, h_u_at, h_u_off2, h_u_pl, li_0, li_1, li_2, li_3, li_4, li_5, li_6, li_7, li_8, li_9, li_10, li_11, li_12, li_13, li_14, li_15, li_16, li_17, li_18, li_19, li_20, li_21, li_22, li_23, li_24, li_25, li_26, li_27, li_28, li_29, li_30, li_31, li_32, li_40, li_43, li_45, li_47, li_48, li_57, li_59, li_60, li_61, li_62, li_63, li_64, li_80, li_92, li_97, li_99, li_100, li_122, li_123, li_125, li_166, li_201, li_210, li_250, li_255, li_256, li_257, li_258, li_259, li_260, li_261, li_262, li_263, li_264, li_265, li_266, li_267, li_268, li_300, li_500, li_1000, li_12345, li_27720, li_1000000, li_1103515245, ne_m1, ne_m2, ei, nar0, nar1]
        exact f1
      · rw [hi, bI_t] at ei
        cases hj : pIn D t
        · rw [hj, bI_f] at ej
          have f1 := fin false (by simp [mK, est2, hj])
          rw [bI_f] at f1
          simp (disch := omega) only [↓reduceIte, h_let, hg_in, hg_zb, hg_z0, hg_z1, hg_nz, Option.bind_some, if_pos, if_neg, bI_0, bI_n0, nI_add, nI_mul, nI_ltI, nI_leI, nI_eq, nI_clamp, nI_subN, nI_divN, nI_mod2, nI_m1e, nI_em1, nI_m2e, nI_lt0, m1_lt0, m1_lt, m1_le, h_u_at, h_u_off2, h_u_pl, li_0, li_1, li_2, li_3, li_4, li_5, li_6, li_7, li_8, li_9, li_10, li_11, li_12, li_13, li_14, li_15, li_16, li_17, li_18, li_19, li_20, li_21, li_22, li_23, li_24, li_25, li_26, li_27, li_28, li_29, li_30, li_31, li_32, li_40, li_43, li_45, li_47, li_48, li_57, li_59, li_60, li_61, li_62, li_63, li_64, li_80, li_92, li_97, li_99, li_100, li_122, li_123, li_125, li_166, li_201, li_210, li_250, li_255, li_256, li_257, li_258, li_259, li_260, li_261, li_262, li_263, li_264, li_265, li_266, li_267, li_268, li_300, li_500, li_1000, li_12345, li_27720, li_1000000, li_1103515245, ne_m1, ne_m2, ei, ej, nar0, nar1]
          exact f1
        · rw [hj, bI_t] at ej
          have et := mp_toOf hD h hc hs (show t < D 0 0 by omega) hi
          have hi1 : 0 < D 1 s := by simpa [pIn] using hi
          have hw4 : pW D p s t ≤ 4 := (hD.2.2.2.2 s hs _ (pCh_lt (p := p) hi1)).2.2.2.1 t (by omega)
          by_cases hw : 0 < pW D p s t
          · have f1 := fin true (by simp [mK, hi, hj, hw])
            rw [bI_t] at f1
            simp (disch := omega) only [↓reduceIte, h_let, hg_in, hg_zb, hg_z0, hg_z1, hg_nz, Option.bind_some, if_pos, if_neg, bI_0, bI_n0, nI_add, nI_mul, nI_ltI, nI_leI, nI_eq, nI_clamp, nI_subN, nI_divN, nI_mod2, nI_m1e, nI_em1, nI_m2e, nI_lt0, m1_lt0, m1_lt, m1_le, h_u_at, h_u_off2, h_u_pl, li_0, li_1, li_2, li_3, li_4, li_5, li_6, li_7, li_8, li_9, li_10, li_11, li_12, li_13, li_14, li_15, li_16, li_17, li_18, li_19, li_20, li_21, li_22, li_23, li_24, li_25, li_26, li_27, li_28, li_29, li_30, li_31, li_32, li_40, li_43, li_45, li_47, li_48, li_57, li_59, li_60, li_61, li_62, li_63, li_64, li_80, li_92, li_97, li_99, li_100, li_122, li_123, li_125, li_166, li_201, li_210, li_250, li_255, li_256, li_257, li_258, li_259, li_260, li_261, li_262, li_263, li_264, li_265, li_266, li_267, li_268, li_300, li_500, li_1000, li_12345, li_27720, li_1000000, li_1103515245, ne_m1, ne_m2, ei, ej, et, nar0, nar1]
            exact f1
          · have f1 := fin false (by simp [mK, est2, hw])
            rw [bI_f] at f1
            simp (disch := omega) only [↓reduceIte, h_let, hg_in, hg_zb, hg_z0, hg_z1, hg_nz, Option.bind_some, if_pos, if_neg, bI_0, bI_n0, nI_add, nI_mul, nI_ltI, nI_leI, nI_eq, nI_clamp, nI_subN, nI_divN, nI_mod2, nI_m1e, nI_em1, nI_m2e, nI_lt0, m1_lt0, m1_lt, m1_le, h_u_at, h_u_off2, h_u_pl, li_0, li_1, li_2, li_3, li_4, li_5, li_6, li_7, li_8, li_9, li_10, li_11, li_12, li_13, li_14, li_15, li_16, li_17, li_18, li_19, li_20, li_21, li_22, li_23, li_24, li_25, li_26, li_27, li_28, li_29, li_30, li_31, li_32, li_40, li_43, li_45, li_47, li_48, li_57, li_59, li_60, li_61, li_62, li_63, li_64, li_80, li_92, li_97, li_99, li_100, li_122, li_123, li_125, li_166, li_201, li_210, li_250, li_255, li_256, li_257, li_258, li_259, li_260, li_261, li_262, li_263, li_264, li_265, li_266, li_267, li_268, li_300, li_500, li_1000, li_12345, li_27720, li_1000000, li_1103515245, ne_m1, ne_m2, ei, ej, et, nar0, nar1]
            exact f1
theorem mp_com0 (hD : rOk D) : ∀ (r s fuel : Nat) (I : hI), s + r = D 0 0 → r < fuel → mR D I → chM D p I → (∀ u t, u < s → t < D 0 0 → I 36 (10 * u + t) = bI (mK D p 0 u t)) → ∃ I' : hI, mM_laysComing_L2 fuel (nI s) I = mM_laysComing_L80 hF (nI 0) I' ∧ (∀ a i, a ≠ 36 → I' a i = I a i) ∧ cmM (D 0 0) (mK D p 0) I' := by
  have hn := hD.2.1
  intro r
  induction r with
  | zero =>
    intro s fuel I hs hf h hc h36
    obtain ⟨fuel, rfl⟩ : ∃ m, fuel = m + 1 := ⟨fuel - 1, by omega⟩
    unfold mM_laysComing_L2 mM_laysComing_B2
    rw [h.1]
    simp (disch := omega) only [↓reduceIte, h_let, hg_in, hg_zb, hg_z0, hg_z1, hg_nz, Option.bind_some, if_pos, if_neg, bI_0, bI_n0, nI_add, nI_mul, nI_ltI, nI_leI, nI_eq, nI_clamp, nI_subN, nI_divN, nI_mod2, nI_m1e, nI_em1, nI_m2e, nI_lt0, m1_lt0, m1_lt, m1_le, h_u_at, h_u_off2, h_u_pl, li_0, li_1, li_2, li_3, li_4, li_5, li_6, li_7, li_8, li_9, li_10, li_11, li_12, li_13, li_14, li_15, li_16, li_17, li_18, li_19, li_20, li_21, li_22, li_23, li_24, li_25, li_26, li_27, li_28, li_29, li_30, li_31, li_32, li_40, li_43, li_45, li_47, li_48, li_57, li_59, li_60, li_61, li_62, li_63, li_64, li_80, li_92, li_97, li_99, li_100, li_122, li_123, li_125, li_166, li_201, li_210, li_250, li_255, li_256, li_257, li_258, li_259, li_260, li_261, li_262, li_263, li_264, li_265, li_266, li_267, li_268, li_300, li_500, li_1000, li_12345, li_27720, li_1000000, li_1103515245, ne_m1, ne_m2]
    exact ⟨I, rfl, fun _ _ _ => rfl, fun u t hu ht => h36 u t (by omega) ht⟩
  | succ r ih =>
    intro s fuel I hs hf h hc h36
    obtain ⟨fuel, rfl⟩ : ∃ m, fuel = m + 1 := ⟨fuel - 1, by omega⟩
    obtain ⟨I1, a1, a2, a3⟩ := mp_com0_i hD (p := p) (s := s) (by omega) (mM_laysComing_L2 fuel) (D 0 0) 0 hF I (by omega) (by unfold hF; omega) h hc (fun u hu => by omega)
    obtain ⟨I', b1, b2, b3⟩ := ih (s + 1) fuel I1 (by omega) (by omega) (mR_of h (fun c i q1 q2 => a2 c i (by omega)) (fun i q1 q2 => a2 0 i (by omega))) (fun u hu => by rw [a2 30 u (by omega)]; exact hc u hu) (fun u t hu ht => by
      by_cases e : u = s
      · subst e; exact a3 t ht
      · rw [a2 36 _ (by omega)]; exact h36 u t (by omega) ht)
    unfold mM_laysComing_L2 mM_laysComing_B2
    rw [h.1]
    simp (disch := omega) only [↓reduceIte, h_let, hg_in, hg_zb, hg_z0, hg_z1, hg_nz, Option.bind_some, if_pos, if_neg, bI_0, bI_n0, nI_add, nI_mul, nI_ltI, nI_leI, nI_eq, nI_clamp, nI_subN, nI_divN, nI_mod2, nI_m1e, nI_em1, nI_m2e, nI_lt0, m1_lt0, m1_lt, m1_le, h_u_at, h_u_off2, h_u_pl, li_0, li_1, li_2, li_3, li_4, li_5, li_6, li_7, li_8, li_9, li_10, li_11, li_12, li_13, li_14, li_15, li_16, li_17, li_18, li_19, li_20, li_21, li_22, li_23, li_24, li_25, li_26, li_27, li_28, li_29, li_30, li_31, li_32, li_40, li_43, li_45, li_47, li_48, li_57, li_59, li_60, li_61, li_62, li_63, li_64, li_80, li_92, li_97, li_99, li_100, li_122, li_123, li_125, li_166, li_201, li_210, li_250, li_255, li_256, li_257, li_258, li_259, li_260, li_261, li_262, li_263, li_264, li_265, li_266, li_267, li_268, li_300, li_500, li_1000, li_12345, li_27720, li_1000000, li_1103515245, ne_m1, ne_m2, a1, b1]
    exact ⟨I', rfl, fun a i hh => by rw [b2 a i hh, a2 a i (Or.inl hh)], b3⟩
theorem mp_war_t (hD : rOk D) {k s : Nat} (hk : k < D 0 0) (hs : s < D 0 0) (k80 k90 : _) : ∀ (r t fuel : Nat) (I : hI), t + r = D 0 0 → r < fuel → mR D I → (∀ u, u < D 0 0 → I 36 (10 * s + u) = bI (if u < t then mK D p (k + 1) s u else mK D p k s u)) → (∀ u, u < D 0 0 → k ≠ s → I 36 (10 * k + u) = bI (mK D p k k u)) → ∃ I' : hI, mM_laysComing_L100 k80 k90 fuel (nI k) (nI s) (nI t) I = k90 (nI k) (nI (s + 1)) I' ∧ (∀ a i, (a ≠ 36 ∨ i < 10 * s ∨ 10 * s + 10 ≤ i) → I' a i = I a i) ∧ ∀ u, u < D 0 0 → I' 36 (10 * s + u) = bI (mK D p (k + 1) s u) := by
  have hn := hD.2.1
  intro r
  induction r with
  | zero =>
    intro t fuel I ht hf h h1 h2
    obtain ⟨fuel, rfl⟩ : ∃ m, fuel = m + 1 := ⟨fuel - 1, by omega⟩
    unfold mM_laysComing_L100 mM_laysComing_B100
    rw [h.1]
    simp (disch := omega) only [↓reduceIte, h_let, hg_in, hg_zb, hg_z0, hg_z1, hg_nz, Option.bind_some, if_pos, if_neg, bI_0, bI_n0, nI_add, nI_mul, nI_ltI, nI_leI, nI_eq, nI_clamp, nI_subN, nI_divN, nI_mod2, nI_m1e, nI_em1, nI_m2e, nI_lt0, m1_lt0, m1_lt, m1_le, h_u_at, h_u_off2, h_u_pl, li_0, li_1, li_2, li_3, li_4, li_5, li_6, li_7, li_8, li_9, li_10, li_11, li_12, li_13, li_14, li_15, li_16, li_17, li_18, li_19, li_20, li_21, li_22, li_23, li_24, li_25, li_26, li_27, li_28, li_29, li_30, li_31, li_32, li_40, li_43, li_45, li_47, li_48, li_57, li_59, li_60, li_61, li_62, li_63, li_64, li_80, li_92, li_97, li_99, li_100, li_122, li_123, li_125, li_166, li_201, li_210, li_250, li_255, li_256, li_257, li_258, li_259, li_260, li_261, li_262, li_263, li_264, li_265, li_266, li_267, li_268, li_300, li_500, li_1000, li_12345, li_27720, li_1000000, li_1103515245, ne_m1, ne_m2]
    exact ⟨I, rfl, fun _ _ _ => rfl, fun u hu => by have := h1 u hu; rw [if_pos (by omega)] at this; exact this⟩
  | succ r ih =>
    intro t fuel I ht hf h h1 h2
    obtain ⟨fuel, rfl⟩ : ∃ m, fuel = m + 1 := ⟨fuel - 1, by omega⟩
    have e1 := h1 t (by omega)
    rw [if_neg (Nat.lt_irrefl t)] at e1
    have hkk := mK_refl (D := D) (p := p) k k
    have e2 : I 36 (10 * s + k) = bI (mK D p k s k) := by
      have := h1 k hk
      by_cases q : k < t
      · rw [if_pos q] at this
        rw [this, mK, hkk]
        congr 1
        cases mK D p k s k <;> rfl
      · rw [if_neg q] at this; exact this
    have e3 : I 36 (10 * k + t) = bI (mK D p k k t) := by
      by_cases q : k = s
      · subst q; exact e1
      · exact h2 t (by omega) q
    have fin : ∀ b : Bool, b = mK D p (k + 1) s t → ∃ I' : hI, mM_laysComing_L100 k80 k90 fuel (nI k) (nI s) (nI (t + 1)) (h_u I 36 (10 * s + t) (bI b)) = k90 (nI k) (nI (s + 1)) I' ∧ (∀ a i, (a ≠ 36 ∨ i < 10 * s ∨ 10 * s + 10 ≤ i) → I' a i = I a i) ∧ ∀ u, u < D 0 0 → I' 36 (10 * s + u) = bI (mK D p (k + 1) s u) := by
      intro b hb
      obtain ⟨I', a1, a2, a3⟩ := ih (t + 1) fuel (h_u I 36 (10 * s + t) (bI b)) (by omega) (by omega) (mR_of h (fun c i q1 q2 => h_u_off2 _ _ _ _ (by omega)) (fun i q1 q2 => h_u_off2 _ _ _ _ (by omega))) (fun u hu => by
        by_cases e : u = t
        · subst e; rw [h_u_at, hb, if_pos (Nat.lt_succ_self u)]
        · rw [h_u_pl _ _ _ (by omega), h1 u hu]
          by_cases q : u < t
          · rw [if_pos q, if_pos (by omega)]
          · rw [if_neg q, if_neg (by omega)]) (fun u hu hne => by rw [h_u_pl _ _ _ (by omega)]; exact h2 u hu hne)
      refine ⟨I', a1, fun a i hh => ?_, a3⟩
      rw [a2 a i hh]
      by_cases e : a = 36
      · subst e; exact h_u_pl _ _ _ (by omega)
      · exact h_u_off2 _ _ _ _ e
    unfold mM_laysComing_L100 mM_laysComing_B100 mM_laysComing_164 mM_laysComing_165
    rw [h.1]
    cases q1 : mK D p k s t
    · rw [q1, bI_f] at e1
      cases q2 : mK D p k s k
      · rw [q2, bI_f] at e2
        have f1 := fin false (by rw [mK, q1, q2]; rfl)
        rw [bI_f] at f1
        simp (disch := omega) only [↓reduceIte, h_let, hg_in, hg_zb, hg_z0, hg_z1, hg_nz, Option.bind_some, if_pos, if_neg, bI_0, bI_n0, nI_add, nI_mul, nI_ltI, nI_leI, nI_eq, nI_clamp, nI_subN, nI_divN, nI_mod2, nI_m1e, nI_em1, nI_m2e, nI_lt0, m1_lt0, m1_lt, m1_le, h_u_at, h_u_off2, h_u_pl, li_0, li_1, li_2, li_3, li_4, li_5, li_6, li_7, li_8, li_9, li_10, li_11, li_12, li_13, li_14, li_15, li_16, li_17, li_18, li_19, li_20, li_21, li_22, li_23, li_24, li_25, li_26, li_27, li_28, li_29, li_30, li_31, li_32, li_40, li_43, li_45, li_47, li_48, li_57, li_59, li_60, li_61, li_62, li_63, li_64, li_80, li_92, li_97, li_99, li_100, li_122, li_123, li_125, li_166, li_201, li_210, li_250, li_255, li_256, li_257, li_258, li_259, li_260, li_261, li_262, li_263, li_264, li_265, li_266, li_267, li_268, li_300, li_500, li_1000, li_12345, li_27720, li_1000000, li_1103515245, ne_m1, ne_m2, e1, e2, nar0, nar1]
        exact f1
      · rw [q2, bI_t] at e2
        cases q3 : mK D p k k t
        · rw [q3, bI_f] at e3
          have f1 := fin false (by rw [mK, q1, q2, q3]; rfl)
          rw [bI_f] at f1
          simp (disch := omega) only [↓reduceIte, h_let, hg_in, hg_zb, hg_z0, hg_z1, hg_nz, Option.bind_some, if_pos, if_neg, bI_0, bI_n0, nI_add, nI_mul, nI_ltI, nI_leI, nI_eq, nI_clamp, nI_subN, nI_divN, nI_mod2, nI_m1e, nI_em1, nI_m2e, nI_lt0, m1_lt0, m1_lt, m1_le, h_u_at, h_u_off2, h_u_pl, li_0, li_1, li_2, li_3, li_4, li_5, li_6, li_7, li_8, li_9, li_10, li_11, li_12, li_13, li_14, li_15, li_16, li_17, li_18, li_19, li_20, li_21, li_22, li_23, li_24, li_25, li_26, li_27, li_28, li_29, li_30, li_31, li_32, li_40, li_43, li_45, li_47, li_48, li_57, li_59, li_60, li_61, li_62, li_63, li_64, li_80, li_92, li_97, li_99, li_100, li_122, li_123, li_125, li_166, li_201, li_210, li_250, li_255, li_256, li_257, li_258, li_259, li_260, li_261, li_262, li_263, li_264, li_265, li_266, li_267, li_268, li_300, li_500, li_1000, li_12345, li_27720, li_1000000, li_1103515245, ne_m1, ne_m2, e1, e2, e3, nar0, nar1]
          exact f1
        · rw [q3, bI_t] at e3
          have f1 := fin true (by rw [mK, q1, q2, q3]; rfl)
          rw [bI_t] at f1
          simp (disch := omega) only [↓reduceIte, h_let, hg_in, hg_zb, hg_z0, hg_z1, hg_nz, Option.bind_some, if_pos, if_neg, bI_0, bI_n0, nI_add, nI_mul, nI_ltI, nI_leI, nI_eq, nI_clamp, nI_subN, nI_divN, nI_mod2, nI_m1e, nI_em1, nI_m2e, nI_lt0, m1_lt0, m1_lt, m1_le, h_u_at, h_u_off2, h_u_pl, li_0, li_1, li_2, li_3, li_4, li_5, li_6, li_7, li_8, li_9, li_10, li_11, li_12, li_13, li_14, li_15, li_16, li_17, li_18, li_19, li_20, li_21, li_22, li_23, li_24, li_25, li_26, li_27, li_28, li_29, li_30, li_31, li_32, li_40, li_43, li_45, li_47, li_48, li_57, li_59, li_60, li_61, li_62, li_63, li_64, li_80, li_92, li_97, li_99, li_100, li_122, li_123, li_125, li_166, li_201, li_210, li_250, li_255, li_256, li_257, li_258, li_259, li_260, li_261, li_262, li_263, li_264, li_265, li_266, li_267, li_268, li_300, li_500, li_1000, li_12345, li_27720, li_1000000, li_1103515245, ne_m1, ne_m2, e1, e2, e3, nar0, nar1]
          exact f1
    · rw [q1, bI_t] at e1
      have f1 := fin true (by rw [mK, q1]; rfl)
      rw [bI_t] at f1
      simp (disch := omega) only [↓reduceIte, h_let, hg_in, hg_zb, hg_z0, hg_z1, hg_nz, Option.bind_some, if_pos, if_neg, bI_0, bI_n0, nI_add, nI_mul, nI_ltI, nI_leI, nI_eq, nI_clamp, nI_subN, nI_divN, nI_mod2, nI_m1e, nI_em1, nI_m2e, nI_lt0, m1_lt0, m1_lt, m1_le, h_u_at, h_u_off2, h_u_pl, li_0, li_1, li_2, li_3, li_4, li_5, li_6, li_7, li_8, li_9, li_10, li_11, li_12, li_13, li_14, li_15, li_16, li_17, li_18, li_19, li_20, li_21, li_22, li_23, li_24, li_25, li_26, li_27, li_28, li_29, li_30, li_31, li_32, li_40, li_43, li_45, li_47, li_48, li_57, li_59, li_60, li_61, li_62, li_63, li_64, li_80, li_92, li_97, li_99, li_100, li_122, li_123, li_125, li_166, li_201, li_210, li_250, li_255, li_256, li_257, li_258, li_259, li_260, li_261, li_262, li_263, li_264, li_265, li_266, li_267, li_268, li_300, li_500, li_1000, li_12345, li_27720, li_1000000, li_1103515245, ne_m1, ne_m2, e1, nar0, nar1]
      exact f1
theorem mp_war_s (hD : rOk D) {k : Nat} (hk : k < D 0 0) (k80 : _) : ∀ (r s fuel : Nat) (I : hI), s + r = D 0 0 → r < fuel → mR D I → cmM (D 0 0) (fun u t => if u < s then mK D p (k + 1) u t else mK D p k u t) I → ∃ I' : hI, mM_laysComing_L90 k80 fuel (nI k) (nI s) I = k80 (nI (k + 1)) I' ∧ (∀ a i, a ≠ 36 → I' a i = I a i) ∧ cmM (D 0 0) (mK D p (k + 1)) I' := by
  have hn := hD.2.1
  intro r
  induction r with
  | zero =>
    intro s fuel I hs hf h hc
    obtain ⟨fuel, rfl⟩ : ∃ m, fuel = m + 1 := ⟨fuel - 1, by omega⟩
    unfold mM_laysComing_L90 mM_laysComing_B90
    rw [h.1]
    simp (disch := omega) only [↓reduceIte, h_let, hg_in, hg_zb, hg_z0, hg_z1, hg_nz, Option.bind_some, if_pos, if_neg, bI_0, bI_n0, nI_add, nI_mul, nI_ltI, nI_leI, nI_eq, nI_clamp, nI_subN, nI_divN, nI_mod2, nI_m1e, nI_em1, nI_m2e, nI_lt0, m1_lt0, m1_lt, m1_le, h_u_at, h_u_off2, h_u_pl, li_0, li_1, li_2, li_3, li_4, li_5, li_6, li_7, li_8, li_9, li_10, li_11, li_12, li_13, li_14, li_15, li_16, li_17, li_18, li_19, li_20, li_21, li_22, li_23, li_24, li_25, li_26, li_27, li_28, li_29, li_30, li_31, li_32, li_40, li_43, li_45, li_47, li_48, li_57, li_59, li_60, li_61, li_62, li_63, li_64, li_80, li_92, li_97, li_99, li_100, li_122, li_123, li_125, li_166, li_201, li_210, li_250, li_255, li_256, li_257, li_258, li_259, li_260, li_261, li_262, li_263, li_264, li_265, li_266, li_267, li_268, li_300, li_500, li_1000, li_12345, li_27720, li_1000000, li_1103515245, ne_m1, ne_m2]
    refine ⟨I, rfl, fun _ _ _ => rfl, fun u t hu ht => ?_⟩
    have := hc u t hu ht
    simp only [if_pos (show u < s by omega)] at this
    exact this
  | succ r ih =>
    intro s fuel I hs hf h hc
    obtain ⟨fuel, rfl⟩ : ∃ m, fuel = m + 1 := ⟨fuel - 1, by omega⟩
    have hkk := mK_refl (D := D) (p := p) k k
    obtain ⟨I1, a1, a2, a3⟩ := mp_war_t hD (p := p) hk (s := s) (by omega) k80 (mM_laysComing_L90 k80 fuel) (D 0 0) 0 hF I (by omega) (by unfold hF; omega) h (fun u hu => by
      have := hc s u (by omega) hu
      simp only [if_neg (Nat.lt_irrefl s)] at this
      rw [if_neg (Nat.not_lt_zero u)]
      exact this) (fun u hu hne => by
      have := hc k u hk hu
      by_cases q : k < s
      · simp only [if_pos q] at this
        rw [this, mK, hkk]
        congr 1
        cases mK D p k k u <;> rfl
      · simp only [if_neg q] at this; exact this)
    obtain ⟨I', b1, b2, b3⟩ := ih (s + 1) fuel I1 (by omega) (by omega) (mR_of h (fun c i q1 q2 => a2 c i (by omega)) (fun i q1 q2 => a2 0 i (by omega))) (fun u t hu ht => by
      show _ = bI (if u < s + 1 then mK D p (k + 1) u t else mK D p k u t)
      by_cases e : u = s
      · subst e; rw [if_pos (Nat.lt_succ_self u)]; exact a3 t ht
      · rw [a2 36 _ (by omega)]
        have := hc u t hu ht
        by_cases q : u < s
        · simp only [if_pos q] at this; rw [if_pos (by omega)]; exact this
        · simp only [if_neg q] at this; rw [if_neg (by omega)]; exact this)
    unfold mM_laysComing_L90 mM_laysComing_B90
    rw [h.1]
    simp (disch := omega) only [↓reduceIte, h_let, hg_in, hg_zb, hg_z0, hg_z1, hg_nz, Option.bind_some, if_pos, if_neg, bI_0, bI_n0, nI_add, nI_mul, nI_ltI, nI_leI, nI_eq, nI_clamp, nI_subN, nI_divN, nI_mod2, nI_m1e, nI_em1, nI_m2e, nI_lt0, m1_lt0, m1_lt, m1_le, h_u_at, h_u_off2, h_u_pl, li_0, li_1, li_2, li_3, li_4, li_5, li_6, li_7, li_8, li_9, li_10, li_11, li_12, li_13, li_14, li_15, li_16, li_17, li_18, li_19, li_20, li_21, li_22, li_23, li_24, li_25, li_26, li_27, li_28, li_29, li_30, li_31, li_32, li_40, li_43, li_45, li_47, li_48, li_57, li_59, li_60, li_61, li_62, li_63, li_64, li_80, li_92, li_97, li_99, li_100, li_122, li_123, li_125, li_166, li_201, li_210, li_250, li_255, li_256, li_257, li_258, li_259, li_260, li_261, li_262, li_263, li_264, li_265, li_266, li_267, li_268, li_300, li_500, li_1000, li_12345, li_27720, li_1000000, li_1103515245, ne_m1, ne_m2, a1, b1]
    exact ⟨I', rfl, fun a i hh => by rw [b2 a i hh, a2 a i (Or.inl hh)], b3⟩
theorem mp_war (hD : rOk D) : ∀ (r k fuel : Nat) (I : hI), k + r = D 0 0 → r < fuel → mR D I → cmM (D 0 0) (mK D p k) I → ∃ I' : hI, mM_laysComing_L80 fuel (nI k) I = some I' ∧ (∀ a i, a ≠ 36 → I' a i = I a i) ∧ cmM (D 0 0) (mK D p (D 0 0)) I' := by
  have hn := hD.2.1
  intro r
  induction r with
  | zero =>
    intro k fuel I hk hf h hc
    obtain ⟨fuel, rfl⟩ : ∃ m, fuel = m + 1 := ⟨fuel - 1, by omega⟩
    obtain rfl : k = D 0 0 := by omega
    unfold mM_laysComing_L80 mM_laysComing_B80
    rw [h.1]
    simp (disch := omega) only [↓reduceIte, h_let, hg_in, hg_zb, hg_z0, hg_z1, hg_nz, Option.bind_some, if_pos, if_neg, bI_0, bI_n0, nI_add, nI_mul, nI_ltI, nI_leI, nI_eq, nI_clamp, nI_subN, nI_divN, nI_mod2, nI_m1e, nI_em1, nI_m2e, nI_lt0, m1_lt0, m1_lt, m1_le, h_u_at, h_u_off2, h_u_pl, li_0, li_1, li_2, li_3, li_4, li_5, li_6, li_7, li_8, li_9, li_10, li_11, li_12, li_13, li_14, li_15, li_16, li_17, li_18, li_19, li_20, li_21, li_22, li_23, li_24, li_25, li_26, li_27, li_28, li_29, li_30, li_31, li_32, li_40, li_43, li_45, li_47, li_48, li_57, li_59, li_60, li_61, li_62, li_63, li_64, li_80, li_92, li_97, li_99, li_100, li_122, li_123, li_125, li_166, li_201, li_210, li_250, li_255, li_256, li_257, li_258, li_259, li_260, li_261, li_262, li_263, li_264, li_265, li_266, li_267, li_268, li_300, li_500, li_1000, li_12345, li_27720, li_1000000, li_1103515245, ne_m1, ne_m2]
    exact ⟨I, rfl, fun _ _ _ => rfl, hc⟩
  | succ r ih =>
    intro k fuel I hk hf h hc
    obtain ⟨fuel, rfl⟩ : ∃ m, fuel = m + 1 := ⟨fuel - 1, by omega⟩
    obtain ⟨I1, a1, a2, a3⟩ := mp_war_s hD (p := p) (k := k) (by omega) (mM_laysComing_L80 fuel) (D 0 0) 0 hF I (by omega) (by unfold hF; omega) h (fun u t hu ht => by
      show _ = bI (if u < 0 then _ else _)
      rw [if_neg (Nat.not_lt_zero u)]; exact hc u t hu ht)
    obtain ⟨I', b1, b2, b3⟩ := ih (k + 1) fuel I1 (by omega) (by omega) (mR_of h (fun c i q1 q2 => a2 c i (by omega)) (fun i q1 q2 => a2 0 i (by omega))) a3
    unfold mM_laysComing_L80 mM_laysComing_B80
    rw [h.1]
    simp (disch := omega) only [↓reduceIte, h_let, hg_in, hg_zb, hg_z0, hg_z1, hg_nz, Option.bind_some, if_pos, if_neg, bI_0, bI_n0, nI_add, nI_mul, nI_ltI, nI_leI, nI_eq, nI_clamp, nI_subN, nI_divN, nI_mod2, nI_m1e, nI_em1, nI_m2e, nI_lt0, m1_lt0, m1_lt, m1_le, h_u_at, h_u_off2, h_u_pl, li_0, li_1, li_2, li_3, li_4, li_5, li_6, li_7, li_8, li_9, li_10, li_11, li_12, li_13, li_14, li_15, li_16, li_17, li_18, li_19, li_20, li_21, li_22, li_23, li_24, li_25, li_26, li_27, li_28, li_29, li_30, li_31, li_32, li_40, li_43, li_45, li_47, li_48, li_57, li_59, li_60, li_61, li_62, li_63, li_64, li_80, li_92, li_97, li_99, li_100, li_122, li_123, li_125, li_166, li_201, li_210, li_250, li_255, li_256, li_257, li_258, li_259, li_260, li_261, li_262, li_263, li_264, li_265, li_266, li_267, li_268, li_300, li_500, li_1000, li_12345, li_27720, li_1000000, li_1103515245, ne_m1, ne_m2, a1, b1]
    exact ⟨I', rfl, fun a i hh => by rw [b2 a i hh, a2 a i hh], b3⟩
theorem mp_laysComing (hD : rOk D) {I : hI} (h : mR D I) (hc : chM D p I) : ∃ I' : hI, mM_laysComing I = some I' ∧ (∀ a i, a ≠ 36 → I' a i = I a i) ∧ cmM (D 0 0) (mK D p (D 0 0)) I' := by
  have hn := hD.2.1
  obtain ⟨I1, a1, a2, a3⟩ := mp_com0 hD (p := p) (D 0 0) 0 hF I (by omega) (by unfold hF; omega) h hc (fun u t hu => by omega)
  obtain ⟨I2, b1, b2, b3⟩ := mp_war hD (p := p) (D 0 0) 0 hF I1 (by omega) (by unfold hF; omega) (mR_of h (fun c i q1 q2 => a2 c i (by omega)) (fun i q1 q2 => a2 0 i (by omega))) a3
  unfold mM_laysComing
  rw [li_0, a1, b1]
  exact ⟨I2, rfl, fun a i hh => by rw [b2 a i hh, a2 a i hh], b3⟩
end Mp
