/-! best: the class keeps the better corner at each state. -/
theorem lt_asym {x y : Int} {P Q : Nat → Int} (h : ltP x y P Q) : ¬ ltP x y Q P := by
  unfold ltP at *
  omega
/-- the corner kept at a state is the least of a set -/
def kpS (D : rD) (W : (Nat → Int) → Prop) (s : Nat) (J : hJ) : Prop := ∃ K : Nat → Int, ptQ (50 + s) K J ∧ ptB K ∧ W K ∧ ∀ P : Nat → Int, 0 < P 3 → W P → ¬ ltP (s % D 0 1 : Nat) (s / D 0 1 : Nat) P K
theorem kpS_of {D : rD} {V : (Nat → Int) → Prop} {J J' : hJ} {s : Nat} (h : kpS D V s J) (h1 : ∀ x, J' (50 + s) x = J (50 + s) x) : kpS D V s J' := by
  obtain ⟨K, ⟨a, b, c, d⟩, q2⟩ := h
  exact ⟨K, ⟨by rw [h1]; exact a, by rw [h1]; exact b, by rw [h1]; exact c, by rw [h1]; exact d⟩, q2⟩
theorem ptQ_of {c : Nat} {P : Nat → Int} {J J' : hJ} (h : ptQ c P J) (h1 : ∀ x, J' c x = J c x) : ptQ c P J' := by
  obtain ⟨a, b, d, e⟩ := h
  exact ⟨by rw [h1]; exact a, by rw [h1]; exact b, by rw [h1]; exact d, by rw [h1]; exact e⟩
theorem cp_at (J : hJ) (c : Nat) {k : Nat} (hk : k < 4) : h_cp J 48 0 c 0 4 c k = J 48 k := by
  simp [h_cp, va_cpy, hk]
theorem cp_off (J : hJ) {c a : Nat} (h : a ≠ c) (x : Nat) : h_cp J 48 0 c 0 4 a x = J a x := by
  simp [h_cp, h]
section Kp
variable {D : rD}
theorem nc_112 (hD : rOk D) {C : Nat → Int} (bC : ptB C) {W : (Nat → Int) → Prop} {I : hI} (hc : cR D I) {b : Bool} (hb : I 38 2 = bI b) (hW : b = false → ∀ P : Nat → Int, 0 < P 3 → ¬ W P) : ∀ (r t fuel : Nat) (J : hJ), t + r = D 0 0 → r < fuel → ptQ 48 C J → (b = true → ∀ s, t ≤ s → s < D 0 0 → pIn D s = true → kpS D W s J) → (∀ s, s < t → pIn D s = true → kpS D (fun P => W P ∨ eqP P C) s J) → ∃ J' : hJ, mCo_noteCorner_L112 fuel (nI t) I J = some (h_u I 38 2 (nI 1), J') ∧ (∀ a x, (a < 50 ∨ 60 ≤ a) → J' a x = J a x) ∧ ∀ s, s < D 0 0 → pIn D s = true → kpS D (fun P => W P ∨ eqP P C) s J' := by
  have hn := hD.2.1
  intro r
  induction r with
  | zero =>
    intro t fuel J ht hf hC h1 h2
    obtain ⟨fuel, rfl⟩ : ∃ m, fuel = m + 1 := ⟨fuel - 1, by omega⟩
    refine ⟨J, ?_, fun _ _ _ => rfl, fun s hs => h2 s (by omega)⟩
    unfold mCo_noteCorner_L112 mCo_noteCorner_B112
    rw [hc.1]
    simp (disch := omega) only [↓reduceIte, h_let, hg_in, hg_zb, hg_z0, hg_z1, hg_nz, Option.bind_some, if_pos, if_neg, bI_0, bI_n0, nI_add, nI_mul, nI_ltI, nI_leI, nI_eq, nI_clamp, nI_subN, nI_divN, nI_mod2, nI_m1e, nI_em1, nI_m2e, nI_lt0, m1_lt0, m1_lt, m1_le, h_u_at, h_u_off2, h_u_pl, li_0, li_1, li_2, li_3, li_4, li_5, li_6, li_7, li_8, li_9, li_10, li_11, li_12, li_13, li_14, li_15, li_16, li_17, li_18, li_19, li_20, li_21, li_22, li_23, li_24, li_25, li_26, li_27, li_28, li_29, li_30, li_31, li_32, li_40, li_43, li_45, li_47, li_48, li_57, li_59, li_60, li_61, li_62, li_63, li_64, li_80, li_92, li_97, li_99, li_100, li_122, li_123, li_125, li_166, li_201, li_210, li_250, li_255, li_256, li_257, li_258, li_259, li_260, li_261, li_262, li_263, li_264, li_265, li_266, li_267, li_268, li_300, li_500, li_1000, li_12345, li_27720, li_1000000, li_1103515245, ne_m1, ne_m2]
  | succ r ih =>
    intro t fuel J ht hf hC h1 h2
    obtain ⟨fuel, rfl⟩ : ∃ m, fuel = m + 1 := ⟨fuel - 1, by omega⟩
    have htn : t < D 0 0 := by omega
    have ei := ro_isIn hD hc (s := t) (by omega)
    have e1 : decide (t < D 0 0 ∧ 0 < D 1 t) = pIn D t := by unfold pIn; simp [htn]
    rw [e1] at ei
    unfold mCo_noteCorner_L112 mCo_noteCorner_B112
    rw [hc.1]
    cases hi : pIn D t
    · rw [hi, bI_f] at ei
      obtain ⟨J', g1, g2, g3⟩ := ih (t + 1) fuel J (by omega) (by omega) hC (fun hb s q1 q2 => h1 hb s (by omega) q2) (fun s hs hp => by
        by_cases e : s = t
        · subst e; rw [hi] at hp; exact absurd hp (by decide)
        · exact h2 s (by omega) hp)
      refine ⟨J', ?_, g2, g3⟩
      simp (disch := omega) only [↓reduceIte, h_let, hg_in, hg_zb, hg_z0, hg_z1, hg_nz, Option.bind_some, if_pos, if_neg, bI_0, bI_n0, nI_add, nI_mul, nI_ltI, nI_leI, nI_eq, nI_clamp, nI_subN, nI_divN, nI_mod2, nI_m1e, nI_em1, nI_m2e, nI_lt0, m1_lt0, m1_lt, m1_le, h_u_at, h_u_off2, h_u_pl, li_0, li_1, li_2, li_3, li_4, li_5, li_6, li_7, li_8, li_9, li_10, li_11, li_12, li_13, li_14, li_15, li_16, li_17, li_18, li_19, li_20, li_21, li_22, li_23, li_24, li_25, li_26, li_27, li_28, li_29, li_30, li_31, li_32, li_40, li_43, li_45, li_47, li_48, li_57, li_59, li_60, li_61, li_62, li_63, li_64, li_80, li_92, li_97, li_99, li_100, li_122, li_123, li_125, li_166, li_201, li_210, li_250, li_255, li_256, li_257, li_258, li_259, li_260, li_261, li_262, li_263, li_264, li_265, li_266, li_267, li_268, li_300, li_500, li_1000, li_12345, li_27720, li_1000000, li_1103515245, ne_m1, ne_m2, ei]
      exact g1
    · rw [hi, bI_t] at ei
      -- the new corner is kept here
      have keep : (b = true → ∃ K, ptB K ∧ (∀ P : Nat → Int, 0 < P 3 → W P → ¬ ltP (t % D 0 1 : Nat) (t / D 0 1 : Nat) P K) ∧ ltP (t % D 0 1 : Nat) (t / D 0 1 : Nat) C K) → ∃ J' : hJ, mCo_noteCorner_159 (mCo_noteCorner_L112 fuel) (nI t) I J = some (h_u I 38 2 (nI 1), J') ∧ (∀ a x, (a < 50 ∨ 60 ≤ a) → J' a x = J a x) ∧ ∀ s, s < D 0 0 → pIn D s = true → kpS D (fun P => W P ∨ eqP P C) s J' := fun hK => by
        obtain ⟨J', g1, g2, g3⟩ := ih (t + 1) fuel (h_cp J 48 0 (50 + t) 0 4) (by omega) (by omega) (ptQ_of hC (fun x => cp_off J (by omega) x)) (fun hb s q1 q2 q3 => kpS_of (h1 hb s (by omega) q2 q3) (fun x => cp_off J (by omega) x)) (fun s hs hp => by
          by_cases e : s = t
          · subst e
            refine ⟨C, ⟨?_, ?_, ?_, ?_⟩, bC, Or.inr (eqP_refl C), fun P hP hV => ?_⟩
            · rw [cp_at _ _ (by decide)]; exact hC.1
            · rw [cp_at _ _ (by decide)]; exact hC.2.1
            · rw [cp_at _ _ (by decide)]; exact hC.2.2.1
            · rw [cp_at _ _ (by decide)]; exact hC.2.2.2
            · rcases hV with hV | hV
              · cases hbb : b
                · exact absurd hV (hW hbb P hP)
                · obtain ⟨K, k1, k2, k3⟩ := hK hbb
                  exact nlt_trans bC.2.2.2.1 k1.2.2.2.1 hP (lt_asym k3) (k2 P hP hV)
              · exact (eq_nlt hV).1
          · exact kpS_of (h2 s (by omega) hp) (fun x => cp_off J (by omega) x))
        refine ⟨J', ?_, fun a x h => by rw [g2 a x h, cp_off J (by omega) x], g3⟩
        unfold mCo_noteCorner_159
        simp (disch := omega) only [↓reduceIte, h_let, hg_in, hg_zb, hg_z0, hg_z1, hg_nz, Option.bind_some, if_pos, if_neg, bI_0, bI_n0, nI_add, nI_mul, nI_ltI, nI_leI, nI_eq, nI_clamp, nI_subN, nI_divN, nI_mod2, nI_m1e, nI_em1, nI_m2e, nI_lt0, m1_lt0, m1_lt, m1_le, h_u_at, h_u_off2, h_u_pl, li_0, li_1, li_2, li_3, li_4, li_5, li_6, li_7, li_8, li_9, li_10, li_11, li_12, li_13, li_14, li_15, li_16, li_17, li_18, li_19, li_20, li_21, li_22, li_23, li_24, li_25, li_26, li_27, li_28, li_29, li_30, li_31, li_32, li_40, li_43, li_45, li_47, li_48, li_57, li_59, li_60, li_61, li_62, li_63, li_64, li_80, li_92, li_97, li_99, li_100, li_122, li_123, li_125, li_166, li_201, li_210, li_250, li_255, li_256, li_257, li_258, li_259, li_260, li_261, li_262, li_263, li_264, li_265, li_266, li_267, li_268, li_300, li_500, li_1000, li_12345, li_27720, li_1000000, li_1103515245, ne_m1, ne_m2]
        exact g1
      cases hbb : b
      · rw [hbb, bI_f] at hb
        obtain ⟨J', g1, g2, g3⟩ := keep (fun h => by rw [hbb] at h; exact absurd h (by decide))
        refine ⟨J', ?_, g2, g3⟩
        rw [hb]
        simp (disch := omega) only [↓reduceIte, h_let, hg_in, hg_zb, hg_z0, hg_z1, hg_nz, Option.bind_some, if_pos, if_neg, bI_0, bI_n0, nI_add, nI_mul, nI_ltI, nI_leI, nI_eq, nI_clamp, nI_subN, nI_divN, nI_mod2, nI_m1e, nI_em1, nI_m2e, nI_lt0, m1_lt0, m1_lt, m1_le, h_u_at, h_u_off2, h_u_pl, li_0, li_1, li_2, li_3, li_4, li_5, li_6, li_7, li_8, li_9, li_10, li_11, li_12, li_13, li_14, li_15, li_16, li_17, li_18, li_19, li_20, li_21, li_22, li_23, li_24, li_25, li_26, li_27, li_28, li_29, li_30, li_31, li_32, li_40, li_43, li_45, li_47, li_48, li_57, li_59, li_60, li_61, li_62, li_63, li_64, li_80, li_92, li_97, li_99, li_100, li_122, li_123, li_125, li_166, li_201, li_210, li_250, li_255, li_256, li_257, li_258, li_259, li_260, li_261, li_262, li_263, li_264, li_265, li_266, li_267, li_268, li_300, li_500, li_1000, li_12345, li_27720, li_1000000, li_1103515245, ne_m1, ne_m2, ei]
        exact g1
      · rw [hbb, bI_t] at hb
        obtain ⟨K, k1, k2, k3, k4⟩ := h1 hbb t (Nat.le_refl _) htn hi
        obtain ⟨c, c1, c2⟩ := co_isBetter hD hc htn hC k1 bC k2
        rw [hb]
        cases c
        · rw [bI_f] at c1
          have nl : ¬ ltP (t % D 0 1 : Nat) (t / D 0 1 : Nat) C K := fun h => absurd (c2.mpr h) (by decide)
          obtain ⟨J', g1, g2, g3⟩ := ih (t + 1) fuel J (by omega) (by omega) hC (fun hb s q1 q2 => h1 hb s (by omega) q2) (fun s hs hp => by
            by_cases e : s = t
            · subst e
              refine ⟨K, k1, k2, Or.inl k3, fun P hP hV => ?_⟩
              rcases hV with hV | hV
              · exact k4 P hP hV
              · exact nlt_trans k2.2.2.2.1 bC.2.2.2.1 hP nl (eq_nlt hV).1
            · exact h2 s (by omega) hp)
          refine ⟨J', ?_, g2, g3⟩
          simp (disch := omega) only [↓reduceIte, h_let, hg_in, hg_zb, hg_z0, hg_z1, hg_nz, Option.bind_some, if_pos, if_neg, bI_0, bI_n0, nI_add, nI_mul, nI_ltI, nI_leI, nI_eq, nI_clamp, nI_subN, nI_divN, nI_mod2, nI_m1e, nI_em1, nI_m2e, nI_lt0, m1_lt0, m1_lt, m1_le, h_u_at, h_u_off2, h_u_pl, li_0, li_1, li_2, li_3, li_4, li_5, li_6, li_7, li_8, li_9, li_10, li_11, li_12, li_13, li_14, li_15, li_16, li_17, li_18, li_19, li_20, li_21, li_22, li_23, li_24, li_25, li_26, li_27, li_28, li_29, li_30, li_31, li_32, li_40, li_43, li_45, li_47, li_48, li_57, li_59, li_60, li_61, li_62, li_63, li_64, li_80, li_92, li_97, li_99, li_100, li_122, li_123, li_125, li_166, li_201, li_210, li_250, li_255, li_256, li_257, li_258, li_259, li_260, li_261, li_262, li_263, li_264, li_265, li_266, li_267, li_268, li_300, li_500, li_1000, li_12345, li_27720, li_1000000, li_1103515245, ne_m1, ne_m2, ei, c1]
          exact g1
        · rw [bI_t] at c1
          obtain ⟨J', g1, g2, g3⟩ := keep (fun _ => ⟨K, k2, k4, c2.mp rfl⟩)
          refine ⟨J', ?_, g2, g3⟩
          simp (disch := omega) only [↓reduceIte, h_let, hg_in, hg_zb, hg_z0, hg_z1, hg_nz, Option.bind_some, if_pos, if_neg, bI_0, bI_n0, nI_add, nI_mul, nI_ltI, nI_leI, nI_eq, nI_clamp, nI_subN, nI_divN, nI_mod2, nI_m1e, nI_em1, nI_m2e, nI_lt0, m1_lt0, m1_lt, m1_le, h_u_at, h_u_off2, h_u_pl, li_0, li_1, li_2, li_3, li_4, li_5, li_6, li_7, li_8, li_9, li_10, li_11, li_12, li_13, li_14, li_15, li_16, li_17, li_18, li_19, li_20, li_21, li_22, li_23, li_24, li_25, li_26, li_27, li_28, li_29, li_30, li_31, li_32, li_40, li_43, li_45, li_47, li_48, li_57, li_59, li_60, li_61, li_62, li_63, li_64, li_80, li_92, li_97, li_99, li_100, li_122, li_123, li_125, li_166, li_201, li_210, li_250, li_255, li_256, li_257, li_258, li_259, li_260, li_261, li_262, li_263, li_264, li_265, li_266, li_267, li_268, li_300, li_500, li_1000, li_12345, li_27720, li_1000000, li_1103515245, ne_m1, ne_m2, ei, c1]
          exact g1
/-- the corners kept: those of a set, or none was found -/
def kpQ (D : rD) (W : (Nat → Int) → Prop) (I : hI) (J : hJ) : Prop := (I 38 2 = nI 0 ∧ ∀ P : Nat → Int, 0 < P 3 → ¬ W P) ∨ (I 38 2 = nI 1 ∧ (∃ P : Nat → Int, 0 < P 3 ∧ W P) ∧ ∀ s, s < D 0 0 → pIn D s = true → kpS D W s J)
theorem co_noteCorner (hD : rOk D) {I : hI} {J : hJ} (hcR : cR D I) {W : (Nat → Int) → Prop} (hk : kpQ D W I J) {u l S : Int} {p w c : Nat → Int} (h8 : J 38 8 = lI S) (hp : ∀ k, k < 3 → J 44 k = lI (p k)) (hw : ∀ k, k < 3 → J 45 k = lI (w k)) (hc : ∀ k, k < 3 → p k * l + u * w k = S * c k) (hl : l = c 3) (hS : 0 < S) (hS2 : S ≤ 20155392) (bc : ptB c) : ∃ (I' : hI) (J' : hJ) (C : Nat → Int), mCo_noteCorner (lI u) (lI l) I J = some (I', J') ∧ (∀ a x, (a ≠ 38 ∨ x ≠ 2) → I' a x = I a x) ∧ (∀ a x, (a < 48 ∨ 60 ≤ a) → J' a x = J a x) ∧ 0 < C 3 ∧ eqP C c ∧ kpQ D (fun P => W P ∨ eqP P C) I' J' := by
  obtain ⟨C, J1, a1, a2, a3, a4, a5⟩ := co_nums (I := I) h8 hp hw hc hl hS hS2 bc
  have off : ∀ a x, (a ≠ 38 ∨ x ≠ 2) → h_u I 38 2 (nI 1) a x = I a x := fun a x hh => by
    by_cases e : a = 38
    · subst e; exact h_u_pl _ _ _ (by omega)
    · exact h_u_off2 _ _ _ _ e
  have fin : ∀ b : Bool, I 38 2 = bI b → (b = false → ∀ P : Nat → Int, 0 < P 3 → ¬ W P) → (b = true → ∀ s, s < D 0 0 → pIn D s = true → kpS D W s J) → ∃ (I' : hI) (J' : hJ) (C : Nat → Int), mCo_noteCorner (lI u) (lI l) I J = some (I', J') ∧ (∀ a x, (a ≠ 38 ∨ x ≠ 2) → I' a x = I a x) ∧ (∀ a x, (a < 48 ∨ 60 ≤ a) → J' a x = J a x) ∧ 0 < C 3 ∧ eqP C c ∧ kpQ D (fun P => W P ∨ eqP P C) I' J' := fun b hb h0 h1 => by
    obtain ⟨J', g1, g2, g3⟩ := nc_112 hD a3 hcR hb h0 (D 0 0) 0 hF J1 (by omega) (by have := hD.2.1; unfold hF; omega) a2 (fun q s _ q2 q3 => kpS_of (h1 q s q2 q3) (fun x => a5 _ x (by omega))) (fun s hs => by omega)
    refine ⟨h_u I 38 2 (nI 1), J', C, by rw [a1, g1], off, fun a x hh => by rw [g2 a x (by omega), a5 a x (by omega)], a3.2.2.2.1, a4, Or.inr ⟨h_u_at _ _ _ _, ⟨C, a3.2.2.2.1, Or.inr (eqP_refl C)⟩, g3⟩⟩
  rcases hk with ⟨h0, h1⟩ | ⟨h0, h1, h2⟩
  · exact fin false h0 (fun _ => h1) (fun q => absurd q (by decide))
  · exact fin true h0 (fun q => absurd q (by decide)) (fun _ => h2)
end Kp
