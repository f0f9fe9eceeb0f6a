/-! best: the class goes through all lines. -/
section Pa
variable {R : Nat → Nat → Int} {M : Nat} {D : rD}
theorem fea_cp {i j r F : Nat} : feaP R F M (cnV 1 (R i) (R j) (R r)) ↔ feaQ R F M (cn0 (R i) (R j) (R r)) (cn1 (R i) (R j) (R r)) (cn2 (R i) (R j) (R r)) (slp (R i) (R j) (R r)) := by
  have e0 : cnV 1 (R i) (R j) (R r) 0 = cn0 (R i) (R j) (R r) := Int.one_mul _
  have e1 : cnV 1 (R i) (R j) (R r) 1 = cn1 (R i) (R j) (R r) := Int.one_mul _
  have e2 : cnV 1 (R i) (R j) (R r) 2 = cn2 (R i) (R j) (R r) := Int.one_mul _
  have e3 : cnV 1 (R i) (R j) (R r) 3 = slp (R i) (R j) (R r) := Int.one_mul _
  unfold feaP
  rw [e0, e1, e2, e3]
theorem fea_cm {i j r F : Nat} : feaP R F M (cnV (-1) (R i) (R j) (R r)) ↔ feaQ R F M (- cn0 (R i) (R j) (R r)) (- cn1 (R i) (R j) (R r)) (- cn2 (R i) (R j) (R r)) (- slp (R i) (R j) (R r)) := by
  have n : ∀ a : Int, -1 * a = - a := fun a => by omega
  have e0 : cnV (-1) (R i) (R j) (R r) 0 = - cn0 (R i) (R j) (R r) := n _
  have e1 : cnV (-1) (R i) (R j) (R r) 1 = - cn1 (R i) (R j) (R r) := n _
  have e2 : cnV (-1) (R i) (R j) (R r) 2 = - cn2 (R i) (R j) (R r) := n _
  have e3 : cnV (-1) (R i) (R j) (R r) 3 = - slp (R i) (R j) (R r) := n _
  unfold feaP
  rw [e0, e1, e2, e3]
theorem lnQ_of {i j : Nat → Int} {J J' : hJ} (h : lnQ i j J) (h1 : ∀ a x, a < 48 → J' a x = J a x) : lnQ i j J' := by
  obtain ⟨a, ⟨b, c, d⟩, e, f, g⟩ := h
  exact ⟨by rw [h1 _ _ (by decide)]; exact a, ⟨by rw [h1 _ _ (by decide)]; exact b, by rw [h1 _ _ (by decide)]; exact c, by rw [h1 _ _ (by decide)]; exact d⟩, by rw [h1 _ _ (by decide)]; exact e, by rw [h1 _ _ (by decide)]; exact f, by rw [h1 _ _ (by decide)]; exact g⟩
theorem co_noteEnds (hD : rOk D) (hb : bdR R M) {i j F : Nat} (hi : i < M) (hj : j < M) (hS : 0 < wyS (R i) (R j)) {I : hI} {J : hJ} (hcR : cR D I) (hl : lnQ (R i) (R j) J) {W : (Nat → Int) → Prop} (hk : kpQ D W I J) {lo hh : Option (Int × Int)} (elo : endQ 46 9 lo I J) (ehi : endQ 47 10 hh I J) (hc : cutI R i j F M lo hh) : ∃ (I' : hI) (J' : hJ), mCo_noteEnds I J = some (I', J') ∧ (∀ a x, (a ≠ 38 ∨ x ≠ 2) → I' a x = I a x) ∧ (∀ a x, (a < 48 ∨ 60 ≤ a) → J' a x = J a x) ∧ kpQ D (fun P => W P ∨ lnW R F M i j P) I' J' := by
  have st1 : ∃ (I1 : hI) (J1 : hJ) (V : (Nat → Int) → Prop), mCo_noteEnds I J = mCo_noteEnds_23 I1 J1 ∧ (∀ a x, (a ≠ 38 ∨ x ≠ 2) → I1 a x = I a x) ∧ (∀ a x, (a < 48 ∨ 60 ≤ a) → J1 a x = J a x) ∧ kpQ D (fun P => W P ∨ V P) I1 J1 ∧ (∀ P : Nat → Int, 0 < P 3 → V P → lnW R F M i j P) ∧ ∀ r P, F ≤ r → r < M → 0 < slp (R i) (R j) (R r) → isC (R i) (R j) (R r) P → feaP R F M P → 0 < P 3 → V P := by
    have back : ∀ r P, F ≤ r → r < M → 0 < slp (R i) (R j) (R r) → isC (R i) (R j) (R r) P → feaP R F M P → 0 < P 3 → ∃ u l, lo = some (u, l) ∧ u * slp (R i) (R j) (R r) = mis (R i) (R j) (R r) * l := fun r P h1 h2 h3 h4 h5 h6 => by
      have c3 : 0 < cnV 1 (R i) (R j) (R r) 3 := by
        have : cnV 1 (R i) (R j) (R r) 3 = slp (R i) (R j) (R r) := Int.one_mul _
        omega
      have f := fea_cp.mp (fea_eq c3 h6 (eqP_symm ((eqP_cn (Or.inl rfl) h4.1).mpr h4)) h5)
      exact (is_lo hS h1 h2 h3 f).2 lo hh hc
    rcases elo with ⟨q1, q2⟩ | ⟨u, l, q1, q2, q3, q4, q5, q6⟩
    · refine ⟨I, J, fun _ => False, ?_, fun _ _ _ => rfl, fun _ _ _ => rfl, kpQ_congr hk (fun P _ => by simp), fun P _ h => h.elim, fun r P h1 h2 h3 h4 h5 h6 => ?_⟩
      · unfold mCo_noteEnds
        rw [li_0, if_pos q2]
      · obtain ⟨u, l, e, _⟩ := back r P h1 h2 h3 h4 h5 h6
        rw [q1] at e
        exact absurd e (by simp)
    · obtain ⟨r, r1, r2, r3, r4, r5, r6⟩ := end_lo hc hS q1
      obtain ⟨I1, J1, a1, a2, a3, a4⟩ := co_end (F := F) hD hb hi hj r2 (Or.inl rfl) (by omega) hS hcR hl hk (u := u) (l := l) (by omega) (by omega)
      refine ⟨I1, J1, isC (R i) (R j) (R r), ?_, a2, a3, a4, fun P hP h => ⟨r, r1, r2, h, ?_⟩, fun q P h1 h2 h3 h4 h5 h6 => ?_⟩
      · unfold mCo_noteEnds
        rw [q2]
        simp (disch := omega) only [↓reduceIte, h_let, hg_in, hg_zb, hg_z0, hg_z1, hg_nz, Option.bind_some, if_pos, if_neg, bI_0, bI_n0, nI_add, nI_mul, nI_ltI, nI_leI, nI_eq, nI_clamp, nI_subN, nI_divN, nI_mod2, nI_m1e, nI_em1, nI_m2e, nI_lt0, m1_lt0, m1_lt, m1_le, h_u_at, h_u_off2, h_u_pl, li_0, li_1, li_2, li_3, li_4, li_5, li_6, li_7, li_8, li_9, li_10, li_11, li_12, li_13, li_14, li_15, li_16, li_17, li_18, li_19, li_20, li_21, li_22, li_23, li_24, li_25, li_26, li_27, li_28, li_29, li_30, li_31, li_32, li_40, li_43, li_45, li_47, li_48, li_57, li_59, li_60, li_61, li_62, li_63, li_64, li_80, li_92, li_97, li_99, li_100, li_122, li_123, li_125, li_166, li_201, li_210, li_250, li_255, li_256, li_257, li_258, li_259, li_260, li_261, li_262, li_263, li_264, li_265, li_266, li_267, li_268, li_300, li_500, li_1000, li_12345, li_27720, li_1000000, li_1103515245, ne_m1, ne_m2, q3, q4, a1]
      · have c3 : 0 < cnV 1 (R i) (R j) (R r) 3 := by
          have : cnV 1 (R i) (R j) (R r) 3 = slp (R i) (R j) (R r) := Int.one_mul _
          omega
        exact fea_eq hP c3 ((eqP_cn (Or.inl rfl) h.1).mpr h) (fea_cp.mpr r6)
      · obtain ⟨u', l', e, e2⟩ := back q P h1 h2 h3 h4 h5 h6
        rw [q1] at e
        cases e
        rw [r4, r5] at e2
        exact isC_move hS (by omega) e2 h4
  obtain ⟨I1, J1, V, b1, b2, b3, b4, b5, b6⟩ := st1
  have hcR1 : cR D I1 := cR_of hcR (fun a x q1 q2 => b2 a x (by omega))
  have hl1 : lnQ (R i) (R j) J1 := lnQ_of hl (fun a x h => b3 a x (by omega))
  have ehi1 : endQ 47 10 hh I1 J1 := endQ_of ehi (b2 38 10 (by decide)) ⟨b3 47 0 (by decide), b3 47 1 (by decide)⟩
  have st2 : ∃ (I2 : hI) (J2 : hJ) (U : (Nat → Int) → Prop), mCo_noteEnds_23 I1 J1 = some (I2, J2) ∧ (∀ a x, (a ≠ 38 ∨ x ≠ 2) → I2 a x = I1 a x) ∧ (∀ a x, (a < 48 ∨ 60 ≤ a) → J2 a x = J1 a x) ∧ kpQ D (fun P => (W P ∨ V P) ∨ U P) I2 J2 ∧ (∀ P : Nat → Int, 0 < P 3 → U P → lnW R F M i j P) ∧ ∀ r P, F ≤ r → r < M → slp (R i) (R j) (R r) < 0 → isC (R i) (R j) (R r) P → feaP R F M P → 0 < P 3 → U P := by
    have back : ∀ r P, F ≤ r → r < M → slp (R i) (R j) (R r) < 0 → isC (R i) (R j) (R r) P → feaP R F M P → 0 < P 3 → ∃ u l, hh = some (u, l) ∧ u * (- slp (R i) (R j) (R r)) = - mis (R i) (R j) (R r) * l := fun r P h1 h2 h3 h4 h5 h6 => by
      have c3 : 0 < cnV (-1) (R i) (R j) (R r) 3 := by
        have : cnV (-1) (R i) (R j) (R r) 3 = -1 * slp (R i) (R j) (R r) := rfl
        omega
      have f := fea_cm.mp (fea_eq c3 h6 (eqP_symm ((eqP_cn (Or.inr rfl) h4.1).mpr h4)) h5)
      exact (is_hi hS h1 h2 h3 f).2 lo hh hc
    rcases ehi1 with ⟨q1, q2⟩ | ⟨u, l, q1, q2, q3, q4, q5, q6⟩
    · refine ⟨I1, J1, fun _ => False, ?_, fun _ _ _ => rfl, fun _ _ _ => rfl, kpQ_congr b4 (fun P _ => by simp), fun P _ h => h.elim, fun r P h1 h2 h3 h4 h5 h6 => ?_⟩
      · unfold mCo_noteEnds_23
        rw [li_0, if_pos q2]
      · obtain ⟨u, l, e, _⟩ := back r P h1 h2 h3 h4 h5 h6
        rw [q1] at e
        exact absurd e (by simp)
    · obtain ⟨r, r1, r2, r3, r4, r5, r6⟩ := end_hi hc hS q1
      obtain ⟨I2, J2, a1, a2, a3, a4⟩ := co_end (F := F) hD hb hi hj r2 (Or.inr rfl) (by omega) hS hcR1 hl1 b4 (u := u) (l := l) (by omega) (by omega)
      refine ⟨I2, J2, isC (R i) (R j) (R r), ?_, a2, a3, a4, fun P hP h => ⟨r, r1, r2, h, ?_⟩, fun q P h1 h2 h3 h4 h5 h6 => ?_⟩
      · unfold mCo_noteEnds_23
        rw [q2]
        simp (disch := omega) only [↓reduceIte, h_let, hg_in, hg_zb, hg_z0, hg_z1, hg_nz, Option.bind_some, if_pos, if_neg, bI_0, bI_n0, nI_add, nI_mul, nI_ltI, nI_leI, nI_eq, nI_clamp, nI_subN, nI_divN, nI_mod2, nI_m1e, nI_em1, nI_m2e, nI_lt0, m1_lt0, m1_lt, m1_le, h_u_at, h_u_off2, h_u_pl, li_0, li_1, li_2, li_3, li_4, li_5, li_6, li_7, li_8, li_9, li_10, li_11, li_12, li_13, li_14, li_15, li_16, li_17, li_18, li_19, li_20, li_21, li_22, li_23, li_24, li_25, li_26, li_27, li_28, li_29, li_30, li_31, li_32, li_40, li_43, li_45, li_47, li_48, li_57, li_59, li_60, li_61, li_62, li_63, li_64, li_80, li_92, li_97, li_99, li_100, li_122, li_123, li_125, li_166, li_201, li_210, li_250, li_255, li_256, li_257, li_258, li_259, li_260, li_261, li_262, li_263, li_264, li_265, li_266, li_267, li_268, li_300, li_500, li_1000, li_12345, li_27720, li_1000000, li_1103515245, ne_m1, ne_m2, q3, q4, a1]
      · have c3 : 0 < cnV (-1) (R i) (R j) (R r) 3 := by
          have : cnV (-1) (R i) (R j) (R r) 3 = -1 * slp (R i) (R j) (R r) := rfl
          omega
        exact fea_eq hP c3 ((eqP_cn (Or.inr rfl) h.1).mpr h) (fea_cm.mpr r6)
      · obtain ⟨u', l', e, e2⟩ := back q P h1 h2 h3 h4 h5 h6
        rw [q1] at e
        cases e
        rw [r4, r5] at e2
        refine isC_move hS (by omega) ?_ h4
        have x1 : - mis (R i) (R j) (R r) * - slp (R i) (R j) (R q) = mis (R i) (R j) (R r) * slp (R i) (R j) (R q) := by grind
        have x2 : - mis (R i) (R j) (R q) * - slp (R i) (R j) (R r) = mis (R i) (R j) (R q) * slp (R i) (R j) (R r) := by grind
        rw [x1, x2] at e2
        exact e2
  obtain ⟨I2, J2, U, d1, d2, d3, d4, d5, d6⟩ := st2
  refine ⟨I2, J2, by rw [b1, d1], fun a x h => by rw [d2 a x h, b2 a x h], fun a x h => by rw [d3 a x h, b3 a x h], kpQ_congr d4 (fun P hP => ?_)⟩
  constructor
  · rintro ((h | h) | h)
    · exact Or.inl h
    · exact Or.inr (b5 P hP h)
    · exact Or.inr (d5 P hP h)
  · rintro (h | ⟨r, r1, r2, r3, r4⟩)
    · exact Or.inl (Or.inl h)
    · by_cases c : 0 < slp (R i) (R j) (R r)
      · exact Or.inl (Or.inr (b6 r P r1 r2 c r3 r4 hP))
      · exact Or.inr (d6 r P r1 r2 (by have := r3.1; omega) r3 r4 hP)
/-- what the loops over lines keep -/
def paI (D : rD) (R : Nat → Nat → Int) (F M : Nat) (I : hI) (J : hJ) : Prop := cR D I ∧ I 38 4 = nI M ∧ I 38 5 = nI F ∧ tbR R M J
def offPj (I I' : hI) (J J' : hJ) : Prop := (∀ a x, (a ≠ 38 ∨ (x ≠ 2 ∧ x ≠ 9 ∧ x ≠ 10)) → I' a x = I a x) ∧ ∀ a x, (a < 44 ∨ 60 ≤ a) → (a ≠ 38 ∨ x ≠ 8) → J' a x = J a x
theorem paI_of {F : Nat} {I I' : hI} {J J' : hJ} (h : paI D R F M I J) (h1 : offPj I I' J J') : paI D R F M I' J' := ⟨cR_of h.1 (fun a x q1 q2 => h1.1 a x (by omega)), by rw [h1.1 _ _ (by decide)]; exact h.2.1, by rw [h1.1 _ _ (by decide)]; exact h.2.2.1, tbR_of h.2.2.2 (fun a x q1 q2 => h1.2 a x (by omega) (by omega))⟩
theorem offPj_tr {I I' I'' : hI} {J J' J'' : hJ} (h1 : offPj I I' J J') (h2 : offPj I' I'' J' J'') : offPj I I'' J J'' := ⟨fun a x h => by rw [h2.1 a x h, h1.1 a x h], fun a x h g => by rw [h2.2 a x h g, h1.2 a x h g]⟩
theorem pj_step (hD : rOk D) (hb : bdR R M) (hM : M ≤ 92) {i j F : Nat} (hi : i < M) (hj : j < M) (hFM : F ≤ M) {I : hI} {J : hJ} (h : paI D R F M I J) {W : (Nat → Int) → Prop} (hk : kpQ D W I J) (K : hI → hJ → Option (hI × hJ)) : ∃ (I' : hI) (J' : hJ), ((mCo_makeLine (nI i) (nI j) J).bind fun q1 => if q1.1 = 0 then K I q1.2 else ((mCo_cutLine I q1.2).bind fun q2 => if q2.1 = 0 then K q2.2.1 q2.2.2 else ((mCo_noteEnds q2.2.1 q2.2.2).bind fun q3 => K q3.1 q3.2))) = K I' J' ∧ offPj I I' J J' ∧ kpQ D (fun P => W P ∨ lnW R F M i j P) I' J' := by
  obtain ⟨h1, h2, h3, h4⟩ := h
  obtain ⟨J1, a1, a2, a3⟩ := co_makeLine hb h4 hM hi hj
  have hk1 : kpQ D W I J1 := kpQ_of hD hk rfl (fun a x q1 q2 => a2 a x (by omega) (by omega) (by omega))
  have o1 : offPj I I J J1 := ⟨fun _ _ _ => rfl, fun a x q1 q2 => a2 a x (by omega) (by omega) q2⟩
  have hSn := wyS_nn (R i) (R j)
  rw [a1]
  by_cases z : wyS (R i) (R j) = 0
  · refine ⟨I, J1, ?_, o1, kpQ_congr hk1 (fun P hP => ⟨Or.inl, ?_⟩)⟩
    · have : decide (wyS (R i) (R j) ≠ 0) = false := decide_eq_false (by omega)
      rw [this]
      rfl
    · rintro (q | ⟨r, _, _, q, _⟩)
      · exact q
      · exact absurd (wyS_0 (R i) (R j) (R r) z) q.1
  · have ht1 : tbR R M J1 := tbR_of h4 (fun a x q1 q2 => a2 a x (by omega) (by omega) (by omega))
    have hS : 0 < wyS (R i) (R j) := by omega
    obtain ⟨I2, J2, c1, c2⟩ := co_cutLine hb hM hi hj hFM h2 h3 ht1 a3
    have o2 : offPj I I2 J1 J2 := ⟨fun a x q => c1.1 a x (by omega), fun a x q1 q2 => c1.2 a x (by omega) (by omega)⟩
    have hk2 : kpQ D W I2 J2 := kpQ_of hD hk1 (c1.1 _ _ (by decide)) (fun a x q1 q2 => c1.2 a x (by omega) (by omega))
    have ez : decide (wyS (R i) (R j) ≠ 0) = true := decide_eq_true z
    have n1 : ¬ nI 1 = (0 : Int32) := by decide
    have n0 : nI 0 = (0 : Int32) := rfl
    rw [ez, bI_t, Option.bind_some, if_neg n1]
    rcases c2 with ⟨c2, c3⟩ | ⟨lo, hh, c2, c3, c4, c5⟩
    · rw [c2, Option.bind_some, if_pos n0]
      refine ⟨I2, J2, rfl, offPj_tr o1 o2, kpQ_congr hk2 (fun P hP => ⟨Or.inl, ?_⟩)⟩
      rintro (q | ⟨r, r1, r2, q, f⟩)
      · exact q
      · exfalso
        rcases Int.lt_or_gt_of_ne q.1 with s | s
        · have c3' : 0 < cnV (-1) (R i) (R j) (R r) 3 := by
            have : cnV (-1) (R i) (R j) (R r) 3 = -1 * slp (R i) (R j) (R r) := rfl
            omega
          exact (is_hi hS r1 r2 s (fea_cm.mp (fea_eq c3' hP (eqP_symm ((eqP_cn (Or.inr rfl) q.1).mpr q)) f))).1 c3
        · have c3' : 0 < cnV 1 (R i) (R j) (R r) 3 := by
            have : cnV 1 (R i) (R j) (R r) 3 = 1 * slp (R i) (R j) (R r) := rfl
            omega
          exact (is_lo hS r1 r2 s (fea_cp.mp (fea_eq c3' hP (eqP_symm ((eqP_cn (Or.inl rfl) q.1).mpr q)) f))).1 c3
    · rw [c2, Option.bind_some, if_neg n1]
      have hl2 : lnQ (R i) (R j) J2 := by
        obtain ⟨a, ⟨b, c, d⟩, e, f, g⟩ := a3
        exact ⟨by rw [c1.2 _ _ (by decide) (by decide)]; exact a, ⟨by rw [c1.2 _ _ (by decide) (by decide)]; exact b, by rw [c1.2 _ _ (by decide) (by decide)]; exact c, by rw [c1.2 _ _ (by decide) (by decide)]; exact d⟩, by rw [c1.2 _ _ (by decide) (by decide)]; exact e, by rw [c1.2 _ _ (by decide) (by decide)]; exact f, by rw [c1.2 _ _ (by decide) (by decide)]; exact g⟩
      obtain ⟨I3, J3, d1, d2, d3, d4⟩ := co_noteEnds hD hb hi hj hS (cR_of h1 (fun a x q1 q2 => o2.1 a x (by omega))) hl2 hk2 c3 c4 c5
      rw [d1, Option.bind_some]
      exact ⟨I3, J3, rfl, offPj_tr o1 (offPj_tr o2 ⟨fun a x q => d2 a x (by omega), fun a x q1 q2 => d3 a x (by omega)⟩), d4⟩
theorem pj_L (hD : rOk D) (hb : bdR R M) (hM : M ≤ 92) {i F sec : Nat} (hi : i < M) (hsec : sec ≤ M) (hFM : F ≤ M) (v1 : Int32) (k57 : _) {W : (Nat → Int) → Prop} : ∀ (r j fuel : Nat) (I : hI) (J : hJ), j + r = sec → r < fuel → paI D R F M I J → kpQ D (fun P => W P ∨ ∃ j', i < j' ∧ j' < j ∧ lnW R F M i j' P) I J → i < j → ∃ (I' : hI) (J' : hJ), mCo_prepare_L73 k57 fuel v1 (nI sec) (nI i) (nI j) I J = k57 v1 (nI sec) (nI (i + 1)) I' J' ∧ offPj I I' J J' ∧ kpQ D (fun P => W P ∨ ∃ j', i < j' ∧ j' < sec ∧ lnW R F M i j' P) I' J' := by
  intro r
  induction r with
  | zero =>
    intro j fuel I J hj hf h hk hij
    obtain ⟨fuel, rfl⟩ : ∃ m, fuel = m + 1 := ⟨fuel - 1, by omega⟩
    obtain rfl : j = sec := by omega
    refine ⟨I, J, ?_, ⟨fun _ _ _ => rfl, fun _ _ _ _ => rfl⟩, hk⟩
    unfold mCo_prepare_L73 mCo_prepare_B73
    simp (disch := omega) only [↓reduceIte, h_let, hg_in, hg_zb, hg_z0, hg_z1, hg_nz, Option.bind_some, if_pos, if_neg, bI_0, bI_n0, nI_add, nI_mul, nI_ltI, nI_leI, nI_eq, nI_clamp, nI_subN, nI_divN, nI_mod2, nI_m1e, nI_em1, nI_m2e, nI_lt0, m1_lt0, m1_lt, m1_le, h_u_at, h_u_off2, h_u_pl, li_0, li_1, li_2, li_3, li_4, li_5, li_6, li_7, li_8, li_9, li_10, li_11, li_12, li_13, li_14, li_15, li_16, li_17, li_18, li_19, li_20, li_21, li_22, li_23, li_24, li_25, li_26, li_27, li_28, li_29, li_30, li_31, li_32, li_40, li_43, li_45, li_47, li_48, li_57, li_59, li_60, li_61, li_62, li_63, li_64, li_80, li_92, li_97, li_99, li_100, li_122, li_123, li_125, li_166, li_201, li_210, li_250, li_255, li_256, li_257, li_258, li_259, li_260, li_261, li_262, li_263, li_264, li_265, li_266, li_267, li_268, li_300, li_500, li_1000, li_12345, li_27720, li_1000000, li_1103515245, ne_m1, ne_m2]
  | succ r ih =>
    intro j fuel I J hj hf h hk hij
    obtain ⟨fuel, rfl⟩ : ∃ m, fuel = m + 1 := ⟨fuel - 1, by omega⟩
    obtain ⟨I1, J1, a1, a2, a3⟩ := pj_step hD hb hM hi (show j < M by omega) hFM h hk (mCo_prepare_L73 k57 fuel v1 (nI sec) (nI i) (nI (j + 1)))
    have hk1 : kpQ D (fun P => W P ∨ ∃ j', i < j' ∧ j' < j + 1 ∧ lnW R F M i j' P) I1 J1 := kpQ_congr a3 (fun P hP => by
      constructor
      · rintro ((q | ⟨j', q1, q2, q3⟩) | q)
        · exact Or.inl q
        · exact Or.inr ⟨j', q1, by omega, q3⟩
        · exact Or.inr ⟨j, hij, by omega, q⟩
      · rintro (q | ⟨j', q1, q2, q3⟩)
        · exact Or.inl (Or.inl q)
        · by_cases e : j' = j
          · subst e; exact Or.inr q3
          · exact Or.inl (Or.inr ⟨j', q1, by omega, q3⟩))
    obtain ⟨I', J', b1, b2, b3⟩ := ih (j + 1) fuel I1 J1 (by omega) (by omega) (paI_of h a2) hk1 (by omega)
    refine ⟨I', J', ?_, offPj_tr a2 b2, b3⟩
    rw [← b1, ← a1]
    have e1 : ¬ nI sec ≤ nI j := by rw [nI_leI (by omega) (by omega)]; omega
    have e2 : ¬ (92 : Int32) ≤ nI j := by
      have : (92 : Int32) = nI 92 := rfl
      rw [this, nI_leI (by omega) (by omega)]
      omega
    have e3 : nI j + (1 : Int32) = nI (j + 1) := by rw [li_1, nI_add]
    show mCo_prepare_B73 k57 (mCo_prepare_L73 k57 fuel) v1 (nI sec) (nI i) (nI j) I J = _
    unfold mCo_prepare_B73
    rw [if_neg e1, if_neg e2, e3]
theorem pi_L (hD : rOk D) (hb : bdR R M) (hM : M ≤ 92) {F fir sec : Nat} (hfir : fir ≤ M) (hsec : sec ≤ M) (hFM : F ≤ M) (hfs : fir ≤ sec) : ∀ (r i fuel : Nat) (I : hI) (J : hJ), i + r = fir → r < fuel → paI D R F M I J → kpQ D (fun P => ∃ i' j', i' < i ∧ i' < j' ∧ j' < sec ∧ lnW R F M i' j' P) I J → ∃ (I' : hI) (J' : hJ), mCo_prepare_L57 fuel (nI fir) (nI sec) (nI i) I J = some (I', J') ∧ offPj I I' J J' ∧ kpQ D (fun P => ∃ i' j', i' < fir ∧ i' < j' ∧ j' < sec ∧ lnW R F M i' j' P) I' J' := by
  intro r
  induction r with
  | zero =>
    intro i fuel I J hj hf h hk
    obtain ⟨fuel, rfl⟩ : ∃ m, fuel = m + 1 := ⟨fuel - 1, by omega⟩
    obtain rfl : i = fir := by omega
    refine ⟨I, J, ?_, ⟨fun _ _ _ => rfl, fun _ _ _ _ => rfl⟩, hk⟩
    unfold mCo_prepare_L57 mCo_prepare_B57
    simp (disch := omega) only [↓reduceIte, h_let, hg_in, hg_zb, hg_z0, hg_z1, hg_nz, Option.bind_some, if_pos, if_neg, bI_0, bI_n0, nI_add, nI_mul, nI_ltI, nI_leI, nI_eq, nI_clamp, nI_subN, nI_divN, nI_mod2, nI_m1e, nI_em1, nI_m2e, nI_lt0, m1_lt0, m1_lt, m1_le, h_u_at, h_u_off2, h_u_pl, li_0, li_1, li_2, li_3, li_4, li_5, li_6, li_7, li_8, li_9, li_10, li_11, li_12, li_13, li_14, li_15, li_16, li_17, li_18, li_19, li_20, li_21, li_22, li_23, li_24, li_25, li_26, li_27, li_28, li_29, li_30, li_31, li_32, li_40, li_43, li_45, li_47, li_48, li_57, li_59, li_60, li_61, li_62, li_63, li_64, li_80, li_92, li_97, li_99, li_100, li_122, li_123, li_125, li_166, li_201, li_210, li_250, li_255, li_256, li_257, li_258, li_259, li_260, li_261, li_262, li_263, li_264, li_265, li_266, li_267, li_268, li_300, li_500, li_1000, li_12345, li_27720, li_1000000, li_1103515245, ne_m1, ne_m2]
  | succ r ih =>
    intro i fuel I J hj hf h hk
    obtain ⟨fuel, rfl⟩ : ∃ m, fuel = m + 1 := ⟨fuel - 1, by omega⟩
    obtain ⟨I1, J1, a1, a2, a3⟩ := pj_L hD hb hM (show i < M by omega) hsec hFM (nI fir) (mCo_prepare_L57 fuel) (sec - (i + 1)) (i + 1) hF I J (by omega) (by unfold hF; omega) h (kpQ_congr hk (fun P hP => ⟨Or.inl, fun q => by
      rcases q with q | ⟨j', q1, q2, _⟩
      · exact q
      · omega⟩)) (by omega)
    obtain ⟨I', J', b1, b2, b3⟩ := ih (i + 1) fuel I1 J1 (by omega) (by omega) (paI_of h a2) (kpQ_congr a3 (fun P hP => by
      constructor
      · rintro (⟨i', j', q1, q2, q3, q4⟩ | ⟨j', q1, q2, q3⟩)
        · exact ⟨i', j', by omega, q2, q3, q4⟩
        · exact ⟨i, j', by omega, q1, q2, q3⟩
      · rintro ⟨i', j', q1, q2, q3, q4⟩
        by_cases e : i' = i
        · subst e; exact Or.inr ⟨j', q2, q3, q4⟩
        · exact Or.inl ⟨i', j', by omega, q2, q3, q4⟩))
    refine ⟨I', J', ?_, offPj_tr a2 b2, b3⟩
    rw [← b1, ← a1]
    have e1 : ¬ nI fir ≤ nI i := by rw [nI_leI (by omega) (by omega)]; omega
    have e2 : ¬ (92 : Int32) ≤ nI i := by
      have : (92 : Int32) = nI 92 := rfl
      rw [this, nI_leI (by omega) (by omega)]
      omega
    have e3 : nI i + (1 : Int32) = nI (i + 1) := by rw [li_1, nI_add]
    show mCo_prepare_B57 (mCo_prepare_L57 fuel) (nI fir) (nI sec) (nI i) I J = _
    unfold mCo_prepare_B57
    rw [if_neg e1, if_neg e2, e3, hl_eq]
end Pa
