/-! A choice's four quarters, both sides. -/
theorem xo_of {I : hI} {w s : Nat} (h : I 7 7 = nI (w - 1)) (hw : 1 ≤ w ∧ w ≤ 10) (hs : s < 100) : mRo_xOf (nI s) I = some (nI (s % w)) := by
  have e : w - 1 + 1 = w := by omega
  unfold mRo_xOf
  rw [h]
  simp (disch := omega) only [↓reduceIte, h_let, hg_in, hg_zb, hg_z0, hg_z1, hg_nz, Option.bind_some, if_pos, if_neg, bI_0, bI_n0, nI_add, nI_mul, nI_ltI, nI_leI, nI_eq, nI_clamp, nI_subN, nI_divN, nI_mod2, nI_m1e, nI_em1, nI_m2e, nI_lt0, m1_lt0, m1_lt, m1_le, h_u_at, h_u_off2, h_u_pl, li_0, li_1, li_2, li_3, li_4, li_5, li_6, li_7, li_8, li_9, li_10, li_11, li_12, li_13, li_14, li_15, li_16, li_17, li_18, li_19, li_20, li_21, li_22, li_23, li_24, li_25, li_26, li_27, li_28, li_29, li_30, li_31, li_32, li_40, li_43, li_45, li_47, li_48, li_57, li_59, li_60, li_61, li_62, li_63, li_64, li_80, li_92, li_97, li_99, li_100, li_122, li_123, li_125, li_166, li_201, li_210, li_250, li_255, li_256, li_257, li_258, li_259, li_260, li_261, li_262, li_263, li_264, li_265, li_266, li_267, li_268, li_300, li_500, li_1000, li_12345, li_27720, li_1000000, li_1103515245, ne_m1, ne_m2, e]
theorem yo_of {I : hI} {w s : Nat} (h : I 7 7 = nI (w - 1)) (hw : 1 ≤ w ∧ w ≤ 10) (hs : s < 100) : mRo_yOf (nI s) I = some (nI (s / w)) := by
  have e : w - 1 + 1 = w := by omega
  unfold mRo_yOf
  rw [h]
  simp (disch := omega) only [↓reduceIte, h_let, hg_in, hg_zb, hg_z0, hg_z1, hg_nz, Option.bind_some, if_pos, if_neg, bI_0, bI_n0, nI_add, nI_mul, nI_ltI, nI_leI, nI_eq, nI_clamp, nI_subN, nI_divN, nI_mod2, nI_m1e, nI_em1, nI_m2e, nI_lt0, m1_lt0, m1_lt, m1_le, h_u_at, h_u_off2, h_u_pl, li_0, li_1, li_2, li_3, li_4, li_5, li_6, li_7, li_8, li_9, li_10, li_11, li_12, li_13, li_14, li_15, li_16, li_17, li_18, li_19, li_20, li_21, li_22, li_23, li_24, li_25, li_26, li_27, li_28, li_29, li_30, li_31, li_32, li_40, li_43, li_45, li_47, li_48, li_57, li_59, li_60, li_61, li_62, li_63, li_64, li_80, li_92, li_97, li_99, li_100, li_122, li_123, li_125, li_166, li_201, li_210, li_250, li_255, li_256, li_257, li_258, li_259, li_260, li_261, li_262, li_263, li_264, li_265, li_266, li_267, li_268, li_300, li_500, li_1000, li_12345, li_27720, li_1000000, li_1103515245, ne_m1, ne_m2, e]
theorem so_of {I : hI} {w x y : Nat} (h : I 7 7 = nI (w - 1)) (hw : 1 ≤ w ∧ w ≤ 10) : mRo_stateOf (nI x) (nI y) I = nI (x + y * w) := by
  have e : w - 1 + 1 = w := by omega
  unfold mRo_stateOf
  rw [h, li_1, nI_add, e, nI_mul, nI_add]
/-- what a slot holds, both sides -/
def slQ (N slot pk pd en : Nat) (f : Nat → Nat) (Ic Im : hI) : Prop := (Ic 9 slot = nI pk ∧ Im 26 slot = nI pk) ∧ (Ic 10 slot = nI pd ∧ Im 27 slot = nI pd) ∧ (Ic 11 slot = nI en ∧ Im 28 slot = nI en) ∧ ∀ t, t < N → Ic 12 (10 * slot + t) = nI (f t) ∧ Im 29 (10 * slot + t) = nI (f t)
def offFc (slot : Nat) (Ic Ic' : hI) : Prop := ∀ a i, a ≠ 6 → (a < 9 ∨ 12 < a ∨ (a < 12 ∧ i ≠ slot) ∨ (a = 12 ∧ (i < 10 * slot ∨ 10 * slot + 10 ≤ i))) → Ic' a i = Ic a i
def offFm (slot : Nat) (Im Im' : hI) : Prop := ∀ a i, (a ≠ 0 ∨ i < 53 ∨ 61 < i) → (a < 26 ∨ 29 < a ∨ (a < 29 ∧ i ≠ slot) ∨ (a = 29 ∧ (i < 10 * slot ∨ 10 * slot + 10 ≤ i))) → Im' a i = Im a i
theorem offFc_tr {slot : Nat} {I I' I'' : hI} (h1 : offFc slot I I') (h2 : offFc slot I' I'') : offFc slot I I'' := fun a i q1 q2 => by rw [h2 a i q1 q2, h1 a i q1 q2]
theorem offFm_tr {slot : Nat} {I I' I'' : hI} (h1 : offFm slot I I') (h2 : offFm slot I' I'') : offFm slot I I'' := fun a i q1 q2 => by rw [h2 a i q1 q2, h1 a i q1 q2]
theorem enQ_set {t w h sz n : Nat} {v v' : Int32} {Q : rD} {P E : cE} {pr : Nat → Int} {Ic Ic' Im Im' : hI} (H : enQ t w h sz n v Q P E pr Ic Im) (o1 : ∀ c i, t ≤ c → Ic' c i = Ic c i) (o2 : ∀ c i, 2 ≤ c → c ≤ 15 → Im' c i = Im c i) (o3 : Im' 0 39 = Im 0 39 ∧ Im' 0 40 = Im 0 40) (o4 : Im' 0 58 = v') : enQ t w h sz n v' Q P E pr Ic' Im' := by
  obtain ⟨a1, a2, a3, a4, a5, a6, a7, a8, a9, a10, a11, a12, a13⟩ := H
  exact ⟨a1, a2, a3, a4, a5, pcQ_of a6 (fun c i q => o1 c i q), pmS_of a7 (fun c i q1 q2 => o2 c i q1 q2), by rw [o1 _ _ (Nat.le_refl _)]; exact a8, by rw [o1 _ _ (Nat.le_refl _)]; exact a9, by rw [o1 _ _ (Nat.le_refl _)]; exact a10, by rw [o3.1]; exact a11, by rw [o3.2]; exact a12, o4⟩
def upF (f : Nat → Nat) (k : Nat) : Nat → Nat := fun t => if t = k then f t + 1 else f t
theorem upF_sum {N k : Nat} (f : Nat → Nat) (hk : k < N) : sumU N (upF f k) = sumU N f + 1 := by
  induction N with
  | zero => omega
  | succ N ih =>
    rw [sumU_succ, sumU_succ]
    by_cases e : k = N
    · have e1 : sumU N (upF f k) = sumU N f := sumU_congr (fun i hi => by unfold upF; rw [if_neg (by omega)])
      have e2 : upF f k N = f N + 1 := by unfold upF; rw [if_pos e.symm]
      omega
    · have e2 : upF f k N = f N := by unfold upF; rw [if_neg (by omega)]
      have := ih (by omega)
      omega
section Qt
variable {t w h sz n : Nat} {Q : rD} {P E : cE} {pr : Nat → Int}
/-- one quarter: both sides go one round and count it -/
theorem quarter_one {f0 : Nat} (hb : bodyOk Q f0 6 0 n 0 sz) (ht : 61 ≤ t) {Ic Im : hI} {v0 : Int32} (H : enQ t w h sz n v0 Q P E pr Ic Im) (h77 : Ic 7 7 = nI (w - 1)) (h46 : Im 0 46 = ptI 24 (ptN 0 n)) (h61 : Im 0 61 = nI 0) {s slot q by1 pk pd en : Nat} {f : Nat → Nat} (hs : s < w * h) (hN : w * h ≤ 10) (hsl : slot < 80) (hq : q < 4) (h57 : Im 0 57 = nI q) (hS : slQ (w * h) slot pk pd en f Ic Im) (hpd : pd ≤ 480 * q) (hen : en ≤ 4) (hf : ∀ t, t < w * h → f t ≤ 4) (K : Nat → Int32 → Int32 → Int32 → Int32 → hI → Option hI) (K2 : Int32 → Int32 → Int32 → hI → Option hI) : ∃ (Ic' Im' : hI) (pd' en' : Nat) (f' : Nat → Nat), mRo_fill_B70 K t (nI slot) (nI by1) (nI s) (nI q) Ic = K t (nI slot) (nI by1) (nI s) (nI (q + 1)) Ic' ∧ mM_laysChoice_B74 K2 (nI s) (nI by1) (nI slot) Im = K2 (nI s) (nI by1) (nI slot) Im' ∧ slQ (w * h) slot pk pd' en' f' Ic' Im' ∧ pd' ≤ 480 * (q + 1) ∧ en' + sumU (w * h) f' = en + sumU (w * h) f + 1 ∧ Im' 0 57 = nI (q + 1) ∧ Im' 0 61 = nI 0 ∧ offFc slot Ic Ic' ∧ offFm slot Im Im' := by
  have hw := H.2.2.1
  have hh := H.2.2.2.1
  have h39 := H.2.2.2.2.2.2.2.2.2.2.1
  obtain ⟨⟨s1, s1'⟩, ⟨s2, s2'⟩, ⟨s3, s3'⟩, s4⟩ := hS
  have ex := xo_of h77 hw (show s < 100 by omega)
  have ey := yo_of h77 hw (show s < 100 by omega)
  obtain ⟨Ic1, hIc1⟩ : ∃ I, I = mWk_startQuarter (nI (s % w)) (nI (s / w)) (nI q) Ic := ⟨_, rfl⟩
  obtain ⟨Im1, hIm1⟩ : ∃ I, I = h_u (h_u (h_u (h_u (h_u (h_u Im 0 56 (nI 0)) 0 53 (nI (s % w))) 0 54 (nI (s / w))) 0 58 (nI by1)) 0 55 (nI 0)) 0 60 (nI 0) := ⟨_, rfl⟩
  have oc1 : ∀ a i, a ≠ 6 → Ic1 a i = Ic a i := fun a i hh => by
    rw [hIc1]
    unfold mWk_startQuarter mWk_start
    simp (disch := omega) only [h_let, h_u_off2]
  have om1 : ∀ a i, (a ≠ 0 ∨ i < 53 ∨ 61 < i ∨ i = 57 ∨ i = 61) → Im1 a i = Im a i := fun a i hh => by
    rw [hIm1]
    by_cases e : a = 0
    · subst e
      simp (disch := omega) only [h_u_pl]
    · simp (disch := omega) only [h_u_off2]
  have W : wkQ w h 0 (s % w) (s / w) 0 false Ic1 Im1 := by
    have h1 : s % w < w := Nat.mod_lt _ (by omega)
    have h2 : s / w < h := Nat.div_lt_of_lt_mul hs
    have z : (0 : Int32) + nI 0 = nI 0 := by decide
    have z2 : nI 0 + nI 0 = nI 0 := by decide
    rw [hIc1, hIm1]
    unfold mWk_startQuarter mWk_start
    simp only [h_let]
    refine ⟨h1, h2, ⟨?_, ?_⟩, ⟨?_, ?_⟩, ⟨?_, ?_⟩, ?_, ⟨?_, ?_⟩, ?_, Or.inl ⟨?_, ?_⟩⟩ <;> simp (disch := omega) only [h_u_at, h_u_pl, z, z2, bI_f, li_0, h61, h57]
  have H1 : enQ t w h sz n (nI by1) Q P E pr Ic1 Im1 := enQ_set H (fun c i q => oc1 c i (by omega)) (fun c i q1 q2 => om1 c i (by omega)) ⟨om1 0 39 (by decide), om1 0 40 (by decide)⟩ (by rw [hIm1]; simp (disch := omega) only [h_u_at, h_u_pl])
  obtain ⟨Ic2, Im2, x', y', p', o, r1, r2, r3, r4, r5⟩ := wk_round hb H1 W
  obtain ⟨z1, z2, ⟨z3, z3'⟩, ⟨z4, z4'⟩, ⟨z5, z5'⟩, z6, ⟨z7, z7'⟩, z8, z9⟩ := r3
  have zz : (0 : Int32) + nI p' = nI p' := Int32.zero_add _
  rw [zz] at z5
  have oc2 : ∀ a i, a ≠ 6 → Ic2 a i = Ic a i := fun a i hh => by rw [r5.1 a i hh, oc1 a i hh]
  have om2 : ∀ a i, (a ≠ 0 ∨ i < 53 ∨ 61 < i ∨ i = 57 ∨ i = 61) → Im2 a i = Im a i := fun a i hh => by rw [r5.2 a i (by omega), om1 a i hh]
  have h46' : Im1 0 46 = ptI 24 (ptN 0 n) := by rw [om1 0 46 (by decide)]; exact h46
  have hto : x' + y' * w < w * h := by
    have : (y' + 1) * w ≤ h * w := Nat.mul_le_mul_right _ (by omega)
    rw [Nat.add_mul, Nat.mul_comm h w] at this
    omega
  have hround : mM_round (nI s) (nI by1) (h_u Im 0 56 (nI 0)) = some Im2 := by
    have e39 : h_u Im 0 56 (nI 0) 0 39 = nI w := by rw [h_u_pl _ _ _ (by decide)]; exact h39
    have e39' : ∀ X, h_u (h_u Im 0 56 (nI 0)) 0 53 X 0 39 = nI w := fun X => by rw [h_u_pl _ _ _ (by decide)]; exact e39
    unfold mM_round
    rw [e39]
    simp (disch := omega) only [hl_eq, hg_nz, e39', nI_divN, nI_mul, nI_mod2, li_0]
    rw [← hIm1, h46', r2]
    rfl
  have d1 : Ic2 10 slot = nI pd := by rw [oc2 _ _ (by decide)]; exact s2
  have d1' : Im2 27 slot = nI pd := by rw [om2 _ _ (Or.inl (by decide))]; exact s2'
  have d2 : Ic2 11 slot = nI en := by rw [oc2 _ _ (by decide)]; exact s3
  have d2' : Im2 28 slot = nI en := by rw [om2 _ _ (Or.inl (by decide))]; exact s3'
  have d3 : Ic2 12 (10 * slot + (x' + y' * w)) = nI (f (x' + y' * w)) := by rw [oc2 _ _ (by decide)]; exact (s4 _ hto).1
  have d3' : Im2 29 (10 * slot + (x' + y' * w)) = nI (f (x' + y' * w)) := by rw [om2 _ _ (Or.inl (by decide))]; exact (s4 _ hto).2
  have c77 : Ic2 7 7 = nI (w - 1) := by rw [oc2 _ _ (by decide)]; exact h77
  have m39 : Im2 0 39 = nI w := by rw [om2 _ _ (by decide)]; exact h39
  have m57 : Im2 0 57 = nI q := by rw [om2 _ _ (by decide)]; exact h57
  have m61 : Im2 0 61 = nI 0 := by rw [om2 _ _ (by decide)]; exact h61
  have so : ∀ X, mRo_stateOf (nI x') (nI y') (h_u Ic2 10 slot X) = nI (x' + y' * w) := fun X => so_of (by rw [h_u_off2 _ _ _ _ (by decide)]; exact c77) hw
  have oo : mC_isOutside (nI (x' + y' * w)) (nI 10) = nI 0 := by
    unfold mC_isOutside
    simp (disch := omega) only [↓reduceIte, h_let, hg_in, hg_zb, hg_z0, hg_z1, hg_nz, Option.bind_some, if_pos, if_neg, bI_0, bI_n0, nI_add, nI_mul, nI_ltI, nI_leI, nI_eq, nI_clamp, nI_subN, nI_divN, nI_mod2, nI_m1e, nI_em1, nI_m2e, nI_lt0, m1_lt0, m1_lt, m1_le, h_u_at, h_u_off2, h_u_pl, li_0, li_1, li_2, li_3, li_4, li_5, li_6, li_7, li_8, li_9, li_10, li_11, li_12, li_13, li_14, li_15, li_16, li_17, li_18, li_19, li_20, li_21, li_22, li_23, li_24, li_25, li_26, li_27, li_28, li_29, li_30, li_31, li_32, li_40, li_43, li_45, li_47, li_48, li_57, li_59, li_60, li_61, li_62, li_63, li_64, li_80, li_92, li_97, li_99, li_100, li_122, li_123, li_125, li_166, li_201, li_210, li_250, li_255, li_256, li_257, li_258, li_259, li_260, li_261, li_262, li_263, li_264, li_265, li_266, li_267, li_268, li_300, li_500, li_1000, li_12345, li_27720, li_1000000, li_1103515245, ne_m1, ne_m2]
  have ei : slot * 10 + (x' + y' * w) = 10 * slot + (x' + y' * w) := by omega
  have ei' : 10 * slot + y' * w + x' = 10 * slot + (x' + y' * w) := by omega
  have eq1 : mWk_startQuarter (nI (s % w)) (nI (s / w)) (nI q) Ic = Ic1 := hIc1.symm
  generalize x' + y' * w = to at *
  cases o
  · rw [bI_f] at z7 z7'
    refine ⟨h_u (h_u Ic2 10 slot (nI (pd + p'))) 12 (10 * slot + to) (nI (f to + 1)), h_u (h_u (h_u Im2 27 slot (nI (pd + p'))) 29 (10 * slot + to) (nI (f to + 1))) 0 57 (nI (q + 1)), pd + p', en, upF f to, ?_, ?_, ⟨⟨?_, ?_⟩, ⟨?_, ?_⟩, ⟨?_, ?_⟩, fun u hu => ?_⟩, by omega, ?_, ?_, ?_, fun a i q1 q2 => ?_, fun a i q1 q2 => ?_⟩
    · unfold mRo_fill_B70
      simp (disch := omega) only [↓reduceIte, h_let, hg_in, hg_zb, hg_z0, hg_z1, hg_nz, Option.bind_some, if_pos, if_neg, bI_0, bI_n0, nI_add, nI_mul, nI_ltI, nI_leI, nI_eq, nI_clamp, nI_subN, nI_divN, nI_mod2, nI_m1e, nI_em1, nI_m2e, nI_lt0, m1_lt0, m1_lt, m1_le, h_u_at, h_u_off2, h_u_pl, li_0, li_1, li_2, li_3, li_4, li_5, li_6, li_7, li_8, li_9, li_10, li_11, li_12, li_13, li_14, li_15, li_16, li_17, li_18, li_19, li_20, li_21, li_22, li_23, li_24, li_25, li_26, li_27, li_28, li_29, li_30, li_31, li_32, li_40, li_43, li_45, li_47, li_48, li_57, li_59, li_60, li_61, li_62, li_63, li_64, li_80, li_92, li_97, li_99, li_100, li_122, li_123, li_125, li_166, li_201, li_210, li_250, li_255, li_256, li_257, li_258, li_259, li_260, li_261, li_262, li_263, li_264, li_265, li_266, li_267, li_268, li_300, li_500, li_1000, li_12345, li_27720, li_1000000, li_1103515245, ne_m1, ne_m2, ex, ey, eq1, r1, d1, z5, z3, z4, so, z7, oo, ei, d3]
    · unfold mM_laysChoice_B74 mM_laysChoice_154
      simp (disch := omega) only [↓reduceIte, h_let, hg_in, hg_zb, hg_z0, hg_z1, hg_nz, Option.bind_some, if_pos, if_neg, bI_0, bI_n0, nI_add, nI_mul, nI_ltI, nI_leI, nI_eq, nI_clamp, nI_subN, nI_divN, nI_mod2, nI_m1e, nI_em1, nI_m2e, nI_lt0, m1_lt0, m1_lt, m1_le, h_u_at, h_u_off2, h_u_pl, li_0, li_1, li_2, li_3, li_4, li_5, li_6, li_7, li_8, li_9, li_10, li_11, li_12, li_13, li_14, li_15, li_16, li_17, li_18, li_19, li_20, li_21, li_22, li_23, li_24, li_25, li_26, li_27, li_28, li_29, li_30, li_31, li_32, li_40, li_43, li_45, li_47, li_48, li_57, li_59, li_60, li_61, li_62, li_63, li_64, li_80, li_92, li_97, li_99, li_100, li_122, li_123, li_125, li_166, li_201, li_210, li_250, li_255, li_256, li_257, li_258, li_259, li_260, li_261, li_262, li_263, li_264, li_265, li_266, li_267, li_268, li_300, li_500, li_1000, li_12345, li_27720, li_1000000, li_1103515245, ne_m1, ne_m2, h57, hround, d1', z5', z7', z3', z4', m39, ei', d3', m57]
    · rw [h_u_off2 _ _ _ _ (by decide), h_u_off2 _ _ _ _ (by decide), oc2 _ _ (by decide)]; exact s1
    · rw [h_u_off2 _ _ _ _ (by decide), h_u_off2 _ _ _ _ (by decide), h_u_off2 _ _ _ _ (by decide), om2 _ _ (Or.inl (by decide))]; exact s1'
    · rw [h_u_off2 _ _ _ _ (by decide), h_u_at]
    · rw [h_u_off2 _ _ _ _ (by decide), h_u_off2 _ _ _ _ (by decide), h_u_at]
    · rw [h_u_off2 _ _ _ _ (by decide), h_u_off2 _ _ _ _ (by decide)]; exact d2
    · rw [h_u_off2 _ _ _ _ (by decide), h_u_off2 _ _ _ _ (by decide), h_u_off2 _ _ _ _ (by decide)]; exact d2'
    · by_cases e : u = to
      · subst e
        have : upF f u u = f u + 1 := by unfold upF; rw [if_pos rfl]
        rw [this, h_u_at, h_u_off2 _ _ _ _ (by decide), h_u_at]
        exact ⟨rfl, rfl⟩
      · have : upF f to u = f u := by unfold upF; rw [if_neg e]
        rw [this, h_u_pl _ _ _ (by omega), h_u_off2 _ _ _ _ (by decide), oc2 _ _ (by decide), h_u_off2 _ _ _ _ (by decide), h_u_pl _ _ _ (by omega), h_u_off2 _ _ _ _ (by decide), om2 _ _ (Or.inl (by decide))]
        exact s4 u hu
    · rw [upF_sum f hto]; omega
    · rw [h_u_at]
    · rw [h_u_pl _ _ _ (by decide), h_u_off2 _ _ _ _ (by decide), h_u_off2 _ _ _ _ (by decide)]; exact m61
    · by_cases e : a = 12
      · subst e
        rw [h_u_pl _ _ _ (by omega), h_u_off2 _ _ _ _ (by decide), oc2 _ _ q1]
      · rw [h_u_off2 _ _ _ _ e]
        by_cases e2 : a = 10
        · subst e2; rw [h_u_pl _ _ _ (by omega), oc2 _ _ q1]
        · rw [h_u_off2 _ _ _ _ e2, oc2 _ _ q1]
    · by_cases e0 : a = 0
      · subst e0
        rw [h_u_pl _ _ _ (by omega), h_u_off2 _ _ _ _ (by decide), h_u_off2 _ _ _ _ (by decide), om2 _ _ (by omega)]
      · rw [h_u_off2 _ _ _ _ e0]
        by_cases e : a = 29
        · subst e
          rw [h_u_pl _ _ _ (by omega), h_u_off2 _ _ _ _ (by decide), om2 _ _ (by omega)]
        · rw [h_u_off2 _ _ _ _ e]
          by_cases e2 : a = 27
          · subst e2; rw [h_u_pl _ _ _ (by omega), om2 _ _ (by omega)]
          · rw [h_u_off2 _ _ _ _ e2, om2 _ _ (by omega)]
  · rw [bI_t] at z7 z7'
    refine ⟨h_u (h_u Ic2 10 slot (nI (pd + p'))) 11 slot (nI (en + 1)), h_u (h_u (h_u Im2 27 slot (nI (pd + p'))) 28 slot (nI (en + 1))) 0 57 (nI (q + 1)), pd + p', en + 1, f, ?_, ?_, ⟨⟨?_, ?_⟩, ⟨?_, ?_⟩, ⟨?_, ?_⟩, fun u hu => ?_⟩, by omega, by omega, ?_, ?_, fun a i q1 q2 => ?_, fun a i q1 q2 => ?_⟩
    · unfold mRo_fill_B70
      simp (disch := omega) only [↓reduceIte, h_let, hg_in, hg_zb, hg_z0, hg_z1, hg_nz, Option.bind_some, if_pos, if_neg, bI_0, bI_n0, nI_add, nI_mul, nI_ltI, nI_leI, nI_eq, nI_clamp, nI_subN, nI_divN, nI_mod2, nI_m1e, nI_em1, nI_m2e, nI_lt0, m1_lt0, m1_lt, m1_le, h_u_at, h_u_off2, h_u_pl, li_0, li_1, li_2, li_3, li_4, li_5, li_6, li_7, li_8, li_9, li_10, li_11, li_12, li_13, li_14, li_15, li_16, li_17, li_18, li_19, li_20, li_21, li_22, li_23, li_24, li_25, li_26, li_27, li_28, li_29, li_30, li_31, li_32, li_40, li_43, li_45, li_47, li_48, li_57, li_59, li_60, li_61, li_62, li_63, li_64, li_80, li_92, li_97, li_99, li_100, li_122, li_123, li_125, li_166, li_201, li_210, li_250, li_255, li_256, li_257, li_258, li_259, li_260, li_261, li_262, li_263, li_264, li_265, li_266, li_267, li_268, li_300, li_500, li_1000, li_12345, li_27720, li_1000000, li_1103515245, ne_m1, ne_m2, ex, ey, eq1, r1, d1, z5, z3, z4, so, z7, d2]
    · unfold mM_laysChoice_B74 mM_laysChoice_154
      simp (disch := omega) only [↓reduceIte, h_let, hg_in, hg_zb, hg_z0, hg_z1, hg_nz, Option.bind_some, if_pos, if_neg, bI_0, bI_n0, nI_add, nI_mul, nI_ltI, nI_leI, nI_eq, nI_clamp, nI_subN, nI_divN, nI_mod2, nI_m1e, nI_em1, nI_m2e, nI_lt0, m1_lt0, m1_lt, m1_le, h_u_at, h_u_off2, h_u_pl, li_0, li_1, li_2, li_3, li_4, li_5, li_6, li_7, li_8, li_9, li_10, li_11, li_12, li_13, li_14, li_15, li_16, li_17, li_18, li_19, li_20, li_21, li_22, li_23, li_24, li_25, li_26, li_27, li_28, li_29, li_30, li_31, li_32, li_40, li_43, li_45, li_47, li_48, li_57, li_59, li_60, li_61, li_62, li_63, li_64, li_80, li_92, li_97, li_99, li_100, li_122, li_123, li_125, li_166, li_201, li_210, li_250, li_255, li_256, li_257, li_258, li_259, li_260, li_261, li_262, li_263, li_264, li_265, li_266, li_267, li_268, li_300, li_500, li_1000, li_12345, li_27720, li_1000000, li_1103515245, ne_m1, ne_m2, h57, hround, d1', z5', z7', d2', m57]
    · rw [h_u_off2 _ _ _ _ (by decide), h_u_off2 _ _ _ _ (by decide), oc2 _ _ (by decide)]; exact s1
    · rw [h_u_off2 _ _ _ _ (by decide), h_u_off2 _ _ _ _ (by decide), h_u_off2 _ _ _ _ (by decide), om2 _ _ (Or.inl (by decide))]; exact s1'
    · rw [h_u_off2 _ _ _ _ (by decide), h_u_at]
    · rw [h_u_off2 _ _ _ _ (by decide), h_u_off2 _ _ _ _ (by decide), h_u_at]
    · rw [h_u_at]
    · rw [h_u_off2 _ _ _ _ (by decide), h_u_at]
    · rw [h_u_off2 _ _ _ _ (by decide), h_u_off2 _ _ _ _ (by decide), oc2 _ _ (by decide), h_u_off2 _ _ _ _ (by decide), h_u_off2 _ _ _ _ (by decide), h_u_off2 _ _ _ _ (by decide), om2 _ _ (Or.inl (by decide))]
      exact s4 u hu
    · rw [h_u_at]
    · rw [h_u_pl _ _ _ (by decide), h_u_off2 _ _ _ _ (by decide), h_u_off2 _ _ _ _ (by decide)]; exact m61
    · by_cases e : a = 11
      · subst e
        rw [h_u_pl _ _ _ (by omega), h_u_off2 _ _ _ _ (by decide), oc2 _ _ q1]
      · rw [h_u_off2 _ _ _ _ e]
        by_cases e2 : a = 10
        · subst e2; rw [h_u_pl _ _ _ (by omega), oc2 _ _ q1]
        · rw [h_u_off2 _ _ _ _ e2, oc2 _ _ q1]
    · by_cases e0 : a = 0
      · subst e0
        rw [h_u_pl _ _ _ (by omega), h_u_off2 _ _ _ _ (by decide), h_u_off2 _ _ _ _ (by decide), om2 _ _ (by omega)]
      · rw [h_u_off2 _ _ _ _ e0]
        by_cases e : a = 28
        · subst e
          rw [h_u_pl _ _ _ (by omega), h_u_off2 _ _ _ _ (by decide), om2 _ _ (by omega)]
        · rw [h_u_off2 _ _ _ _ e]
          by_cases e2 : a = 27
          · subst e2; rw [h_u_pl _ _ _ (by omega), om2 _ _ (by omega)]
          · rw [h_u_off2 _ _ _ _ e2, om2 _ _ (by omega)]
end Qt
