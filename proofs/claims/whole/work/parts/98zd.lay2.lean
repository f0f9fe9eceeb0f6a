/-! A choice laid, both sides: the whole of it. -/
theorem zc_L {t slot : Nat} (hs : slot < 80) (v4 v5 : Int32) : ∀ (r k fuel : Nat) (I : hI), k + r = 10 → r < fuel → ∃ I' : hI, mRo_fill_L41 fuel t (nI slot) v4 v5 (nI k) I = mRo_fill_L70 hF t (nI slot) v4 v5 (nI 0) I' ∧ (∀ a i, (a ≠ 12 ∨ i < 10 * slot + k ∨ 10 * slot + 10 ≤ i) → I' a i = I a i) ∧ ∀ u, k ≤ u → u < 10 → I' 12 (10 * slot + u) = nI 0 := by
  intro r
  induction r with
  | zero =>
    intro k fuel I hk hf
    obtain ⟨fuel, rfl⟩ : ∃ m, fuel = m + 1 := ⟨fuel - 1, by omega⟩
    obtain rfl : k = 10 := by omega
    refine ⟨I, ?_, fun _ _ _ => rfl, fun u h1 h2 => by omega⟩
    show mRo_fill_B41 (mRo_fill_L41 fuel) _ _ _ _ _ _ = _
    unfold mRo_fill_B41
    rw [li_10, if_pos ((nI_leI (by omega) (by omega)).mpr (Nat.le_refl _)), li_0]
  | succ r ih =>
    intro k fuel I hk hf
    obtain ⟨fuel, rfl⟩ : ∃ m, fuel = m + 1 := ⟨fuel - 1, by omega⟩
    have e : slot * 10 + k = 10 * slot + k := by omega
    obtain ⟨I', a1, a2, a3⟩ := ih (k + 1) fuel (h_u I 12 (10 * slot + k) (nI 0)) (by omega) (by omega)
    refine ⟨I', ?_, fun a i hh => ?_, fun u h1 h2 => ?_⟩
    · show mRo_fill_B41 (mRo_fill_L41 fuel) _ _ _ _ _ _ = _
      unfold mRo_fill_B41
      rw [li_10, if_neg (fun q => by have := (nI_leI (by omega) (by omega)).mp q; omega), nI_mul, nI_add, e, hg_in _ (by omega) (by omega), hl_eq, nI_clamp (by omega), li_1, nI_add, li_0]
      exact a1
    · rw [a2 a i (by omega)]
      by_cases e : a = 12
      · subst e; exact h_u_pl _ _ _ (by omega)
      · exact h_u_off2 _ _ _ _ e
    · by_cases e : u = k
      · subst e; rw [a2 _ _ (by omega), h_u_at]
      · exact a3 u (by omega) h2
theorem zm_L {N slot : Nat} (hN : N ≤ 10) (hs : slot < 80) (v1 v2 : Int32) : ∀ (r k fuel : Nat) (I : hI), k + r = N → r < fuel → I 0 41 = nI N → ∃ I' : hI, mM_laysChoice_L36 fuel v1 v2 (nI slot) (nI k) I = mM_laysChoice_L74 hF v1 v2 (nI slot) (h_u (h_u I' 0 61 (nI 0)) 0 57 (nI 0)) ∧ (∀ a i, (a ≠ 29 ∨ i < 10 * slot + k ∨ 10 * slot + 10 ≤ i) → I' a i = I a i) ∧ ∀ u, k ≤ u → u < N → I' 29 (10 * slot + u) = nI 0 := by
  intro r
  induction r with
  | zero =>
    intro k fuel I hk hf h41
    obtain ⟨fuel, rfl⟩ : ∃ m, fuel = m + 1 := ⟨fuel - 1, by omega⟩
    obtain rfl : k = N := by omega
    refine ⟨I, ?_, fun _ _ _ => rfl, fun u h1 h2 => by omega⟩
    show mM_laysChoice_B36 (mM_laysChoice_L36 fuel) _ _ _ _ _ = _
    unfold mM_laysChoice_B36
    rw [h41, if_pos ((nI_leI (by omega) (by omega)).mpr (Nat.le_refl _)), li_0, hl_eq, hl_eq]
  | succ r ih =>
    intro k fuel I hk hf h41
    obtain ⟨fuel, rfl⟩ : ∃ m, fuel = m + 1 := ⟨fuel - 1, by omega⟩
    obtain ⟨I', a1, a2, a3⟩ := ih (k + 1) fuel (h_u I 29 (10 * slot + k) (nI 0)) (by omega) (by omega) (by rw [h_u_off2 _ _ _ _ (by decide)]; exact h41)
    refine ⟨I', ?_, fun a i hh => ?_, fun u h1 h2 => ?_⟩
    · show mM_laysChoice_B36 (mM_laysChoice_L36 fuel) _ _ _ _ _ = _
      unfold mM_laysChoice_B36
      rw [h41, if_neg (fun q => by have := (nI_leI (by omega) (by omega)).mp q; omega), li_10, nI_mul, nI_add, hg_in _ (by omega) (by omega), hl_eq, nI_clamp (by omega), li_1, nI_add, li_0]
      exact a1
    · rw [a2 a i (by omega)]
      by_cases e : a = 29
      · subst e; exact h_u_pl _ _ _ (by omega)
      · exact h_u_off2 _ _ _ _ e
    · by_cases e : u = k
      · subst e; rw [a2 _ _ (by omega), h_u_at]
      · exact a3 u (by omega) h2
section Ly
variable {t w h sz n : Nat} {Q : rD} {P E : cE} {pr : Nat → Int}
theorem four_q {f0 : Nat} (hb : bodyOk Q f0 6 0 n 0 sz) (ht : 61 ≤ t) {s slot by1 pk : Nat} (hs : s < w * h) (hN : w * h ≤ 10) (hsl : slot < 80) : ∀ (r q fuel fuel2 : Nat) (Ic Im : hI) (v0 : Int32) (pd en : Nat) (f : Nat → Nat), q + r = 4 → r < fuel → r < fuel2 → enQ t w h sz n v0 Q P E pr Ic Im → Ic 7 7 = nI (w - 1) → Im 0 46 = ptI 24 (ptN 0 n) → Im 0 61 = nI 0 → Im 0 57 = nI q → slQ (w * h) slot pk pd en f Ic Im → pd ≤ 480 * q → en + sumU (w * h) f = q → ∃ (Ic' Im' : hI) (pd' en' : Nat) (f' : Nat → Nat), mRo_fill_L70 fuel t (nI slot) (nI by1) (nI s) (nI q) Ic = some Ic' ∧ mM_laysChoice_L74 fuel2 (nI s) (nI by1) (nI slot) Im = mM_laysChoice_L173 hF (nI s) (nI slot) (nI 1) (nI 0) Im' ∧ slQ (w * h) slot pk pd' en' f' Ic' Im' ∧ pd' ≤ 1920 ∧ en' + sumU (w * h) f' = 4 ∧ offFc slot Ic Ic' ∧ offFm slot Im Im' := by
  intro r
  induction r with
  | zero =>
    intro q fuel fuel2 Ic Im v0 pd en f hq hf hf2 H h77 h46 h61 h57 hS hpd hsum
    obtain ⟨fuel, rfl⟩ : ∃ m, fuel = m + 1 := ⟨fuel - 1, by omega⟩
    obtain ⟨fuel2, rfl⟩ : ∃ m, fuel2 = m + 1 := ⟨fuel2 - 1, by omega⟩
    obtain rfl : q = 4 := by omega
    refine ⟨Ic, Im, pd, en, f, ?_, ?_, hS, by omega, hsum, fun _ _ _ _ => rfl, fun _ _ _ _ => rfl⟩
    · show mRo_fill_B70 (mRo_fill_L70 fuel) _ _ _ _ _ _ = _
      unfold mRo_fill_B70
      rw [li_4, if_pos ((nI_leI (by omega) (by omega)).mpr (Nat.le_refl _))]
    · show mM_laysChoice_B74 (mM_laysChoice_L74 fuel2) _ _ _ _ = _
      unfold mM_laysChoice_B74
      rw [h57, li_4, if_pos ((nI_leI (by omega) (by omega)).mpr (Nat.le_refl _)), li_0, li_1]
  | succ r ih =>
    intro q fuel fuel2 Ic Im v0 pd en f hq hf hf2 H h77 h46 h61 h57 hS hpd hsum
    obtain ⟨fuel, rfl⟩ : ∃ m, fuel = m + 1 := ⟨fuel - 1, by omega⟩
    obtain ⟨fuel2, rfl⟩ : ∃ m, fuel2 = m + 1 := ⟨fuel2 - 1, by omega⟩
    obtain ⟨Ic1, Im1, pd1, en1, f1, a1, a2, a3, a4, a5, a6, a7, a8, a9⟩ := quarter_one (by1 := by1) hb ht H h77 h46 h61 hs hN hsl (show q < 4 by omega) h57 hS hpd (by omega) (fun u hu => by have := sumU_ge (f := f) hu; omega) (mRo_fill_L70 fuel) (mM_laysChoice_L74 fuel2)
    have H1 : enQ t w h sz n (Im1 0 58) Q P E pr Ic1 Im1 := enQ_set H (fun c i q => a8 c i (by omega) (by omega)) (fun c i q1 q2 => a9 c i (by omega) (by omega)) ⟨a9 0 39 (by omega) (by omega), a9 0 40 (by omega) (by omega)⟩ rfl
    obtain ⟨Ic', Im', pd', en', f', b1, b2, b3, b4, b5, b6, b7⟩ := ih (q + 1) fuel fuel2 Ic1 Im1 (Im1 0 58) pd1 en1 f1 (by omega) (by omega) (by omega) H1 (by rw [a8 7 7 (by omega) (by omega)]; exact h77) (by rw [a9 0 46 (by omega) (by omega)]; exact h46) a7 a6 a3 a4 (by omega)
    refine ⟨Ic', Im', pd', en', f', ?_, ?_, b3, b4, b5, offFc_tr a8 b6, offFm_tr a9 b7⟩
    · rw [← b1, ← a1]; rfl
    · rw [← b2, ← a2]; rfl
/-- what lies outside of a slot, and of the counts -/
def offLm (s slot : Nat) (Im Im' : hI) : Prop := ∀ a i, (a ≠ 25 ∨ i ≠ s) → (a ≠ 0 ∨ i < 53 ∨ 61 < i) → (a < 26 ∨ 29 < a ∨ (a < 29 ∧ i ≠ slot) ∨ (a = 29 ∧ (i < 10 * slot ∨ 10 * slot + 10 ≤ i))) → Im' a i = Im a i
theorem slQ_of {N slot pk pd en : Nat} {f : Nat → Nat} {Ic Im Ic' Im' : hI} (h : slQ N slot pk pd en f Ic Im) (h1 : Ic' 9 slot = Ic 9 slot ∧ Ic' 10 slot = Ic 10 slot ∧ Ic' 11 slot = Ic 11 slot ∧ ∀ u, u < N → Ic' 12 (10 * slot + u) = Ic 12 (10 * slot + u)) (h2 : Im' 26 slot = Im 26 slot ∧ Im' 27 slot = Im 27 slot ∧ Im' 28 slot = Im 28 slot ∧ ∀ u, u < N → Im' 29 (10 * slot + u) = Im 29 (10 * slot + u)) : slQ N slot pk pd en f Ic' Im' := by
  obtain ⟨⟨a1, a2⟩, ⟨a3, a4⟩, ⟨a5, a6⟩, a7⟩ := h
  exact ⟨⟨by rw [h1.1]; exact a1, by rw [h2.1]; exact a2⟩, ⟨by rw [h1.2.1]; exact a3, by rw [h2.2.1]; exact a4⟩, ⟨by rw [h1.2.2.1]; exact a5, by rw [h2.2.2.1]; exact a6⟩, fun u hu => ⟨by rw [h1.2.2.2 u hu]; exact (a7 u hu).1, by rw [h2.2.2.2 u hu]; exact (a7 u hu).2⟩⟩
theorem lay_one {f0 : Nat} (hb : bodyOk Q f0 6 0 n 0 sz) (ht : 61 ≤ t) {s c by1 : Nat} (hs : s < w * h) (hN : w * h ≤ 10) (hc : c < 8) (hby : by1 < 8) {Ic Im : hI} {v0 : Int32} (H : enQ t w h sz n v0 Q P E pr Ic Im) (h75 : Ic 7 5 = nI (w * h)) (h77 : Ic 7 7 = nI (w - 1)) (h41 : Im 0 41 = nI (w * h)) (h46 : Im 0 46 = ptI 24 (ptN 0 n)) (h25 : Im 25 s = nI c) (hag : ∀ k, k < c → agQ (w * h) (8 * s + k) Ic Im) : ∃ (Ic' Im' : hI) (b : Bool), mRo_fill t (nI (8 * s + c)) (nI by1) Ic = some Ic' ∧ mRo_isUnlike (nI (8 * s + c)) Ic' = some (bI b) ∧ mM_laysChoice (nI s) (nI by1) Im = some Im' ∧ Im' 25 s = nI (c + if b = true then 1 else 0) ∧ (c = 0 → b = true) ∧ (∀ k, k ≤ c → agQ (w * h) (8 * s + k) Ic' Im') ∧ offFc (8 * s + c) Ic Ic' ∧ offLm s (8 * s + c) Im Im' := by
  have hsl : 8 * s + c < 80 := by omega
  have oo : mC_isOutside (nI (8 * s + c)) (nI 80) = nI 0 := by
    unfold mC_isOutside
    simp (disch := omega) only [↓reduceIte, h_let, hg_in, hg_zb, hg_z0, hg_z1, hg_nz, Option.bind_some, if_pos, if_neg, bI_0, bI_n0, nI_add, nI_mul, nI_ltI, nI_leI, nI_eq, nI_clamp, nI_subN, nI_divN, nI_mod2, nI_m1e, nI_em1, nI_m2e, nI_lt0, m1_lt0, m1_lt, m1_le, h_u_at, h_u_off2, h_u_pl, li_0, li_1, li_2, li_3, li_4, li_5, li_6, li_7, li_8, li_9, li_10, li_11, li_12, li_13, li_14, li_15, li_16, li_17, li_18, li_19, li_20, li_21, li_22, li_23, li_24, li_25, li_26, li_27, li_28, li_29, li_30, li_31, li_32, li_40, li_43, li_45, li_47, li_48, li_57, li_59, li_60, li_61, li_62, li_63, li_64, li_80, li_92, li_97, li_99, li_100, li_122, li_123, li_125, li_166, li_201, li_210, li_250, li_255, li_256, li_257, li_258, li_259, li_260, li_261, li_262, li_263, li_264, li_265, li_266, li_267, li_268, li_300, li_500, li_1000, li_12345, li_27720, li_1000000, li_1103515245, ne_m1, ne_m2]
  have ed : (8 * s + c) / 8 = s := by omega
  -- the class
  obtain ⟨Ic1, hIc1⟩ : ∃ I, I = h_u (h_u (h_u Ic 9 (8 * s + c) (nI by1)) 10 (8 * s + c) (nI 0)) 11 (8 * s + c) (nI 0) := ⟨_, rfl⟩
  obtain ⟨Ic2, a1, a2, a3⟩ := zc_L (t := t) hsl (nI by1) (nI s) 10 0 hF Ic1 (by omega) (by unfold hF; omega)
  have topC : mRo_fill t (nI (8 * s + c)) (nI by1) Ic = mRo_fill_L70 hF t (nI (8 * s + c)) (nI by1) (nI s) (nI 0) Ic2 := by
    rw [← a1, hIc1]
    unfold mRo_fill
    rw [li_80, li_8, li_0, if_pos oo, hl_eq, nI_divN (by omega) (by omega), ed, hg_in _ hsl (by omega), hl_eq, hg_in _ hsl (by omega), hl_eq, hg_in _ hsl (by omega), hl_eq, nI_clamp (by omega)]
  -- the reference
  obtain ⟨Im1, hIm1⟩ : ∃ I, I = h_u (h_u (h_u Im 26 (8 * s + c) (nI by1)) 27 (8 * s + c) (nI 0)) 28 (8 * s + c) (nI 0) := ⟨_, rfl⟩
  have m41 : Im1 0 41 = nI (w * h) := by rw [hIm1, h_u_off2 _ _ _ _ (by decide), h_u_off2 _ _ _ _ (by decide), h_u_off2 _ _ _ _ (by decide)]; exact h41
  obtain ⟨Im2', b1, b2, b3⟩ := zm_L hN hsl (nI s) (nI by1) (w * h) 0 hF Im1 (by omega) (by unfold hF; omega) m41
  obtain ⟨Im2, hIm2⟩ : ∃ I, I = h_u (h_u Im2' 0 61 (nI 0)) 0 57 (nI 0) := ⟨_, rfl⟩
  rw [← hIm2] at b1
  have topM : mM_laysChoice (nI s) (nI by1) Im = mM_laysChoice_L74 hF (nI s) (nI by1) (nI (8 * s + c)) Im2 := by
    rw [← b1, hIm1]
    unfold mM_laysChoice mM_choiceAt
    rw [hg_in _ (by omega) (by omega), nI_clamp (show s < 2 ^ 31 by omega), h25, li_8, li_0, nI_mul, nI_add, hl_eq, hg_in _ hsl (by omega), hl_eq, hg_in _ hsl (by omega), hl_eq, hg_in _ hsl (by omega), hl_eq, nI_clamp (by omega)]
  -- frames
  have oc1 : ∀ a i, (a < 9 ∨ 11 < a ∨ i ≠ 8 * s + c) → Ic1 a i = Ic a i := fun a i hh => by
    have key : ∀ (K : hI) (d : Nat) (v : Int32), 9 ≤ d → d ≤ 11 → h_u K d (8 * s + c) v a i = K a i := fun K d v q1 q2 => by
      by_cases e : a = d
      · subst e; exact h_u_pl _ _ _ (by omega)
      · exact h_u_off2 _ _ _ _ e
    rw [hIc1, key _ 11 _ (by omega) (by omega), key _ 10 _ (by omega) (by omega), key _ 9 _ (by omega) (by omega)]
  have om1 : ∀ a i, (a < 26 ∨ 28 < a ∨ i ≠ 8 * s + c) → Im1 a i = Im a i := fun a i hh => by
    have key : ∀ (K : hI) (d : Nat) (v : Int32), 26 ≤ d → d ≤ 28 → h_u K d (8 * s + c) v a i = K a i := fun K d v q1 q2 => by
      by_cases e : a = d
      · subst e; exact h_u_pl _ _ _ (by omega)
      · exact h_u_off2 _ _ _ _ e
    rw [hIm1, key _ 28 _ (by omega) (by omega), key _ 27 _ (by omega) (by omega), key _ 26 _ (by omega) (by omega)]
  have om2 : ∀ a i, (a ≠ 0 ∨ (i ≠ 61 ∧ i ≠ 57)) → Im2 a i = Im2' a i := fun a i hh => by
    rw [hIm2]
    by_cases e : a = 0
    · subst e; rw [h_u_pl _ _ _ (by omega), h_u_pl _ _ _ (by omega)]
    · rw [h_u_off2 _ _ _ _ e, h_u_off2 _ _ _ _ e]
  have fc : offFc (8 * s + c) Ic Ic2 := fun a i q1 q2 => by rw [a2 a i (by omega), oc1 a i (by omega)]
  have fm : offFm (8 * s + c) Im Im2 := fun a i q1 q2 => by rw [om2 a i (by omega), b2 a i (by omega), om1 a i (by omega)]
  have hS : slQ (w * h) (8 * s + c) by1 0 0 (fun _ => 0) Ic2 Im2 := by
    refine ⟨⟨?_, ?_⟩, ⟨?_, ?_⟩, ⟨?_, ?_⟩, fun u hu => ⟨a3 u (by omega) (by omega), ?_⟩⟩
    · rw [a2 _ _ (by omega), hIc1, h_u_off2 _ _ _ _ (by decide), h_u_off2 _ _ _ _ (by decide), h_u_at]
    · rw [om2 _ _ (by omega), b2 _ _ (by omega), hIm1, h_u_off2 _ _ _ _ (by decide), h_u_off2 _ _ _ _ (by decide), h_u_at]
    · rw [a2 _ _ (by omega), hIc1, h_u_off2 _ _ _ _ (by decide), h_u_at]
    · rw [om2 _ _ (by omega), b2 _ _ (by omega), hIm1, h_u_off2 _ _ _ _ (by decide), h_u_at]
    · rw [a2 _ _ (by omega), hIc1, h_u_at]
    · rw [om2 _ _ (by omega), b2 _ _ (by omega), hIm1, h_u_at]
    · rw [om2 _ _ (by omega)]; exact b3 u (by omega) hu
  have H2 : enQ t w h sz n (Im2 0 58) Q P E pr Ic2 Im2 := enQ_set H (fun c i q => fc c i (by omega) (by omega)) (fun c i q1 q2 => fm c i (by omega) (by omega)) ⟨fm 0 39 (by omega) (by omega), fm 0 40 (by omega) (by omega)⟩ rfl
  obtain ⟨Ic3, Im3, pd, en, f, c1, c2, c3, c4, c5, c6, c7⟩ := four_q (by1 := by1) hb ht hs hN hsl 4 0 hF hF Ic2 Im2 (Im2 0 58) 0 0 (fun _ => 0) (by omega) (by unfold hF; omega) (by unfold hF; omega) H2 (by rw [fc 7 7 (by omega) (by omega)]; exact h77) (by rw [fm 0 46 (by omega) (by omega)]; exact h46) (by rw [hIm2, h_u_pl _ _ _ (by decide), h_u_at]) (by rw [hIm2, h_u_at]) hS (by omega) (by rw [sumU_0 (fun _ _ => rfl)])
  have gc := offFc_tr fc c6
  have gm := offFm_tr fm c7
  have n25 : Im3 25 s = nI c := by rw [gm 25 s (by omega) (by omega)]; exact h25
  have n41 : Im3 0 41 = nI (w * h) := by rw [gm 0 41 (by omega) (by omega)]; exact h41
  have n75 : Ic3 7 5 = nI (w * h) := by rw [gc 7 5 (by omega) (by omega)]; exact h75
  have ag3 : ∀ k, k ≤ c → agQ (w * h) (8 * s + k) Ic3 Im3 := fun k hk => by
    by_cases e : k = c
    · subst e; exact ⟨by1, pd, en, f, c3, hby, c4, c5⟩
    · obtain ⟨pk', pd', en', f', x1, x2⟩ := hag k (by omega)
      exact ⟨pk', pd', en', f', slQ_of x1 ⟨gc _ _ (by omega) (by omega), gc _ _ (by omega) (by omega), gc _ _ (by omega) (by omega), fun u hu => gc _ _ (by omega) (by omega)⟩ ⟨gm _ _ (by omega) (by omega), gm _ _ (by omega) (by omega), gm _ _ (by omega) (by omega), fun u hu => gm _ _ (by omega) (by omega)⟩, x2⟩
  have un := ro_unlike n75 hN (show s < 10 by omega) hc
  have nw := mp_new_L n41 hN (show s < 10 by omega) hc n25 c 0 hF true (by omega) (by unfold hF; omega)
  rw [Bool.true_and, bI_t, ← nw_same ag3 c 0 (by omega)] at nw
  refine ⟨Ic3, h_u Im3 25 s (nI (c + if nwB 10 11 12 (w * h) s c Ic3 0 c = true then 1 else 0)), nwB 10 11 12 (w * h) s c Ic3 0 c, by rw [topC, c1], un, by rw [topM, c2, nw], by rw [h_u_at], fun e => by subst e; rfl, fun k hk => ?_, gc, fun a i q0 q1 q2 => ?_⟩
  · obtain ⟨pk', pd', en', f', x1, x2⟩ := ag3 k hk
    exact ⟨pk', pd', en', f', slQ_of x1 ⟨rfl, rfl, rfl, fun _ _ => rfl⟩ ⟨h_u_off2 _ _ _ _ (by decide), h_u_off2 _ _ _ _ (by decide), h_u_off2 _ _ _ _ (by decide), fun _ _ => h_u_off2 _ _ _ _ (by decide)⟩, x2⟩
  · by_cases e : a = 25
    · subst e; rw [h_u_pl _ _ _ (by omega), gm _ _ (by omega) (by omega)]
    · rw [h_u_off2 _ _ _ _ e, gm _ _ q1 q2]
end Ly
