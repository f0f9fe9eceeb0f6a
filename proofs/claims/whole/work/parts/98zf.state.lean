/-! The choices of one state, both sides. -/
section St
variable {t w h sz n np wt : Nat} {Q : rD} {P E : cE} {pr : Nat → Int} {bn : Nat → Nat}
/-- what stands while rounds are laid -/
def lyQ (t w h sz n np wt : Nat) (Q : rD) (P E : cE) (pr : Nat → Int) (bn : Nat → Nat) (Ic Im : hI) : Prop := (∃ v0, enQ t w h sz n v0 Q P E pr Ic Im) ∧ whQ t w wt E Ic Im ∧ bdQ np bn Ic Im ∧ np ≤ 3 ∧ Ic t 8 = nI np ∧ Im 0 43 = nI np ∧ Ic 7 5 = nI (w * h) ∧ Ic 7 7 = nI (w - 1) ∧ Im 0 41 = nI (w * h) ∧ Im 0 46 = ptI 24 (ptN 0 n) ∧ bm (Ic 7 6) (w * h) (inB E w wt)
def offYc (Ic Ic' : hI) : Prop := ∀ a i, a ≠ 6 → (a < 8 ∨ 12 < a) → Ic' a i = Ic a i
def offYm (Im Im' : hI) : Prop := ∀ a i, (a ≠ 0 ∨ i < 53 ∨ 61 < i) → (a < 25 ∨ 29 < a) → Im' a i = Im a i
theorem lyQ_of {Ic Ic' Im Im' : hI} (ht : 61 ≤ t) (H : lyQ t w h sz n np wt Q P E pr bn Ic Im) (o1 : offYc Ic Ic') (o2 : offYm Im Im') : lyQ t w h sz n np wt Q P E pr bn Ic' Im' := by
  obtain ⟨⟨v0, a1⟩, a2, ⟨b1, b2, b3, b4, b5⟩, a4, a5, a6, a7, a8, a9, a10, a11⟩ := H
  have oc : ∀ c i, t ≤ c → Ic' c i = Ic c i := fun c i q => o1 c i (by omega) (by omega)
  have om : ∀ c i, 1 ≤ c → c ≤ 24 → Im' c i = Im c i := fun c i q1 q2 => o2 c i (by omega) (by omega)
  have o0 : ∀ i, i < 53 → Im' 0 i = Im 0 i := fun i q => o2 0 i (by omega) (by omega)
  refine ⟨⟨Im' 0 58, enQ_set a1 oc (fun c i q1 q2 => om c i (by omega) (by omega)) ⟨o0 39 (by decide), o0 40 (by decide)⟩ rfl⟩, whQ_of a2 oc (fun c i q1 q2 => om c i (by omega) (by omega)) ⟨o0 39 (by decide), o0 44 (by decide), o0 45 (by decide)⟩, ⟨b1, b2, ?_, ?_, fun k hk => ?_⟩, a4, ?_, ?_, ?_, ?_, ?_, ?_, ?_⟩
  · rw [o1 0 13 (by decide) (by decide)]; exact b3
  · rw [o1 0 14 (by decide) (by decide)]; exact b4
  · rw [om 24 k (by decide) (by decide)]; exact b5 k hk
  · rw [oc t 8 (Nat.le_refl _)]; exact a5
  · rw [o0 43 (by decide)]; exact a6
  · rw [o1 7 5 (by decide) (by decide)]; exact a7
  · rw [o1 7 7 (by decide) (by decide)]; exact a8
  · rw [o0 41 (by decide)]; exact a9
  · rw [o0 46 (by decide)]; exact a10
  · rw [o1 7 6 (by decide) (by decide)]; exact a11
theorem ly_isIn {Ic Im : hI} (H : lyQ t w h sz n np wt Q P E pr bn Ic Im) (hN : w * h ≤ 10) {s : Nat} (hs : s < w * h) : mRo_isIn (nI s) Ic = bI (inB E w wt s) := by
  obtain ⟨_, _, _, _, _, _, a7, _, _, _, a11⟩ := H
  have hbit := bm_test a11 hN hs
  unfold mRo_isIn
  rw [a7]
  cases hv : inB E w wt s
  · rw [hv] at hbit
    simp (disch := omega) only [↓reduceIte, h_let, hg_in, hg_zb, hg_z0, hg_z1, hg_nz, Option.bind_some, if_pos, if_neg, bI_0, bI_n0, nI_add, nI_mul, nI_ltI, nI_leI, nI_eq, nI_clamp, nI_subN, nI_divN, nI_mod2, nI_m1e, nI_em1, nI_m2e, nI_lt0, m1_lt0, m1_lt, m1_le, h_u_at, h_u_off2, h_u_pl, li_0, li_1, li_2, li_3, li_4, li_5, li_6, li_7, li_8, li_9, li_10, li_11, li_12, li_13, li_14, li_15, li_16, li_17, li_18, li_19, li_20, li_21, li_22, li_23, li_24, li_25, li_26, li_27, li_28, li_29, li_30, li_31, li_32, li_40, li_43, li_45, li_47, li_48, li_57, li_59, li_60, li_61, li_62, li_63, li_64, li_80, li_92, li_97, li_99, li_100, li_122, li_123, li_125, li_166, li_201, li_210, li_250, li_255, li_256, li_257, li_258, li_259, li_260, li_261, li_262, li_263, li_264, li_265, li_266, li_267, li_268, li_300, li_500, li_1000, li_12345, li_27720, li_1000000, li_1103515245, ne_m1, ne_m2]
    exact if_pos (hbit.mpr rfl)
  · rw [hv] at hbit
    have hbit' : ¬ ((Ic 7 6 >>> (nI s &&& nI 31)) &&& nI 1 = nI 0) := fun q => absurd (hbit.mp q) (by decide)
    simp (disch := omega) only [↓reduceIte, h_let, hg_in, hg_zb, hg_z0, hg_z1, hg_nz, Option.bind_some, if_pos, if_neg, bI_0, bI_n0, nI_add, nI_mul, nI_ltI, nI_leI, nI_eq, nI_clamp, nI_subN, nI_divN, nI_mod2, nI_m1e, nI_em1, nI_m2e, nI_lt0, m1_lt0, m1_lt, m1_le, h_u_at, h_u_off2, h_u_pl, li_0, li_1, li_2, li_3, li_4, li_5, li_6, li_7, li_8, li_9, li_10, li_11, li_12, li_13, li_14, li_15, li_16, li_17, li_18, li_19, li_20, li_21, li_22, li_23, li_24, li_25, li_26, li_27, li_28, li_29, li_30, li_31, li_32, li_40, li_43, li_45, li_47, li_48, li_57, li_59, li_60, li_61, li_62, li_63, li_64, li_80, li_92, li_97, li_99, li_100, li_122, li_123, li_125, li_166, li_201, li_210, li_250, li_255, li_256, li_257, li_258, li_259, li_260, li_261, li_262, li_263, li_264, li_265, li_266, li_267, li_268, li_300, li_500, li_1000, li_12345, li_27720, li_1000000, li_1103515245, ne_m1, ne_m2]
    exact if_neg hbit'
/-- a state's choices: how many, the same on both sides -/
def stQ (N s c : Nat) (Ic Im : hI) : Prop := Im 25 s = nI c ∧ c ≤ 8 ∧ ∀ k, k < c → agQ N (8 * s + k) Ic Im
def offSc (s : Nat) (Ic Ic' : hI) : Prop := ∀ a i, a ≠ 6 → (a < 9 ∨ 12 < a ∨ (a < 12 ∧ (i < 8 * s ∨ 8 * s + 8 ≤ i)) ∨ (a = 12 ∧ (i < 80 * s ∨ 80 * s + 80 ≤ i))) → Ic' a i = Ic a i
def offSm (s : Nat) (Im Im' : hI) : Prop := ∀ a i, (a ≠ 25 ∨ i ≠ s) → (a ≠ 0 ∨ i < 53 ∨ 61 < i) → (a < 26 ∨ 29 < a ∨ (a < 29 ∧ (i < 8 * s ∨ 8 * s + 8 ≤ i)) ∨ (a = 29 ∧ (i < 80 * s ∨ 80 * s + 80 ≤ i))) → Im' a i = Im a i
theorem pk_L {f0 : Nat} (hb : bodyOk Q f0 6 0 n 0 sz) (ht : 61 ≤ t) (hN : w * h ≤ 10) {s : Nat} (hs : s < w * h) (hin : inB E w wt s = true) (k3 : _) (k7 : _) : ∀ (r y fuel fuel2 c : Nat) (Ic Im : hI), y + r = 2 ^ np → r < fuel → r < fuel2 → lyQ t w h sz n np wt Q P E pr bn Ic Im → stQ (w * h) s c Ic Im → c ≤ y → (1 ≤ c ∨ y ≤ bto (bn 0) (bn 1) (bn 2)) → bto (bn 0) (bn 1) (bn 2) < 2 ^ np → ∃ (Ic' Im' : hI) (c' : Nat), mRo_makeChoices_L18 k3 fuel t (nI (bmk (bn 0) (bn 1) (bn 2))) (nI (bto (bn 0) (bn 1) (bn 2))) (nI s) (nI c) (nI y) Ic = mRo_makeChoices_99 k3 t (nI (bmk (bn 0) (bn 1) (bn 2))) (nI (bto (bn 0) (bn 1) (bn 2))) (nI s) (nI c') Ic' ∧ mM_laysRounds_L24 k7 fuel2 (nI s) (nI y) Im = k7 (nI (s + 1)) Im' ∧ stQ (w * h) s c' Ic' Im' ∧ 1 ≤ c' ∧ offSc s Ic Ic' ∧ offSm s Im Im' := by
  intro r
  induction r with
  | zero =>
    intro y fuel fuel2 c Ic Im hy hf hf2 H hS hc h1 h2
    obtain ⟨fuel, rfl⟩ : ∃ m, fuel = m + 1 := ⟨fuel - 1, by omega⟩
    obtain ⟨fuel2, rfl⟩ : ∃ m, fuel2 = m + 1 := ⟨fuel2 - 1, by omega⟩
    have hnp := H.2.2.2.1
    have e8 := H.2.2.2.2.1
    have e43 := H.2.2.2.2.2.1
    have sh := shl_p np (by omega)
    have p8 : 2 ^ np ≤ 2 ^ 3 := Nat.pow_le_pow_right (by decide) hnp
    refine ⟨Ic, Im, c, ?_, ?_, hS, by omega, fun _ _ _ _ => rfl, fun _ _ _ _ _ => rfl⟩
    · show mRo_makeChoices_B18 k3 (mRo_makeChoices_L18 k3 fuel) _ _ _ _ _ _ _ = _
      unfold mRo_makeChoices_B18
      have z31 : (31 : Int32) = nI 31 := rfl
      rw [e8, li_1, z31, sh, if_pos ((nI_leI (by omega) (by omega)).mpr (by omega))]
    · show mM_laysRounds_B24 k7 (mM_laysRounds_L24 k7 fuel2) _ _ _ = _
      unfold mM_laysRounds_B24
      have z31 : (31 : Int32) = nI 31 := rfl
      rw [e43, li_1, z31, sh, if_pos ((nI_leI (by omega) (by omega)).mpr (by omega)), nI_add]
  | succ r ih =>
    intro y fuel fuel2 c Ic Im hy hf hf2 H hS hc h1 h2
    obtain ⟨fuel, rfl⟩ : ∃ m, fuel = m + 1 := ⟨fuel - 1, by omega⟩
    obtain ⟨fuel2, rfl⟩ : ∃ m, fuel2 = m + 1 := ⟨fuel2 - 1, by omega⟩
    have hnp := H.2.2.2.1
    have e8 := H.2.2.2.2.1
    have e43 := H.2.2.2.2.2.1
    have sh := shl_p np (by omega)
    have p8 : 2 ^ np ≤ 2 ^ 3 := Nat.pow_le_pow_right (by decide) hnp
    have hy8 : y < 8 := by omega
    have z31 : (31 : Int32) = nI 31 := rfl
    have hw : 1 ≤ w ∧ w ≤ 10 := by obtain ⟨⟨_, q⟩, _⟩ := H; exact q.2.2.1
    have ei := ly_isIn H hN hs
    have ei2 := mp_isIn H.2.1 hw (show s < 10 by omega)
    rw [hin, bI_t] at ei ei2
    obtain ⟨b1, b2, b3, b4, b5⟩ := H.2.2.1
    have ea := mp_allowed e43 hnp b1 b2 b5 hy8
    have ec := alw_c (bn 0) (b1 0) (bn 1) (b1 1) (bn 2) (b1 2) y hy8
    have n1 : ¬ nI 1 = (0 : Int32) := by decide
    have g1 : ¬ nI (2 ^ np) ≤ nI y := fun q => by have := (nI_leI (by omega) (by omega)).mp q; omega
    have ey : nI y + (1 : Int32) = nI (y + 1) := by rw [li_1, nI_add]
    have topC : mRo_makeChoices_L18 k3 (fuel + 1) t (nI (bmk (bn 0) (bn 1) (bn 2))) (nI (bto (bn 0) (bn 1) (bn 2))) (nI s) (nI c) (nI y) Ic = mRo_makeChoices_B18 k3 (mRo_makeChoices_L18 k3 fuel) t (nI (bmk (bn 0) (bn 1) (bn 2))) (nI (bto (bn 0) (bn 1) (bn 2))) (nI s) (nI c) (nI y) Ic := rfl
    have topM : mM_laysRounds_L24 k7 (fuel2 + 1) (nI s) (nI y) Im = mM_laysRounds_B24 k7 (mM_laysRounds_L24 k7 fuel2) (nI s) (nI y) Im := rfl
    rw [topC, topM]
    cases ha : alw (bn 0) (bn 1) (bn 2) y
    · rw [ha] at ea ec
      rw [bI_f] at ea
      have hne := of_decide_eq_false ec
      have hny : y ≠ bto (bn 0) (bn 1) (bn 2) := fun e => by
        have := alw_to (bn 0) (b1 0) (bn 1) (b1 1) (bn 2) (b1 2)
        rw [← e, ha] at this
        exact absurd this (by decide)
      obtain ⟨Ic', Im', c', x1, x2, x3, x4, x5, x6⟩ := ih (y + 1) fuel fuel2 c Ic Im (by omega) (by omega) (by omega) H hS (by omega) (by omega) h2
      refine ⟨Ic', Im', c', ?_, ?_, x3, x4, x5, x6⟩
      · unfold mRo_makeChoices_B18
        rw [e8, ey, li_1, z31, sh, if_neg g1, ei, if_neg n1, if_neg hne]
        exact x1
      · unfold mM_laysRounds_B24
        rw [e43, ey, li_1, z31, sh, if_neg g1, ei2, Option.bind_some, if_neg n1, ea, Option.bind_some, if_pos (show nI 0 = (0 : Int32) from rfl)]
        exact x2
    · rw [ha] at ea ec
      rw [bI_t] at ea
      have hne := of_decide_eq_true ec
      have hc8 : c < 8 := by omega
      obtain ⟨s1, s2, s3⟩ := hS
      obtain ⟨⟨v0, H0⟩, H1⟩ := H
      obtain ⟨Ic1, Im1, b, l1, l2, l3, l4, l5, l6, l7, l8⟩ := lay_one hb ht hs hN hc8 hy8 H0 H1.2.2.2.2.2.1 H1.2.2.2.2.2.2.1 H1.2.2.2.2.2.2.2.1 H1.2.2.2.2.2.2.2.2.1 s1 s3
      have g8 : ¬ nI 8 ≤ nI c := fun q => by have := (nI_leI (by omega) (by omega)).mp q; omega
      have es : nI s * nI 8 + nI c = nI (8 * s + c) := by rw [nI_mul, nI_add]; congr 1; omega
      have oc1 : offSc s Ic Ic1 := fun a i q1 q2 => l7 a i q1 (by omega)
      have om1 : offSm s Im Im1 := fun a i q0 q1 q2 => l8 a i q0 q1 (by omega)
      have HH : lyQ t w h sz n np wt Q P E pr bn Ic1 Im1 := lyQ_of ht ⟨⟨v0, H0⟩, H1⟩ (fun a i q1 q2 => l7 a i q1 (by omega)) (fun a i q1 q2 => l8 a i (by omega) q1 (by omega))
      have hS1 : stQ (w * h) s (c + if b = true then 1 else 0) Ic1 Im1 := by
        refine ⟨l4, by split <;> omega, fun k hk => l6 k ?_⟩
        have : (if b = true then 1 else 0) ≤ 1 := by split <;> omega
        omega
      have hle : (if b = true then 1 else 0) ≤ 1 := by split <;> omega
      have hge : 1 ≤ c + (if b = true then 1 else 0) := by
        by_cases e : c = 0
        · rw [l5 e, if_pos rfl]; omega
        · omega
      obtain ⟨Ic', Im', c', x1, x2, x3, x4, x5, x6⟩ := ih (y + 1) fuel fuel2 (c + if b = true then 1 else 0) Ic1 Im1 (by omega) (by omega) (by omega) HH hS1 (by omega) (Or.inl hge) h2
      refine ⟨Ic', Im', c', ?_, ?_, x3, x4, fun a i q1 q2 => by rw [x5 a i q1 q2, oc1 a i q1 q2], fun a i q0 q1 q2 => by rw [x6 a i q0 q1 q2, om1 a i q0 q1 q2]⟩
      · unfold mRo_makeChoices_B18
        rw [e8, ey, li_1, z31, sh, if_neg g1, ei, if_neg n1, if_pos hne, li_8, if_neg g8, hl_eq, es, l1, Option.bind_some, l2, Option.bind_some, hl_eq, hl_eq]
        cases b
        · have ef : nI c + (0 : Int32) = nI (c + if false = true then 1 else 0) := by rw [li_0, nI_add]; rfl
          rw [if_pos (show bI false = (0 : Int32) from rfl), ef]
          exact x1
        · have ef : nI c + nI 1 = nI (c + if true = true then 1 else 0) := by rw [nI_add]; rfl
          rw [if_neg (show ¬ bI true = (0 : Int32) by decide), ef]
          exact x1
      · unfold mM_laysRounds_B24
        rw [e43, ey, li_1, z31, sh, if_neg g1, ei2, Option.bind_some, if_neg n1, ea, Option.bind_some, if_neg n1, l3, Option.bind_some]
        exact x2
end St
