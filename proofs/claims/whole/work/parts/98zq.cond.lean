/-! Conditions: both readers take the same. -/
theorem nar_b (b : Bool) : vp_nar .boolean (bI b) = bI b := by cases b <;> decide
def relK (k : Nat) : Bool := decide (k = 60 ∨ k = 61 ∨ k = 62)
/-- a comparison that both sides hold: the class's at k, the reference's at o + k -/
def itQ (o t q k : Nat) (Ic Im : hI) : Prop := ∃ (l r rel : Nat) (u v : Nat → Int) (b : Bool), (o ≤ l ∧ l < q) ∧ (o ≤ r ∧ r < q) ∧ Im 5 (o + k) = nI l ∧ Im 6 (o + k) = nI r ∧ smQ l u Im ∧ smQ r v Im ∧ Ic (t + 1) k = iI (u 1 - v 1) ∧ Ic (t + 2) k = iI (u 2 - v 2) ∧ Ic (t + 3) k = iI (u 0 - v 0) ∧ (rel = 60 ∨ rel = 61 ∨ rel = 62) ∧ Ic (t + 4) k = nI rel ∧ Im 7 (o + k) = nI rel ∧ Ic (t + 5) k = bI b
/-- a condition -/
def cnR (o t q a b : Nat) (Ic Im : hI) : Prop := (∀ k, a ≤ k → k < b → itQ o t q k Ic Im) ∧ (∀ k, a ≤ k → k + 1 < b → Im 8 (o + k) = Ic (t + 5) (k + 1)) ∧ (a < b → Im 8 (o + (b - 1)) = nI 1)
theorem itQ_of {o t q q' k : Nat} {Ic Im Ic' Im' : hI} (h : itQ o t q k Ic Im) (hq : q ≤ q') (h1 : ∀ c, t + 1 ≤ c → c ≤ t + 5 → Ic' c k = Ic c k) (h2 : ∀ c, 5 ≤ c → c ≤ 7 → Im' c (o + k) = Im c (o + k)) (h3 : ∀ c i, 2 ≤ c → c ≤ 4 → o ≤ i → i < q → Im' c i = Im c i) : itQ o t q' k Ic' Im' := by
  obtain ⟨l, r, rel, u, v, b, a1, a2, a3, a4, a5, a6, a7, a8, a9, a10, a11, a12, a13⟩ := h
  exact ⟨l, r, rel, u, v, b, by omega, by omega, by rw [h2 5 (by omega) (by omega)]; exact a3, by rw [h2 6 (by omega) (by omega)]; exact a4, smQ_of a5 (fun c q1 q2 => h3 c l q1 q2 a1.1 a1.2), smQ_of a6 (fun c q1 q2 => h3 c r q1 q2 a2.1 a2.2), by rw [h1 _ (by omega) (by omega)]; exact a7, by rw [h1 _ (by omega) (by omega)]; exact a8, by rw [h1 _ (by omega) (by omega)]; exact a9, a10, by rw [h1 _ (by omega) (by omega)]; exact a11, by rw [h2 7 (by omega) (by omega)]; exact a12, by rw [h1 _ (by omega) (by omega)]; exact a13⟩
theorem cnR_of {o t q q' a b : Nat} {Ic Im Ic' Im' : hI} (h : cnR o t q a b Ic Im) (hq : q ≤ q') (h1 : ∀ c i, t + 1 ≤ c → c ≤ t + 5 → a ≤ i → i < b → Ic' c i = Ic c i) (h2 : ∀ c i, 5 ≤ c → c ≤ 8 → o + a ≤ i → i < o + b → Im' c i = Im c i) (h3 : ∀ c i, 2 ≤ c → c ≤ 4 → o ≤ i → i < q → Im' c i = Im c i) : cnR o t q' a b Ic' Im' := by
  obtain ⟨a1, a2, a3⟩ := h
  refine ⟨fun k q1 q2 => itQ_of (a1 k q1 q2) hq (fun c w1 w2 => h1 c k w1 w2 q1 q2) (fun c w1 w2 => h2 c _ w1 (by omega) (by omega) (by omega)) h3, fun k q1 q2 => ?_, fun q1 => ?_⟩
  · rw [h2 8 _ (by omega) (by omega) (by omega) (by omega), h1 _ _ (by omega) (by omega) (by omega) (by omega)]
    exact a2 k q1 q2
  · rw [h2 8 _ (by omega) (by omega) (by omega) (by omega)]
    exact a3 q1
theorem cd_add {t k : Nat} {I : hI} (h5 : I t 5 = nI k) (hk : k < 166) (v1 v2 v3 v4 : Int32) (b : Bool) : mCd_add t v1 v2 v3 v4 (bI b) I = some (h_u (h_u (h_u (h_u (h_u (h_u I (t + 1) k v1) (t + 2) k v2) (t + 3) k v3) (t + 4) k v4) (t + 5) k (bI b)) t 5 (nI (k + 1))) := by
  unfold mCd_add
  simp (disch := omega) only [↓reduceIte, hl_eq, hg_in, hg_zb, hg_z0, hg_z1, hg_nz, Option.bind_some, if_pos, if_neg, bI_0, bI_n0, nI_add, nI_mul, nI_ltI, nI_leI, nI_eq, nI_clamp, nI_subN, nI_divN, nI_mod2, nI_m1e, nI_em1, nI_m2e, nI_lt0, m1_lt0, m1_lt, m1_le, h_u_at, h_u_off2, h_u_pl, li_0, li_1, li_2, li_3, li_4, li_5, li_6, li_7, li_8, li_9, li_10, li_11, li_12, li_13, li_14, li_15, li_16, li_17, li_18, li_19, li_20, li_21, li_22, li_23, li_24, li_25, li_26, li_27, li_28, li_29, li_30, li_31, li_32, li_40, li_43, li_45, li_47, li_48, li_57, li_59, li_60, li_61, li_62, li_63, li_64, li_80, li_92, li_97, li_99, li_100, li_122, li_123, li_125, li_166, li_201, li_210, li_250, li_255, li_256, li_257, li_258, li_259, li_260, li_261, li_262, li_263, li_264, li_265, li_266, li_267, li_268, li_300, li_500, li_1000, li_12345, li_27720, li_1000000, li_1103515245, ne_m1, ne_m2, h5, nar_b]
theorem tkA_mono {T : Nat → Nat} {N n p p' : Nat} (h : ∀ j, j < n → tkS T N j < N) (h1 : p ≤ p') (h2 : p' ≤ n) : tkA T N p + (p' - p) ≤ tkA T N p' := by
  obtain ⟨d, rfl⟩ : ∃ d, p' = p + d := ⟨p' - p, by omega⟩
  induction d with
  | zero => rw [Nat.add_zero]; omega
  | succ d ih =>
    have a1 := ih (by omega) (by omega)
    have a2 := tkA_lt (h (p + d) (by omega))
    have a3 := (tkS_le T N (p + d)).1
    have e : p + (d + 1) = p + d + 1 := by omega
    rw [e]
    omega
section Cb
variable {T : Nat → Nat} {N n p e : Nat} {Ic Im : hI}
theorem tk_mono (h : tkP T N n p e Ic Im) {a b : Nat} (h1 : a ≤ b) (h2 : b ≤ n) : tkA T N a + (b - a) ≤ tkA T N b := tkA_mono (fun j hj => (h.2.2.1.2.2.1 j hj).1) h1 h2
/-- a word takes its letters -/
theorem word_len (h : tkP T N n p e Ic Im) {j : Nat} (hj : j < 11) (hk : tkK T N p = 258 + j) : tkA T N p + wl j ≤ tkA T N (p + 1) := by
  have hp := (tk_kd h).2 (by omega)
  have hlt := (h.2.2.1.2.2.1 p hp).1
  have hT := h.1.2.2.2 _ hlt
  have hA := tkA_lt hlt
  have hS := tkS_le T N p
  have e1 : tkK T N p = kdF T N (tkS T N p) (tkA T N (p + 1)) := rfl
  have eK : tkK T N p = wkN T (tkS T N p) (tkA T N (p + 1)) := by
    rw [e1] at hk ⊢
    unfold kdF at hk ⊢
    rw [if_pos hlt] at hk ⊢
    by_cases q : isL (T (tkS T N p)) = true
    · rw [if_pos q]
    · rw [if_neg q] at hk
      exfalso
      by_cases q2 : isD (T (tkS T N p)) = true
      · rw [if_pos q2] at hk; omega
      · rw [if_neg q2] at hk; omega
  have hs := (wkN_is (T := T) (s := tkS T N p) (z := tkA T N (p + 1)) hj).mp (by rw [← eK]; exact hk)
  unfold spl at hs
  rw [Bool.and_eq_true] at hs
  have := of_decide_eq_true hs.1
  omega
/-- at a sign the tape has it -/
theorem sg_at (h : tkP T N n p 0 Ic Im) (hk : 1 ≤ tkK T N p ∧ tkK T N p ≤ 255) : Im 0 4 = nI (tkS T N p) ∧ tkS T N p < N ∧ Im 1 (tkS T N p) = nI (tkK T N p) := by
  have hp := (tk_kd h).2 (by omega)
  have hlt := (h.2.2.1.2.2.1 p hp).1
  have hT := h.1.2.2.2 _ hlt
  refine ⟨?_, hlt, ?_⟩
  · rcases h.2.2.2.2.2 with ⟨c0, k1, k2, k3, k4⟩ | ⟨c0, _⟩
    · exact k4.2.1
    · omega
  · rw [h.2.1.2.2.1 _ hlt]
    have e1 : tkK T N p = kdF T N (tkS T N p) (tkA T N (p + 1)) := rfl
    have hwb := wkN_bd T (tkS T N p) (tkA T N (p + 1))
    rw [e1] at hk ⊢
    unfold kdF at hk ⊢
    rw [if_pos hlt] at hk ⊢
    by_cases q : isL (T (tkS T N p)) = true
    · rw [if_pos q] at hk; omega
    · rw [if_neg q] at hk ⊢
      by_cases q2 : isD (T (tkS T N p)) = true
      · rw [if_pos q2] at hk; omega
      · rw [if_neg q2]
theorem rd_isRel (h : tkP T N n p e Ic Im) : mRd_isAtRelation Ic = bI (decide (e = 0 ∧ relK (tkK T N p) = true)) := by
  have k0 := kd_isL h (v := 60) (x := 60) rfl (by omega)
  have k1 := kd_isL h (v := 61) (x := 61) rfl (by omega)
  have k2 := kd_isL h (v := 62) (x := 62) rfl (by omega)
  unfold mRd_isAtRelation
  by_cases c : e = 0 ∧ relK (tkK T N p) = true
  · rw [decide_eq_true c]
    have d := of_decide_eq_true c.2
    by_cases d0 : tkK T N p = 60
    · rw [if_pos (k0.mpr ⟨c.1, d0⟩)]; rfl
    · rw [if_neg (fun w => d0 (k0.mp w).2)]
      by_cases d1 : tkK T N p = 61
      · rw [if_pos (k1.mpr ⟨c.1, d1⟩)]; rfl
      · rw [if_neg (fun w => d1 (k1.mp w).2), if_pos (k2.mpr ⟨c.1, by omega⟩)]; rfl
  · rw [decide_eq_false c, if_neg (fun w => c ⟨(k0.mp w).1, decide_eq_true (Or.inl (k0.mp w).2)⟩), if_neg (fun w => c ⟨(k1.mp w).1, decide_eq_true (Or.inr (Or.inl (k1.mp w).2))⟩), if_neg (fun w => c ⟨(k2.mp w).1, decide_eq_true (Or.inr (Or.inr (k2.mp w).2))⟩)]
    rfl
theorem m_isRel (h : tkP T N n p e Ic Im) : mM_isRelation Im = some (bI (decide (e = 0 ∧ relK (tkK T N p) = true))) := by
  unfold mM_isRelation
  rw [li_60, li_61, li_62, m_isSign h (c := 60) (by omega), Option.bind_some]
  by_cases d0 : e = 0 ∧ tkK T N p = 60
  · have c : e = 0 ∧ relK (tkK T N p) = true := ⟨d0.1, decide_eq_true (Or.inl d0.2)⟩
    rw [decide_eq_true d0, if_neg (by decide), decide_eq_true c]
    rfl
  · rw [decide_eq_false d0, if_pos (by decide), m_isSign h (c := 61) (by omega), Option.bind_some]
    by_cases d1 : e = 0 ∧ tkK T N p = 61
    · have c : e = 0 ∧ relK (tkK T N p) = true := ⟨d1.1, decide_eq_true (Or.inr (Or.inl d1.2))⟩
      rw [decide_eq_true d1, if_neg (by decide), decide_eq_true c]
      rfl
    · rw [decide_eq_false d1, if_pos (by decide), m_isSign h (c := 62) (by omega), Option.bind_some]
      by_cases d2 : e = 0 ∧ tkK T N p = 62
      · have c : e = 0 ∧ relK (tkK T N p) = true := ⟨d2.1, decide_eq_true (Or.inr (Or.inr d2.2))⟩
        rw [decide_eq_true d2, if_neg (by decide), decide_eq_true c]
        rfl
      · have c : ¬ (e = 0 ∧ relK (tkK T N p) = true) := fun w => by
          have := of_decide_eq_true w.2
          omega
        rw [decide_eq_false d2, if_pos (by decide), decide_eq_false c]
        rfl
/-- what reading a condition may change: from the comparison k on, from the sum q on -/
def frD (t k : Nat) (Ic Ic' : hI) : Prop := ∀ c i, (c ≠ 1 ∨ i < 6 ∨ 11 < i) → (c ≠ t ∨ i ≠ 5) → (c < t + 1 ∨ t + 5 < c ∨ i < k) → Ic' c i = Ic c i
def frN (o k q : Nat) (Im Im' : hI) : Prop := ∀ c i, (c ≠ 0 ∨ i < 3 ∨ (7 < i ∧ i ≠ 11 ∧ i ≠ 16)) → (c < 2 ∨ 4 < c ∨ i < q ∨ o + 250 ≤ i) → (c < 5 ∨ 8 < c ∨ i < o + k ∨ o + 250 ≤ i) → Im' c i = Im c i
theorem cond_L {o t m d : Nat} (ho : o ≤ 250) (ht : 6 ≤ t) (hm : m ≤ 30) (hd : 1 ≤ d) : ∀ (r p e fuel fuel2 i k q l : Nat) (opn : Bool) (u : Nat → Int) (Ic Im : hI), n - p ≤ r → r < fuel → r + 1 < fuel2 → 2 * i ≤ p → tkP T N n p e Ic Im → smH l u Ic Im → smB u p → (o ≤ l ∧ l < q) → Im 0 11 = nI q → Ic t 5 = nI k → Im 0 16 = nI (o + k) → k ≤ 100 → q ≤ o + 2 * k + m → (e = 0 → 5 * k + d ≤ tkA T N p) → ∃ (Ic' Im' : hI) (p' e' k' q' : Nat), mRd_readCondition_L4 fuel t (bI opn) (nI i) Ic = some Ic' ∧ ((mM_readCompare (nI l) Im).bind fun q1 => mM_readCond_L19 fuel2 (nI 1) q1) = some Im' ∧ tkP T N n p' e' Ic' Im' ∧ Im' 0 11 = nI q' ∧ Ic' t 5 = nI k' ∧ Im' 0 16 = nI (o + k') ∧ frD t k Ic Ic' ∧ frN o k q Im Im' ∧ (k ≤ k' ∧ k' ≤ 100 ∧ q ≤ q' ∧ q' ≤ o + 2 * k' + m + 1) ∧ p ≤ p' ∧ (e' = 0 → e = 0 ∧ k < k' ∧ q' + 1 ≤ o + 2 * k' + m ∧ 5 * k' + d ≤ tkA T N p' + 3 ∧ cnR o t q' k k' Ic' Im' ∧ Ic' (t + 5) k = bI opn) := by
  intro r
  induction r with
  | zero =>
    intro p e fuel fuel2 i k q l opn u Ic Im hr hf hf2 hi h hu hB hl h11 h5 h16 hk hq hA
    have hn := tk_n h
    have hple := h.2.2.2.1
    obtain ⟨fuel, rfl⟩ : ∃ m, fuel = m + 1 := ⟨fuel - 1, by omega⟩
    obtain ⟨fuel2, rfl⟩ : ∃ m, fuel2 = m + 1 := ⟨fuel2 - 1, by omega⟩
    have hkd := tk_kd h
    have nr : ¬ (e = 0 ∧ relK (tkK T N p) = true) := fun w => by
      have d := of_decide_eq_true w.2
      have := hkd.2 (by omega)
      omega
    have h2 : tkP T N n p e Ic (h_u Im 5 (o + k) (nI l)) := tkP_of h (fun _ _ => rfl) (fun _ _ _ _ => rfl) (fun i _ _ => hu_fr (by omega)) (fun i => hu_fr (by omega))
    obtain ⟨Ic', e', w1, w2, w3, w4, w5⟩ := fail_both h2
    refine ⟨Ic', mM_bad (h_u Im 5 (o + k) (nI l)), p, e', k, q, ?_, ?_, w2, ?_, ?_, ?_, fun c i q1 q2 q3 => w4 c i (by omega), fun c i q1 q2 q3 => ?_, by omega, by omega, fun z => by omega⟩
    · show mRd_readCondition_B4 (mRd_readCondition_L4 fuel) _ _ _ _ = _
      unfold mRd_readCondition_B4
      rw [li_500, if_neg (fun q => by have := (nI_leI (by omega) (by omega)).mp q; omega), hl_eq, hl_eq, hl_eq, hl_eq, rd_isRel h, decide_eq_false nr, if_pos (by decide), w1, Option.bind_some]
    · unfold mM_readCompare
      rw [h16, hg_in _ (by omega) (by omega), nI_clamp (by omega), hl_eq, m_isRel h2, Option.bind_some, decide_eq_false nr, if_pos (by decide), hl_eq, Option.bind_some]
      show mM_readCond_B19 (mM_readCond_L19 fuel2) _ _ = _
      unfold mM_readCond_B19
      rw [if_neg (show ¬ nI 1 = (0 : Int32) by decide), if_neg (fun w => by have := (wr_m1 w2).mp w; omega)]
    · rw [w5 0 11 (by omega), hu_fr (by omega)]; exact h11
    · rw [w4 t 5 (by omega)]; exact h5
    · rw [w5 0 16 (by omega), hu_fr (by omega)]; exact h16
    · rw [w5 c i (by omega), hu_fr (by omega)]
  | succ r ih =>
    intro p e fuel fuel2 i k q l opn u Ic Im hr hf hf2 hi h hu hB hl h11 h5 h16 hk hq hA
    have hn := tk_n h
    have hple := h.2.2.2.1
    obtain ⟨fuel, rfl⟩ : ∃ m, fuel = m + 1 := ⟨fuel - 1, by omega⟩
    obtain ⟨fuel2, rfl⟩ : ∃ m, fuel2 = m + 1 := ⟨fuel2 - 1, by omega⟩
    have hkd := tk_kd h
    have h2 : tkP T N n p e Ic (h_u Im 5 (o + k) (nI l)) := tkP_of h (fun _ _ => rfl) (fun _ _ _ _ => rfl) (fun i _ _ => hu_fr (by omega)) (fun i => hu_fr (by omega))
    by_cases nr : e = 0 ∧ relK (tkK T N p) = true
    · obtain ⟨rfl, hrel⟩ := nr
      have hrel2 := of_decide_eq_true hrel
      have hp := hkd.2 (by omega)
      have hA0 := hA rfl
      have hAN := tkA_le T N p
      have hN := h.1.1
      have e7 : Ic 1 7 = nI (tkK T N p) := (kd_is h (by omega)).mpr ⟨rfl, rfl⟩
      obtain ⟨g1, g2, g3⟩ := sg_at h (by omega)
      obtain ⟨⟨c9, c10, c11⟩, m3, m4, m2⟩ := hu
      obtain ⟨I6, hI6⟩ : ∃ J, J = h_u (h_u Im 5 (o + k) (nI l)) 7 (o + k) (nI (tkK T N p)) := ⟨_, rfl⟩
      have f6 : ∀ c i, (c ≠ 5 ∨ i ≠ o + k) → (c ≠ 7 ∨ i ≠ o + k) → I6 c i = Im c i := fun c i w1 w2 => by rw [hI6, hu_fr (by omega), hu_fr (by omega)]
      have h6 : tkP T N n p 0 Ic I6 := tkP_of h (fun _ _ => rfl) (fun _ _ _ _ => rfl) (fun i _ _ => f6 0 i (by omega) (by omega)) (fun i => f6 1 i (by omega) (by omega))
      obtain ⟨Ic7, Im7, x1, x2, x3, x4, x5⟩ := next_both h6 hp
      have e11 : Im7 0 11 = nI q := by rw [x5 0 11 (by omega), f6 0 11 (by omega) (by omega)]; exact h11
      have e16 : Im7 0 16 = nI (o + k) := by rw [x5 0 16 (by omega), f6 0 16 (by omega) (by omega)]; exact h16
      obtain ⟨Ic8, Im8, p1, e1, v, y1, y2, y3, y4, y5, y6, y7, y8, y9, y10⟩ := sum_both x3 (q := q) (by omega) e11
      obtain ⟨⟨d9, d10, d11⟩, n3, n4, n2⟩ := y4
      have hp1 := y3.2.2.2.1
      have t5 : Ic8 t 5 = nI k := by rw [y9 t 5 (by omega), x4 t 5 (by omega)]; exact h5
      obtain ⟨Ic9, hIc9⟩ : ∃ J, J = h_u (h_u (h_u (h_u (h_u (h_u Ic8 (t + 1) k (iI (u 1 - v 1))) (t + 2) k (iI (u 2 - v 2))) (t + 3) k (iI (u 0 - v 0))) (t + 4) k (nI (tkK T N p))) (t + 5) k (bI opn)) t 5 (nI (k + 1)) := ⟨_, rfl⟩
      have fc9 : ∀ c i, (c ≠ t ∨ i ≠ 5) → (c < t + 1 ∨ t + 5 < c ∨ i ≠ k) → Ic9 c i = Ic8 c i := fun c i w1 w2 => by rw [hIc9, hu_fr (by omega), hu_fr (by omega), hu_fr (by omega), hu_fr (by omega), hu_fr (by omega), hu_fr (by omega)]
      have g91 : Ic9 (t + 1) k = iI (u 1 - v 1) := by rw [hIc9, hu_fr (by omega), hu_fr (by omega), hu_fr (by omega), hu_fr (by omega), hu_fr (by omega), h_u_at]
      have g92 : Ic9 (t + 2) k = iI (u 2 - v 2) := by rw [hIc9, hu_fr (by omega), hu_fr (by omega), hu_fr (by omega), hu_fr (by omega), h_u_at]
      have g93 : Ic9 (t + 3) k = iI (u 0 - v 0) := by rw [hIc9, hu_fr (by omega), hu_fr (by omega), hu_fr (by omega), h_u_at]
      have g94 : Ic9 (t + 4) k = nI (tkK T N p) := by rw [hIc9, hu_fr (by omega), hu_fr (by omega), h_u_at]
      have g95 : Ic9 (t + 5) k = bI opn := by rw [hIc9, hu_fr (by omega), h_u_at]
      have g9t : Ic9 t 5 = nI (k + 1) := by rw [hIc9, h_u_at]
      obtain ⟨Im9, hIm9⟩ : ∃ J, J = h_u (h_u (h_u Im8 6 (o + k) (nI q)) 8 (o + k) (nI 1)) 0 16 (nI (o + k + 1)) := ⟨_, rfl⟩
      have fm9 : ∀ c i, (c ≠ 6 ∨ i ≠ o + k) → (c ≠ 8 ∨ i ≠ o + k) → (c ≠ 0 ∨ i ≠ 16) → Im9 c i = Im8 c i := fun c i w1 w2 w3 => by rw [hIm9, hu_fr (by omega), hu_fr (by omega), hu_fr (by omega)]
      have h9 : tkP T N n p1 e1 Ic9 Im9 := tkP_of y3 (fun i hi => fc9 1 i (by omega) (by omega)) (fun c i q1 q2 => fc9 c i (by omega) (by omega)) (fun i _ _ => fm9 0 i (by omega) (by omega) (by omega)) (fun i => fm9 1 i (by omega) (by omega) (by omega))
      -- the class's and the reference's first comparison
      have topC : mRd_readCondition_L4 (fuel + 1) t (bI opn) (nI i) Ic = if (Ic9 1 7) = (266 : Int32) then mRd_readCondition_104 (mRd_readCondition_L4 fuel) t (nI i) Ic9 else (if (Ic9 1 7) = (267 : Int32) then mRd_readCondition_104 (mRd_readCondition_L4 fuel) t (nI i) Ic9 else some Ic9) := by
        show mRd_readCondition_B4 (mRd_readCondition_L4 fuel) _ _ _ _ = _
        unfold mRd_readCondition_B4
        rw [li_500, if_neg (fun q => by have := (nI_leI (by omega) (by omega)).mp q; omega), hl_eq, hl_eq, hl_eq, hl_eq, rd_isRel h, decide_eq_true ⟨rfl, hrel⟩, if_neg (by decide), x1, Option.bind_some, y1, Option.bind_some, c9, c10, c11, d9, d10, d11, iI_sub, iI_sub, iI_sub, e7, cd_add t5 (by omega), Option.bind_some, ← hIc9]
      have topM : mM_readCompare (nI l) Im = some Im9 := by
        have e4 : h_u Im 5 (o + k) (nI l) 0 4 = nI (tkS T N p) := by rw [hu_fr (by omega)]; exact g1
        have e16' : h_u Im 5 (o + k) (nI l) 0 16 = nI (o + k) := by rw [hu_fr (by omega)]; exact h16
        have e1T : h_u Im 5 (o + k) (nI l) 1 (tkS T N p) = nI (tkK T N p) := by rw [hu_fr (by omega)]; exact g3
        have b1 : vp_nar .boolean (1 : Int32) = nI 1 := nar_b true
        unfold mM_readCompare
        rw [h16, hg_in _ (by omega) (by omega), nI_clamp (by omega), hl_eq, m_isRel h2, Option.bind_some, decide_eq_true ⟨rfl, hrel⟩, if_neg (by decide), e4, hg_in _ (by omega) (by omega), e16', hg_in _ (by omega) (by omega), nI_clamp (by omega), nI_clamp (by omega), e1T, hl_eq, ← hI6, x2, Option.bind_some, y2, Option.bind_some, e16, hg_in _ (by omega) (by omega), nI_clamp (by omega), hl_eq]
        dsimp only
        rw [hu_fr (by omega), y10 0 16 (by omega) (by omega), e16, hg_in _ (by omega) (by omega), nI_clamp (by omega), hl_eq, hl_eq, hu_fr (by omega), hu_fr (by omega), y10 0 16 (by omega) (by omega), e16, li_1, nI_add, ← li_1, b1, ← hIm9]
      have itk : itQ o t (q + 1) k Ic9 Im9 := by
        refine ⟨l, q, tkK T N p, u, v, opn, by omega, by omega, ?_, ?_, ?_, ?_, g91, g92, g93, hrel2, g94, ?_, g95⟩
        · rw [fm9 5 _ (by omega) (by omega) (by omega), y10 5 _ (by omega) (by omega), x5 5 _ (by omega), hI6, hu_fr (by omega), h_u_at]
        · rw [hIm9, hu_fr (by omega), hu_fr (by omega), h_u_at]
        · have ff : ∀ c, 2 ≤ c → c ≤ 4 → Im9 c l = Im c l := fun c w1 w2 => by rw [fm9 c l (by omega) (by omega) (by omega), y10 c l (by omega) (by omega), x5 c l (by omega), f6 c l (by omega) (by omega)]
          obtain ⟨b0, b1, b2⟩ := hB
          exact ⟨by rw [ff 2 (by omega) (by omega)]; exact m2, by rw [ff 3 (by omega) (by omega)]; exact m3, by rw [ff 4 (by omega) (by omega)]; exact m4, by omega, by omega, by omega⟩
        · have ff : ∀ c, 2 ≤ c → c ≤ 4 → Im9 c q = Im8 c q := fun c w1 w2 => fm9 c q (by omega) (by omega) (by omega)
          obtain ⟨b0, b1, b2⟩ := y5
          exact ⟨by rw [ff 2 (by omega) (by omega)]; exact n2, by rw [ff 3 (by omega) (by omega)]; exact n3, by rw [ff 4 (by omega) (by omega)]; exact n4, by omega, by omega, by omega⟩
        · rw [fm9 7 _ (by omega) (by omega) (by omega), y10 7 _ (by omega) (by omega), x5 7 _ (by omega), hI6, h_u_at]
      have f11 : Im9 0 11 = nI (q + 1) := by rw [fm9 0 11 (by omega) (by omega) (by omega)]; exact y8
      have f16 : Im9 0 16 = nI (o + (k + 1)) := by rw [hIm9, h_u_at]; rfl
      have f8 : Im9 8 (o + k) = nI 1 := by rw [hIm9, hu_fr (by omega), h_u_at]
      have frc : frD t k Ic Ic9 := fun c i q1 q2 q3 => by rw [fc9 c i (by omega) (by omega), y9 c i (by omega), x4 c i (by omega)]
      have frm : frN o k q Im Im9 := fun c i q1 q2 q3 => by rw [fm9 c i (by omega) (by omega) (by omega), y10 c i (by omega) (by omega), x5 c i (by omega), f6 c i (by omega) (by omega)]
      have k266 := kd_isL h9 (v := 266) (x := 266) rfl (by omega)
      have k267 := kd_isL h9 (v := 267) (x := 267) rfl (by omega)
      have hkd9 := tk_kd h9
      have mono1 := tk_mono h (a := p) (b := p + 1) (by omega) (by omega)
      have mono2 := tk_mono h (a := p + 1) (b := p1) (by omega) (by omega)
      have hAN1 := tkA_le T N p1
      rw [topC, topM, Option.bind_some]
      by_cases z : e1 = 0 ∧ (tkK T N p1 = 266 ∨ tkK T N p1 = 267)
      · obtain ⟨rfl, z1⟩ := z
        have hp1n := hkd9.2 (by omega)
        obtain ⟨_, y7b⟩ := y7 rfl
        -- the next one opens an ALL where an 'or' stands
        obtain ⟨op2, hop2⟩ : ∃ b : Bool, b = decide (tkK T N p1 = 267) := ⟨_, rfl⟩
        obtain ⟨Im10, hIm10⟩ : ∃ J, J = h_u Im9 8 (o + k) (bI op2) := ⟨_, rfl⟩
        have fm10 : ∀ c i, (c ≠ 8 ∨ i ≠ o + k) → Im10 c i = Im9 c i := fun c i w => by rw [hIm10, hu_fr w]
        have h10 : tkP T N n p1 0 Ic9 Im10 := tkP_of h9 (fun _ _ => rfl) (fun _ _ _ _ => rfl) (fun i _ _ => fm10 0 i (by omega)) (fun i => fm10 1 i (by omega))
        obtain ⟨Ic11, Im11, r1, r2, r3, r4, r5⟩ := next_both h10 hp1n
        have e11' : Im11 0 11 = nI (q + 1) := by rw [r5 0 11 (by omega), fm10 0 11 (by omega)]; exact f11
        obtain ⟨Ic12, Im12, p2, e2, u2, s1, s2, s3, s4, s5, s6, s7, s8, s9, s10⟩ := sum_both r3 (q := q + 1) (by omega) e11'
        have hp2 := s3.2.2.2.1
        have wlen : 2 ≤ tkA T N (p1 + 1) - tkA T N p1 := by
          rcases z1 with z1 | z1
          · have := word_len h9 (j := 8) (by omega) z1
            have w8 : wl 8 = 3 := rfl
            omega
          · have := word_len h9 (j := 9) (by omega) z1
            have w9 : wl 9 = 2 := rfl
            omega
        have mono3 := tk_mono h (a := p1 + 1) (b := p2) (by omega) (by omega)
        have hAN2 := tkA_le T N p2
        obtain ⟨Ic', Im', p', e', k', q', a1, a2, a3, a4, a5, a6, a7, a8, a9, a10, a11⟩ := ih p2 e2 fuel fuel2 (i + 1) (k + 1) (q + 2) (q + 1) op2 u2 Ic12 Im12 (by omega) (by omega) (by omega) (by omega) s3 s4 s5 (by omega) s8 (by rw [s9 t 5 (by omega), r4 t 5 (by omega)]; exact g9t) (by rw [s10 0 16 (by omega) (by omega), r5 0 16 (by omega), fm10 0 16 (by omega)]; exact f16) (by omega) (by omega) (fun w => by have := (s7 w).2; omega)
        have F1 : ∀ c i, (c ≠ 1 ∨ i < 6 ∨ 11 < i) → (c ≠ t ∨ i ≠ 5) → (c < t + 1 ∨ t + 5 < c ∨ i < k + 1) → Ic' c i = Ic9 c i := fun c i q1 q2 q3 => by rw [a7 c i q1 q2 q3, s9 c i q1, r4 c i (by omega)]
        have F2 : ∀ c i, (c ≠ 0 ∨ i < 3 ∨ (7 < i ∧ i ≠ 11 ∧ i ≠ 16)) → (c < 2 ∨ 4 < c ∨ i < q + 1 ∨ o + 250 ≤ i) → (c < 5 ∨ 8 < c ∨ i < o + k + 1 ∨ o + 250 ≤ i) → Im' c i = Im10 c i := fun c i q1 q2 q3 => by rw [a8 c i q1 (by omega) (by omega), s10 c i (by omega) (by omega), r5 c i (by omega)]
        refine ⟨Ic', Im', p', e', k', q', ?_, ?_, a3, a4, a5, a6, fun c i q1 q2 q3 => ?_, fun c i q1 q2 q3 => ?_, by omega, by omega, fun w => ?_⟩
        · have t104 : mRd_readCondition_104 (mRd_readCondition_L4 fuel) t (nI i) Ic9 = mRd_readCondition_119 (mRd_readCondition_L4 fuel) t (nI i) (bI op2) Ic9 := by
            unfold mRd_readCondition_104
            by_cases z2 : tkK T N p1 = 267
            · rw [if_pos (k267.mpr ⟨rfl, z2⟩), hop2, decide_eq_true z2]
              rfl
            · rw [if_neg (fun w => z2 (k267.mp w).2), hop2, decide_eq_false z2]
              rfl
          have g119 : mRd_readCondition_119 (mRd_readCondition_L4 fuel) t (nI i) (bI op2) Ic9 = some Ic' := by
            unfold mRd_readCondition_119
            rw [r1, Option.bind_some, s1, Option.bind_some, li_1, nI_add]
            exact a1
          rw [t104, g119]
          rcases z1 with z1 | z1
          · rw [if_pos (k266.mpr ⟨rfl, z1⟩)]
          · rw [if_neg (fun w => by have := (k266.mp w).2; omega), if_pos (k267.mpr ⟨rfl, z1⟩)]
        · have g82 : mM_readCond_82 (mM_readCond_L19 fuel2) (nI 1) (nI (o + k)) (bI op2) Im9 = some Im' := by
            unfold mM_readCond_82
            rw [hg_in _ (by omega) (by omega), nI_clamp (by omega), hl_eq, nar_b, ← hIm10, r2, Option.bind_some, s2, Option.bind_some]
            exact a2
          have e16s : Im9 0 16 - (1 : Int32) = nI (o + k) := by rw [f16, li_1, nI_subN (by omega)]; rfl
          show mM_readCond_B19 (mM_readCond_L19 fuel2) _ _ = _
          unfold mM_readCond_B19
          rw [if_neg (show ¬ nI 1 = (0 : Int32) by decide), if_pos ((wr_m1 h9).mpr rfl), m_isWord h9 (j := 8) (by omega), Option.bind_some]
          rcases z1 with z1 | z1
          · have b0 : op2 = false := by rw [hop2]; exact decide_eq_false (by omega)
            rw [decide_eq_true ⟨rfl, z1⟩, if_neg (by decide)]
            unfold mM_readCond_58
            rw [if_neg (by decide), if_neg (by decide), e16s]
            rw [b0] at g82
            exact g82
          · have b0 : op2 = true := by rw [hop2]; exact decide_eq_true z1
            rw [decide_eq_false (fun w => by omega), if_pos (by decide), m_isWord h9 (j := 9) (by omega), Option.bind_some, decide_eq_true ⟨rfl, z1⟩, if_neg (by decide)]
            unfold mM_readCond_58
            rw [if_neg (by decide), if_pos (by decide), e16s]
            rw [b0] at g82
            exact g82
        · rw [F1 c i q1 q2 (by omega), frc c i q1 q2 q3]
        · rw [F2 c i q1 (by omega) (by omega), fm10 c i (by omega), frm c i q1 q2 q3]
        · obtain ⟨b1, b2, b3, b4, b5, b6⟩ := a11 w
          refine ⟨rfl, by omega, by omega, by omega, ⟨fun j q1 q2 => ?_, fun j q1 q2 => ?_, fun _ => ?_⟩, by rw [F1 (t + 5) k (by omega) (by omega) (by omega)]; exact g95⟩
          · by_cases ej : j = k
            · subst ej
              exact itQ_of itk (by omega) (fun c w1 w2 => F1 c _ (by omega) (by omega) (by omega)) (fun c w1 w2 => by rw [F2 c _ (by omega) (by omega) (by omega), fm10 c _ (by omega)]) (fun c i w1 w2 w3 w4 => by rw [F2 c i (by omega) (by omega) (by omega), fm10 c i (by omega)])
            · exact b5.1 j (by omega) q2
          · by_cases ej : j = k
            · subst ej
              rw [F2 8 _ (by omega) (by omega) (by omega), hIm10, h_u_at, b6]
            · exact b5.2.1 j (by omega) q2
          · exact b5.2.2 (by omega)
      · have n266 : ¬ (e1 = 0 ∧ tkK T N p1 = 266) := fun w => z ⟨w.1, Or.inl w.2⟩
        have n267 : ¬ (e1 = 0 ∧ tkK T N p1 = 267) := fun w => z ⟨w.1, Or.inr w.2⟩
        refine ⟨Ic9, Im9, p1, e1, k + 1, q + 1, ?_, ?_, h9, f11, g9t, f16, frc, frm, ?_, by omega, fun w => ?_⟩
        · rw [if_neg (fun w => n266 (k266.mp w)), if_neg (fun w => n267 (k267.mp w))]
        · obtain ⟨fuel2, rfl⟩ : ∃ m, fuel2 = m + 1 := ⟨fuel2 - 1, by omega⟩
          show mM_readCond_B19 (mM_readCond_L19 (fuel2 + 1)) _ _ = _
          unfold mM_readCond_B19
          rw [if_neg (show ¬ nI 1 = (0 : Int32) by decide)]
          by_cases e10 : e1 = 0
          · rw [if_pos ((wr_m1 h9).mpr e10), m_isWord h9 (j := 8) (by omega), Option.bind_some, decide_eq_false n266, if_pos (by decide), m_isWord h9 (j := 9) (by omega), Option.bind_some, decide_eq_false n267, if_pos (by decide)]
            unfold mM_readCond_58
            rw [if_pos rfl]
            show mM_readCond_B19 (mM_readCond_L19 fuel2) _ _ = _
            unfold mM_readCond_B19
            rw [if_pos rfl]
          · rw [if_neg (fun w => e10 ((wr_m1 h9).mp w))]
        · omega
        · obtain ⟨y7a, y7b⟩ := y7 w
          refine ⟨rfl, by omega, by omega, by omega, ⟨fun j q1 q2 => ?_, fun j q1 q2 => by omega, fun _ => ?_⟩, g95⟩
          · have ej : j = k := by omega
            subst ej
            exact itk
          · exact f8
    · obtain ⟨Ic', e', w1, w2, w3, w4, w5⟩ := fail_both h2
      refine ⟨Ic', mM_bad (h_u Im 5 (o + k) (nI l)), p, e', k, q, ?_, ?_, w2, ?_, ?_, ?_, fun c i q1 q2 q3 => w4 c i (by omega), fun c i q1 q2 q3 => ?_, by omega, by omega, fun z => by omega⟩
      · show mRd_readCondition_B4 (mRd_readCondition_L4 fuel) _ _ _ _ = _
        unfold mRd_readCondition_B4
        rw [li_500, if_neg (fun q => by have := (nI_leI (by omega) (by omega)).mp q; omega), hl_eq, hl_eq, hl_eq, hl_eq, rd_isRel h, decide_eq_false nr, if_pos (by decide), w1, Option.bind_some]
      · unfold mM_readCompare
        rw [h16, hg_in _ (by omega) (by omega), nI_clamp (by omega), hl_eq, m_isRel h2, Option.bind_some, decide_eq_false nr, if_pos (by decide), hl_eq, Option.bind_some]
        show mM_readCond_B19 (mM_readCond_L19 fuel2) _ _ = _
        unfold mM_readCond_B19
        rw [if_neg (show ¬ nI 1 = (0 : Int32) by decide), if_neg (fun w => by have := (wr_m1 w2).mp w; omega)]
      · rw [w5 0 11 (by omega), hu_fr (by omega)]; exact h11
      · rw [w4 t 5 (by omega)]; exact h5
      · rw [w5 0 16 (by omega), hu_fr (by omega)]; exact h16
      · rw [w5 c i (by omega), hu_fr (by omega)]
end Cb
