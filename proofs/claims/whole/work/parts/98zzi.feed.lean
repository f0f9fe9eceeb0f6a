/-! feed: both sides take the same bytes. -/
def btN (v : Int32) (s : Nat) : Nat := (v.toBitVec.toNat >>> s) % 256
theorem btN_lt (v : Int32) (s : Nat) : btN v s < 256 := Nat.mod_lt _ (by decide)
theorem bt_bit (v : Int32) (s i : Nat) : (btN v s).testBit i = (decide (i < 8) && v.toBitVec.toNat.testBit (s + i)) := by
  unfold btN
  rw [show (256 : Nat) = 2 ^ 8 from rfl, Nat.testBit_mod_two_pow, Nat.testBit_shiftRight]
theorem b255 (i : Nat) : Nat.testBit 255 i = decide (i < 8) := by
  rw [show (255 : Nat) = 2 ^ 8 - 1 from rfl, Nat.testBit_two_pow_sub_one]
theorem bt_of {b : BitVec 32} (v : Int32) {s : Nat} (h : ∀ i, i < 8 → b.getLsbD i = v.toBitVec.toNat.testBit (s + i)) : b &&& (nI 255).toBitVec = (nI (btN v s)).toBitVec := by
  apply BitVec.eq_of_getLsbD_eq
  intro i hi
  have e1 : (nI 255).toBitVec = BitVec.ofNat 32 255 := rfl
  have e2 : (nI (btN v s)).toBitVec = BitVec.ofNat 32 (btN v s) := rfl
  rw [BitVec.getLsbD_and, e1, e2, BitVec.getLsbD_ofNat, BitVec.getLsbD_ofNat, b255, bt_bit]
  by_cases c : i < 8
  · rw [h i c]
    simp [c, hi]
  · simp [c]
theorem bt_m (v : Int32) {s : Nat} (hs : s = 0 ∨ s = 8 ∨ s = 16 ∨ s = 24) : (v >>> (nI s &&& nI 31)) &&& nI 255 = nI (btN v s) := by
  apply Int32.toBitVec_inj.mp
  rw [Int32.toBitVec_and]
  refine bt_of v (fun i hi => ?_)
  have e0 : ((nI s &&& nI 31).toBitVec.smod 32).toNat = s := by rcases hs with rfl | rfl | rfl | rfl <;> decide
  show (v.toBitVec.sshiftRight ((nI s &&& nI 31).toBitVec.smod 32).toNat).getLsbD i = _
  rw [e0, BitVec.getLsbD_sshiftRight, if_pos (by omega)]
  have : decide (32 ≤ i) = false := decide_eq_false (by omega)
  rw [this]
  rfl
def shI (j : Nat) : Int32 := Int32.ofInt (24 - 8 * (j : Int))
theorem sh_next : ∀ j, j < 4 → shI j + (-8 : Int32) = shI (j + 1) := by decide
theorem sh_pos : ∀ j, j < 4 → ¬ shI j < 0 := by decide
theorem sh_neg : shI 4 < 0 := by decide
theorem sh_0 : shI 0 = (24 : Int32) := rfl
theorem bt_c (v : Int32) {j : Nat} (hj : j < 4) : ((v.toUInt32 >>> ((shI j).toUInt32 &&& Int32.toUInt32 31)).toInt32) &&& (255 : Int32) = nI (btN v (24 - 8 * j)) := by
  have hc : j = 0 ∨ j = 1 ∨ j = 2 ∨ j = 3 := by omega
  apply Int32.toBitVec_inj.mp
  rw [Int32.toBitVec_and]
  refine bt_of (b := ((v.toUInt32 >>> ((shI j).toUInt32 &&& Int32.toUInt32 31)).toInt32).toBitVec) v (fun i hi => ?_)
  have e : ((v.toUInt32 >>> ((shI j).toUInt32 &&& Int32.toUInt32 31)).toInt32).toBitVec = v.toBitVec >>> (24 - 8 * j) := by
    rcases hc with rfl | rfl | rfl | rfl <;> rfl
  rw [e, BitVec.getLsbD_ushiftRight]
  rfl
/-- the tape behind some bytes -/
def tpN (N : Nat) (bs : Nat → Nat) : Nat → Nat
  | 0 => N
  | k + 1 => tpN N bs k + (if bs k = 0 then 0 else 1)
def tpT (T : Nat → Nat) (N : Nat) (bs : Nat → Nat) : Nat → Nat → Nat
  | 0 => T
  | k + 1 => if bs k = 0 then tpT T N bs k else fun i => if i = tpN N bs k then bs k else tpT T N bs k i
theorem tpN_le (N : Nat) (bs : Nat → Nat) (k : Nat) : ∀ d, tpN N bs k ≤ tpN N bs (k + d) := by
  intro d
  induction d with
  | zero => exact Nat.le_refl _
  | succ d ih =>
    have e : k + (d + 1) = (k + d) + 1 := by omega
    rw [e, tpN]
    omega
theorem tpN_up (N : Nat) (bs : Nat → Nat) : ∀ k, tpN N bs k ≤ N + k := by
  intro k
  induction k with
  | zero => exact Nat.le_refl _
  | succ k ih => rw [tpN]; split <;> omega
section Fe
variable {T : Nat → Nat} {N : Nat} {bs : Nat → Nat}
/-- one more byte on the tape -/
theorem tp_add {k : Nat} {I I' : hI} (h : tpC (tpT T N bs k) (tpN N bs k) I) (hb : bs k < 256) (h0 : bs k ≠ 0) (h5 : tpN N bs k < 500) (e1 : I' 1 1 = nI (tpN N bs k + 1)) (e2 : I' 2 (tpN N bs k) = nI (bs k)) (e3 : ∀ i, i ≠ tpN N bs k → I' 2 i = I 2 i) : tpC (tpT T N bs (k + 1)) (tpN N bs (k + 1)) I' := by
  have n1 : tpN N bs (k + 1) = tpN N bs k + 1 := by rw [tpN, if_neg h0]
  have t1 : ∀ i, tpT T N bs (k + 1) i = if i = tpN N bs k then bs k else tpT T N bs k i := fun i => by rw [tpT, if_neg h0]
  rw [n1]
  refine ⟨by omega, e1, fun i hi => ?_, fun i hi => ?_⟩
  · rw [t1]
    by_cases c : i = tpN N bs k
    · rw [if_pos c, c]; exact e2
    · rw [if_neg c, e3 i c]; exact h.2.2.1 i (by omega)
  · rw [t1]
    by_cases c : i = tpN N bs k
    · rw [if_pos c]; omega
    · rw [if_neg c]; exact h.2.2.2 i (by omega)
/-- the class appends a word -/
theorem ap_L {v : Int32} {k0 : Nat} (hbs : ∀ j, j < 4 → bs (k0 + j) = btN v (24 - 8 * j)) : ∀ (r j fuel : Nat) (I : hI), j + r = 4 → r < fuel → tpC (tpT T N bs (k0 + j)) (tpN N bs (k0 + j)) I → ∃ (b : Bool) (I' : hI), mRd_append_L3 fuel v (shI j) I = some (bI b, I') ∧ b = decide (tpN N bs (k0 + 4) ≤ 500) ∧ (b = true → tpC (tpT T N bs (k0 + 4)) (tpN N bs (k0 + 4)) I') ∧ ∀ c i, (c ≠ 1 ∨ i ≠ 1) → (c ≠ 2 ∨ i < tpN N bs (k0 + j)) → I' c i = I c i := by
  intro r
  induction r with
  | zero =>
    intro j fuel I hj hf h
    obtain ⟨fuel, rfl⟩ : ∃ m, fuel = m + 1 := ⟨fuel - 1, by omega⟩
    have ej : j = 4 := by omega
    subst ej
    refine ⟨true, I, ?_, (decide_eq_true h.1).symm, fun _ => h, fun _ _ _ _ => rfl⟩
    show mRd_append_B3 (mRd_append_L3 fuel) v (shI 4) I = _
    unfold mRd_append_B3
    rw [if_pos sh_neg]
    rfl
  | succ r ih =>
    intro j fuel I hj hf h
    obtain ⟨fuel, rfl⟩ : ∃ m, fuel = m + 1 := ⟨fuel - 1, by omega⟩
    have hb := hbs j (by omega)
    have hlt := btN_lt v (24 - 8 * j)
    have hN := h.1
    have n1 : tpN N bs (k0 + (j + 1)) = tpN N bs (k0 + j) + (if bs (k0 + j) = 0 then 0 else 1) := rfl
    have t1 : tpT T N bs (k0 + (j + 1)) = if bs (k0 + j) = 0 then tpT T N bs (k0 + j) else fun i => if i = tpN N bs (k0 + j) then bs (k0 + j) else tpT T N bs (k0 + j) i := rfl
    have top : mRd_append_L3 (fuel + 1) v (shI j) I = if nI (bs (k0 + j)) = nI 0 then mRd_append_L3 fuel v (shI (j + 1)) I else (if (mC_isOutside (nI (tpN N bs (k0 + j))) (nI 500)) = nI 0 then (h_g (h_in (nI (tpN N bs (k0 + j))) 500) <| h_let (h_u I 2 (nI (tpN N bs (k0 + j))).toNatClampNeg (nI (bs (k0 + j)))) fun I3 => h_let (h_u I3 1 1 ((I3 1 1) + nI 1)) fun I4 => mRd_append_L3 fuel v (shI (j + 1)) I4) else some (nI 0, I)) := by
      show mRd_append_B3 (mRd_append_L3 fuel) v (shI j) I = _
      unfold mRd_append_B3
      rw [if_neg (sh_pos j (by omega)), hl_eq, bt_c v (by omega), ← hb, sh_next j (by omega), h.2.1]
      rfl
    by_cases c : bs (k0 + j) = 0
    · rw [if_pos c] at n1 t1
      rw [Nat.add_zero] at n1
      obtain ⟨b, I', a1, a2, a3, a4⟩ := ih (j + 1) fuel I (by omega) (by omega) (by rw [n1, t1]; exact h)
      refine ⟨b, I', ?_, a2, a3, fun c i w1 w2 => a4 c i w1 (by rw [n1]; exact w2)⟩
      rw [top, if_pos (by rw [c])]
      exact a1
    · rw [if_neg c] at n1
      have c' : ¬ nI (bs (k0 + j)) = nI 0 := fun w => c ((nI_eq (by omega) (by omega)).mp w)
      by_cases d : tpN N bs (k0 + j) < 500
      · have oo : mC_isOutside (nI (tpN N bs (k0 + j))) (nI 500) = nI 0 := by unfold mC_isOutside; simp (disch := omega) only [↓reduceIte, hl_eq, hg_in, hg_zb, hg_z0, hg_z1, hg_nz, Option.bind_some, if_pos, if_neg, bI_0, bI_n0, nI_add, nI_mul, nI_ltI, nI_leI, nI_eq, nI_clamp, nI_subN, nI_divN, nI_mod2, nI_m1e, nI_em1, nI_m2e, nI_lt0, m1_lt0, m1_lt, m1_le, h_u_at, h_u_off2, h_u_pl, li_0, li_1, li_2, li_3, li_4, li_5, li_6, li_7, li_8, li_9, li_10, li_11, li_12, li_13, li_14, li_15, li_16, li_17, li_18, li_19, li_20, li_21, li_22, li_23, li_24, li_25, li_26, li_27, li_28, li_29, li_30, li_31, li_32, li_40, li_43, li_45, li_47, li_48, li_57, li_59, li_60, li_61, li_62, li_63, li_64, li_80, li_92, li_97, li_99, li_100, li_122, li_123, li_125, li_166, li_201, li_210, li_250, li_255, li_256, li_257, li_258, li_259, li_260, li_261, li_262, li_263, li_264, li_265, li_266, li_267, li_268, li_300, li_500, li_1000, li_12345, li_27720, li_1000000, li_1103515245, ne_m1, ne_m2]
        obtain ⟨I4, hI4⟩ : ∃ J, J = h_u (h_u I 2 (tpN N bs (k0 + j)) (nI (bs (k0 + j)))) 1 1 (nI (tpN N bs (k0 + j) + 1)) := ⟨_, rfl⟩
        have f4 : ∀ c i, (c ≠ 1 ∨ i ≠ 1) → (c ≠ 2 ∨ i ≠ tpN N bs (k0 + j)) → I4 c i = I c i := fun c i w1 w2 => by rw [hI4, hu_fr w1, hu_fr w2]
        have h4 : tpC (tpT T N bs (k0 + (j + 1))) (tpN N bs (k0 + (j + 1))) I4 := tp_add (k := k0 + j) h (by omega) c d (by rw [hI4, h_u_at]) (by rw [hI4, hu_fr (by omega), h_u_at]) (fun i w => f4 2 i (by omega) (by omega))
        obtain ⟨b, I', a1, a2, a3, a4⟩ := ih (j + 1) fuel I4 (by omega) (by omega) h4
        refine ⟨b, I', ?_, a2, a3, fun c i w1 w2 => by rw [a4 c i w1 (by omega), f4 c i w1 (by omega)]⟩
        rw [top, if_neg c', oo, if_pos rfl, hg_in _ (by omega) (by omega), hl_eq, hl_eq, nI_clamp (by omega), hu_fr (show (1 : Nat) ≠ 2 ∨ 1 ≠ tpN N bs (k0 + j) by omega), h.2.1, nI_add, ← hI4]
        exact a1
      · have oo : mC_isOutside (nI (tpN N bs (k0 + j))) (nI 500) = nI 1 := by unfold mC_isOutside; simp (disch := omega) only [↓reduceIte, hl_eq, hg_in, hg_zb, hg_z0, hg_z1, hg_nz, Option.bind_some, if_pos, if_neg, bI_0, bI_n0, nI_add, nI_mul, nI_ltI, nI_leI, nI_eq, nI_clamp, nI_subN, nI_divN, nI_mod2, nI_m1e, nI_em1, nI_m2e, nI_lt0, m1_lt0, m1_lt, m1_le, h_u_at, h_u_off2, h_u_pl, li_0, li_1, li_2, li_3, li_4, li_5, li_6, li_7, li_8, li_9, li_10, li_11, li_12, li_13, li_14, li_15, li_16, li_17, li_18, li_19, li_20, li_21, li_22, li_23, li_24, li_25, li_26, li_27, li_28, li_29, li_30, li_31, li_32, li_40, li_43, li_45, li_47, li_48, li_57, li_59, li_60, li_61, li_62, li_63, li_64, li_80, li_92, li_97, li_99, li_100, li_122, li_123, li_125, li_166, li_201, li_210, li_250, li_255, li_256, li_257, li_258, li_259, li_260, li_261, li_262, li_263, li_264, li_265, li_266, li_267, li_268, li_300, li_500, li_1000, li_12345, li_27720, li_1000000, li_1103515245, ne_m1, ne_m2]
        have hle := tpN_le N bs (k0 + (j + 1)) (4 - (j + 1))
        have e4 : k0 + (j + 1) + (4 - (j + 1)) = k0 + 4 := by omega
        rw [e4] at hle
        refine ⟨false, I, ?_, (decide_eq_false (by omega)).symm, fun w => (by cases w), fun _ _ _ _ => rfl⟩
        rw [top, if_neg c', oo, if_neg (by decide)]
        rfl
theorem ap_word {v : Int32} {k0 : Nat} (hbs : ∀ j, j < 4 → bs (k0 + j) = btN v (24 - 8 * j)) {I : hI} (h : tpC (tpT T N bs k0) (tpN N bs k0) I) : ∃ (b : Bool) (I' : hI), mRd_append v I = some (bI b, I') ∧ b = decide (tpN N bs (k0 + 4) ≤ 500) ∧ (b = true → tpC (tpT T N bs (k0 + 4)) (tpN N bs (k0 + 4)) I') ∧ ∀ c i, (c ≠ 1 ∨ i ≠ 1) → (c ≠ 2 ∨ i < tpN N bs k0) → I' c i = I c i := by
  have a := ap_L (T := T) (N := N) hbs 4 0 hF I (by omega) (by unfold hF; omega) h
  unfold mRd_append
  rw [← sh_0]
  exact a
/-- the class feeds -/
theorem c_feed {v1 v2 v3 v4 v5 : Int32} (b1 : ∀ j, j < 4 → bs (0 + j) = btN v1 (24 - 8 * j)) (b2 : ∀ j, j < 4 → bs (4 + j) = btN v2 (24 - 8 * j)) (b3 : ∀ j, j < 4 → bs (8 + j) = btN v3 (24 - 8 * j)) (b4 : ∀ j, j < 4 → bs (12 + j) = btN v4 (24 - 8 * j)) (b5 : ∀ j, j < 4 → bs (16 + j) = btN v5 (24 - 8 * j)) {I : hI} (h : tpC T N I) : (tpN N bs 20 ≤ 500 ∧ ∃ I', mC_feed v1 v2 v3 v4 v5 I = some (nI (tpN N bs 20), I') ∧ tpC (tpT T N bs 20) (tpN N bs 20) I' ∧ ∀ c i, (c ≠ 1 ∨ i ≠ 1) → c ≠ 2 → I' c i = I c i) ∨ (500 < tpN N bs 20 ∧ ∃ I', mC_feed v1 v2 v3 v4 v5 I = some ((-1 : Int32), I') ∧ tpC T N I' ∧ ∀ c i, (c ≠ 1 ∨ i ≠ 1) → c ≠ 2 → I' c i = I c i) := by
  have hN := h.1
  -- a word that doesn't go on the tape
  have bad : ∀ (I' : hI), (∀ c i, (c ≠ 1 ∨ i ≠ 1) → (c ≠ 2 ∨ i < N) → I' c i = I c i) → ∃ I'', mC_feed_74 (nI N) I' = some ((-1 : Int32), I'') ∧ tpC T N I'' ∧ ∀ c i, (c ≠ 1 ∨ i ≠ 1) → c ≠ 2 → I'' c i = I c i := fun I' w => by
    refine ⟨h_u I' 1 1 (nI N), ?_, ⟨hN, h_u_at _ _ _ _, fun i hi => by rw [hu_fr (by omega), w 2 i (by omega) (by omega)]; exact h.2.2.1 i hi, h.2.2.2⟩, fun c i q1 q2 => by rw [hu_fr q1, w c i q1 (by omega)]⟩
    unfold mC_feed_74
    rw [hl_eq]
  have up : ∀ k, k ≤ 20 → 500 < tpN N bs k → 500 < tpN N bs 20 := fun k hk w => by
    have := tpN_le N bs k (20 - k)
    have e : k + (20 - k) = 20 := by omega
    rw [e] at this
    omega
  have lo : ∀ k, N ≤ tpN N bs k := fun k => by
    have := tpN_le N bs 0 k
    rw [Nat.zero_add] at this
    exact this
  have z1 : ¬ bI true = (0 : Int32) := by decide
  have z0 : bI false = (0 : Int32) := rfl
  unfold mC_feed
  rw [hl_eq, h.2.1]
  obtain ⟨c1, I1, x1, y1, w1, f1⟩ := ap_word (T := T) (N := N) b1 (I := I) h
  rw [x1, Option.bind_some]
  cases c1
  · have hb : ¬ tpN N bs 4 ≤ 500 := of_decide_eq_false y1.symm
    obtain ⟨I'', r1, r2, r3⟩ := bad I1 (fun c i q1 q2 => f1 c i q1 (by rcases q2 with q | q; exact Or.inl q; exact Or.inr (by have := lo 0; omega)))
    refine Or.inr ⟨up 4 (by omega) (by omega), I'', ?_, r2, r3⟩
    rw [if_pos (show ((bI false, I1) : Int32 × hI).1 = (0 : Int32) from z0)]
    exact r1
  rw [if_neg (show ¬ ((bI true, I1) : Int32 × hI).1 = (0 : Int32) from z1)]
  obtain ⟨c2, I2, x2, y2, w2, f2⟩ := ap_word (T := T) (N := N) b2 (I := I1) (w1 rfl)
  have g2 : ∀ c i, (c ≠ 1 ∨ i ≠ 1) → (c ≠ 2 ∨ i < N) → I2 c i = I c i := fun c i q1 q2 => by rw [f2 c i q1 (by have := lo 4; omega), f1 c i q1 (by have := lo 0; omega)]
  rw [show ((bI true, I1) : Int32 × hI).2 = I1 from rfl, x2, Option.bind_some]
  cases c2
  · have hb : ¬ tpN N bs 8 ≤ 500 := of_decide_eq_false y2.symm
    obtain ⟨I'', r1, r2, r3⟩ := bad I2 g2
    refine Or.inr ⟨up 8 (by omega) (by omega), I'', ?_, r2, r3⟩
    rw [if_pos (show ((bI false, I2) : Int32 × hI).1 = (0 : Int32) from z0)]
    exact r1
  rw [if_neg (show ¬ ((bI true, I2) : Int32 × hI).1 = (0 : Int32) from z1)]
  obtain ⟨c3, I3, x3, y3, w3, f3⟩ := ap_word (T := T) (N := N) b3 (I := I2) (w2 rfl)
  have g3 : ∀ c i, (c ≠ 1 ∨ i ≠ 1) → (c ≠ 2 ∨ i < N) → I3 c i = I c i := fun c i q1 q2 => by rw [f3 c i q1 (by have := lo 8; omega), g2 c i q1 q2]
  rw [show ((bI true, I2) : Int32 × hI).2 = I2 from rfl, x3, Option.bind_some]
  cases c3
  · have hb : ¬ tpN N bs 12 ≤ 500 := of_decide_eq_false y3.symm
    obtain ⟨I'', r1, r2, r3⟩ := bad I3 g3
    refine Or.inr ⟨up 12 (by omega) (by omega), I'', ?_, r2, r3⟩
    rw [if_pos (show ((bI false, I3) : Int32 × hI).1 = (0 : Int32) from z0)]
    exact r1
  rw [if_neg (show ¬ ((bI true, I3) : Int32 × hI).1 = (0 : Int32) from z1)]
  obtain ⟨c4, I4, x4, y4, w4, f4⟩ := ap_word (T := T) (N := N) b4 (I := I3) (w3 rfl)
  have g4 : ∀ c i, (c ≠ 1 ∨ i ≠ 1) → (c ≠ 2 ∨ i < N) → I4 c i = I c i := fun c i q1 q2 => by rw [f4 c i q1 (by have := lo 12; omega), g3 c i q1 q2]
  rw [show ((bI true, I3) : Int32 × hI).2 = I3 from rfl, x4, Option.bind_some]
  cases c4
  · have hb : ¬ tpN N bs 16 ≤ 500 := of_decide_eq_false y4.symm
    obtain ⟨I'', r1, r2, r3⟩ := bad I4 g4
    refine Or.inr ⟨up 16 (by omega) (by omega), I'', ?_, r2, r3⟩
    rw [if_pos (show ((bI false, I4) : Int32 × hI).1 = (0 : Int32) from z0)]
    exact r1
  rw [if_neg (show ¬ ((bI true, I4) : Int32 × hI).1 = (0 : Int32) from z1)]
  obtain ⟨c5, I5, x5, y5, w5, f5⟩ := ap_word (T := T) (N := N) b5 (I := I4) (w4 rfl)
  have g5 : ∀ c i, (c ≠ 1 ∨ i ≠ 1) → (c ≠ 2 ∨ i < N) → I5 c i = I c i := fun c i q1 q2 => by rw [f5 c i q1 (by have := lo 16; omega), g4 c i q1 q2]
  rw [show ((bI true, I4) : Int32 × hI).2 = I4 from rfl, x5, Option.bind_some]
  cases c5
  · have hb : ¬ tpN N bs 20 ≤ 500 := of_decide_eq_false y5.symm
    obtain ⟨I'', r1, r2, r3⟩ := bad I5 g5
    refine Or.inr ⟨by omega, I'', ?_, r2, r3⟩
    rw [if_pos (show ((bI false, I5) : Int32 × hI).1 = (0 : Int32) from z0)]
    exact r1
  rw [if_neg (show ¬ ((bI true, I5) : Int32 × hI).1 = (0 : Int32) from z1)]
  have hb : tpN N bs 20 ≤ 500 := of_decide_eq_true y5.symm
  have w5' := w5 rfl
  exact Or.inl ⟨hb, I5, by rw [show ((bI true, I5) : Int32 × hI).2 = I5 from rfl, w5'.2.1], w5', fun c i q1 q2 => g5 c i q1 (by omega)⟩
end Fe
