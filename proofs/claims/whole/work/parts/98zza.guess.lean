/-! A GUESS's text: both readers read it alike. -/
def FG (t j k : Nat) (I I' : hI) : Prop := ∀ c i, (c ≠ 1 ∨ i < 6 ∨ 11 < i) → (c ≠ t ∨ i ≠ 7) → (c ≠ t + 1 ∨ i ≠ 5) → (c < t + 2 ∨ t + 6 < c ∨ i < k) → (c < t + 7 ∨ t + 12 < c ∨ i < j) → I' c i = I c i
def FH (j k q : Nat) (I I' : hI) : Prop := ∀ c i, (c ≠ 0 ∨ i < 3 ∨ (7 < i ∧ i ≠ 11 ∧ i ≠ 16 ∧ i ≠ 36)) → (c < 2 ∨ 4 < c ∨ i < 250 + q ∨ 500 ≤ i) → (c < 5 ∨ 8 < c ∨ i < 250 + k ∨ 500 ≤ i) → (c < 16 ∨ 19 < c ∨ i < j) → I' c i = I c i
/-- a piece that both hold; its condition -/
def pcR (t q x : Nat) (Ic Im : hI) : Prop := ∃ (l by1 : Nat) (u : Nat → Int), (250 ≤ l ∧ l < 250 + q) ∧ Im 18 x = nI l ∧ smQ l u Im ∧ Ic (t + 7) x = iI (u 1) ∧ Ic (t + 8) x = iI (u 2) ∧ Ic (t + 9) x = iI (u 0) ∧ (1 ≤ by1 ∧ by1 ≤ 12) ∧ Ic (t + 10) x = nI by1 ∧ Im 19 x = nI by1
def cdG (t K q x : Nat) (Ic Im : hI) : Prop := ∃ c2 c3, c2 < c3 ∧ c3 ≤ K ∧ Ic (t + 11) x = nI c2 ∧ Ic (t + 12) x = nI c3 ∧ Im 16 x = nI (250 + c2) ∧ Im 17 x = nI (250 + c3) ∧ cnR 250 (t + 1) (250 + q) c2 c3 Ic Im ∧ Ic (t + 6) c2 = nI 1
def guS (t j k q : Nat) (Ic Im : hI) : Prop := (Ic t 7 = nI j ∧ Im 0 36 = nI j) ∧ (Ic (t + 1) 5 = nI k ∧ Im 0 16 = nI (250 + k) ∧ Im 0 11 = nI (250 + q)) ∧ k ≤ 100 ∧ q ≤ 2 * k + j
/-- what both have of a GUESS that was read to its end -/
def gdR (t J k q : Nat) (Ic Im : hI) : Prop := (1 ≤ J ∧ J ≤ 8) ∧ guS t J k q Ic Im ∧ (∀ x, x < J → pcR t q x Ic Im) ∧ (∀ x, x + 1 < J → cdG t k q x Ic Im) ∧ Im 16 (J - 1) = Im 17 (J - 1)
def GCg (t : Nat) (I I' : hI) : Prop := ∀ c i, (c < 1 ∨ c = 2 ∨ 5 < c ∨ (c = 1 ∧ i < 5)) → (c < t ∨ t + 13 ≤ c) → I' c i = I c i
def GMg (I I' : hI) : Prop := ∀ c i, (c ≠ 0 ∨ i < 3 ∨ (7 < i ∧ i ≠ 11 ∧ i ≠ 16 ∧ i ≠ 36)) → (c < 2 ∨ 8 < c ∨ i < 250 ∨ 500 ≤ i) → (c < 16 ∨ 19 < c) → I' c i = I c i
theorem pcR_of {t j k q q' x : Nat} {Ic Im Ic' Im' : hI} (h : pcR t q x Ic Im) (ht : 61 ≤ t) (hc : FG t j k Ic Ic') (hm : FH j k q Im Im') (hx : x < j) (hq : q ≤ q') : pcR t q' x Ic' Im' := by
  obtain ⟨l, by1, u, a1, a2, a3, a4, a5, a6, a7, a8, a9⟩ := h
  exact ⟨l, by1, u, by omega, by rw [hm 18 x (by omega) (by omega) (by omega) (by omega)]; exact a2, smQ_of a3 (fun c q1 q2 => hm c l (by omega) (by omega) (by omega) (by omega)), by rw [hc _ x (by omega) (by omega) (by omega) (by omega) (by omega)]; exact a4, by rw [hc _ x (by omega) (by omega) (by omega) (by omega) (by omega)]; exact a5, by rw [hc _ x (by omega) (by omega) (by omega) (by omega) (by omega)]; exact a6, a7, by rw [hc _ x (by omega) (by omega) (by omega) (by omega) (by omega)]; exact a8, by rw [hm 19 x (by omega) (by omega) (by omega) (by omega)]; exact a9⟩
theorem cdG_of {t j k k' q q' x : Nat} {Ic Im Ic' Im' : hI} (h : cdG t k q x Ic Im) (ht : 61 ≤ t) (hc : FG t j k Ic Ic') (hm : FH j k q Im Im') (hx : x < j) (hk : k ≤ k') (hq : q ≤ q') : cdG t k' q' x Ic' Im' := by
  obtain ⟨c2, c3, a1, a2, a3, a4, a5, a6, a7, a8⟩ := h
  exact ⟨c2, c3, a1, by omega, by rw [hc _ x (by omega) (by omega) (by omega) (by omega) (by omega)]; exact a3, by rw [hc _ x (by omega) (by omega) (by omega) (by omega) (by omega)]; exact a4, by rw [hm 16 x (by omega) (by omega) (by omega) (by omega)]; exact a5, by rw [hm 17 x (by omega) (by omega) (by omega) (by omega)]; exact a6, cnR_of a7 (by omega) (fun c i q1 q2 q3 q4 => hc c i (by omega) (by omega) (by omega) (by omega) (by omega)) (fun c i q1 q2 q3 q4 => hm c i (by omega) (by omega) (by omega) (by omega)) (fun c i q1 q2 q3 q4 => hm c i (by omega) (by omega) (by omega) (by omega)), by rw [hc _ c2 (by omega) (by omega) (by omega) (by omega) (by omega)]; exact a8⟩
section Gu
variable {T : Nat → Nat} {N n p e t : Nat} {Ic Im : hI}
theorem piece_both (ht : 61 ≤ t) (h : tkP T N n p 0 Ic Im) {j k q : Nat} (hj : j < 8) (hg : guS t j k q Ic Im) (hA : 5 * k ≤ tkA T N p) : ∃ (b has : Bool) (Ic' Im' : hI) (p' e' : Nat), mGt_readPiece t Ic = some (bI b, Ic') ∧ mM_readPiece Im = some (bI has, Im') ∧ tkP T N n p' e' Ic' Im' ∧ p ≤ p' ∧ b = (has && decide (e' = 0)) ∧ FG t j k Ic Ic' ∧ FH j k q Im Im' ∧ (e' = 0 → ∃ k' q', guS t (j + 1) k' q' Ic' Im' ∧ k ≤ k' ∧ q ≤ q' ∧ (has = true → 5 * k' ≤ tkA T N p') ∧ pcR t q' j Ic' Im' ∧ (has = true → cdG t k' q' j Ic' Im') ∧ (has = false → Im' 16 j = Im' 17 j)) := by
  have hn := tk_n h
  obtain ⟨⟨h7, h36⟩, ⟨h15, h16, h11⟩, hk, hq⟩ := hg
  obtain ⟨J, hJ⟩ : ∃ J, J = h_u Ic (t + 11) j (nI k) := ⟨_, rfl⟩
  have fJ : ∀ c i, (c ≠ t + 11 ∨ i ≠ j) → J c i = Ic c i := fun c i w => by rw [hJ, hu_fr w]
  obtain ⟨M, hM⟩ : ∃ J, J = h_u (h_u Im 0 36 (nI (j + 1))) 16 j (nI (250 + k)) := ⟨_, rfl⟩
  have fM : ∀ c i, (c ≠ 0 ∨ i ≠ 36) → (c ≠ 16 ∨ i ≠ j) → M c i = Im c i := fun c i w1 w2 => by rw [hM, hu_fr w2, hu_fr w1]
  have kJ : tkP T N n p 0 J M := tkP_of h (fun i _ => fJ 1 i (by omega)) (fun c i _ _ => fJ c i (by omega)) (fun i _ _ => fM 0 i (by omega) (by omega)) (fun i => fM 1 i (by omega) (by omega))
  obtain ⟨Ic3, Im3, p3, e3, u, z1, z2, z3, z4, z5, z6, z7, z8, z9, z10⟩ := sum_both kJ (q := 250 + q) (by omega) (by rw [fM 0 11 (by omega) (by omega)]; exact h11)
  have hp3 := z3.2.2.2.1
  have hm3 := tk_mono h (a := p) (b := p3) (by omega) hp3
  have e37 : Ic3 t 7 = nI j := by rw [z9 t 7 (by omega), fJ t 7 (by omega)]; exact h7
  have e315 : Ic3 (t + 1) 5 = nI k := by rw [z9 (t + 1) 5 (by omega), fJ (t + 1) 5 (by omega)]; exact h15
  have e316 : Im3 0 16 = nI (250 + k) := by rw [z10 0 16 (by omega) (by omega), fM 0 16 (by omega) (by omega)]; exact h16
  have e336 : Im3 0 36 = nI (j + 1) := by rw [z10 0 36 (by omega) (by omega), hM, hu_fr (by omega), h_u_at]
  have e3c : Ic3 (t + 11) j = nI k := by rw [z9 _ j (by omega), hJ, h_u_at]
  have e3m : Im3 16 j = nI (250 + k) := by rw [z10 16 j (by omega) (by omega), hM, h_u_at]
  have F3 : FG t j k Ic Ic3 := fun c i w1 w2 w3 w4 w5 => by rw [z9 c i w1, fJ c i (by omega)]
  have H3 : FH j k q Im Im3 := fun c i w1 w2 w3 w4 => by rw [z10 c i (by omega) (by omega), fM c i (by omega) (by omega)]
  have topC : mGt_readPiece t Ic = h_let (mRd_isAtRelation Ic3) fun v2x3 => if v2x3 = 0 then mGt_readPiece_62 t v2x3 Ic3 else ((mRd_readCondition (t + 1) Ic3).bind fun q5 => (mRd_take (63 : Int32) q5).bind fun q6 => (mRd_readSum q6).bind fun q7 => mGt_readPiece_62 t v2x3 q7) := by
    unfold mGt_readPiece
    rw [h7, li_8, if_pos ((nI_ltI (by omega) (by omega)).mpr hj), hg_in _ hj (by omega), hl_eq, nI_clamp (by omega), h15, ← hJ, z1, Option.bind_some]
  have topM : mM_readPiece Im = ((mM_isRelation Im3).bind fun q7 => if q7 = 0 then mM_readPiece_67 (nI j) (nI (250 + q)) q7 Im3 else ((mM_readCond (nI (250 + q)) Im3).bind fun q8 => (mM_must (63 : Int32) q8).bind fun q9 => if (q9 0 5) = (-1 : Int32) then ((mM_readSum q9).bind fun q10 => mM_readPiece_66 (nI j) q7 q10.1 q10.2) else mM_readPiece_66 (nI j) q7 (0 : Int32) q9)) := by
    have e1 : nI j + (1 : Int32) = nI (j + 1) := by rw [li_1, nI_add]
    unfold mM_readPiece
    rw [hl_eq, h36, hl_eq, e1, hg_in _ hj (by omega), hl_eq, nI_clamp (by omega), hu_fr (show (0 : Nat) ≠ 0 ∨ 16 ≠ 36 by omega), h16, ← hM, z2, Option.bind_some, hl_eq]
  rw [topC, topM, hl_eq, rd_isRel z3, m_isRel z3, Option.bind_some]
  by_cases has : e3 = 0 ∧ relK (tkK T N p3) = true
  · rw [decide_eq_true has, if_neg (by decide), if_neg (by decide)]
    obtain ⟨rfl, hrel⟩ := has
    obtain ⟨_, hpp⟩ := z7 rfl
    obtain ⟨Ic4, Im4, p4, e4, k4, q4, y1, y2, y3, y4, y5, y6, y7, y8, y9, y10, y11⟩ := cond_L (T := T) (N := N) (n := n) (o := 250) (t := t + 1) (m := j + 1) (d := 1) (by omega) (by omega) (by omega) (by omega) (n - p3) p3 0 hF hF 0 k (250 + q + 1) (250 + q) true u Ic3 Im3 (by omega) (by unfold hF; omega) (by unfold hF; omega) (by omega) z3 z4 z5 (by omega) z8 e315 e316 hk (by omega) (fun _ => by omega)
    have hp4 := y3.2.2.2.1
    obtain ⟨Ic5, Im5, p5, e5, x1, x2, x3, x4, x5, xp, x6⟩ := take_both y3 (c := 63) (by omega)
    have hp5 := x3.2.2.2.1
    have y1' : mRd_readCondition (t + 1) Ic3 = some Ic4 := y1
    have y2' : mM_readCond (nI (250 + q)) Im3 = some Im4 := by
      unfold mM_readCond mM_readCond_14
      rw [if_neg (nI_nem1 (by omega))]
      exact y2
    have x1' : mRd_take (63 : Int32) Ic4 = some Ic5 := x1
    have x2' : mM_must (63 : Int32) Im4 = some Im5 := x2
    rw [y1', Option.bind_some, x1', Option.bind_some, y2', Option.bind_some, x2', Option.bind_some]
    have F5 : FG t j k Ic Ic5 := fun c i w1 w2 w3 w4 w5 => by rw [x4 c i (by omega), y7 c i w1 w3 (by omega)]; exact F3 c i w1 w2 w3 w4 w5
    have H5 : FH j k q Im Im5 := fun c i w1 w2 w3 w4 => by rw [x5 c i (by omega), y8 c i (by omega) (by omega) (by omega)]; exact H3 c i w1 w2 w3 w4
    have e57 : Ic5 t 7 = nI j := by rw [x4 t 7 (by omega), y7 t 7 (by omega) (by omega) (by omega)]; exact e37
    have e515 : Ic5 (t + 1) 5 = nI k4 := by rw [x4 (t + 1) 5 (by omega)]; exact y5
    have e516 : Im5 0 16 = nI (250 + k4) := by rw [x5 0 16 (by omega)]; exact y6
    by_cases he5 : e5 = 0
    · subst he5
      obtain ⟨rfl, _, hp4n, rfl⟩ := x6 rfl
      obtain ⟨_, b2, b3, b4, b5, b6⟩ := y11 rfl
      obtain ⟨Ic6, Im6, p6, e6, v, s1, s2, s3, s4, s5, s6, s7, s8, s9, s10⟩ := sum_both x3 (q := q4) (by omega) (by rw [x5 0 11 (by omega)]; exact y4)
      have hp6 := s3.2.2.2.1
      obtain ⟨⟨c9, c10, c11⟩, n3, n4, n2⟩ := s4
      obtain ⟨b, Ic', Im', p', e', by1, r1, r2, r3, r4, r5, r6, ⟨r7a, r7b, r7c, r7d, r7e, r7f⟩, ⟨r8a, r8b, r8c, r8d⟩, r9, r10, r11⟩ := pt_both ht s3 hj (show k4 ≤ 200 by omega) (by rw [s9 t 7 (by omega)]; exact e57) (by rw [s9 (t + 1) 5 (by omega)]; exact e515) (by rw [s10 0 16 (by omega) (by omega)]; exact e516) true (nI q4)
      have hp' := r3.2.2.2.1
      refine ⟨b, true, Ic', Im', p', e', ?_, ?_, r3, by omega, r5, fun c i w1 w2 w3 w4 w5 => ?_, fun c i w1 w2 w3 w4 => ?_, fun z => ?_⟩
      · rw [s1, Option.bind_some]
        exact r1
      · rw [if_pos ((wr_m1 x3).mpr rfl), s2, Option.bind_some]
        exact r2
      · rw [r10 c i (by omega) w2 (by omega), s9 c i w1]; exact F5 c i w1 w2 w3 w4 w5
      · rw [r11 c i (by omega) (by omega), s10 c i (by omega) (by omega)]; exact H5 c i w1 w2 w3 w4
      · obtain ⟨d1, d2⟩ := r9 z
        have d2 := d2 rfl
        have hm1 := tk_mono h (a := p4) (b := p4 + 1) (by omega) (by omega)
        have hm2 := tk_mono h (a := p4 + 1) (b := p6) (by omega) (by omega)
        have hm4 := tk_mono h (a := p6) (b := p') (by omega) (by omega)
        obtain ⟨_, d3⟩ := s7 d1
        refine ⟨k4, q4 + 1 - 250, ⟨⟨r6, ?_⟩, ⟨?_, ?_, ?_⟩, by omega, by omega⟩, by omega, by omega, fun _ => by omega, ⟨q4, by1, v, by omega, r7f, ?_, by rw [r7b]; exact c9, by rw [r7c]; exact c10, by rw [r7d]; exact c11, ⟨r8a, r8b⟩, r8c, r8d⟩, fun _ => ⟨k, k4, b2, Nat.le_refl _, ?_, r7a, ?_, r7e, ?_, ?_⟩, fun w => by cases w⟩
        · rw [r11 0 36 (by omega) (by omega), s10 0 36 (by omega) (by omega), x5 0 36 (by omega), y8 0 36 (by omega) (by omega) (by omega)]; exact e336
        · rw [r10 (t + 1) 5 (by omega) (by omega) (by omega), s9 (t + 1) 5 (by omega)]; exact e515
        · rw [r11 0 16 (by omega) (by omega), s10 0 16 (by omega) (by omega)]; exact e516
        · have eq1 : 250 + (q4 + 1 - 250) = q4 + 1 := by omega
          rw [r11 0 11 (by omega) (by omega), s8, eq1]
        · have ff : ∀ c, 2 ≤ c → c ≤ 4 → Im' c q4 = Im6 c q4 := fun c w1 w2 => r11 c q4 (by omega) (by omega)
          obtain ⟨t0, t1, t2⟩ := s5
          exact ⟨by rw [ff 2 (by omega) (by omega)]; exact n2, by rw [ff 3 (by omega) (by omega)]; exact n3, by rw [ff 4 (by omega) (by omega)]; exact n4, by omega, by omega, by omega⟩
        · rw [r10 _ j (by omega) (by omega) (by omega), s9 _ j (by omega), x4 _ j (by omega), y7 _ j (by omega) (by omega) (by omega)]; exact e3c
        · rw [r11 16 j (by omega) (by omega), s10 16 j (by omega) (by omega), x5 16 j (by omega), y8 16 j (by omega) (by omega) (by omega)]; exact e3m
        · exact cnR_of b5 (by omega) (fun c i w1 w2 w3 w4 => by rw [r10 c i (by omega) (by omega) (by omega), s9 c i (by omega), x4 c i (by omega)]) (fun c i w1 w2 w3 w4 => by rw [r11 c i (by omega) (by omega), s10 c i (by omega) (by omega), x5 c i (by omega)]) (fun c i w1 w2 w3 w4 => by rw [r11 c i (by omega) (by omega), s10 c i (by omega) (by omega), x5 c i (by omega)])
        · rw [r10 (t + 6) k (by omega) (by omega) (by omega), s9 (t + 6) k (by omega), x4 (t + 6) k (by omega)]; exact b6
    · obtain ⟨Ic6, s1, s2, s3⟩ := sum_bad x3 (by omega)
      obtain ⟨b, Ic', Im', p', e', by1, r1, r2, r3, r4, r5, r6, r7, r8, r9, r10, r11⟩ := pt_both ht s2 hj (show k4 ≤ 200 by omega) (by rw [s3 t 7 (by omega)]; exact e57) (by rw [s3 (t + 1) 5 (by omega)]; exact e515) e516 true (0 : Int32)
      refine ⟨b, true, Ic', Im', p', e', ?_, ?_, r3, by omega, r5, fun c i w1 w2 w3 w4 w5 => ?_, fun c i w1 w2 w3 w4 => ?_, fun z => absurd (r9 z).1 he5⟩
      · rw [s1, Option.bind_some]
        exact r1
      · rw [if_neg (fun w => he5 ((wr_m1 x3).mp w))]
        exact r2
      · rw [r10 c i (by omega) w2 (by omega), s3 c i w1]; exact F5 c i w1 w2 w3 w4 w5
      · rw [r11 c i (by omega) (by omega)]; exact H5 c i w1 w2 w3 w4
  · rw [decide_eq_false has, if_pos (by decide), if_pos (by decide)]
    obtain ⟨b, Ic', Im', p', e', by1, r1, r2, r3, r4, r5, r6, ⟨r7a, r7b, r7c, r7d, r7e, r7f⟩, ⟨r8a, r8b, r8c, r8d⟩, r9, r10, r11⟩ := pt_both ht z3 hj (show k ≤ 200 by omega) e37 e315 e316 false (nI (250 + q))
    obtain ⟨⟨c9, c10, c11⟩, n3, n4, n2⟩ := z4
    refine ⟨b, false, Ic', Im', p', e', r1, r2, r3, by omega, r5, fun c i w1 w2 w3 w4 w5 => ?_, fun c i w1 w2 w3 w4 => ?_, fun z => ⟨k, q + 1, ⟨⟨r6, ?_⟩, ⟨?_, ?_, ?_⟩, hk, by omega⟩, Nat.le_refl _, by omega, fun w => (by cases w), ⟨250 + q, by1, u, by omega, r7f, ?_, by rw [r7b]; exact c9, by rw [r7c]; exact c10, by rw [r7d]; exact c11, ⟨r8a, r8b⟩, r8c, r8d⟩, fun w => (by cases w), fun _ => ?_⟩⟩
    · rw [r10 c i (by omega) w2 (by omega)]; exact F3 c i w1 w2 w3 w4 w5
    · rw [r11 c i (by omega) (by omega)]; exact H3 c i w1 w2 w3 w4
    · rw [r11 0 36 (by omega) (by omega)]; exact e336
    · rw [r10 (t + 1) 5 (by omega) (by omega) (by omega)]; exact e315
    · rw [r11 0 16 (by omega) (by omega)]; exact e316
    · rw [r11 0 11 (by omega) (by omega)]; exact z8
    · have ff : ∀ c, 2 ≤ c → c ≤ 4 → Im' c (250 + q) = Im3 c (250 + q) := fun c w1 w2 => r11 c _ (by omega) (by omega)
      obtain ⟨t0, t1, t2⟩ := z5
      exact ⟨by rw [ff 2 (by omega) (by omega)]; exact n2, by rw [ff 3 (by omega) (by omega)]; exact n3, by rw [ff 4 (by omega) (by omega)]; exact n4, by omega, by omega, by omega⟩
    · rw [r11 16 j (by omega) (by omega), e3m, r7e]
/-- the end of a GUESS -/
theorem gu_end (h : tkP T N n p e Ic Im) : ∃ (v : Int32) (Ic' Im' : hI), mGt_readFrom_43 Ic = some (v, Ic') ∧ mM_readGuess_50 Im = some (v, Im') ∧ frC Ic Ic' ∧ frMm Im Im' ∧ (v = (-1 : Int32) → e = 0 ∧ Ic' = Ic ∧ Im' = Im) := by
  obtain ⟨v, Ic', y1, y2, y3, y4, y5⟩ := close_both h
  refine ⟨v, Ic', mM_over Im, ?_, ?_, y3, y4, y5⟩
  · unfold mGt_readFrom_43
    rw [y1, Option.bind_some]
  · unfold mM_readGuess_50
    rw [hl_eq, y2]
theorem gu_L (ht : 61 ≤ t) : ∀ (r j p k q fuel fuel2 : Nat) (Ic Im : hI), j + r = 8 → r + 2 < fuel → r + 2 < fuel2 → tkP T N n p 0 Ic Im → guS t j k q Ic Im → 5 * k ≤ tkA T N p → (∀ x, x < j → pcR t q x Ic Im ∧ cdG t k q x Ic Im) → ∃ (v : Int32) (Ic' Im' : hI), mGt_readFrom_L21 fuel t (nI 1) (nI j) Ic = some (v, Ic') ∧ mM_readGuess_L14 fuel2 (nI 1) Im = some (v, Im') ∧ FG t j k Ic Ic' ∧ FH j k q Im Im' ∧ (v = (-1 : Int32) → ∃ J k' q', gdR t J k' q' Ic' Im') := by
  intro r
  induction r with
  | zero =>
    intro j p k q fuel fuel2 Ic Im hr hf hf2 h hg hA hx
    obtain ⟨fuel, rfl⟩ : ∃ m, fuel = m + 2 := ⟨fuel - 2, by omega⟩
    obtain ⟨fuel2, rfl⟩ : ∃ m, fuel2 = m + 2 := ⟨fuel2 - 2, by omega⟩
    obtain ⟨⟨h7, h36⟩, _⟩ := hg
    have ej : j = 8 := by omega
    subst ej
    obtain ⟨Ic1, e1, w1, w2, w3, w4, w5⟩ := fail_both h
    obtain ⟨v, Ic', Im', y1, y2, y3, y4, y5⟩ := gu_end w2
    refine ⟨v, Ic', Im', ?_, ?_, fun c i q1 q2 q3 q4 q5 => by rw [y3 c i (by omega), w4 c i (by omega)], fun c i q1 q2 q3 q4 => by rw [y4 c i (by omega), w5 c i (by omega)], fun z => by have := (y5 z).1; omega⟩
    · have eP : mGt_readPiece t Ic = some ((0 : Int32), Ic1) := by
        unfold mGt_readPiece
        rw [h7, if_neg (by decide), w1, Option.bind_some]
      show mGt_readFrom_B21 (mGt_readFrom_L21 (fuel + 1)) t (nI 1) (nI 8) Ic = _
      unfold mGt_readFrom_B21
      rw [if_neg (by decide), if_neg (by decide), eP, Option.bind_some, hl_eq]
      show mGt_readFrom_B21 (mGt_readFrom_L21 fuel) t (0 : Int32) (nI 8 + (1 : Int32)) Ic1 = _
      unfold mGt_readFrom_B21
      rw [if_pos (by decide)]
      exact y1
    · show mM_readGuess_B14 (mM_readGuess_L14 (fuel2 + 1)) (nI 1) Im = _
      unfold mM_readGuess_B14
      rw [if_neg (by decide), if_pos ((wr_m1 h).mpr rfl), h36, if_pos (by decide), hl_eq]
      show mM_readGuess_B14 (mM_readGuess_L14 fuel2) (nI 1) (mM_bad Im) = _
      unfold mM_readGuess_B14
      rw [if_neg (by decide), if_neg (fun w => by have := (wr_m1 w2).mp w; omega)]
      exact y2
  | succ r ih =>
    intro j p k q fuel fuel2 Ic Im hr hf hf2 h hg hA hx
    obtain ⟨fuel, rfl⟩ : ∃ m, fuel = m + 2 := ⟨fuel - 2, by omega⟩
    obtain ⟨fuel2, rfl⟩ : ∃ m, fuel2 = m + 2 := ⟨fuel2 - 2, by omega⟩
    obtain ⟨b, has, Ic1, Im1, p1, e1, x1, x2, x3, x4, x5, x6, x7, x8⟩ := piece_both ht h (show j < 8 by omega) hg hA
    obtain ⟨⟨h7, h36⟩, _⟩ := hg
    have topC : mGt_readFrom_L21 (fuel + 2) t (nI 1) (nI j) Ic = mGt_readFrom_L21 (fuel + 1) t (bI b) (nI (j + 1)) Ic1 := by
      show mGt_readFrom_B21 (mGt_readFrom_L21 (fuel + 1)) t (nI 1) (nI j) Ic = _
      unfold mGt_readFrom_B21
      rw [li_8, if_neg (fun w => by have := (nI_ltI (by omega) (by omega)).mp w; omega), if_neg (by decide), x1, Option.bind_some, hl_eq, li_1, nI_add]
    have topM : mM_readGuess_L14 (fuel2 + 2) (nI 1) Im = mM_readGuess_L14 (fuel2 + 1) (bI has) Im1 := by
      show mM_readGuess_B14 (mM_readGuess_L14 (fuel2 + 1)) (nI 1) Im = _
      unfold mM_readGuess_B14
      rw [if_neg (by decide), if_pos ((wr_m1 h).mpr rfl), h36, li_8, if_neg (fun w => by have := (nI_eq (by omega) (by omega)).mp w; omega), x2, Option.bind_some, hl_eq]
    rw [topC, topM]
    by_cases z : has = true ∧ e1 = 0
    · obtain ⟨rfl, rfl⟩ := z
      have eb : b = true := by rw [x5]; rfl
      subst eb
      obtain ⟨k1, q1, y1, y2, y3, y4, y5, y6, y7⟩ := x8 rfl
      obtain ⟨v, Ic', Im', z1, z2, z3, z4, z5⟩ := ih (j + 1) p1 k1 q1 (fuel + 1) (fuel2 + 1) Ic1 Im1 (by omega) (by omega) (by omega) x3 y1 (y4 rfl) (fun x hx1 => by
        by_cases ex : x = j
        · subst ex; exact ⟨y5, y6 rfl⟩
        · obtain ⟨g1, g2⟩ := hx x (by omega)
          exact ⟨pcR_of g1 ht x6 x7 (by omega) y3, cdG_of g2 ht x6 x7 (by omega) y2 y3⟩)
      exact ⟨v, Ic', Im', z1, z2, fun c i w1 w2 w3 w4 w5 => by rw [z3 c i w1 w2 w3 (by omega) (by omega), x6 c i w1 w2 w3 w4 w5], fun c i w1 w2 w3 w4 => by rw [z4 c i w1 (by omega) (by omega) (by omega), x7 c i w1 w2 w3 w4], z5⟩
    · obtain ⟨v, Ic', Im', y1, y2, y3, y4, y5⟩ := gu_end x3
      have eb : b = false := by
        rw [x5]
        cases has
        · rfl
        · rw [decide_eq_false (fun w => z ⟨rfl, w⟩)]; rfl
      refine ⟨v, Ic', Im', ?_, ?_, fun c i w1 w2 w3 w4 w5 => by rw [y3 c i (by omega), x6 c i w1 w2 w3 w4 w5], fun c i w1 w2 w3 w4 => by rw [y4 c i (by omega), x7 c i w1 w2 w3 w4], fun w => ?_⟩
      · rw [eb]
        show mGt_readFrom_B21 (mGt_readFrom_L21 fuel) t (bI false) (nI (j + 1)) Ic1 = _
        unfold mGt_readFrom_B21
        rw [y1, if_pos (show bI false = (0 : Int32) from rfl)]
        split <;> rfl
      · show mM_readGuess_B14 (mM_readGuess_L14 fuel2) (bI has) Im1 = _
        unfold mM_readGuess_B14
        cases has
        · rw [if_pos (by decide)]; exact y2
        · rw [if_neg (by decide), if_neg (fun w => z ⟨rfl, (wr_m1 x3).mp w⟩)]; exact y2
      · obtain ⟨w1, w2, w3⟩ := y5 w
        have hh : has = false := by
          cases has
          · rfl
          · exact absurd ⟨rfl, w1⟩ z
        obtain ⟨k1, q1, g1, g2, g3, g4, g5, g6, g7⟩ := x8 w1
        rw [w2, w3]
        refine ⟨j + 1, k1, q1, by omega, g1, fun x hx1 => ?_, fun x hx1 => cdG_of (hx x (by omega)).2 ht x6 x7 (by omega) g2 g3, ?_⟩
        · by_cases ex : x = j
          · subst ex; exact g5
          · exact pcR_of (hx x (by omega)).1 ht x6 x7 (by omega) g3
        · exact g7 hh
theorem guess_both (ht : 61 ≤ t) (hc : tpC T N Ic) (hm : tpM T N Im) : ∃ (v : Int32) (Ic' Im' : hI), mGt_readFrom t Ic = some (v, Ic') ∧ mM_readGuess Im = some (v, Im') ∧ GCg t Ic Ic' ∧ GMg Im Im' ∧ (v = (-1 : Int32) → ∃ J k q, gdR t J k q Ic' Im') := by
  obtain ⟨I0, hI0⟩ : ∃ J, J = h_u (h_u Ic (t + 1) 5 (nI 0)) t 7 (nI 0) := ⟨_, rfl⟩
  have f0 : ∀ c i, (c ≠ t + 1 ∨ i ≠ 5) → (c ≠ t ∨ i ≠ 7) → I0 c i = Ic c i := fun c i w1 w2 => by rw [hI0, hu_fr w2, hu_fr w1]
  obtain ⟨n, Ic1, Im1, a1, a2, a3, a4, a5, a6, a7⟩ := start_both (tpC_of hc (f0 1 1 (by omega) (by omega)) (fun i => f0 2 i (by omega) (by omega))) hm 250
  obtain ⟨M, hM⟩ : ∃ J, J = h_u Im1 0 36 (nI 0) := ⟨_, rfl⟩
  have fM : ∀ c i, (c ≠ 0 ∨ i ≠ 36) → M c i = Im1 c i := fun c i w => by rw [hM, hu_fr w]
  have k1 : tkP T N n 0 0 Ic1 M := tkP_of a3 (fun _ _ => rfl) (fun _ _ _ _ => rfl) (fun i _ _ => fM 0 i (by omega)) (fun i => fM 1 i (by omega))
  obtain ⟨v, Ic', Im', y1, y2, y3, y4, y5⟩ := gu_L ht 8 0 0 0 0 hF hF Ic1 M (by omega) (by unfold hF; omega) (by unfold hF; omega) k1 ⟨⟨by rw [a6 t 7 (by omega) (by omega), hI0, h_u_at], by rw [hM, h_u_at]⟩, ⟨by rw [a6 (t + 1) 5 (by omega) (by omega), hI0, hu_fr (by omega), h_u_at], by rw [fM 0 16 (by omega)]; exact a5, by rw [fM 0 11 (by omega)]; exact a4⟩, by omega, by omega⟩ (by omega) (fun x hx => by omega)
  refine ⟨v, Ic', Im', ?_, ?_, fun c i w1 w2 => ?_, fun c i w1 w2 w3 => ?_, y5⟩
  · unfold mGt_readFrom
    rw [hl_eq, hl_eq, li_0, ← hI0, a1, Option.bind_some]
    exact y1
  · have a2' : mM_startsReading (250 : Int32) Im = some Im1 := a2
    unfold mM_readGuess
    rw [a2', Option.bind_some, hl_eq, li_0, ← hM]
    exact y2
  · rw [y3 c i (by omega) (by omega) (by omega) (by omega) (by omega), a6 c i (by omega) (by omega), f0 c i (by omega) (by omega)]
  · rw [y4 c i w1 (by omega) (by omega) (by omega), fM c i (by omega), a7 c i (by omega)]
end Gu
