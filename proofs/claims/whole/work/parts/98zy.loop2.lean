/-! A LOOP's text from its begin. -/
section Lc
variable {T : Nat → Nat} {N t : Nat} {Ic Im : hI}
theorem start_m (h : tpM T N Im) (o : Nat) : ∃ Im' : hI, mM_startsReading (nI o) Im = some Im' ∧ atM T N 0 Im' ∧ Im' 0 5 = (-1 : Int32) ∧ Im' 0 11 = nI o ∧ Im' 0 16 = nI o ∧ ∀ c i, (c ≠ 0 ∨ i < 3 ∨ (7 < i ∧ i ≠ 11 ∧ i ≠ 16)) → Im' c i = Im c i := by
  obtain ⟨M, hM⟩ : ∃ J, J = h_u (h_u (h_u (h_u Im 0 3 (nI 0)) 0 5 (-1 : Int32)) 0 11 (nI o)) 0 16 (nI o) := ⟨_, rfl⟩
  have fM : ∀ c i, (c ≠ 0 ∨ (i ≠ 3 ∧ i ≠ 5 ∧ i ≠ 11 ∧ i ≠ 16)) → M c i = Im c i := fun c i w => by rw [hM, hu_fr (by omega), hu_fr (by omega), hu_fr (by omega), hu_fr (by omega)]
  have h1 : tpM T N M := tpM_of h (fM 0 2 (by omega)) (fun i => fM 1 i (by omega))
  have e3 : M 0 3 = nI (tkA T N 0) := by rw [hM, hu_fr (by omega), hu_fr (by omega), hu_fr (by omega), h_u_at]; rfl
  obtain ⟨Im', q1, q2, q3⟩ := m_next h1 e3
  refine ⟨Im', ?_, q2, by rw [q3 0 5 (by omega), hM, hu_fr (by omega), hu_fr (by omega), h_u_at], by rw [q3 0 11 (by omega), hM, hu_fr (by omega), h_u_at], by rw [q3 0 16 (by omega), hM, h_u_at], fun c i w => by rw [q3 c i (by omega), fM c i (by omega)]⟩
  unfold mM_startsReading
  rw [hl_eq, hl_eq, hl_eq, hl_eq, li_0, ← hM, q1, Option.bind_some]
/-- both begin to read -/
theorem start_both {Ic0 Im0 : hI} (hc : tpC T N Ic0) (hm : tpM T N Im0) (o : Nat) : ∃ (n : Nat) (Ic' Im' : hI), mRd_open Ic0 = some Ic' ∧ mM_startsReading (nI o) Im0 = some Im' ∧ tkP T N n 0 0 Ic' Im' ∧ Im' 0 11 = nI o ∧ Im' 0 16 = nI o ∧ (∀ c i, (c ≠ 1 ∨ i < 5 ∨ 8 < i) → (c < 3 ∨ 5 < c) → Ic' c i = Ic0 c i) ∧ ∀ c i, (c ≠ 0 ∨ i < 3 ∨ (7 < i ∧ i ≠ 11 ∧ i ≠ 16)) → Im' c i = Im0 c i := by
  obtain ⟨n, Ic', a1, a2, a3, a4, a5, a6, a7, a8, a9, a10, a11⟩ := rd_open hc
  obtain ⟨Im', b1, b2, b3, b4, b5, b6⟩ := start_m hm o
  exact ⟨n, Ic', Im', a1, b1, ⟨tpC_of hc (a11 1 1 (by omega) (by omega)) (fun i => a11 2 i (by omega) (by omega)), tpM_of hm (b6 0 2 (by omega)) (fun i => b6 1 i (by omega)), ⟨a2, a3, a4, a5, a6, a7⟩, Nat.zero_le _, a8, Or.inl ⟨rfl, a9, a10, b3, b2⟩⟩, b4, b5, a11, b6⟩
theorem loop_both (ht : 61 ≤ t) (hc : tpC T N Ic) (hm : tpM T N Im) : ∃ (v : Int32) (Ic' Im' : hI), mLt_readFrom t Ic = some (v, Ic') ∧ mM_readLoop Im = some (v, Im') ∧ LCf t Ic Ic' ∧ LMf Im Im' ∧ (v = (-1 : Int32) → ∃ w hh sz n np wt k q, lpR t w hh sz n np wt k q Ic' Im') := by
  obtain ⟨I0, hI0⟩ : ∃ J, J = mLt_clear t Ic := ⟨_, rfl⟩
  have cl : I0 = h_u (h_u (h_u (h_u (h_u (h_u (h_u (h_u (h_u Ic (t + 1) 5 (nI 0)) t 3 (nI 0)) t 4 (nI 0)) t 5 (nI 0)) t 6 (nI 0)) t 7 (nI 0)) t 8 (nI 0)) t 9 (nI 0)) t 10 (nI 0) := by
    rw [hI0]
    unfold mLt_clear
    rw [hl_eq, hl_eq, hl_eq, hl_eq, hl_eq, hl_eq, hl_eq, hl_eq, hl_eq, li_0]
  have f0 : ∀ c i, (c ≠ t + 1 ∨ i ≠ 5) → (c ≠ t ∨ i < 3 ∨ 10 < i) → I0 c i = Ic c i := fun c i w1 w2 => by rw [cl, hu_fr (by omega), hu_fr (by omega), hu_fr (by omega), hu_fr (by omega), hu_fr (by omega), hu_fr (by omega), hu_fr (by omega), hu_fr (by omega), hu_fr (by omega)]
  have z15 : I0 (t + 1) 5 = nI 0 := by rw [cl]; simp (disch := omega) only [h_u_at, h_u_pl, h_u_off2]
  have z3 : I0 t 3 = nI 0 := by rw [cl]; simp (disch := omega) only [h_u_at, h_u_pl, h_u_off2]
  have z5 : I0 t 5 = nI 0 := by rw [cl]; simp (disch := omega) only [h_u_at, h_u_pl, h_u_off2]
  have z7 : I0 t 7 = nI 0 := by rw [cl]; simp (disch := omega) only [h_u_at, h_u_pl, h_u_off2]
  have z8 : I0 t 8 = nI 0 := by rw [cl]; simp (disch := omega) only [h_u_at, h_u_pl, h_u_off2]
  have z9 : I0 t 9 = nI 0 := by rw [cl]; simp (disch := omega) only [h_u_at, h_u_pl, h_u_off2]
  have z10 : I0 t 10 = nI 0 := by rw [cl]; simp (disch := omega) only [h_u_at, h_u_pl, h_u_off2]
  obtain ⟨n, Ic1, Im1, a1, a2, a3, a4, a5, a6, a7⟩ := start_both (tpC_of hc (f0 1 1 (by omega) (by omega)) (fun i => f0 2 i (by omega) (by omega))) hm 0
  obtain ⟨M, hM⟩ : ∃ J, J = h_u (h_u (h_u (h_u Im1 0 24 (nI 0)) 0 25 (nI 0)) 0 30 (nI 0)) 0 31 (nI 0) := ⟨_, rfl⟩
  have fM : ∀ c i, (c ≠ 0 ∨ (i ≠ 24 ∧ i ≠ 25 ∧ i ≠ 30 ∧ i ≠ 31)) → M c i = Im1 c i := fun c i w => by rw [hM, hu_fr (by omega), hu_fr (by omega), hu_fr (by omega), hu_fr (by omega)]
  have k1 : tkP T N n 0 0 Ic1 M := tkP_of a3 (fun _ _ => rfl) (fun _ _ _ _ => rfl) (fun i _ _ => fM 0 i (by omega)) (fun i => fM 1 i (by omega))
  obtain ⟨Ic2, Im2, p2, e2, b1, b2, b3, b4, b5, bp, b6⟩ := takeW_both k1 (j := 0) (by omega) mM_readLoop_38
  obtain ⟨mx, Ic3, Im3, p3, e3, d1, d2, d3, d4, d5, d6, dp, d7⟩ := number_both b3 (lo := 0) (hi := 9) (by omega) (by omega)
  obtain ⟨J3, hJ3⟩ : ∃ J, J = h_u Ic3 t 4 (nI mx) := ⟨_, rfl⟩
  have fJ3 : ∀ c i, (c ≠ t ∨ i ≠ 4) → J3 c i = Ic3 c i := fun c i w => by rw [hJ3, hu_fr w]
  obtain ⟨M3, hM3⟩ : ∃ J, J = h_u Im3 0 26 (nI (mx + 1)) := ⟨_, rfl⟩
  have fM3 : ∀ c i, (c ≠ 0 ∨ i ≠ 26) → M3 c i = Im3 c i := fun c i w => by rw [hM3, hu_fr w]
  have k3 : tkP T N n p3 e3 J3 M3 := tkP_of d4 (fun i _ => fJ3 1 i (by omega)) (fun c i _ _ => fJ3 c i (by omega)) (fun i _ _ => fM3 0 i (by omega)) (fun i => fM3 1 i (by omega))
  obtain ⟨Ic4, Im4, p4, e4, g1, g2, g3, g4, g5, gp, g6⟩ := take_both k3 (c := 59) (by omega)
  obtain ⟨M4, hM4⟩ : ∃ J, J = h_u Im4 0 27 (nI 1) := ⟨_, rfl⟩
  have fM4 : ∀ c i, (c ≠ 0 ∨ i ≠ 27) → M4 c i = Im4 c i := fun c i w => by rw [hM4, hu_fr w]
  have k4 : tkP T N n p4 e4 Ic4 M4 := tkP_of g3 (fun _ _ => rfl) (fun _ _ _ _ => rfl) (fun i _ _ => fM4 0 i (by omega)) (fun i => fM4 1 i (by omega))
  have gC : ∀ c i, (c ≠ 1 ∨ i < 5 ∨ 8 < i) → (c < 3 ∨ 5 < c) → (c ≠ t + 1 ∨ i ≠ 5) → (c ≠ t ∨ i < 3 ∨ 10 < i) → Ic4 c i = Ic c i := fun c i w1 w2 w3 w4 => by rw [g4 c i (by omega), fJ3 c i (by omega), d5 c i (by omega), b4 c i (by omega), a6 c i w1 w2, f0 c i w3 w4]
  have gI : ∀ c i, t ≤ c → (c ≠ t ∨ i ≠ 4) → Ic4 c i = I0 c i := fun c i w1 w2 => by rw [g4 c i (by omega), fJ3 c i (by omega), d5 c i (by omega), b4 c i (by omega), a6 c i (by omega) (by omega)]
  have e44 : Ic4 t 4 = nI mx := by rw [g4 t 4 (by omega), hJ3, h_u_at]
  have gM : ∀ c i, (c ≠ 0 ∨ i < 3 ∨ (7 < i ∧ i ≠ 11 ∧ i ≠ 16 ∧ i ≠ 24 ∧ i ≠ 25 ∧ i ≠ 26 ∧ i ≠ 27 ∧ i ≠ 30 ∧ i ≠ 31)) → M4 c i = Im c i := fun c i w => by rw [fM4 c i (by omega), g5 c i (by omega), fM3 c i (by omega), d6 c i (by omega), b5 c i (by omega), fM c i (by omega), a7 c i (by omega)]
  have gN : ∀ i, 7 < i → i ≠ 26 → i ≠ 27 → M4 0 i = M 0 i := fun i w1 w2 w3 => by rw [fM4 0 i (by omega), g5 0 i (by omega), fM3 0 i (by omega), d6 0 i (by omega), b5 0 i (by omega)]
  have e26 : M4 0 26 = nI (mx + 1) := by rw [fM4 0 26 (by omega), g5 0 26 (by omega), hM3, h_u_at]
  have n24 : M 0 24 = nI 0 := by rw [hM]; simp (disch := omega) only [h_u_at, h_u_pl, h_u_off2]
  have n25 : M 0 25 = nI 0 := by rw [hM]; simp (disch := omega) only [h_u_at, h_u_pl, h_u_off2]
  have n30 : M 0 30 = nI 0 := by rw [hM]; simp (disch := omega) only [h_u_at, h_u_pl, h_u_off2]
  have n31 : M 0 31 = nI 0 := by rw [hM]; simp (disch := omega) only [h_u_at, h_u_pl, h_u_off2]
  have n11 : M 0 11 = nI 0 := by rw [fM 0 11 (by omega)]; exact a4
  have n16 : M 0 16 = nI 0 := by rw [fM 0 16 (by omega)]; exact a5
  -- as far as the y
  have b1' : mRd_take (258 : Int32) Ic1 = some Ic2 := b1
  have d1' : mRd_takeNumber (0 : Int32) (9 : Int32) Ic2 = some (nI mx, Ic3) := d1
  have g1' : mRd_take (59 : Int32) J3 = some Ic4 := g1
  have topC : mLt_readFrom t Ic = ((mRd_skip (259 : Int32) Ic4).bind fun q7 => if q7.1 = 0 then mLt_readFrom_68 t q7.2 else (h_g (h_nz ((q7.2 t 4) + (1 : Int32))) <| (mRd_takeNumber (0 : Int32) (((10 : Int32) / ((q7.2 t 4) + (1 : Int32))) - (1 : Int32)) q7.2).bind fun q9 => h_let (h_u q9.2 t 5 q9.1) fun I10 => (mRd_take (59 : Int32) I10).bind fun q11 => mLt_readFrom_68 t q11)) := by
    unfold mLt_readFrom
    rw [hl_eq, ← hI0, a1, Option.bind_some, b1', Option.bind_some, d1', Option.bind_some, hl_eq]
    try dsimp only
    rw [← hJ3, g1', Option.bind_some]
  have d2' : mM_takesNumber (0 : Int32) (9 : Int32) Im2 = some (nI mx, Im3) := d2
  have g2' : mM_must (59 : Int32) M3 = some Im4 := g2
  have topM : mM_readLoop Im = ((mM_takesWord 1 M4).bind fun q5 => if q5.1 = 0 then mM_readLoop_102 q5.2 else (h_g (h_nz (q5.2 0 26)) <| (mM_takesNumber (0 : Int32) (if (((10 : Int32) / (q5.2 0 26)) - (1 : Int32)) < (9 : Int32) then (((10 : Int32) / (q5.2 0 26)) - (1 : Int32)) else (9 : Int32)) q5.2).bind fun q7 => h_let (h_u q7.2 0 27 (q7.1 + (1 : Int32))) fun I8 => (mM_must (59 : Int32) I8).bind fun q9 => mM_readLoop_102 q9)) := by
    have e1 : mM_readLoop Im = mM_readLoop_38 Im2 := by
      have a2' : mM_startsReading (0 : Int32) Im = some Im1 := a2
      unfold mM_readLoop
      rw [a2', Option.bind_some, hl_eq, hl_eq, hl_eq, hl_eq]
      show ((mM_takesWord 0 (h_u (h_u (h_u (h_u Im1 0 24 (nI 0)) 0 25 (nI 0)) 0 30 (nI 0)) 0 31 (nI 0))).bind fun q6 => if q6.1 = 0 then (h_let (mM_bad q6.2) fun q7 => mM_readLoop_38 q7) else mM_readLoop_38 q6.2) = _
      rw [← hM]
      exact b2
    have e2 : nI mx + (1 : Int32) = nI (mx + 1) := by rw [li_1, nI_add]
    rw [e1]
    unfold mM_readLoop_38
    rw [d2', Option.bind_some, hl_eq]
    try dsimp only
    have hM4' : M4 = h_u Im4 0 27 (1 : Int32) := hM4
    rw [e2, ← hM3, g2', Option.bind_some, hl_eq, hM4']
  rw [topC, topM]
  rcases skipW_both k4 (j := 1) (by omega) with ⟨_, c2, hp, Ic5, Im5, q1, q2, q3, q4, q5⟩ | ⟨_, q1, q2⟩
  · have q1' : mRd_skip (259 : Int32) Ic4 = some (nI 1, Ic5) := q1
    rw [q1', q2, Option.bind_some, Option.bind_some]
    have e54 : Ic5 t 4 = nI mx := by rw [q4 t 4 (by omega)]; exact e44
    have e526 : Im5 0 26 = nI (mx + 1) := by rw [q5 0 26 (by omega)]; exact e26
    have h10 : 1 ≤ 10 / (mx + 1) ∧ 10 / (mx + 1) ≤ 10 := ⟨(Nat.le_div_iff_mul_le (by omega)).mpr (by omega), Nat.div_le_self _ _⟩
    obtain ⟨my, Ic6, Im6, p6, e6, r1, r2, r3, r4, r5, r6, rp, r7⟩ := number_both q3 (lo := 0) (hi := 10 / (mx + 1) - 1) (by omega) (by omega)
    obtain ⟨J6, hJ6⟩ : ∃ J, J = h_u Ic6 t 5 (nI my) := ⟨_, rfl⟩
    have fJ6 : ∀ c i, (c ≠ t ∨ i ≠ 5) → J6 c i = Ic6 c i := fun c i w => by rw [hJ6, hu_fr w]
    obtain ⟨M6, hM6⟩ : ∃ J, J = h_u Im6 0 27 (nI (my + 1)) := ⟨_, rfl⟩
    have fM6 : ∀ c i, (c ≠ 0 ∨ i ≠ 27) → M6 c i = Im6 c i := fun c i w => by rw [hM6, hu_fr w]
    have k6 : tkP T N n p6 e6 J6 M6 := tkP_of r4 (fun i _ => fJ6 1 i (by omega)) (fun c i _ _ => fJ6 c i (by omega)) (fun i _ _ => fM6 0 i (by omega)) (fun i => fM6 1 i (by omega))
    obtain ⟨Ic7, Im7, p7, e7, s1, s2, s3, s4, s5, sp, s6⟩ := take_both k6 (c := 59) (by omega)
    have s1' : mRd_take (59 : Int32) J6 = some Ic7 := s1
    have s2' : mM_must (59 : Int32) M6 = some Im7 := s2
    have hN : (mx + 1) * (my + 1) ≤ 10 := by
      have w1 : my + 1 ≤ 10 / (mx + 1) := by omega
      have w2 : (mx + 1) * (my + 1) ≤ (mx + 1) * (10 / (mx + 1)) := Nat.mul_le_mul_left _ w1
      have w3 := Nat.mul_div_le 10 (mx + 1)
      omega
    have hC7 : ∀ c i, t ≤ c → (c ≠ t ∨ (i ≠ 4 ∧ i ≠ 5)) → Ic7 c i = I0 c i := fun c i w1 w2 => by rw [s4 c i (by omega), fJ6 c i (by omega), r5 c i (by omega), q4 c i (by omega), gI c i w1 (by omega)]
    have hM7 : ∀ i, 7 < i → i ≠ 26 → i ≠ 27 → Im7 0 i = M 0 i := fun i w1 w2 w3 => by rw [s5 0 i (by omega), fM6 0 i (by omega), r6 0 i (by omega), q5 0 i (by omega), gN i w1 w2 w3]
    obtain ⟨v, Ic', Im', y1, y2, y3, y4, y5⟩ := loop_tail (w := mx + 1) (hh := my + 1) ht s3 ⟨by omega, by omega, hN⟩ ⟨by rw [s4 t 4 (by omega), fJ6 t 4 (by omega), r5 t 4 (by omega), e54]; rfl, by rw [s4 t 5 (by omega), hJ6, h_u_at]; rfl, by rw [s5 0 26 (by omega), fM6 0 26 (by omega), r6 0 26 (by omega)]; exact e526, by rw [s5 0 27 (by omega), hM6, h_u_at]⟩ ⟨by rw [hC7 t 3 (by omega) (by omega)]; exact z3, by rw [hC7 t 7 (by omega) (by omega)]; exact z7, by rw [hC7 t 8 (by omega) (by omega)]; exact z8, by rw [hC7 t 9 (by omega) (by omega)]; exact z9, by rw [hC7 t 10 (by omega) (by omega)]; exact z10, by rw [hC7 (t + 1) 5 (by omega) (by omega)]; exact z15⟩ ⟨by rw [hM7 24 (by omega) (by omega) (by omega)]; exact n24, by rw [hM7 25 (by omega) (by omega) (by omega)]; exact n25, by rw [hM7 30 (by omega) (by omega) (by omega)]; exact n30, by rw [hM7 31 (by omega) (by omega) (by omega)]; exact n31, by rw [hM7 11 (by omega) (by omega) (by omega)]; exact n11, by rw [hM7 16 (by omega) (by omega) (by omega)]; exact n16⟩
    refine ⟨v, Ic', Im', ?_, ?_, fun c i w1 w2 => ?_, fun c i w1 w2 w3 => ?_, fun z => ?_⟩
    · have e1 : nI mx + (1 : Int32) = nI (mx + 1) := by rw [li_1, nI_add]
      have e2 : (10 : Int32) / nI (mx + 1) - (1 : Int32) = nI (10 / (mx + 1) - 1) := by rw [li_10, li_1, nI_divN (by omega) (by omega), nI_subN (by omega)]
      have r1' : mRd_takeNumber (0 : Int32) (nI (10 / (mx + 1) - 1)) Ic5 = some (nI my, Ic6) := r1
      rw [if_neg (pr1 _)]
      try dsimp only
      rw [e54, e1, hg_nz _ (by omega) (by omega), e2, r1', Option.bind_some, hl_eq]
      try dsimp only
      rw [← hJ6, s1', Option.bind_some]
      exact y1
    · have e1 : nI my + (1 : Int32) = nI (my + 1) := by rw [li_1, nI_add]
      have e2 : (10 : Int32) / nI (mx + 1) - (1 : Int32) = nI (10 / (mx + 1) - 1) := by rw [li_10, li_1, nI_divN (by omega) (by omega), nI_subN (by omega)]
      have e3 : (if nI (10 / (mx + 1) - 1) < (9 : Int32) then nI (10 / (mx + 1) - 1) else (9 : Int32)) = nI (10 / (mx + 1) - 1) := by
        rw [li_9]
        by_cases w : 10 / (mx + 1) - 1 < 9
        · rw [if_pos ((nI_ltI (by omega) (by omega)).mpr w)]
        · rw [if_neg (fun q => w ((nI_ltI (by omega) (by omega)).mp q))]
          congr 1
          omega
      have r2' : mM_takesNumber (0 : Int32) (nI (10 / (mx + 1) - 1)) Im5 = some (nI my, Im6) := r2
      rw [if_neg (pr1 _)]
      have goM : (h_g (h_nz (Im5 0 26)) <| (mM_takesNumber (0 : Int32) (if (((10 : Int32) / (Im5 0 26)) - (1 : Int32)) < (9 : Int32) then (((10 : Int32) / (Im5 0 26)) - (1 : Int32)) else (9 : Int32)) Im5).bind fun q7 => h_let (h_u q7.2 0 27 (q7.1 + (1 : Int32))) fun I8 => (mM_must (59 : Int32) I8).bind fun q9 => mM_readLoop_102 q9) = some (v, Im') := by
        rw [e526, hg_nz _ (by omega) (by omega), e2, e3, r2', Option.bind_some, hl_eq]
        try dsimp only
        rw [e1, ← hM6, s2', Option.bind_some]
        exact y2
      exact goM
    · rw [y3 c i (by omega) w2, s4 c i (by omega), fJ6 c i (by omega), r5 c i (by omega), q4 c i (by omega), gC c i (by omega) (by omega) (by omega) (by omega)]
    · rw [y4 c i w1 w2 w3, s5 c i (by omega), fM6 c i (by omega), r6 c i (by omega), q5 c i (by omega), gM c i (by omega)]
    · obtain ⟨sz, n, np, wt, k, q, w⟩ := y5 z
      exact ⟨mx + 1, my + 1, sz, n, np, wt, k, q, w⟩
  · have q1' : mRd_skip (259 : Int32) Ic4 = some (nI 0, Ic4) := q1
    rw [q1', q2, Option.bind_some, Option.bind_some]
    obtain ⟨v, Ic', Im', y1, y2, y3, y4, y5⟩ := loop_tail (w := mx + 1) (hh := 1) ht k4 ⟨by omega, by omega, by omega⟩ ⟨by rw [e44]; rfl, by rw [gI t 5 (by omega) (by omega)]; exact z5, e26, by rw [hM4, h_u_at]⟩ ⟨by rw [gI t 3 (by omega) (by omega)]; exact z3, by rw [gI t 7 (by omega) (by omega)]; exact z7, by rw [gI t 8 (by omega) (by omega)]; exact z8, by rw [gI t 9 (by omega) (by omega)]; exact z9, by rw [gI t 10 (by omega) (by omega)]; exact z10, by rw [gI (t + 1) 5 (by omega) (by omega)]; exact z15⟩ ⟨by rw [gN 24 (by omega) (by omega) (by omega)]; exact n24, by rw [gN 25 (by omega) (by omega) (by omega)]; exact n25, by rw [gN 30 (by omega) (by omega) (by omega)]; exact n30, by rw [gN 31 (by omega) (by omega) (by omega)]; exact n31, by rw [gN 11 (by omega) (by omega) (by omega)]; exact n11, by rw [gN 16 (by omega) (by omega) (by omega)]; exact n16⟩
    refine ⟨v, Ic', Im', ?_, ?_, fun c i w1 w2 => ?_, fun c i w1 w2 w3 => ?_, fun z => ?_⟩
    · rw [if_pos (pr0 _)]
      exact y1
    · rw [if_pos (pr0 _)]
      exact y2
    · rw [y3 c i (by omega) w2, gC c i (by omega) (by omega) (by omega) (by omega)]
    · rw [y4 c i w1 w2 w3, gM c i (by omega)]
    · obtain ⟨sz, n, np, wt, k, q, w⟩ := y5 z
      exact ⟨mx + 1, 1, sz, n, np, wt, k, q, w⟩
end Lc
