/-! Sums: both readers take the same. -/
def frC2 (Ic Ic' : hI) : Prop := ∀ c i, (c ≠ 1 ∨ i < 6 ∨ 11 < i) → Ic' c i = Ic c i
def frS (q : Nat) (Im Im' : hI) : Prop := ∀ c i, (c ≠ 0 ∨ i < 3 ∨ 7 < i) → (c < 2 ∨ 4 < c ∨ i ≠ q) → Im' c i = Im c i
/-- the sum so far: the class's three numbers, the reference's at its place -/
def smH (q : Nat) (u : Nat → Int) (Ic Im : hI) : Prop := (Ic 1 9 = iI (u 1) ∧ Ic 1 10 = iI (u 2) ∧ Ic 1 11 = iI (u 0)) ∧ Im 3 q = iI (u 1) ∧ Im 4 q = iI (u 2) ∧ Im 2 q = iI (u 0)
def smB (u : Nat → Int) (p : Nat) : Prop := (- (99 * (p : Int)) ≤ u 0 ∧ u 0 ≤ 99 * (p : Int)) ∧ (- (99 * (p : Int)) ≤ u 1 ∧ u 1 ≤ 99 * (p : Int)) ∧ (- (99 * (p : Int)) ≤ u 2 ∧ u 2 ≤ 99 * (p : Int))
def uadd (u : Nat → Int) (i : Nat) (d : Int) : Nat → Int := fun k => if k = i then u k + d else u k
theorem smB_add {u : Nat → Int} {p i m : Nat} {sg : Int} (h : smB u p) (hs : sg = 1 ∨ sg = -1) (hm : m ≤ 99) : smB (uadd u i (sg * m)) (p + 1) := by
  have hd : - 99 ≤ sg * m ∧ sg * m ≤ 99 := by
    rcases hs with rfl | rfl <;> omega
  obtain ⟨h0, h1, h2⟩ := h
  unfold uadd
  generalize sg * (m : Int) = d at hd
  have ep : ((p + 1 : Nat) : Int) = (p : Int) + 1 := by omega
  refine ⟨?_, ?_, ?_⟩ <;> (rw [ep]; dsimp only; split <;> omega)
theorem smB_le {u : Nat → Int} {p p' : Nat} (h : smB u p) (hp : p ≤ p') : smB u p' := by
  obtain ⟨h0, h1, h2⟩ := h
  have : (p : Int) ≤ (p' : Int) := by omega
  exact ⟨by omega, by omega, by omega⟩
theorem smB_0 (p : Nat) : smB (fun _ => 0) p := by
  unfold smB
  dsimp only
  omega
section Sb
variable {T : Nat → Nat} {N n p e : Nat} {Ic Im : hI}
theorem tw_y (h : tkP T N n p 0 Ic Im) {j : Nat} (hj : j < 11) (hk : tkK T N p = 258 + j) {Im' : hI} (hx : mM_next Im = some Im') : mM_takesWord j Im = some (nI 1, Im') := by
  unfold mM_takesWord
  rw [m_isWord h hj, Option.bind_some, decide_eq_true ⟨rfl, hk⟩, if_neg (by decide), hx, Option.bind_some, hg_zb]
  rfl
theorem tw_n (h : tkP T N n p e Ic Im) {j : Nat} (hj : j < 11) (hk : ¬ (e = 0 ∧ tkK T N p = 258 + j)) : mM_takesWord j Im = some (nI 0, Im) := by
  unfold mM_takesWord
  rw [m_isWord h hj, Option.bind_some, decide_eq_false hk, if_pos (by decide), hg_zb]
  rfl
theorem frC2_of {I I' : hI} (h : frC I I') : frC2 I I' := fun c i q => h c i (by omega)
theorem frS_of {q : Nat} {I I' : hI} (h : frMm I I') : frS q I I' := fun c i q1 _ => h c i q1
theorem frC2_tr {I I' I'' : hI} (h1 : frC2 I I') (h2 : frC2 I' I'') : frC2 I I'' := fun c i q => by rw [h2 c i q, h1 c i q]
theorem frS_tr {q : Nat} {I I' I'' : hI} (h1 : frS q I I') (h2 : frS q I' I'') : frS q I I'' := fun c i q1 q2 => by rw [h2 c i q1 q2, h1 c i q1 q2]
theorem tail_both (h : tkP T N n p 0 Ic Im) {q m B : Nat} {sg : Int} {u : Nat → Int} (hq : q < 1000) (hu : smH q u Ic Im) (hB : smB u B) (hs : sg = 1 ∨ sg = -1) (hm : m ≤ 99) (b : Bool) : ∃ (Ic' Im' : hI) (p' e' : Nat) (u' : Nat → Int), mRd_readSumPart_58 (bI b) (iI (sg * m)) Ic = some Ic' ∧ mM_takesPart_39 (nI q) (iI sg) (nI m) (bI b) Im = some Im' ∧ tkP T N n p' e' Ic' Im' ∧ smH q u' Ic' Im' ∧ p ≤ p' ∧ smB u' (B + 1) ∧ (1 ≤ e' → u' = u ∧ b = false) ∧ (e' = 0 → b = false → p < p') ∧ frC2 Ic Ic' ∧ frS q Im Im' := by
  obtain ⟨⟨c9, c10, c11⟩, m3, m4, m2⟩ := hu
  have hk0 := kd_isL h (v := 258) (x := 258) rfl (by omega)
  have hk1 := kd_isL h (v := 259) (x := 259) rfl (by omega)
  have em : nI m = iI (m : Int) := rfl
  by_cases x0 : tkK T N p = 258
  · have hp := (tk_kd h).2 (by omega)
    have h' : tkP T N n p 0 (h_u Ic 1 9 (iI (u 1 + sg * m))) Im := tkP_of h (fun i hi => hu_fr (by omega)) (fun c i q1 q2 => hu_fr (by omega)) (fun _ _ _ => rfl) (fun _ => rfl)
    obtain ⟨Ic', Im', q1, q2, q3, q4, q5⟩ := next_both h' hp
    refine ⟨Ic', h_u Im' 3 q (iI (u 1 + sg * m)), p + 1, 0, uadd u 1 (sg * m), ?_, ?_, tkP_of q3 (fun _ _ => rfl) (fun _ _ _ _ => rfl) (fun i _ _ => hu_fr (by omega)) (fun i => hu_fr (by omega)), ⟨⟨?_, ?_, ?_⟩, ?_, ?_, ?_⟩, by omega, smB_add hB hs hm, fun w => by omega, fun _ _ => by omega, fun c i w => ?_, fun c i w1 w2 => ?_⟩
    · unfold mRd_readSumPart_58
      rw [if_pos (hk0.mpr ⟨rfl, x0⟩), c9, iI_add, hl_eq, q1, Option.bind_some]
    · unfold mM_takesPart_39
      rw [tw_y h (j := 0) (by omega) x0 q2, Option.bind_some, if_neg (pr1 _)]
      try dsimp only
      rw [hg_in _ hq (by omega), hg_in _ hq (by omega), hl_eq, nI_clamp (by omega), q5 3 q (by omega), m3, em, iI_mul, iI_add]
    · rw [q4 1 9 (by omega), h_u_at]; rfl
    · rw [q4 1 10 (by omega), hu_fr (by omega)]; exact c10
    · rw [q4 1 11 (by omega), hu_fr (by omega)]; exact c11
    · rw [h_u_at]; rfl
    · rw [hu_fr (by omega), q5 4 q (by omega)]; exact m4
    · rw [hu_fr (by omega), q5 2 q (by omega)]; exact m2
    · rw [q4 c i (by omega), hu_fr (by omega)]
    · rw [hu_fr (by omega), q5 c i w1]
  · by_cases x1 : tkK T N p = 259
    · have hp := (tk_kd h).2 (by omega)
      have h' : tkP T N n p 0 (h_u Ic 1 10 (iI (u 2 + sg * m))) Im := tkP_of h (fun i hi => hu_fr (by omega)) (fun c i q1 q2 => hu_fr (by omega)) (fun _ _ _ => rfl) (fun _ => rfl)
      obtain ⟨Ic', Im', q1, q2, q3, q4, q5⟩ := next_both h' hp
      refine ⟨Ic', h_u Im' 4 q (iI (u 2 + sg * m)), p + 1, 0, uadd u 2 (sg * m), ?_, ?_, tkP_of q3 (fun _ _ => rfl) (fun _ _ _ _ => rfl) (fun i _ _ => hu_fr (by omega)) (fun i => hu_fr (by omega)), ⟨⟨?_, ?_, ?_⟩, ?_, ?_, ?_⟩, by omega, smB_add hB hs hm, fun w => by omega, fun _ _ => by omega, fun c i w => ?_, fun c i w1 w2 => ?_⟩
      · unfold mRd_readSumPart_58
        rw [if_neg (fun w => x0 (hk0.mp w).2), if_pos (hk1.mpr ⟨rfl, x1⟩), c10, iI_add, hl_eq, q1, Option.bind_some]
      · unfold mM_takesPart_39
        rw [tw_n h (j := 0) (by omega) (fun w => x0 w.2), Option.bind_some, if_pos (pr0 _)]
        try dsimp only
        rw [tw_y h (j := 1) (by omega) x1 q2, Option.bind_some, if_neg (pr1 _)]
        try dsimp only
        rw [hg_in _ hq (by omega), hg_in _ hq (by omega), hl_eq, nI_clamp (by omega), q5 4 q (by omega), m4, em, iI_mul, iI_add]
      · rw [q4 1 9 (by omega), hu_fr (by omega)]; exact c9
      · rw [q4 1 10 (by omega), h_u_at]; rfl
      · rw [q4 1 11 (by omega), hu_fr (by omega)]; exact c11
      · rw [hu_fr (by omega), q5 3 q (by omega)]; exact m3
      · rw [h_u_at]; rfl
      · rw [hu_fr (by omega), q5 2 q (by omega)]; exact m2
      · rw [q4 c i (by omega), hu_fr (by omega)]
      · rw [hu_fr (by omega), q5 c i w1]
    · have tC : mRd_readSumPart_58 (bI b) (iI (sg * m)) Ic = if bI b = 0 then ((mRd_fail Ic).bind fun q1 => some q1) else (h_let (h_u Ic 1 11 ((Ic 1 11) + iI (sg * m))) fun I1 => some I1) := by
        unfold mRd_readSumPart_58
        rw [if_neg (fun w => x0 (hk0.mp w).2), if_neg (fun w => x1 (hk1.mp w).2)]
      have tM : mM_takesPart_39 (nI q) (iI sg) (nI m) (bI b) Im = if bI b = 0 then some (mM_bad Im) else some (h_u Im 2 q (iI (u 0 + sg * m))) := by
        unfold mM_takesPart_39
        rw [tw_n h (j := 0) (by omega) (fun w => x0 w.2), Option.bind_some, if_pos (pr0 _)]
        try dsimp only
        rw [tw_n h (j := 1) (by omega) (fun w => x1 w.2), Option.bind_some, if_pos (pr0 _)]
        try dsimp only
        rw [hl_eq, hg_in _ hq (by omega), hg_in _ hq (by omega), hl_eq, nI_clamp (by omega), m2, em, iI_mul, iI_add]
      rw [tC, tM]
      cases b
      · obtain ⟨Ic', e', w1, w2, w3, w4, w5⟩ := fail_both h
        refine ⟨Ic', mM_bad Im, p, e', u, ?_, ?_, w2, ⟨⟨?_, ?_, ?_⟩, ?_, ?_, ?_⟩, by omega, smB_le hB (by omega), fun _ => ⟨rfl, rfl⟩, fun w => by omega, frC2_of w4, frS_of w5⟩
        · rw [if_pos (by decide), w1, Option.bind_some]
        · rw [if_pos (by decide)]
        · rw [w4 1 9 (by omega)]; exact c9
        · rw [w4 1 10 (by omega)]; exact c10
        · rw [w4 1 11 (by omega)]; exact c11
        · rw [w5 3 q (by omega)]; exact m3
        · rw [w5 4 q (by omega)]; exact m4
        · rw [w5 2 q (by omega)]; exact m2
      · refine ⟨h_u Ic 1 11 (iI (u 0 + sg * m)), h_u Im 2 q (iI (u 0 + sg * m)), p, 0, uadd u 0 (sg * m), ?_, ?_, tkP_of h (fun i hi => hu_fr (by omega)) (fun c i q1 q2 => hu_fr (by omega)) (fun i _ _ => hu_fr (by omega)) (fun i => hu_fr (by omega)), ⟨⟨?_, ?_, ?_⟩, ?_, ?_, ?_⟩, by omega, smB_add hB hs hm, fun w => by omega, fun _ w => (by cases w), fun c i w => hu_fr (by omega), fun c i w1 w2 => hu_fr (by omega)⟩
        · rw [if_neg (by decide), hl_eq, c11, iI_add]
        · rw [if_neg (by decide)]
        · rw [hu_fr (by omega)]; exact c9
        · rw [hu_fr (by omega)]; exact c10
        · rw [h_u_at]; rfl
        · rw [hu_fr (by omega)]; exact m3
        · rw [hu_fr (by omega)]; exact m4
        · rw [h_u_at]; rfl
theorem m_number (h : tkP T N n p 0 Ic Im) (hk : tkK T N p = 256) : tkV T N p ≤ 100 ∧ Ic 5 p = nI (tkV T N p) ∧ Im 0 6 = (2 : Int32) ∧ mM_takesNumber (nI 0) (nI 99) Im = if tkV T N p ≤ 99 then ((mM_next Im).bind fun q2 => some (nI (tkV T N p), q2)) else some (nI 0, mM_bad Im) := by
  have hp := (tk_kd h).2 (by omega)
  obtain ⟨v, Ic', Im', p', e', a1, a2, a3, a4, _⟩ := number_both h (lo := 0) (hi := 99) (by omega) (by omega)
  have e5 := (h.2.2.1.2.2.1 p hp).2.2.2 hk
  have hlt := (h.2.2.1.2.2.1 p hp).1
  have hV : tkV T N p ≤ 100 := by
    have e1 : tkK T N p = kdF T N (tkS T N p) (tkA T N (p + 1)) := rfl
    have hwb := wkN_bd T (tkS T N p) (tkA T N (p + 1))
    have hT := h.1.2.2.2 _ hlt
    have eA : tkA T N (p + 1) = tkE T N (tkS T N p) := rfl
    unfold tkV
    rw [e1] at hk
    unfold kdF at hk
    rw [if_pos hlt] at hk
    by_cases q : isL (T (tkS T N p)) = true
    · rw [if_pos q] at hk; omega
    · rw [if_neg q] at hk
      by_cases q2 : isD (T (tkS T N p)) = true
      · have eE : tkE T N (tkS T N p) = rn T N isD (tkS T N p + 1) := by unfold tkE; rw [if_pos hlt, if_neg q, if_pos q2]
        rw [eA, eE]
        exact (nvF_bd hlt q2).1
      · rw [if_neg q2] at hk; omega
  rcases h.2.2.2.2.2 with ⟨c0, k1, k2, k3, k4⟩ | ⟨c0, _⟩
  · have e6 : Im 0 6 = (2 : Int32) := by
      rw [k4.2.2.1, hk]
      rfl
    refine ⟨hV, e5, e6, ?_⟩
    have e7 := k4.2.2.2 hk
    have hrV : rV (tkV T N p) < 2 ^ 31 := by unfold rV; split <;> omega
    have hin := m_inR (a := rV (tkV T N p)) (lo := 0) (hi := 99) hrV (by omega) (by omega)
    unfold mM_takesNumber mM_takesNumber_31
    rw [if_pos ((wr_m1 h).mpr rfl), if_pos e6, e7, hin, hl_eq, hl_eq]
    by_cases q : tkV T N p ≤ 99
    · have er : rV (tkV T N p) = tkV T N p := by unfold rV; rw [if_neg (by omega)]
      rw [er, decide_eq_true (show 0 ≤ tkV T N p ∧ tkV T N p ≤ 99 by omega), if_neg (by decide), if_pos q]
    · have er : rV (tkV T N p) = 1000 := by unfold rV; rw [if_pos (by omega)]
      rw [er, decide_eq_false (by omega), if_pos (by decide), if_neg q]
  · omega
theorem part_both (h : tkP T N n p e Ic Im) {q : Nat} {sg : Int} {u : Nat → Int} (hq : q < 1000) (hu : smH q u Ic Im) (hB : smB u p) (hs : sg = 1 ∨ sg = -1) : ∃ (Ic' Im' : hI) (p' e' : Nat) (u' : Nat → Int), mRd_readSumPart (iI sg) Ic = some Ic' ∧ mM_takesPart (nI q) (iI sg) Im = some Im' ∧ tkP T N n p' e' Ic' Im' ∧ smH q u' Ic' Im' ∧ smB u' p' ∧ p ≤ p' ∧ (e' = 0 → e = 0 ∧ p < p') ∧ frC2 Ic Ic' ∧ frS q Im Im' := by
  have hn := tk_n h
  have hk := kd_isL h (v := 256) (x := 256) rfl (by omega)
  have hple := h.2.2.2.1
  by_cases he : e = 0
  · subst he
    by_cases c : tkK T N p = 256
    · have hp := (tk_kd h).2 (by omega)
      obtain ⟨hV, e5, e6, eN⟩ := m_number h c
      have a5 := h.2.2.2.2.1
      have tC : mRd_readSumPart (iI sg) Ic = if nI 99 < nI (tkV T N p) then mRd_readSumPart_28 (iI sg) Ic else mRd_readSumPart_29 (iI sg) (nI 1) Ic := by
        unfold mRd_readSumPart
        rw [if_pos (hk.mpr ⟨rfl, c⟩), a5, hg_in _ (by omega) (by omega), nI_clamp (by omega), e5]
        rfl
      have tM : mM_takesPart (nI q) (iI sg) Im = ((mM_takesNumber (nI 0) (nI 99) Im).bind fun q1 => mM_takesPart_39 (nI q) (iI sg) q1.1 (nI 1) q1.2) := by
        unfold mM_takesPart mM_takesPart_24
        rw [if_pos ((wr_m1 h).mpr rfl), if_pos e6, if_neg (by decide)]
        rfl
      rw [tC, tM, eN]
      by_cases d : tkV T N p ≤ 99
      · obtain ⟨Ic1, Im1, q1, q2, q3, q4, q5⟩ := next_both h hp
        have hu1 : smH q u Ic1 Im1 := by
          obtain ⟨⟨c9, c10, c11⟩, m3, m4, m2⟩ := hu
          exact ⟨⟨by rw [q4 1 9 (by omega)]; exact c9, by rw [q4 1 10 (by omega)]; exact c10, by rw [q4 1 11 (by omega)]; exact c11⟩, by rw [q5 3 q (by omega)]; exact m3, by rw [q5 4 q (by omega)]; exact m4, by rw [q5 2 q (by omega)]; exact m2⟩
        obtain ⟨Ic', Im', p', e', u', w1, w2, w3, w4, w5, w6, w7, w8, w9, w10⟩ := tail_both q3 hq hu1 hB hs d true
        have e0 : e' = 0 := by
          by_cases z : 1 ≤ e'
          · have := (w7 z).2; cases this
          · omega
        refine ⟨Ic', Im', p', e', u', ?_, ?_, w3, w4, smB_le w6 w5, by omega, fun _ => ⟨rfl, by omega⟩, frC2_tr (frC2_of q4) w9, frS_tr (frS_of q5) w10⟩
        · rw [if_neg (fun w => by have := (nI_ltI (by omega) (by omega)).mp w; omega)]
          unfold mRd_readSumPart_29 mRd_readSumPart_49
          rw [if_neg (by decide), a5, hg_in _ (by omega) (by omega), nI_clamp (by omega), e5, if_neg (by decide), q1, Option.bind_some]
          have em : iI sg * nI (tkV T N p) = iI (sg * (tkV T N p : Int)) := by rw [nI_iI, iI_mul]
          rw [em]
          exact w1
        · rw [if_pos d, q2, Option.bind_some, Option.bind_some]
          exact w2
      · rw [if_neg d, if_pos ((nI_ltI (by omega) (by omega)).mpr (by omega)), Option.bind_some]
        obtain ⟨Ic', e', w1, w2, w3, w4, w5⟩ := fail_both h
        obtain ⟨⟨c9, c10, c11⟩, m3, m4, m2⟩ := hu
        have hm2 : mM_bad Im 2 q = iI (u 0) := by rw [w5 2 q (by omega)]; exact m2
        have eX : ∀ x, nI q = x → True := fun _ _ => trivial
        have e0 : iI (u 0) + iI sg * nI 0 = iI (u 0) := by
          have : nI 0 = iI 0 := rfl
          rw [this, iI_mul, iI_add, Int.mul_zero, Int.add_zero]
        refine ⟨Ic', mM_bad Im, p, e', u, ?_, ?_, w2, ⟨⟨?_, ?_, ?_⟩, ?_, ?_, hm2⟩, hB, by omega, fun w => by omega, frC2_of w4, frS_of w5⟩
        · unfold mRd_readSumPart_28 mRd_readSumPart_29 mRd_readSumPart_49 mRd_readSumPart_58
          have k0 := kd_isL h (v := 258) (x := 258) rfl (by omega)
          have k1 := kd_isL h (v := 259) (x := 259) rfl (by omega)
          rw [if_pos rfl, if_pos rfl, if_neg (fun w => by have := (k0.mp w).2; omega), if_neg (fun w => by have := (k1.mp w).2; omega), if_pos rfl, w1, Option.bind_some]
        · unfold mM_takesPart_39
          rw [tw_n w2 (j := 0) (by omega) (fun w => by omega), Option.bind_some, if_pos (pr0 _)]
          try dsimp only
          rw [tw_n w2 (j := 1) (by omega) (fun w => by omega), Option.bind_some, if_pos (pr0 _)]
          try dsimp only
          rw [if_neg (show ¬ nI 1 = (0 : Int32) by decide), hg_in _ hq (by omega), hg_in _ hq (by omega), hl_eq, nI_clamp (by omega), hm2, e0, ← hm2, hu_id]
        · rw [w4 1 9 (by omega)]; exact c9
        · rw [w4 1 10 (by omega)]; exact c10
        · rw [w4 1 11 (by omega)]; exact c11
        · rw [w5 3 q (by omega)]; exact m3
        · rw [w5 4 q (by omega)]; exact m4
    · obtain ⟨Ic', Im', p', e', u', w1, w2, w3, w4, w5, w6, w7, w8, w9, w10⟩ := tail_both (m := 1) h hq hu hB hs (by omega) false
      have e61 : sg * ((1 : Nat) : Int) = sg := by omega
      rw [e61] at w1
      have e6 : ¬ Im 0 6 = (2 : Int32) := by
        rcases h.2.2.2.2.2 with ⟨c0, k1, k2, k3, k4⟩ | ⟨c0, _⟩
        · rw [k4.2.2.1]
          intro q
          have q2 := (nI_eq (a := ptK (tkK T N p)) (b := 2) (by unfold ptK; split <;> (try split) <;> (try split) <;> omega) (by omega)).mp q
          unfold ptK at q2
          by_cases w1 : tkK T N p = 0
          · rw [if_pos w1] at q2; omega
          · rw [if_neg w1] at q2
            by_cases w2 : tkK T N p < 256
            · rw [if_pos w2] at q2; omega
            · rw [if_neg w2, if_neg c] at q2; omega
        · omega
      refine ⟨Ic', Im', p', e', u', ?_, ?_, w3, w4, ?_, w5, fun z => ⟨rfl, w8 z rfl⟩, w9, w10⟩
      · unfold mRd_readSumPart mRd_readSumPart_28 mRd_readSumPart_29 mRd_readSumPart_49
        rw [if_neg (fun w => c (hk.mp w).2), if_pos rfl, if_pos rfl]
        exact w1
      · unfold mM_takesPart mM_takesPart_24
        rw [if_pos ((wr_m1 h).mpr rfl), if_neg e6, if_pos rfl]
        exact w2
      · by_cases z : 1 ≤ e'
        · rw [(w7 z).1]; exact smB_le hB w5
        · exact smB_le w6 (by have := w8 (by omega) rfl; omega)
  · have h7 := (kd_m1 h).mpr (by omega)
    refine ⟨Ic, Im, p, e, u, ?_, ?_, h, hu, hB, by omega, fun z => by omega, fun _ _ _ => rfl, fun _ _ _ _ => rfl⟩
    · have k0 := kd_isL h (v := 258) (x := 258) rfl (by omega)
      have k1 := kd_isL h (v := 259) (x := 259) rfl (by omega)
      unfold mRd_readSumPart mRd_readSumPart_28 mRd_readSumPart_29 mRd_readSumPart_49 mRd_readSumPart_58
      rw [if_neg (fun w => he (hk.mp w).1), if_pos rfl, if_pos rfl, if_neg (fun w => he (k0.mp w).1), if_neg (fun w => he (k1.mp w).1), if_pos rfl, fail_c h7, Option.bind_some]
    · unfold mM_takesPart
      rw [if_neg (fun w => he ((wr_m1 h).mp w))]
theorem sum_L {q : Nat} (hq : q < 1000) : ∀ (r p e fuel fuel2 i : Nat) (sg : Int) (u : Nat → Int) (Ic Im : hI), n - p ≤ r → r < fuel → r < fuel2 → 2 * i ≤ p → tkP T N n p e Ic Im → smH q u Ic Im → smB u p → (sg = 1 ∨ sg = -1) → ∃ (Ic' Im' : hI) (p' e' : Nat) (u' : Nat → Int), mRd_readSum_L19 fuel (iI sg) (nI i) Ic = some Ic' ∧ ((mM_takesPart (nI q) (iI sg) Im).bind fun q9 => mM_readSum_L42 fuel2 (nI q) q9) = some (nI q, Im') ∧ tkP T N n p' e' Ic' Im' ∧ smH q u' Ic' Im' ∧ smB u' p' ∧ p ≤ p' ∧ (e' = 0 → e = 0 ∧ p < p') ∧ frC2 Ic Ic' ∧ frS q Im Im' := by
  intro r
  induction r with
  | zero =>
    intro p e fuel fuel2 i sg u Ic Im hr hf hf2 hi h hu hB hs
    have hn := tk_n h
    have hple := h.2.2.2.1
    obtain ⟨fuel, rfl⟩ : ∃ m, fuel = m + 1 := ⟨fuel - 1, by omega⟩
    obtain ⟨fuel2, rfl⟩ : ∃ m, fuel2 = m + 1 := ⟨fuel2 - 1, by omega⟩
    obtain ⟨Ic1, Im1, p1, e1, u1, w1, w2, w3, w4, w5, w6, w7, w8, w9⟩ := part_both h hq hu hB hs
    have hp1 := w3.2.2.2.1
    have k43 := kd_isL w3 (v := 43) (x := 43) rfl (by omega)
    have k45 := kd_isL w3 (v := 45) (x := 45) rfl (by omega)
    have hk := tk_kd w3
    have z43 : ¬ (e1 = 0 ∧ tkK T N p1 = 43) := fun z => by have := hk.2 (by omega); omega
    have z45 : ¬ (e1 = 0 ∧ tkK T N p1 = 45) := fun z => by have := hk.2 (by omega); omega
    refine ⟨Ic1, Im1, p1, e1, u1, ?_, ?_, w3, w4, w5, w6, w7, w8, w9⟩
    · show mRd_readSum_B19 (mRd_readSum_L19 fuel) _ _ _ = _
      unfold mRd_readSum_B19
      rw [li_500, if_neg (fun q => by have := (nI_leI (by omega) (by omega)).mp q; omega), w1, Option.bind_some, if_neg (fun w => z43 (k43.mp w)), if_neg (fun w => z45 (k45.mp w))]
    · rw [w2, Option.bind_some]
      show mM_readSum_B42 (mM_readSum_L42 fuel2) _ _ = _
      unfold mM_readSum_B42
      rw [li_43, li_45, m_isSign w3 (c := 43) (by omega), Option.bind_some, decide_eq_false z43, if_pos (by decide), m_isSign w3 (c := 45) (by omega), Option.bind_some, decide_eq_false z45, if_pos (by decide)]
  | succ r ih =>
    intro p e fuel fuel2 i sg u Ic Im hr hf hf2 hi h hu hB hs
    have hn := tk_n h
    have hple := h.2.2.2.1
    obtain ⟨fuel, rfl⟩ : ∃ m, fuel = m + 1 := ⟨fuel - 1, by omega⟩
    obtain ⟨fuel2, rfl⟩ : ∃ m, fuel2 = m + 1 := ⟨fuel2 - 1, by omega⟩
    obtain ⟨Ic1, Im1, p1, e1, u1, w1, w2, w3, w4, w5, w6, w7, w8, w9⟩ := part_both h hq hu hB hs
    have hp1 := w3.2.2.2.1
    have k43 := kd_isL w3 (v := 43) (x := 43) rfl (by omega)
    have k45 := kd_isL w3 (v := 45) (x := 45) rfl (by omega)
    have hk := tk_kd w3
    -- a sign follows
    have go : ∀ (s2 : Int), e1 = 0 → (tkK T N p1 = 43 ∧ s2 = 1 ∨ tkK T N p1 = 45 ∧ s2 = -1) → ∃ (Ic' Im' : hI) (p' e' : Nat) (u' : Nat → Int), mRd_readSum_64 (mRd_readSum_L19 fuel) (nI i) (iI s2) Ic1 = some Ic' ∧ mM_readSum_79 (mM_readSum_L42 fuel2) (nI q) (iI s2) Im1 = some (nI q, Im') ∧ tkP T N n p' e' Ic' Im' ∧ smH q u' Ic' Im' ∧ smB u' p' ∧ p ≤ p' ∧ (e' = 0 → e = 0 ∧ p < p') ∧ frC2 Ic Ic' ∧ frS q Im Im' := by
      intro s2 z0 z1
      subst z0
      have hpn := hk.2 (by omega)
      obtain ⟨z2, z3⟩ := w7 rfl
      obtain ⟨Ic2, Im2, q1, q2, q3, q4, q5⟩ := next_both w3 hpn
      have hu2 : smH q u1 Ic2 Im2 := by
        obtain ⟨⟨c9, c10, c11⟩, m3, m4, m2⟩ := w4
        exact ⟨⟨by rw [q4 1 9 (by omega)]; exact c9, by rw [q4 1 10 (by omega)]; exact c10, by rw [q4 1 11 (by omega)]; exact c11⟩, by rw [q5 3 q (by omega)]; exact m3, by rw [q5 4 q (by omega)]; exact m4, by rw [q5 2 q (by omega)]; exact m2⟩
      obtain ⟨Ic', Im', p', e', u', x1, x2, x3, x4, x5, x6, x7, x8, x9⟩ := ih (p1 + 1) 0 fuel fuel2 (i + 1) s2 u1 Ic2 Im2 (by omega) (by omega) (by omega) (by omega) q3 hu2 (smB_le w5 (by omega)) (by omega)
      refine ⟨Ic', Im', p', e', u', ?_, ?_, x3, x4, x5, by omega, fun z => ⟨z2, by omega⟩, frC2_tr (frC2_tr w8 (frC2_of q4)) x8, frS_tr (frS_tr w9 (frS_of q5)) x9⟩
      · unfold mRd_readSum_64
        rw [q1, Option.bind_some, li_1, nI_add]
        exact x1
      · unfold mM_readSum_79
        rw [q2, Option.bind_some]
        exact x2
    by_cases z : e1 = 0 ∧ (tkK T N p1 = 43 ∨ tkK T N p1 = 45)
    · obtain ⟨z0, z1⟩ := z
      have hpn := hk.2 (by omega)
      have hlt := (w3.2.2.1.2.2.1 p1 hpn).1
      have hN := w3.1.1
      have e4 : Im1 0 4 = nI (tkS T N p1) := by
        rcases w3.2.2.2.2.2 with ⟨c0, k1, k2, k3, k4⟩ | ⟨c0, _⟩
        · exact k4.2.1
        · omega
      have eT : Im1 1 (tkS T N p1) = nI (tkK T N p1) := by
        have hT := w3.1.2.2.2 _ hlt
        rw [w3.2.1.2.2.1 _ hlt]
        have e1 : tkK T N p1 = kdF T N (tkS T N p1) (tkA T N (p1 + 1)) := rfl
        have hwb := wkN_bd T (tkS T N p1) (tkA T N (p1 + 1))
        rw [e1] at z1 ⊢
        unfold kdF at z1 ⊢
        rw [if_pos hlt] at z1 ⊢
        by_cases q : isL (T (tkS T N p1)) = true
        · rw [if_pos q] at z1; omega
        · rw [if_neg q] at z1 ⊢
          by_cases q2 : isD (T (tkS T N p1)) = true
          · rw [if_pos q2] at z1; omega
          · rw [if_neg q2]
      have tM : mM_readSum_60 (mM_readSum_L42 fuel2) (nI q) Im1 = if nI (tkK T N p1) = nI 43 then mM_readSum_79 (mM_readSum_L42 fuel2) (nI q) (iI 1) Im1 else mM_readSum_79 (mM_readSum_L42 fuel2) (nI q) (iI (-1)) Im1 := by
        unfold mM_readSum_60
        rw [e4, hg_in _ (by omega) (by omega), nI_clamp (by omega), eT]
        rfl
      have tC : mRd_readSum_50 (mRd_readSum_L19 fuel) (nI i) Ic1 = if nI (tkK T N p1) = nI 43 then mRd_readSum_64 (mRd_readSum_L19 fuel) (nI i) (iI 1) Ic1 else mRd_readSum_64 (mRd_readSum_L19 fuel) (nI i) (iI (-1)) Ic1 := by
        have e7 : Ic1 1 7 = nI (tkK T N p1) := (kd_is w3 (by omega)).mpr ⟨z0, rfl⟩
        unfold mRd_readSum_50
        rw [e7]
        rfl
      have topC : mRd_readSum_L19 (fuel + 1) (iI sg) (nI i) Ic = mRd_readSum_50 (mRd_readSum_L19 fuel) (nI i) Ic1 := by
        show mRd_readSum_B19 (mRd_readSum_L19 fuel) _ _ _ = _
        unfold mRd_readSum_B19
        rw [li_500, if_neg (fun q => by have := (nI_leI (by omega) (by omega)).mp q; omega), w1, Option.bind_some]
        by_cases y : tkK T N p1 = 43
        · rw [if_pos (k43.mpr ⟨z0, y⟩)]
        · rw [if_neg (fun w => y (k43.mp w).2), if_pos (k45.mpr ⟨z0, by omega⟩)]
      have topM : ((mM_takesPart (nI q) (iI sg) Im).bind fun q9 => mM_readSum_L42 (fuel2 + 1) (nI q) q9) = mM_readSum_60 (mM_readSum_L42 fuel2) (nI q) Im1 := by
        rw [w2, Option.bind_some]
        show mM_readSum_B42 (mM_readSum_L42 fuel2) _ _ = _
        unfold mM_readSum_B42
        rw [li_43, li_45, m_isSign w3 (c := 43) (by omega), Option.bind_some]
        by_cases y : tkK T N p1 = 43
        · rw [decide_eq_true ⟨z0, y⟩, if_neg (by decide)]
        · rw [decide_eq_false (fun w => y w.2), if_pos (by decide), m_isSign w3 (c := 45) (by omega), Option.bind_some, decide_eq_true ⟨z0, by omega⟩, if_neg (by decide)]
      rw [topC, topM, tC, tM]
      by_cases y : tkK T N p1 = 43
      · rw [if_pos (by rw [y]), if_pos (by rw [y])]
        exact go 1 z0 (Or.inl ⟨y, rfl⟩)
      · rw [if_neg (fun w => y ((nI_eq (by omega) (by omega)).mp w)), if_neg (fun w => y ((nI_eq (by omega) (by omega)).mp w))]
        exact go (-1) z0 (Or.inr ⟨by omega, rfl⟩)
    · have z43 : ¬ (e1 = 0 ∧ tkK T N p1 = 43) := fun w => z ⟨w.1, Or.inl w.2⟩
      have z45 : ¬ (e1 = 0 ∧ tkK T N p1 = 45) := fun w => z ⟨w.1, Or.inr w.2⟩
      refine ⟨Ic1, Im1, p1, e1, u1, ?_, ?_, w3, w4, w5, w6, w7, w8, w9⟩
      · show mRd_readSum_B19 (mRd_readSum_L19 fuel) _ _ _ = _
        unfold mRd_readSum_B19
        rw [li_500, if_neg (fun q => by have := (nI_leI (by omega) (by omega)).mp q; omega), w1, Option.bind_some, if_neg (fun w => z43 (k43.mp w)), if_neg (fun w => z45 (k45.mp w))]
      · rw [w2, Option.bind_some]
        show mM_readSum_B42 (mM_readSum_L42 fuel2) _ _ = _
        unfold mM_readSum_B42
        rw [li_43, li_45, m_isSign w3 (c := 43) (by omega), Option.bind_some, decide_eq_false z43, if_pos (by decide), m_isSign w3 (c := 45) (by omega), Option.bind_some, decide_eq_false z45, if_pos (by decide)]
/-- what a sum that is read leaves -/
def frR (q : Nat) (Im Im' : hI) : Prop := ∀ c i, (c ≠ 0 ∨ i < 3 ∨ (7 < i ∧ i ≠ 11)) → (c < 2 ∨ 4 < c ∨ i ≠ q) → Im' c i = Im c i
theorem sum_both (h : tkP T N n p e Ic Im) {q : Nat} (hq : q < 1000) (h11 : Im 0 11 = nI q) : ∃ (Ic' Im' : hI) (p' e' : Nat) (u : Nat → Int), mRd_readSum Ic = some Ic' ∧ mM_readSum Im = some (nI q, Im') ∧ tkP T N n p' e' Ic' Im' ∧ smH q u Ic' Im' ∧ smB u p' ∧ p ≤ p' ∧ (e' = 0 → e = 0 ∧ p < p') ∧ Im' 0 11 = nI (q + 1) ∧ frC2 Ic Ic' ∧ frR q Im Im' := by
  have hn := tk_n h
  obtain ⟨I3, hI3⟩ : ∃ J, J = h_u (h_u (h_u Ic 1 9 (nI 0)) 1 10 (nI 0)) 1 11 (nI 0) := ⟨_, rfl⟩
  obtain ⟨I8, hI8⟩ : ∃ J, J = h_u (h_u (h_u (h_u Im 0 11 (nI (q + 1))) 2 q (nI 0)) 3 q (nI 0)) 4 q (nI 0) := ⟨_, rfl⟩
  have f3 : ∀ c i, (c ≠ 1 ∨ i < 9 ∨ 11 < i) → I3 c i = Ic c i := fun c i w => by rw [hI3, hu_fr (by omega), hu_fr (by omega), hu_fr (by omega)]
  have f8 : ∀ c i, (c ≠ 0 ∨ i ≠ 11) → (c < 2 ∨ 4 < c ∨ i ≠ q) → I8 c i = Im c i := fun c i w1 w2 => by rw [hI8, hu_fr (by omega), hu_fr (by omega), hu_fr (by omega), hu_fr (by omega)]
  have h1 : tkP T N n p e I3 I8 := tkP_of h (fun i hi => f3 1 i (by omega)) (fun c i q1 q2 => f3 c i (by omega)) (fun i q1 q2 => f8 0 i (by omega) (by omega)) (fun i => f8 1 i (by omega) (by omega))
  have z : nI 0 = iI 0 := rfl
  have hu : smH q (fun _ => 0) I3 I8 := by
    refine ⟨⟨?_, ?_, ?_⟩, ?_, ?_, ?_⟩
    · rw [hI3, hu_fr (by omega), hu_fr (by omega), h_u_at, z]
    · rw [hI3, hu_fr (by omega), h_u_at, z]
    · rw [hI3, h_u_at, z]
    · rw [hI8, hu_fr (by omega), h_u_at, z]
    · rw [hI8, h_u_at, z]
    · rw [hI8, hu_fr (by omega), hu_fr (by omega), h_u_at, z]
  have hB : smB (fun _ => 0) p := smB_0 p
  obtain ⟨Ic', Im', p', e', u, w1, w2, w3, w4, w5, w6, w7, w8, w9⟩ := sum_L hq (n - p) p e hF hF 0 1 (fun _ => 0) I3 I8 (by omega) (by unfold hF; omega) (by unfold hF; omega) (by omega) h1 hu hB (Or.inl rfl)
  refine ⟨Ic', Im', p', e', u, ?_, ?_, w3, w4, w5, w6, w7, ?_, fun c i x => ?_, fun c i x1 x2 => ?_⟩
  · unfold mRd_readSum
    rw [hl_eq, hl_eq, hl_eq, li_0, ← hI3]
    exact w1
  · unfold mM_readSum
    rw [h11, hl_eq, hl_eq, hg_in _ hq (by omega), hl_eq, hg_in _ hq (by omega), hl_eq, hg_in _ hq (by omega), hl_eq, nI_clamp (by omega), li_1, nI_add, li_0, ← hI8]
    exact w2
  · rw [w9 0 11 (by omega) (by omega), hI8, hu_fr (by omega), hu_fr (by omega), hu_fr (by omega), h_u_at]
  · rw [w8 c i x, f3 c i (by omega)]
  · rw [w9 c i (by omega) x2, f8 c i (by omega) x2]
end Sb
