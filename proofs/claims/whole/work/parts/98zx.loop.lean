/-! A LOOP's text: both readers read it alike. -/
/-- what reading a LOOP may change -/
def LCf (t : Nat) (I I' : hI) : Prop := ∀ c i, (c < 1 ∨ c = 2 ∨ 5 < c ∨ (c = 1 ∧ i < 5)) → (c < t ∨ t + 57 ≤ c) → I' c i = I c i
def LMf (I I' : hI) : Prop := ∀ c i, (c ≠ 0 ∨ i < 3 ∨ 31 < i) → (c < 2 ∨ 8 < c ∨ 250 ≤ i) → (c < 9 ∨ 15 < c ∨ 24 ≤ i) → I' c i = I c i
/-- what both have of a LOOP that was read to its end -/
def lpR (t w h sz n np wt k q : Nat) (Ic Im : hI) : Prop := ((1 ≤ w ∧ w ≤ 10) ∧ (1 ≤ h ∧ h ≤ 10) ∧ w * h ≤ 10) ∧ (Ic t 4 = nI (w - 1) ∧ Ic t 5 = nI (h - 1) ∧ Im 0 26 = nI w ∧ Im 0 27 = nI h) ∧ (Ic t 3 = nI sz ∧ sz ≤ 48) ∧ (Ic t 6 = nI wt ∧ Im 0 28 = nI wt ∧ 0 < wt ∧ wt ≤ k) ∧ (Ic t 7 = nI n ∧ Im 0 24 = nI n ∧ n ≤ 24) ∧ (Ic t 8 = nI np ∧ Im 0 25 = nI np ∧ np ≤ 3) ∧ (Ic t 9 = nI (ctK Im 3 n) ∧ Ic t 10 = nI (ctK Im 2 n)) ∧ (Im 0 11 = nI q ∧ Im 0 16 = nI k ∧ q ≤ 240 ∧ k ≤ 100) ∧ Im 0 29 = ptI 0 (ptN 0 n) ∧ cnR 0 (t + 1) q 0 wt Ic Im ∧ Ic (t + 6) 0 = nI 1 ∧ bodyR t 6 0 n 0 sz sz k (ctK Im 2 n) q Ic Im
section Lb
variable {T : Nat → Nat} {N n p e t : Nat} {Ic Im : hI}
theorem cond_bad (h : tkP T N n p e Ic Im) (he : 1 ≤ e) (t1 : Nat) : mRd_readCondition t1 Ic = some Ic := by
  unfold mRd_readCondition
  show mRd_readCondition_B4 (mRd_readCondition_L4 999) t1 (1 : Int32) (0 : Int32) Ic = _
  unfold mRd_readCondition_B4
  rw [if_neg (by decide), hl_eq, hl_eq, hl_eq, hl_eq, rd_isRel h, decide_eq_false (fun w => by omega), if_pos (by decide), fail_c ((kd_m1 h).mpr he), Option.bind_some]
/-- the text must be over -/
theorem close_both (h : tkP T N n p e Ic Im) : ∃ (v : Int32) (Ic' : hI), mRd_close Ic = some (v, Ic') ∧ mM_over Im 0 5 = v ∧ frC Ic Ic' ∧ frMm Im (mM_over Im) ∧ (v = (-1 : Int32) → e = 0 ∧ Ic' = Ic ∧ mM_over Im = Im) := by
  have hkd := tk_kd h
  have k0 := kd_isL h (v := 0) (x := 0) rfl (by omega)
  by_cases c : e = 0 ∧ tkK T N p = 0
  · obtain ⟨rfl, c2⟩ := c
    rcases h.2.2.2.2.2 with ⟨_, g1, g2, g3, g4⟩ | ⟨g0, _⟩
    · have e6 : Im 0 6 = (0 : Int32) := by rw [g4.2.2.1, c2]; rfl
      have eM : mM_over Im = Im := by
        unfold mM_over
        rw [if_pos g3, if_pos e6]
      refine ⟨(-1 : Int32), Ic, ?_, by rw [eM]; exact g3, frC_id _, by rw [eM]; exact frMm_id _, fun _ => ⟨rfl, rfl, eM⟩⟩
      unfold mRd_close
      rw [if_pos (k0.mpr ⟨rfl, c2⟩), g2]
    · omega
  · obtain ⟨Ic', e', w1, w2, w3, w4, w5⟩ := fail_both h
    rcases w2.2.2.2.2.2 with ⟨g0, _⟩ | ⟨g0, g1, g2, g3⟩
    · omega
    · have eM : mM_over Im = mM_bad Im := by
        unfold mM_over
        by_cases he : e = 0
        · rw [if_pos ((wr_m1 h).mpr he)]
          rcases h.2.2.2.2.2 with ⟨_, j1, j2, j3, j4⟩ | ⟨j0, _⟩
          · have e6 : ¬ Im 0 6 = (0 : Int32) := by
              rw [j4.2.2.1]
              intro q
              have q2 := (nI_eq (a := ptK (tkK T N p)) (b := 0) (by unfold ptK; split <;> (try split) <;> (try split) <;> omega) (by omega)).mp q
              unfold ptK at q2
              by_cases w1 : tkK T N p = 0
              · exact c ⟨he, w1⟩
              · rw [if_neg w1] at q2
                by_cases w2 : tkK T N p < 256
                · rw [if_pos w2] at q2; omega
                · rw [if_neg w2] at q2
                  by_cases w3 : tkK T N p = 256
                  · rw [if_pos w3] at q2; omega
                  · rw [if_neg w3] at q2; omega
            rw [if_neg e6, hl_eq]
          · omega
        · rw [if_neg (fun w => he ((wr_m1 h).mp w)), bad_m h (by omega)]
      refine ⟨nI (e' - 1), Ic', ?_, by rw [eM]; exact g3, w4, by rw [eM]; exact w5, fun z => absurd z (nI_nem1 (by omega))⟩
      unfold mRd_close
      rw [if_neg (fun w => c (k0.mp w)), w1, Option.bind_some, g2]
/-- behind the sizes: while, the condition, the body -/
theorem loop_tail {w hh : Nat} (ht : 61 ≤ t) (h : tkP T N n p e Ic Im) (hw : (1 ≤ w ∧ w ≤ 10) ∧ (1 ≤ hh ∧ hh ≤ 10) ∧ w * hh ≤ 10) (h4 : Ic t 4 = nI (w - 1) ∧ Ic t 5 = nI (hh - 1) ∧ Im 0 26 = nI w ∧ Im 0 27 = nI hh) (h0 : Ic t 3 = nI 0 ∧ Ic t 7 = nI 0 ∧ Ic t 8 = nI 0 ∧ Ic t 9 = nI 0 ∧ Ic t 10 = nI 0 ∧ Ic (t + 1) 5 = nI 0) (m0 : Im 0 24 = nI 0 ∧ Im 0 25 = nI 0 ∧ Im 0 30 = nI 0 ∧ Im 0 31 = nI 0 ∧ Im 0 11 = nI 0 ∧ Im 0 16 = nI 0) : ∃ (v : Int32) (Ic' Im' : hI), mLt_readFrom_68 t Ic = some (v, Ic') ∧ mM_readLoop_102 Im = some (v, Im') ∧ GC t Ic Ic' ∧ LMf Im Im' ∧ (v = (-1 : Int32) → ∃ sz n np wt k q, lpR t w hh sz n np wt k q Ic' Im') := by
  obtain ⟨c3, c7, c8, c9, c10, c15⟩ := h0
  obtain ⟨m24, m25, m30, m31, m11, m16⟩ := m0
  obtain ⟨h4a, h4b, h26, h27⟩ := h4
  obtain ⟨Ic1, Im1, p1, e1, x1, x2, x3, x4, x5, xp, x6⟩ := takeW_both h (j := 2) (by omega) mM_readLoop_116
  have topM : mM_readLoop_102 Im = mM_readLoop_116 Im1 := x2
  have topC : mLt_readFrom_68 t Ic = ((mRd_readSum Ic1).bind fun q2 => (mRd_readCondition (t + 1) q2).bind fun q3 => h_let (h_u q3 t 6 (q3 (t + 1) 5)) fun I4 => (mLt_readBlock 10 t (1 : Int32) (0 : Int32) I4).bind fun q5 => (mRd_close q5.2).bind fun q6 => some (q6.1, q6.2)) := by
    have x1' : mRd_take (260 : Int32) Ic = some Ic1 := x1
    unfold mLt_readFrom_68
    rw [x1', Option.bind_some]
  -- where a fault was found
  have bad : ∀ (Ic2 Im2 : hI) (p2 e2 : Nat), tkP T N n p2 e2 Ic2 Im2 → 1 ≤ e2 → GC t Ic Ic2 → LMf Im Im2 → ∃ (v : Int32) (Ic' Im' : hI), (h_let (h_u Ic2 t 6 (Ic2 (t + 1) 5)) fun I4 => (mLt_readBlock 10 t (1 : Int32) (0 : Int32) I4).bind fun q5 => (mRd_close q5.2).bind fun q6 => some (q6.1, q6.2)) = some (v, Ic') ∧ mM_readLoop_129 Im2 = some (v, Im') ∧ GC t Ic Ic' ∧ LMf Im Im' ∧ (v = (-1 : Int32) → ∃ sz n np wt k q, lpR t w hh sz n np wt k q Ic' Im') := by
    intro Ic2 Im2 p2 e2 g1 g2 g3 g4
    obtain ⟨J, hJ⟩ : ∃ J, J = h_u Ic2 t 6 (Ic2 (t + 1) 5) := ⟨_, rfl⟩
    have fJ : ∀ c i, (c ≠ t ∨ i ≠ 6) → J c i = Ic2 c i := fun c i w => by rw [hJ, hu_fr w]
    obtain ⟨M, hM⟩ : ∃ J, J = h_u (h_u Im2 0 28 (Im2 0 16)) 0 29 (-1 : Int32) := ⟨_, rfl⟩
    have fM : ∀ c i, (c ≠ 0 ∨ (i ≠ 28 ∧ i ≠ 29)) → M c i = Im2 c i := fun c i w => by rw [hM, hu_fr (by omega), hu_fr (by omega)]
    have kJ : tkP T N n p2 e2 J M := tkP_of g1 (fun i _ => fJ 1 i (by omega)) (fun c i _ _ => fJ c i (by omega)) (fun i _ _ => fM 0 i (by omega)) (fun i => fM 1 i (by omega))
    have k28 : tkP T N n p2 e2 J (h_u Im2 0 28 (Im2 0 16)) := tkP_of g1 (fun i _ => fJ 1 i (by omega)) (fun c i _ _ => fJ c i (by omega)) (fun i _ _ => hu_fr (by omega)) (fun i => hu_fr (by omega))
    obtain ⟨v, Ic', y1, y2, y3, y4, y5⟩ := close_both kJ
    refine ⟨v, Ic', mM_over M, ?_, ?_, GC_tr g3 (fun c i w1 w2 => by rw [y3 c i (by omega), fJ c i (by omega)]), fun c i w1 w2 w3 => by rw [y4 c i (by omega), fM c i (by omega), g4 c i w1 w2 w3], fun z => by have := (y5 z).1; omega⟩
    · rw [hl_eq, ← hJ, block_bad kJ g2, Option.bind_some]
      try dsimp only
      rw [y1, Option.bind_some]
    · unfold mM_readLoop_129
      rw [hl_eq, if_neg (fun w => by have := (wr_m1 k28).mp w; omega)]
      unfold mM_readLoop_154
      rw [hl_eq, ← hM, hl_eq, y2]
  by_cases he : e1 = 0
  · subst he
    obtain ⟨rfl, kd, hpn, rfl⟩ := x6 rfl
    have wlen := word_len h (j := 2) (by omega) kd
    have w2 : wl 2 = 5 := rfl
    have hn := tk_n h
    obtain ⟨Ic2, Im2, p2, e2, u, z1, z2, z3, z4, z5, z6, z7, z8, z9, z10⟩ := sum_both x3 (q := 0) (by omega) (by rw [x5 0 11 (by omega)]; exact m11)
    have hp2 := z3.2.2.2.1
    have hmono := tk_mono h (a := p + 1) (b := p2) (by omega) hp2
    obtain ⟨Ic3, Im3, p3, e3, k3, q3, y1, y2, y3, y4, y5, y6, y7, y8, y9, y10, y11⟩ := cond_L (T := T) (N := N) (n := n) (o := 0) (t := t + 1) (m := 1) (d := 3) (by omega) (by omega) (by omega) (by omega) (n - p2) p2 e2 hF hF 0 0 1 0 true u Ic2 Im2 (by omega) (by unfold hF; omega) (by unfold hF; omega) (by omega) z3 z4 z5 (by omega) z8 (by rw [z9 (t + 1) 5 (by omega), x4 (t + 1) 5 (by omega)]; exact c15) (by rw [z10 0 16 (by omega) (by omega), x5 0 16 (by omega)]; exact m16) (by omega) (by omega) (fun w => by omega)
    rw [Nat.zero_add] at y6
    have hp3 := y3.2.2.2.1
    have gC : ∀ c i, (c ≠ 1 ∨ i < 6 ∨ 11 < i) → (c ≠ t + 1 ∨ i ≠ 5) → (c < t + 2 ∨ t + 6 < c) → Ic3 c i = Ic c i := fun c i w1 w2 w3 => by rw [y7 c i w1 w2 (by omega), z9 c i w1, x4 c i (by omega)]
    have gM : ∀ c i, (c ≠ 0 ∨ i < 3 ∨ (7 < i ∧ i ≠ 11 ∧ i ≠ 16)) → (c < 2 ∨ 8 < c ∨ 250 ≤ i) → Im3 c i = Im c i := fun c i w1 w2 => by rw [y8 c i (by omega) (by omega) (by omega), z10 c i (by omega) (by omega), x5 c i (by omega)]
    have topC2 : mLt_readFrom_68 t Ic = (h_let (h_u Ic3 t 6 (Ic3 (t + 1) 5)) fun I4 => (mLt_readBlock 10 t (1 : Int32) (0 : Int32) I4).bind fun q5 => (mRd_close q5.2).bind fun q6 => some (q6.1, q6.2)) := by
      have y1' : mRd_readCondition (t + 1) Ic2 = some Ic3 := y1
      rw [topC, z1, Option.bind_some, y1', Option.bind_some]
    have topM2 : mM_readLoop_102 Im = mM_readLoop_129 Im3 := by
      have eR : mM_readCond (-1 : Int32) Im1 = some Im3 := by
        unfold mM_readCond mM_readCond_14
        rw [if_pos rfl, z2, Option.bind_some]
        exact y2
      rw [topM]
      unfold mM_readLoop_116
      rw [if_pos ((wr_m1 x3).mpr rfl), eR, Option.bind_some]
    rw [topC2, topM2]
    by_cases he3 : e3 = 0
    · subst he3
      obtain ⟨b1, b2, b3, b4, b5, b6⟩ := y11 rfl
      obtain ⟨J, hJ⟩ : ∃ J, J = h_u Ic3 t 6 (nI k3) := ⟨_, rfl⟩
      have fJ : ∀ c i, (c ≠ t ∨ i ≠ 6) → J c i = Ic3 c i := fun c i w => by rw [hJ, hu_fr w]
      obtain ⟨M, hM⟩ : ∃ J, J = h_u Im3 0 28 (nI k3) := ⟨_, rfl⟩
      have fM : ∀ c i, (c ≠ 0 ∨ i ≠ 28) → M c i = Im3 c i := fun c i w => by rw [hM, hu_fr w]
      have kJ : tkP T N n p3 0 J M := tkP_of y3 (fun i _ => fJ 1 i (by omega)) (fun c i _ _ => fJ c i (by omega)) (fun i _ _ => fM 0 i (by omega)) (fun i => fM 1 i (by omega))
      have hok : okS T N t 0 0 p3 0 0 0 k3 q3 0 J M := by
        refine ⟨⟨⟨by rw [fJ t 3 (by omega), gC t 3 (by omega) (by omega) (by omega)]; exact c3, by rw [fJ t 7 (by omega), gC t 7 (by omega) (by omega) (by omega)]; exact c7, by rw [fM 0 24 (by omega), gM 0 24 (by omega) (by omega)]; exact m24⟩, ⟨by rw [fJ t 8 (by omega), gC t 8 (by omega) (by omega) (by omega)]; exact c8, by rw [fM 0 25 (by omega), gM 0 25 (by omega) (by omega)]; exact m25⟩, ⟨by rw [fJ t 9 (by omega), gC t 9 (by omega) (by omega) (by omega)]; exact c9, by rw [fJ t 10 (by omega), gC t 10 (by omega) (by omega) (by omega)]; exact c10⟩, ⟨by rw [fJ (t + 1) 5 (by omega)]; exact y5, by rw [fM 0 16 (by omega)]; exact y6, by rw [fM 0 11 (by omega)]; exact y4⟩, by omega, by omega, by omega, by omega⟩, by omega, by omega, by rw [fM 0 31 (by omega), gM 0 31 (by omega) (by omega)]; exact m31, by rw [fM 0 30 (by omega), gM 0 30 (by omega) (by omega)]; exact m30, by omega⟩
      obtain ⟨v4, w4, Ic4, Im4, p4, e4, r1, r2, r3, r4, r5, r6, r7, r8⟩ := block_both ht 10 0 0 p3 0 0 0 k3 q3 0 J M (by omega) (by omega) kJ hok
      obtain ⟨M4, hM4⟩ : ∃ J, J = h_u Im4 0 29 w4 := ⟨_, rfl⟩
      have fM4 : ∀ c i, (c ≠ 0 ∨ i ≠ 29) → M4 c i = Im4 c i := fun c i w => by rw [hM4, hu_fr w]
      have k4 : tkP T N n p4 e4 Ic4 M4 := tkP_of r3 (fun _ _ => rfl) (fun _ _ _ _ => rfl) (fun i _ _ => fM4 0 i (by omega)) (fun i => fM4 1 i (by omega))
      obtain ⟨v, Ic', s1, s2, s3, s4, s5⟩ := close_both k4
      refine ⟨v, Ic', mM_over M4, ?_, ?_, fun c i w1 w2 => by rw [s3 c i (by omega), r5 c i w1 w2, fJ c i (by omega), gC c i w1 (by omega) (by omega)], fun c i w1 w2 w3 => by rw [s4 c i (by omega), fM4 c i (by omega), r6 c i (by omega) (by omega) (by omega) (by omega), fM c i (by omega), gM c i (by omega) (by omega)], fun z => ?_⟩
      · have r1' : mLt_readBlock 10 t (1 : Int32) (0 : Int32) J = some (v4, Ic4) := r1
        rw [hl_eq, y5, ← hJ, r1', Option.bind_some]
        try dsimp only
        rw [s1, Option.bind_some]
      · unfold mM_readLoop_129
        rw [hl_eq, y6, ← hM, if_pos ((wr_m1 kJ).mpr rfl), r2, Option.bind_some]
        unfold mM_readLoop_154
        rw [hl_eq]
        try dsimp only
        rw [← hM4, hl_eq, s2]
      · obtain ⟨z1', z2', z3'⟩ := s5 z
        subst z1'
        obtain ⟨_, s', a', pk', k', q', cc', d1, d2, ⟨⟨⟨g3, g7, g24⟩, ⟨g8, g25⟩, ⟨g9, g10⟩, ⟨g15, g16, g11⟩, gs, gpk, gk100, gq⟩, gag, gcc, g31, g30, gA5⟩, d4, d5, d6⟩ := r8 rfl
        rw [z2', z3']
        have ctM : ∀ kd x, ctK M4 kd x = ctK Im4 kd x := fun kd x => ctK_congr x (fun y _ => fM4 9 y (by omega))
        have ct0 : ctK M 2 0 = 0 := rfl
        rw [ct0] at d4
        refine ⟨a', s', pk', k3, k', q', hw, ⟨?_, ?_, ?_, ?_⟩, ⟨g3, by omega⟩, ⟨?_, ?_, by omega, by omega⟩, ⟨g7, by rw [fM4 0 24 (by omega)]; exact g24, gs⟩, ⟨g8, by rw [fM4 0 25 (by omega)]; exact g25, gpk⟩, ⟨by rw [ctM]; exact g9, by rw [ctM]; exact g10⟩, ⟨by rw [fM4 0 11 (by omega)]; exact g11, by rw [fM4 0 16 (by omega)]; exact g16, by omega, by omega⟩, by rw [hM4, h_u_at]; exact d2, ?_, ?_, ?_⟩
        · rw [d4 t 4 (by omega) (by omega) (by omega) (by omega) (by omega) (by omega), fJ t 4 (by omega), gC t 4 (by omega) (by omega) (by omega)]; exact h4a
        · rw [d4 t 5 (by omega) (by omega) (by omega) (by omega) (by omega) (by omega), fJ t 5 (by omega), gC t 5 (by omega) (by omega) (by omega)]; exact h4b
        · rw [fM4 0 26 (by omega), r6 0 26 (by omega) (by omega) (by omega) (by omega), fM 0 26 (by omega), gM 0 26 (by omega) (by omega)]; exact h26
        · rw [fM4 0 27 (by omega), r6 0 27 (by omega) (by omega) (by omega) (by omega), fM 0 27 (by omega), gM 0 27 (by omega) (by omega)]; exact h27
        · rw [d4 t 6 (by omega) (by omega) (by omega) (by omega) (by omega) (by omega), hJ, h_u_at]
        · rw [fM4 0 28 (by omega), r6 0 28 (by omega) (by omega) (by omega) (by omega), hM, h_u_at]
        · exact cnR_of b5 (by omega) (fun c i w1 w2 w3 w4 => by rw [d4 c i (by omega) (by omega) (by omega) (by omega) (by omega) (by omega), fJ c i (by omega)]) (fun c i w1 w2 w3 w4 => by rw [fM4 c i (by omega), r6 c i (by omega) (by omega) (by omega) (by omega), fM c i (by omega)]) (fun c i w1 w2 w3 w4 => by rw [fM4 c i (by omega), r6 c i (by omega) (by omega) (by omega) (by omega), fM c i (by omega)])
        · rw [d4 (t + 6) 0 (by omega) (by omega) (by omega) (by omega) (by omega) (by omega), fJ (t + 6) 0 (by omega)]; exact b6
        · obtain ⟨Q, f, f1, f2⟩ := d6
          refine ⟨Q, f, f1, fun y w1 w2 => ?_⟩
          obtain ⟨f3, f4⟩ := f2 y w1 w2
          rw [ctM]
          refine ⟨?_, by rw [fM4 15 y (by omega)]; exact f4⟩
          obtain ⟨f5, f6, f7⟩ := f3
          refine ⟨hdQ_of f5 (Nat.le_refl _) (Nat.le_refl _) (Nat.le_refl _) (fun _ _ => rfl) (fun _ _ _ _ _ => rfl) (fun _ _ => rfl) (fun x _ => fM4 9 x (by omega)) (fun c _ _ => fM4 c y (by omega)) (fun c i _ _ _ => fM4 c i (by omega)) (fun c i _ _ _ => fM4 c i (by omega)), f6, fun z => ?_⟩
          obtain ⟨j0, j1, j2, j3, j4, j5⟩ := f7 z
          exact ⟨j0, j1, j2, j3, by rw [fM4 13 y (by omega)]; exact j4, by rw [fM4 14 y (by omega)]; exact j5⟩
    · exact bad Ic3 Im3 p3 e3 y3 (by omega) (fun c i w1 w2 => gC c i w1 (by omega) (by omega)) (fun c i w1 w2 w3 => gM c i (by omega) w2)
  · obtain ⟨Ic2, z1, z2, z3⟩ := sum_bad x3 (by omega)
    obtain ⟨v, Ic', Im', r1, r2, r3, r4, r5⟩ := bad Ic2 Im1 p1 e1 z2 (by omega) (fun c i w1 w2 => by rw [z3 c i w1, x4 c i (by omega)]) (fun c i w1 w2 w3 => x5 c i (by omega))
    refine ⟨v, Ic', Im', ?_, ?_, r3, r4, r5⟩
    · rw [topC, z1, Option.bind_some, cond_bad z2 (by omega), Option.bind_some]
      exact r1
    · rw [topM]
      unfold mM_readLoop_116
      rw [if_neg (fun w => he ((wr_m1 x3).mp w))]
      exact r2
end Lb
