/-! Bodies: both readers read them alike. -/
section Bl
variable {T : Nat → Nat} {N n t : Nat}
theorem take_bad {p e : Nat} {Ic Im : hI} (h : tkP T N n p e Ic Im) (he : 1 ≤ e) {c : Nat} (hc : 1 ≤ c ∧ c ≤ 255) : mRd_take (nI c) Ic = some Ic ∧ mM_must (nI c) Im = some Im := by
  rcases skipS_both h hc with ⟨rfl, _⟩ | ⟨_, q1, q2⟩
  · omega
  · refine ⟨?_, ?_⟩
    · unfold mRd_take
      rw [q1, Option.bind_some, if_pos (pr0 _)]
      try dsimp only
      rw [fail_c ((kd_m1 h).mpr he), Option.bind_some]
    · unfold mM_must
      rw [q2, Option.bind_some, if_pos (pr0 _)]
      try dsimp only
      rw [hl_eq]
      try dsimp only
      rw [bad_m h he]
theorem aft_bad {p e : Nat} {Ic Im : hI} (h : tkP T N n p e Ic Im) (he : 1 ≤ e) (rec : Nat → Int32 → Int32 → hI → Option (Int32 × hI)) (rec2 : hI → Option (Int32 × hI)) (fuel fuel2 : Nat) (v2 v it w0 wl : Int32) : ((mRd_skip (59 : Int32) Ic).bind fun q3 => mLt_readBlock_L47 rec (fuel + 1) t v2 v q3.1 it q3.2) = some (v, Ic) ∧ mM_readBody_L56 rec2 (fuel2 + 1) w0 wl Im = some (w0, h_u Im 0 30 (Im 0 30 - (1 : Int32))) := by
  obtain ⟨tb1, tb2⟩ := take_bad h he (c := 125) (by omega)
  constructor
  · rcases skipS_both h (c := 59) (by omega) with ⟨rfl, _⟩ | ⟨_, q1, q2⟩
    · omega
    · have e83 : mLt_readBlock_83 rec v Ic = some (v, Ic) := by
        unfold mLt_readBlock_83
        rw [li_125, tb1, Option.bind_some]
      rw [li_59, q1, Option.bind_some]
      show mLt_readBlock_B47 rec (mLt_readBlock_L47 rec fuel) t v2 v (nI 0) it Ic = _
      unfold mLt_readBlock_B47
      rw [e83, if_pos (show nI 0 = (0 : Int32) from rfl)]
      split <;> rfl
  · show mM_readBody_B56 rec2 (mM_readBody_L56 rec2 fuel2) w0 wl Im = _
    unfold mM_readBody_B56 mM_readBody_90
    rw [if_neg (fun w => by have := (wr_m1 h).mp w; omega), li_125, tb2, Option.bind_some, hl_eq]
/-- the body ends there, or a fault stands -/
theorem aft_end {g0 g dd p last s a pk k q cc : Nat} {Ic Im : hI} (hb : blkH T N n t g0) (h : tkP T N n p 0 Ic Im) (hok : okS T N t g dd p s a pk k q cc Ic Im) (h15 : Im 15 last = (-1 : Int32)) (hl : last < s) (hdd : 1 ≤ dd ∧ dd ≤ 6) (ht : 61 ≤ t) (w0 : Int32) (fuel fuel2 it : Nat) (q1 : mRd_skip (nI 59) Ic = some (nI 0, Ic)) (q2 : mM_takes (nI 59) Im = some (nI 0, Im)) : ∃ (v : Int32) (Ic' Im' : hI) (p' e' : Nat), ((mRd_skip (59 : Int32) Ic).bind fun q3 => mLt_readBlock_L47 (mLt_readBlock g0) (fuel + 1) t (nI dd) (nI cc) q3.1 (nI it) q3.2) = some (v, Ic') ∧ mM_readBody_L56 (mM_readBody g0) (fuel2 + 1) w0 (nI last) Im = some (w0, Im') ∧ tkP T N n p' e' Ic' Im' ∧ p ≤ p' ∧ GC t Ic Ic' ∧ FMx last s k q Im Im' ∧ (∃ a', a' ≤ 48 ∧ Ic' t 3 = nI a') ∧ (e' = 0 → p < p' ∧ ∃ s' a' pk' k' q' cc', v = nI cc' ∧ okS T N t g (dd - 1) p' s' a' pk' k' q' cc' Ic' Im' ∧ FC t a k (ctK Im 2 s) Ic Ic' ∧ (s ≤ s' ∧ a ≤ a' ∧ k ≤ k' ∧ q ≤ q') ∧ bodyR t (7 - dd) s s' a a' a' k' (ctK Im' 2 s') q' Ic' Im' ∧ Im' 15 last = ptI 0 (ptN s s')) := by
  obtain ⟨⟨⟨p3, p7, p24⟩, ⟨p8, p25⟩, ⟨p9, p10⟩, ⟨p15, p16, p11⟩, ps, ppk, pk100, pq⟩, hag, hcc, h31, h30, hA5⟩ := hok
  obtain ⟨Ic1, Im1, p1, e1, x1, x2, x3, x4, x5, xp, x6⟩ := take_both h (c := 125) (by omega)
  have e30 : Im1 0 30 - (1 : Int32) = nI (dd - 1) := by rw [x5 0 30 (by omega), h30, li_1, nI_subN (by omega)]
  have e15 : h_u Im1 0 30 (nI (dd - 1)) 15 last = (-1 : Int32) := by rw [hu_fr (by omega), x5 15 last (by omega)]; exact h15
  refine ⟨nI cc, Ic1, h_u Im1 0 30 (nI (dd - 1)), p1, e1, ?_, ?_, tkP_of x3 (fun _ _ => rfl) (fun _ _ _ _ => rfl) (fun i _ _ => hu_fr (by omega)) (fun i => hu_fr (by omega)), xp, fun c i _ _ => x4 c i (by omega), fun c i w1 w2 w3 w4 w5 => by rw [hu_fr (by omega), x5 c i (by omega)], ⟨a, by omega, by rw [x4 t 3 (by omega)]; exact p3⟩, fun w => ?_⟩
  · have e83 : mLt_readBlock_83 (mLt_readBlock g0) (nI cc) Ic = some (nI cc, Ic1) := by
      unfold mLt_readBlock_83
      rw [li_125, x1, Option.bind_some]
    rw [li_59, q1, Option.bind_some]
    show mLt_readBlock_B47 (mLt_readBlock g0) (mLt_readBlock_L47 (mLt_readBlock g0) fuel) t (nI dd) (nI cc) (nI 0) (nI it) Ic = _
    unfold mLt_readBlock_B47
    rw [e83, if_pos (show nI 0 = (0 : Int32) from rfl)]
    split <;> rfl
  · show mM_readBody_B56 (mM_readBody g0) (mM_readBody_L56 (mM_readBody g0) fuel2) w0 (nI last) Im = _
    unfold mM_readBody_B56 mM_readBody_90
    rw [if_pos ((wr_m1 h).mpr rfl), li_59, q2, Option.bind_some, if_pos (pr0 _)]
    try dsimp only
    rw [li_125, x2, Option.bind_some, hl_eq, e30]
  · obtain ⟨y1, y2, y3, y4⟩ := x6 w
    have hmono := tk_mono h (a := p) (b := p + 1) (by omega) (by omega)
    have ct1 : ∀ kd x, ctK (h_u Im1 0 30 (nI (dd - 1))) kd x = ctK Im kd x := fun kd x => ctK_congr x (fun y _ => by rw [hu_fr (by omega), x5 9 y (by omega)])
    subst y4
    refine ⟨by omega, s, a, pk, k, q, cc, rfl, ⟨⟨⟨by rw [x4 t 3 (by omega)]; exact p3, by rw [x4 t 7 (by omega)]; exact p7, by rw [hu_fr (by omega), x5 0 24 (by omega)]; exact p24⟩, ⟨by rw [x4 t 8 (by omega)]; exact p8, by rw [hu_fr (by omega), x5 0 25 (by omega)]; exact p25⟩, ⟨by rw [x4 t 9 (by omega), ct1]; exact p9, by rw [x4 t 10 (by omega), ct1]; exact p10⟩, ⟨by rw [x4 (t + 1) 5 (by omega)]; exact p15, by rw [hu_fr (by omega), x5 0 16 (by omega)]; exact p16, by rw [hu_fr (by omega), x5 0 11 (by omega)]; exact p11⟩, ps, ppk, pk100, pq⟩, hag, hcc, by rw [hu_fr (by omega), x5 0 31 (by omega)]; exact h31, h_u_at _ _ _ _, by omega⟩, FC_fr x4, by omega, body_nil _ _ _ _ _ _ _ _ _ _, ?_⟩
    rw [e15, ptN_eq]
    rfl
/-- behind a statement -/
theorem aft_L {g0 g dd : Nat} (hb : blkH T N n t g0) (hg0 : 10 ≤ g0 + dd) (hg1 : 1 ≤ g0) (hdd : 1 ≤ dd ∧ dd ≤ 6) (ht : 61 ≤ t) (w0 : Int32) : ∀ (r p fuel fuel2 it last s a pk k q cc : Nat) (Ic Im : hI), n - p ≤ r → r + 1 < fuel → r + 1 < fuel2 → tkP T N n p 0 Ic Im → okS T N t g dd p s a pk k q cc Ic Im → Im 15 last = (-1 : Int32) → last < s → it ≤ s → ∃ (v : Int32) (Ic' Im' : hI) (p' e' : Nat), ((mRd_skip (59 : Int32) Ic).bind fun q3 => mLt_readBlock_L47 (mLt_readBlock g0) fuel t (nI dd) (nI cc) q3.1 (nI it) q3.2) = some (v, Ic') ∧ mM_readBody_L56 (mM_readBody g0) fuel2 w0 (nI last) Im = some (w0, Im') ∧ tkP T N n p' e' Ic' Im' ∧ p ≤ p' ∧ GC t Ic Ic' ∧ FMx last s k q Im Im' ∧ (∃ a', a' ≤ 48 ∧ Ic' t 3 = nI a') ∧ (e' = 0 → p < p' ∧ ∃ s' a' pk' k' q' cc', v = nI cc' ∧ okS T N t g (dd - 1) p' s' a' pk' k' q' cc' Ic' Im' ∧ FC t a k (ctK Im 2 s) Ic Ic' ∧ (s ≤ s' ∧ a ≤ a' ∧ k ≤ k' ∧ q ≤ q') ∧ bodyR t (7 - dd) s s' a a' a' k' (ctK Im' 2 s') q' Ic' Im' ∧ Im' 15 last = ptI 0 (ptN s s')) := by
  intro r
  induction r with
  | zero =>
    intro p fuel fuel2 it last s a pk k q cc Ic Im hr hf hf2 h hok h15 hl hit
    obtain ⟨fuel, rfl⟩ : ∃ m, fuel = m + 1 := ⟨fuel - 1, by omega⟩
    obtain ⟨fuel2, rfl⟩ : ∃ m, fuel2 = m + 1 := ⟨fuel2 - 1, by omega⟩
    have hkd := tk_kd h
    have hple := h.2.2.2.1
    have n59 : ¬ (0 = 0 ∧ tkK T N p = 59) := fun w => by have := hkd.2 (by omega); omega
    rcases skipS_both h (c := 59) (by omega) with ⟨_, c2, hp, _⟩ | ⟨_, q1, q2⟩
    · omega
    · exact aft_end hb h hok h15 hl hdd ht w0 fuel fuel2 it q1 q2
  | succ r ih =>
    intro p fuel fuel2 it last s a pk k q cc Ic Im hr hf hf2 h hok h15 hl hit
    obtain ⟨fuel, rfl⟩ : ∃ m, fuel = m + 1 := ⟨fuel - 1, by omega⟩
    obtain ⟨fuel2, rfl⟩ : ∃ m, fuel2 = m + 1 := ⟨fuel2 - 1, by omega⟩
    rcases skipS_both h (c := 59) (by omega) with ⟨_, c2, hp, Ic1, Im1, q1, q2, q3, q4, q5⟩ | ⟨_, q1, q2⟩
    · have hok0 := hok
      obtain ⟨⟨⟨p3, p7, p24⟩, ⟨p8, p25⟩, ⟨p9, p10⟩, ⟨p15, p16, p11⟩, ps, ppk, pk100, pq⟩, hag, hcc, h31, h30, hA5⟩ := hok
      have hmono := tk_mono h (a := p) (b := p + 1) (by omega) (by omega)
      have ct1 : ∀ kd x, ctK Im1 kd x = ctK Im kd x := fun kd x => ctK_congr x (fun y _ => q5 9 y (by omega))
      have hok1 : okS T N t g dd (p + 1) s a pk k q cc Ic1 Im1 := ⟨⟨⟨by rw [q4 t 3 (by omega)]; exact p3, by rw [q4 t 7 (by omega)]; exact p7, by rw [q5 0 24 (by omega)]; exact p24⟩, ⟨by rw [q4 t 8 (by omega)]; exact p8, by rw [q5 0 25 (by omega)]; exact p25⟩, ⟨by rw [q4 t 9 (by omega), ct1]; exact p9, by rw [q4 t 10 (by omega), ct1]; exact p10⟩, ⟨by rw [q4 (t + 1) 5 (by omega)]; exact p15, by rw [q5 0 16 (by omega)]; exact p16, by rw [q5 0 11 (by omega)]; exact p11⟩, ps, ppk, pk100, pq⟩, hag, hcc, by rw [q5 0 31 (by omega)]; exact h31, by rw [q5 0 30 (by omega)]; exact h30, by omega⟩
      obtain ⟨v1, w1, Ic2, Im2, p2, e2, x1, x2, x3, x4, x5, x6, ⟨a2, x7, x8⟩, x9⟩ := stmt_both hb hg0 hg1 hdd.2 ht q3 hok1
      obtain ⟨Im3, hIm3⟩ : ∃ J, J = h_u Im2 15 last w1 := ⟨_, rfl⟩
      have f3 : ∀ c i, (c ≠ 15 ∨ i ≠ last) → Im3 c i = Im2 c i := fun c i w => by rw [hIm3, hu_fr w]
      have h3 : tkP T N n p2 e2 Ic2 Im3 := tkP_of x3 (fun _ _ => rfl) (fun _ _ _ _ => rfl) (fun i _ _ => f3 0 i (by omega)) (fun i => f3 1 i (by omega))
      have topC : ((mRd_skip (59 : Int32) Ic).bind fun q3 => mLt_readBlock_L47 (mLt_readBlock g0) (fuel + 1) t (nI dd) (nI cc) q3.1 (nI it) q3.2) = ((mRd_skip (59 : Int32) Ic2).bind fun q3 => mLt_readBlock_L47 (mLt_readBlock g0) fuel t (nI dd) v1 q3.1 (nI (it + 1)) q3.2) := by
        rw [li_59, q1, Option.bind_some]
        show mLt_readBlock_B47 (mLt_readBlock g0) (mLt_readBlock_L47 (mLt_readBlock g0) fuel) t (nI dd) (nI cc) (nI 1) (nI it) Ic1 = _
        unfold mLt_readBlock_B47
        rw [li_24, if_neg (fun w => by have := (nI_ltI (by omega) (by omega)).mp w; omega), if_neg (show ¬ nI 1 = (0 : Int32) by decide), x1, Option.bind_some, hl_eq, li_59, li_1, nI_add]
        rfl
      have topM : mM_readBody_L56 (mM_readBody g0) (fuel2 + 1) w0 (nI last) Im = mM_readBody_L56 (mM_readBody g0) fuel2 w0 w1 Im3 := by
        show mM_readBody_B56 (mM_readBody g0) (mM_readBody_L56 (mM_readBody g0) fuel2) w0 (nI last) Im = _
        unfold mM_readBody_B56
        rw [if_pos ((wr_m1 h).mpr rfl), li_59, q2, Option.bind_some, if_neg (pr1 _)]
        try dsimp only
        rw [x2, Option.bind_some, hl_eq, hg_in _ (by omega) (by omega), hl_eq, nI_clamp (by omega), ← hIm3]
      rw [topC, topM]
      have FM3 : FMx last s k q Im Im3 := fun c i w1 w2 w3 w4 w5 => by rw [f3 c i w5, x6 c i w1 w2 w3 w4, q5 c i (by omega)]
      by_cases he2 : e2 = 0
      · subst he2
        obtain ⟨y0, s1, a1, pk1, k1, q1', cc1, y1, y2, yok, y4, y5, y6, y7⟩ := x9 rfl
        subst y1
        subst y2
        have yok0 := yok
        obtain ⟨⟨⟨r3, r7, r24⟩, ⟨r8, r25⟩, ⟨r9, r10⟩, ⟨r15, r16, r11⟩, rs, rpk, rk100, rq⟩, rag, rcc, r31, r30, rA5⟩ := yok
        have ct3 : ∀ kd x, ctK Im3 kd x = ctK Im2 kd x := fun kd x => ctK_congr x (fun y _ => f3 9 y (by omega))
        have hok3 : okS T N t g dd p2 s1 a1 pk1 k1 q1' cc1 Ic2 Im3 := ⟨⟨⟨r3, r7, by rw [f3 0 24 (by omega)]; exact r24⟩, ⟨r8, by rw [f3 0 25 (by omega)]; exact r25⟩, ⟨by rw [ct3]; exact r9, by rw [ct3]; exact r10⟩, ⟨r15, by rw [f3 0 16 (by omega)]; exact r16, by rw [f3 0 11 (by omega)]; exact r11⟩, rs, rpk, rk100, rq⟩, rag, rcc, by rw [f3 0 31 (by omega)]; exact r31, by rw [f3 0 30 (by omega)]; exact r30, rA5⟩
        obtain ⟨v, Ic', Im', p', e', z1, z2, z3, z4, z5, z6, z7, z8⟩ := ih p2 fuel fuel2 (it + 1) s s1 a1 pk1 k1 q1' cc1 Ic2 Im3 (by omega) (by omega) (by omega) h3 hok3 (by rw [f3 15 s (by omega)]; exact y7) (by omega) (by omega)
        refine ⟨v, Ic', Im', p', e', z1, z2, z3, by omega, GC_tr (fun c i w1 w2 => by rw [x5 c i w1 w2, q4 c i (by omega)]) z5, fun c i w1 w2 w3 w4 w5 => by rw [z6 c i w1 (by omega) (by omega) (by omega) (by omega)]; exact FM3 c i w1 w2 w3 w4 w5, z7, fun w => ?_⟩
        obtain ⟨b0, s', a', pk', k', q', cc', b1, b2, b3, b4, b5, b6⟩ := z8 w
        rw [ct3] at b3
        have ctm : ctK Im2 2 s1 ≤ ctK Im' 2 s' := by
          have e1 : ctK Im' 2 s1 = ctK Im2 2 s1 := by rw [ctK_congr (I := Im3) s1 (fun y hy => z6 9 y (by omega) (by omega) (by omega) (by omega) (by omega)), ct3]
          have e2 := ctK_mono Im' 2 s1 (s' - s1)
          have e3 : s1 + (s' - s1) = s' := by omega
          rw [e3, e1] at e2
          exact e2
        have cts : ctK Im 2 s ≤ ctK Im2 2 s1 := by
          have e1 : ctK Im2 2 s = ctK Im 2 s := by rw [ctK_congr (I := Im1) s (fun y hy => x6 9 y (by omega) (by omega) (by omega) (by omega)), ct1]
          have e2 := ctK_mono Im2 2 s (s1 - s)
          have e3 : s + (s1 - s) = s1 := by omega
          rw [e3, e1] at e2
          exact e2
        have FMs : FMy s1 k1 q1' Im2 Im' := fun c i w1 w2 w3 w4 w5 => by rw [z6 c i w1 w2 w3 w4 (by omega), f3 c i (by omega)]
        have F15 : ∀ y, s < y → y < s1 → Im' 15 y = Im2 15 y := fun y w1 w2 => by rw [z6 15 y (by omega) (by omega) (by omega) (by omega) (by omega), f3 15 y (by omega)]
        rw [ct1] at y4
        have s24 := b2.1.2.2.2.2.1
        refine ⟨by omega, s', a', pk', k', q', cc', b1, b2, FC_tr (FC_tr (FC_fr q4) y4 (Nat.le_refl _) (Nat.le_refl _) (Nat.le_refl _)) b3 (by omega) (by omega) cts, by omega, body_cons (stmR_of y6 b3 FMs F15 (Nat.le_refl _) rs (by omega) ctm (by omega) (by omega) ht (by omega)) b5 (by omega) (by omega) b6, ?_⟩
        rw [z6 15 last (by omega) (by omega) (by omega) (by omega) (by omega), hIm3, h_u_at]
        unfold ptI ptN
        rw [if_neg (show ¬ s = s' by omega), if_neg (by omega)]
        congr 1
        omega
      · obtain ⟨fuel, rfl⟩ : ∃ m, fuel = m + 1 := ⟨fuel - 1, by omega⟩
        obtain ⟨fuel2, rfl⟩ : ∃ m, fuel2 = m + 1 := ⟨fuel2 - 1, by omega⟩
        obtain ⟨b1, b2⟩ := aft_bad (t := t) h3 (by omega) (mLt_readBlock g0) (mM_readBody g0) fuel fuel2 (nI dd) v1 (nI (it + 1)) w0 w1
        refine ⟨v1, Ic2, h_u Im3 0 30 (Im3 0 30 - (1 : Int32)), p2, e2, b1, b2, tkP_of h3 (fun _ _ => rfl) (fun _ _ _ _ => rfl) (fun i _ _ => hu_fr (by omega)) (fun i => hu_fr (by omega)), by omega, fun c i w1 w2 => by rw [x5 c i w1 w2, q4 c i (by omega)], fun c i w1 w2 w3 w4 w5 => by rw [hu_fr (by omega)]; exact FM3 c i w1 w2 w3 w4 w5, ⟨a2, x7, x8⟩, fun w => absurd w he2⟩
    · exact aft_end hb h hok h15 hl hdd ht w0 fuel fuel2 it q1 q2
/-- bodies are read alike -/
theorem block_both (ht : 61 ≤ t) : ∀ g0, blkH T N n t g0 := by
  intro g0
  induction g0 with
  | zero => intro g dd p s a pk k q cc Ic Im h1 h2; omega
  | succ g0 hb =>
    intro g dd p s a pk k q cc Ic Im hg0 hdd h hok
    have hok0 := hok
    obtain ⟨⟨⟨p3, p7, p24⟩, ⟨p8, p25⟩, ⟨p9, p10⟩, ⟨p15, p16, p11⟩, ps, ppk, pk100, pq⟩, hag, hcc, h31, h30, hA5⟩ := hok
    have hn := tk_n h
    have k123 := kd_isL h (v := 123) (x := 123) rfl (by omega)
    have topC : mLt_readBlock (g0 + 1) t (nI (dd + 1)) (nI cc) Ic = mLt_readBlock_B (mLt_readBlock g0) t (nI (dd + 1)) (nI cc) Ic := rfl
    have topM : mM_readBody (g0 + 1) Im = mM_readBody_B (mM_readBody g0) Im := rfl
    by_cases c : tkK T N p = 123 ∧ dd ≤ 5
    · obtain ⟨c1, c2⟩ := c
      have hp := (tk_kd h).2 (by omega)
      have h' : tkP T N n p 0 Ic (h_u Im 0 30 (nI (dd + 1))) := tkP_of h (fun _ _ => rfl) (fun _ _ _ _ => rfl) (fun i _ _ => hu_fr (by omega)) (fun i => hu_fr (by omega))
      obtain ⟨Ic1, Im1, q1, q2, q3, q4, q5⟩ := next_both h' hp
      have hmono := tk_mono h (a := p) (b := p + 1) (by omega) (by omega)
      have g5 : ∀ c i, (c ≠ 0 ∨ i < 3 ∨ (7 < i ∧ i ≠ 30)) → Im1 c i = Im c i := fun c i w => by rw [q5 c i (by omega), hu_fr (by omega)]
      have ct1 : ∀ kd x, ctK Im1 kd x = ctK Im kd x := fun kd x => ctK_congr x (fun y _ => g5 9 y (by omega))
      have hok1 : okS T N t g (dd + 1) (p + 1) s a pk k q cc Ic1 Im1 := ⟨⟨⟨by rw [q4 t 3 (by omega)]; exact p3, by rw [q4 t 7 (by omega)]; exact p7, by rw [g5 0 24 (by omega)]; exact p24⟩, ⟨by rw [q4 t 8 (by omega)]; exact p8, by rw [g5 0 25 (by omega)]; exact p25⟩, ⟨by rw [q4 t 9 (by omega), ct1]; exact p9, by rw [q4 t 10 (by omega), ct1]; exact p10⟩, ⟨by rw [q4 (t + 1) 5 (by omega)]; exact p15, by rw [g5 0 16 (by omega)]; exact p16, by rw [g5 0 11 (by omega)]; exact p11⟩, ps, ppk, pk100, pq⟩, hag, hcc, by rw [g5 0 31 (by omega)]; exact h31, by rw [q5 0 30 (by omega), h_u_at], by omega⟩
      have k125 := kd_is q3 (v := 125) (by omega)
      have tC : mLt_readBlock (g0 + 1) t (nI (dd + 1)) (nI cc) Ic = if (Ic1 1 7) = (125 : Int32) then mLt_readBlock_L47 (mLt_readBlock g0) hF t (nI (dd + 1)) (nI cc) (0 : Int32) (0 : Int32) Ic1 else mLt_readBlock_L47 (mLt_readBlock g0) hF t (nI (dd + 1)) (nI cc) (1 : Int32) (0 : Int32) Ic1 := by
        rw [topC]
        unfold mLt_readBlock_B
        rw [if_pos (k123.mpr ⟨rfl, c1⟩), li_6, if_pos ((nI_leI (by omega) (by omega)).mpr (by omega)), q1, Option.bind_some]
      have tM : mM_readBody (g0 + 1) Im = ((mM_isSign (125 : Int32) Im1).bind fun q4 => if q4 = 0 then ((mM_readStatement (mM_readBody g0) Im1).bind fun q5 => h_let q5.1 fun v1x5 => mM_readBody_L56 (mM_readBody g0) hF v1x5 v1x5 q5.2) else mM_readBody_90 (mM_readBody g0) (-1 : Int32) Im1) := by
        rw [topM]
        unfold mM_readBody_B
        rw [li_123, m_isSign h (c := 123) (by omega), Option.bind_some, decide_eq_true ⟨rfl, c1⟩, if_neg (by decide), h30, if_neg (fun w => by have := (nI_eq (by omega) (by omega)).mp (w.trans li_6); omega), hl_eq, li_1, nI_add, q2, Option.bind_some]
      rw [tC, tM, li_125, m_isSign q3 (c := 125) (by omega), Option.bind_some]
      by_cases z : tkK T N (p + 1) = 125
      · rw [if_pos (k125.mpr ⟨rfl, z⟩), decide_eq_true ⟨rfl, z⟩, if_neg (by decide)]
        obtain ⟨Ic2, Im2, p2, e2, x1, x2, x3, x4, x5, xp, x6⟩ := take_both q3 (c := 125) (by omega)
        have e30 : Im2 0 30 - (1 : Int32) = nI dd := by
          rw [x5 0 30 (by omega), q5 0 30 (by omega), h_u_at, li_1, nI_subN (by omega)]
          rfl
        have FMf : FM s k q Im (h_u Im2 0 30 (nI dd)) := fun c i w1 w2 w3 w4 => by rw [hu_fr (by omega), x5 c i (by omega), g5 c i (by omega)]
        refine ⟨nI cc, (-1 : Int32), Ic2, h_u Im2 0 30 (nI dd), p2, e2, ?_, ?_, tkP_of x3 (fun _ _ => rfl) (fun _ _ _ _ => rfl) (fun i _ _ => hu_fr (by omega)) (fun i => hu_fr (by omega)), by omega, fun c i _ _ => by rw [x4 c i (by omega), q4 c i (by omega)], FMf, ⟨a, by omega, by rw [x4 t 3 (by omega), q4 t 3 (by omega)]; exact p3⟩, fun w => ?_⟩
        · show mLt_readBlock_B47 (mLt_readBlock g0) (mLt_readBlock_L47 (mLt_readBlock g0) 999) t (nI (dd + 1)) (nI cc) (0 : Int32) (0 : Int32) Ic1 = _
          unfold mLt_readBlock_B47 mLt_readBlock_83
          rw [if_neg (by decide), if_pos rfl, li_125, x1, Option.bind_some]
        · unfold mM_readBody_90
          rw [li_125, x2, Option.bind_some, hl_eq, e30]
        · obtain ⟨y1, y2, y3, y4⟩ := x6 w
          have hmono2 := tk_mono h (a := p) (b := p + 1 + 1) (by omega) (by omega)
          subst y4
          have ct2 : ∀ kd x, ctK (h_u Im2 0 30 (nI dd)) kd x = ctK Im kd x := fun kd x => ctK_congr x (fun y _ => by rw [hu_fr (by omega), x5 9 y (by omega), g5 9 y (by omega)])
          refine ⟨by omega, s, a, pk, k, q, cc, rfl, ?_, ⟨⟨⟨by rw [x4 t 3 (by omega), q4 t 3 (by omega)]; exact p3, by rw [x4 t 7 (by omega), q4 t 7 (by omega)]; exact p7, by rw [hu_fr (by omega), x5 0 24 (by omega), g5 0 24 (by omega)]; exact p24⟩, ⟨by rw [x4 t 8 (by omega), q4 t 8 (by omega)]; exact p8, by rw [hu_fr (by omega), x5 0 25 (by omega), g5 0 25 (by omega)]; exact p25⟩, ⟨by rw [x4 t 9 (by omega), q4 t 9 (by omega), ct2]; exact p9, by rw [x4 t 10 (by omega), q4 t 10 (by omega), ct2]; exact p10⟩, ⟨by rw [x4 (t + 1) 5 (by omega), q4 (t + 1) 5 (by omega)]; exact p15, by rw [hu_fr (by omega), x5 0 16 (by omega), g5 0 16 (by omega)]; exact p16, by rw [hu_fr (by omega), x5 0 11 (by omega), g5 0 11 (by omega)]; exact p11⟩, ps, ppk, pk100, pq⟩, hag, hcc, by rw [hu_fr (by omega), x5 0 31 (by omega), g5 0 31 (by omega)]; exact h31, h_u_at _ _ _ _, by omega⟩, FC_tr (FC_fr q4) (FC_fr (a := a) (k := k) (w := ctK Im 2 s) x4) (Nat.le_refl _) (Nat.le_refl _) (Nat.le_refl _), by omega, body_nil _ _ _ _ _ _ _ _ _ _⟩
          rw [ptN_eq]
          rfl
      · rw [if_neg (fun w => z (k125.mp w).2), decide_eq_false (fun w => z w.2), if_pos (by decide)]
        obtain ⟨v1, w1, Ic2, Im2, p2, e2, x1, x2, x3, x4, x5, x6, ⟨a2, x7, x8⟩, x9⟩ := stmt_both hb (by omega) (by omega) (by omega) ht q3 hok1
        have tC2 : mLt_readBlock_L47 (mLt_readBlock g0) hF t (nI (dd + 1)) (nI cc) (1 : Int32) (0 : Int32) Ic1 = ((mRd_skip (59 : Int32) Ic2).bind fun q3 => mLt_readBlock_L47 (mLt_readBlock g0) 999 t (nI (dd + 1)) v1 q3.1 (nI 1) q3.2) := by
          show mLt_readBlock_B47 (mLt_readBlock g0) (mLt_readBlock_L47 (mLt_readBlock g0) 999) t (nI (dd + 1)) (nI cc) (1 : Int32) (0 : Int32) Ic1 = _
          unfold mLt_readBlock_B47
          rw [if_neg (by decide), if_neg (by decide), x1, Option.bind_some, hl_eq, li_0, li_1, nI_add]
          rfl
        have tM2 : ((mM_readStatement (mM_readBody g0) Im1).bind fun q5 => h_let q5.1 fun v1x5 => mM_readBody_L56 (mM_readBody g0) hF v1x5 v1x5 q5.2) = mM_readBody_L56 (mM_readBody g0) hF w1 w1 Im2 := by
          rw [x2, Option.bind_some, hl_eq]
        rw [tC2, tM2]
        have FM2 : FM s k q Im Im2 := fun c i w1 w2 w3 w4 => by rw [x6 c i w1 w2 w3 w4, g5 c i (by omega)]
        by_cases he2 : e2 = 0
        · subst he2
          obtain ⟨y0, s1, a1, pk1, k1, q1', cc1, y1, y2, yok, y4, y5, y6, y7⟩ := x9 rfl
          subst y1
          subst y2
          have rs := yok.1.2.2.2.2.1
          have rag := yok.2.1
          obtain ⟨v, Ic', Im', p', e', z1, z2, z3, z4, z5, z6, z7, z8⟩ := aft_L hb (show 10 ≤ g0 + (dd + 1) by omega) (by omega) (by omega) ht (nI s) (n - p2) p2 999 hF 1 s s1 a1 pk1 k1 q1' cc1 Ic2 Im2 (by omega) (by omega) (by unfold hF; omega) x3 yok y7 (by omega) (by omega)
          refine ⟨v, nI s, Ic', Im', p', e', z1, z2, z3, by omega, GC_tr (fun c i w1 w2 => by rw [x5 c i w1 w2, q4 c i (by omega)]) z5, fun c i w1 w2 w3 w4 => by rw [z6 c i w1 (by omega) (by omega) (by omega) (by omega)]; exact FM2 c i w1 w2 w3 w4, z7, fun w => ?_⟩
          obtain ⟨b0, s', a', pk', k', q', cc', b1, b2, b3, b4, b5, b6⟩ := z8 w
          have ctm : ctK Im2 2 s1 ≤ ctK Im' 2 s' := by
            have e1 : ctK Im' 2 s1 = ctK Im2 2 s1 := ctK_congr s1 (fun y hy => z6 9 y (by omega) (by omega) (by omega) (by omega) (by omega))
            have e2 := ctK_mono Im' 2 s1 (s' - s1)
            have e3 : s1 + (s' - s1) = s' := by omega
            rw [e3, e1] at e2
            exact e2
          have cts : ctK Im 2 s ≤ ctK Im2 2 s1 := by
            have e1 : ctK Im2 2 s = ctK Im 2 s := ctK_congr s (fun y hy => FM2 9 y (by omega) (by omega) (by omega) (by omega))
            have e2 := ctK_mono Im2 2 s (s1 - s)
            have e3 : s + (s1 - s) = s1 := by omega
            rw [e3, e1] at e2
            exact e2
          have FMs : FMy s1 k1 q1' Im2 Im' := fun c i w1 w2 w3 w4 w5 => z6 c i w1 w2 w3 w4 (by omega)
          have F15 : ∀ y, s < y → y < s1 → Im' 15 y = Im2 15 y := fun y w1 w2 => z6 15 y (by omega) (by omega) (by omega) (by omega) (by omega)
          rw [ct1] at y4
          have e61 : dd + 1 - 1 = dd := by omega
          have e71 : 7 - (dd + 1) = 6 - dd := by omega
          rw [e61] at b2
          rw [e71] at b5 y6
          refine ⟨by omega, s', a', pk', k', q', cc', b1, ?_, b2, FC_tr (FC_tr (FC_fr q4) y4 (Nat.le_refl _) (Nat.le_refl _) (Nat.le_refl _)) b3 (by omega) (by omega) cts, by omega, body_cons (stmR_of y6 b3 FMs F15 (Nat.le_refl _) rs (by omega) ctm (by omega) (by omega) ht (by omega)) b5 (by omega) (by omega) b6⟩
          unfold ptI ptN
          rw [if_neg (show ¬ s = s' by omega), if_neg (by omega)]
          congr 1
          omega
        · obtain ⟨b1, b2⟩ := aft_bad (t := t) x3 (by omega) (mLt_readBlock g0) (mM_readBody g0) 998 999 (nI (dd + 1)) v1 (nI 1) w1 w1
          refine ⟨v1, w1, Ic2, h_u Im2 0 30 (Im2 0 30 - (1 : Int32)), p2, e2, b1, b2, tkP_of x3 (fun _ _ => rfl) (fun _ _ _ _ => rfl) (fun i _ _ => hu_fr (by omega)) (fun i => hu_fr (by omega)), by omega, fun c i w1 w2 => by rw [x5 c i w1 w2, q4 c i (by omega)], fun c i w1 w2 w3 w4 => by rw [hu_fr (by omega)]; exact FM2 c i w1 w2 w3 w4, ⟨a2, x7, x8⟩, fun w => absurd w he2⟩
    · obtain ⟨Ic', e', w1, w2, w3, w4, w5⟩ := fail_both h
      refine ⟨nI cc, (-1 : Int32), Ic', mM_bad Im, p, e', ?_, ?_, w2, Nat.le_refl _, fun c i _ _ => w4 c i (by omega), FM_fr w5, ⟨a, by omega, by rw [w4 t 3 (by omega)]; exact p3⟩, fun z => by omega⟩
      · rw [topC]
        unfold mLt_readBlock_B mLt_readBlock_15
        by_cases c1 : tkK T N p = 123
        · rw [if_pos (k123.mpr ⟨rfl, c1⟩), li_6, if_neg (fun w => by have := (nI_leI (by omega) (by omega)).mp w; omega), w1, Option.bind_some]
        · rw [if_neg (fun w => c1 (k123.mp w).2), w1, Option.bind_some]
      · rw [topM]
        unfold mM_readBody_B mM_readBody_18
        rw [li_123, m_isSign h (c := 123) (by omega), Option.bind_some]
        by_cases c1 : tkK T N p = 123
        · have d6 : dd = 6 := by omega
          rw [decide_eq_true ⟨rfl, c1⟩, if_neg (by decide), h30, d6, if_pos (show nI 6 = (6 : Int32) from rfl), hl_eq]
        · rw [decide_eq_false (fun w => c1 w.2), if_pos (by decide), hl_eq]
end Bl
