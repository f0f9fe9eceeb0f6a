/-! Statements: settings, forks; then any. -/
section Sz
variable {T : Nat → Nat} {N n p t g dd s a pk k q cc : Nat} {Ic Im : hI}
/-- a setting: x or y -/
theorem st_set {kk : Nat} {kdE : tkK T N p = 258 + kk} (hkk : kk ≤ 1) (ht : 61 ≤ t) (h0 : tkP T N n p 0 Ic Im) (hok : okS T N t g dd p s a pk k q cc Ic Im) (hs : s < 24) {Ic1 Im1 : hI} (h : tkP T N n p 0 Ic1 Im1) (ho : opQ t s a (tkK T N p) Ic Im Ic1 Im1) (rec : Nat → Int32 → Int32 → hI → Option (Int32 × hI)) (rec2 : hI → Option (Int32 × hI)) : ∃ (v w : Int32) (Ic' Im' : hI) (p' e' : Nat), ((mRd_next Ic1).bind fun q4 => swC rec t (t + 9 + a) (nI dd) (nI cc) (nI (tkK T N p)) q4) = some (v, Ic') ∧ rsM rec2 (nI s) Im1 = some (w, Im') ∧ smR T N n t g dd p s a k q e' p' v w Ic Im Ic' Im' := by
  have hp := (tk_kd h).2 (by omega)
  obtain ⟨⟨o7, o3, o0, o24, o15⟩, f1, f2⟩ := ho
  have ok := hok
  obtain ⟨⟨⟨p3, p7, p24⟩, ⟨p8, p25⟩, ⟨p9, p10⟩, ⟨p15, p16, p11⟩, ps, ppk, pk100, pq⟩, hag, hcc, h31, h30, hA5⟩ := ok
  have h' : tkP T N n p 0 Ic1 (h_u Im1 9 s (nI kk)) := tkP_of h (fun _ _ => rfl) (fun _ _ _ _ => rfl) (fun i _ _ => hu_fr (by omega)) (fun i => hu_fr (by omega))
  obtain ⟨Ic2, Im2, q1, q2, q3, q4, q5⟩ := next_both h' hp
  obtain ⟨Ic3, Im3, p3', e3, x1, x2, x3, x4, x5, xp, x6⟩ := take_both q3 (c := 61) (by omega)
  have gC : ∀ c i, (c ≠ 1 ∨ i < 6 ∨ 11 < i) → (c ≠ t + 9 + a ∨ i ≠ 0) → (c ≠ t ∨ (i ≠ 3 ∧ i ≠ 7)) → Ic3 c i = Ic c i := fun c i w1 w2 w4 => by rw [x4 c i (by omega), q4 c i (by omega), f1 c i (by omega) (by omega)]
  have gM : ∀ c i, (c ≠ 0 ∨ i < 3 ∨ (7 < i ∧ i ≠ 24)) → ((c ≠ 9 ∧ c ≠ 13 ∧ c ≠ 14 ∧ c ≠ 15) ∨ i ≠ s) → Im3 c i = Im c i := fun c i w1 w2 => by rw [x5 c i (by omega), q5 c i (by omega), hu_fr (by omega), f2 c i (by omega) (by omega)]
  have e11 : Im3 0 11 = nI q := by rw [gM 0 11 (by omega) (by omega)]; exact p11
  have m9 : Im3 9 s = nI kk := by rw [x5 9 s (by omega), q5 9 s (by omega), h_u_at]
  have t3 : Ic3 t 3 = nI (a + 1) := by rw [x4 t 3 (by omega), q4 t 3 (by omega)]; exact o3
  have t7 : Ic3 t 7 = nI (s + 1) := by rw [x4 t 7 (by omega), q4 t 7 (by omega)]; exact o7
  have m24 : Im3 0 24 = nI (s + 1) := by rw [x5 0 24 (by omega), q5 0 24 (by omega), hu_fr (by omega)]; exact o24
  have m15 : Im3 15 s = (-1 : Int32) := by rw [x5 15 s (by omega), q5 15 s (by omega), hu_fr (by omega)]; exact o15
  have t0 : Ic3 (t + 9 + a) 0 = nI (258 + kk) := by rw [x4 _ 0 (by omega), q4 _ 0 (by omega), o0, kdE]
  have topC : ∀ Ic4 : hI, mRd_readSum Ic3 = some Ic4 → ((mRd_next Ic1).bind fun q4 => swC rec t (t + 9 + a) (nI dd) (nI cc) (nI (tkK T N p)) q4) = some (nI cc, h_u (h_u (h_u Ic4 (t + 9 + a) 3 (Ic4 1 9)) (t + 9 + a) 4 (Ic4 1 10)) (t + 9 + a) 5 (Ic4 1 11)) := by
    intro Ic4 w
    have e : mLt_readSetting (t + 9 + a) Ic2 = some (h_u (h_u (h_u Ic4 (t + 9 + a) 3 (Ic4 1 9)) (t + 9 + a) 4 (Ic4 1 10)) (t + 9 + a) 5 (Ic4 1 11)) := by
      unfold mLt_readSetting
      rw [li_61, x1, Option.bind_some, w, Option.bind_some, hl_eq, hl_eq, hl_eq, hu_fr (show (1 : Nat) ≠ t + 9 + a ∨ 10 ≠ 3 by omega), hu_fr (show (1 : Nat) ≠ t + 9 + a ∨ 11 ≠ 4 by omega), hu_fr (show (1 : Nat) ≠ t + 9 + a ∨ 11 ≠ 3 by omega)]
    rw [q1, Option.bind_some, kdE]
    unfold swC
    rw [e]
    by_cases z : kk = 0
    · subst z
      rw [if_pos (by decide), Option.bind_some]
    · have z1 : kk = 1 := by omega
      subst z1
      rw [if_neg (by decide), if_pos (by decide), Option.bind_some]
  have topM : rsM rec2 (nI s) Im1 = if (Im3 0 5) = (-1 : Int32) then ((mM_readSum Im3).bind fun q5 => mM_readStatement_217 rec2 (nI s) (nI s) q5.1 q5.2) else mM_readStatement_217 rec2 (nI s) (nI s) (0 : Int32) Im3 := by
    have e185 : mM_readStatement_185 rec2 (nI s) (nI s) (nI kk) Im1 = if (Im3 0 5) = (-1 : Int32) then ((mM_readSum Im3).bind fun q5 => mM_readStatement_217 rec2 (nI s) (nI s) q5.1 q5.2) else mM_readStatement_217 rec2 (nI s) (nI s) (0 : Int32) Im3 := by
      unfold mM_readStatement_185
      rw [hg_in _ (by omega) (by omega), hl_eq, nI_clamp (by omega), q2, Option.bind_some, li_61, x2, Option.bind_some]
    unfold rsM
    rw [tw_n h (j := 7) (by omega) (fun w => by omega), Option.bind_some, if_pos (pr0 _)]
    try dsimp only
    rw [tw_n h (j := 3) (by omega) (fun w => by omega), Option.bind_some, if_pos (pr0 _)]
    try dsimp only
    by_cases z : kk = 0
    · subst z
      rw [iw_y h (j := 0) (by omega) kdE, Option.bind_some, if_neg (by decide)]
      unfold mM_readStatement_166
      rw [iw_y h (j := 0) (by omega) kdE, Option.bind_some, if_neg (by decide)]
      exact e185
    · have z1 : kk = 1 := by omega
      subst z1
      rw [iw_n h (j := 0) (by omega) (by omega), Option.bind_some, if_pos (by decide), iw_y h (j := 1) (by omega) kdE, Option.bind_some, if_neg (by decide)]
      unfold mM_readStatement_166
      rw [iw_n h (j := 0) (by omega) (by omega), Option.bind_some, if_pos (by decide)]
      exact e185
  have t217 : ∀ (z : Int32) (I : hI), mM_readStatement_217 rec2 (nI s) (nI s) z I = some (nI s, h_u I 10 s z) := fun z I => by
    unfold mM_readStatement_217
    rw [hg_in _ (by omega) (by omega), hl_eq, nI_clamp (by omega)]
  by_cases he : e3 = 0
  · subst he
    obtain ⟨_, _, _, y4⟩ := x6 rfl
    obtain ⟨Ic4, Im4, p4, e4, u, z1, z2, z3, z4, z5, z6, z7, z8, z9, z10⟩ := sum_both x3 (q := q) (by omega) e11
    obtain ⟨⟨c9, c10, c11⟩, n3, n4, n2⟩ := z4
    have hp4 := z3.2.2.2.1
    have hn := tk_n z3
    have tC := topC Ic4 z1
    rw [c9, c10, c11] at tC
    obtain ⟨J, hJ⟩ : ∃ J, J = h_u (h_u (h_u Ic4 (t + 9 + a) 3 (iI (u 1))) (t + 9 + a) 4 (iI (u 2))) (t + 9 + a) 5 (iI (u 0)) := ⟨_, rfl⟩
    have fJ : ∀ c i, (c ≠ t + 9 + a ∨ i < 3 ∨ 5 < i) → J c i = Ic4 c i := fun c i w => by rw [hJ, hu_fr (by omega), hu_fr (by omega), hu_fr (by omega)]
    obtain ⟨M, hM⟩ : ∃ J, J = h_u Im4 10 s (nI q) := ⟨_, rfl⟩
    have fM : ∀ c i, (c ≠ 10 ∨ i ≠ s) → M c i = Im4 c i := fun c i w => by rw [hM, hu_fr w]
    have tM : rsM rec2 (nI s) Im1 = some (nI s, M) := by
      rw [topM, if_pos ((wr_m1 x3).mpr rfl), z2, Option.bind_some]
      try dsimp only
      rw [t217, ← hM]
    rw [← hJ] at tC
    have gC2 : ∀ c i, (c ≠ 1 ∨ i < 6 ∨ 11 < i) → (c ≠ t + 9 + a ∨ (i ≠ 0 ∧ (i < 3 ∨ 5 < i))) → (c ≠ t ∨ (i ≠ 3 ∧ i ≠ 7)) → J c i = Ic c i := fun c i w1 w2 w4 => by rw [fJ c i (by omega), z9 c i w1, gC c i w1 (by omega) (by omega)]
    have gM2 : ∀ c i, (c ≠ 0 ∨ i < 3 ∨ (7 < i ∧ i ≠ 11 ∧ i ≠ 24)) → (c < 2 ∨ 4 < c ∨ i ≠ q) → ((c ≠ 9 ∧ c ≠ 10 ∧ c ≠ 13 ∧ c ≠ 14 ∧ c ≠ 15) ∨ i ≠ s) → M c i = Im c i := fun c i w1 w2 w3 => by rw [fM c i (by omega), z10 c i (by omega) w2, gM c i (by omega) (by omega)]
    have hT : tkP T N n p4 e4 J M := tkP_of z3 (fun i _ => fJ 1 i (by omega)) (fun c i _ _ => fJ c i (by omega)) (fun i _ _ => fM 0 i (by omega)) (fun i => fM 1 i (by omega))
    have hFC : FC t a k (ctK Im 2 s) Ic J := fun c i w1 w2 w3 w4 w5 w6 => gC2 c i w1 (by omega) (by omega)
    have hFM : FM s k q Im M := fun c i w1 w2 w3 w4 => gM2 c i (by omega) (by omega) (by omega)
    have j3 : J t 3 = nI (a + 1) := by rw [fJ t 3 (by omega), z9 t 3 (by omega)]; exact t3
    have j9 : M 9 s = nI kk := by rw [fM 9 s (by omega), z10 9 s (by omega) (by omega)]; exact m9
    refine ⟨nI cc, nI s, J, M, p4, e4, tC, tM, ?_⟩
    by_cases he4 : e4 = 0
    · subst he4
      refine simple_fin (kd := kk) (wh := 0) (q' := q + 1) ht hok hs h0 hT (by have := (z7 rfl).2; omega) hFC hFM j3 ?_ ?_ (gC2 t 8 (by omega) (by omega) (by omega)) (gM2 0 25 (by omega) (by omega) (by omega)) j9 (gC2 t 9 (by omega) (by omega) (by omega)) ?_ (gC2 (t + 1) 5 (by omega) (by omega) (by omega)) (gM2 0 16 (by omega) (by omega) (by omega)) (by rw [fM 0 11 (by omega)]; exact z8) (by omega) (gM2 0 31 (by omega) (by omega) (by omega)) (gM2 0 30 (by omega) (by omega) (by omega)) (by omega) ⟨by omega, j9, ?_, fun _ => ⟨q, u, by omega, ?_, ?_, ?_, ?_, ?_⟩, fun w => by omega, fun w => by omega, fun w => by omega⟩ ?_
      · rw [fJ t 7 (by omega), z9 t 7 (by omega)]; exact t7
      · rw [fM 0 24 (by omega), z10 0 24 (by omega) (by omega)]; exact m24
      · rw [gC2 t 10 (by omega) (by omega) (by omega), p10, if_neg (by omega)]; rfl
      · rw [fJ _ 0 (by omega), z9 _ 0 (by omega), t0]
        unfold kcN
        by_cases z : kk = 0
        · rw [if_pos z, z]
        · rw [if_neg z, if_pos (by omega)]
          congr 1
          omega
      · rw [hM, h_u_at]
      · obtain ⟨b0, b1, b2⟩ := z5
        exact ⟨by rw [fM 2 q (by omega)]; exact n2, by rw [fM 3 q (by omega)]; exact n3, by rw [fM 4 q (by omega)]; exact n4, by omega, by omega, by omega⟩
      · rw [hJ, hu_fr (by omega), hu_fr (by omega), h_u_at]
      · rw [hJ, hu_fr (by omega), h_u_at]
      · rw [hJ, h_u_at]
      · rw [fM 15 s (by omega), z10 15 s (by omega) (by omega)]; exact m15
    · exact ⟨hT, by omega, GC_of hFC, hFM, ⟨a + 1, by omega, j3⟩, fun w => absurd w he4⟩
  · obtain ⟨Ic4, z1, z2, z3⟩ := sum_bad x3 (by omega)
    have tC := topC Ic4 z1
    refine ⟨nI cc, nI s, _, h_u Im3 10 s (0 : Int32), p3', e3, tC, ?_, ⟨tkP_of z2 (fun i _ => ?_) (fun c i _ _ => ?_) (fun i _ _ => hu_fr (by omega)) (fun i => hu_fr (by omega)), by omega, fun c i w1 w2 => ?_, fun c i w1 w2 w3 w4 => ?_, ⟨a + 1, by omega, ?_⟩, fun w => absurd w he⟩⟩
    · rw [topM, if_neg (fun w => he ((wr_m1 x3).mp w)), t217]
    · rw [hu_fr (by omega), hu_fr (by omega), hu_fr (by omega)]
    · rw [hu_fr (by omega), hu_fr (by omega), hu_fr (by omega)]
    · rw [hu_fr (by omega), hu_fr (by omega), hu_fr (by omega), z3 c i w1, gC c i w1 (by omega) (by omega)]
    · rw [hu_fr (by omega), gM c i (by omega) (by omega)]
    · rw [hu_fr (by omega), hu_fr (by omega), hu_fr (by omega), z3 t 3 (by omega)]; exact t3
/-- coin -/
theorem st_coin {g0 : Nat} {kdE : tkK T N p = 262} (hcn : cc < 2) (hb : blkH T N n t g0) (hg0 : 10 ≤ g0 + dd) (hg1 : 1 ≤ g0) (hdd : dd ≤ 6) (ht : 61 ≤ t) (h0 : tkP T N n p 0 Ic Im) (hok : okS T N t g dd p s a pk k q cc Ic Im) (hs : s < 24) {Ic1 Im1 : hI} (h : tkP T N n p 0 Ic1 Im1) (ho : opQ t s a (tkK T N p) Ic Im Ic1 Im1) : ∃ (v w : Int32) (Ic' Im' : hI) (p' e' : Nat), ((mRd_next Ic1).bind fun q4 => swC (mLt_readBlock g0) t (t + 9 + a) (nI dd) (nI cc) (nI (tkK T N p)) q4) = some (v, Ic') ∧ rsM (mM_readBody g0) (nI s) Im1 = some (w, Im') ∧ smR T N n t g dd p s a k q e' p' v w Ic Im Ic' Im' := by
  have hp := (tk_kd h).2 (by omega)
  obtain ⟨⟨o7, o3, o0, o24, o15⟩, f1, f2⟩ := ho
  have ok := hok
  obtain ⟨⟨⟨p3, p7, p24⟩, ⟨p8, p25⟩, ⟨p9, p10⟩, ⟨p15, p16, p11⟩, ps, ppk, pk100, pq⟩, hag, hcc, h31, h30, hA5⟩ := ok
  obtain ⟨Ic2, Im2, q1, q2, q3, q4, q5⟩ := next_both h hp
  have hmono := tk_mono h0 (a := p) (b := p + 1) (by omega) (by omega)
  obtain ⟨J, hJ⟩ : ∃ J, J = h_u Ic2 t 9 (nI (ctK Im 3 s + 1)) := ⟨_, rfl⟩
  have fJ : ∀ c i, (c ≠ t ∨ i ≠ 9) → J c i = Ic2 c i := fun c i w => by rw [hJ, hu_fr w]
  obtain ⟨M, hM⟩ : ∃ J, J = h_u (h_u Im2 9 s (nI 3)) 0 31 (nI (cc + 1)) := ⟨_, rfl⟩
  have fM : ∀ c i, (c ≠ 9 ∨ i ≠ s) → (c ≠ 0 ∨ i ≠ 31) → M c i = Im2 c i := fun c i w1 w2 => by rw [hM, hu_fr w2, hu_fr w1]
  have gC : ∀ c i, (c ≠ 1 ∨ i < 6 ∨ 11 < i) → (c ≠ t + 9 + a ∨ i ≠ 0) → (c ≠ t ∨ (i ≠ 3 ∧ i ≠ 7 ∧ i ≠ 9)) → J c i = Ic c i := fun c i w1 w2 w4 => by rw [fJ c i (by omega), q4 c i (by omega), f1 c i (by omega) (by omega)]
  have gM : ∀ c i, (c ≠ 0 ∨ i < 3 ∨ (7 < i ∧ i ≠ 24 ∧ i ≠ 31)) → ((c ≠ 9 ∧ c ≠ 13 ∧ c ≠ 14 ∧ c ≠ 15) ∨ i ≠ s) → M c i = Im c i := fun c i w1 w2 => by rw [fM c i (by omega) (by omega), q5 c i (by omega), f2 c i (by omega) (by omega)]
  have m9 : M 9 s = nI 3 := by rw [hM, hu_fr (by omega), h_u_at]
  have hT : tkP T N n (p + 1) 0 J M := tkP_of q3 (fun i _ => fJ 1 i (by omega)) (fun c i _ _ => fJ c i (by omega)) (fun i _ _ => fM 0 i (by omega) (by omega)) (fun i => fM 1 i (by omega) (by omega))
  have hFC : FC t a k (ctK Im 2 s) Ic J := fun c i w1 w2 w3 w4 w5 w6 => gC c i w1 (by omega) (by omega)
  have hFM : FM s k q Im M := fun c i w1 w2 w3 w4 => gM c i (by omega) (by omega)
  have c2 := ct_next (Im := Im) (Im' := M) (s := s) (kk := 3) (kd := 2) (fun y hy => hFM 9 y (by omega) (by omega) (by omega) (by omega)) m9 (by omega) (by omega)
  have c3 := ct_next (Im := Im) (Im' := M) (s := s) (kk := 3) (kd := 3) (fun y hy => hFM 9 y (by omega) (by omega) (by omega) (by omega)) m9 (by omega) (by omega)
  rw [if_neg (by omega), Nat.add_zero] at c2
  rw [if_pos rfl] at c3
  have j3 : J t 3 = nI (a + 1) := by rw [fJ t 3 (by omega), q4 t 3 (by omega)]; exact o3
  have hokJ : okS T N t (g + 1) dd (p + 1) (s + 1) (a + 1) pk k q (cc + 1) J M := by
    refine ⟨⟨⟨j3, by rw [fJ t 7 (by omega), q4 t 7 (by omega)]; exact o7, by rw [fM 0 24 (by omega) (by omega), q5 0 24 (by omega)]; exact o24⟩, ⟨by rw [gC t 8 (by omega) (by omega) (by omega)]; exact p8, by rw [gM 0 25 (by omega) (by omega)]; exact p25⟩, ⟨by rw [hJ, h_u_at, c3], by rw [gC t 10 (by omega) (by omega) (by omega), c2]; exact p10⟩, ⟨by rw [gC (t + 1) 5 (by omega) (by omega) (by omega)]; exact p15, by rw [gM 0 16 (by omega) (by omega)]; exact p16, by rw [gM 0 11 (by omega) (by omega)]; exact p11⟩, by omega, ppk, pk100, by omega⟩, by omega, by omega, by rw [hM, h_u_at], by rw [gM 0 30 (by omega) (by omega)]; exact h30, by omega⟩
  obtain ⟨v, Ic', Im', p', e', r1, r2, r3, r4, r5, r6, r7, r8⟩ := ways_both (e := 0) (g := g) (kd := 3) (wh := 0) (c2 := 0) (c3 := 0) hb hg0 hg1 hdd ht hT hs (by omega) (fun _ => ⟨hokJ, ⟨by omega, m9, by rw [fJ _ 0 (by omega), q4 _ 0 (by omega), o0, kdE]; rfl, fun w => by omega, fun w => by omega, fun w => by omega, fun w => by omega⟩, by rw [fM 15 s (by omega) (by omega), q5 15 s (by omega)]; exact o15⟩) (by omega) ⟨a + 1, by omega, j3⟩ (by omega)
  refine ⟨v, nI s, Ic', Im', p', e', ?_, ?_, fork_fin hs hFC hFM (Nat.le_refl _) (Nat.le_refl _) (by omega) r3 r4 r5 r6 r7 r8⟩
  · have e9 : Ic2 t 9 = nI (ctK Im 3 s) := by rw [q4 t 9 (by omega), f1 t 9 (by omega) (by omega)]; exact p9
    rw [q1, Option.bind_some, kdE]
    unfold swC
    rw [if_neg (by decide), if_neg (by decide), if_neg (by decide), if_neg (by decide), if_pos (by decide), hl_eq, e9, li_1, nI_add, nI_add, ← hJ, r1, Option.bind_some]
  · have e31 : h_u Im2 9 s (nI 3) 0 31 = nI cc := by rw [hu_fr (by omega), q5 0 31 (by omega), f2 0 31 (by omega) (by omega)]; exact h31
    have eW : mM_readWays (mM_readBody g0) (nI s) Im1 = some Im' := by
      unfold mM_readWays
      rw [tw_y h (j := 4) (by omega) kdE q2, Option.bind_some, if_neg (pr1 _)]
      try dsimp only
      rw [hg_in _ (by omega) (by omega), hl_eq, nI_clamp (by omega), hl_eq]
      try dsimp only
      rw [li_3, e31, li_1, nI_add, ← hM]
      exact r2
    unfold rsM
    rw [tw_n h (j := 7) (by omega) (fun w => by omega), Option.bind_some, if_pos (pr0 _)]
    try dsimp only
    rw [tw_n h (j := 3) (by omega) (fun w => by omega), Option.bind_some, if_pos (pr0 _)]
    try dsimp only
    rw [iw_n h (j := 0) (by omega) (by omega), Option.bind_some, if_pos (by decide), iw_n h (j := 1) (by omega) (by omega), Option.bind_some, if_pos (by decide), eW, Option.bind_some]
/-- pick -/
theorem st_pick {g0 : Nat} {kdE : tkK T N p = 263} (hcn : pk < 3) (hb : blkH T N n t g0) (hg0 : 10 ≤ g0 + dd) (hg1 : 1 ≤ g0) (hdd : dd ≤ 6) (ht : 61 ≤ t) (h0 : tkP T N n p 0 Ic Im) (hok : okS T N t g dd p s a pk k q cc Ic Im) (hs : s < 24) {Ic1 Im1 : hI} (h : tkP T N n p 0 Ic1 Im1) (ho : opQ t s a (tkK T N p) Ic Im Ic1 Im1) : ∃ (v w : Int32) (Ic' Im' : hI) (p' e' : Nat), ((mRd_next Ic1).bind fun q4 => swC (mLt_readBlock g0) t (t + 9 + a) (nI dd) (nI cc) (nI (tkK T N p)) q4) = some (v, Ic') ∧ rsM (mM_readBody g0) (nI s) Im1 = some (w, Im') ∧ smR T N n t g dd p s a k q e' p' v w Ic Im Ic' Im' := by
  have hp := (tk_kd h).2 (by omega)
  obtain ⟨⟨o7, o3, o0, o24, o15⟩, f1, f2⟩ := ho
  have ok := hok
  obtain ⟨⟨⟨p3, p7, p24⟩, ⟨p8, p25⟩, ⟨p9, p10⟩, ⟨p15, p16, p11⟩, ps, ppk, pk100, pq⟩, hag, hcc, h31, h30, hA5⟩ := ok
  obtain ⟨Ic2, Im2, q1, q2, q3, q4, q5⟩ := next_both h hp
  have hmono := tk_mono h0 (a := p) (b := p + 1) (by omega) (by omega)
  obtain ⟨J, hJ⟩ : ∃ J, J = h_u (h_u Ic2 (t + 9 + a) 1 (nI pk)) t 8 (nI (pk + 1)) := ⟨_, rfl⟩
  have fJ : ∀ c i, (c ≠ t + 9 + a ∨ i ≠ 1) → (c ≠ t ∨ i ≠ 8) → J c i = Ic2 c i := fun c i w1 w => by rw [hJ, hu_fr w, hu_fr w1]
  obtain ⟨M, hM⟩ : ∃ J, J = h_u (h_u (h_u Im2 9 s (nI 4)) 10 s (nI pk)) 0 25 (nI (pk + 1)) := ⟨_, rfl⟩
  have fM : ∀ c i, ((c ≠ 9 ∧ c ≠ 10) ∨ i ≠ s) → (c ≠ 0 ∨ i ≠ 25) → M c i = Im2 c i := fun c i w1 w2 => by rw [hM, hu_fr w2, hu_fr (by omega), hu_fr (by omega)]
  have gC : ∀ c i, (c ≠ 1 ∨ i < 6 ∨ 11 < i) → (c ≠ t + 9 + a ∨ (i ≠ 0 ∧ i ≠ 1)) → (c ≠ t ∨ (i ≠ 3 ∧ i ≠ 7 ∧ i ≠ 8)) → J c i = Ic c i := fun c i w1 w2 w4 => by rw [fJ c i (by omega) (by omega), q4 c i (by omega), f1 c i (by omega) (by omega)]
  have gM : ∀ c i, (c ≠ 0 ∨ i < 3 ∨ (7 < i ∧ i ≠ 24 ∧ i ≠ 25)) → ((c ≠ 9 ∧ c ≠ 10 ∧ c ≠ 13 ∧ c ≠ 14 ∧ c ≠ 15) ∨ i ≠ s) → M c i = Im c i := fun c i w1 w2 => by rw [fM c i (by omega) (by omega), q5 c i (by omega), f2 c i (by omega) (by omega)]
  have m9 : M 9 s = nI 4 := by rw [hM, hu_fr (by omega), hu_fr (by omega), h_u_at]
  have hT : tkP T N n (p + 1) 0 J M := tkP_of q3 (fun i _ => fJ 1 i (by omega) (by omega)) (fun c i _ _ => fJ c i (by omega) (by omega)) (fun i _ _ => fM 0 i (by omega) (by omega)) (fun i => fM 1 i (by omega) (by omega))
  have hFC : FC t a k (ctK Im 2 s) Ic J := fun c i w1 w2 w3 w4 w5 w6 => gC c i w1 (by omega) (by omega)
  have hFM : FM s k q Im M := fun c i w1 w2 w3 w4 => gM c i (by omega) (by omega)
  have c2 := ct_next (Im := Im) (Im' := M) (s := s) (kk := 4) (kd := 2) (fun y hy => hFM 9 y (by omega) (by omega) (by omega) (by omega)) m9 (by omega) (by omega)
  have c3 := ct_next (Im := Im) (Im' := M) (s := s) (kk := 4) (kd := 3) (fun y hy => hFM 9 y (by omega) (by omega) (by omega) (by omega)) m9 (by omega) (by omega)
  rw [if_neg (by omega), Nat.add_zero] at c2
  rw [if_neg (by omega), Nat.add_zero] at c3
  have j3 : J t 3 = nI (a + 1) := by rw [fJ t 3 (by omega) (by omega), q4 t 3 (by omega)]; exact o3
  have hokJ : okS T N t (g + 1) dd (p + 1) (s + 1) (a + 1) (pk + 1) k q cc J M := by
    refine ⟨⟨⟨j3, by rw [fJ t 7 (by omega) (by omega), q4 t 7 (by omega)]; exact o7, by rw [fM 0 24 (by omega) (by omega), q5 0 24 (by omega)]; exact o24⟩, ⟨by rw [hJ, h_u_at], by rw [hM, h_u_at]⟩, ⟨by rw [gC t 9 (by omega) (by omega) (by omega), c3]; exact p9, by rw [gC t 10 (by omega) (by omega) (by omega), c2]; exact p10⟩, ⟨by rw [gC (t + 1) 5 (by omega) (by omega) (by omega)]; exact p15, by rw [gM 0 16 (by omega) (by omega)]; exact p16, by rw [gM 0 11 (by omega) (by omega)]; exact p11⟩, by omega, by omega, pk100, by omega⟩, by omega, hcc, by rw [gM 0 31 (by omega) (by omega)]; exact h31, by rw [gM 0 30 (by omega) (by omega)]; exact h30, by omega⟩
  obtain ⟨v, Ic', Im', p', e', r1, r2, r3, r4, r5, r6, r7, r8⟩ := ways_both (e := 0) (g := g) (kd := 4) (wh := pk) (c2 := 0) (c3 := 0) hb hg0 hg1 hdd ht hT hs (by omega) (fun _ => ⟨hokJ, ⟨by omega, m9, by rw [fJ _ 0 (by omega) (by omega), q4 _ 0 (by omega), o0, kdE]; rfl, fun w => by omega, fun w => by omega, fun _ => ⟨hcn, by rw [hJ, hu_fr (by omega), h_u_at], by rw [hM, hu_fr (by omega), h_u_at]⟩, fun w => by omega⟩, by rw [fM 15 s (by omega) (by omega), q5 15 s (by omega)]; exact o15⟩) (by omega) ⟨a + 1, by omega, j3⟩ (by omega)
  refine ⟨v, nI s, Ic', Im', p', e', ?_, ?_, fork_fin hs hFC hFM (Nat.le_refl _) (Nat.le_refl _) (by omega) r3 r4 r5 r6 r7 r8⟩
  · have e8 : Ic2 t 8 = nI pk := by rw [q4 t 8 (by omega), f1 t 8 (by omega) (by omega)]; exact p8
    rw [q1, Option.bind_some, kdE]
    unfold swC
    rw [if_neg (by decide), if_neg (by decide), if_neg (by decide), if_neg (by decide), if_neg (by decide), if_pos (by decide), hl_eq, hl_eq, hu_fr (by omega), e8, li_1, nI_add, ← hJ, r1, Option.bind_some]
  · have e25 : h_u Im2 9 s (nI 4) 0 25 = nI pk := by rw [hu_fr (by omega), q5 0 25 (by omega), f2 0 25 (by omega) (by omega)]; exact p25
    have eW : mM_readWays (mM_readBody g0) (nI s) Im1 = some Im' := by
      unfold mM_readWays
      rw [tw_n h (j := 4) (by omega) (fun w => by omega), Option.bind_some, if_pos (pr0 _)]
      try dsimp only
      rw [tw_y h (j := 5) (by omega) kdE q2, Option.bind_some, if_neg (pr1 _)]
      try dsimp only
      rw [hg_in _ (by omega) (by omega), hl_eq, hg_in _ (by omega) (by omega), hl_eq, hl_eq, nI_clamp (by omega)]
      try dsimp only
      rw [hu_fr (show (0 : Nat) ≠ 10 ∨ 25 ≠ s by omega), li_4, e25, li_1, nI_add, ← hM]
      exact r2
    unfold rsM
    rw [tw_n h (j := 7) (by omega) (fun w => by omega), Option.bind_some, if_pos (pr0 _)]
    try dsimp only
    rw [tw_n h (j := 3) (by omega) (fun w => by omega), Option.bind_some, if_pos (pr0 _)]
    try dsimp only
    rw [iw_n h (j := 0) (by omega) (by omega), Option.bind_some, if_pos (by decide), iw_n h (j := 1) (by omega) (by omega), Option.bind_some, if_pos (by decide), eW, Option.bind_some]
/-- if -/
theorem st_if {g0 : Nat} {kdE : tkK T N p = 264} (hb : blkH T N n t g0) (hg0 : 10 ≤ g0 + dd) (hg1 : 1 ≤ g0) (hdd : dd ≤ 6) (ht : 61 ≤ t) (h0 : tkP T N n p 0 Ic Im) (hok : okS T N t g dd p s a pk k q cc Ic Im) (hs : s < 24) {Ic1 Im1 : hI} (h : tkP T N n p 0 Ic1 Im1) (ho : opQ t s a (tkK T N p) Ic Im Ic1 Im1) : ∃ (v w : Int32) (Ic' Im' : hI) (p' e' : Nat), ((mRd_next Ic1).bind fun q4 => swC (mLt_readBlock g0) t (t + 9 + a) (nI dd) (nI cc) (nI (tkK T N p)) q4) = some (v, Ic') ∧ rsM (mM_readBody g0) (nI s) Im1 = some (w, Im') ∧ smR T N n t g dd p s a k q e' p' v w Ic Im Ic' Im' := by
  have hp := (tk_kd h).2 (by omega)
  have hn := tk_n h
  obtain ⟨⟨o7, o3, o0, o24, o15⟩, f1, f2⟩ := ho
  have ok := hok
  obtain ⟨⟨⟨p3, p7, p24⟩, ⟨p8, p25⟩, ⟨p9, p10⟩, ⟨p15, p16, p11⟩, ps, ppk, pk100, pq⟩, hag, hcc, h31, h30, hA5⟩ := ok
  obtain ⟨Ic2, Im2, q1, q2, q3, q4, q5⟩ := next_both h hp
  have wlen := word_len h0 (j := 6) (by omega) kdE
  have w6 : wl 6 = 2 := rfl
  obtain ⟨J, hJ⟩ : ∃ J, J = h_u Ic2 (t + 9 + a) 6 (nI k) := ⟨_, rfl⟩
  have fJ : ∀ c i, (c ≠ t + 9 + a ∨ i ≠ 6) → J c i = Ic2 c i := fun c i w => by rw [hJ, hu_fr w]
  obtain ⟨M, hM⟩ : ∃ J, J = h_u (h_u Im2 9 s (nI 5)) 11 s (nI k) := ⟨_, rfl⟩
  have fM : ∀ c i, ((c ≠ 9 ∧ c ≠ 11) ∨ i ≠ s) → M c i = Im2 c i := fun c i w => by rw [hM, hu_fr (by omega), hu_fr (by omega)]
  have gC : ∀ c i, (c ≠ 1 ∨ i < 6 ∨ 11 < i) → (c ≠ t + 9 + a ∨ (i ≠ 0 ∧ i ≠ 6)) → (c ≠ t ∨ (i ≠ 3 ∧ i ≠ 7)) → J c i = Ic c i := fun c i w1 w2 w4 => by rw [fJ c i (by omega), q4 c i (by omega), f1 c i (by omega) (by omega)]
  have gM : ∀ c i, (c ≠ 0 ∨ i < 3 ∨ (7 < i ∧ i ≠ 24)) → ((c ≠ 9 ∧ c ≠ 11 ∧ c ≠ 13 ∧ c ≠ 14 ∧ c ≠ 15) ∨ i ≠ s) → M c i = Im c i := fun c i w1 w2 => by rw [fM c i (by omega), q5 c i (by omega), f2 c i (by omega) (by omega)]
  have hT : tkP T N n (p + 1) 0 J M := tkP_of q3 (fun i _ => fJ 1 i (by omega)) (fun c i _ _ => fJ c i (by omega)) (fun i _ _ => fM 0 i (by omega)) (fun i => fM 1 i (by omega))
  obtain ⟨Ic4, Im4, p4, e4, u, z1, z2, z3, z4, z5, z6, z7, z8, z9, z10⟩ := sum_both hT (q := q) (by omega) (by rw [gM 0 11 (by omega) (by omega)]; exact p11)
  have hp4 := z3.2.2.2.1
  have hmono := tk_mono h0 (a := p + 1) (b := p4) (by omega) hp4
  obtain ⟨Ic5, Im5, p5, e5, k5, q5', y1, y2, y3, y4, y5, y6, y7, y8, y9, y10, y11⟩ := cond_L (T := T) (N := N) (n := n) (o := 0) (t := t + 1) (m := s + 1) (d := 3) (by omega) (by omega) (by omega) (by omega) (n - p4) p4 e4 hF hF 0 k (q + 1) q true u Ic4 Im4 (by omega) (by unfold hF; omega) (by unfold hF; omega) (by omega) z3 z4 z5 (by omega) z8 (by rw [z9 (t + 1) 5 (by omega), gC (t + 1) 5 (by omega) (by omega) (by omega)]; exact p15) (by rw [z10 0 16 (by omega) (by omega), gM 0 16 (by omega) (by omega), p16, Nat.zero_add]) pk100 (by omega) (fun w => by have := (z7 w).2; omega)
  rw [Nat.zero_add] at y6
  have hp5 := y3.2.2.2.1
  obtain ⟨J2, hJ2⟩ : ∃ J, J = h_u Ic5 (t + 9 + a) 7 (nI k5) := ⟨_, rfl⟩
  have fJ2 : ∀ c i, (c ≠ t + 9 + a ∨ i ≠ 7) → J2 c i = Ic5 c i := fun c i w => by rw [hJ2, hu_fr w]
  obtain ⟨M2, hM2⟩ : ∃ J, J = h_u Im5 12 s (nI k5) := ⟨_, rfl⟩
  have fM2 : ∀ c i, (c ≠ 12 ∨ i ≠ s) → M2 c i = Im5 c i := fun c i w => by rw [hM2, hu_fr w]
  have gC2 : ∀ c i, (c ≠ 1 ∨ i < 6 ∨ 11 < i) → (c ≠ t + 1 ∨ i ≠ 5) → (c < t + 2 ∨ t + 6 < c ∨ i < k) → (c ≠ t + 9 + a ∨ i ≠ 7) → J2 c i = J c i := fun c i w1 w2 w3 w4 => by rw [fJ2 c i w4, y7 c i w1 w2 (by omega), z9 c i w1]
  have gM2 : ∀ c i, (c ≠ 0 ∨ i < 3 ∨ (7 < i ∧ i ≠ 11 ∧ i ≠ 16)) → (c < 2 ∨ 4 < c ∨ i < q ∨ 250 ≤ i) → (c < 5 ∨ 8 < c ∨ i < k ∨ 250 ≤ i) → (c ≠ 12 ∨ i ≠ s) → M2 c i = M c i := fun c i w1 w2 w3 w4 => by rw [fM2 c i w4, y8 c i (by omega) (by omega) (by omega), z10 c i (by omega) (by omega)]
  have hT2 : tkP T N n p5 e5 J2 M2 := tkP_of y3 (fun i _ => fJ2 1 i (by omega)) (fun c i _ _ => fJ2 c i (by omega)) (fun i _ _ => fM2 0 i (by omega)) (fun i => fM2 1 i (by omega))
  have hFC : FC t a k (ctK Im 2 s) Ic J2 := fun c i w1 w2 w3 w4 w5 w6 => by rw [gC2 c i w1 w3 w4 (by omega), gC c i w1 (by omega) (by omega)]
  have hFM : FM s k q Im M2 := fun c i w1 w2 w3 w4 => by rw [gM2 c i (by omega) w2 w3 (by omega), gM c i (by omega) (by omega)]
  have m9 : M2 9 s = nI 5 := by rw [gM2 9 s (by omega) (by omega) (by omega) (by omega), hM, hu_fr (by omega), h_u_at]
  have c2 := ct_next (Im := Im) (Im' := M2) (s := s) (kk := 5) (kd := 2) (fun y hy => hFM 9 y (by omega) (by omega) (by omega) (by omega)) m9 (by omega) (by omega)
  have c3 := ct_next (Im := Im) (Im' := M2) (s := s) (kk := 5) (kd := 3) (fun y hy => hFM 9 y (by omega) (by omega) (by omega) (by omega)) m9 (by omega) (by omega)
  rw [if_neg (by omega), Nat.add_zero] at c2
  rw [if_neg (by omega), Nat.add_zero] at c3
  have j3 : J2 t 3 = nI (a + 1) := by rw [gC2 t 3 (by omega) (by omega) (by omega) (by omega), fJ t 3 (by omega), q4 t 3 (by omega)]; exact o3
  obtain ⟨v, Ic', Im', p', e', r1, r2, r3, r4, r5, r6, r7, r8⟩ := ways_both (g := g) (s := s) (a := a) (pk := pk) (cc := cc) (kd := 5) (wh := 0) (c2 := k) (c3 := k5) (k := k5) (q := q5') hb hg0 hg1 hdd ht hT2 hs (by omega) (fun w => by
    obtain ⟨b1, b2, b3, b4, b5, b6⟩ := y11 w
    refine ⟨⟨⟨⟨j3, by rw [gC2 t 7 (by omega) (by omega) (by omega) (by omega), fJ t 7 (by omega), q4 t 7 (by omega)]; exact o7, by rw [gM2 0 24 (by omega) (by omega) (by omega) (by omega), fM 0 24 (by omega), q5 0 24 (by omega)]; exact o24⟩, ⟨by rw [gC2 t 8 (by omega) (by omega) (by omega) (by omega), gC t 8 (by omega) (by omega) (by omega)]; exact p8, by rw [gM2 0 25 (by omega) (by omega) (by omega) (by omega), gM 0 25 (by omega) (by omega)]; exact p25⟩, ⟨by rw [gC2 t 9 (by omega) (by omega) (by omega) (by omega), gC t 9 (by omega) (by omega) (by omega), c3]; exact p9, by rw [gC2 t 10 (by omega) (by omega) (by omega) (by omega), gC t 10 (by omega) (by omega) (by omega), c2]; exact p10⟩, ⟨by rw [fJ2 (t + 1) 5 (by omega)]; exact y5, by rw [fM2 0 16 (by omega)]; exact y6, by rw [fM2 0 11 (by omega)]; exact y4⟩, by omega, ppk, by omega, by omega⟩, by omega, hcc, by rw [gM2 0 31 (by omega) (by omega) (by omega) (by omega), gM 0 31 (by omega) (by omega)]; exact h31, by rw [gM2 0 30 (by omega) (by omega) (by omega) (by omega), gM 0 30 (by omega) (by omega)]; exact h30, by omega⟩, ⟨by omega, m9, ?_, fun w => by omega, fun w => by omega, fun w => by omega, fun _ => ⟨?_, ?_, ?_, ?_, b2, Nat.le_refl _, cnR_of b5 (Nat.le_refl _) (fun c i w1 w2 w3 w4 => fJ2 c i (by omega)) (fun c i w1 w2 w3 w4 => fM2 c i (by omega)) (fun c i w1 w2 w3 w4 => fM2 c i (by omega)), ?_⟩⟩, ?_⟩
    · rw [gC2 _ 0 (by omega) (by omega) (by omega) (by omega), fJ _ 0 (by omega), q4 _ 0 (by omega), o0, kdE]; rfl
    · rw [gC2 _ 6 (by omega) (by omega) (by omega) (by omega), hJ, h_u_at]
    · rw [hJ2, h_u_at]
    · rw [gM2 11 s (by omega) (by omega) (by omega) (by omega), hM, h_u_at]
    · rw [hM2, h_u_at]
    · rw [fJ2 (t + 6) k (by omega)]; exact b6
    · rw [gM2 15 s (by omega) (by omega) (by omega) (by omega), fM 15 s (by omega), q5 15 s (by omega)]; exact o15) (by omega) ⟨a + 1, by omega, j3⟩ (by omega)
  refine ⟨v, nI s, Ic', Im', p', e', ?_, ?_, fork_fin hs hFC hFM (by omega) (by omega) (by omega) r3 r4 r5 r6 r7 r8⟩
  · have e15 : Ic2 (t + 1) 5 = nI k := by rw [q4 (t + 1) 5 (by omega), f1 (t + 1) 5 (by omega) (by omega)]; exact p15
    have eC : mRd_readCondition (t + 1) Ic4 = some Ic5 := y1
    rw [q1, Option.bind_some, kdE]
    unfold swC
    rw [if_neg (by decide), if_neg (by decide), if_neg (by decide), if_neg (by decide), if_neg (by decide), if_neg (by decide), if_pos (by decide), hl_eq, e15, ← hJ, z1, Option.bind_some, eC, Option.bind_some, hl_eq, y5, ← hJ2, r1, Option.bind_some]
  · have e16 : h_u Im2 9 s (nI 5) 0 16 = nI k := by rw [hu_fr (by omega), q5 0 16 (by omega), f2 0 16 (by omega) (by omega)]; exact p16
    have eR : mM_readCond (-1 : Int32) M = some Im5 := by
      unfold mM_readCond mM_readCond_14
      rw [if_pos rfl, z2, Option.bind_some]
      exact y2
    have eW : mM_readWays (mM_readBody g0) (nI s) Im1 = some Im' := by
      unfold mM_readWays
      rw [tw_n h (j := 4) (by omega) (fun w => by omega), Option.bind_some, if_pos (pr0 _)]
      try dsimp only
      rw [tw_n h (j := 5) (by omega) (fun w => by omega), Option.bind_some, if_pos (pr0 _)]
      try dsimp only
      rw [q2, Option.bind_some, hg_in _ (by omega) (by omega), hl_eq, hg_in _ (by omega) (by omega), hl_eq, nI_clamp (by omega), li_5, e16, ← hM, eR, Option.bind_some, hg_in _ (by omega) (by omega), hl_eq, y6, ← hM2]
      exact r2
    unfold rsM
    rw [tw_n h (j := 7) (by omega) (fun w => by omega), Option.bind_some, if_pos (pr0 _)]
    try dsimp only
    rw [tw_n h (j := 3) (by omega) (fun w => by omega), Option.bind_some, if_pos (pr0 _)]
    try dsimp only
    rw [iw_n h (j := 0) (by omega) (by omega), Option.bind_some, if_pos (by decide), iw_n h (j := 1) (by omega) (by omega), Option.bind_some, if_pos (by decide), eW, Option.bind_some]
/-- any statement -/
theorem stmt_both {g0 : Nat} (hb : blkH T N n t g0) (hg0 : 10 ≤ g0 + dd) (hg1 : 1 ≤ g0) (hdd : dd ≤ 6) (ht : 61 ≤ t) (h : tkP T N n p 0 Ic Im) (hok : okS T N t g dd p s a pk k q cc Ic Im) : ∃ (v w : Int32) (Ic' Im' : hI) (p' e' : Nat), mLt_readStatement (mLt_readBlock g0) t (nI dd) (nI cc) Ic = some (v, Ic') ∧ mM_readStatement (mM_readBody g0) Im = some (w, Im') ∧ smR T N n t g dd p s a k q e' p' v w Ic Im Ic' Im' := by
  by_cases hcn : cnP s pk cc (tkK T N p)
  · obtain ⟨Ic1, Im1, t1, t2, t3, t4⟩ := stm_top ht h hok hcn (mLt_readBlock g0) (mM_readBody g0)
    rw [t1, t2]
    have hs := hcn.2
    rcases hcn.1 with c | c | c | ⟨c, c2⟩ | ⟨c, c2⟩ | c | c
    · exact st_set (kk := 0) (kdE := c) (by omega) ht h hok hs t3 t4 _ _
    · exact st_set (kk := 1) (kdE := c) (by omega) ht h hok hs t3 t4 _ _
    · exact st_pay (kdE := c) ht h hok hs t3 t4 _ _
    · exact st_coin (kdE := c) c2 hb hg0 hg1 hdd ht h hok hs t3 t4
    · exact st_pick (kdE := c) c2 hb hg0 hg1 hdd ht h hok hs t3 t4
    · exact st_if (kdE := c) hb hg0 hg1 hdd ht h hok hs t3 t4
    · exact st_out (kdE := c) ht h hok hs t3 t4 _ _
  · have hkd := tk_kd h
    obtain ⟨⟨⟨p3, p7, p24⟩, ⟨p8, p25⟩, ⟨p9, p10⟩, ⟨p15, p16, p11⟩, ps, ppk, pk100, pq⟩, hag, hcc, h31, h30, hA5⟩ := hok
    have e7 : Ic 1 7 = nI (tkK T N p) := (kd_is h (by omega)).mpr ⟨rfl, rfl⟩
    obtain ⟨Ic', e', w1, w2, w3, w4, w5⟩ := fail_both h
    refine ⟨nI cc, (0 : Int32), Ic', mM_bad Im, p, e', ?_, ?_, w2, Nat.le_refl _, fun c i _ _ => w4 c i (by omega), FM_fr w5, ⟨a, by omega, by rw [w4 t 3 (by omega)]; exact p3⟩, fun z => by omega⟩
    · unfold mLt_readStatement
      rw [hl_eq, e7, lt_cannot p7 p8 ps ppk hcc hkd.1 hcn, if_pos (show nI 0 = (0 : Int32) from rfl), w1, Option.bind_some]
    · rw [(m_stm_top h p24 p25 h31 ps ppk hcc (mM_readBody g0)).2 hcn]
      unfold mM_readStatement_52
      rw [hl_eq]
end Sz
