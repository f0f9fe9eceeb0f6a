/-! Statements: both readers read one, kind by kind. -/
/-- the class's kinds, behind the statement's first word -/
def swC (rec : Nat → Int32 → Int32 → hI → Option (Int32 × hI)) (t0 st : Nat) (v2 v3 v4 : Int32) (q4 : hI) : Option (Int32 × hI) :=
  if v4 = 258 then ((mLt_readSetting st q4).bind fun q5 => some (v3, q5))
  else (if v4 = 259 then ((mLt_readSetting st q4).bind fun q5 => some (v3, q5))
  else (if v4 = 260 then some (v3, q4)
  else (if v4 = 261 then ((mLt_readPay t0 st q4).bind fun q5 => some (v3, q5))
  else (if v4 = 262 then (h_let (h_u q4 t0 9 ((q4 t0 9) + (1 : Int32))) fun I5 => (mLt_readWays rec t0 st v2 (v3 + (1 : Int32)) I5).bind fun q6 => some (q6.1, q6.2))
  else (if v4 = 263 then (h_let (h_u q4 st 1 (q4 t0 8)) fun I5 => h_let (h_u I5 t0 8 ((I5 t0 8) + (1 : Int32))) fun I6 => (mLt_readWays rec t0 st v2 v3 I6).bind fun q7 => some (q7.1, q7.2))
  else (if v4 = 264 then (h_let (h_u q4 st 6 (q4 (t0 + 1) 5)) fun I5 => (mRd_readSum I5).bind fun q6 => (mRd_readCondition (t0 + 1) q6).bind fun q7 => h_let (h_u q7 st 7 (q7 (t0 + 1) 5)) fun I8 => (mLt_readWays rec t0 st v2 v3 I8).bind fun q9 => some (q9.1, q9.2))
  else some (v3, q4)))))))
/-- the reference's, behind the statement's place -/
def rsM (rec : hI → Option (Int32 × hI)) (v1 : Int32) (I8 : hI) : Option (Int32 × hI) :=
  (mM_takesWord 7 I8).bind fun q9 => if q9.1 = 0 then ((mM_takesWord 3 q9.2).bind fun q10 => if q10.1 = 0 then ((mM_isWord 0 q10.2).bind fun q11 => if q11 = 0 then ((mM_isWord 1 q10.2).bind fun q12 => if q12 = 0 then ((mM_readWays rec v1 q10.2).bind fun q13 => some (v1, q13)) else mM_readStatement_166 rec v1 q10.2) else mM_readStatement_166 rec v1 q10.2) else (h_g (h_in v1 48) <| h_let (h_u q10.2 9 v1.toNatClampNeg (2 : Int32)) fun I12 => (mM_takesNumber (0 : Int32) (20 : Int32) I12).bind fun q13 => h_g (h_in v1 48) <| h_let (h_u q13.2 10 v1.toNatClampNeg q13.1) fun I15 => some (v1, I15))) else (h_g (h_in v1 48) <| h_let (h_u q9.2 9 v1.toNatClampNeg (6 : Int32)) fun I11 => some (v1, I11))
section Sy
variable {T : Nat → Nat} {N n p t g dd s a pk k q cc : Nat} {Ic Im : hI}
/-- what stands behind a statement's begin -/
def opQ (t s a kd : Nat) (Ic Im Ic1 Im1 : hI) : Prop := (Ic1 t 7 = nI (s + 1) ∧ Ic1 t 3 = nI (a + 1) ∧ Ic1 (t + 9 + a) 0 = nI kd ∧ Im1 0 24 = nI (s + 1) ∧ Im1 15 s = (-1 : Int32)) ∧ (∀ c i, (c ≠ t ∨ (i ≠ 3 ∧ i ≠ 7)) → (c ≠ t + 9 + a ∨ i ≠ 0) → Ic1 c i = Ic c i) ∧ ∀ c i, (c ≠ 0 ∨ i ≠ 24) → ((c ≠ 13 ∧ c ≠ 14 ∧ c ≠ 15) ∨ i ≠ s) → Im1 c i = Im c i
theorem stm_top (ht : 61 ≤ t) (h : tkP T N n p 0 Ic Im) (hok : okS T N t g dd p s a pk k q cc Ic Im) (hcn : cnP s pk cc (tkK T N p)) (rec : Nat → Int32 → Int32 → hI → Option (Int32 × hI)) (rec2 : hI → Option (Int32 × hI)) : ∃ Ic1 Im1 : hI, mLt_readStatement rec t (nI dd) (nI cc) Ic = ((mRd_next Ic1).bind fun q4 => swC rec t (t + 9 + a) (nI dd) (nI cc) (nI (tkK T N p)) q4) ∧ mM_readStatement rec2 Im = rsM rec2 (nI s) Im1 ∧ tkP T N n p 0 Ic1 Im1 ∧ opQ t s a (tkK T N p) Ic Im Ic1 Im1 := by
  have hkd := tk_kd h
  obtain ⟨⟨⟨p3, p7, p24⟩, ⟨p8, p25⟩, ⟨p9, p10⟩, ⟨p15, p16, p11⟩, ps, ppk, pk100, pq⟩, hag, hcc, h31, h30, hA5⟩ := hok
  have hs := hcn.2
  have e7 : Ic 1 7 = nI (tkK T N p) := (kd_is h (by omega)).mpr ⟨rfl, rfl⟩
  have emin : min a 47 = a := by omega
  obtain ⟨Ic1, hIc1⟩ : ∃ J, J = h_u (h_u (h_u Ic t 7 (nI (s + 1))) (t + 9 + a) 0 (nI (tkK T N p))) t 3 (nI (a + 1)) := ⟨_, rfl⟩
  obtain ⟨Im1, hIm1⟩ : ∃ J, J = h_u (h_u (h_u (h_u Im 0 24 (nI (s + 1))) 15 s (-1 : Int32)) 13 s (-1 : Int32)) 14 s (-1 : Int32) := ⟨_, rfl⟩
  have f1 : ∀ c i, (c ≠ t ∨ (i ≠ 3 ∧ i ≠ 7)) → (c ≠ t + 9 + a ∨ i ≠ 0) → Ic1 c i = Ic c i := fun c i q1 q2 => by rw [hIc1, hu_fr (by omega), hu_fr (by omega), hu_fr (by omega)]
  have f2 : ∀ c i, (c ≠ 0 ∨ i ≠ 24) → ((c ≠ 13 ∧ c ≠ 14 ∧ c ≠ 15) ∨ i ≠ s) → Im1 c i = Im c i := fun c i q1 q2 => by rw [hIm1, hu_fr (by omega), hu_fr (by omega), hu_fr (by omega), hu_fr (by omega)]
  refine ⟨Ic1, Im1, ?_, ?_, tkP_of h (fun i _ => f1 1 i (by omega) (by omega)) (fun c i _ _ => f1 c i (by omega) (by omega)) (fun i _ _ => f2 0 i (by omega) (by omega)) (fun i => f2 1 i (by omega) (by omega)), ⟨?_, ?_, ?_, ?_, ?_⟩, f1, f2⟩
  · unfold mLt_readStatement
    have g3 : h_u Ic t 7 (nI (s + 1)) t 3 = nI a := by rw [hu_fr (by omega)]; exact p3
    rw [hl_eq, e7, lt_can p7 p8 ps ppk hcc hkd.1 hcn, if_neg (by decide), hl_eq, p7, li_1, nI_add, lt_add g3 (by omega), emin, Option.bind_some, ← hIc1]
    rfl
  · have e1s : nI s + (1 : Int32) = nI (s + 1) := by rw [li_1, nI_add]
    rw [(m_stm_top h p24 p25 h31 ps ppk hcc rec2).1 hcn]
    unfold mM_readStatement_58 rsM
    rw [hl_eq, p24, hl_eq, hg_in _ (by omega) (by omega), hl_eq, hg_in _ (by omega) (by omega), hl_eq, hg_in _ (by omega) (by omega), hl_eq, nI_clamp (by omega), e1s, ← hIm1]
  · rw [hIc1, hu_fr (by omega), hu_fr (by omega), h_u_at]
  · rw [hIc1, h_u_at]
  · rw [hIc1, hu_fr (by omega), h_u_at]
  · rw [hIm1, hu_fr (by omega), hu_fr (by omega), hu_fr (by omega), h_u_at]
  · rw [hIm1, hu_fr (by omega), hu_fr (by omega), h_u_at]
theorem simple_fin {p' q' kd wh : Nat} {Ic' Im' : hI} (ht : 61 ≤ t) (hok : okS T N t g dd p s a pk k q cc Ic Im) (hs : s < 24) (h0 : tkP T N n p 0 Ic Im) (r3 : tkP T N n p' 0 Ic' Im') (hp : p < p') (hc : FC t a k (ctK Im 2 s) Ic Ic') (hm : FM s k q Im Im') (t3 : Ic' t 3 = nI (a + 1)) (t7 : Ic' t 7 = nI (s + 1)) (m24 : Im' 0 24 = nI (s + 1)) (t8 : Ic' t 8 = Ic t 8) (m25 : Im' 0 25 = Im 0 25) (h9 : Im' 9 s = nI kd) (t9 : Ic' t 9 = Ic t 9) (t10 : Ic' t 10 = nI (ctK Im 2 s + (if kd = 2 then 1 else 0))) (t15 : Ic' (t + 1) 5 = Ic (t + 1) 5) (m16 : Im' 0 16 = Im 0 16) (m11 : Im' 0 11 = nI q') (hq : q ≤ q' ∧ q' ≤ q + 1) (m31 : Im' 0 31 = Im 0 31) (m30 : Im' 0 30 = Im 0 30) (hkd : kd ≤ 2 ∨ kd = 6) (hd : hdQ t k (ctK Im' 2 (s + 1)) q' a kd wh 0 0 s Ic' Im') (h15 : Im' 15 s = (-1 : Int32)) : smR T N n t g dd p s a k q 0 p' (nI cc) (nI s) Ic Im Ic' Im' := by
  obtain ⟨⟨⟨p3, p7, p24⟩, ⟨p8, p25⟩, ⟨p9, p10⟩, ⟨p15, p16, p11⟩, ps, ppk, pk100, pq⟩, hag, hcc, h31, h30, hA5⟩ := hok
  have hmono := tk_mono h0 (a := p) (b := p') (by omega) r3.2.2.2.1
  have c2 := ct_next (Im := Im) (Im' := Im') (s := s) (kk := kd) (kd := 2) (fun y hy => hm 9 y (by omega) (by omega) (by omega) (by omega)) h9 (by omega) (by omega)
  have c3 := ct_next (Im := Im) (Im' := Im') (s := s) (kk := kd) (kd := 3) (fun y hy => hm 9 y (by omega) (by omega) (by omega) (by omega)) h9 (by omega) (by omega)
  rw [if_neg (show ¬ kd = 3 by omega), Nat.add_zero] at c3
  refine ⟨r3, by omega, GC_of hc, hm, ⟨a + 1, by omega, t3⟩, fun _ => ⟨hp, s + 1, a + 1, pk, k, q', cc, rfl, rfl, ⟨⟨⟨t3, t7, m24⟩, ⟨by rw [t8]; exact p8, by rw [m25]; exact p25⟩, ⟨by rw [t9, c3]; exact p9, by rw [t10, c2]⟩, ⟨by rw [t15]; exact p15, by rw [m16]; exact p16, m11⟩, by omega, ppk, pk100, by omega⟩, by omega, hcc, by rw [m31]; exact h31, by rw [m30]; exact h30, by omega⟩, hc, by omega, stm_simple hd hkd (by omega), h15⟩⟩
theorem lt_pay {st py : Nat} {I I4 : hI} {v : Int32} (hx : mRd_takeNumber (0 : Int32) (20 : Int32) I = some (v, I4)) (e10 : I4 t 10 = nI py) (hpy : py < 24) (hst : st ≠ t) : mLt_readPay t st I = some (h_u (h_u (h_u I4 st 1 (nI py)) (t + 8) py v) t 10 (nI (py + 1))) := by
  have oo : mC_isOutside (nI py) (24 : Int32) = nI 0 := by unfold mC_isOutside; simp (disch := omega) only [↓reduceIte, hl_eq, hg_in, hg_zb, hg_z0, hg_z1, hg_nz, Option.bind_some, if_pos, if_neg, bI_0, bI_n0, nI_add, nI_mul, nI_ltI, nI_leI, nI_eq, nI_clamp, nI_subN, nI_divN, nI_mod2, nI_m1e, nI_em1, nI_m2e, nI_lt0, m1_lt0, m1_lt, m1_le, h_u_at, h_u_off2, h_u_pl, li_0, li_1, li_2, li_3, li_4, li_5, li_6, li_7, li_8, li_9, li_10, li_11, li_12, li_13, li_14, li_15, li_16, li_17, li_18, li_19, li_20, li_21, li_22, li_23, li_24, li_25, li_26, li_27, li_28, li_29, li_30, li_31, li_32, li_40, li_43, li_45, li_47, li_48, li_57, li_59, li_60, li_61, li_62, li_63, li_64, li_80, li_92, li_97, li_99, li_100, li_122, li_123, li_125, li_166, li_201, li_210, li_250, li_255, li_256, li_257, li_258, li_259, li_260, li_261, li_262, li_263, li_264, li_265, li_266, li_267, li_268, li_300, li_500, li_1000, li_12345, li_27720, li_1000000, li_1103515245, ne_m1, ne_m2]
  have e1s : nI py + (1 : Int32) = nI (py + 1) := by rw [li_1, nI_add]
  unfold mLt_readPay
  rw [hx, Option.bind_some]
  show (h_let v fun v3x1 => h_let (h_u I4 st 1 (I4 t 10)) fun I3 => if (mC_isOutside (I3 t 10) (24 : Int32)) = 0 then (h_g (h_in (I3 t 10) 24) <| h_let (h_u I3 (t + 8) (I3 t 10).toNatClampNeg v3x1) fun I5 => h_let (h_u I5 t 10 ((I5 t 10) + (1 : Int32))) fun I6 => some I6) else some I3) = _
  have e2 : h_u I4 st 1 (nI py) t 10 = nI py := by rw [hu_fr (by omega)]; exact e10
  have e3 : h_u (h_u I4 st 1 (nI py)) (t + 8) py v t 10 = nI py := by rw [hu_fr (by omega)]; exact e2
  rw [hl_eq, hl_eq, e10, e2, oo, if_pos (show nI 0 = (0 : Int32) from rfl), hg_in _ (by omega) (by omega), hl_eq, hl_eq, nI_clamp (by omega), e3, e1s]
/-- out -/
theorem st_out {kdE : tkK T N p = 265} (ht : 61 ≤ t) (h0 : tkP T N n p 0 Ic Im) (hok : okS T N t g dd p s a pk k q cc Ic Im) (hs : s < 24) {Ic1 Im1 : hI} (h : tkP T N n p 0 Ic1 Im1) (ho : opQ t s a (tkK T N p) Ic Im Ic1 Im1) (rec : Nat → Int32 → Int32 → hI → Option (Int32 × hI)) (rec2 : hI → Option (Int32 × hI)) : ∃ (v w : Int32) (Ic' Im' : hI) (p' e' : Nat), ((mRd_next Ic1).bind fun q4 => swC rec t (t + 9 + a) (nI dd) (nI cc) (nI (tkK T N p)) q4) = some (v, Ic') ∧ rsM rec2 (nI s) Im1 = some (w, Im') ∧ smR T N n t g dd p s a k q e' p' v w Ic Im Ic' Im' := by
  have hp := (tk_kd h).2 (by omega)
  obtain ⟨⟨o7, o3, o0, o24, o15⟩, f1, f2⟩ := ho
  obtain ⟨Ic2, Im2, q1, q2, q3, q4, q5⟩ := next_both h hp
  have ok := hok
  obtain ⟨⟨⟨p3, p7, p24⟩, ⟨p8, p25⟩, ⟨p9, p10⟩, ⟨p15, p16, p11⟩, ps, ppk, pk100, pq⟩, hag, hcc, h31, h30, hA5⟩ := ok
  have m9 : h_u Im2 9 s (nI 6) 9 s = nI 6 := h_u_at _ _ _ _
  refine ⟨nI cc, nI s, Ic2, h_u Im2 9 s (nI 6), p + 1, 0, ?_, ?_, simple_fin (kd := 6) (wh := 0) (q' := q) ht hok hs h0 (tkP_of q3 (fun _ _ => rfl) (fun _ _ _ _ => rfl) (fun i _ _ => hu_fr (by omega)) (fun i => hu_fr (by omega))) (by omega) (fun c i w1 w2 w3 w4 w5 w6 => by rw [q4 c i (by omega), f1 c i (by omega) (by omega)]) (fun c i w1 w2 w3 w4 => by rw [hu_fr (by omega), q5 c i (by omega), f2 c i (by omega) (by omega)]) (by rw [q4 t 3 (by omega)]; exact o3) (by rw [q4 t 7 (by omega)]; exact o7) (by rw [hu_fr (by omega), q5 0 24 (by omega)]; exact o24) (by rw [q4 t 8 (by omega), f1 t 8 (by omega) (by omega)]) (by rw [hu_fr (by omega), q5 0 25 (by omega), f2 0 25 (by omega) (by omega)]) m9 (by rw [q4 t 9 (by omega), f1 t 9 (by omega) (by omega)]) (by rw [q4 t 10 (by omega), f1 t 10 (by omega) (by omega), p10]; rfl) (by rw [q4 (t + 1) 5 (by omega), f1 (t + 1) 5 (by omega) (by omega)]) (by rw [hu_fr (by omega), q5 0 16 (by omega), f2 0 16 (by omega) (by omega)]) (by rw [hu_fr (by omega), q5 0 11 (by omega), f2 0 11 (by omega) (by omega)]; exact p11) (by omega) (by rw [hu_fr (by omega), q5 0 31 (by omega), f2 0 31 (by omega) (by omega)]) (by rw [hu_fr (by omega), q5 0 30 (by omega), f2 0 30 (by omega) (by omega)]) (by omega) ⟨by omega, m9, by rw [q4 _ 0 (by omega), o0, kdE]; rfl, fun w => by omega, fun w => by omega, fun w => by omega, fun w => by omega⟩ (by rw [hu_fr (by omega), q5 15 s (by omega)]; exact o15)⟩
  · rw [q1, Option.bind_some, kdE]
    unfold swC
    rw [if_neg (by decide), if_neg (by decide), if_neg (by decide), if_neg (by decide), if_neg (by decide), if_neg (by decide), if_neg (by decide)]
  · unfold rsM
    rw [tw_y h (j := 7) (by omega) kdE q2, Option.bind_some, if_neg (pr1 _)]
    try dsimp only
    rw [hg_in _ (by omega) (by omega), hl_eq, nI_clamp (by omega), li_6]
/-- pay -/
theorem st_pay {kdE : tkK T N p = 261} (ht : 61 ≤ t) (h0 : tkP T N n p 0 Ic Im) (hok : okS T N t g dd p s a pk k q cc Ic Im) (hs : s < 24) {Ic1 Im1 : hI} (h : tkP T N n p 0 Ic1 Im1) (ho : opQ t s a (tkK T N p) Ic Im Ic1 Im1) (rec : Nat → Int32 → Int32 → hI → Option (Int32 × hI)) (rec2 : hI → Option (Int32 × hI)) : ∃ (v w : Int32) (Ic' Im' : hI) (p' e' : Nat), ((mRd_next Ic1).bind fun q4 => swC rec t (t + 9 + a) (nI dd) (nI cc) (nI (tkK T N p)) q4) = some (v, Ic') ∧ rsM rec2 (nI s) Im1 = some (w, Im') ∧ smR T N n t g dd p s a k q e' p' v w Ic Im Ic' Im' := by
  have hp := (tk_kd h).2 (by omega)
  obtain ⟨⟨o7, o3, o0, o24, o15⟩, f1, f2⟩ := ho
  obtain ⟨Ic2, Im2, q1, q2, q3, q4, q5⟩ := next_both h hp
  have ok := hok
  obtain ⟨⟨⟨p3, p7, p24⟩, ⟨p8, p25⟩, ⟨p9, p10⟩, ⟨p15, p16, p11⟩, ps, ppk, pk100, pq⟩, hag, hcc, h31, h30, hA5⟩ := ok
  have cle := ctK_le Im 2 s
  obtain ⟨py, hpy⟩ : ∃ x, x = ctK Im 2 s := ⟨_, rfl⟩
  rw [← hpy] at cle p10
  have q3' : tkP T N n (p + 1) 0 Ic2 (h_u Im2 9 s (nI 2)) := tkP_of q3 (fun _ _ => rfl) (fun _ _ _ _ => rfl) (fun i _ _ => hu_fr (by omega)) (fun i => hu_fr (by omega))
  obtain ⟨v, Ic4, Im4, p4, e4, x1, x2, x3, x4, x5, x6, xp, x7⟩ := number_both q3' (lo := 0) (hi := 20) (by omega) (by omega)
  have e10 : Ic4 t 10 = nI py := by rw [x5 t 10 (by omega), q4 t 10 (by omega), f1 t 10 (by omega) (by omega)]; exact p10
  obtain ⟨J, hJ⟩ : ∃ J, J = h_u (h_u (h_u Ic4 (t + 9 + a) 1 (nI py)) (t + 8) py (nI v)) t 10 (nI (py + 1)) := ⟨_, rfl⟩
  have fJ : ∀ c i, (c ≠ t + 9 + a ∨ i ≠ 1) → (c ≠ t + 8 ∨ i ≠ py) → (c ≠ t ∨ i ≠ 10) → J c i = Ic4 c i := fun c i w1 w2 w3 => by rw [hJ, hu_fr (by omega), hu_fr (by omega), hu_fr (by omega)]
  obtain ⟨M, hM⟩ : ∃ J, J = h_u Im4 10 s (nI v) := ⟨_, rfl⟩
  have fM : ∀ c i, (c ≠ 10 ∨ i ≠ s) → M c i = Im4 c i := fun c i w => by rw [hM, hu_fr w]
  have gC : ∀ c i, (c ≠ 1 ∨ i < 6 ∨ 11 < i) → (c ≠ t + 9 + a ∨ (i ≠ 0 ∧ i ≠ 1)) → (c ≠ t + 8 ∨ i ≠ py) → (c ≠ t ∨ (i ≠ 3 ∧ i ≠ 7 ∧ i ≠ 10)) → J c i = Ic c i := fun c i w1 w2 w3 w4 => by rw [fJ c i (by omega) (by omega) (by omega), x5 c i (by omega), q4 c i (by omega), f1 c i (by omega) (by omega)]
  have gM : ∀ c i, (c ≠ 0 ∨ i < 3 ∨ (7 < i ∧ i ≠ 24)) → ((c ≠ 9 ∧ c ≠ 10 ∧ c ≠ 13 ∧ c ≠ 14 ∧ c ≠ 15) ∨ i ≠ s) → M c i = Im c i := fun c i w1 w2 => by rw [fM c i (by omega), x6 c i (by omega), hu_fr (by omega), q5 c i (by omega), f2 c i (by omega) (by omega)]
  have m9 : M 9 s = nI 2 := by rw [fM 9 s (by omega), x6 9 s (by omega), h_u_at]
  have tC : ((mRd_next Ic1).bind fun q4 => swC rec t (t + 9 + a) (nI dd) (nI cc) (nI (tkK T N p)) q4) = some (nI cc, J) := by
    rw [q1, Option.bind_some, kdE]
    unfold swC
    rw [if_neg (by decide), if_neg (by decide), if_neg (by decide), if_pos (by decide)]
    rw [lt_pay (v := nI v) x1 e10 (by omega) (by omega), Option.bind_some, ← hJ]
  have tM : rsM rec2 (nI s) Im1 = some (nI s, M) := by
    unfold rsM
    rw [tw_n h (j := 7) (by omega) (fun w => by omega), Option.bind_some, if_pos (pr0 _)]
    try dsimp only
    rw [tw_y h (j := 3) (by omega) kdE q2, Option.bind_some, if_neg (pr1 _)]
    try dsimp only
    rw [hg_in _ (by omega) (by omega), hl_eq, nI_clamp (by omega), li_0, li_2, li_20]
    try dsimp only
    rw [x2, Option.bind_some, hg_in _ (by omega) (by omega), hl_eq, ← hM]
  have hT : tkP T N n p4 e4 J M := tkP_of x4 (fun i _ => fJ 1 i (by omega) (by omega) (by omega)) (fun c i _ _ => fJ c i (by omega) (by omega) (by omega)) (fun i _ _ => fM 0 i (by omega)) (fun i => fM 1 i (by omega))
  have hFC : FC t a k (ctK Im 2 s) Ic J := fun c i w1 w2 w3 w4 w5 w6 => gC c i w1 (by omega) (by omega) (by omega)
  have hFM : FM s k q Im M := fun c i w1 w2 w3 w4 => gM c i (by omega) (by omega)
  have j3 : J t 3 = nI (a + 1) := by rw [fJ t 3 (by omega) (by omega) (by omega), x5 t 3 (by omega), q4 t 3 (by omega)]; exact o3
  refine ⟨nI cc, nI s, J, M, p4, e4, tC, tM, ?_⟩
  by_cases he : e4 = 0
  · subst he
    obtain ⟨_, _, y3, y4⟩ := x7 rfl
    have c2 := ct_next (Im := Im) (Im' := M) (s := s) (kk := 2) (kd := 2) (fun y hy => hFM 9 y (by omega) (by omega) (by omega) (by omega)) m9 (by omega) (by omega)
    have c2' : ctK M 2 s = py := by rw [hpy]; exact ctK_congr s (fun y hy => hFM 9 y (by omega) (by omega) (by omega) (by omega))
    rw [← hpy, if_pos rfl] at c2
    refine simple_fin (kd := 2) (wh := py) (q' := q) ht hok hs h0 hT (by omega) hFC hFM j3 ?_ ?_ (gC t 8 (by omega) (by omega) (by omega) (by omega)) (gM 0 25 (by omega) (by omega)) m9 (gC t 9 (by omega) (by omega) (by omega) (by omega)) ?_ (gC (t + 1) 5 (by omega) (by omega) (by omega) (by omega)) (gM 0 16 (by omega) (by omega)) (by rw [gM 0 11 (by omega) (by omega)]; exact p11) (by omega) (gM 0 31 (by omega) (by omega)) (gM 0 30 (by omega) (by omega)) (by omega) ⟨by omega, m9, ?_, fun w => by omega, fun _ => ⟨c2'.symm, by rw [c2]; omega, ?_, v, by omega, ?_, ?_⟩, fun w => by omega, fun w => by omega⟩ ?_
    · rw [fJ t 7 (by omega) (by omega) (by omega), x5 t 7 (by omega), q4 t 7 (by omega)]; exact o7
    · rw [fM 0 24 (by omega), x6 0 24 (by omega), hu_fr (by omega), q5 0 24 (by omega)]; exact o24
    · rw [hJ, h_u_at, ← hpy]; rfl
    · rw [fJ _ 0 (by omega) (by omega) (by omega), x5 _ 0 (by omega), q4 _ 0 (by omega), o0, kdE]; rfl
    · rw [hJ, hu_fr (by omega), hu_fr (by omega), h_u_at]
    · rw [hJ, hu_fr (by omega), h_u_at]
    · rw [hM, h_u_at]
    · rw [fM 15 s (by omega), x6 15 s (by omega), hu_fr (by omega), q5 15 s (by omega)]; exact o15
  · exact ⟨hT, by omega, GC_of hFC, hFM, ⟨a + 1, by omega, j3⟩, fun w => absurd w he⟩
end Sy
