/-! The program that both sides keep. -/
/-- how many statements of a kind, by Q -/
def ctQ (Q : rD) (kd : Nat) : Nat → Nat
  | 0 => 0
  | x + 1 => ctQ Q kd x + (if Q 0 x = kd then 1 else 0)
theorem ctQ_le (Q : rD) (kd : Nat) : ∀ x, ctQ Q kd x ≤ x := by
  intro x
  induction x with
  | zero => exact Nat.le_refl _
  | succ x ih => rw [ctQ]; split <;> omega
/-- a kept statement and its step -/
def kdQ (t st kd wh c2 c3 x : Nat) (Ic Im : hI) : Prop := kd ≤ 6 ∧ Im 9 (24 + x) = nI kd ∧ Ic (t + 9 + st) 0 = nI (kcN kd) ∧ (kd ≤ 1 → ∃ (l : Nat) (u : Nat → Int), (500 ≤ l ∧ l < 750) ∧ Im 10 (24 + x) = nI l ∧ smQ l u Im ∧ Ic (t + 9 + st) 3 = iI (u 1) ∧ Ic (t + 9 + st) 4 = iI (u 2) ∧ Ic (t + 9 + st) 5 = iI (u 0)) ∧ (kd = 2 → wh < 24 ∧ Ic (t + 9 + st) 1 = nI wh ∧ ∃ v, v ≤ 20 ∧ Ic (t + 8) wh = nI v ∧ Im 10 (24 + x) = nI v) ∧ (kd = 4 → wh < 3 ∧ Ic (t + 9 + st) 1 = nI wh ∧ Im 10 (24 + x) = nI wh) ∧ (kd = 5 → Ic (t + 9 + st) 6 = nI c2 ∧ Ic (t + 9 + st) 7 = nI c3 ∧ Im 11 (24 + x) = nI (500 + c2) ∧ Im 12 (24 + x) = nI (500 + c3) ∧ c2 < c3 ∧ c3 ≤ 166 ∧ cnR 500 (t + 1) 750 c2 c3 Ic Im ∧ Ic (t + 6) c2 = nI 1)
def skQ (t : Nat) (Q : rD) (x : Nat) (Ic Im : hI) : Prop := kdQ t (Q 4 x) (Q 0 x) (Q 1 x) (Q 2 x) (Q 3 x) x Ic Im ∧ Q 4 x < 48 ∧ ((3 ≤ Q 0 x ∧ Q 0 x ≤ 5) → (1 ≤ Q 5 x ∧ Q 5 x ≤ 48) ∧ Ic (t + 9 + Q 4 x) 2 = nI (Q 5 x) ∧ Ic (t + 9 + (Q 5 x - 1)) 0 = nI 300 ∧ Ic (t + 9 + (Q 5 x - 1)) 2 = nI (Q 6 x) ∧ Im 13 (24 + x) = ptI 24 (Q 7 x) ∧ Im 14 (24 + x) = ptI 24 (Q 8 x)) ∧ Im 15 (24 + x) = ptI 24 (Q 9 x)
def ksP (t w h sz n np wt : Nat) (Q : rD) (Ic Im : hI) : Prop := ((1 ≤ w ∧ w ≤ 10) ∧ (1 ≤ h ∧ h ≤ 10) ∧ w * h ≤ 10) ∧ ((∃ f0, bodyOk Q f0 6 0 n 0 sz) ∧ sz ≤ 48 ∧ n ≤ 24 ∧ np ≤ 3) ∧ (Ic t 3 = nI sz ∧ Ic t 4 = nI (w - 1) ∧ Ic t 5 = nI (h - 1) ∧ Ic t 6 = nI wt ∧ Ic t 7 = nI n ∧ Ic t 8 = nI np ∧ Ic t 9 = nI (ctQ Q 3 n) ∧ Ic t 10 = nI (ctQ Q 2 n)) ∧ (Im 0 39 = nI w ∧ Im 0 40 = nI h ∧ Im 0 41 = nI (w * h) ∧ Im 0 42 = nI n ∧ Im 0 43 = nI np ∧ Im 0 44 = nI 500 ∧ Im 0 45 = nI (500 + wt) ∧ Im 0 46 = ptI 24 (ptN 0 n)) ∧ ((0 < wt ∧ wt ≤ 166) ∧ cnR 500 (t + 1) 750 0 wt Ic Im ∧ Ic (t + 6) 0 = nI 1) ∧ ∀ x, x < n → skQ t Q x Ic Im ∧ (Q 0 x = 2 → Q 1 x = ctQ Q 2 x)
/-- comparisons by the class's memory -/
def eOf (t : Nat) (I : hI) : cE := fun r k => if r = 4 then (if I (t + 5) k = nI 1 then 1 else 0) else (I (t + 1 + r) k).toInt
theorem iI_back (x : Int32) : iI x.toInt = x := Int32.ofInt_toInt x
theorem opB_eOf {t k : Nat} {I : hI} {b : Bool} (h : I (t + 5) k = bI b) : opB (eOf t I) k = b := by
  have e : eOf t I 4 k = if I (t + 5) k = nI 1 then 1 else 0 := rfl
  unfold opB
  rw [e, h]
  cases b <;> decide
theorem cn_cc {o t q a b : Nat} {Ic Im : hI} (h : cnR o t q a b Ic Im) : ccQ t (eOf t Ic) a b Ic := by
  intro k q1 q2
  obtain ⟨l, r, rel, u, v, b', _, _, _, _, _, _, _, _, _, _, _, _, b13⟩ := h.1 k q1 q2
  exact ⟨(iI_back _).symm, (iI_back _).symm, (iI_back _).symm, (iI_back _).symm, by rw [opB_eOf b13]; exact b13⟩
theorem cn_cb {o t q a b : Nat} {Ic Im : hI} (h : cnR o t q a b Ic Im) : cbQ (eOf t Ic) a b := by
  intro k q1 q2
  obtain ⟨l, r, rel, u, v, b', _, _, _, _, ⟨_, _, _, u0, u1, u2⟩, ⟨_, _, _, v0, v1, v2⟩, b7, b8, b9, b10, b11, _, _⟩ := h.1 k q1 q2
  have e0 : eOf t Ic 0 k = (Ic (t + 1) k).toInt := rfl
  have e1 : eOf t Ic 1 k = (Ic (t + 2) k).toInt := rfl
  have e2 : eOf t Ic 2 k = (Ic (t + 3) k).toInt := rfl
  have e3 : eOf t Ic 3 k = (Ic (t + 4) k).toInt := rfl
  rw [e0, e1, e2, e3, b7, b8, b9, b11, iI_toInt (by omega) (by omega), iI_toInt (by omega) (by omega), iI_toInt (by omega) (by omega), nI_toInt (by omega)]
  omega
theorem cn_cm {o t q a b : Nat} {Ic Im : hI} (hq : q ≤ 1000) (h : cnR o t q a b Ic Im) : cmQ o (eOf t Ic) a b Im := by
  intro k q1 q2
  obtain ⟨l, r, rel, u, v, b', b1, b2, b3, b4, b5, b6, b7, b8, b9, b10, b11, b12, b13⟩ := h.1 k q1 q2
  have e0 : eOf t Ic 0 k = (Ic (t + 1) k).toInt := rfl
  have e1 : eOf t Ic 1 k = (Ic (t + 2) k).toInt := rfl
  have e2 : eOf t Ic 2 k = (Ic (t + 3) k).toInt := rfl
  have e3 : eOf t Ic 3 k = (Ic (t + 4) k).toInt := rfl
  have hu := b5
  have hv := b6
  obtain ⟨_, _, _, u0, u1, u2⟩ := b5
  obtain ⟨_, _, _, v0, v1, v2⟩ := b6
  refine ⟨l, r, u, v, by omega, by omega, b3, b4, hu, hv, ?_, ?_, ?_, ?_, ?_⟩
  · rw [e0, b7, iI_toInt (by omega) (by omega)]
  · rw [e1, b8, iI_toInt (by omega) (by omega)]
  · rw [e2, b9, iI_toInt (by omega) (by omega)]
  · rw [e3, b11, b12, nI_toInt (by omega)]
    rfl
  · by_cases c : k + 1 = b
    · have e : b - 1 = k := by omega
      have := h.2.2 (by omega)
      rw [e] at this
      rw [this, decide_eq_true c]
      rfl
    · obtain ⟨_, _, _, _, _, b'', _, _, _, _, _, _, _, _, _, _, _, _, c13⟩ := h.1 (k + 1) (by omega) (by omega)
      rw [h.2.1 k q1 (by omega), decide_eq_false c, opB_eOf c13, c13, Bool.false_or]
/-- the sums, the prices by the class's memory -/
def pOf (t : Nat) (Q : rD) (I : hI) : cE := fun r s => if Q 0 s ≤ 1 then (I (t + 9 + Q 4 s) (3 + r)).toInt else 0
def prOf (t : Nat) (I : hI) : Nat → Int := fun w => (I (t + 8) w).toInt
theorem pg_of {t w h sz n np wt : Nat} {Q : rD} {bn : Nat → Nat} {Ic Im : hI} (ht : 61 ≤ t) (H : ksP t w h sz n np wt Q Ic Im) (hb : bdQ np bn Ic Im) : pgQ t w h sz n np wt Q (pOf t Q Ic) (eOf (t + 1) Ic) (prOf t Ic) bn Ic Im := by
  obtain ⟨⟨d1, d2, d3⟩, ⟨d4, d5, d6, d7⟩, ⟨c3, c4, c5, c6, c7, c8, c9, c10⟩, ⟨m39, m40, m41, m42, m43, m44, m45, m46⟩, ⟨w1, w2, w3⟩, hx⟩ := H
  have op0 : opB (eOf (t + 1) Ic) 0 = true := opB_eOf (t := t + 1) (b := true) w3
  have eP : ∀ r s, Q 0 s ≤ 1 → pOf t Q Ic r s = (Ic (t + 9 + Q 4 s) (3 + r)).toInt := fun r s q => if_pos q
  have eP0 : ∀ r s, ¬ Q 0 s ≤ 1 → pOf t Q Ic r s = 0 := fun r s q => if_neg q
  refine ⟨d4, d3, ⟨Im 0 58, by omega, d5, d1, d2, ⟨d6, fun s hs q => ?_, fun s hs => ?_⟩, ⟨fun s hs q => (iI_back _).symm, fun s hs => ?_⟩, fun s hs => ?_, c3, c4, c5, m39, m40, rfl⟩, ⟨w1, cn_cb w2, op0, cn_cc w2, c6, cn_cm (by omega) w2, m44, m45, m39⟩, hb, d7, c8, m43, m41, m46⟩
  · obtain ⟨⟨⟨a0, a1, a2, a3, a4, a5, a6⟩, _⟩, _⟩ := hx s hs
    obtain ⟨b1, b2, v, b3, b4, b5⟩ := a4 q
    have e : prOf t Ic (Q 1 s) = (Ic (t + 8) (Q 1 s)).toInt := rfl
    rw [e, b4, nI_toInt (by omega)]
    omega
  · obtain ⟨⟨⟨a0, a1, a2, a3, a4, a5, a6⟩, _⟩, _⟩ := hx s hs
    refine ⟨a0, fun q => (a4 q).1, fun q => (a5 q).1, ?_, fun q => ?_⟩
    · by_cases c : Q 0 s ≤ 1
      · obtain ⟨l, u, b1, b2, ⟨_, _, _, u0, u1, u2⟩, b4, b5, b6⟩ := a3 c
        have f0 : pOf t Q Ic 0 s = (Ic (t + 9 + Q 4 s) 3).toInt := eP 0 s c
        have f1 : pOf t Q Ic 1 s = (Ic (t + 9 + Q 4 s) 4).toInt := eP 1 s c
        have f2 : pOf t Q Ic 2 s = (Ic (t + 9 + Q 4 s) 5).toInt := eP 2 s c
        rw [f0, f1, f2, b4, b5, b6, iI_toInt (by omega) (by omega), iI_toInt (by omega) (by omega), iI_toInt (by omega) (by omega)]
        omega
      · rw [eP0 0 s c, eP0 1 s c, eP0 2 s c]
        omega
    · obtain ⟨b1, b2, b3, b4, b5, b6, b7, b8⟩ := a6 q
      exact ⟨b5, b6, cn_cb b7, opB_eOf (t := t + 1) (b := true) b8⟩
  · obtain ⟨⟨⟨a0, a1, a2, a3, a4, a5, a6⟩, g2, g3, g4⟩, _⟩ := hx s hs
    refine ⟨a2, fun q => ?_, fun q => ?_, fun q => ?_, fun q => ?_⟩
    · rw [eP 0 s q, eP 1 s q, eP 2 s q]
      exact ⟨(iI_back _).symm, (iI_back _).symm, (iI_back _).symm⟩
    · rcases q with q | q
      · exact (a4 q).2.1
      · exact (a5 q).2.1
    · obtain ⟨b1, b2, b3, b4, b5, b6, b7, b8⟩ := a6 q
      exact ⟨b1, b2, cn_cc b7⟩
    · obtain ⟨b0, b1, b2, b3, b4, b5⟩ := g3 q
      exact ⟨b1, b2, b3⟩
  · obtain ⟨⟨⟨a0, a1, a2, a3, a4, a5, a6⟩, g2, g3, g4⟩, _⟩ := hx s hs
    refine ⟨a1, fun q => ?_, fun q => ?_, fun q => (a5 q).2.2, fun q => ?_, fun q => ?_, g4⟩
    · obtain ⟨l, u, b1, b2, b3, b4, b5, b6⟩ := a3 q
      have e : 500 + (l - 500) = l := by omega
      have hbd := b3
      obtain ⟨_, _, _, u0, u1, u2⟩ := hbd
      have f0 : pOf t Q Ic 0 s = (Ic (t + 9 + Q 4 s) 3).toInt := eP 0 s q
      have f1 : pOf t Q Ic 1 s = (Ic (t + 9 + Q 4 s) 4).toInt := eP 1 s q
      have f2 : pOf t Q Ic 2 s = (Ic (t + 9 + Q 4 s) 5).toInt := eP 2 s q
      refine ⟨l - 500, u, by omega, by rw [e]; exact b2, by rw [e]; exact b3, ?_, ?_, ?_⟩
      · rw [f2, b6, iI_toInt (by omega) (by omega)]
      · rw [f0, b4, iI_toInt (by omega) (by omega)]
      · rw [f1, b5, iI_toInt (by omega) (by omega)]
    · obtain ⟨b1, b2, v, b3, b4, b5⟩ := a4 q
      have e : prOf t Ic (Q 1 s) = (Ic (t + 8) (Q 1 s)).toInt := rfl
      rw [e, iI_back, b4]
      exact b5
    · obtain ⟨b1, b2, b3, b4, b5, b6, b7, b8⟩ := a6 q
      exact ⟨b3, b4, cn_cm (by omega) b7⟩
    · obtain ⟨b0, b1, b2, b3, b4, b5⟩ := g3 q
      exact ⟨b4, b5⟩
/-- it stays, where its own cells stay -/
theorem ksP_of {t w h sz n np wt : Nat} {Q : rD} {Ic Im Ic' Im' : hI} (H : ksP t w h sz n np wt Q Ic Im) (hc : ∀ c i, t ≤ c → c < t + 57 → Ic' c i = Ic c i) (hm : ∀ c i, 2 ≤ c → c ≤ 8 → 500 ≤ i → i < 750 → Im' c i = Im c i) (hs : ∀ c i, 9 ≤ c → c ≤ 15 → 24 ≤ i → Im' c i = Im c i) (h0 : ∀ i, 39 ≤ i → i ≤ 46 → Im' 0 i = Im 0 i) : ksP t w h sz n np wt Q Ic' Im' := by
  obtain ⟨d, ⟨d4, d5, d6, d7⟩, ⟨c3, c4, c5, c6, c7, c8, c9, c10⟩, ⟨m39, m40, m41, m42, m43, m44, m45, m46⟩, ⟨w1, w2, w3⟩, hx⟩ := H
  have cn : ∀ a b, b ≤ 166 → cnR 500 (t + 1) 750 a b Ic Im → cnR 500 (t + 1) 750 a b Ic' Im' := fun a b hb H => cnR_of H (Nat.le_refl _) (fun c i q1 q2 q3 q4 => hc c i (by omega) (by omega)) (fun c i q1 q2 q3 q4 => hm c i (by omega) (by omega) (by omega) (by omega)) (fun c i q1 q2 q3 q4 => hm c i q1 (by omega) q3 q4)
  refine ⟨d, ⟨d4, d5, d6, d7⟩, ⟨by rw [hc t 3 (by omega) (by omega)]; exact c3, by rw [hc t 4 (by omega) (by omega)]; exact c4, by rw [hc t 5 (by omega) (by omega)]; exact c5, by rw [hc t 6 (by omega) (by omega)]; exact c6, by rw [hc t 7 (by omega) (by omega)]; exact c7, by rw [hc t 8 (by omega) (by omega)]; exact c8, by rw [hc t 9 (by omega) (by omega)]; exact c9, by rw [hc t 10 (by omega) (by omega)]; exact c10⟩, ⟨by rw [h0 39 (by omega) (by omega)]; exact m39, by rw [h0 40 (by omega) (by omega)]; exact m40, by rw [h0 41 (by omega) (by omega)]; exact m41, by rw [h0 42 (by omega) (by omega)]; exact m42, by rw [h0 43 (by omega) (by omega)]; exact m43, by rw [h0 44 (by omega) (by omega)]; exact m44, by rw [h0 45 (by omega) (by omega)]; exact m45, by rw [h0 46 (by omega) (by omega)]; exact m46⟩, ⟨w1, cn 0 wt w1.2 w2, by rw [hc _ 0 (by omega) (by omega)]; exact w3⟩, fun x hxn => ?_⟩
  obtain ⟨⟨⟨a0, a1, a2, a3, a4, a5, a6⟩, g2, g3, g4⟩, g5⟩ := hx x hxn
  refine ⟨⟨⟨a0, by rw [hs 9 _ (by omega) (by omega) (by omega)]; exact a1, by rw [hc _ 0 (by omega) (by omega)]; exact a2, fun q => ?_, fun q => ?_, fun q => ?_, fun q => ?_⟩, g2, fun q => ?_, by rw [hs 15 _ (by omega) (by omega) (by omega)]; exact g4⟩, g5⟩
  · obtain ⟨l, u, b1, b2, b3, b4, b5, b6⟩ := a3 q
    exact ⟨l, u, b1, by rw [hs 10 _ (by omega) (by omega) (by omega)]; exact b2, smQ_of b3 (fun c q1 q2 => hm c l q1 (by omega) b1.1 b1.2), by rw [hc _ 3 (by omega) (by omega)]; exact b4, by rw [hc _ 4 (by omega) (by omega)]; exact b5, by rw [hc _ 5 (by omega) (by omega)]; exact b6⟩
  · obtain ⟨b1, b2, v, b3, b4, b5⟩ := a4 q
    exact ⟨b1, by rw [hc _ 1 (by omega) (by omega)]; exact b2, v, b3, by rw [hc _ _ (by omega) (by omega)]; exact b4, by rw [hs 10 _ (by omega) (by omega) (by omega)]; exact b5⟩
  · obtain ⟨b1, b2, b3⟩ := a5 q
    exact ⟨b1, by rw [hc _ 1 (by omega) (by omega)]; exact b2, by rw [hs 10 _ (by omega) (by omega) (by omega)]; exact b3⟩
  · obtain ⟨b1, b2, b3, b4, b5, b6, b7, b8⟩ := a6 q
    exact ⟨by rw [hc _ 6 (by omega) (by omega)]; exact b1, by rw [hc _ 7 (by omega) (by omega)]; exact b2, by rw [hs 11 _ (by omega) (by omega) (by omega)]; exact b3, by rw [hs 12 _ (by omega) (by omega) (by omega)]; exact b4, b5, b6, cn _ _ b6 b7, by rw [hc _ _ (by omega) (by omega)]; exact b8⟩
  · obtain ⟨b0, b1, b2, b3, b4, b5⟩ := g3 q
    exact ⟨b0, by rw [hc _ 2 (by omega) (by omega)]; exact b1, by rw [hc _ 0 (by omega) (by omega)]; exact b2, by rw [hc _ 2 (by omega) (by omega)]; exact b3, by rw [hs 13 _ (by omega) (by omega) (by omega)]; exact b4, by rw [hs 14 _ (by omega) (by omega) (by omega)]; exact b5⟩
