/-! What holds between the two sides from call to call. -/
/-- a kept GUESS -/
def pkR (t x : Nat) (Ic Im : hI) : Prop := ∃ (l by1 : Nat) (u : Nat → Int), (750 ≤ l ∧ l < 1000) ∧ Im 22 x = nI l ∧ smQ l u Im ∧ Ic (t + 7) x = iI (u 1) ∧ Ic (t + 8) x = iI (u 2) ∧ Ic (t + 9) x = iI (u 0) ∧ (1 ≤ by1 ∧ by1 ≤ 12) ∧ Ic (t + 10) x = nI by1 ∧ Im 23 x = nI by1
def ckG (t x : Nat) (Ic Im : hI) : Prop := ∃ c2 c3, c2 < c3 ∧ c3 ≤ 166 ∧ Ic (t + 11) x = nI c2 ∧ Ic (t + 12) x = nI c3 ∧ Im 20 x = nI (750 + c2) ∧ Im 21 x = nI (750 + c3) ∧ cnR 750 (t + 1) 1000 c2 c3 Ic Im ∧ Ic (t + 6) c2 = nI 1
def gkP (t J : Nat) (Ic Im : hI) : Prop := (1 ≤ J ∧ J ≤ 8) ∧ (Ic t 7 = nI J ∧ Im 0 47 = nI J) ∧ (∀ x, x < J → pkR t x Ic Im) ∧ (∀ x, x + 1 < J → ckG t x Ic Im) ∧ Im 20 (J - 1) = Im 21 (J - 1)
theorem gkP_of {t J : Nat} {Ic Im Ic' Im' : hI} (h : gkP t J Ic Im) (hc : ∀ c i, t ≤ c → c < t + 13 → Ic' c i = Ic c i) (hm : ∀ c i, 2 ≤ c → c ≤ 8 → 750 ≤ i → Im' c i = Im c i) (hp : ∀ c i, 20 ≤ c → c ≤ 23 → Im' c i = Im c i) (h0 : Im' 0 47 = Im 0 47) : gkP t J Ic' Im' := by
  obtain ⟨a1, ⟨a2, a3⟩, a4, a5, a6⟩ := h
  refine ⟨a1, ⟨by rw [hc t 7 (by omega) (by omega)]; exact a2, by rw [h0]; exact a3⟩, fun x hx => ?_, fun x hx => ?_, by rw [hp 20 _ (by omega) (by omega), hp 21 _ (by omega) (by omega)]; exact a6⟩
  · obtain ⟨l, by1, u, b1, b2, b3, b4, b5, b6, b7, b8, b9⟩ := a4 x hx
    exact ⟨l, by1, u, b1, by rw [hp 22 x (by omega) (by omega)]; exact b2, smQ_of b3 (fun c q1 q2 => hm c l q1 (by omega) b1.1), by rw [hc _ x (by omega) (by omega)]; exact b4, by rw [hc _ x (by omega) (by omega)]; exact b5, by rw [hc _ x (by omega) (by omega)]; exact b6, b7, by rw [hc _ x (by omega) (by omega)]; exact b8, by rw [hp 23 x (by omega) (by omega)]; exact b9⟩
  · obtain ⟨c2, c3, b1, b2, b3, b4, b5, b6, b7, b8⟩ := a5 x hx
    exact ⟨c2, c3, b1, b2, by rw [hc _ x (by omega) (by omega)]; exact b3, by rw [hc _ x (by omega) (by omega)]; exact b4, by rw [hp 20 x (by omega) (by omega)]; exact b5, by rw [hp 21 x (by omega) (by omega)]; exact b6, cnR_of b7 (Nat.le_refl _) (fun c i q1 q2 q3 q4 => hc c i (by omega) (by omega)) (fun c i q1 q2 q3 q4 => hm c i (by omega) (by omega) (by omega)) (fun c i q1 q2 q3 q4 => hm c i q1 (by omega) (by omega)), by rw [hc _ _ (by omega) (by omega)]; exact b8⟩
def yOf (t : Nat) (I : hI) : cE := fun r k => (I (t + 7 + r) k).toInt
def fOf (t J : Nat) (I : hI) : rD := fun r k => if r = 0 then J else if r = 1 then (I (t + 11) k).toNatClampNeg else (I (t + 12) k).toNatClampNeg
theorem gk_vals {t J : Nat} {Ic Im : hI} (h : gkP t J Ic Im) : gbP (fOf t J Ic) (yOf t Ic) (eOf (t + 1) Ic) ∧ gcP t (fOf t J Ic) (yOf t Ic) (eOf (t + 1) Ic) Ic ∧ gmP (fOf t J Ic) (yOf t Ic) (eOf (t + 1) Ic) Im := by
  obtain ⟨a1, ⟨a2, a3⟩, a4, a5, a6⟩ := h
  have eF : fOf t J Ic 0 0 = J := rfl
  have eY0 : ∀ k, yOf t Ic 0 k = (Ic (t + 7) k).toInt := fun _ => rfl
  have eY1 : ∀ k, yOf t Ic 1 k = (Ic (t + 8) k).toInt := fun _ => rfl
  have eY2 : ∀ k, yOf t Ic 2 k = (Ic (t + 9) k).toInt := fun _ => rfl
  have eY3 : ∀ k, yOf t Ic 3 k = (Ic (t + 10) k).toInt := fun _ => rfl
  have eF1 : ∀ k c2, Ic (t + 11) k = nI c2 → c2 < 200 → fOf t J Ic 1 k = c2 := fun k c2 q w => by
    show (Ic (t + 11) k).toNatClampNeg = c2
    rw [q, nI_clamp (by omega)]
  have eF2 : ∀ k c2, Ic (t + 12) k = nI c2 → c2 < 200 → fOf t J Ic 2 k = c2 := fun k c2 q w => by
    show (Ic (t + 12) k).toNatClampNeg = c2
    rw [q, nI_clamp (by omega)]
  refine ⟨⟨by rw [eF]; exact a1, fun k hk => ?_⟩, ⟨by rw [eF]; exact a2, fun k hk => ?_⟩, ⟨by rw [eF]; exact a3, fun k hk => ?_⟩⟩
  · rw [eF] at hk ⊢
    obtain ⟨l, by1, u, b1, b2, ⟨_, _, _, u0, u1, u2⟩, b4, b5, b6, b7, b8, b9⟩ := a4 k hk
    rw [eY0, eY1, eY2, eY3, b4, b5, b6, b8, iI_toInt (by omega) (by omega), iI_toInt (by omega) (by omega), iI_toInt (by omega) (by omega), nI_toInt (by omega)]
    refine ⟨by omega, by omega, by omega, by omega, fun q => ?_⟩
    obtain ⟨c2, c3, d1, d2, d3, d4, d5, d6, d7, d8⟩ := a5 k q
    rw [eF1 k c2 d3 (by omega), eF2 k c3 d4 (by omega)]
    exact ⟨d1, d2, cn_cb d7, opB_eOf (t := t + 1) (b := true) d8⟩
  · rw [eF] at hk ⊢
    rw [eY0, eY1, eY2, eY3]
    refine ⟨(iI_back _).symm, (iI_back _).symm, (iI_back _).symm, (iI_back _).symm, fun q => ?_⟩
    obtain ⟨c2, c3, d1, d2, d3, d4, d5, d6, d7, d8⟩ := a5 k q
    rw [eF1 k c2 d3 (by omega), eF2 k c3 d4 (by omega)]
    exact ⟨d3, d4, cn_cc d7⟩
  · rw [eF] at hk ⊢
    obtain ⟨l, by1, u, b1, b2, b3, b4, b5, b6, b7, b8, b9⟩ := a4 k hk
    have hb3 := b3
    obtain ⟨_, _, _, u0, u1, u2⟩ := hb3
    refine ⟨⟨l, u, b1.2, b2, b3, ?_, ?_, ?_⟩, ?_, fun q => ?_, fun q => ?_⟩
    · rw [eY2, b6, iI_toInt (by omega) (by omega)]
    · rw [eY0, b4, iI_toInt (by omega) (by omega)]
    · rw [eY1, b5, iI_toInt (by omega) (by omega)]
    · rw [eY3, iI_back, b8]; exact b9
    · obtain ⟨c2, c3, d1, d2, d3, d4, d5, d6, d7, d8⟩ := a5 k q
      rw [eF1 k c2 d3 (by omega), eF2 k c3 d4 (by omega)]
      exact ⟨d5, d6, cn_cm (by omega) d7⟩
    · have e : J - 1 = k := by omega
      rw [e] at a6
      exact a6
/-- what both sides hold, but for counts of refusals and what is kept of answers -/
def RsW (hl hg : Bool) (D : rD) (B : Bool × Bool) (Ic Im : hI) : Prop := (∃ T N, tpC T N Ic ∧ tpM T N Im) ∧ (flagG hg Ic Im ∧ (hg = false → Im 0 47 = nI 0) ∧ (hg = true → ∃ J, gkP (h_td B) J Ic Im)) ∧ flagL hl D Ic Im ∧ (hl = false → Im 0 41 = nI 0) ∧ (hl = true → ∃ (w h sz n np wt : Nat) (Q : rD) (bn : Nat → Nat), ksP (h_pr B) w h sz n np wt Q Ic Im ∧ bdQ np bn Ic Im ∧ (D 0 0 = w * h ∧ D 0 1 = w ∧ D 0 2 = h))
def caQ (D : rD) (Ic : hI) (Jc : hJ) (Im : hI) (Jm : hJ) : Prop := plB D Ic Jc Im Jm ∧ hzOk D Ic Jc ∧ coK D Ic Jc
def RelW : hRel := fun Ic Jc B Im Jm => ∃ (hl hg : Bool) (D : rD), RsW hl hg D B Ic Im ∧ refu Ic Im ∧ (hl = true → caQ D Ic Jc Im Jm)
theorem pr_ge (B : Bool × Bool) : (h_pr B = 61 ∧ h_sp B = 118) ∨ (h_pr B = 118 ∧ h_sp B = 61) := by
  obtain ⟨b1, b2⟩ := B
  cases b1
  · exact Or.inl ⟨rfl, rfl⟩
  · exact Or.inr ⟨rfl, rfl⟩
theorem td_ge (B : Bool × Bool) : (h_td B = 175 ∧ h_st B = 188) ∨ (h_td B = 188 ∧ h_st B = 175) := by
  obtain ⟨b1, b2⟩ := B
  cases b2
  · exact Or.inl ⟨rfl, rfl⟩
  · exact Or.inr ⟨rfl, rfl⟩
theorem bdQ_of {np : Nat} {bn : Nat → Nat} {Ic Im Ic' Im' : hI} (h : bdQ np bn Ic Im) (h1 : Ic' 0 13 = Ic 0 13 ∧ Ic' 0 14 = Ic 0 14) (h2 : ∀ k, Im' 24 k = Im 24 k) : bdQ np bn Ic' Im' := by
  obtain ⟨a1, a2, a3, a4, a5⟩ := h
  exact ⟨a1, a2, by rw [h1.1]; exact a3, by rw [h1.2]; exact a4, fun k hk => by rw [h2]; exact a5 k hk⟩
/-- it stays over an answer -/
theorem RsW_of {hl hg : Bool} {D : rD} {B : Bool × Bool} {Ic Im Ic' Im' : hI} (h : RsW hl hg D B Ic Im) (hc : ∀ c i, c ≠ 60 → c ≠ 6 → (c < 13 ∨ 19 < c) → c ≠ 37 → c ≠ 38 → Ic' c i = Ic c i) (hm : ∀ c i, c ≠ 42 → c ≠ 30 → (c < 35 ∨ 39 < c) → (c ≠ 0 ∨ (1 ≤ i ∧ i ≤ 52)) → Im' c i = Im c i) : RsW hl hg D B Ic' Im' := by
  obtain ⟨⟨T, N, a1, a2⟩, ⟨⟨a3, a4⟩, a5, a6⟩, ⟨a7, a8, a9⟩, a10, a11⟩ := h
  have hpr := pr_ge B
  have htd := td_ge B
  refine ⟨⟨T, N, tpC_of a1 (hc 1 1 (by omega) (by omega) (by omega) (by omega) (by omega)) (fun i => hc 2 i (by omega) (by omega) (by omega) (by omega) (by omega)), tpM_of a2 (hm 0 2 (by omega) (by omega) (by omega) (by omega)) (fun i => hm 1 i (by omega) (by omega) (by omega) (by omega))⟩, ⟨⟨by rw [hc 0 12 (by omega) (by omega) (by omega) (by omega) (by omega)]; exact a3, by rw [hm 0 38 (by omega) (by omega) (by omega) (by omega)]; exact a4⟩, fun q => by rw [hm 0 47 (by omega) (by omega) (by omega) (by omega)]; exact a5 q, fun q => ?_⟩, ⟨by rw [hc 0 11 (by omega) (by omega) (by omega) (by omega) (by omega)]; exact a7, by rw [hm 0 37 (by omega) (by omega) (by omega) (by omega)]; exact a8, fun q => ?_⟩, fun q => by rw [hm 0 41 (by omega) (by omega) (by omega) (by omega)]; exact a10 q, fun q => ?_⟩
  · obtain ⟨J, hJ⟩ := a6 q
    exact ⟨J, gkP_of hJ (fun c i w1 w2 => hc c i (by omega) (by omega) (by omega) (by omega) (by omega)) (fun c i w1 w2 w3 => hm c i (by omega) (by omega) (by omega) (by omega)) (fun c i w1 w2 => hm c i (by omega) (by omega) (by omega) (by omega)) (hm 0 47 (by omega) (by omega) (by omega) (by omega))⟩
  · obtain ⟨b1, b2, b3⟩ := a9 q
    exact ⟨b1, cR_of b2 (fun c i w1 w2 => hc c i (by omega) (by omega) (by omega) (by omega) (by omega)), mR_of b3 (fun c i w1 w2 => hm c i (by omega) (by omega) (by omega) (by omega)) (fun i w1 w2 => hm 0 i (by omega) (by omega) (by omega) (by omega))⟩
  · obtain ⟨w, h, sz, n, np, wt, Q, bn, b1, b2, b3⟩ := a11 q
    exact ⟨w, h, sz, n, np, wt, Q, bn, ksP_of b1 (fun c i w1 w2 => hc c i (by omega) (by omega) (by omega) (by omega) (by omega)) (fun c i w1 w2 w3 w4 => hm c i (by omega) (by omega) (by omega) (by omega)) (fun c i w1 w2 w3 => hm c i (by omega) (by omega) (by omega) (by omega)) (fun i w1 w2 => hm 0 i (by omega) (by omega) (by omega) (by omega)), bdQ_of b2 ⟨hc 0 13 (by omega) (by omega) (by omega) (by omega) (by omega), hc 0 14 (by omega) (by omega) (by omega) (by omega) (by omega)⟩ (fun k => hm 24 k (by omega) (by omega) (by omega) (by omega)), b3⟩
theorem caQ_of {D : rD} (hD : rOk D) {Ic Ic' Im Im' : hI} {Jc Jc' Jm Jm' : hJ} (h : caQ D Ic Jc Im Jm) (h1 : Ic' 7 9 = Ic 7 9) (h2 : Ic' 13 1 = Ic 13 1) (h3 : ∀ i, Ic' 16 i = Ic 16 i) (h4 : ∀ i, Ic' 37 i = Ic 37 i) (h5 : Ic' 38 1 = Ic 38 1 ∧ Ic' 38 2 = Ic 38 2) (h6 : ∀ c i, (c = 14 ∨ c = 15 ∨ (33 ≤ c ∧ c ≤ 36) ∨ (50 ≤ c ∧ c < 60)) → Jc' c i = Jc c i) (h7 : Im' 0 67 = Im 0 67) (h8 : ∀ i, Im' 35 i = Im 35 i) (h9 : ∀ c i, 31 ≤ c → c ≤ 34 → Jm' c i = Jm c i) : caQ D Ic' Jc' Im' Jm' := by
  obtain ⟨⟨a1, a2⟩, a3, a4⟩ := h
  refine ⟨⟨by rw [h1]; exact a1, fun q => ⟨plRdy_of (a2 q).1 h2 h3 (fun i => ⟨h6 14 i (by omega), h6 15 i (by omega)⟩), plMR_of (a2 q).2 h7 h8 h9⟩⟩, hzOk_of a3 h4 (fun c i q1 q2 => h6 c i (by omega)), ?_⟩
  rcases a4 with a4 | ⟨a4, a5⟩
  · exact Or.inl (by rw [h5.1]; exact a4)
  · exact Or.inr ⟨by rw [h5.1]; exact a4, kpQ_of hD a5 h5.2 (fun c i q1 q2 => h6 c i (by omega))⟩
section Rw
variable {hl hg : Bool} {D : rD} {B : Bool × Bool} {Ic Im : hI} {Jc Jm : hJ}
theorem rel_R {Ic' Im' : hI} (h : RsW hl hg D B Ic Im) (hca : hl = true → caQ D Ic Jc Im Jm) (ho : onlyR Ic Ic' Im Im') : RelW Ic' Jc B Im' Jm := by
  refine ⟨hl, hg, D, RsW_of h (fun c i q1 _ _ _ _ => ho.1 c i q1) (fun c i q1 _ _ q4 => ho.2.1 c i q1 (by omega)), ho.2.2, fun q => ?_⟩
  have hD := (h.2.2.1.2.2 q).1
  exact caQ_of hD (hca q) (ho.1 7 9 (by omega)) (ho.1 13 1 (by omega)) (fun i => ho.1 16 i (by omega)) (fun i => ho.1 37 i (by omega)) ⟨ho.1 38 1 (by omega), ho.1 38 2 (by omega)⟩ (fun _ _ _ => rfl) (ho.2.1 0 67 (by omega) (by omega)) (fun i => ho.2.1 35 i (by omega) (by omega)) (fun _ _ _ _ => rfl)
theorem rel_P {Ic' Im' : hI} {Jc' Jm' : hJ} (h : RsW hl hg D B Ic Im) (hca : hl = true → caQ D Ic Jc Im Jm) (ho : onlyP Ic Ic' Jc Jc' Im Im' Jm Jm') (hp : hl = true → plB D Ic' Jc' Im' Jm') : RelW Ic' Jc' B Im' Jm' := by
  obtain ⟨o1, o2, o3, o4, o5⟩ := ho
  refine ⟨hl, hg, D, RsW_of h (fun c i q1 _ q3 _ _ => o1 c i q1 q3) (fun c i q1 q2 q3 q4 => o3 c i q1 q2 q3 (by omega)), o5, fun q => ⟨hp q, hzOk_of (hca q).2.1 (fun i => o1 37 i (by omega) (by omega)) (fun c i q1 q2 => o2 c i (by omega)), ?_⟩⟩
  have hD := (h.2.2.1.2.2 q).1
  rcases (hca q).2.2 with a4 | ⟨a4, a5⟩
  · exact Or.inl (by rw [o1 38 1 (by omega) (by omega)]; exact a4)
  · exact Or.inr ⟨by rw [o1 38 1 (by omega) (by omega)]; exact a4, kpQ_of hD a5 (o1 38 2 (by omega) (by omega)) (fun c i q1 q2 => o2 c i (by omega))⟩
theorem rel_W {Ic' Im' : hI} {Jc' Jm' : hJ} (h : RsW hl hg D B Ic Im) (hca : hl = true → caQ D Ic Jc Im Jm) (ho : onlyW hl D Ic Jc Im Jm Ic' Jc' Im' Jm') : RelW Ic' Jc' B Im' Jm' := by
  obtain ⟨Ic1, ⟨o1, o2, o3⟩, o4, o5, o6, o7⟩ := ho
  refine ⟨hl, hg, D, RsW_of h (fun c i q1 _ _ q4 _ => by rw [o4 c i q4, o1 c i q1]) (fun c i q1 _ _ q4 => o2 c i q1 (by omega)), fun i hi => by rw [o4 60 i (by omega)]; exact o3 i hi, fun q => ⟨?_, o7 q, ?_⟩⟩
  · obtain ⟨⟨a1, a2⟩, _, _⟩ := hca q
    exact ⟨by rw [o4 7 9 (by omega), o1 7 9 (by omega)]; exact a1, fun w => ⟨plRdy_of (a2 w).1 (by rw [o4 13 1 (by omega), o1 13 1 (by omega)]) (fun i => by rw [o4 16 i (by omega), o1 16 i (by omega)]) (fun i => ⟨o5 14 i (by omega), o5 15 i (by omega)⟩), plMR_of (a2 w).2 (o2 0 67 (by omega) (by omega)) (fun i => o2 35 i (by omega) (by omega)) (fun c i q1 q2 => o6 c i (by omega) (by omega))⟩⟩
  · have hD := (h.2.2.1.2.2 q).1
    rcases (hca q).2.2 with a4 | ⟨a4, a5⟩
    · exact Or.inl (by rw [o4 38 1 (by omega), o1 38 1 (by omega)]; exact a4)
    · exact Or.inr ⟨by rw [o4 38 1 (by omega), o1 38 1 (by omega)]; exact a4, kpQ_of hD a5 (by rw [o4 38 2 (by omega), o1 38 2 (by omega)]) (fun c i q1 q2 => o5 c i (by omega))⟩
theorem rel_B {Ic' Im' : hI} {Jc' Jm' : hJ} (h : RsW hl hg D B Ic Im) (hca : hl = true → caQ D Ic Jc Im Jm) (ho : onlyB Ic Ic' Jc Jc' Im Im' Jm Jm') (hp : hl = true → coK D Ic' Jc') : RelW Ic' Jc' B Im' Jm' := by
  obtain ⟨o1, o2, o3, o4, o5⟩ := ho
  refine ⟨hl, hg, D, RsW_of h (fun c i q1 _ _ _ q5 => o1 c i q1 q5) (fun c i q1 _ _ q4 => o3 c i q1 (by omega)), o5, fun q => ⟨?_, hzOk_of (hca q).2.1 (fun i => o1 37 i (by omega) (by omega)) (fun c i q1 q2 => o2 c i (by omega)), hp q⟩⟩
  obtain ⟨⟨a1, a2⟩, _, _⟩ := hca q
  exact ⟨by rw [o1 7 9 (by omega) (by omega)]; exact a1, fun w => ⟨plRdy_of (a2 w).1 (o1 13 1 (by omega) (by omega)) (fun i => o1 16 i (by omega) (by omega)) (fun i => ⟨o2 14 i (by omega), o2 15 i (by omega)⟩), plMR_of (a2 w).2 (o3 0 67 (by omega) (by omega)) (fun i => o3 35 i (by omega) (by omega)) (fun c i q1 q2 => o4 c i (by omega) (by omega))⟩⟩
theorem rel_U {Ic' Im' : hI} (h : RsW hl hg D B Ic Im) (hca : hl = true → caQ D Ic Jc Im Jm) (ho : onlyU Ic Ic' Im Im') : RelW Ic' Jc B Im' Jm := by
  obtain ⟨o1, o2, o3⟩ := ho
  refine ⟨hl, hg, D, RsW_of h (fun c i q1 q2 _ _ _ => o1 c i q1 q2) (fun c i q1 _ _ q4 => o2 c i q1 (by omega)), o3, fun q => ?_⟩
  have hD := (h.2.2.1.2.2 q).1
  exact caQ_of hD (hca q) (o1 7 9 (by omega) (by omega)) (o1 13 1 (by omega) (by omega)) (fun i => o1 16 i (by omega) (by omega)) (fun i => o1 37 i (by omega) (by omega)) ⟨o1 38 1 (by omega) (by omega), o1 38 2 (by omega) (by omega)⟩ (fun _ _ _ => rfl) (o2 0 67 (by omega) (by omega)) (fun i => o2 35 i (by omega) (by omega)) (fun _ _ _ _ => rfl)
theorem gH_ex (h : RsW hl hg D B Ic Im) : ∃ G, hl = true → hg = true → gH D G B Ic Im := by
  obtain ⟨_, ⟨_, _, a6⟩, ⟨_, _, a9⟩, _⟩ := h
  by_cases q : hg = true
  · obtain ⟨J, hJ⟩ := a6 q
    obtain ⟨v1, v2, v3⟩ := gk_vals hJ
    have hJ2 : gkP (h_td B) J Ic (h_u Im 0 0 (nI 0)) := gkP_of hJ (fun _ _ _ _ => rfl) (fun c i w1 w2 w3 => hu_fr (by omega)) (fun c i w1 w2 => hu_fr (by omega)) (hu_fr (by omega))
    refine ⟨gvS D (fOf (h_td B) J Ic) (yOf (h_td B) Ic) (eOf (h_td B + 1) Ic), fun q1 _ => ?_⟩
    obtain ⟨b1, b2, b3⟩ := a9 q1
    exact gH_of b1 b2 b3 v1 v2 (gk_vals hJ2).2.2
  · exact ⟨fun _ => 0, fun _ w => absurd w q⟩
/-- how many of a kind, told by the reference -/
theorem ok_L {n : Nat} {Q : rD} {I : hI} {kd : Nat} (hk : kd ≤ 6) (hn : n ≤ 24) (h42 : I 0 42 = nI n) (h9 : ∀ x, x < n → I 9 (24 + x) = nI (Q 0 x) ∧ Q 0 x ≤ 6) : ∀ (r x fuel : Nat), x + r = n → r < fuel → mM_ofKind_L4 fuel (nI kd) (nI (ctQ Q kd x)) (nI x) I = some (nI (ctQ Q kd n)) := by
  intro r
  induction r with
  | zero =>
    intro x fuel hx hf
    obtain ⟨fuel, rfl⟩ : ∃ m, fuel = m + 1 := ⟨fuel - 1, by omega⟩
    obtain rfl : x = n := by omega
    show mM_ofKind_B4 (mM_ofKind_L4 fuel) _ _ _ _ = _
    unfold mM_ofKind_B4
    rw [h42, if_pos ((nI_leI (by omega) (by omega)).mpr (Nat.le_refl _))]
  | succ r ih =>
    intro x fuel hx hf
    obtain ⟨fuel, rfl⟩ : ∃ m, fuel = m + 1 := ⟨fuel - 1, by omega⟩
    obtain ⟨g1, g2⟩ := h9 x (by omega)
    have hle := ctQ_le Q kd x
    have go := ih (x + 1) fuel (by omega) (by omega)
    show mM_ofKind_B4 (mM_ofKind_L4 fuel) _ _ _ _ = _
    unfold mM_ofKind_B4
    rw [h42, if_neg (fun w => by have := (nI_leI (by omega) (by omega)).mp w; omega), li_24, nI_add, hg_in _ (by omega) (by omega), nI_clamp (by omega), g1, hl_eq, hl_eq, li_0, li_1, nI_add, nI_add, nI_add]
    rw [ctQ] at go
    by_cases c : Q 0 x = kd
    · rw [if_pos (by rw [c])]
      rw [if_pos c] at go
      exact go
    · rw [if_neg (fun w => c ((nI_eq (by omega) (by omega)).mp w))]
      rw [if_neg c] at go
      exact go
theorem ofKind_m {t w h sz n np wt : Nat} {Q : rD} (H : ksP t w h sz n np wt Q Ic Im) {kd : Nat} (hk : kd ≤ 6) {Im' : hI} (h0 : Im' 0 42 = Im 0 42) (h9 : ∀ i, Im' 9 i = Im 9 i) : mM_ofKind (nI kd) Im' = some (nI (ctQ Q kd n)) := by
  obtain ⟨_, ⟨_, _, d6, _⟩, _, ⟨_, _, _, m42, _⟩, _, hx⟩ := H
  unfold mM_ofKind
  rw [li_0]
  exact ok_L hk d6 (by rw [h0]; exact m42) (fun x hxn => ⟨by rw [h9]; exact (hx x hxn).1.1.2.1, (hx x hxn).1.1.1⟩) n 0 hF (by omega) (by unfold hF; omega)
end Rw
