/-! The guess's value at a state: both sides. -/
/-- a guess: F 0 0: how many pieces; F 1, F 2: where a piece's condition begins, ends; Y: by x, by y, plain, by what it is divided; E: the comparisons -/
def gcP (t : Nat) (F : rD) (Y E : cE) (I : hI) : Prop := I t 7 = nI (F 0 0) ∧ ∀ k, k < F 0 0 → I (t + 7) k = iI (Y 0 k) ∧ I (t + 8) k = iI (Y 1 k) ∧ I (t + 9) k = iI (Y 2 k) ∧ I (t + 10) k = iI (Y 3 k) ∧ (k + 1 < F 0 0 → I (t + 11) k = nI (F 1 k) ∧ I (t + 12) k = nI (F 2 k) ∧ ccQ (t + 1) E (F 1 k) (F 2 k) I)
def gmP (F : rD) (Y E : cE) (I : hI) : Prop := I 0 47 = nI (F 0 0) ∧ ∀ k, k < F 0 0 → (∃ l u, l < 1000 ∧ I 22 k = nI l ∧ smQ l u I ∧ u 0 = Y 2 k ∧ u 1 = Y 0 k ∧ u 2 = Y 1 k) ∧ I 23 k = iI (Y 3 k) ∧ (k + 1 < F 0 0 → I 20 k = nI (750 + F 1 k) ∧ I 21 k = nI (750 + F 2 k) ∧ cmQ 750 E (F 1 k) (F 2 k) I) ∧ (k + 1 = F 0 0 → I 20 k = I 21 k)
def gbP (F : rD) (Y E : cE) : Prop := (1 ≤ F 0 0 ∧ F 0 0 ≤ 8) ∧ ∀ k, k < F 0 0 → (- 50000 ≤ Y 0 k ∧ Y 0 k ≤ 50000) ∧ (- 50000 ≤ Y 1 k ∧ Y 1 k ≤ 50000) ∧ (- 50000 ≤ Y 2 k ∧ Y 2 k ≤ 50000) ∧ (1 ≤ Y 3 k ∧ Y 3 k ≤ 12) ∧ (k + 1 < F 0 0 → F 1 k < F 2 k ∧ F 2 k ≤ 166 ∧ cbQ E (F 1 k) (F 2 k) ∧ opB E (F 1 k) = true)
def gpV (Y : cE) (x y k : Nat) : Int := (Y 0 k * x + Y 1 k * y + Y 2 k) * (Int.tdiv 27720 (Y 3 k))
/-- the first piece that counts, from k on -/
def gvF (F : rD) (Y E : cE) (x y : Nat) : Nat → Nat → Int
  | 0, _ => 0
  | r + 1, k => if r = 0 then gpV Y x y k else if hvB E (F 1 k) (F 2 k) x y = true then gpV Y x y k else gvF F Y E x y r (k + 1)
theorem iI_div {a b : Int} (h1 : 0 ≤ a) (h2 : a < 2 ^ 31) (h3 : 0 ≤ b) (h4 : b < 2 ^ 31) : iI a / iI b = iI (a.tdiv b) := by
  obtain ⟨n, rfl⟩ : ∃ n : Nat, a = n := ⟨a.toNat, by omega⟩
  obtain ⟨m, rfl⟩ : ∃ m : Nat, b = m := ⟨b.toNat, by omega⟩
  rw [← nI_iI, ← nI_iI, nI_divN (by omega) (by omega), nI_iI]
  rfl
section Gv
variable {F : rD} {Y E : cE}
theorem gpV_bd (hb : gbP F Y E) {x y k : Nat} (hk : k < F 0 0) (hx : x ≤ 9) (hy : y ≤ 9) : (- 950000 ≤ Y 0 k * x + Y 1 k * y + Y 2 k ∧ Y 0 k * x + Y 1 k * y + Y 2 k ≤ 950000) ∧ (0 ≤ Int.tdiv 27720 (Y 3 k) ∧ Int.tdiv 27720 (Y 3 k) ≤ 27720) ∧ (- 2 ^ 36 ≤ gpV Y x y k ∧ gpV Y x y k ≤ 2 ^ 36) := by
  obtain ⟨b0, b1, b2, b3, _⟩ := hb.2 k hk
  have m0 := mb b0 (show - 9 ≤ (x : Int) ∧ (x : Int) ≤ 9 by omega)
  have m1 := mb b1 (show - 9 ≤ (y : Int) ∧ (y : Int) ≤ 9 by omega)
  have h1 : - 950000 ≤ Y 0 k * x + Y 1 k * y + Y 2 k ∧ Y 0 k * x + Y 1 k * y + Y 2 k ≤ 950000 := by omega
  have h2 : 0 ≤ Int.tdiv 27720 (Y 3 k) ∧ Int.tdiv 27720 (Y 3 k) ≤ 27720 := by
    refine ⟨Int.tdiv_nonneg (by omega) (by omega), ?_⟩
    have := Int.natAbs_tdiv_le_natAbs 27720 (Y 3 k)
    have h0 : 0 ≤ Int.tdiv 27720 (Y 3 k) := Int.tdiv_nonneg (by omega) (by omega)
    omega
  refine ⟨h1, h2, ?_⟩
  have := mb h1 (show - 27720 ≤ Int.tdiv 27720 (Y 3 k) ∧ Int.tdiv 27720 (Y 3 k) ≤ 27720 by omega)
  unfold gpV
  omega
theorem gvF_bd (hb : gbP F Y E) {x y : Nat} (hx : x ≤ 9) (hy : y ≤ 9) : ∀ (r k : Nat), k + r = F 0 0 → - 2 ^ 36 ≤ gvF F Y E x y r k ∧ gvF F Y E x y r k ≤ 2 ^ 36
  | 0, k, h => by unfold gvF; omega
  | r + 1, k, h => by
    have h1 := (gpV_bd hb (show k < F 0 0 by omega) hx hy).2.2
    have h2 := gvF_bd hb hx hy r (k + 1) (by omega)
    unfold gvF
    split
    · exact h1
    · split
      · exact h1
      · exact h2
theorem gt_62 {t x y k : Nat} {I : hI} (hb : gbP F Y E) (hc : gcP t F Y E I) (hk : k < F 0 0) (hx : x ≤ 9) (hy : y ≤ 9) (K : _) : mGt_timesWhole_62 K t (nI x) (nI y) (nI k) I = some (lI (gpV Y x y k)) := by
  obtain ⟨e0, e1, e2, e3, _⟩ := hc.2 k hk
  obtain ⟨b0, b1, b2, b3, _⟩ := hb.2 k hk
  obtain ⟨w1, w2, w3⟩ := gpV_bd hb hk hx hy
  have h8 := hb.1
  have nx : nI x = iI (x : Int) := rfl
  have ny : nI y = iI (y : Int) := rfl
  have g : ∀ {β : Type} (q : Option β), h_g (h_in (nI k) 8) q = q := fun q => hg_in q (by omega) (by omega)
  have cl : (nI k).toNatClampNeg = k := nI_clamp (by omega)
  have n0 : ¬ iI (Y 3 k) ≤ (0 : Int32) := fun q => by
    have := (iI_le (a := Y 3 k) (b := 0) (by omega) (by omega) (by omega) (by omega)).mp q
    omega
  have nz : ∀ {β : Type} (q : Option β), h_g (h_nz (iI (Y 3 k))) q = q := fun q => by
    refine h_g_of ?_ q
    refine decide_eq_true (fun e => ?_)
    have := (iI_eq (a := Y 3 k) (b := 0) (by omega) (by omega) (by omega) (by omega)).mp e
    omega
  have nW : (27720 : Int32) = iI 27720 := rfl
  have dv : iI 27720 / iI (Y 3 k) = iI (Int.tdiv 27720 (Y 3 k)) := iI_div (by omega) (by omega) (by omega) (by omega)
  unfold mGt_timesWhole_62
  simp only [g, cl, e0, e1, e2, e3, nx, ny, iI_mul, iI_add, hl_eq, if_neg n0, nz, nW, dv]
  rw [iI_l (by omega) (by omega), iI_l (by omega) (by omega), lI_mul]
  rfl
theorem gt_L {t x y : Nat} {I : hI} (hb : gbP F Y E) (hc : gcP t F Y E I) (hx : x ≤ 9) (hy : y ≤ 9) : ∀ (r k fuel : Nat), k + r = F 0 0 → r < fuel → mGt_timesWhole_L2 fuel t (nI x) (nI y) (nI k) I = some (lI (gvF F Y E x y r k)) := by
  intro r
  induction r with
  | zero =>
    intro k fuel hr hf
    have h8 := hb.1
    obtain ⟨fuel, rfl⟩ : ∃ m, fuel = m + 1 := ⟨fuel - 1, by omega⟩
    show mGt_timesWhole_B2 (mGt_timesWhole_L2 fuel) _ _ _ _ _ = _
    unfold mGt_timesWhole_B2
    rw [hc.1, if_pos ((nI_leI (by omega) (by omega)).mpr (by omega))]
    rfl
  | succ r ih =>
    intro k fuel hr hf
    have h8 := hb.1
    obtain ⟨fuel, rfl⟩ : ∃ m, fuel = m + 1 := ⟨fuel - 1, by omega⟩
    have hk : k < F 0 0 := by omega
    have e62 := gt_62 hb hc hk hx hy (mGt_timesWhole_L2 fuel)
    have z8 : (8 : Int32) = nI 8 := rfl
    have z1 : (1 : Int32) = nI 1 := rfl
    have n1 : ¬ nI 1 = (0 : Int32) := by decide
    show mGt_timesWhole_B2 (mGt_timesWhole_L2 fuel) _ _ _ _ _ = _
    unfold mGt_timesWhole_B2
    rw [hc.1, if_neg (fun q => by have := (nI_leI (by omega) (by omega)).mp q; omega), z8, if_neg (fun q => by have := (nI_leI (by omega) (by omega)).mp q; omega), z1, nI_subN (by omega), gvF]
    by_cases hl : r = 0
    · rw [if_pos hl, if_pos ((nI_eq (by omega) (by omega)).mpr (by omega))]
      unfold mGt_timesWhole_31
      rw [if_neg n1, e62]
    · rw [if_neg hl, if_neg (fun q => by have := (nI_eq (by omega) (by omega)).mp q; omega)]
      obtain ⟨f1, f2, f3⟩ := (hc.2 k hk).2.2.2.2 (by omega)
      obtain ⟨c1, c2, c3, c4⟩ := (hb.2 k hk).2.2.2.2 (by omega)
      have eh := cd_hold (t := t + 1) c3 f3 (by omega) c2 hx hy
      have g : ∀ {β : Type} (q : Option β), h_g (h_in (nI k) 8) q = q := fun q => hg_in q (by omega) (by omega)
      have cl : (nI k).toNatClampNeg = k := nI_clamp (by omega)
      unfold mGt_timesWhole_31
      rw [if_pos rfl, g, g, cl, f1, f2, eh, Option.bind_some, z1, nI_add, e62]
      cases hv : hvB E (F 1 k) (F 2 k) x y
      · rw [if_pos (show bI false = (0 : Int32) from rfl), if_neg (by decide), ih (k + 1) fuel (by omega) (by omega)]
      · rw [if_neg (show ¬ bI true = (0 : Int32) by decide), if_pos rfl]
theorem mg_76 {x y k : Nat} {I : hI} (hb : gbP F Y E) (hc : gmP F Y E I) (hk : k < F 0 0) (hx : x ≤ 9) (hy : y ≤ 9) (K : _) : mM_wholeGuess_76 K (nI x) (nI y) (nI k) I = some (lI (gpV Y x y k)) := by
  obtain ⟨⟨l, u, hl, e22, su, u0, u1, u2⟩, e23, _⟩ := hc.2 k hk
  obtain ⟨b0, b1, b2, b3, _⟩ := hb.2 k hk
  obtain ⟨w1, w2, w3⟩ := gpV_bd hb hk hx hy
  have h8 := hb.1
  have s1 := m_sumAt (x := x) (y := y) hl su
  have g : ∀ {β : Type} (q : Option β), h_g (h_in (nI k) 8) q = q := fun q => hg_in q (by omega) (by omega)
  have cl : (nI k).toNatClampNeg = k := nI_clamp (by omega)
  have nz : ∀ {β : Type} (q : Option β), h_g (h_nz (iI (Y 3 k))) q = q := fun q => by
    refine h_g_of ?_ q
    refine decide_eq_true (fun e => ?_)
    have := (iI_eq (a := Y 3 k) (b := 0) (by omega) (by omega) (by omega) (by omega)).mp e
    omega
  have nW : (27720 : Int32) = iI 27720 := rfl
  have dv : iI 27720 / iI (Y 3 k) = iI (Int.tdiv 27720 (Y 3 k)) := iI_div (by omega) (by omega) (by omega) (by omega)
  have es : smV u x y = Y 0 k * x + Y 1 k * y + Y 2 k := by unfold smV; rw [u0, u1, u2]; omega
  unfold mM_wholeGuess_76
  rw [g, cl, e22, s1, Option.bind_some, g, e23, nz, nW, dv, es, iI_l (by omega) (by omega), iI_l (by omega) (by omega), lI_mul]
  rfl
theorem mg_L {x y : Nat} {I : hI} (hb : gbP F Y E) (hc : gmP F Y E I) (hx : x ≤ 9) (hy : y ≤ 9) : ∀ (r k fuel : Nat), k + r = F 0 0 → r < fuel → mM_wholeGuess_L27 fuel (nI x) (nI y) (nI k) I = some (lI (gvF F Y E x y r k)) := by
  intro r
  induction r with
  | zero =>
    intro k fuel hr hf
    have h8 := hb.1
    obtain ⟨fuel, rfl⟩ : ∃ m, fuel = m + 1 := ⟨fuel - 1, by omega⟩
    show mM_wholeGuess_B27 (mM_wholeGuess_L27 fuel) _ _ _ _ = _
    unfold mM_wholeGuess_B27
    rw [hc.1, if_pos ((nI_leI (by omega) (by omega)).mpr (by omega))]
    rfl
  | succ r ih =>
    intro k fuel hr hf
    have h8 := hb.1
    obtain ⟨fuel, rfl⟩ : ∃ m, fuel = m + 1 := ⟨fuel - 1, by omega⟩
    have hk : k < F 0 0 := by omega
    have e76 := mg_76 hb hc hk hx hy (mM_wholeGuess_L27 fuel)
    have z1 : (1 : Int32) = nI 1 := rfl
    have g : ∀ {β : Type} (q : Option β), h_g (h_in (nI k) 8) q = q := fun q => hg_in q (by omega) (by omega)
    have cl : (nI k).toNatClampNeg = k := nI_clamp (by omega)
    obtain ⟨_, _, f1, f2⟩ := hc.2 k hk
    show mM_wholeGuess_B27 (mM_wholeGuess_L27 fuel) _ _ _ _ = _
    unfold mM_wholeGuess_B27
    rw [hc.1, if_neg (fun q => by have := (nI_leI (by omega) (by omega)).mp q; omega), g, g, cl, gvF]
    by_cases hl : r = 0
    · rw [if_pos hl, if_pos (f2 (by omega)), e76]
    · rw [if_neg hl]
      obtain ⟨f3, f4, f5⟩ := f1 (by omega)
      obtain ⟨c1, c2, c3, c4⟩ := (hb.2 k hk).2.2.2.2 (by omega)
      have eh := m_holds (o := 750) c3 f5 c1 c4 (by omega) hx hy
      rw [f3, f4, if_neg (fun q => by have := (nI_eq (by omega) (by omega)).mp q; omega), g, g, eh, Option.bind_some, z1, nI_add, e76]
      cases hv : hvB E (F 1 k) (F 2 k) x y
      · rw [if_pos (show bI false = (0 : Int32) from rfl), if_neg (by decide), ih (k + 1) fuel (by omega) (by omega)]
      · rw [if_neg (show ¬ bI true = (0 : Int32) by decide), if_pos rfl]
def gvS (D F : rD) (Y E : cE) (s : Nat) : Int := if pIn D s = true then gvF F Y E (s % D 0 1) (s / D 0 1) (F 0 0) 0 else 0
/-- the guess's values at all states -/
theorem gH_of {D : rD} (hD : rOk D) {B : Bool × Bool} {Ic Im : hI} (hcR : cR D Ic) (hmR : mR D Im) (hb : gbP F Y E) (hc : gcP (h_td B) F Y E Ic) (hm : gmP F Y E (h_u Im 0 0 (nI 0))) : gH D (gvS D F Y E) B Ic Im := by
  intro s hs
  have hn := hD.2.1
  have hw := wd_pos hD
  have h8 := hb.1
  have hm' := mR_mark hmR (nI 0)
  have hx : s % D 0 1 ≤ 9 := by have : s % D 0 1 ≤ s := Nat.mod_le _ _; omega
  have hy : s / D 0 1 ≤ 9 := by have : s / D 0 1 ≤ s := Nat.div_le_self _ _; omega
  have ei := ro_isIn hD hcR (s := s) (by omega)
  have ei2 := m_isInside hD hm' hs
  have e1 : decide (s < D 0 0 ∧ 0 < D 1 s) = pIn D s := by unfold pIn; simp [hs]
  have e1' : decide (0 < D 1 s) = pIn D s := rfl
  rw [e1] at ei
  rw [e1'] at ei2
  have ex := ro_xOf hD hcR hs
  have ey := ro_yOf hD hcR hs
  have c1 := gt_L hb hc hx hy (F 0 0) 0 hF (by omega) (by unfold hF; omega)
  have m1 := mg_L hb hm hx hy (F 0 0) 0 hF (by omega) (by unfold hF; omega)
  have bd := gvF_bd hb hx hy (F 0 0) 0 (by omega)
  unfold mC_guessTimesWhole mM_wholeGuess
  cases hi : pIn D s
  · rw [hi, bI_f] at ei ei2
    rw [ei, ei2]
    have z : nI 0 = (0 : Int32) := rfl
    have gz : gvS D F Y E s = 0 := by unfold gvS; rw [hi]; rfl
    rw [gz]
    refine ⟨?_, ?_, by omega, by omega⟩
    · rw [if_pos z]; rfl
    · rw [Option.bind_some, if_pos z]; rfl
  · rw [hi, bI_t] at ei ei2
    have n1 : ¬ nI 1 = (0 : Int32) := by decide
    have e39 : h_u Im 0 0 (nI 0) 0 39 = nI (D 0 1) := hm'.2.1
    have gz : gvS D F Y E s = gvF F Y E (s % D 0 1) (s / D 0 1) (F 0 0) 0 := by unfold gvS; rw [hi]; rfl
    rw [gz]
    refine ⟨?_, ?_, bd.1, bd.2⟩
    · rw [ei, if_neg n1, ex, Option.bind_some, ey, Option.bind_some]
      unfold mGt_timesWhole
      rw [li_0, c1]
      rfl
    · rw [ei2, Option.bind_some, if_neg n1, e39, hg_nz _ (by omega) (by omega), hl_eq, hg_nz _ (by omega) (by omega), hl_eq, nI_divN (by omega) (by omega), nI_mul, nI_mod2, li_0, m1]
end Gv
