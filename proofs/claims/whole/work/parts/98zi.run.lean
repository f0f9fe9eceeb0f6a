/-! run: both sides. -/
section Ru
variable {t w h sz n np wt : Nat} {Q : rD} {P E : cE} {pr : Nat → Int} {bn : Nat → Nat} {D : rD}
/-- the walkers between rounds, by draws -/
def rnQ (w h : Nat) (tot : Int32) (x y : Nat) (o : Bool) (Ic Im : hI) : Prop := x < w ∧ y < h ∧ Ic 6 0 = nI x ∧ Ic 6 1 = nI y ∧ Ic 6 2 = tot ∧ Ic 6 3 = Im 0 56 ∧ Ic 6 4 = bI o ∧ Ic 6 5 = nI 1 ∧ Im 0 61 = nI 1 ∧ Ic 6 6 = Im 0 59
/-- what stands in a run -/
def ruE (t w h sz n : Nat) (Q : rD) (P E : cE) (pr : Nat → Int) (D : rD) (Ic Im : hI) : Prop := (∃ v0, enQ t w h sz n v0 Q P E pr Ic Im) ∧ Im 0 46 = ptI 24 (ptN 0 n) ∧ cR D Ic ∧ mR D Im
theorem ruE_of {Ic Ic' Im Im' : hI} (ht : 61 ≤ t) (H : ruE t w h sz n Q P E pr D Ic Im) (o1 : ∀ a i, a ≠ 6 → Ic' a i = Ic a i) (o2 : ∀ a i, (a ≠ 0 ∨ i < 53 ∨ 61 < i) → Im' a i = Im a i) : ruE t w h sz n Q P E pr D Ic' Im' := by
  obtain ⟨⟨v0, a1⟩, a2, a3, a4⟩ := H
  exact ⟨⟨Im' 0 58, enQ_set a1 (fun c i q => o1 c i (by omega)) (fun c i q1 q2 => o2 c i (by omega)) ⟨o2 0 39 (by omega), o2 0 40 (by omega)⟩ rfl⟩, by rw [o2 0 46 (by omega)]; exact a2, cR_of a3 (fun c i q1 q2 => o1 c i (by omega)), mR_of a4 (fun c i q1 q2 => o2 c i (by omega)) (fun i q1 q2 => o2 0 i (by omega))⟩
theorem st_lt {x y : Nat} (hx : x < w) (hy : y < h) : x + y * w < w * h := by
  have : (y + 1) * w ≤ h * w := Nat.mul_le_mul_right _ (by omega)
  rw [Nat.add_mul, Nat.mul_comm h w] at this
  omega
theorem st_xy {x y : Nat} (hx : x < w) : (x + y * w) % w = x ∧ (x + y * w) / w = y := by
  constructor
  · rw [Nat.add_mul_mod_self_right, Nat.mod_eq_of_lt hx]
  · rw [Nat.add_mul_div_right _ _ (by omega), Nat.div_eq_of_lt hx, Nat.zero_add]
theorem ru_ended (hD : rOk D) (hd : D 0 0 = w * h ∧ D 0 1 = w ∧ D 0 2 = h) {tot : Int32} {x y : Nat} {o : Bool} {Ic Im : hI} (hc : cR D Ic) (W : rnQ w h tot x y o Ic Im) : mC_hasWalkEnded Ic = bI (o || !pIn D (x + y * w)) := by
  obtain ⟨w1, w2, w3, w4, w5, w6, w7, w8, w9, w10⟩ := W
  have hw := wd_pos hD
  rw [hd.2.1] at hw
  have hn := hD.2.1
  have hlt := st_lt w1 w2
  have so := so_of (I := Ic) (w := w) (x := x) (y := y) (by rw [hc.2.1, hd.2.1]) hw
  have ei := ro_isIn hD hc (s := x + y * w) (by omega)
  have e1 : decide (x + y * w < D 0 0 ∧ 0 < D 1 (x + y * w)) = pIn D (x + y * w) := by unfold pIn; simp [hd.1, hlt]
  rw [e1] at ei
  unfold mC_hasWalkEnded
  rw [w7, w3, w4, so, ei]
  cases o
  · rw [if_pos (show bI false = (0 : Int32) from rfl)]
    cases pIn D (x + y * w)
    · rw [if_pos (show bI false = (0 : Int32) from rfl)]; rfl
    · rw [if_neg (show ¬ bI true = (0 : Int32) by decide)]; rfl
  · rw [if_neg (show ¬ bI true = (0 : Int32) by decide)]; rfl
theorem ru_end (hD : rOk D) (hd : D 0 0 = w * h ∧ D 0 1 = w ∧ D 0 2 = h) {B : Bool × Bool} {tot : Int32} {x y g wh : Nat} {o : Bool} {Ic Im : hI} (hc : cR D Ic) (hm : mR D Im) (W : rnQ w h tot x y o Ic Im) (hwh : wh < 5) : ∃ a, mC_run_143 (nI wh) (nI g) Ic B = some (a, Ic) ∧ mM_run_158 (nI wh) (nI (x + y * w)) (nI g) tot (bI o) Im = some (a, h_u Im 0 61 (nI 0)) := by
  have W0 := W
  obtain ⟨w1, w2, w3, w4, w5, w6, w7, w8, w9, w10⟩ := W
  have hw := wd_pos hD
  rw [hd.2.1] at hw
  have hlt := st_lt w1 w2
  have he := ru_ended hD hd hc W0
  have so := so_of (I := Ic) (w := w) (x := x) (y := y) (by rw [hc.2.1, hd.2.1]) hw
  have ii : mM_isInside (nI (x + y * w)) (h_u Im 0 61 (nI 0)) = some (bI (pIn D (x + y * w))) := m_isInside hD (mR_of hm (fun a i q1 q2 => h_u_off2 _ _ _ _ (by omega)) (fun i q1 q2 => h_u_pl _ _ _ (by omega))) (by rw [hd.1]; exact hlt)
  have e56 : h_u Im 0 61 (nI 0) 0 56 = Im 0 56 := h_u_pl _ _ _ (by decide)
  unfold mC_run_143 mM_run_158
  rcases (show wh = 0 ∨ wh = 1 ∨ wh = 2 ∨ wh = 3 ∨ wh = 4 by omega) with rfl | rfl | rfl | rfl | rfl
  · refine ⟨bI (o || !pIn D (x + y * w)), ?_, ?_⟩
    · rw [he]
      cases o <;> cases pIn D (x + y * w) <;> rfl
    · rw [hl_eq, li_0, if_pos rfl, ii]
      cases o <;> cases pIn D (x + y * w) <;> rfl
  · exact ⟨nI g, rfl, rfl⟩
  · exact ⟨tot, by rw [w5]; rfl, rfl⟩
  · cases o
    · exact ⟨nI (x + y * w), by rw [w7, w3, w4, so]; rfl, rfl⟩
    · exact ⟨-1, by rw [w7]; rfl, rfl⟩
  · exact ⟨Im 0 56, by rw [w6]; rfl, by rw [hl_eq, li_0, e56]; rfl⟩
theorem ru_L (hD : rOk D) (hd : D 0 0 = w * h ∧ D 0 1 = w ∧ D 0 2 = h) {B : Bool × Bool} (hB : h_pr B = t) (ht : 61 ≤ t) {f0 : Nat} (hb : bodyOk Q f0 6 0 n 0 sz) {pk R wh : Nat} (hR : R ≤ 200) (hwh : wh < 5) : ∀ (r g fuel fuel2 : Nat) (tot : Int32) (x y : Nat) (o : Bool) (Ic Im : hI), g + r = R → r < fuel → r < fuel2 → ruE t w h sz n Q P E pr D Ic Im → rnQ w h tot x y o Ic Im → ∃ (a : Int32) (Ic' Im' : hI), mC_run_L108 fuel (nI pk) (nI R) (nI wh) (nI g) (nI g) Ic B = some (a, Ic') ∧ mM_run_L93 fuel2 (nI pk) (nI R) (nI wh) (nI (x + y * w)) (nI g) tot (bI o) Im = some (a, Im') ∧ (∀ a i, a ≠ 6 → Ic' a i = Ic a i) ∧ (∀ a i, (a ≠ 0 ∨ i < 53 ∨ 61 < i) → Im' a i = Im a i) := by
  have o61 : ∀ (I : hI) a i, (a ≠ 0 ∨ i < 53 ∨ 61 < i) → h_u I 0 61 (nI 0) a i = I a i := fun I a i q => by
    by_cases e : a = 0
    · subst e; exact h_u_pl _ _ _ (by omega)
    · exact h_u_off2 _ _ _ _ e
  intro r
  induction r with
  | zero =>
    intro g fuel fuel2 tot x y o Ic Im hg hf hf2 H W
    obtain ⟨fuel, rfl⟩ : ∃ m, fuel = m + 1 := ⟨fuel - 1, by omega⟩
    obtain ⟨fuel2, rfl⟩ : ∃ m, fuel2 = m + 1 := ⟨fuel2 - 1, by omega⟩
    obtain ⟨a, e1, e2⟩ := ru_end (B := B) (g := g) hD hd H.2.2.1 H.2.2.2 W hwh
    refine ⟨a, Ic, h_u Im 0 61 (nI 0), ?_, ?_, fun _ _ _ => rfl, o61 Im⟩
    · show mC_run_B108 (mC_run_L108 fuel) _ _ _ _ _ _ _ = _
      unfold mC_run_B108
      rw [if_pos ((nI_leI (by omega) (by omega)).mpr (by omega)), e1]
    · show mM_run_B93 (mM_run_L93 fuel2) _ _ _ _ _ _ _ _ = _
      unfold mM_run_B93
      rw [if_pos ((nI_leI (by omega) (by omega)).mpr (by omega)), e2]
  | succ r ih =>
    intro g fuel fuel2 tot x y o Ic Im hg hf hf2 H W
    obtain ⟨fuel, rfl⟩ : ∃ m, fuel = m + 1 := ⟨fuel - 1, by omega⟩
    obtain ⟨fuel2, rfl⟩ : ∃ m, fuel2 = m + 1 := ⟨fuel2 - 1, by omega⟩
    obtain ⟨a, e1, e2⟩ := ru_end (B := B) (g := g) hD hd H.2.2.1 H.2.2.2 W hwh
    have he := ru_ended hD hd H.2.2.1 W
    have W0 := W
    obtain ⟨w1, w2, w3, w4, w5, w6, w7, w8, w9, w10⟩ := W
    have hlt := st_lt w1 w2
    have hn := hD.2.1
    have ii : mM_isInside (nI (x + y * w)) Im = some (bI (pIn D (x + y * w))) := m_isInside hD H.2.2.2 (by rw [hd.1]; exact hlt)
    have g1 : ¬ nI R ≤ nI g := fun q => by have := (nI_leI (by omega) (by omega)).mp q; omega
    have topC : mC_run_L108 (fuel + 1) (nI pk) (nI R) (nI wh) (nI g) (nI g) Ic B = mC_run_B108 (mC_run_L108 fuel) (nI pk) (nI R) (nI wh) (nI g) (nI g) Ic B := rfl
    have topM : mM_run_L93 (fuel2 + 1) (nI pk) (nI R) (nI wh) (nI (x + y * w)) (nI g) tot (bI o) Im = mM_run_B93 (mM_run_L93 fuel2) (nI pk) (nI R) (nI wh) (nI (x + y * w)) (nI g) tot (bI o) Im := rfl
    rw [topC, topM]
    unfold mC_run_B108 mM_run_B93
    rw [if_neg g1, if_neg g1, he, ii]
    have b0 : bI false = (0 : Int32) := rfl
    have b1 : ¬ bI true = (0 : Int32) := by decide
    cases o
    · cases hi : pIn D (x + y * w)
      · refine ⟨a, Ic, h_u Im 0 61 (nI 0), ?_, ?_, fun _ _ _ => rfl, o61 Im⟩
        · rw [if_neg (show ¬ bI (false || !false) = (0 : Int32) by decide), e1]
        · rw [if_pos b0, Option.bind_some, if_pos b0, e2]
      · -- one round more
        obtain ⟨⟨v0, H0⟩, h46, hc, hm⟩ := H
        have hw := H0.2.2.1
        have h39 := H0.2.2.2.2.2.2.2.2.2.2.1
        obtain ⟨x1, x2⟩ := st_xy (y := y) w1
        obtain ⟨Im1, hIm1⟩ : ∃ I, I = h_u (h_u (h_u (h_u (h_u Im 0 53 (nI x)) 0 54 (nI y)) 0 58 (nI pk)) 0 55 (nI 0)) 0 60 (nI 0) := ⟨_, rfl⟩
        have om1 : ∀ a i, (a ≠ 0 ∨ i < 53 ∨ 60 < i ∨ i = 56 ∨ i = 57 ∨ i = 59) → Im1 a i = Im a i := fun a i hh => by
          rw [hIm1]
          by_cases e : a = 0
          · subst e
            simp (disch := omega) only [h_u_pl]
          · simp (disch := omega) only [h_u_off2]
        have t0 : tot = tot + nI 0 := (Int32.add_zero tot).symm
        have WW : wkQ w h tot x y 0 false Ic Im1 := by
          refine ⟨w1, w2, ⟨w3, ?_⟩, ⟨w4, ?_⟩, ⟨by rw [← t0]; exact w5, ?_⟩, by rw [om1 0 56 (by omega)]; exact w6, ⟨w7, ?_⟩, by rw [om1 0 61 (by omega), w9]; exact w8, Or.inr ⟨by rw [om1 0 61 (by omega)]; exact w9, by rw [om1 0 59 (by omega)]; exact w10⟩⟩
          · rw [hIm1]; simp (disch := omega) only [h_u_at, h_u_pl]
          · rw [hIm1]; simp (disch := omega) only [h_u_at, h_u_pl]
          · rw [hIm1]; simp (disch := omega) only [h_u_at, h_u_pl]
          · rw [hIm1, h_u_at]; rfl
        have H1 : enQ t w h sz n (nI pk) Q P E pr Ic Im1 := enQ_set H0 (fun _ _ _ => rfl) (fun c i q1 q2 => om1 c i (by omega)) ⟨om1 0 39 (by omega), om1 0 40 (by omega)⟩ (by rw [hIm1]; simp (disch := omega) only [h_u_at, h_u_pl])
        obtain ⟨Ic2, Im2, x', y', p', o', r1, r2, r3, r4, r5⟩ := wk_round hb H1 WW
        obtain ⟨z1, z2, ⟨z3, z3'⟩, ⟨z4, z4'⟩, ⟨z5, z5'⟩, z6, ⟨z7, z7'⟩, z8, z9⟩ := r3
        have hround0 : ∀ st, st < 10 → st % w = x → st / w = y → mM_round (nI st) (nI pk) Im = some Im2 := fun st hst x1 x2 => by
          have h46' : Im1 0 46 = ptI 24 (ptN 0 n) := by rw [om1 0 46 (by omega)]; exact h46
          have e39' : ∀ X, h_u Im 0 53 X 0 39 = nI w := fun X => by rw [h_u_pl _ _ _ (by decide)]; exact h39
          unfold mM_round
          rw [h39]
          simp (disch := omega) only [hl_eq, hg_nz, e39', nI_divN, nI_mul, nI_mod2, li_0]
          simp only [x1, x2]
          rw [← hIm1, h46', r2]
          rfl
        have hround := hround0 (x + y * w) (by omega) x1 x2
        have oc2 : ∀ a i, a ≠ 6 → Ic2 a i = Ic a i := fun a i q => r5.1 a i q
        have om2 : ∀ a i, (a ≠ 0 ∨ i < 53 ∨ 61 < i) → Im2 a i = Im a i := fun a i q => by rw [r5.2 a i (by omega), om1 a i (by omega)]
        have m61 : Im2 0 61 = nI 1 := by rw [r5.2 0 61 (by omega), om1 0 61 (by omega)]; exact w9
        have m39 : Im2 0 39 = nI w := by rw [om2 0 39 (by omega)]; exact h39
        have W2 : rnQ w h (tot + nI p') x' y' o' Ic2 Im2 := by
          refine ⟨z1, z2, z3, z4, z5, z6, z7, by rw [z8, m61], m61, ?_⟩
          rcases z9 with ⟨q, _⟩ | ⟨_, q⟩
          · rw [m61] at q; exact absurd q (by decide)
          · exact q
        obtain ⟨a', Ic', Im', y1, y2, y3, y4⟩ := ih (g + 1) fuel fuel2 (tot + nI p') x' y' o' Ic2 Im2 (by omega) (by omega) (by omega) (ruE_of ht ⟨⟨v0, H0⟩, h46, hc, hm⟩ oc2 om2) W2
        have est : nI y' * nI w + nI x' = nI (x' + y' * w) := by rw [nI_mul, nI_add, Nat.add_comm]
        refine ⟨a', Ic', Im', ?_, ?_, fun a i q => by rw [y3 a i q, oc2 a i q], fun a i q => by rw [y4 a i q, om2 a i q]⟩
        · rw [if_pos (show bI (false || !true) = (0 : Int32) from rfl), hB, r1, Option.bind_some, li_1, nI_add]
          exact y1
        · rw [if_pos b0, Option.bind_some, if_neg b1, hround, Option.bind_some, hl_eq, hl_eq, hl_eq, z5', z7', z3', z4', m39, est, li_1, nI_add]
          exact y2
    · refine ⟨a, Ic, h_u Im 0 61 (nI 0), ?_, ?_, fun _ _ _ => rfl, o61 Im⟩
      · rw [if_neg (show ¬ bI (true || !pIn D (x + y * w)) = (0 : Int32) from b1), e1]
      · rw [if_neg b1, e2]
end Ru
