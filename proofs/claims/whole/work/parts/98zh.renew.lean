/-! Rounds laid anew, both sides. -/
section Rn
variable {t w h sz n np wt : Nat} {Q : rD} {P E : cE} {pr : Nat → Int} {bn : Nat → Nat}
theorem ro_cp_L {D : rD} (hD : rOk D) {I : hI} (hc : cR D I) : ∀ (r s fuel : Nat), s + r = D 0 0 → r < fuel → pN D s ≤ 64 → mRo_countPlans_L4 fuel (nI (pN D s)) (nI s) I = some (if pN D (D 0 0) ≤ 64 then nI (pN D (D 0 0)) else (-2 : Int32)) := by
  have hn := hD.2.1
  intro r
  induction r with
  | zero =>
    intro s fuel hs hf hp
    obtain ⟨fuel, rfl⟩ : ∃ m, fuel = m + 1 := ⟨fuel - 1, by omega⟩
    obtain rfl : s = D 0 0 := by omega
    show mRo_countPlans_B4 (mRo_countPlans_L4 fuel) _ _ _ = _
    unfold mRo_countPlans_B4
    rw [hc.1, if_pos ((nI_leI (by omega) (by omega)).mpr (Nat.le_refl _)), if_pos hp]
  | succ r ih =>
    intro s fuel hs hf hp
    obtain ⟨fuel, rfl⟩ : ∃ m, fuel = m + 1 := ⟨fuel - 1, by omega⟩
    have hsn : s < D 0 0 := by omega
    have h8 := hD.2.2.2.1 s hsn
    have e8 := hc.2.2.2.2.1 s hsn
    have ei := ro_isIn hD hc (s := s) (by omega)
    have z64 : (64 : Int32) = nI 64 := rfl
    have es : nI s + (1 : Int32) = nI (s + 1) := by rw [li_1, nI_add]
    have hm : pN D s * D 1 s ≤ 64 * 8 := Nat.mul_le_mul hp h8
    show mRo_countPlans_B4 (mRo_countPlans_L4 fuel) _ _ _ = _
    unfold mRo_countPlans_B4 mRo_countPlans_29
    rw [hc.1, if_neg (fun q => by have := (nI_leI (by omega) (by omega)).mp q; omega), ei, es, z64]
    by_cases h0 : D 1 s = 0
    · have e1 : decide (s < D 0 0 ∧ 0 < D 1 s) = false := decide_eq_false (by omega)
      have e2 : pN D (s + 1) = pN D s := by rw [pN, if_pos h0]
      have go := ih (s + 1) fuel (by omega) (by omega) (by omega)
      rw [e2] at go
      rw [e1, if_pos (show bI false = (0 : Int32) from rfl), if_pos ((nI_leI (by omega) (by omega)).mpr hp)]
      exact go
    · have e1 : decide (s < D 0 0 ∧ 0 < D 1 s) = true := decide_eq_true (by omega)
      have e2 : pN D (s + 1) = pN D s * D 1 s := by rw [pN, if_neg h0]
      rw [e1, if_neg (show ¬ bI true = (0 : Int32) by decide), hg_in _ (by omega) (by omega), hl_eq, nI_clamp (by omega), e8, nI_mul, ← e2]
      by_cases h64 : pN D (s + 1) ≤ 64
      · rw [if_pos ((nI_leI (by omega) (by omega)).mpr h64)]
        exact ih (s + 1) fuel (by omega) (by omega) h64
      · have hbig : ¬ pN D (D 0 0) ≤ 64 := fun q => by have := pN_mono D (show s + 1 ≤ D 0 0 by omega); omega
        rw [if_neg (fun q => by have := (nI_leI (by omega) (by omega)).mp q; omega), if_neg hbig]
theorem ro_countPlans {D : rD} (hD : rOk D) {I : hI} (hc : cR D I) : mRo_countPlans I = some (if pN D (D 0 0) ≤ 64 then nI (pN D (D 0 0)) else (-2 : Int32)) := by
  have hn := hD.2.1
  have e := ro_cp_L hD hc (D 0 0) 0 hF (by omega) (by unfold hF; omega) (show (1 : Nat) ≤ 64 by decide)
  have e1 : pN D 0 = 1 := rfl
  rw [e1] at e
  unfold mRo_countPlans
  rw [li_0, li_1, e]
theorem ms_L (ht : 61 ≤ t) (hw : 1 ≤ w ∧ w ≤ 10) (hN : w * h ≤ 10) : ∀ (r s fuel : Nat) (I Im : hI), s + r = w * h → r < fuel → whQ t w wt E I Im → I 7 5 = nI (w * h) → I 7 7 = nI (w - 1) → bm (I 7 6) (w * h) (fun u => decide (u < s) && inB E w wt u) → ∃ I' : hI, mRo_makeStates_L45 fuel t (nI s) I = some I' ∧ (∀ a i, (a ≠ 7 ∨ i ≠ 6) → I' a i = I a i) ∧ bm (I' 7 6) (w * h) (inB E w wt) := by
  intro r
  induction r with
  | zero =>
    intro s fuel I Im hs hf H h5 h7 hb
    obtain ⟨fuel, rfl⟩ : ∃ m, fuel = m + 1 := ⟨fuel - 1, by omega⟩
    obtain rfl : s = w * h := by omega
    refine ⟨I, ?_, fun _ _ _ => rfl, bm_congr hb (fun u hu => by simp [hu])⟩
    show mRo_makeStates_B45 (mRo_makeStates_L45 fuel) _ _ _ = _
    unfold mRo_makeStates_B45
    rw [h5, if_pos ((nI_leI (by omega) (by omega)).mpr (Nat.le_refl _))]
  | succ r ih =>
    intro s fuel I Im hs hf H h5 h7 hb
    obtain ⟨fuel, rfl⟩ : ∃ m, fuel = m + 1 := ⟨fuel - 1, by omega⟩
    obtain ⟨a1, a2, a3, a4, a5, _⟩ := id H
    have hx : s % w ≤ 9 := by have : s % w ≤ s := Nat.mod_le _ _; omega
    have hy : s / w ≤ 9 := by have : s / w ≤ s := Nat.div_le_self _ _; omega
    have ex := xo_of h7 hw (show s < 100 by omega)
    have ey := yo_of h7 hw (show s < 100 by omega)
    have eh : mCd_hold (t + 1) (nI 0) (nI wt) (nI (s % w)) (nI (s / w)) I = some (bI (inB E w wt s)) := cd_hold (t := t + 1) a2 a4 (by omega) a1.2 hx hy
    have es : nI s + (1 : Int32) = nI (s + 1) := by rw [li_1, nI_add]
    have z31 : (31 : Int32) = nI 31 := rfl
    have top : mRo_makeStates_L45 (fuel + 1) t (nI s) I = (if bI (inB E w wt s) = (0 : Int32) then mRo_makeStates_L45 fuel t (nI (s + 1)) I else mRo_makeStates_L45 fuel t (nI (s + 1)) (h_u I 7 6 (I 7 6 ||| (nI 1 <<< (nI s &&& nI 31))))) := by
      show mRo_makeStates_B45 (mRo_makeStates_L45 fuel) _ _ _ = _
      unfold mRo_makeStates_B45
      rw [h5, if_neg (fun q => by have := (nI_leI (by omega) (by omega)).mp q; omega), ex, Option.bind_some, ey, Option.bind_some, a5, es, li_0, eh, Option.bind_some, hl_eq, li_1, z31]
    cases hv : inB E w wt s
    · obtain ⟨I', x1, x2, x3⟩ := ih (s + 1) fuel I Im (by omega) (by omega) H h5 h7 (bm_congr hb (fun u hu => by
        by_cases e : u = s
        · subst e; simp [hv]
        · have : (u < s) = (u < s + 1) := by simp; omega
          simp [this]))
      refine ⟨I', ?_, x2, x3⟩
      rw [top, hv, if_pos (show bI false = (0 : Int32) from rfl), x1]
    · have off : ∀ a i, (a ≠ 7 ∨ i ≠ 6) → h_u I 7 6 (I 7 6 ||| (nI 1 <<< (nI s &&& nI 31))) a i = I a i := fun a i hh => by
        by_cases e : a = 7
        · subst e; exact h_u_pl _ _ _ (by omega)
        · exact h_u_off2 _ _ _ _ e
      obtain ⟨I', x1, x2, x3⟩ := ih (s + 1) fuel (h_u I 7 6 (I 7 6 ||| (nI 1 <<< (nI s &&& nI 31)))) Im (by omega) (by omega) (whQ_of H (fun c i q => off c i (by omega)) (fun _ _ _ _ => rfl) ⟨rfl, rfl, rfl⟩) (by rw [off 7 5 (by decide)]; exact h5) (by rw [off 7 7 (by decide)]; exact h7) (by
        rw [h_u_at]
        refine bm_congr (bm_or hb (bm_bit (s := s) (by omega) hN)) (fun u hu => ?_)
        by_cases e : u = s
        · subst e; simp [hv]
        · have : (u < s) = (u < s + 1) := by simp; omega
          simp [this, e])
      refine ⟨I', ?_, fun a i hh => by rw [x2 a i hh, off a i hh], x3⟩
      rw [top, hv, if_neg (show ¬ bI true = (0 : Int32) by decide), x1]
theorem fg_L : ∀ (r k fuel : Nat) (I : hI), k + r = 4 → r < fuel → ∃ I' : hI, mHz_forget_L2 fuel (nI k) I = some I' ∧ (∀ a i, a ≠ 37 → I' a i = I a i) ∧ (∀ i, i < k → I' 37 i = I 37 i) ∧ ∀ i, k ≤ i → i < 4 → I' 37 i = nI 0 := by
  intro r
  induction r with
  | zero =>
    intro k fuel I hk hf
    obtain ⟨fuel, rfl⟩ : ∃ m, fuel = m + 1 := ⟨fuel - 1, by omega⟩
    obtain rfl : k = 4 := by omega
    refine ⟨I, ?_, fun _ _ _ => rfl, fun _ _ => rfl, fun i h1 h2 => by omega⟩
    show mHz_forget_B2 (mHz_forget_L2 fuel) _ _ = _
    unfold mHz_forget_B2
    rw [li_4, if_pos ((nI_leI (by omega) (by omega)).mpr (Nat.le_refl _))]
  | succ r ih =>
    intro k fuel I hk hf
    obtain ⟨fuel, rfl⟩ : ∃ m, fuel = m + 1 := ⟨fuel - 1, by omega⟩
    obtain ⟨I', x1, x2, x3, x4⟩ := ih (k + 1) fuel (h_u I 37 k (nI 0)) (by omega) (by omega)
    refine ⟨I', ?_, fun a i hh => by rw [x2 a i hh, h_u_off2 _ _ _ _ hh], fun i hi => by rw [x3 i (by omega), h_u_pl _ _ _ (by omega)], fun i h1 h2 => ?_⟩
    · show mHz_forget_B2 (mHz_forget_L2 fuel) _ _ = _
      unfold mHz_forget_B2
      rw [li_4, if_neg (fun q => by have := (nI_leI (by omega) (by omega)).mp q; omega), hg_in _ (by omega) (by omega), hl_eq, nI_clamp (by omega), li_1, nI_add, li_0]
      exact x1
    · by_cases e : i = k
      · subst e; rw [x3 i (by omega), h_u_at]
      · exact x4 i (by omega) h2
/-- the program that both sides hold -/
def pgQ (t w h sz n np wt : Nat) (Q : rD) (P E : cE) (pr : Nat → Int) (bn : Nat → Nat) (Ic Im : hI) : Prop := (∃ f0, bodyOk Q f0 6 0 n 0 sz) ∧ w * h ≤ 10 ∧ (∃ v0, enQ t w h sz n v0 Q P E pr Ic Im) ∧ whQ t w wt E Ic Im ∧ bdQ np bn Ic Im ∧ np ≤ 3 ∧ Ic t 8 = nI np ∧ Im 0 43 = nI np ∧ Im 0 41 = nI (w * h) ∧ Im 0 46 = ptI 24 (ptN 0 n)
theorem pgQ_of {Ic Ic' Im Im' : hI} (H : pgQ t w h sz n np wt Q P E pr bn Ic Im) (oc : ∀ c i, t ≤ c → Ic' c i = Ic c i) (o1 : Ic' 0 13 = Ic 0 13 ∧ Ic' 0 14 = Ic 0 14) (om : ∀ c i, 2 ≤ c → c ≤ 24 → Im' c i = Im c i) (o0 : ∀ i, 39 ≤ i → i ≤ 46 → Im' 0 i = Im 0 i) : pgQ t w h sz n np wt Q P E pr bn Ic' Im' := by
  obtain ⟨a1, a2, ⟨v0, a3⟩, a4, ⟨b1, b2, b3, b4, b5⟩, a6, a7, a8, a9, a10⟩ := H
  exact ⟨a1, a2, ⟨Im' 0 58, enQ_set a3 oc (fun c i q1 q2 => om c i q1 (by omega)) ⟨o0 39 (by decide) (by decide), o0 40 (by decide) (by decide)⟩ rfl⟩, whQ_of a4 oc (fun c i q1 q2 => om c i q1 (by omega)) ⟨o0 39 (by decide) (by decide), o0 44 (by decide) (by decide), o0 45 (by decide) (by decide)⟩, ⟨b1, b2, by rw [o1.1]; exact b3, by rw [o1.2]; exact b4, fun k hk => by rw [om 24 k (by decide) (by decide)]; exact b5 k hk⟩, a6, by rw [oc t 8 (Nat.le_refl _)]; exact a7, by rw [o0 43 (by decide) (by decide)]; exact a8, by rw [o0 41 (by decide) (by decide)]; exact a9, by rw [o0 46 (by decide) (by decide)]; exact a10⟩
theorem renew_both {B : Bool × Bool} {Ic Im : hI} {Jc Jm : hJ} (hB : h_pr B = t) (ht : 61 ≤ t) (H : pgQ t w h sz n np wt Q P E pr bn Ic Im) : ∃ (Ic' Im' : hI) (D : rD), mC_renew Ic B = some Ic' ∧ mM_laysRounds Im = some Im' ∧ rOk D ∧ cR D Ic' ∧ mR D Im' ∧ (D 0 0 = w * h ∧ D 0 1 = w ∧ D 0 2 = h) ∧ plB D Ic' Jc Im' Jm ∧ hzOk D Ic' Jc ∧ coK D Ic' Jc ∧ (∀ a i, (a < 6 ∨ (13 < a ∧ a ≠ 37 ∧ a ≠ 38)) → Ic' a i = Ic a i) ∧ (∀ a i, (a < 25 ∨ 29 < a) → (a ≠ 0 ∨ i < 53 ∨ (61 < i ∧ i ≠ 67)) → Im' a i = Im a i) := by
  have H0 := H
  obtain ⟨⟨f0, hb⟩, hN, ⟨v0, a3⟩, a4, a5, a6, a7, a8, a9, a10⟩ := H
  have hw := a3.2.2.1
  have hh := a3.2.2.2.1
  have t4 := a3.2.2.2.2.2.2.2.2.1
  have t5 := a3.2.2.2.2.2.2.2.2.2.1
  -- the class's states
  obtain ⟨I4, hI4⟩ : ∃ I, I = h_u (h_u (h_u (h_u Ic 7 7 (nI (w - 1))) 7 8 (nI (h - 1))) 7 5 (nI (w * h))) 7 6 (nI 0) := ⟨_, rfl⟩
  have o4 : ∀ a i, a ≠ 7 → I4 a i = Ic a i := fun a i q => by
    rw [hI4, h_u_off2 _ _ _ _ q, h_u_off2 _ _ _ _ q, h_u_off2 _ _ _ _ q, h_u_off2 _ _ _ _ q]
  have q5 : I4 7 5 = nI (w * h) := by rw [hI4]; simp (disch := omega) only [h_u_at, h_u_pl]
  have q7 : I4 7 7 = nI (w - 1) := by rw [hI4]; simp (disch := omega) only [h_u_at, h_u_pl]
  have q8 : I4 7 8 = nI (h - 1) := by rw [hI4]; simp (disch := omega) only [h_u_at, h_u_pl]
  obtain ⟨I5, x1, x2, x3⟩ := ms_L ht hw hN (w * h) 0 hF I4 Im (by omega) (by unfold hF; omega) (whQ_of a4 (fun c i q => o4 c i (by omega)) (fun _ _ _ _ => rfl) ⟨rfl, rfl, rfl⟩) q5 q7 (by rw [hI4, h_u_at]; exact bm_congr (bm_zero _) (fun u hu => by simp))
  have topS : mRo_makeStates t Ic = some I5 := by
    have e1 : w - 1 + 1 = w := by omega
    have e2 : h - 1 + 1 = h := by omega
    have g1 : h_u Ic 7 7 (nI (w - 1)) t 5 = nI (h - 1) := by rw [h_u_off2 _ _ _ _ (by omega)]; exact t5
    have g2 : h_u (h_u Ic 7 7 (nI (w - 1))) 7 8 (nI (h - 1)) 7 7 = nI (w - 1) := by rw [h_u_pl _ _ _ (by decide), h_u_at]
    have g3 : h_u (h_u Ic 7 7 (nI (w - 1))) 7 8 (nI (h - 1)) 7 8 = nI (h - 1) := by rw [h_u_at]
    rw [← x1, hI4]
    unfold mRo_makeStates
    rw [hl_eq, hl_eq, hl_eq, hl_eq, t4, g1, g2, g3, li_1, nI_add, nI_add, e1, e2, nI_mul, li_10, if_neg (fun q => by have := (nI_ltI (by omega) (by omega)).mp q; omega), li_0]
  have o5 : ∀ a i, a ≠ 7 → I5 a i = Ic a i := fun a i q => by rw [x2 a i (by omega), o4 a i q]
  -- the reference's mark
  have oM : ∀ a i, (a ≠ 0 ∨ i ≠ 67) → h_u Im 0 67 (nI 0) a i = Im a i := fun a i q => by
    by_cases e : a = 0
    · subst e; exact h_u_pl _ _ _ (by omega)
    · exact h_u_off2 _ _ _ _ e
  have HP : pgQ t w h sz n np wt Q P E pr bn I5 (h_u Im 0 67 (nI 0)) := pgQ_of H0 (fun c i q => o5 c i (by omega)) ⟨o5 0 13 (by decide), o5 0 14 (by decide)⟩ (fun c i q1 q2 => oM c i (by omega)) (fun i q1 q2 => oM 0 i (by omega))
  have HL : lyQ t w h sz n np wt Q P E pr bn I5 (h_u Im 0 67 (nI 0)) := by
    obtain ⟨_, _, p3, p4, p5, p6, p7, p8, p9, p10⟩ := HP
    exact ⟨p3, p4, p5, p6, p7, p8, by rw [x2 7 5 (by decide)]; exact q5, by rw [x2 7 7 (by decide)]; exact q7, p9, p10, x3⟩
  obtain ⟨I6, Im6, y1, y2, y3, y4, y5, y6⟩ := sr_L hb ht hN (w * h) 0 hF hF I5 (h_u Im 0 67 (nI 0)) (by omega) (by unfold hF; omega) (by unfold hF; omega) HL (fun u hu => by omega)
  have c8 : I6 7 8 = nI (h - 1) := by rw [y5 7 8 (by decide) (by decide), x2 7 8 (by decide)]; exact q8
  have m40 : Im6 0 40 = nI h := by obtain ⟨⟨_, q⟩, _⟩ := y3; exact q.2.2.2.2.2.2.2.2.2.2.2.1
  have m39 : Im6 0 39 = nI w := by obtain ⟨⟨_, q⟩, _⟩ := y3; exact q.2.2.2.2.2.2.2.2.2.2.1
  obtain ⟨r1, r2, r3⟩ := rd_ok hw.1 hh.1 hN y4 y3.2.2.2.2.2.2.1 y3.2.2.2.2.2.2.2.1 c8 y3.2.2.2.2.2.2.2.2.2.2 y3.2.2.2.2.2.2.2.2.1 m39 m40
  have cp := ro_countPlans r1 r2
  generalize hDD : rdD w h I6 = D at r1 r2 r3 cp
  have hdd : D 0 0 = w * h ∧ D 0 1 = w ∧ D 0 2 = h := by rw [← hDD]; exact ⟨rfl, rfl, rfl⟩
  generalize hpp : (if pN D (D 0 0) ≤ 64 then nI (pN D (D 0 0)) else (-2 : Int32)) = pp at cp
  obtain ⟨I7, hI7⟩ : ∃ I, I = h_u (h_u I6 7 9 pp) 13 1 (nI 0) := ⟨_, rfl⟩
  obtain ⟨I8, z1, z2, z3, z4⟩ := fg_L 4 0 hF I7 (by omega) (by unfold hF; omega)
  have o7 : ∀ a i, (a ≠ 7 ∨ i ≠ 9) → (a ≠ 13 ∨ i ≠ 1) → I7 a i = I6 a i := fun a i e1 e2 => by
    rw [hI7]
    by_cases q : a = 13
    · subst q; rw [h_u_pl _ _ _ (by omega), h_u_off2 _ _ _ _ (by decide)]
    · rw [h_u_off2 _ _ _ _ q]
      by_cases q2 : a = 7
      · subst q2; rw [h_u_pl _ _ _ (by omega)]
      · rw [h_u_off2 _ _ _ _ q2]
  have o9 : ∀ a i, (a ≠ 38 ∨ i ≠ 1) → h_u I8 38 1 (nI 0) a i = I8 a i := fun a i e => by
    by_cases q : a = 38
    · subst q; exact h_u_pl _ _ _ (by omega)
    · exact h_u_off2 _ _ _ _ q
  have keep : ∀ a i, a ≠ 37 → (a ≠ 7 ∨ i ≠ 9) → (a ≠ 13 ∨ i ≠ 1) → (a ≠ 38 ∨ i ≠ 1) → h_u I8 38 1 (nI 0) a i = I6 a i := fun a i e0 e1 e2 e3 => by rw [o9 a i e3, z2 a i e0, o7 a i e1 e2]
  refine ⟨h_u I8 38 1 (nI 0), Im6, D, ?_, ?_, r1, ?_, r3, hdd, ⟨?_, fun _ => ⟨Or.inl ?_, Or.inl ?_⟩⟩, fun u hu => ⟨0, by omega, ?_, fun k s q => by omega⟩, Or.inl (h_u_at _ _ _ _), fun a i q => ?_, fun a i q1 q2 => ?_⟩
  · have e13 : I5 0 13 = nI (bmk (bn 0) (bn 1) (bn 2)) := by rw [o5 0 13 (by decide)]; exact a5.2.2.1
    have e14 : I5 0 14 = nI (bto (bn 0) (bn 1) (bn 2)) := by rw [o5 0 14 (by decide)]; exact a5.2.2.2.1
    have eC : mRo_makeChoices t (nI (bmk (bn 0) (bn 1) (bn 2))) (nI (bto (bn 0) (bn 1) (bn 2))) I5 = some (h_u I6 7 9 pp) := by
      unfold mRo_makeChoices
      rw [li_0, y1, cp]
      rfl
    have eF : mHz_forget I7 = some I8 := by
      unfold mHz_forget
      rw [li_0]
      exact z1
    unfold mC_renew
    rw [hB, topS, Option.bind_some, e13, e14, eC, Option.bind_some, hl_eq, li_0, ← hI7, eF, Option.bind_some, hl_eq]
  · unfold mM_laysRounds
    rw [hl_eq, li_0]
    exact y2
  · obtain ⟨k1, k2, k3, k4, k5, k6⟩ := r2
    refine ⟨by rw [keep 7 5 (by decide) (by decide) (by decide) (by decide)]; exact k1, by rw [keep 7 7 (by decide) (by decide) (by decide) (by decide)]; exact k2, by rw [keep 7 8 (by decide) (by decide) (by decide) (by decide)]; exact k3, by rw [keep 7 6 (by decide) (by decide) (by decide) (by decide)]; exact k4, fun s hs => by rw [keep 8 s (by omega) (by omega) (by omega) (by omega)]; exact k5 s hs, fun s hs c hc => ?_⟩
    obtain ⟨g1, g2, g3, g4⟩ := k6 s hs c hc
    exact ⟨by rw [keep 9 _ (by omega) (by omega) (by omega) (by omega)]; exact g1, by rw [keep 10 _ (by omega) (by omega) (by omega) (by omega)]; exact g2, by rw [keep 11 _ (by omega) (by omega) (by omega) (by omega)]; exact g3, fun u hu => by rw [keep 12 _ (by omega) (by omega) (by omega) (by omega)]; exact g4 u hu⟩
  · rw [o9 7 9 (by decide), z2 7 9 (by decide), hI7, h_u_off2 _ _ _ _ (by decide), h_u_at, hpp]
  · rw [o9 13 1 (by decide), z2 13 1 (by decide), hI7, h_u_at]
  · rw [y6 0 67 (by decide) (by decide), h_u_at]
  · rw [o9 37 u (by omega)]; exact z4 u (by omega) hu
  · rw [keep a i (by omega) (by omega) (by omega) (by omega), y5 a i (by omega) (by omega), o5 a i (by omega)]
  · rw [y6 a i (by omega) q1, oM a i (by omega)]
end Rn
