/-! rule, bind: both sides alike. -/
/-- how many plans, told by both -/
theorem plans_m {D : rD} (hD : rOk D) {I : hI} (hm : mR D I) : mM_plansTold I = some (if pN D (D 0 0) ≤ 64 then nI (pN D (D 0 0)) else (-2 : Int32)) := by
  have hq := pQ_spec D (D 0 0)
  unfold mM_plansTold
  rw [mp_many hD hm, Option.bind_some]
  by_cases c : 64 < pN D (D 0 0)
  · rw [decide_eq_true c, if_neg (by decide), if_neg (by omega)]
  · rw [decide_eq_false c, if_pos (by decide), mp_plans hD hm, Option.bind_some, hq.1 (by omega), if_pos (by omega)]
theorem bits_m {D : rD} (hD : rOk D) {Ic Im : hI} (hc : cR D Ic) (hm : mR D Im) : mM_insideBits Im = some (Ic 7 6) := by
  have hn := hD.2.1
  obtain ⟨y, h1, h2⟩ := mp_inBits_L hD hm (D 0 0) 0 hF (nI 0) (by omega) (by unfold hF; omega) (bm_congr (bm_zero _) (fun s hs => by simp))
  have e : y = Ic 7 6 := bm_eq h2 hc.2.2.2.1 (fun t ht => rfl)
  unfold mM_insideBits
  rw [li_0, h1, e]
def bkI (b k : Nat) : Int32 := if b = 0 then nI 0 else nI 1 <<< (nI k &&& nI 31)
theorem bk_all : ∀ b0, b0 < 3 → ∀ b1, b1 < 3 → ∀ b2, b2 < 3 → (((nI 0 ||| bkI b0 0) ||| bkI b1 1) ||| bkI b2 2) = nI (bmk b0 b1 b2) := by decide +kernel
theorem rl_step {I : hI} {b k : Nat} (hb : b < 3) (hk : k < 3) (h : I 24 k = bdI b) (x : Int32) (fuel : Nat) : mM_rule_L120 (fuel + 1) x (nI k) I = mM_rule_L120 fuel (x ||| bkI b k) (nI (k + 1)) I := by
  show mM_rule_B120 (mM_rule_L120 fuel) x (nI k) I = _
  unfold mM_rule_B120 bkI
  rw [li_3, if_neg (fun w => by have := (nI_leI (by omega) (by omega)).mp w; omega), hg_in _ hk (by omega), nI_clamp (by omega), h, hl_eq, hl_eq]
  by_cases c : b = 0
  · subst c
    rw [if_pos rfl, if_pos (show bdI 0 = (-1 : Int32) from rfl), li_1, nI_add]
    rfl
  · have e : ¬ bdI b = (-1 : Int32) := by
      unfold bdI
      rw [if_neg c]
      exact nI_nem1 (by omega)
    rw [if_neg e, if_neg c, li_1, li_31, nI_add]
theorem rule8_m {np : Nat} {bn : Nat → Nat} {Ic Im I : hI} (h : bdQ np bn Ic Im) (hI : ∀ k, I 24 k = Im 24 k) : mM_rule_L120 hF (nI 0) (nI 0) I = some (Ic 0 13, I) := by
  obtain ⟨a1, a2, a3, a4, a5⟩ := h
  have g : ∀ k, k < 3 → I 24 k = bdI (bn k) := fun k hk => by rw [hI]; exact a5 k hk
  have e1 := rl_step (a1 0) (by omega) (g 0 (by omega)) (nI 0) 999
  have e2 := rl_step (a1 1) (by omega) (g 1 (by omega)) (nI 0 ||| bkI (bn 0) 0) 998
  have e3 := rl_step (a1 2) (by omega) (g 2 (by omega)) ((nI 0 ||| bkI (bn 0) 0) ||| bkI (bn 1) 1) 997
  have e4 : mM_rule_L120 997 (((nI 0 ||| bkI (bn 0) 0) ||| bkI (bn 1) 1) ||| bkI (bn 2) 2) (nI 3) I = some ((((nI 0 ||| bkI (bn 0) 0) ||| bkI (bn 1) 1) ||| bkI (bn 2) 2), I) := by
    show mM_rule_B120 (mM_rule_L120 996) _ (nI 3) I = _
    unfold mM_rule_B120
    rw [if_pos (by decide)]
  show mM_rule_L120 (999 + 1) (nI 0) (nI 0) I = _
  rw [e1]
  show mM_rule_L120 (998 + 1) _ (nI 1) I = _
  rw [e2]
  show mM_rule_L120 (997 + 1) _ (nI 2) I = _
  rw [e3]
  show mM_rule_L120 997 _ (nI 3) I = _
  rw [e4, bk_all _ (a1 0) _ (a1 1) _ (a1 2), a3]
theorem rw_rule : stp_rule RelW := by
  rintro Ic Jc B Im Jm ⟨hl, hg, D, h, hr, hca⟩ v1
  have h0 := h
  obtain ⟨_, ⟨⟨g1, g2⟩, g3, g4⟩, ⟨f1, f2, f3⟩, _, f5⟩ := h0
  have e37 : h_u Im 0 0 (nI 0) 0 37 = bI hl := by rw [hu_fr (by omega)]; exact f2
  have z1 : ¬ nI 1 = (0 : Int32) := by decide
  by_cases q : hl = true
  · subst q
    obtain ⟨hD, hc, hm⟩ := f3 rfl
    obtain ⟨w, hh, sz, n, np, wt, Q, bn, b1, b2, b3⟩ := f5 rfl
    have b1' := b1
    obtain ⟨⟨d1, d2, d3⟩, _, ⟨c3, c4, c5, c6, c7, c8, c9, c10⟩, ⟨m39, m40, m41, m42, m43, m44, m45, m46⟩, _, _⟩ := b1'
    have hm0 : mR D (h_u Im 0 0 (nI 0)) := mR_of hm (fun c i w1 w2 => hu_fr (by omega)) (fun i w1 w2 => hu_fr (by omega))
    have f1 : Ic 0 11 = nI 1 := f1
    have e37 : h_u Im 0 0 (nI 0) 0 37 = nI 1 := e37
    have topC0 : mC_rule v1 Ic B = mC_rule_13 v1 (nI 0) Ic B := by
      unfold mC_rule
      rw [f1, if_neg z1]
      rfl
    rcases range_splitL v1 (n := 9) (by omega) (k := (8 : Int64)) rfl with ⟨j, q1, rfl, q3, q4⟩ | ⟨q1, q2, q3⟩
    · have topC : mC_rule (nI j) Ic B = (if nI j = 0 then some ((Ic (h_pr B) 4), Ic) else (if nI j = 1 then some ((Ic (h_pr B) 5), Ic) else (if nI j = 2 then some ((Ic 7 5), Ic) else (if nI j = 3 then some ((Ic 7 6), Ic) else (if nI j = 4 then some ((Ic (h_pr B) 7), Ic) else (if nI j = 5 then some ((Ic (h_pr B) 8), Ic) else (if nI j = 6 then some ((Ic 7 9), Ic) else (if nI j = 7 then (if (Ic 0 12) = 0 then some ((0 : Int32), Ic) else some ((Ic (h_td B) 7), Ic)) else some ((Ic 0 13), Ic))))))))) := by
        rw [topC0]
        unfold mC_rule_13
        rw [li_0, c_refuse0, Option.bind_some, if_pos (show ((nI 0, Ic) : Int32 × hI).1 = nI 0 from rfl)]
        show ((mC_refuse (mC_isOutside (nI j) (nI 9)) (nI 1) Ic).bind _) = _
        rw [q3, c_refuse0, Option.bind_some]
        rfl
      have topM : mM_rule (nI j) Im = (if nI j = 0 then some (((h_u Im 0 0 (nI 0) 0 39) - (1 : Int32)), h_u Im 0 0 (nI 0)) else (if nI j = 1 then some (((h_u Im 0 0 (nI 0) 0 40) - (1 : Int32)), h_u Im 0 0 (nI 0)) else (if nI j = 2 then some ((h_u Im 0 0 (nI 0) 0 41), h_u Im 0 0 (nI 0)) else (if nI j = 3 then ((mM_insideBits (h_u Im 0 0 (nI 0))).bind fun q3 => some (q3, h_u Im 0 0 (nI 0))) else (if nI j = 4 then some ((h_u Im 0 0 (nI 0) 0 42), h_u Im 0 0 (nI 0)) else (if nI j = 5 then some ((h_u Im 0 0 (nI 0) 0 43), h_u Im 0 0 (nI 0)) else (if nI j = 6 then ((mM_plansTold (h_u Im 0 0 (nI 0))).bind fun q3 => some (q3, h_u Im 0 0 (nI 0))) else (if nI j = 7 then some ((h_u Im 0 0 (nI 0) 0 47), h_u Im 0 0 (nI 0)) else mM_rule_L120 hF (0 : Int32) (0 : Int32) (h_u Im 0 0 (nI 0)))))))))) := by
        unfold mM_rule
        rw [hl_eq]
        show ((mM_isRefused (mM_in (nI j).toInt64 (0 : Int64) (8 : Int64)) (nI 0) (h_u Im 0 0 (nI 0))).bind _) = _
        rw [q4, m_ref2 e37, Option.bind_some]
        rfl
      have e39 : ∀ i, i ≠ 0 → h_u Im 0 0 (nI 0) 0 i = Im 0 i := fun i w => hu_fr (by omega)
      have fin : ∀ a, mC_rule (nI j) Ic B = some (a, Ic) → mM_rule (nI j) Im = some (a, h_u Im 0 0 (nI 0)) → ∃ (v : Int32) (Ic' Im' : hI), mC_rule (nI j) Ic B = some (v, Ic') ∧ mM_rule (nI j) Im = some (v, Im') ∧ RelW Ic' Jc B Im' Jm := fun a x1 x2 => ⟨a, Ic, _, x1, x2, rel_R h hca (onlyR_0 hr)⟩
      have hj : j = 0 ∨ j = 1 ∨ j = 2 ∨ j = 3 ∨ j = 4 ∨ j = 5 ∨ j = 6 ∨ j = 7 ∨ j = 8 := by omega
      rcases hj with rfl | rfl | rfl | rfl | rfl | rfl | rfl | rfl | rfl
      · refine fin (nI (w - 1)) ?_ ?_
        · rw [topC, if_pos (by decide), c4]
        · rw [topM, if_pos (by decide), e39 39 (by omega), m39, li_1, nI_subN (by omega)]
      · refine fin (nI (hh - 1)) ?_ ?_
        · rw [topC, if_neg (by decide), if_pos (by decide), c5]
        · rw [topM, if_neg (by decide), if_pos (by decide), e39 40 (by omega), m40, li_1, nI_subN (by omega)]
      · refine fin (nI (D 0 0)) ?_ ?_
        · rw [topC, if_neg (by decide), if_neg (by decide), if_pos (by decide), hc.1]
        · rw [topM, if_neg (by decide), if_neg (by decide), if_pos (by decide), e39 41 (by omega), hm.1]
      · refine fin (Ic 7 6) ?_ ?_
        · rw [topC, if_neg (by decide), if_neg (by decide), if_neg (by decide), if_pos (by decide)]
        · rw [topM, if_neg (by decide), if_neg (by decide), if_neg (by decide), if_pos (by decide), bits_m hD hc hm0, Option.bind_some]
      · refine fin (nI n) ?_ ?_
        · rw [topC, if_neg (by decide), if_neg (by decide), if_neg (by decide), if_neg (by decide), if_pos (by decide), c7]
        · rw [topM, if_neg (by decide), if_neg (by decide), if_neg (by decide), if_neg (by decide), if_pos (by decide), e39 42 (by omega), m42]
      · refine fin (nI np) ?_ ?_
        · rw [topC, if_neg (by decide), if_neg (by decide), if_neg (by decide), if_neg (by decide), if_neg (by decide), if_pos (by decide), c8]
        · rw [topM, if_neg (by decide), if_neg (by decide), if_neg (by decide), if_neg (by decide), if_neg (by decide), if_pos (by decide), e39 43 (by omega), m43]
      · refine fin (if pN D (D 0 0) ≤ 64 then nI (pN D (D 0 0)) else (-2 : Int32)) ?_ ?_
        · rw [topC, if_neg (by decide), if_neg (by decide), if_neg (by decide), if_neg (by decide), if_neg (by decide), if_neg (by decide), if_pos (by decide), (hca rfl).1.1]
        · rw [topM, if_neg (by decide), if_neg (by decide), if_neg (by decide), if_neg (by decide), if_neg (by decide), if_neg (by decide), if_pos (by decide), plans_m hD hm0, Option.bind_some]
      · refine fin (Im 0 47) ?_ ?_
        · rw [topC, if_neg (by decide), if_neg (by decide), if_neg (by decide), if_neg (by decide), if_neg (by decide), if_neg (by decide), if_neg (by decide), if_pos (by decide), g1]
          cases hg
          · rw [if_pos (by decide), g3 rfl]
            rfl
          · obtain ⟨J, hJ⟩ := g4 rfl
            rw [if_neg (by decide), hJ.2.1.1, hJ.2.1.2]
        · rw [topM, if_neg (by decide), if_neg (by decide), if_neg (by decide), if_neg (by decide), if_neg (by decide), if_neg (by decide), if_neg (by decide), if_pos (by decide), e39 47 (by omega)]
      · refine fin (Ic 0 13) ?_ ?_
        · rw [topC, if_neg (by decide), if_neg (by decide), if_neg (by decide), if_neg (by decide), if_neg (by decide), if_neg (by decide), if_neg (by decide), if_neg (by decide)]
        · rw [topM, if_neg (by decide), if_neg (by decide), if_neg (by decide), if_neg (by decide), if_neg (by decide), if_neg (by decide), if_neg (by decide), if_neg (by decide)]
          exact rule8_m b2 (fun k => hu_fr (by omega))
    · refine ⟨(-2 : Int32), _, _, ?_, ?_, rel_R h hca (onlyR_bump hr (nI 0) (k := 1) (by omega))⟩
      · rw [topC0]
        unfold mC_rule_13
        rw [li_0, c_refuse0, Option.bind_some, if_pos (show ((nI 0, Ic) : Int32 × hI).1 = nI 0 from rfl)]
        show ((mC_refuse (mC_isOutside v1 (nI 9)) (nI 1) Ic).bind _) = _
        rw [q2, c_refuse1 (by omega), Option.bind_some]
        rfl
      · unfold mM_rule
        rw [hl_eq]
        show ((mM_isRefused (mM_in v1.toInt64 (0 : Int64) (8 : Int64)) (nI 0) (h_u Im 0 0 (nI 0))).bind _) = _
        rw [q3, m_ref1 e37, Option.bind_some]
        rfl
  · have hlf : hl = false := by cases hl; rfl; exact absurd rfl q
    subst hlf
    have f1 : Ic 0 11 = nI 0 := f1
    have e37 : h_u Im 0 0 (nI 0) 0 37 = nI 0 := e37
    refine ⟨(-2 : Int32), _, _, ?_, ?_, rel_R h hca (onlyR_bump hr (nI 0) (k := 0) (by omega))⟩
    · unfold mC_rule
      rw [f1, if_pos (show nI 0 = (0 : Int32) from rfl)]
      unfold mC_rule_13
      show ((mC_refuse (nI 1) (nI 0) Ic).bind _) = _
      rw [c_refuse1 (by omega), Option.bind_some]
      rfl
    · unfold mM_rule
      rw [hl_eq]
      show ((mM_isRefused (mM_in v1.toInt64 (0 : Int64) (8 : Int64)) (nI 0) (h_u Im 0 0 (nI 0))).bind _) = _
      rw [m_ref0 e37, Option.bind_some]
      rfl
