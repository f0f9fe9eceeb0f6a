/-! price: both sides alike. -/
theorem ctQ_mono (Q : rD) (kd x : Nat) : ∀ d, ctQ Q kd x ≤ ctQ Q kd (x + d) := by
  intro d
  induction d with
  | zero => exact Nat.le_refl _
  | succ d ih =>
    have e : x + (d + 1) = (x + d) + 1 := by omega
    rw [e, ctQ]
    omega
theorem ctQ_lt {Q : rD} {kd x y : Nat} (h : Q 0 x = kd) (hy : x < y) : ctQ Q kd x < ctQ Q kd y := by
  have h1 := ctQ_mono Q kd (x + 1) (y - (x + 1))
  have e : x + 1 + (y - (x + 1)) = y := by omega
  rw [e, ctQ, if_pos h] at h1
  omega
/-- the k-th of a kind -/
theorem ctQ_find {Q : rD} {kd k : Nat} : ∀ n, k < ctQ Q kd n → ∃ x, x < n ∧ Q 0 x = kd ∧ ctQ Q kd x = k := by
  intro n
  induction n with
  | zero => intro h; exact absurd h (Nat.not_lt_zero _)
  | succ n ih =>
    intro h
    by_cases c : k < ctQ Q kd n
    · obtain ⟨x, q1, q2, q3⟩ := ih c
      exact ⟨x, by omega, q2, q3⟩
    · rw [ctQ] at h
      by_cases d : Q 0 n = kd
      · rw [if_pos d] at h
        exact ⟨n, by omega, d, by omega⟩
      · rw [if_neg d] at h
        omega
/-- the reference looks for it -/
theorem pz_L {n k s0 v : Nat} {Q : rD} {I : hI} {v2 : Int32} (hn : n ≤ 24) (hv : v ≤ 20) (h42 : I 0 42 = nI n) (h9 : ∀ x, x < n → I 9 (24 + x) = nI (Q 0 x) ∧ Q 0 x ≤ 6) (hs0 : s0 < n) (hk : Q 0 s0 = 2) (hct : ctQ Q 2 s0 = k) (h10 : I 10 (24 + s0) = nI v) : ∀ (r s fuel : Nat), s + r = s0 → r + 2 < fuel → mM_price_L69 fuel v2 (nI (k - ctQ Q 2 s)) (-1 : Int32) (nI (24 + s)) I = mM_price_128 (nI v) (h_u I 10 (24 + s0) v2) := by
  have hk24 : k ≤ 24 := by have := ctQ_le Q 2 s0; omega
  intro r
  induction r with
  | zero =>
    intro s fuel hs hf
    obtain ⟨fuel, rfl⟩ : ∃ m, fuel = m + 2 := ⟨fuel - 2, by omega⟩
    obtain rfl : s = s0 := by omega
    have e42 : h_u I 10 (24 + s) v2 0 42 = nI n := by rw [hu_fr (by omega)]; exact h42
    show mM_price_B69 (mM_price_L69 (fuel + 1)) v2 _ (-1 : Int32) _ I = _
    unfold mM_price_B69
    rw [h42, li_24, nI_add, if_neg (fun w => by have := (nI_leI (by omega) (by omega)).mp w; omega), if_pos rfl, hg_in _ (by omega) (by omega), nI_clamp (by omega), (h9 s hs0).1, hk, if_pos (by decide), hct, Nat.sub_self, if_pos (show nI 0 = (0 : Int32) from rfl), hg_in _ (by omega) (by omega), hl_eq, hg_in _ (by omega) (by omega), hl_eq, h10, li_1, nI_add]
    show mM_price_B69 (mM_price_L69 fuel) v2 _ (nI v) (nI (24 + s + 1)) (h_u I 10 (24 + s) v2) = _
    unfold mM_price_B69
    rw [if_neg (nI_nem1 (by omega))]
    split <;> rfl
  | succ r ih =>
    intro s fuel hs hf
    obtain ⟨fuel, rfl⟩ : ∃ m, fuel = m + 1 := ⟨fuel - 1, by omega⟩
    obtain ⟨g1, g2⟩ := h9 s (by omega)
    have go := ih (s + 1) fuel (by omega) (by omega)
    have hle : ctQ Q 2 (s + 1) ≤ k := by
      have := ctQ_mono Q 2 (s + 1) (s0 - (s + 1))
      have e : s + 1 + (s0 - (s + 1)) = s0 := by omega
      rw [e, hct] at this
      exact this
    have n1 : ctQ Q 2 (s + 1) = ctQ Q 2 s + (if Q 0 s = 2 then 1 else 0) := rfl
    have e24 : 24 + s + 1 = 24 + (s + 1) := by omega
    show mM_price_B69 (mM_price_L69 fuel) v2 _ (-1 : Int32) _ I = _
    unfold mM_price_B69
    rw [h42, li_24, nI_add, if_neg (fun w => by have := (nI_leI (by omega) (by omega)).mp w; omega), if_pos rfl, hg_in _ (by omega) (by omega), nI_clamp (by omega), g1]
    by_cases c : Q 0 s = 2
    · rw [if_pos c] at n1
      have e1 : nI (k - ctQ Q 2 s) + (-1 : Int32) = nI (k - ctQ Q 2 (s + 1)) := by
        rw [nI_addm1 (by omega)]
        congr 1
        omega
      have e2 : nI (24 + s) + (1 : Int32) = nI (24 + (s + 1)) := by rw [li_1, nI_add, e24]
      rw [c, if_pos (by decide), if_neg (fun w => by have := (nI_eq (by omega) (by omega)).mp (w.trans li_0); omega), e1, e2]
      exact go
    · rw [if_neg c, Nat.add_zero] at n1
      have e2 : nI (24 + s) + (1 : Int32) = nI (24 + (s + 1)) := by rw [li_1, nI_add, e24]
      rw [if_neg (fun w => c ((nI_eq (by omega) (by omega)).mp (w.trans li_2))), e2]
      rw [ctQ, if_neg c, Nat.add_zero] at go
      exact go
theorem rw_price : stp_price RelW := by
  rintro Ic Jc B Im Jm ⟨hl, hg, D, h, hr, hca⟩ v1 v2
  have hpr := pr_ge B
  have h0 := h
  obtain ⟨_, _, ⟨f1, f2, f3⟩, _, f5⟩ := h0
  have e37 : h_u Im 0 0 (nI 0) 0 37 = bI hl := by rw [hu_fr (by omega)]; exact f2
  have z1 : ¬ nI 1 = (0 : Int32) := by decide
  by_cases q : hl = true
  · subst q
    obtain ⟨w, hh, sz, n, np, wt, Q, bn, b1, b2, b3⟩ := f5 rfl
    have b1' := b1
    obtain ⟨d0, ⟨d4, d5, hn, hnp⟩, ⟨c3, c4, c5, c6, c7, c8, c9, c10⟩, ⟨m39, m40, m41, m42, m43, m44, m45, m46⟩, hw, hx⟩ := b1'
    have f1 : Ic 0 11 = nI 1 := f1
    have e37 : h_u Im 0 0 (nI 0) 0 37 = nI 1 := e37
    have hcn := ctQ_le Q 2 n
    have ok := ofKind_m b1 (kd := 2) (by omega) (Im' := h_u Im 0 0 (nI 0)) (hu_fr (by omega)) (fun i => hu_fr (by omega))
    have topC0 : mC_price v1 v2 Ic B = if (mC_isOutside v1 (nI (ctQ Q 2 n))) = 0 then (if (mC_isOutside v2 (nI 21)) = 0 then mC_price_49 v1 v2 (0 : Int32) Ic B else mC_price_49 v1 v2 (1 : Int32) Ic B) else mC_price_49 v1 v2 (1 : Int32) Ic B := by
      unfold mC_price
      rw [f1, if_neg z1]
      unfold mC_price_13
      show ((mC_refuse (nI 0) (nI 0) Ic).bind _) = _
      rw [c_refuse0, Option.bind_some, ← c10]
      rfl
    have topM0 : mM_price v1 v2 Im = if (mM_in v1.toInt64 (0 : Int64) ((nI (ctQ Q 2 n) - nI 1).toInt64)) = 0 then mM_price_50 v1 v2 (h_u Im 0 0 (nI 0)) else (if (mM_in v2.toInt64 (0 : Int64) (20 : Int64)) = 0 then mM_price_50 v1 v2 (h_u Im 0 0 (nI 0)) else mM_price_51 v1 v2 (1 : Int32) (h_u Im 0 0 (nI 0))) := by
      unfold mM_price
      rw [hl_eq, li_0, e37, if_neg (show ¬ nI 1 = nI 0 by decide), li_2, ok, Option.bind_some]
      rfl
    -- refused
    have no : mC_price v1 v2 Ic B = mC_price_49 v1 v2 (1 : Int32) Ic B → mM_price v1 v2 Im = mM_price_50 v1 v2 (h_u Im 0 0 (nI 0)) → ∃ (v : Int32) (Ic' Im' : hI), mC_price v1 v2 Ic B = some (v, Ic') ∧ mM_price v1 v2 Im = some (v, Im') ∧ RelW Ic' Jc B Im' Jm := fun y1 y2 => by
      refine ⟨(-1 : Int32), _, _, ?_, ?_, rel_R h hca (onlyR_bump hr (nI 0) (k := 1) (by omega))⟩
      · rw [y1]
        unfold mC_price_49
        show ((mC_refuse (nI 1) (nI 1) Ic).bind _) = _
        rw [c_refuse1 (by omega), Option.bind_some]
        rfl
      · rw [y2]
        unfold mM_price_50 mM_price_51
        show ((mM_isRefused (nI 0) (nI 0) (h_u Im 0 0 (nI 0))).bind _) = _
        rw [m_ref1 e37, Option.bind_some]
        rfl
    rcases range_split v1 (n := ctQ Q 2 n) (by omega) with ⟨k, q1, rfl, q3, q4⟩ | ⟨q1, q2, q3⟩
    · rcases range_splitL v2 (n := 21) (by omega) (k := (20 : Int64)) rfl with ⟨y, p1, rfl, p3, p4⟩ | ⟨p1, p2, p3⟩
      · obtain ⟨s0, u1, u2, u3⟩ := ctQ_find n q1
        have hq1 : Q 1 s0 = k := by rw [(hx s0 u1).2 u2, u3]
        have h4 := (hx s0 u1).1.1.2.2.2.2.1 u2
        rw [hq1] at h4
        obtain ⟨k24, e1, v, hv, e5, e6⟩ := h4
        obtain ⟨I, hIe⟩ : ∃ J, J = h_u Ic (h_pr B + 8) k (nI y) := ⟨_, rfl⟩
        have fI : ∀ c i, (c ≠ h_pr B + 8 ∨ i ≠ k) → I c i = Ic c i := fun c i w => by rw [hIe, hu_fr w]
        obtain ⟨M, hM⟩ : ∃ J, J = h_u (h_u Im 0 0 (nI 0)) 10 (24 + s0) (nI y) := ⟨_, rfl⟩
        have fM : ∀ c i, (c ≠ 0 ∨ i ≠ 0) → (c ≠ 10 ∨ i ≠ 24 + s0) → M c i = Im c i := fun c i w1 w2 => by rw [hM, hu_fr w2, hu_fr w1]
        have cn : ∀ a b, b ≤ 166 → cnR 500 (h_pr B + 1) 750 a b Ic Im → cnR 500 (h_pr B + 1) 750 a b I M := fun a b hb H => cnR_of H (Nat.le_refl _) (fun c i q1 q2 q3 q4 => fI c i (by omega)) (fun c i q1 q2 q3 q4 => fM c i (by omega) (by omega)) (fun c i q1 q2 q3 q4 => fM c i (by omega) (by omega))
        have hK : ksP (h_pr B) w hh sz n np wt Q I M := by
          refine ⟨d0, ⟨d4, d5, hn, hnp⟩, ⟨by rw [fI _ 3 (by omega)]; exact c3, by rw [fI _ 4 (by omega)]; exact c4, by rw [fI _ 5 (by omega)]; exact c5, by rw [fI _ 6 (by omega)]; exact c6, by rw [fI _ 7 (by omega)]; exact c7, by rw [fI _ 8 (by omega)]; exact c8, by rw [fI _ 9 (by omega)]; exact c9, by rw [fI _ 10 (by omega)]; exact c10⟩, ⟨by rw [fM 0 39 (by omega) (by omega)]; exact m39, by rw [fM 0 40 (by omega) (by omega)]; exact m40, by rw [fM 0 41 (by omega) (by omega)]; exact m41, by rw [fM 0 42 (by omega) (by omega)]; exact m42, by rw [fM 0 43 (by omega) (by omega)]; exact m43, by rw [fM 0 44 (by omega) (by omega)]; exact m44, by rw [fM 0 45 (by omega) (by omega)]; exact m45, by rw [fM 0 46 (by omega) (by omega)]; exact m46⟩, ⟨hw.1, cn 0 wt hw.1.2 hw.2.1, by rw [fI _ 0 (by omega)]; exact hw.2.2⟩, fun x hxn => ?_⟩
          obtain ⟨⟨⟨a0, a1, a2, a3, a4, a5, a6⟩, g2, g3, g4⟩, g5⟩ := hx x hxn
          refine ⟨⟨⟨a0, by rw [fM 9 _ (by omega) (by omega)]; exact a1, by rw [fI _ 0 (by omega)]; exact a2, fun z => ?_, fun z => ?_, fun z => ?_, fun z => ?_⟩, g2, fun z => ?_, by rw [fM 15 _ (by omega) (by omega)]; exact g4⟩, g5⟩
          · obtain ⟨l, u, t1, t2, t3, t4, t5, t6⟩ := a3 z
            have hne : x ≠ s0 := fun e => by rw [e] at z; omega
            exact ⟨l, u, t1, by rw [fM 10 _ (by omega) (by omega)]; exact t2, smQ_of t3 (fun c q1 q2 => fM c l (by omega) (by omega)), by rw [fI _ 3 (by omega)]; exact t4, by rw [fI _ 4 (by omega)]; exact t5, by rw [fI _ 5 (by omega)]; exact t6⟩
          · by_cases e : x = s0
            · subst e
              rw [hq1]
              exact ⟨k24, by rw [fI _ 1 (by omega)]; exact e1, y, by omega, by rw [hIe, h_u_at], by rw [hM, h_u_at]⟩
            · obtain ⟨t1, t2, v', t3, t4, t5⟩ := a4 z
              have hne : Q 1 x ≠ k := fun w => by
                rw [g5 z] at w
                by_cases lt : x < s0
                · have := ctQ_lt z lt
                  omega
                · have := ctQ_lt u2 (show s0 < x by omega)
                  omega
              exact ⟨t1, by rw [fI _ 1 (by omega)]; exact t2, v', t3, by rw [fI _ _ (by omega)]; exact t4, by rw [fM 10 _ (by omega) (by omega)]; exact t5⟩
          · obtain ⟨t1, t2, t3⟩ := a5 z
            have hne : x ≠ s0 := fun e => by rw [e] at z; omega
            exact ⟨t1, by rw [fI _ 1 (by omega)]; exact t2, by rw [fM 10 _ (by omega) (by omega)]; exact t3⟩
          · obtain ⟨t1, t2, t3, t4, t5, t6, t7, t8⟩ := a6 z
            exact ⟨by rw [fI _ 6 (by omega)]; exact t1, by rw [fI _ 7 (by omega)]; exact t2, by rw [fM 11 _ (by omega) (by omega)]; exact t3, by rw [fM 12 _ (by omega) (by omega)]; exact t4, t5, t6, cn _ _ t6 t7, by rw [fI _ _ (by omega)]; exact t8⟩
          · obtain ⟨t0, t1, t2, t3, t4, t5⟩ := g3 z
            exact ⟨t0, by rw [fI _ 2 (by omega)]; exact t1, by rw [fI _ 0 (by omega)]; exact t2, by rw [fI _ 2 (by omega)]; exact t3, by rw [fM 13 _ (by omega) (by omega)]; exact t4, by rw [fM 14 _ (by omega) (by omega)]; exact t5⟩
        have hbd : bdQ np bn I M := bdQ_of b2 ⟨fI 0 13 (by omega), fI 0 14 (by omega)⟩ (fun k => fM 24 k (by omega) (by omega))
        obtain ⟨Ic', Im', D', r1, r2, r3, r5, r7, r8⟩ := rel_renew (Jc := Jc) (Jm := Jm) h hr hK hbd (fun c i w1 w2 => fI c i (by omega)) (fun c i w1 w2 w3 => fM c i w1 (by omega))
        refine ⟨nI v, Ic', Im', ?_, ?_, r8⟩
        · rw [topC0, q3, if_pos (show nI 0 = (0 : Int32) from rfl), p3, if_pos (show nI 0 = (0 : Int32) from rfl)]
          unfold mC_price_49
          show ((mC_refuse (nI 0) (nI 1) Ic).bind _) = _
          rw [c_refuse0, Option.bind_some, if_pos (show ((nI 0, Ic) : Int32 × hI).1 = (0 : Int32) from rfl), hg_in _ k24 (by omega), hl_eq, hg_in _ k24 (by omega), hl_eq, nI_clamp (by omega)]
          show ((mC_renew (h_u Ic (h_pr B + 8) k (nI y)) B).bind fun q6 => some (Ic (h_pr B + 8) k, q6)) = _
          rw [← hIe, r1, Option.bind_some, e5]
        · rw [topM0, q4, if_neg z1, p4, if_neg z1]
          unfold mM_price_51
          show ((mM_isRefused (nI 1) (nI 0) (h_u Im 0 0 (nI 0))).bind _) = _
          rw [m_ref2 e37, Option.bind_some, if_pos (show ((nI 0, h_u Im 0 0 (nI 0)) : Int32 × hI).1 = (0 : Int32) from rfl)]
          have go := pz_L (v := v) (v2 := nI y) (I := h_u Im 0 0 (nI 0)) (Q := Q) hn hv (by rw [hu_fr (by omega)]; exact m42) (fun x hxn => ⟨by rw [hu_fr (by omega)]; exact (hx x hxn).1.1.2.1, (hx x hxn).1.1.1⟩) u1 u2 u3 (by rw [hu_fr (by omega)]; exact e6) s0 0 hF (by omega) (by unfold hF; omega)
          have e0 : k - ctQ Q 2 0 = k := Nat.sub_zero k
          rw [e0] at go
          show mM_price_L69 hF (nI y) (nI k) (-1 : Int32) (nI (24 + 0)) (h_u Im 0 0 (nI 0)) = _
          rw [go, ← hM]
          unfold mM_price_128
          rw [r2, Option.bind_some]
      · refine no ?_ ?_
        · rw [topC0, q3, if_pos (show nI 0 = (0 : Int32) from rfl), p2, if_neg z1]
        · rw [topM0, q4, if_neg z1, p3, if_pos (show nI 0 = (0 : Int32) from rfl)]
    · refine no ?_ ?_
      · rw [topC0, q2, if_neg z1]
      · rw [topM0, q3, if_pos (show nI 0 = (0 : Int32) from rfl)]
  · have hlf : hl = false := by cases hl; rfl; exact absurd rfl q
    subst hlf
    have f1 : Ic 0 11 = nI 0 := f1
    have e37 : h_u Im 0 0 (nI 0) 0 37 = nI 0 := e37
    refine ⟨(-1 : Int32), _, _, ?_, ?_, rel_R h hca (onlyR_bump hr (nI 0) (k := 0) (by omega))⟩
    · unfold mC_price
      rw [f1, if_pos (show nI 0 = (0 : Int32) from rfl)]
      unfold mC_price_13
      show ((mC_refuse (nI 1) (nI 0) Ic).bind _) = _
      rw [c_refuse1 (by omega), Option.bind_some]
      rfl
    · have e51 : ∀ vs1, mM_price_51 v1 v2 vs1 (h_u Im 0 0 (nI 0)) = some ((-1 : Int32), h_u (h_u Im 0 0 (nI 0)) 42 0 (h_u Im 0 0 (nI 0) 42 0 + nI 1)) := fun vs1 => by
        unfold mM_price_51
        rw [m_ref0 e37, Option.bind_some]
        rfl
      unfold mM_price
      rw [hl_eq, li_0, e37, if_pos rfl]
      unfold mM_price_28 mM_price_50
      rw [e51, e51]
      split
      · rfl
      · split <;> rfl
