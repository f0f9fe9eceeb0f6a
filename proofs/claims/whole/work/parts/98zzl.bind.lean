/-! bind: both sides alike. -/
theorem v2_split (v : Int32) : (v = (-1 : Int32) ∧ mM_in v.toInt64 (-1 : Int64) (1 : Int64) = nI 1) ∨ (v = nI 0 ∧ mM_in v.toInt64 (-1 : Int64) (1 : Int64) = nI 1) ∨ (v = nI 1 ∧ mM_in v.toInt64 (-1 : Int64) (1 : Int64) = nI 1) ∨ ((v < (-1 : Int32) ∨ ¬ v ≤ (1 : Int32)) ∧ mM_in v.toInt64 (-1 : Int64) (1 : Int64) = nI 0) := by
  have em1 : (-1 : Int64).toInt = -1 := by decide
  have e1 : (1 : Int64).toInt = 1 := by decide
  have fm1 : (-1 : Int32).toInt = -1 := by decide
  have f0 : (nI 0).toInt = 0 := by decide
  have f1 : (1 : Int32).toInt = 1 := by decide
  unfold mM_in
  simp only [Int64.lt_iff_toInt_lt, Int32.toInt_toInt64, em1, e1]
  by_cases a : v.toInt = -1
  · left
    refine ⟨Int32.toInt_inj.mp (by rw [a, fm1]), ?_⟩
    rw [if_neg (by omega), if_neg (by omega)]; rfl
  · by_cases b : v.toInt = 0
    · right; left
      refine ⟨Int32.toInt_inj.mp (by rw [b, f0]), ?_⟩
      rw [if_neg (by omega), if_neg (by omega)]; rfl
    · by_cases c : v.toInt = 1
      · right; right; left
        refine ⟨Int32.toInt_inj.mp (by rw [c]; exact f1.symm), ?_⟩
        rw [if_neg (by omega), if_neg (by omega)]; rfl
      · right; right; right
        by_cases d : v.toInt < -1
        · refine ⟨Or.inl (by rw [Int32.lt_iff_toInt_lt, fm1]; exact d), ?_⟩
          rw [if_pos d]; rfl
        · refine ⟨Or.inr (by rw [Int32.le_iff_toInt_le, f1]; omega), ?_⟩
          rw [if_neg d, if_pos (by omega)]; rfl
def bnU (bn : Nat → Nat) (j b : Nat) : Nat → Nat := fun k => if j = k then b else bn k
theorem bd_all {np : Nat} {bn : Nat → Nat} {j b : Nat} {Ic Im Ic' Im' : hI} (h : bdQ np bn Ic Im) (hj : j < np) (hnp : np ≤ 3) (hb : b < 3) (h13 : Ic' 0 13 = nI (bmk (if j = 0 then b else bn 0) (if j = 1 then b else bn 1) (if j = 2 then b else bn 2))) (h14 : Ic' 0 14 = nI (bto (if j = 0 then b else bn 0) (if j = 1 then b else bn 1) (if j = 2 then b else bn 2))) (hI : Im' 24 j = bdI b) (hI2 : ∀ k, k ≠ j → Im' 24 k = Im 24 k) : bdQ np (bnU bn j b) Ic' Im' := by
  obtain ⟨a1, a2, a3, a4, a5⟩ := h
  refine ⟨fun k => ?_, fun k hk => ?_, h13, h14, fun k hk => ?_⟩
  · unfold bnU
    split
    · exact hb
    · exact a1 k
  · unfold bnU
    rw [if_neg (by omega)]
    exact a2 k hk
  · unfold bnU
    by_cases c : j = k
    · rw [if_pos c, ← c]; exact hI
    · rw [if_neg c, hI2 k (by omega)]; exact a5 k hk
section Bi
variable {hg : Bool} {D : rD} {B : Bool × Bool} {Ic Im : hI} {Jc Jm : hJ}
/-- what is laid anew keeps the relation -/
theorem rel_renew {w hh sz n np wt : Nat} {Q : rD} {bn : Nat → Nat} {I M : hI} (h : RsW true hg D B Ic Im) (hr : refu Ic Im) (hK : ksP (h_pr B) w hh sz n np wt Q I M) (hbd : bdQ np bn I M) (fC : ∀ c i, (c < h_pr B ∨ h_pr B + 57 ≤ c) → (c ≠ 0 ∨ (i ≠ 13 ∧ i ≠ 14)) → I c i = Ic c i) (fM : ∀ c i, (c ≠ 0 ∨ i ≠ 0) → c ≠ 10 → c ≠ 24 → M c i = Im c i) : ∃ (Ic' Im' : hI) (D' : rD), mC_renew I B = some Ic' ∧ mM_laysRounds M = some Im' ∧ rOk D' ∧ mR D' Im' ∧ plB D' Ic' Jc Im' Jm ∧ RelW Ic' Jc B Im' Jm := by
  have hpr := pr_ge B
  have htd := td_ge B
  obtain ⟨Ic', Im', D', r1, r2, r3, r4, r5, r6, r7, r8, r9, r10, r11⟩ := renew_both (B := B) (Jc := Jc) (Jm := Jm) rfl (show 61 ≤ h_pr B by omega) (pg_of (by omega) hK hbd)
  obtain ⟨⟨T, N, a1, a2⟩, ⟨⟨a3, a4⟩, a5, a6⟩, ⟨a7, a8, a9⟩, a10, a11⟩ := h
  have gC : ∀ c i, (c < 6 ∨ (13 < c ∧ c ≠ 37 ∧ c ≠ 38)) → (c < h_pr B ∨ h_pr B + 57 ≤ c) → (c ≠ 0 ∨ (i ≠ 13 ∧ i ≠ 14)) → Ic' c i = Ic c i := fun c i w1 w2 w3 => by rw [r10 c i w1, fC c i w2 w3]
  have gM : ∀ c i, (c < 25 ∨ 29 < c) → (c ≠ 0 ∨ (1 ≤ i ∧ i < 53)) → c ≠ 10 → c ≠ 24 → Im' c i = Im c i := fun c i w1 w2 w3 w4 => by rw [r11 c i w1 (by omega), fM c i (by omega) w3 w4]
  refine ⟨Ic', Im', D', r1, r2, r3, r5, r7, ⟨true, hg, D', ⟨⟨T, N, tpC_of a1 (gC 1 1 (by omega) (by omega) (by omega)) (fun i => gC 2 i (by omega) (by omega) (by omega)), tpM_of a2 (gM 0 2 (by omega) (by omega) (by omega) (by omega)) (fun i => gM 1 i (by omega) (by omega) (by omega) (by omega))⟩, ⟨⟨by rw [gC 0 12 (by omega) (by omega) (by omega)]; exact a3, by rw [gM 0 38 (by omega) (by omega) (by omega) (by omega)]; exact a4⟩, fun q => by rw [gM 0 47 (by omega) (by omega) (by omega) (by omega)]; exact a5 q, fun q => ?_⟩, ⟨by rw [gC 0 11 (by omega) (by omega) (by omega)]; exact a7, by rw [gM 0 37 (by omega) (by omega) (by omega) (by omega)]; exact a8, fun _ => ⟨r3, r4, r5⟩⟩, fun q => (by cases q), fun _ => ⟨w, hh, sz, n, np, wt, Q, bn, ?_, ?_, r6⟩⟩, fun i hi => by rw [gC 60 i (by omega) (by omega) (by omega), gM 42 i (by omega) (by omega) (by omega) (by omega)]; exact hr i hi, fun _ => ⟨r7, r8, r9⟩⟩⟩
  · obtain ⟨J, hJ⟩ := a6 q
    exact ⟨J, gkP_of hJ (fun c i w1 w2 => gC c i (by omega) (by omega) (by omega)) (fun c i w1 w2 w3 => gM c i (by omega) (by omega) (by omega) (by omega)) (fun c i w1 w2 => gM c i (by omega) (by omega) (by omega) (by omega)) (gM 0 47 (by omega) (by omega) (by omega) (by omega))⟩
  · exact ksP_of hK (fun c i w1 w2 => r10 c i (by omega)) (fun c i w1 w2 w3 w4 => r11 c i (by omega) (by omega)) (fun c i w1 w2 w3 => r11 c i (by omega) (by omega)) (fun i w1 w2 => r11 0 i (by omega) (by omega))
  · exact bdQ_of hbd ⟨r10 0 13 (by omega), r10 0 14 (by omega)⟩ (fun k => r11 24 k (by omega) (by omega))
end Bi
theorem rw_bind : stp_bind RelW := by
  rintro Ic Jc B Im Jm ⟨hl, hg, D, h, hr, hca⟩ v1 v2
  have hpr := pr_ge B
  have h0 := h
  obtain ⟨_, _, ⟨f1, f2, f3⟩, _, f5⟩ := h0
  have e37 : h_u Im 0 0 (nI 0) 0 37 = bI hl := by rw [hu_fr (by omega)]; exact f2
  have z1 : ¬ nI 1 = (0 : Int32) := by decide
  by_cases q : hl = true
  · subst q
    obtain ⟨w, hh, sz, n, np, wt, Q, bn, b1, b2, b3⟩ := f5 rfl
    have b1' := b1
    obtain ⟨_, ⟨_, _, _, hnp⟩, ⟨_, _, _, _, _, c8, _, _⟩, ⟨_, _, _, _, m43, _, _, _⟩, _, _⟩ := b1'
    have f1 : Ic 0 11 = nI 1 := f1
    have e37 : h_u Im 0 0 (nI 0) 0 37 = nI 1 := e37
    have e43 : h_u Im 0 0 (nI 0) 0 43 = nI np := by rw [hu_fr (by omega)]; exact m43
    have topC0 : mC_bind v1 v2 Ic B = if (mC_isOutside v1 (nI np)) = 0 then (if v2 < (-1 : Int32) then mC_bind_50 v1 v2 (1 : Int32) Ic B else (if v2 ≤ (1 : Int32) then mC_bind_50 v1 v2 (0 : Int32) Ic B else mC_bind_50 v1 v2 (1 : Int32) Ic B)) else mC_bind_50 v1 v2 (1 : Int32) Ic B := by
      unfold mC_bind
      rw [f1, if_neg z1]
      unfold mC_bind_13
      show ((mC_refuse (nI 0) (nI 0) Ic).bind _) = _
      rw [c_refuse0, Option.bind_some, ← c8]
      rfl
    have topM0 : mM_bind v1 v2 Im = if (mM_in v1.toInt64 (0 : Int64) ((nI np - nI 1).toInt64)) = 0 then mM_bind_38 v1 v2 (h_u Im 0 0 (nI 0)) else (if (mM_in v2.toInt64 (-1 : Int64) (1 : Int64)) = 0 then mM_bind_38 v1 v2 (h_u Im 0 0 (nI 0)) else mM_bind_39 v1 v2 (1 : Int32) (h_u Im 0 0 (nI 0))) := by
      unfold mM_bind
      rw [hl_eq, li_0, e43, li_1]
    -- refused
    have no : mC_bind v1 v2 Ic B = mC_bind_50 v1 v2 (1 : Int32) Ic B → mM_bind v1 v2 Im = mM_bind_38 v1 v2 (h_u Im 0 0 (nI 0)) → ∃ (v : Int32) (Ic' Im' : hI), mC_bind v1 v2 Ic B = some (v, Ic') ∧ mM_bind v1 v2 Im = some (v, Im') ∧ RelW Ic' Jc B Im' Jm := fun y1 y2 => by
      refine ⟨(-1 : Int32), _, _, ?_, ?_, rel_R h hca (onlyR_bump hr (nI 0) (k := 1) (by omega))⟩
      · rw [y1]
        unfold mC_bind_50
        show ((mC_refuse (nI 1) (nI 1) Ic).bind _) = _
        rw [c_refuse1 (by omega), Option.bind_some]
        rfl
      · rw [y2]
        unfold mM_bind_38 mM_bind_39
        show ((mM_isRefused (nI 0) (nI 0) (h_u Im 0 0 (nI 0))).bind _) = _
        rw [m_ref1 e37, Option.bind_some]
        rfl
    rcases range_split v1 (n := np) (by omega) with ⟨j, q1, rfl, q3, q4⟩ | ⟨q1, q2, q3⟩
    · -- taken: to is b - 1
      have yes : ∀ (b : Nat), b < 3 → v2 = bdI b → ¬ v2 < (-1 : Int32) → v2 ≤ (1 : Int32) → mM_in v2.toInt64 (-1 : Int64) (1 : Int64) = nI 1 → ∃ (v : Int32) (Ic' Im' : hI), mC_bind (nI j) v2 Ic B = some (v, Ic') ∧ mM_bind (nI j) v2 Im = some (v, Im') ∧ RelW Ic' Jc B Im' Jm := fun b hb hv n1 n2 n3 => by
        obtain ⟨a1, a2, a3, a4, a5⟩ := b2
        obtain ⟨x13, hx13⟩ : ∃ x, x = nI (bmk (if j = 0 then b else bn 0) (if j = 1 then b else bn 1) (if j = 2 then b else bn 2)) := ⟨_, rfl⟩
        obtain ⟨x14, hx14⟩ : ∃ x, x = nI (bto (if j = 0 then b else bn 0) (if j = 1 then b else bn 1) (if j = 2 then b else bn 2)) := ⟨_, rfl⟩
        obtain ⟨I, hIe⟩ : ∃ J, J = h_u (h_u Ic 0 13 x13) 0 14 x14 := ⟨_, rfl⟩
        have fI : ∀ c i, (c ≠ 0 ∨ (i ≠ 13 ∧ i ≠ 14)) → I c i = Ic c i := fun c i w => by rw [hIe, hu_fr (by omega), hu_fr (by omega)]
        obtain ⟨M, hM⟩ : ∃ J, J = h_u (h_u Im 0 0 (nI 0)) 24 j v2 := ⟨_, rfl⟩
        have fM : ∀ c i, (c ≠ 0 ∨ i ≠ 0) → (c ≠ 24 ∨ i ≠ j) → M c i = Im c i := fun c i w1 w2 => by rw [hM, hu_fr w2, hu_fr w1]
        have hK : ksP (h_pr B) w hh sz n np wt Q I M := ksP_of b1 (fun c i w1 w2 => fI c i (by omega)) (fun c i w1 w2 w3 w4 => fM c i (by omega) (by omega)) (fun c i w1 w2 w3 => fM c i (by omega) (by omega)) (fun i w1 w2 => fM 0 i (by omega) (by omega))
        have hbd : bdQ np (bnU bn j b) I M := bd_all ⟨a1, a2, a3, a4, a5⟩ q1 hnp hb (by rw [hIe, hu_fr (by omega), h_u_at]; exact hx13) (by rw [hIe, h_u_at]; exact hx14) (by rw [hM, h_u_at]; exact hv) (fun k hk => fM 24 k (by omega) (by omega))
        obtain ⟨Ic', Im', D', r1, r2, r3, r5, r7, r8⟩ := rel_renew (Jc := Jc) (Jm := Jm) h hr hK hbd (fun c i w1 w2 => fI c i w2) (fun c i w1 w2 w3 => fM c i w1 (by omega))
        refine ⟨if pN D' (D' 0 0) ≤ 64 then nI (pN D' (D' 0 0)) else (-2 : Int32), Ic', Im', ?_, ?_, r8⟩
        · have e112 : mC_bind_112 x14 (h_u Ic 0 13 x13) B = some ((if pN D' (D' 0 0) ≤ 64 then nI (pN D' (D' 0 0)) else (-2 : Int32)), Ic') := by
            unfold mC_bind_112
            rw [hl_eq, ← hIe, r1, Option.bind_some, r7.1]
          have e86 : mC_bind_86 v2 (nI 1 <<< (nI j &&& nI 31)) x13 Ic B = some ((if pN D' (D' 0 0) ≤ 64 then nI (pN D' (D' 0 0)) else (-2 : Int32)), Ic') := by
            unfold mC_bind_86
            rw [hl_eq, hu_fr (show (0 : Nat) ≠ 0 ∨ 14 ≠ 13 by omega), a4]
            have hb3 : b = 0 ∨ b = 1 ∨ b = 2 := by omega
            rcases hb3 with rfl | rfl | rfl
            · rw [hv, if_neg (by decide), bt_and _ (a1 0) _ (a1 1) _ (a1 2) j (by omega) 0 (by omega), ← hx14]
              exact e112
            · rw [hv, if_neg (by decide), bt_and _ (a1 0) _ (a1 1) _ (a1 2) j (by omega) 1 (by omega), ← hx14]
              exact e112
            · rw [hv, if_pos (by decide), bt_or _ (a1 0) _ (a1 1) _ (a1 2) j (by omega), ← hx14]
              exact e112
          rw [topC0, q3, if_pos (show nI 0 = (0 : Int32) from rfl), if_neg n1, if_pos n2]
          unfold mC_bind_50
          show ((mC_refuse (nI 0) (nI 1) Ic).bind _) = _
          rw [c_refuse0, Option.bind_some, if_pos (show ((nI 0, Ic) : Int32 × hI).1 = (0 : Int32) from rfl), hl_eq]
          show (if v2 = (-1 : Int32) then mC_bind_86 v2 (nI 1 <<< (nI j &&& nI 31)) ((Ic 0 13) &&& ((nI 1 <<< (nI j &&& nI 31)) ^^^ (-1 : Int32))) Ic B else mC_bind_86 v2 (nI 1 <<< (nI j &&& nI 31)) ((Ic 0 13) ||| (nI 1 <<< (nI j &&& nI 31))) Ic B) = _
          rw [a3]
          have hb3 : b = 0 ∨ b = 1 ∨ b = 2 := by omega
          rcases hb3 with rfl | rfl | rfl
          · rw [if_pos (by rw [hv]; rfl), bd_and _ (a1 0) _ (a1 1) _ (a1 2) j (by omega), ← hx13]
            exact e86
          · rw [if_neg (by rw [hv]; decide), bd_or _ (a1 0) _ (a1 1) _ (a1 2) j (by omega) 0 (by omega), ← hx13]
            exact e86
          · rw [if_neg (by rw [hv]; decide), bd_or _ (a1 0) _ (a1 1) _ (a1 2) j (by omega) 1 (by omega), ← hx13]
            exact e86
        · rw [topM0, q4, if_neg z1, n3, if_neg z1]
          unfold mM_bind_39
          show ((mM_isRefused (nI 1) (nI 0) (h_u Im 0 0 (nI 0))).bind _) = _
          rw [m_ref2 e37, Option.bind_some, if_pos (show ((nI 0, h_u Im 0 0 (nI 0)) : Int32 × hI).1 = (0 : Int32) from rfl), hg_in _ (by omega) (by omega), hl_eq, nI_clamp (by omega)]
          show ((mM_laysRounds (h_u (h_u Im 0 0 (nI 0)) 24 j v2)).bind fun q4 => (mM_plansTold q4).bind fun q5 => some (q5, q4)) = _
          rw [← hM, r2, Option.bind_some, plans_m r3 r5, Option.bind_some]
      rcases v2_split v2 with ⟨e, k⟩ | ⟨e, k⟩ | ⟨e, k⟩ | ⟨e, k⟩
      · exact yes 0 (by omega) e (by rw [e]; decide) (by rw [e]; decide) k
      · exact yes 1 (by omega) e (by rw [e]; decide) (by rw [e]; decide) k
      · exact yes 2 (by omega) e (by rw [e]; decide) (by rw [e]; decide) k
      · refine no ?_ ?_
        · rw [topC0, q3, if_pos (show nI 0 = (0 : Int32) from rfl)]
          by_cases c : v2 < (-1 : Int32)
          · rw [if_pos c]
          · rw [if_neg c, if_neg (e.resolve_left c)]
        · rw [topM0, q4, if_neg z1, k, if_pos (show nI 0 = (0 : Int32) from rfl)]
    · refine no ?_ ?_
      · rw [topC0, q2, if_neg z1]
      · rw [topM0, q3, if_pos (show nI 0 = (0 : Int32) from rfl)]
  · have hlf : hl = false := by cases hl; rfl; exact absurd rfl q
    subst hlf
    have f1 : Ic 0 11 = nI 0 := f1
    have e37 : h_u Im 0 0 (nI 0) 0 37 = nI 0 := e37
    refine ⟨(-1 : Int32), _, _, ?_, ?_, rel_R h hca (onlyR_bump hr (nI 0) (k := 0) (by omega))⟩
    · unfold mC_bind
      rw [f1, if_pos (show nI 0 = (0 : Int32) from rfl)]
      unfold mC_bind_13
      show ((mC_refuse (nI 1) (nI 0) Ic).bind _) = _
      rw [c_refuse1 (by omega), Option.bind_some]
      rfl
    · have e39 : ∀ vs1, mM_bind_39 v1 v2 vs1 (h_u Im 0 0 (nI 0)) = some ((-1 : Int32), h_u (h_u Im 0 0 (nI 0)) 42 0 (h_u Im 0 0 (nI 0) 42 0 + nI 1)) := fun vs1 => by
        unfold mM_bind_39
        rw [m_ref0 e37, Option.bind_some]
        rfl
      unfold mM_bind mM_bind_38
      rw [hl_eq]
      show (if (mM_in v1.toInt64 (0 : Int64) (((h_u Im 0 0 (nI 0) 0 43) - (1 : Int32)).toInt64)) = 0 then mM_bind_39 v1 v2 (0 : Int32) (h_u Im 0 0 (nI 0)) else (if (mM_in v2.toInt64 (-1 : Int64) (1 : Int64)) = 0 then mM_bind_39 v1 v2 (0 : Int32) (h_u Im 0 0 (nI 0)) else mM_bind_39 v1 v2 (1 : Int32) (h_u Im 0 0 (nI 0)))) = _
      rw [e39, e39]
      split
      · rfl
      · split <;> rfl
