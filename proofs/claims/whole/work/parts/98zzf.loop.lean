/-! fault, loop: both sides alike. -/
theorem RsW_gen {hl hg : Bool} {D : rD} {B : Bool × Bool} {Ic Im Ic' Im' : hI} (h : RsW hl hg D B Ic Im) (hc : ∀ c i, (c = 0 ∨ (c = 1 ∧ i = 1) ∨ c = 2 ∨ (7 ≤ c ∧ c ≤ 12) ∨ (h_pr B ≤ c ∧ c < h_pr B + 57) ∨ (h_td B ≤ c ∧ c < h_td B + 13)) → Ic' c i = Ic c i) (hm : ∀ c i, ((c = 0 ∧ (i = 2 ∨ (37 ≤ i ∧ i ≤ 47))) ∨ c = 1 ∨ (2 ≤ c ∧ c ≤ 8 ∧ 500 ≤ i) ∨ (9 ≤ c ∧ c ≤ 15 ∧ 24 ≤ i) ∨ (20 ≤ c ∧ c ≤ 29)) → Im' c i = Im c i) : RsW hl hg D B Ic' Im' := by
  obtain ⟨⟨T, N, a1, a2⟩, ⟨⟨a3, a4⟩, a5, a6⟩, ⟨a7, a8, a9⟩, a10, a11⟩ := h
  refine ⟨⟨T, N, tpC_of a1 (hc 1 1 (by omega)) (fun i => hc 2 i (by omega)), tpM_of a2 (hm 0 2 (by omega)) (fun i => hm 1 i (by omega))⟩, ⟨⟨by rw [hc 0 12 (by omega)]; exact a3, by rw [hm 0 38 (by omega)]; exact a4⟩, fun q => by rw [hm 0 47 (by omega)]; exact a5 q, fun q => ?_⟩, ⟨by rw [hc 0 11 (by omega)]; exact a7, by rw [hm 0 37 (by omega)]; exact a8, fun q => ?_⟩, fun q => by rw [hm 0 41 (by omega)]; exact a10 q, fun q => ?_⟩
  · obtain ⟨J, hJ⟩ := a6 q
    exact ⟨J, gkP_of hJ (fun c i w1 w2 => hc c i (by omega)) (fun c i w1 w2 w3 => hm c i (by omega)) (fun c i w1 w2 => hm c i (by omega)) (hm 0 47 (by omega))⟩
  · obtain ⟨b1, b2, b3⟩ := a9 q
    exact ⟨b1, cR_of b2 (fun c i w1 w2 => hc c i (by omega)), mR_of b3 (fun c i w1 w2 => hm c i (by omega)) (fun i w1 w2 => hm 0 i (by omega))⟩
  · obtain ⟨w, h, sz, n, np, wt, Q, bn, b1, b2, b3⟩ := a11 q
    exact ⟨w, h, sz, n, np, wt, Q, bn, ksP_of b1 (fun c i w1 w2 => hc c i (by omega)) (fun c i w1 w2 w3 w4 => hm c i (by omega)) (fun c i w1 w2 w3 => hm c i (by omega)) (fun i w1 w2 => hm 0 i (by omega)), bdQ_of b2 ⟨hc 0 13 (by omega), hc 0 14 (by omega)⟩ (fun k => hm 24 k (by omega)), b3⟩
section Ft
variable {hl hg : Bool} {D : rD} {B : Bool × Bool} {Ic Im Ic' Im' : hI} {Jc Jm : hJ}
/-- a LOOP read, not taken -/
theorem rel_readL (h : RsW hl hg D B Ic Im) (hr : refu Ic Im) (hca : hl = true → caQ D Ic Jc Im Jm) (hc : LCf (h_sp B) Ic Ic') (hm : LMf (h_u Im 0 0 (nI 0)) Im') : RelW Ic' Jc B Im' Jm := by
  have hpr := pr_ge B
  have htd := td_ge B
  have fm : ∀ c i, (c ≠ 0 ∨ (1 ≤ i ∧ i < 3) ∨ 31 < i) → (c < 2 ∨ 8 < c ∨ 250 ≤ i) → (c < 9 ∨ 15 < c ∨ 24 ≤ i) → Im' c i = Im c i := fun c i w1 w2 w3 => by rw [hm c i (by omega) w2 w3, hu_fr (by omega)]
  refine ⟨hl, hg, D, RsW_gen h (fun c i w => hc c i (by omega) (by omega)) (fun c i w => fm c i (by omega) (by omega) (by omega)), fun i hi => by rw [hc 60 i (by omega) (by omega), fm 42 i (by omega) (by omega) (by omega)]; exact hr i hi, fun q => ?_⟩
  exact caQ_of (h.2.2.1.2.2 q).1 (hca q) (hc 7 9 (by omega) (by omega)) (hc 13 1 (by omega) (by omega)) (fun i => hc 16 i (by omega) (by omega)) (fun i => hc 37 i (by omega) (by omega)) ⟨hc 38 1 (by omega) (by omega), hc 38 2 (by omega) (by omega)⟩ (fun _ _ _ => rfl) (fm 0 67 (by omega) (by omega) (by omega)) (fun i => fm 35 i (by omega) (by omega) (by omega)) (fun _ _ _ _ => rfl)
/-- a GUESS read, not taken -/
theorem rel_readG (h : RsW hl hg D B Ic Im) (hr : refu Ic Im) (hca : hl = true → caQ D Ic Jc Im Jm) (hc : GCg (h_st B) Ic Ic') (hm : GMg (h_u Im 0 0 (nI 0)) Im') : RelW Ic' Jc B Im' Jm := by
  have hpr := pr_ge B
  have htd := td_ge B
  have fm : ∀ c i, (c ≠ 0 ∨ (1 ≤ i ∧ i < 3) ∨ (7 < i ∧ i ≠ 11 ∧ i ≠ 16 ∧ i ≠ 36)) → (c < 2 ∨ 8 < c ∨ i < 250 ∨ 500 ≤ i) → (c < 16 ∨ 19 < c) → Im' c i = Im c i := fun c i w1 w2 w3 => by rw [hm c i (by omega) w2 w3, hu_fr (by omega)]
  refine ⟨hl, hg, D, RsW_gen h (fun c i w => hc c i (by omega) (by omega)) (fun c i w => fm c i (by omega) (by omega) (by omega)), fun i hi => by rw [hc 60 i (by omega) (by omega), fm 42 i (by omega) (by omega) (by omega)]; exact hr i hi, fun q => ?_⟩
  exact caQ_of (h.2.2.1.2.2 q).1 (hca q) (hc 7 9 (by omega) (by omega)) (hc 13 1 (by omega) (by omega)) (fun i => hc 16 i (by omega) (by omega)) (fun i => hc 37 i (by omega) (by omega)) ⟨hc 38 1 (by omega) (by omega), hc 38 2 (by omega) (by omega)⟩ (fun _ _ _ => rfl) (fm 0 67 (by omega) (by omega) (by omega)) (fun i => fm 35 i (by omega) (by omega) (by omega)) (fun _ _ _ _ => rfl)
end Ft
theorem tpM_0 {T : Nat → Nat} {N : Nat} {I : hI} (h : tpM T N I) : tpM T N (h_u I 0 0 (nI 0)) := tpM_of h (hu_fr (by omega)) (fun i => hu_fr (by omega))
theorem rw_fault : stp_fault RelW := by
  rintro Ic Jc B Im Jm ⟨hl, hg, D, h, hr, hca⟩ v1
  have hpr := pr_ge B
  have htd := td_ge B
  have h0 := h
  obtain ⟨⟨T, N, a1, a2⟩, _⟩ := h0
  by_cases c0 : v1 = 0
  · obtain ⟨v, Ic', Im', x1, x2, x3, x4, _⟩ := loop_both (t := h_sp B) (by omega) a1 (tpM_0 a2)
    refine ⟨v, Ic', Im', ?_, ?_, rel_readL h hr hca x3 x4⟩
    · unfold mC_fault
      rw [if_pos c0, x1, Option.bind_some]
    · unfold mM_fault
      rw [hl_eq, if_pos c0]
      show ((mM_readLoop (h_u Im 0 0 (nI 0))).bind fun q2 => some (q2.1, q2.2)) = _
      rw [x2, Option.bind_some]
  · by_cases c1 : v1 = (1 : Int32)
    · obtain ⟨v, Ic', Im', x1, x2, x3, x4, _⟩ := guess_both (t := h_st B) (by omega) a1 (tpM_0 a2)
      refine ⟨v, Ic', Im', ?_, ?_, rel_readG h hr hca x3 x4⟩
      · unfold mC_fault
        rw [if_neg c0, if_pos c1, x1, Option.bind_some]
      · unfold mM_fault
        rw [hl_eq, if_neg c0, if_pos c1]
        show ((mM_readGuess (h_u Im 0 0 (nI 0))).bind fun q2 => some (q2.1, q2.2)) = _
        rw [x2, Option.bind_some]
    · refine ⟨(-2 : Int32), Ic, h_u Im 0 0 (nI 0), ?_, ?_, rel_R h hca (onlyR_0 hr)⟩
      · unfold mC_fault
        rw [if_neg c0, if_neg c1]
      · unfold mM_fault
        rw [hl_eq, if_neg c0, if_neg c1]
        rfl
/-- pointers of a body -/
theorem ptN_le {i j : Nat} (h : i ≤ j) : ptN i j ≤ j := by
  unfold ptN
  split <;> omega
theorem stp_pt {Q : rD} : ∀ (f d i j a b : Nat), bodyOk Q f d i j a b → ∀ y, i ≤ y → y < j → Q 9 y ≤ j ∧ ((3 ≤ Q 0 y ∧ Q 0 y ≤ 5) → Q 7 y ≤ j ∧ Q 8 y ≤ j) := by
  intro f
  induction f with
  | zero => intro d i j a b h; exact absurd h id
  | succ f ih =>
    intro d i j a b h y q1 q2
    rcases h with h | ⟨i', a', h1, h2, h3, h4, h5, h6, h7, h8⟩
    · omega
    · by_cases z : i' ≤ y
      · exact ih _ _ _ _ _ h8 y z q2
      · rcases h7 with ⟨g1, g2, g3⟩ | ⟨g1, d', k, m, g2, g3, g4, g5, g6, g7, g8, g9, g10, g11, g12⟩
        · have e : y = i := by omega
          subst e
          rw [h6]
          exact ⟨ptN_le h2, fun w => by omega⟩
        · by_cases z1 : y = i
          · subst z1
            rw [h6, g9, g10]
            have w1 := ptN_le g3
            have w2 := ptN_le g4
            exact ⟨ptN_le h2, fun _ => by omega⟩
          · by_cases z2 : y < k
            · obtain ⟨w1, w2⟩ := ih _ _ _ _ _ g11 y (by omega) z2
              exact ⟨by omega, fun w => by have := w2 w; omega⟩
            · obtain ⟨w1, w2⟩ := ih _ _ _ _ _ g12 y (by omega) (by omega)
              exact ⟨by omega, fun w => by have := w2 w; omega⟩
theorem ctK_Q {I : hI} {Q : rD} {kd : Nat} (hk : kd < 2 ^ 31) : ∀ x, (∀ y, y < x → I 9 y = nI (Q 0 y) ∧ Q 0 y ≤ 6) → ctK I kd x = ctQ Q kd x := by
  intro x
  induction x with
  | zero => intro _; rfl
  | succ x ih =>
    intro h
    obtain ⟨g1, g2⟩ := h x (by omega)
    rw [ctK, ctQ, ih (fun y hy => h y (by omega)), g1]
    by_cases c : Q 0 x = kd
    · rw [if_pos c, if_pos (by rw [c])]
    · rw [if_neg c, if_neg (fun w => c ((nI_eq (by omega) hk).mp w))]
/-- a LOOP that was read is kept -/
theorem ks_of_lp {t w h sz n np wt k q : Nat} {Ic Im Ic' M : hI} (ht : 61 ≤ t) (H : lpR t w h sz n np wt k q Ic Im) (hc : ∀ c i, 61 ≤ c → Ic' c i = Ic c i) (h1 : ∀ c i, 2 ≤ c → c ≤ 4 → 0 ≤ i → i < q → M c (500 + i) = Im c i) (h2 : ∀ i, 0 ≤ i → i < k → M 5 (500 + i) = nI 500 + Im 5 i ∧ M 6 (500 + i) = nI 500 + Im 6 i ∧ M 7 (500 + i) = Im 7 i ∧ M 8 (500 + i) = vp_nar .boolean (Im 8 i)) (h3 : ∀ x, x < n → M 9 (24 + x) = Im 9 x ∧ M 10 (24 + x) = (if Im 9 x = nI 0 ∨ Im 9 x = nI 1 then nI 500 + Im 10 x else Im 10 x) ∧ M 11 (24 + x) = nI 500 + Im 11 x ∧ M 12 (24 + x) = nI 500 + Im 12 x ∧ M 13 (24 + x) = mM_on (Im 13 x) (nI 24) ∧ M 14 (24 + x) = mM_on (Im 14 x) (nI 24) ∧ M 15 (24 + x) = mM_on (Im 15 x) (nI 24)) (m0 : M 0 39 = nI w ∧ M 0 40 = nI h ∧ M 0 41 = nI (w * h) ∧ M 0 42 = nI n ∧ M 0 43 = nI np ∧ M 0 44 = nI 500 ∧ M 0 45 = nI (500 + wt) ∧ M 0 46 = ptI 24 (ptN 0 n)) : ∃ Q, ksP t w h sz n np wt Q Ic' M := by
  obtain ⟨d, ⟨c4, c5, _, _⟩, ⟨c3, csz⟩, ⟨c6, _, w1, w2⟩, ⟨c7, _, cn⟩, ⟨c8, _, cnp⟩, ⟨c9, c10⟩, ⟨_, _, cq, ck⟩, _, cw, cw0, ⟨Q, f, b1, b2⟩⟩ := H
  have k9 : ∀ y, y < n → Im 9 y = nI (Q 0 y) ∧ Q 0 y ≤ 6 := fun y hy => by
    obtain ⟨⟨⟨e0, e1, _⟩, _⟩, _⟩ := b2 y (by omega) hy
    exact ⟨e1, e0⟩
  have ct2 := ctK_Q (I := Im) (Q := Q) (kd := 2) (by omega) n k9
  have ct3 := ctK_Q (I := Im) (Q := Q) (kd := 3) (by omega) n k9
  have ctn := ctK_le Im 2 n
  have cn500 : ∀ a b, b ≤ k → cnR 0 (t + 1) q a b Ic Im → cnR 500 (t + 1) 750 a b Ic' M := fun a b hb H => by
    have e : cnR 500 (t + 1) 750 a b Ic M := cnR_keep (o := 0) (k := k) (by omega) (by omega) (by omega) H h1 h2
    exact cnR_of e (Nat.le_refl _) (fun c i q1 q2 q3 q4 => hc c i (by omega)) (fun _ _ _ _ _ _ => rfl) (fun _ _ _ _ _ _ => rfl)
  refine ⟨Q, d, ⟨⟨f, b1⟩, csz, cn, cnp⟩, ⟨by rw [hc t 3 (by omega)]; exact c3, by rw [hc t 4 (by omega)]; exact c4, by rw [hc t 5 (by omega)]; exact c5, by rw [hc t 6 (by omega)]; exact c6, by rw [hc t 7 (by omega)]; exact c7, by rw [hc t 8 (by omega)]; exact c8, by rw [hc t 9 (by omega), ← ct3]; exact c9, by rw [hc t 10 (by omega), ← ct2]; exact c10⟩, m0, ⟨by omega, cn500 0 wt w2 cw, by rw [hc _ 0 (by omega)]; exact cw0⟩, fun x hx => ?_⟩
  obtain ⟨⟨⟨a0, a1, a2, a3, a4, a5, a6⟩, g2, g3⟩, g4⟩ := b2 x (by omega) hx
  obtain ⟨r9, r10, r11, r12, r13, r14, r15⟩ := h3 x hx
  obtain ⟨p1, p2⟩ := stp_pt _ _ _ _ _ _ b1 x (by omega) hx
  have n10 : ¬ Q 0 x ≤ 1 → M 10 (24 + x) = Im 10 x := fun w => by
    rw [r10, if_neg]
    rintro (w1 | w1)
    · rw [a1] at w1
      have := (nI_eq (by omega) (by omega)).mp w1
      omega
    · rw [a1] at w1
      have := (nI_eq (by omega) (by omega)).mp w1
      omega
  have y10 : Q 0 x ≤ 1 → M 10 (24 + x) = nI 500 + Im 10 x := fun w => by
    rw [r10, if_pos]
    rw [a1]
    by_cases z : Q 0 x = 0
    · exact Or.inl (by rw [z])
    · exact Or.inr (by rw [show Q 0 x = 1 by omega])
  refine ⟨⟨⟨a0, by rw [r9]; exact a1, by rw [hc _ 0 (by omega)]; exact a2, fun z => ?_, fun z => ?_, fun z => ?_, fun z => ?_⟩, by omega, fun z => ?_, by rw [r15, g4, on_pt (by omega)]⟩, fun z => ?_⟩
  · obtain ⟨l, u, e1, e2, ⟨s1, s2, s3, s4⟩, e4, e5, e6⟩ := a3 z
    exact ⟨500 + l, u, by omega, by rw [y10 z, e2, nI_add], ⟨by rw [h1 2 l (by omega) (by omega) (by omega) e1]; exact s1, by rw [h1 3 l (by omega) (by omega) (by omega) e1]; exact s2, by rw [h1 4 l (by omega) (by omega) (by omega) e1]; exact s3, s4⟩, by rw [hc _ 3 (by omega)]; exact e4, by rw [hc _ 4 (by omega)]; exact e5, by rw [hc _ 5 (by omega)]; exact e6⟩
  · obtain ⟨e1, e2, e3, v, e4, e5, e6⟩ := a4 z
    exact ⟨by omega, by rw [hc _ 1 (by omega)]; exact e3, v, e4, by rw [hc _ _ (by omega)]; exact e5, by rw [n10 (by omega)]; exact e6⟩
  · obtain ⟨e1, e2, e3⟩ := a5 z
    exact ⟨e1, by rw [hc _ 1 (by omega)]; exact e2, by rw [n10 (by omega)]; exact e3⟩
  · obtain ⟨e1, e2, e3, e4, e5, e6, e7, e8⟩ := a6 z
    exact ⟨by rw [hc _ 6 (by omega)]; exact e1, by rw [hc _ 7 (by omega)]; exact e2, by rw [r11, e3, nI_add], by rw [r12, e4, nI_add], e5, by omega, cn500 _ _ e6 e7, by rw [hc _ _ (by omega)]; exact e8⟩
  · obtain ⟨e0, e1, e2, e3, e4, e5⟩ := g3 z
    obtain ⟨p3, p4⟩ := p2 z
    exact ⟨by omega, by rw [hc _ 2 (by omega)]; exact e1, by rw [hc _ 0 (by omega)]; exact e2, by rw [hc _ 2 (by omega)]; exact e3, by rw [r13, e4, on_pt (by omega)], by rw [r14, e5, on_pt (by omega)]⟩
  · obtain ⟨e1, _⟩ := a4 z
    rw [e1]
    exact ctK_Q (I := Im) (Q := Q) (kd := 2) (by omega) x (fun y hy => k9 y (by omega))
