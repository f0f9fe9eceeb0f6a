/-! The calls that only answer: step by step both answer alike. -/
theorem rw_choices : stp_choices RelW := by
  rintro Ic Jc B Im Jm ⟨hl, hg, D, h, hr, hca⟩ v1
  obtain ⟨a, Ic', Im', x1, x2, x3⟩ := pr_choices h.2.2.1 hr v1
  exact ⟨a, Ic', Im', x1, x2, rel_R h hca x3⟩
theorem rw_choice : stp_choice RelW := by
  rintro Ic Jc B Im Jm ⟨hl, hg, D, h, hr, hca⟩ v1 v2 v3
  obtain ⟨a, o, Ic', Im', x1, x2, x3, x4, x5⟩ := pr_choice h.2.2.1 h.2.2.2.1 hr v1 v2 v3
  exact ⟨a, o, Ic', Im', x1, x2, rel_R h hca x3, x4, x5⟩
theorem rw_leads : stp_leads RelW := by
  rintro Ic Jc B Im Jm ⟨hl, hg, D, h, hr, hca⟩ v1 v2 v3
  obtain ⟨a, Ic', Im', x1, x2, x3⟩ := pr_leads h.2.2.1 h.2.2.2.1 hr v1 v2 v3
  exact ⟨a, Ic', Im', x1, x2, rel_R h hca x3⟩
theorem rw_paid : stp_paid RelW := by
  rintro Ic Jc B Im Jm ⟨hl, hg, D, h, hr, hca⟩ v1 v2 v3
  obtain ⟨q, hq⟩ := zb_bI v2
  obtain ⟨a, Ic', Jc', Im', Jm', x1, x2, x3, x4⟩ := pr_paid h.2.2.1 hr (fun w => (hca w).1) v1 v3 q
  rw [hq]
  exact ⟨a, Ic', Jc', Im', Jm', x1, x2, rel_P h hca x3 x4⟩
theorem rw_ends : stp_ends RelW := by
  rintro Ic Jc B Im Jm ⟨hl, hg, D, h, hr, hca⟩ v1 v2 v3
  obtain ⟨q, hq⟩ := zb_bI v2
  obtain ⟨a, Ic', Jc', Im', Jm', x1, x2, x3, x4⟩ := pr_ends h.2.2.1 hr (fun w => (hca w).1) v1 v3 q
  rw [hq]
  exact ⟨a, Ic', Jc', Im', Jm', x1, x2, rel_P h hca x3 x4⟩
theorem rw_unsure : stp_unsure RelW := by
  rintro Ic Jc B Im Jm ⟨hl, hg, D, h, hr, hca⟩
  obtain ⟨a, Ic', Jc', Im', Jm', x1, x2, x3, x4⟩ := pr_unsure h.2.2.1 hr (fun w => (hca w).1)
  exact ⟨a, Ic', Jc', Im', Jm', x1, x2, rel_P h hca x3 x4⟩
theorem rw_plan : stp_plan RelW := by
  rintro Ic Jc B Im Jm ⟨hl, hg, D, h, hr, hca⟩ v1 v2 v3
  obtain ⟨q, hq⟩ := zb_bI v2
  obtain ⟨a, Ic', Jc', Im', Jm', x1, x2, x3, x4⟩ := pr_plan h.2.2.1 hr (fun w => (hca w).1) v1 v3 q
  rw [hq]
  exact ⟨a, Ic', Jc', Im', Jm', x1, x2, rel_P h hca x3 x4⟩
theorem rw_within : stp_within RelW := by
  rintro Ic Jc B Im Jm ⟨hl, hg, D, h, hr, hca⟩ v1 v2 v3 v4
  obtain ⟨q, hq⟩ := zb_bI v3
  obtain ⟨a, Ic', Jc', Im', Jm', x1, x2, x3⟩ := pr_within (Jm := Jm) h.2.2.1 h.2.2.2.1 hr (fun w => (hca w).2.1) v1 v2 (zb v3) v4 q hq
  exact ⟨a, Ic', Jc', Im', Jm', x1, x2, rel_W h hca x3⟩
theorem rw_half : stp_half RelW := by
  rintro Ic Jc B Im Jm ⟨hl, hg, D, h, hr, hca⟩ v1
  obtain ⟨a, Ic', Jc', Im', Jm', x1, x2, x3⟩ := pr_half (Jm := Jm) h.2.2.1 hr (fun w => (hca w).2.1) v1
  exact ⟨a, Ic', Jc', Im', Jm', x1, x2, rel_W h hca x3⟩
theorem rw_guessed : stp_guessed RelW := by
  rintro Ic Jc B Im Jm ⟨hl, hg, D, h, hr, hca⟩ v1 v2
  obtain ⟨G, hG⟩ := gH_ex h
  obtain ⟨a, Ic', Im', x1, x2, x3⟩ := pr_guessed h.2.2.1 h.2.1.1 hr hG v1 v2
  exact ⟨a, Ic', Im', x1, x2, rel_R h hca x3⟩
theorem rw_ahead : stp_ahead RelW := by
  rintro Ic Jc B Im Jm ⟨hl, hg, D, h, hr, hca⟩ v1 v2 v3
  obtain ⟨G, hG⟩ := gH_ex h
  obtain ⟨a, Ic', Im', x1, x2, x3⟩ := pr_ahead h.2.2.1 h.2.2.2.1 h.2.1.1 hr hG v1 v2 v3
  exact ⟨a, Ic', Im', x1, x2, rel_R h hca x3⟩
theorem rw_refutes : stp_refutes RelW := by
  rintro Ic Jc B Im Jm ⟨hl, hg, D, h, hr, hca⟩ v1
  obtain ⟨G, hG⟩ := gH_ex h
  obtain ⟨a, Ic', Im', x1, x2, x3⟩ := pr_refutes h.2.2.1 h.2.1.1 hr hG v1
  exact ⟨a, Ic', Im', x1, x2, rel_R h hca x3⟩
theorem rw_best : stp_best RelW := by
  rintro Ic Jc B Im Jm ⟨hl, hg, D, h, hr, hca⟩ v1 v2
  obtain ⟨a, Ic', Jc', Im', Jm', x1, x2, x3, x4⟩ := pr_best (Jm := Jm) h.2.2.1 h.2.2.2.1 hr (fun w => (hca w).2.2) v1 v2
  exact ⟨a, Ic', Jc', Im', Jm', x1, x2, rel_B h hca x3 x4⟩
theorem rw_run : stp_run RelW := by
  rintro Ic Jc B Im Jm ⟨hl, hg, D, h, hr, hca⟩ v1 v2 v3 v4 v5
  have hpr := pr_ge B
  by_cases q : hl = true
  · obtain ⟨w, hh, sz, n, np, wt, Q, bn, b1, b2, b3⟩ := h.2.2.2.2 q
    obtain ⟨a, Ic', Im', x1, x2, x3⟩ := pr_run (t := h_pr B) h.2.2.1 h.2.2.2.1 hr (fun _ => ⟨⟨rfl, by omega⟩, pg_of (by omega) b1 b2, b3⟩) v1 v2 v3 v4 v5
    exact ⟨a, Ic', Im', x1, x2, rel_U h hca x3⟩
  · obtain ⟨a, Ic', Im', x1, x2, x3⟩ := pr_run (B := B) (t := 0) (w := 0) (h := 0) (sz := 0) (n := 0) (np := 0) (wt := 0) (Q := fun _ _ => 0) (P := fun _ _ => 0) (E := fun _ _ => 0) (pr := fun _ => 0) (bn := fun _ => 0) h.2.2.1 h.2.2.2.1 hr (fun w => absurd w q) v1 v2 v3 v4 v5
    exact ⟨a, Ic', Im', x1, x2, rel_U h hca x3⟩
theorem rw_most : stp_most RelW := by
  rintro Ic Jc B Im Jm ⟨hl, hg, D, h, hr, hca⟩ v1
  obtain ⟨a, Ic', Jc', Im', Jm', x1, x2, x3, x4⟩ := pr_most (B := B) h.2.2.1 hr (fun w => (hca w).1) (fun q => by
    obtain ⟨w, hh, sz, n, np, wt, Q, bn, b1, b2, b3⟩ := h.2.2.2.2 q
    rw [ofKind_m b1 (kd := 2) (by omega) (hu_fr (by omega)) (fun i => hu_fr (by omega)), b1.2.2.1.2.2.2.2.2.2.2]) (fun q => by
    obtain ⟨w, hh, sz, n, np, wt, Q, bn, b1, b2, b3⟩ := h.2.2.2.2 q
    rw [ofKind_m b1 (kd := 3) (by omega) (hu_fr (by omega)) (fun i => hu_fr (by omega)), b1.2.2.1.2.2.2.2.2.2.1]) v1
  exact ⟨a, Ic', Jc', Im', Jm', x1, x2, rel_P h hca x3 x4⟩
theorem rw_status : stp_status RelW := by
  rintro Ic Jc B Im Jm ⟨hl, hg, D, h, hr, hca⟩ v1
  obtain ⟨a, Im', x1, x2, x3⟩ := pr_status hr v1
  exact ⟨a, Im', x1, x2, rel_R h hca x3⟩
theorem onlyR_0 {Ic Im : hI} (hr : refu Ic Im) : onlyR Ic Ic Im (h_u Im 0 0 (nI 0)) := ⟨fun _ _ _ => rfl, fun c i _ q => hu_fr q, fun i hi => by rw [hu_fr (by omega)]; exact hr i hi⟩
theorem rw_count : stp_count RelW := by
  rintro Ic Jc B Im Jm ⟨hl, hg, D, h, hr, hca⟩ v1
  obtain ⟨⟨T, N, a1, a2⟩, _⟩ := h
  have h' : RsW hl hg D B Ic Im := ⟨⟨T, N, a1, a2⟩, by assumption⟩
  refine ⟨if v1 = 0 then nI N else (-1 : Int32), h_u Im 0 0 (nI 0), ?_, ?_, rel_R h' hca (onlyR_0 hr)⟩
  · unfold mC_count
    rw [a1.2.1]
  · unfold mM_count
    rw [hl_eq, li_0, hu_fr (by omega), a2.2.1]
    by_cases c : v1 = nI 0
    · rw [if_pos c, if_pos c]
    · rw [if_neg c, if_neg c]
theorem rw_end : stp_end RelW := by
  rintro Ic Jc B Im Jm ⟨hl, hg, D, h, hr, hca⟩ v1
  have h0 := h
  obtain ⟨⟨T, N, a1, a2⟩, _⟩ := h0
  have hN := a1.1
  -- the answer by whether the number is one of 0 .. N
  have e64 : (nI (N + 1) - nI 1).toInt64 = (nI N).toInt64 := by rw [nI_subN (by omega)]; rfl
  rcases range_splitL v1 (n := N + 1) (by omega) e64 with ⟨j, q1, rfl, q3, q4⟩ | ⟨q1, q2, q3⟩
  · refine ⟨nI 1, h_u Ic 1 1 (nI j), h_u (h_u Im 0 0 (nI 0)) 0 2 (nI j), ?_, ?_, ?_⟩
    · unfold mC_end
      rw [if_neg (nI_pos (by omega)), a1.2.1, if_pos ((nI_leI (by omega) (by omega)).mpr (by omega)), hl_eq]
      rfl
    · unfold mM_end
      rw [hl_eq, li_0, hu_fr (show (0 : Nat) ≠ 0 ∨ 2 ≠ 0 by omega), a2.2.1, q4, if_neg (by decide), hl_eq]
      rfl
    · have hpr := pr_ge B
      have htd := td_ge B
      obtain ⟨_, ⟨⟨b3, b4⟩, b5, b6⟩, ⟨b7, b8, b9⟩, b10, b11⟩ := h
      have fC : ∀ c i, (c ≠ 1 ∨ i ≠ 1) → h_u Ic 1 1 (nI j) c i = Ic c i := fun c i w => hu_fr w
      have fM : ∀ c i, (c ≠ 0 ∨ (i ≠ 0 ∧ i ≠ 2)) → h_u (h_u Im 0 0 (nI 0)) 0 2 (nI j) c i = Im c i := fun c i w => by rw [hu_fr (by omega), hu_fr (by omega)]
      refine ⟨hl, hg, D, ⟨⟨T, j, ⟨by omega, h_u_at _ _ _ _, fun i hi => by rw [fC 2 i (by omega)]; exact a1.2.2.1 i (by omega), fun i hi => a1.2.2.2 i (by omega)⟩, ⟨by omega, h_u_at _ _ _ _, fun i hi => by rw [fM 1 i (by omega)]; exact a2.2.2.1 i (by omega), fun i hi => a1.2.2.2 i (by omega)⟩⟩, ⟨⟨by rw [fC 0 12 (by omega)]; exact b3, by rw [fM 0 38 (by omega)]; exact b4⟩, fun q => by rw [fM 0 47 (by omega)]; exact b5 q, fun q => ?_⟩, ⟨by rw [fC 0 11 (by omega)]; exact b7, by rw [fM 0 37 (by omega)]; exact b8, fun q => ?_⟩, fun q => by rw [fM 0 41 (by omega)]; exact b10 q, fun q => ?_⟩, fun i hi => by rw [fC 60 i (by omega), fM 42 i (by omega)]; exact hr i hi, fun q => ?_⟩
      · obtain ⟨J, hJ⟩ := b6 q
        exact ⟨J, gkP_of hJ (fun c i w1 w2 => fC c i (by omega)) (fun c i w1 w2 w3 => fM c i (by omega)) (fun c i w1 w2 => fM c i (by omega)) (fM 0 47 (by omega))⟩
      · obtain ⟨c1, c2, c3⟩ := b9 q
        exact ⟨c1, cR_of c2 (fun c i w1 w2 => fC c i (by omega)), mR_of c3 (fun c i w1 w2 => fM c i (by omega)) (fun i w1 w2 => fM 0 i (by omega))⟩
      · obtain ⟨w, hh, sz, n, np, wt, Q, bn, c1, c2, c3⟩ := b11 q
        exact ⟨w, hh, sz, n, np, wt, Q, bn, ksP_of c1 (fun c i w1 w2 => fC c i (by omega)) (fun c i w1 w2 w3 w4 => fM c i (by omega)) (fun c i w1 w2 w3 => fM c i (by omega)) (fun i w1 w2 => fM 0 i (by omega)), bdQ_of c2 ⟨fC 0 13 (by omega), fC 0 14 (by omega)⟩ (fun k => fM 24 k (by omega)), c3⟩
      · exact caQ_of (b9 q).1 (hca q) (fC 7 9 (by omega)) (fC 13 1 (by omega)) (fun i => fC 16 i (by omega)) (fun i => fC 37 i (by omega)) ⟨fC 38 1 (by omega), fC 38 2 (by omega)⟩ (fun _ _ _ => rfl) (fM 0 67 (by omega)) (fun i => fM 35 i (by omega)) (fun _ _ _ _ => rfl)
  · refine ⟨nI 0, Ic, h_u Im 0 0 (nI 0), ?_, ?_, rel_R h hca (onlyR_0 hr)⟩
    · unfold mC_end
      rw [a1.2.1]
      by_cases c : v1 < 0
      · rw [if_pos c]
        rfl
      · obtain ⟨j, hj, rfl⟩ := i32_of c
        have hnj : ¬ j ≤ N := fun w => q1 j (by omega) rfl
        rw [if_neg c, if_neg (fun w => hnj ((nI_leI (by omega) (by omega)).mp w))]
        rfl
    · unfold mM_end
      rw [hl_eq, li_0, hu_fr (show (0 : Nat) ≠ 0 ∨ 2 ≠ 0 by omega), a2.2.1, q3, if_pos rfl]
