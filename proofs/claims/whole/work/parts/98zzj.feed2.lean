/-! feed: the reference's side; the step. -/
section Fm
variable {T : Nat → Nat} {N : Nat} {bs : Nat → Nat} {v1 v2 v3 v4 v5 : Int32}
def wdV (v1 v2 v3 v4 v5 : Int32) (k : Nat) : Int32 := if k < 4 then v1 else if k < 8 then v2 else if k < 12 then v3 else if k < 16 then v4 else v5
def bsV (v1 v2 v3 v4 v5 : Int32) (k : Nat) : Nat := btN (wdV v1 v2 v3 v4 v5 k) (24 - 8 * (k % 4))
theorem m_byteOf {k : Nat} (hk : k < 20) : mM_byteOf v1 v2 v3 v4 v5 (nI k) = some (nI (bsV v1 v2 v3 v4 v5 k)) := by
  have hs : 24 - 8 * (k % 4) = 0 ∨ 24 - 8 * (k % 4) = 8 ∨ 24 - 8 * (k % 4) = 16 ∨ 24 - 8 * (k % 4) = 24 := by omega
  have e45 : ∀ v, mM_byteOf_45 (nI k) v = some (nI (btN v (24 - 8 * (k % 4)))) := fun v => by
    unfold mM_byteOf_45
    have e : ((24 : Int32) - ((8 : Int32) * (nI k - nI k / (4 : Int32) * (4 : Int32)))) = nI (24 - 8 * (k % 4)) := by
      rw [li_24, li_8, li_4, nI_modN (by omega) (by omega), nI_mul, nI_subN (by omega)]
    rw [e, li_31, li_255, bt_m v hs]
  unfold mM_byteOf bsV wdV
  rw [e45, e45, e45, e45, e45, li_4, li_8, li_12, li_16]
  by_cases c1 : k < 4
  · rw [if_neg (fun w => by have := (nI_leI (by omega) (by omega)).mp w; omega), if_pos c1]
  · rw [if_pos ((nI_leI (by omega) (by omega)).mpr (by omega)), if_neg c1]
    by_cases c2 : k < 8
    · rw [if_neg (fun w => by have := (nI_leI (by omega) (by omega)).mp w; omega), if_pos c2]
    · rw [if_pos ((nI_leI (by omega) (by omega)).mpr (by omega)), if_neg c2]
      by_cases c3 : k < 12
      · rw [if_neg (fun w => by have := (nI_leI (by omega) (by omega)).mp w; omega), if_pos c3]
      · rw [if_pos ((nI_leI (by omega) (by omega)).mpr (by omega)), if_neg c3]
        by_cases c4 : k < 16
        · rw [if_neg (fun w => by have := (nI_leI (by omega) (by omega)).mp w; omega), if_pos c4]
        · rw [if_pos ((nI_leI (by omega) (by omega)).mpr (by omega)), if_neg c4]
theorem bsV_lt (k : Nat) : bsV v1 v2 v3 v4 v5 k < 256 := btN_lt _ _
theorem tpN_sum (N : Nat) (bs : Nat → Nat) : ∀ k, tpN N bs k = N + tpN 0 bs k := by
  intro k
  induction k with
  | zero => rfl
  | succ k ih => rw [tpN, tpN, ih]; omega
/-- the bytes put on the tape -/
theorem fm_L67 (hbs : bs = bsV v1 v2 v3 v4 v5) (h20 : tpN N bs 20 ≤ 500) : ∀ (r k fuel : Nat) (I : hI), k + r = 20 → r < fuel → tpM (tpT T N bs k) (tpN N bs k) I → ∃ I' : hI, mM_feed_L67 fuel v1 v2 v3 v4 v5 (nI k) I = some (nI (tpN N bs 20), I') ∧ tpM (tpT T N bs 20) (tpN N bs 20) I' ∧ ∀ c i, (c ≠ 0 ∨ i ≠ 2) → c ≠ 1 → I' c i = I c i := by
  intro r
  induction r with
  | zero =>
    intro k fuel I hk hf h
    obtain ⟨fuel, rfl⟩ : ∃ m, fuel = m + 1 := ⟨fuel - 1, by omega⟩
    have ek : k = 20 := by omega
    subst ek
    refine ⟨I, ?_, h, fun _ _ _ _ => rfl⟩
    show mM_feed_B67 (mM_feed_L67 fuel) _ _ _ _ _ _ _ = _
    unfold mM_feed_B67
    rw [if_pos (by decide), h.2.1]
  | succ r ih =>
    intro k fuel I hk hf h
    obtain ⟨fuel, rfl⟩ : ∃ m, fuel = m + 1 := ⟨fuel - 1, by omega⟩
    have hlt : bs k < 256 := by rw [hbs]; exact bsV_lt k
    have hN := h.1
    have n1 : tpN N bs (k + 1) = tpN N bs k + (if bs k = 0 then 0 else 1) := rfl
    have t1 : tpT T N bs (k + 1) = if bs k = 0 then tpT T N bs k else fun i => if i = tpN N bs k then bs k else tpT T N bs k i := rfl
    have hle := tpN_le N bs (k + 1) (20 - (k + 1))
    have e20 : k + 1 + (20 - (k + 1)) = 20 := by omega
    rw [e20] at hle
    have top : mM_feed_L67 (fuel + 1) v1 v2 v3 v4 v5 (nI k) I = if nI (bs k) = nI 0 then mM_feed_L67 fuel v1 v2 v3 v4 v5 (nI (k + 1)) I else (h_g (h_in (nI (tpN N bs k)) 500) <| h_let (h_u I 1 (nI (tpN N bs k)).toNatClampNeg (nI (bs k))) fun I3 => h_let (h_u I3 0 2 ((I3 0 2) + nI 1)) fun I4 => mM_feed_L67 fuel v1 v2 v3 v4 v5 (nI (k + 1)) I4) := by
      show mM_feed_B67 (mM_feed_L67 fuel) _ _ _ _ _ _ _ = _
      unfold mM_feed_B67
      rw [li_20, if_neg (fun w => by have := (nI_leI (by omega) (by omega)).mp w; omega), m_byteOf (by omega), Option.bind_some, ← hbs, h.2.1, li_0, li_1, nI_add]
    by_cases c : bs k = 0
    · rw [if_pos c] at n1 t1
      rw [Nat.add_zero] at n1
      obtain ⟨I', a1, a2, a3⟩ := ih (k + 1) fuel I (by omega) (by omega) (by rw [n1, t1]; exact h)
      refine ⟨I', ?_, a2, a3⟩
      rw [top, if_pos (by rw [c])]
      exact a1
    · rw [if_neg c] at n1 t1
      have c' : ¬ nI (bs k) = nI 0 := fun w => c ((nI_eq (by omega) (by omega)).mp w)
      obtain ⟨I4, hI4⟩ : ∃ J, J = h_u (h_u I 1 (tpN N bs k) (nI (bs k))) 0 2 (nI (tpN N bs k + 1)) := ⟨_, rfl⟩
      have f4 : ∀ c i, (c ≠ 0 ∨ i ≠ 2) → (c ≠ 1 ∨ i ≠ tpN N bs k) → I4 c i = I c i := fun c i w1 w2 => by rw [hI4, hu_fr w1, hu_fr w2]
      have h4 : tpM (tpT T N bs (k + 1)) (tpN N bs (k + 1)) I4 := by
        rw [n1, t1]
        refine ⟨by omega, by rw [hI4, h_u_at], fun i hi => ?_, fun i hi => ?_⟩
        · show I4 1 i = nI (if i = tpN N bs k then bs k else tpT T N bs k i)
          by_cases e : i = tpN N bs k
          · rw [if_pos e, e, hI4, hu_fr (by omega), h_u_at]
          · rw [if_neg e, f4 1 i (by omega) (by omega)]; exact h.2.2.1 i (by omega)
        · show 1 ≤ (if i = tpN N bs k then bs k else tpT T N bs k i) ∧ (if i = tpN N bs k then bs k else tpT T N bs k i) ≤ 255
          by_cases e : i = tpN N bs k
          · rw [if_pos e]; omega
          · rw [if_neg e]; exact h.2.2.2 i (by omega)
      obtain ⟨I', a1, a2, a3⟩ := ih (k + 1) fuel I4 (by omega) (by omega) h4
      refine ⟨I', ?_, a2, fun c i w1 w2 => by rw [a3 c i w1 w2, f4 c i w1 (by omega)]⟩
      rw [top, if_neg c', hg_in _ (by omega) (by omega), hl_eq, hl_eq, nI_clamp (by omega), hu_fr (show (0 : Nat) ≠ 1 ∨ 2 ≠ tpN N bs k by omega), h.2.1, nI_add, ← hI4]
      exact a1
/-- the bytes counted -/
theorem fm_L11 (hbs : bs = bsV v1 v2 v3 v4 v5) {I : hI} (h : tpM T N I) : ∀ (r k fuel : Nat), k + r = 20 → r < fuel → mM_feed_L11 fuel v1 v2 v3 v4 v5 (nI (tpN 0 bs k)) (nI k) I = if tpN N bs 20 ≤ 500 then mM_feed_L67 hF v1 v2 v3 v4 v5 (nI 0) I else some ((-1 : Int32), I) := by
  have hN := h.1
  intro r
  induction r with
  | zero =>
    intro k fuel hk hf
    obtain ⟨fuel, rfl⟩ : ∃ m, fuel = m + 1 := ⟨fuel - 1, by omega⟩
    have ek : k = 20 := by omega
    subst ek
    have hs := tpN_sum N bs 20
    have hu := tpN_up 0 bs 20
    show mM_feed_B11 (mM_feed_L11 fuel) _ _ _ _ _ _ _ _ = _
    unfold mM_feed_B11
    rw [if_pos (by decide), h.2.1, nI_add, li_500, li_0]
    by_cases c : tpN N bs 20 ≤ 500
    · rw [if_pos ((nI_leI (by omega) (by omega)).mpr (by omega)), if_pos c]
    · rw [if_neg (fun w => by have := (nI_leI (by omega) (by omega)).mp w; omega), if_neg c]
  | succ r ih =>
    intro k fuel hk hf
    obtain ⟨fuel, rfl⟩ : ∃ m, fuel = m + 1 := ⟨fuel - 1, by omega⟩
    have hlt : bs k < 256 := by rw [hbs]; exact bsV_lt k
    have go := ih (k + 1) fuel (by omega) (by omega)
    have n1 : tpN 0 bs (k + 1) = tpN 0 bs k + (if bs k = 0 then 0 else 1) := rfl
    show mM_feed_B11 (mM_feed_L11 fuel) _ _ _ _ _ _ _ _ = _
    unfold mM_feed_B11
    rw [li_20, if_neg (fun w => by have := (nI_leI (by omega) (by omega)).mp w; omega), m_byteOf (by omega), Option.bind_some, ← hbs, hl_eq, hl_eq, li_0, li_1, nI_add, nI_add, nI_add]
    rw [n1] at go
    by_cases c : bs k = 0
    · rw [if_pos (by rw [c])]
      rw [if_pos c] at go
      exact go
    · rw [if_neg (fun w => c ((nI_eq (by omega) (by omega)).mp w))]
      rw [if_neg c] at go
      exact go
end Fm
theorem rw_feed : stp_feed RelW := by
  rintro Ic Jc B Im Jm ⟨hl, hg, D, h, hr, hca⟩ v1 v2 v3 v4 v5
  have hpr := pr_ge B
  have htd := td_ge B
  have h0 := h
  obtain ⟨⟨T, N, a1, a2⟩, g⟩ := h0
  obtain ⟨bs, hbs⟩ : ∃ bs, bs = bsV v1 v2 v3 v4 v5 := ⟨_, rfl⟩
  have bsj : ∀ g j, j < 4 → g < 5 → bs (4 * g + j) = btN (wdV v1 v2 v3 v4 v5 (4 * g + j)) (24 - 8 * j) := fun g j q1 q2 => by
    rw [hbs]
    unfold bsV
    have e : (4 * g + j) % 4 = j := by omega
    rw [e]
  have w0 : ∀ j, j < 4 → bs (0 + j) = btN v1 (24 - 8 * j) := fun j q => by
    have := bsj 0 j q (by omega)
    unfold wdV at this
    rw [if_pos (by omega)] at this
    exact this
  have w1 : ∀ j, j < 4 → bs (4 + j) = btN v2 (24 - 8 * j) := fun j q => by
    have := bsj 1 j q (by omega)
    unfold wdV at this
    rw [if_neg (by omega), if_pos (by omega)] at this
    exact this
  have w2 : ∀ j, j < 4 → bs (8 + j) = btN v3 (24 - 8 * j) := fun j q => by
    have := bsj 2 j q (by omega)
    unfold wdV at this
    rw [if_neg (by omega), if_neg (by omega), if_pos (by omega)] at this
    exact this
  have w3 : ∀ j, j < 4 → bs (12 + j) = btN v4 (24 - 8 * j) := fun j q => by
    have := bsj 3 j q (by omega)
    unfold wdV at this
    rw [if_neg (by omega), if_neg (by omega), if_neg (by omega), if_pos (by omega)] at this
    exact this
  have w4 : ∀ j, j < 4 → bs (16 + j) = btN v5 (24 - 8 * j) := fun j q => by
    have := bsj 4 j q (by omega)
    unfold wdV at this
    rw [if_neg (by omega), if_neg (by omega), if_neg (by omega), if_neg (by omega)] at this
    exact this
  have hm0 := tpM_0 a2
  have cnt := fm_L11 (T := T) (N := N) hbs hm0 20 0 hF (by omega) (by unfold hF; omega)
  have topM : mM_feed v1 v2 v3 v4 v5 Im = mM_feed_L11 hF v1 v2 v3 v4 v5 (nI (tpN 0 bs 0)) (nI 0) (h_u Im 0 0 (nI 0)) := by
    unfold mM_feed
    rw [hl_eq]
    rfl
  have keep : ∀ (T' : Nat → Nat) (N' : Nat) (Ic' Im' : hI), tpC T' N' Ic' → tpM T' N' Im' → (∀ c i, (c ≠ 1 ∨ i ≠ 1) → c ≠ 2 → Ic' c i = Ic c i) → (∀ c i, (c ≠ 0 ∨ (i ≠ 0 ∧ i ≠ 2)) → c ≠ 1 → Im' c i = Im c i) → RelW Ic' Jc B Im' Jm := by
    intro T' N' Ic' Im' t1 t2 fC fM
    obtain ⟨⟨⟨b3, b4⟩, b5, b6⟩, ⟨b7, b8, b9⟩, b10, b11⟩ := g
    refine ⟨hl, hg, D, ⟨⟨T', N', t1, t2⟩, ⟨⟨by rw [fC 0 12 (by omega) (by omega)]; exact b3, by rw [fM 0 38 (by omega) (by omega)]; exact b4⟩, fun q => by rw [fM 0 47 (by omega) (by omega)]; exact b5 q, fun q => ?_⟩, ⟨by rw [fC 0 11 (by omega) (by omega)]; exact b7, by rw [fM 0 37 (by omega) (by omega)]; exact b8, fun q => ?_⟩, fun q => by rw [fM 0 41 (by omega) (by omega)]; exact b10 q, fun q => ?_⟩, fun i hi => by rw [fC 60 i (by omega) (by omega), fM 42 i (by omega) (by omega)]; exact hr i hi, fun q => ?_⟩
    · obtain ⟨J, hJ⟩ := b6 q
      exact ⟨J, gkP_of hJ (fun c i w1 w2 => fC c i (by omega) (by omega)) (fun c i w1 w2 w3 => fM c i (by omega) (by omega)) (fun c i w1 w2 => fM c i (by omega) (by omega)) (fM 0 47 (by omega) (by omega))⟩
    · obtain ⟨c1, c2, c3⟩ := b9 q
      exact ⟨c1, cR_of c2 (fun c i w1 w2 => fC c i (by omega) (by omega)), mR_of c3 (fun c i w1 w2 => fM c i (by omega) (by omega)) (fun i w1 w2 => fM 0 i (by omega) (by omega))⟩
    · obtain ⟨w, hh, sz, n, np, wt, Q, bn, c1, c2, c3⟩ := b11 q
      exact ⟨w, hh, sz, n, np, wt, Q, bn, ksP_of c1 (fun c i w1 w2 => fC c i (by omega) (by omega)) (fun c i w1 w2 w3 w4 => fM c i (by omega) (by omega)) (fun c i w1 w2 w3 => fM c i (by omega) (by omega)) (fun i w1 w2 => fM 0 i (by omega) (by omega)), bdQ_of c2 ⟨fC 0 13 (by omega) (by omega), fC 0 14 (by omega) (by omega)⟩ (fun k => fM 24 k (by omega) (by omega)), c3⟩
    · exact caQ_of (b9 q).1 (hca q) (fC 7 9 (by omega) (by omega)) (fC 13 1 (by omega) (by omega)) (fun i => fC 16 i (by omega) (by omega)) (fun i => fC 37 i (by omega) (by omega)) ⟨fC 38 1 (by omega) (by omega), fC 38 2 (by omega) (by omega)⟩ (fun _ _ _ => rfl) (fM 0 67 (by omega) (by omega)) (fun i => fM 35 i (by omega) (by omega)) (fun _ _ _ _ => rfl)
  rcases c_feed (bs := bs) w0 w1 w2 w3 w4 a1 with ⟨x1, Ic', x2, x3, x4⟩ | ⟨x1, Ic', x2, x3, x4⟩
  · obtain ⟨Im', y1, y2, y3⟩ := fm_L67 (T := T) (N := N) hbs x1 20 0 hF (h_u Im 0 0 (nI 0)) (by omega) (by unfold hF; omega) hm0
    refine ⟨nI (tpN N bs 20), Ic', Im', x2, ?_, keep _ _ Ic' Im' x3 y2 x4 (fun c i w1 w2 => by rw [y3 c i (by omega) w2, hu_fr (by omega)])⟩
    rw [topM, cnt, if_pos x1]
    exact y1
  · refine ⟨(-1 : Int32), Ic', h_u Im 0 0 (nI 0), x2, ?_, keep _ _ Ic' _ x3 hm0 x4 (fun c i w1 w2 => hu_fr (by omega))⟩
    rw [topM, cnt, if_neg (by omega)]
