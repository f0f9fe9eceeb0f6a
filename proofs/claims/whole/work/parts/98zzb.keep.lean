/-! What was read is kept: the reference copies it. -/
section Kp
theorem ks_L2 {o q : Nat} (hq : q ≤ 500) : ∀ (r k fuel : Nat) (I : hI), k + r = q → r < fuel → I 0 11 = nI q → ∃ I' : hI, mM_keepsSums_L2 fuel (nI o) (nI k) I = mM_keepsSums_L66 hF (nI o) I' ∧ (∀ c i, 2 ≤ c → c ≤ 4 → k ≤ i → i < q → I' c (500 + i) = I c i) ∧ ∀ c i, (c < 2 ∨ 4 < c ∨ i < 500 + k ∨ 500 + q ≤ i) → I' c i = I c i := by
  intro r
  induction r with
  | zero =>
    intro k fuel I hk hf h
    obtain ⟨fuel, rfl⟩ : ∃ m, fuel = m + 1 := ⟨fuel - 1, by omega⟩
    refine ⟨I, ?_, fun c i q1 q2 q3 q4 => by omega, fun _ _ _ => rfl⟩
    show mM_keepsSums_B2 (mM_keepsSums_L2 fuel) _ _ _ = _
    unfold mM_keepsSums_B2
    rw [h, if_pos ((nI_leI (by omega) (by omega)).mpr (by omega))]
  | succ r ih =>
    intro k fuel I hk hf h
    obtain ⟨fuel, rfl⟩ : ∃ m, fuel = m + 1 := ⟨fuel - 1, by omega⟩
    obtain ⟨J, hJ⟩ : ∃ J, J = h_u (h_u (h_u I 2 (500 + k) (I 2 k)) 3 (500 + k) (I 3 k)) 4 (500 + k) (I 4 k) := ⟨_, rfl⟩
    have fJ : ∀ c i, (c < 2 ∨ 4 < c ∨ i ≠ 500 + k) → J c i = I c i := fun c i w => by rw [hJ, hu_fr (by omega), hu_fr (by omega), hu_fr (by omega)]
    obtain ⟨I', a1, a2, a3⟩ := ih (k + 1) fuel J (by omega) (by omega) (by rw [fJ 0 11 (by omega)]; exact h)
    refine ⟨I', ?_, fun c i q1 q2 q3 q4 => ?_, fun c i w => by rw [a3 c i (by omega), fJ c i (by omega)]⟩
    · rw [← a1]
      show mM_keepsSums_B2 (mM_keepsSums_L2 fuel) _ _ _ = _
      unfold mM_keepsSums_B2
      rw [h, if_neg (fun w => by have := (nI_leI (by omega) (by omega)).mp w; omega), li_500, nI_add, hg_in _ (by omega) (by omega), hg_in _ (by omega) (by omega), hl_eq, hg_in _ (by omega) (by omega), hg_in _ (by omega) (by omega), hl_eq, hg_in _ (by omega) (by omega), hg_in _ (by omega) (by omega), hl_eq, nI_clamp (by omega), nI_clamp (by omega), hu_fr (show (3 : Nat) ≠ 2 ∨ k ≠ 500 + k by omega), hu_fr (show (4 : Nat) ≠ 3 ∨ k ≠ 500 + k by omega), hu_fr (show (4 : Nat) ≠ 2 ∨ k ≠ 500 + k by omega), ← hJ, li_1, nI_add]
    · by_cases e : i = k
      · subst e
        rw [a3 c (500 + i) (by omega), hJ]
        have hc : c = 2 ∨ c = 3 ∨ c = 4 := by omega
        rcases hc with rfl | rfl | rfl
        · rw [hu_fr (by omega), hu_fr (by omega), h_u_at]
        · rw [hu_fr (by omega), h_u_at]
        · rw [h_u_at]
      · rw [a2 c i q1 q2 (by omega) q4, fJ c i (by omega)]
theorem ks_L66 {q : Nat} (hq : q ≤ 500) : ∀ (r k fuel : Nat) (I : hI), k + r = q → r < fuel → I 0 16 = nI q → ∃ I' : hI, mM_keepsSums_L66 fuel (nI k) I = some I' ∧ (∀ i, k ≤ i → i < q → I' 5 (500 + i) = nI 500 + I 5 i ∧ I' 6 (500 + i) = nI 500 + I 6 i ∧ I' 7 (500 + i) = I 7 i ∧ I' 8 (500 + i) = vp_nar .boolean (I 8 i)) ∧ ∀ c i, (c < 5 ∨ 8 < c ∨ i < 500 + k ∨ 500 + q ≤ i) → I' c i = I c i := by
  intro r
  induction r with
  | zero =>
    intro k fuel I hk hf h
    obtain ⟨fuel, rfl⟩ : ∃ m, fuel = m + 1 := ⟨fuel - 1, by omega⟩
    refine ⟨I, ?_, fun i q3 q4 => by omega, fun _ _ _ => rfl⟩
    show mM_keepsSums_B66 (mM_keepsSums_L66 fuel) _ _ = _
    unfold mM_keepsSums_B66
    rw [h, if_pos ((nI_leI (by omega) (by omega)).mpr (by omega))]
  | succ r ih =>
    intro k fuel I hk hf h
    obtain ⟨fuel, rfl⟩ : ∃ m, fuel = m + 1 := ⟨fuel - 1, by omega⟩
    obtain ⟨J, hJ⟩ : ∃ J, J = h_u (h_u (h_u (h_u I 5 (500 + k) (nI 500 + I 5 k)) 6 (500 + k) (nI 500 + I 6 k)) 7 (500 + k) (I 7 k)) 8 (500 + k) (vp_nar .boolean (I 8 k)) := ⟨_, rfl⟩
    have fJ : ∀ c i, (c < 5 ∨ 8 < c ∨ i ≠ 500 + k) → J c i = I c i := fun c i w => by rw [hJ, hu_fr (by omega), hu_fr (by omega), hu_fr (by omega), hu_fr (by omega)]
    obtain ⟨I', a1, a2, a3⟩ := ih (k + 1) fuel J (by omega) (by omega) (by rw [fJ 0 16 (by omega)]; exact h)
    refine ⟨I', ?_, fun i q3 q4 => ?_, fun c i w => by rw [a3 c i (by omega), fJ c i (by omega)]⟩
    · rw [← a1]
      show mM_keepsSums_B66 (mM_keepsSums_L66 fuel) _ _ = _
      unfold mM_keepsSums_B66
      have e500 : (500 : Int32) + nI k = nI (500 + k) := by rw [li_500, nI_add]
      rw [h, if_neg (fun w => by have := (nI_leI (by omega) (by omega)).mp w; omega), e500, hg_in _ (by omega) (by omega), hg_in _ (by omega) (by omega), hl_eq, hg_in _ (by omega) (by omega), hg_in _ (by omega) (by omega), hl_eq, hg_in _ (by omega) (by omega), hg_in _ (by omega) (by omega), hl_eq, hg_in _ (by omega) (by omega), hg_in _ (by omega) (by omega), hl_eq, nI_clamp (by omega), nI_clamp (by omega), hu_fr (show (6 : Nat) ≠ 5 ∨ k ≠ 500 + k by omega), hu_fr (show (7 : Nat) ≠ 6 ∨ k ≠ 500 + k by omega), hu_fr (show (7 : Nat) ≠ 5 ∨ k ≠ 500 + k by omega), hu_fr (show (8 : Nat) ≠ 7 ∨ k ≠ 500 + k by omega), hu_fr (show (8 : Nat) ≠ 6 ∨ k ≠ 500 + k by omega), hu_fr (show (8 : Nat) ≠ 5 ∨ k ≠ 500 + k by omega), li_500, ← hJ, li_1, nI_add]
    · by_cases e : i = k
      · subst e
        rw [a3 5 (500 + i) (by omega), a3 6 (500 + i) (by omega), a3 7 (500 + i) (by omega), a3 8 (500 + i) (by omega), hJ]
        refine ⟨?_, ?_, ?_, ?_⟩
        · rw [hu_fr (by omega), hu_fr (by omega), hu_fr (by omega), h_u_at]
        · rw [hu_fr (by omega), hu_fr (by omega), h_u_at]
        · rw [hu_fr (by omega), h_u_at]
        · rw [h_u_at]
      · obtain ⟨b1, b2, b3, b4⟩ := a2 i (by omega) q4
        exact ⟨by rw [b1, fJ 5 i (by omega)], by rw [b2, fJ 6 i (by omega)], by rw [b3, fJ 7 i (by omega)], by rw [b4, fJ 8 i (by omega)]⟩
/-- the sums and comparisons from o on, kept -/
theorem keeps_m {o q k : Nat} {I : hI} (hq : o ≤ q ∧ q ≤ 500) (hk : o ≤ k ∧ k ≤ 500) (h11 : I 0 11 = nI q) (h16 : I 0 16 = nI k) : ∃ I' : hI, mM_keepsSums (nI o) I = some I' ∧ (∀ c i, 2 ≤ c → c ≤ 4 → o ≤ i → i < q → I' c (500 + i) = I c i) ∧ (∀ i, o ≤ i → i < k → I' 5 (500 + i) = nI 500 + I 5 i ∧ I' 6 (500 + i) = nI 500 + I 6 i ∧ I' 7 (500 + i) = I 7 i ∧ I' 8 (500 + i) = vp_nar .boolean (I 8 i)) ∧ ∀ c i, (c < 2 ∨ 8 < c ∨ i < 500 + o ∨ (500 + q ≤ i ∧ 500 + k ≤ i)) → I' c i = I c i := by
  obtain ⟨I1, a1, a2, a3⟩ := ks_L2 (o := o) hq.2 (q - o) o hF I (by omega) (by unfold hF; omega) h11
  obtain ⟨I2, b1, b2, b3⟩ := ks_L66 hk.2 (k - o) o hF I1 (by omega) (by unfold hF; omega) (by rw [a3 0 16 (by omega)]; exact h16)
  refine ⟨I2, ?_, fun c i q1 q2 q3 q4 => by rw [b3 c _ (by omega), a2 c i q1 q2 q3 q4], fun i q1 q2 => ?_, fun c i w => by rw [b3 c i (by omega), a3 c i (by omega)]⟩
  · unfold mM_keepsSums
    rw [a1, b1]
  · obtain ⟨c1, c2, c3, c4⟩ := b2 i q1 q2
    exact ⟨by rw [c1, a3 5 i (by omega)], by rw [c2, a3 6 i (by omega)], by rw [c3, a3 7 i (by omega)], by rw [c4, a3 8 i (by omega)]⟩
/-- a condition, kept -/
theorem cnR_keep {o t q k a b : Nat} {Ic Im Im' : hI} (ho : o ≤ 250) (hq : q ≤ o + 250) (hb : o + b ≤ k) (h : cnR o t q a b Ic Im) (h1 : ∀ c i, 2 ≤ c → c ≤ 4 → o ≤ i → i < q → Im' c (500 + i) = Im c i) (h2 : ∀ i, o ≤ i → i < k → Im' 5 (500 + i) = nI 500 + Im 5 i ∧ Im' 6 (500 + i) = nI 500 + Im 6 i ∧ Im' 7 (500 + i) = Im 7 i ∧ Im' 8 (500 + i) = vp_nar .boolean (Im 8 i)) : cnR (500 + o) t (500 + o + 250) a b Ic Im' := by
  obtain ⟨a1, a2, a3⟩ := h
  have sm : ∀ l u, o ≤ l → l < q → smQ l u Im → smQ (500 + l) u Im' := fun l u q1 q2 s => by
    obtain ⟨s1, s2, s3, s4⟩ := s
    exact ⟨by rw [h1 2 l (by omega) (by omega) q1 q2]; exact s1, by rw [h1 3 l (by omega) (by omega) q1 q2]; exact s2, by rw [h1 4 l (by omega) (by omega) q1 q2]; exact s3, s4⟩
  refine ⟨fun x q1 q2 => ?_, fun x q1 q2 => ?_, fun q1 => ?_⟩
  · obtain ⟨l, r, rel, u, v, b', b1, b2, b3, b4, b5, b6, b7, b8, b9, b10, b11, b12, b13⟩ := a1 x q1 q2
    obtain ⟨c1, c2, c3, c4⟩ := h2 (o + x) (by omega) (by omega)
    have e : 500 + o + x = 500 + (o + x) := by omega
    refine ⟨500 + l, 500 + r, rel, u, v, b', by omega, by omega, ?_, ?_, sm l u b1.1 b1.2 b5, sm r v b2.1 b2.2 b6, b7, b8, b9, b10, b11, ?_, b13⟩
    · rw [e, c1, b3, nI_add]
    · rw [e, c2, b4, nI_add]
    · rw [e, c3]; exact b12
  · obtain ⟨c1, c2, c3, c4⟩ := h2 (o + x) (by omega) (by omega)
    have e : 500 + o + x = 500 + (o + x) := by omega
    obtain ⟨_, _, _, _, _, b', _, _, _, _, _, _, _, _, _, _, _, _, b13⟩ := a1 (x + 1) (by omega) q2
    rw [e, c4, a2 x q1 q2, b13, nar_b]
  · obtain ⟨c1, c2, c3, c4⟩ := h2 (o + (b - 1)) (by omega) (by omega)
    have e : 500 + o + (b - 1) = 500 + (o + (b - 1)) := by omega
    rw [e, c4, a3 q1]
    exact nar_b true
theorem on_pt {q : Nat} (hq : q ≤ 30) : mM_on (ptI 0 q) (nI 24) = ptI 24 q := by
  unfold mM_on ptI
  by_cases c : q = 0
  · rw [if_pos c, if_pos c, if_pos rfl]
  · rw [if_neg c, if_neg c, if_neg (nI_nem1 (by omega)), nI_add]
    congr 1
    omega
theorem kt_L {n : Nat} (hn : n ≤ 24) : ∀ (r s fuel : Nat) (I : hI), s + r = n → r < fuel → I 0 24 = nI n → ∃ I' : hI, mM_keepsStatements_L2 fuel (nI s) I = some I' ∧ (∀ x, s ≤ x → x < n → I' 9 (24 + x) = I 9 x ∧ I' 10 (24 + x) = (if I 9 x = nI 0 ∨ I 9 x = nI 1 then nI 500 + I 10 x else I 10 x) ∧ I' 11 (24 + x) = nI 500 + I 11 x ∧ I' 12 (24 + x) = nI 500 + I 12 x ∧ I' 13 (24 + x) = mM_on (I 13 x) (nI 24) ∧ I' 14 (24 + x) = mM_on (I 14 x) (nI 24) ∧ I' 15 (24 + x) = mM_on (I 15 x) (nI 24)) ∧ ∀ c i, (c < 9 ∨ 15 < c ∨ i < 24 + s ∨ 24 + n ≤ i) → I' c i = I c i := by
  intro r
  induction r with
  | zero =>
    intro s fuel I hk hf h
    obtain ⟨fuel, rfl⟩ : ∃ m, fuel = m + 1 := ⟨fuel - 1, by omega⟩
    refine ⟨I, ?_, fun i q3 q4 => by omega, fun _ _ _ => rfl⟩
    show mM_keepsStatements_B2 (mM_keepsStatements_L2 fuel) _ _ = _
    unfold mM_keepsStatements_B2
    rw [h, if_pos ((nI_leI (by omega) (by omega)).mpr (by omega))]
  | succ r ih =>
    intro s fuel I hk hf h
    obtain ⟨fuel, rfl⟩ : ∃ m, fuel = m + 1 := ⟨fuel - 1, by omega⟩
    obtain ⟨v, hv⟩ : ∃ v, v = (if I 9 s = nI 0 ∨ I 9 s = nI 1 then nI 500 + I 10 s else I 10 s) := ⟨_, rfl⟩
    obtain ⟨J, hJ⟩ : ∃ J, J = h_u (h_u (h_u (h_u (h_u (h_u (h_u I 9 (24 + s) (I 9 s)) 10 (24 + s) v) 11 (24 + s) (nI 500 + I 11 s)) 12 (24 + s) (nI 500 + I 12 s)) 13 (24 + s) (mM_on (I 13 s) (nI 24))) 14 (24 + s) (mM_on (I 14 s) (nI 24))) 15 (24 + s) (mM_on (I 15 s) (nI 24)) := ⟨_, rfl⟩
    have fJ : ∀ c i, (c < 9 ∨ 15 < c ∨ i ≠ 24 + s) → J c i = I c i := fun c i w => by rw [hJ, hu_fr (by omega), hu_fr (by omega), hu_fr (by omega), hu_fr (by omega), hu_fr (by omega), hu_fr (by omega), hu_fr (by omega)]
    obtain ⟨I', a1, a2, a3⟩ := ih (s + 1) fuel J (by omega) (by omega) (by rw [fJ 0 24 (by omega)]; exact h)
    have g70 : mM_keepsStatements_70 (mM_keepsStatements_L2 fuel) (nI s) (nI (24 + s)) (nI (24 + s)) v (h_u I 9 (24 + s) (I 9 s)) = some I' := by
      rw [← a1]
      unfold mM_keepsStatements_70
      rw [hg_in _ (by omega) (by omega), hl_eq]
      rw [hg_in _ (by omega) (by omega), hg_in _ (by omega) (by omega), hl_eq, hg_in _ (by omega) (by omega), hg_in _ (by omega) (by omega), hl_eq, hg_in _ (by omega) (by omega), hg_in _ (by omega) (by omega), hl_eq, hg_in _ (by omega) (by omega), hg_in _ (by omega) (by omega), hl_eq, hg_in _ (by omega) (by omega), hg_in _ (by omega) (by omega), hl_eq, nI_clamp (by omega), nI_clamp (by omega), li_500, li_24]
      have w : ∀ (c : Nat) (y z : Nat → Nat → Int32), y c s = z c s → y c s = z c s := fun _ _ _ h => h
      rw [hu_fr (show (11 : Nat) ≠ 10 ∨ s ≠ 24 + s by omega), hu_fr (show (11 : Nat) ≠ 9 ∨ s ≠ 24 + s by omega)]
      rw [hu_fr (show (12 : Nat) ≠ 11 ∨ s ≠ 24 + s by omega), hu_fr (show (12 : Nat) ≠ 10 ∨ s ≠ 24 + s by omega), hu_fr (show (12 : Nat) ≠ 9 ∨ s ≠ 24 + s by omega)]
      rw [hu_fr (show (13 : Nat) ≠ 12 ∨ s ≠ 24 + s by omega), hu_fr (show (13 : Nat) ≠ 11 ∨ s ≠ 24 + s by omega), hu_fr (show (13 : Nat) ≠ 10 ∨ s ≠ 24 + s by omega), hu_fr (show (13 : Nat) ≠ 9 ∨ s ≠ 24 + s by omega)]
      rw [hu_fr (show (14 : Nat) ≠ 13 ∨ s ≠ 24 + s by omega), hu_fr (show (14 : Nat) ≠ 12 ∨ s ≠ 24 + s by omega), hu_fr (show (14 : Nat) ≠ 11 ∨ s ≠ 24 + s by omega), hu_fr (show (14 : Nat) ≠ 10 ∨ s ≠ 24 + s by omega), hu_fr (show (14 : Nat) ≠ 9 ∨ s ≠ 24 + s by omega)]
      rw [hu_fr (show (15 : Nat) ≠ 14 ∨ s ≠ 24 + s by omega), hu_fr (show (15 : Nat) ≠ 13 ∨ s ≠ 24 + s by omega), hu_fr (show (15 : Nat) ≠ 12 ∨ s ≠ 24 + s by omega), hu_fr (show (15 : Nat) ≠ 11 ∨ s ≠ 24 + s by omega), hu_fr (show (15 : Nat) ≠ 10 ∨ s ≠ 24 + s by omega), hu_fr (show (15 : Nat) ≠ 9 ∨ s ≠ 24 + s by omega)]
      rw [← hJ, li_1, nI_add]
    refine ⟨I', ?_, fun x q3 q4 => ?_, fun c i w => by rw [a3 c i (by omega), fJ c i (by omega)]⟩
    · have e9 : h_u I 9 (24 + s) (I 9 s) 9 s = I 9 s := hu_fr (by omega)
      have e10 : h_u I 9 (24 + s) (I 9 s) 10 s = I 10 s := hu_fr (by omega)
      show mM_keepsStatements_B2 (mM_keepsStatements_L2 fuel) _ _ = _
      unfold mM_keepsStatements_B2
      rw [h, if_neg (fun w => by have := (nI_leI (by omega) (by omega)).mp w; omega), hl_eq, li_24, nI_add, hg_in _ (by omega) (by omega), hg_in _ (by omega) (by omega), hl_eq, nI_clamp (by omega), nI_clamp (by omega), hg_in _ (by omega) (by omega), e9, e10, li_0, li_1, li_500]
      by_cases c0 : I 9 s = nI 0
      · rw [if_pos c0, hg_in _ (by omega) (by omega)]
        rw [hv, if_pos (Or.inl c0)] at g70
        exact g70
      · rw [if_neg c0, hg_in _ (by omega) (by omega)]
        by_cases c1 : I 9 s = nI 1
        · rw [if_pos c1, hg_in _ (by omega) (by omega)]
          rw [hv, if_pos (Or.inr c1)] at g70
          exact g70
        · rw [if_neg c1, hg_in _ (by omega) (by omega)]
          rw [hv, if_neg (fun w => w.elim c0 c1)] at g70
          exact g70
    · by_cases e : x = s
      · subst e
        rw [a3 9 _ (by omega), a3 10 _ (by omega), a3 11 _ (by omega), a3 12 _ (by omega), a3 13 _ (by omega), a3 14 _ (by omega), a3 15 _ (by omega), hJ]
        refine ⟨?_, ?_, ?_, ?_, ?_, ?_, ?_⟩
        · rw [hu_fr (by omega), hu_fr (by omega), hu_fr (by omega), hu_fr (by omega), hu_fr (by omega), hu_fr (by omega), h_u_at]
        · rw [hu_fr (by omega), hu_fr (by omega), hu_fr (by omega), hu_fr (by omega), hu_fr (by omega), h_u_at]; exact hv
        · rw [hu_fr (by omega), hu_fr (by omega), hu_fr (by omega), hu_fr (by omega), h_u_at]
        · rw [hu_fr (by omega), hu_fr (by omega), hu_fr (by omega), h_u_at]
        · rw [hu_fr (by omega), hu_fr (by omega), h_u_at]
        · rw [hu_fr (by omega), h_u_at]
        · rw [h_u_at]
      · obtain ⟨b1, b2, b3, b4, b5, b6, b7⟩ := a2 x (by omega) q4
        rw [fJ 9 x (by omega), fJ 10 x (by omega)] at b2
        exact ⟨by rw [b1, fJ 9 x (by omega)], b2, by rw [b3, fJ 11 x (by omega)], by rw [b4, fJ 12 x (by omega)], by rw [b5, fJ 13 x (by omega)], by rw [b6, fJ 14 x (by omega)], by rw [b7, fJ 15 x (by omega)]⟩
end Kp
