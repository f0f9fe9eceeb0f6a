/-! Leading determinants are above 0, where nothing stays. -/
theorem ex_maxI (v : Nat → Int) : ∀ k, 0 < k → ∃ i, i < k ∧ ∀ j, j < k → v j ≤ v i
  | 0, h => absurd h (by omega)
  | 1, _ => ⟨0, by omega, fun j hj => by have : j = 0 := by omega
                                         subst this; exact Int.le_refl _⟩
  | k + 2, _ => by
    obtain ⟨i, hi, h⟩ := ex_maxI v (k + 1) (by omega)
    by_cases e : v i ≤ v (k + 1)
    · refine ⟨k + 1, by omega, fun j hj => ?_⟩
      by_cases e2 : j = k + 1
      · subst e2; exact Int.le_refl _
      · exact Int.le_trans (h j (by omega)) e
    · refine ⟨i, by omega, fun j hj => ?_⟩
      by_cases e2 : j = k + 1
      · subst e2; omega
      · exact h j (by omega)
/-- nothing closed in itself -/
def escP (k : Nat) (p : Nat → Nat → Int) : Prop := ∀ S : Nat → Bool, (∃ i, i < k ∧ S i = true) → ∃ i, i < k ∧ S i = true ∧ sumN k (fun j => if S j = true then p i j else 0) < 4
theorem maxp_le {k : Nat} {p : Nat → Nat → Int} (hp : ∀ i, i < k → ∀ j, j < k → 0 ≤ p i j) (h4 : ∀ i, i < k → sumN k (p i) ≤ 4) (hesc : escP k p) {v : Nat → Int} (hv : ∀ i, i < k → 4 * v i ≤ sumN k (fun j => p i j * v j)) : ∀ i, i < k → v i ≤ 0 := by
  intro i0 hi0
  obtain ⟨im, him, hmax⟩ := ex_maxI v k (by omega)
  by_cases hM : v im ≤ 0
  · exact Int.le_trans (hmax i0 hi0) hM
  · exfalso
    obtain ⟨i, hi, hS, hlt⟩ := hesc (fun j => decide (v j = v im)) ⟨im, him, by simp⟩
    simp only [decide_eq_true_eq] at hS hlt
    generalize hMM : v im = M at *
    have e1 : sumN k (fun j => p i j * v j) ≤ sumN k (fun j => p i j * (if v j = M then M else M - 1)) := sumN_le (fun j hj => Int.mul_le_mul_of_nonneg_left (by
      have := hmax j hj
      by_cases e : v j = M
      · rw [if_pos e]; omega
      · rw [if_neg e]; omega) (hp i hi j hj))
    have e3 : sumN k (fun j => p i j * (if v j = M then M else M - 1)) = (M - 1) * sumN k (p i) + 1 * sumN k (fun j => if v j = M then p i j else 0) := by
      rw [← sumN_lin]
      refine sumN_congr (fun j _ => ?_)
      by_cases e : v j = M
      · rw [if_pos e, if_pos e]; grind
      · rw [if_neg e, if_neg e]; grind
    have hvv := hv i hi
    have h4i := h4 i hi
    rw [hS] at hvv
    generalize sumN k (fun j => if v j = M then p i j else 0) = a at *
    generalize sumN k (p i) = t at *
    have g1 : (M - 1) * t ≤ (M - 1) * 4 := Int.mul_le_mul_of_nonneg_left h4i (by omega)
    omega
theorem escP_le {m k : Nat} {p : Nat → Nat → Int} (h : escP m p) (hk : k ≤ m) : escP k p := by
  intro S hS
  obtain ⟨i, hi, hSi⟩ := hS
  obtain ⟨i', h1, h2, h3⟩ := h (fun j => decide (j < k) && S j) ⟨i, by omega, by simp [hi, hSi]⟩
  simp only [Bool.and_eq_true, decide_eq_true_eq] at h2 h3
  refine ⟨i', h2.1, h2.2, ?_⟩
  have e : ∀ n, k ≤ n → sumN n (fun j => if j < k ∧ S j = true then p i' j else 0) = sumN k (fun j => if S j = true then p i' j else 0) := by
    intro n hn
    induction n with
    | zero => have : k = 0 := by omega
              subst this; rfl
    | succ n ih =>
      by_cases e : k = n + 1
      · subst e
        exact sumN_congr (fun j hj => by simp [hj])
      · rw [sumN, ih (by omega), if_neg (by omega)]
        omega
  rw [e m hk] at h3
  exact h3
theorem sumN_mono {k m : Nat} {f : Nat → Int} (hk : k ≤ m) (h : ∀ j, j < m → 0 ≤ f j) : sumN k f ≤ sumN m f := by
  induction m with
  | zero => have : k = 0 := by omega
            subst this; exact Int.le_refl _
  | succ m ih =>
    by_cases e : k = m + 1
    · subst e; exact Int.le_refl _
    · have := ih (by omega) (fun j hj => h j (by omega))
      have := h m (by omega)
      rw [sumN]
      omega
section Lead
variable {m : Nat} {p : Nat → Nat → Int} {r : Nat → dR}
theorem lead_inj (hp : ∀ i, i < m → ∀ j, j < m → 0 ≤ p i j) (h4 : ∀ i, i < m → sumN m (p i) ≤ 4) (hesc : escP m p) (hr : ∀ i, i < m → ∀ c, c < m → r i c = (if c = i then 4 else 0) - p i c) : ∀ k, k ≤ m → ∀ v : Nat → Int, (∀ i, i < k → sumN k (fun j => r i j * v j) = 0) → ∀ i, i < k → v i = 0 := by
  intro k hk v hv
  have key : ∀ i, i < k → 4 * v i = sumN k (fun j => p i j * v j) := by
    intro i hi
    have h1 := hv i hi
    have h2 : sumN k (fun j => r i j * v j) = sumN k (fun j => 1 * (if j = i then 4 * v i else 0) + (-1) * (p i j * v j)) := sumN_congr (fun j hj => by
      rw [hr i (by omega) j (by omega)]
      by_cases e : j = i
      · subst e; rw [if_pos rfl, if_pos rfl]; grind
      · rw [if_neg e, if_neg e]; grind)
    rw [h2, sumN_lin, sumN_single _ hi (fun j _ hne => by rw [if_neg hne]), if_pos rfl] at h1
    omega
  exact maxp (fun i hi j hj => hp i (by omega) j (by omega)) (fun i hi => Int.le_trans (sumN_mono hk (fun j hj => hp i (by omega) j hj)) (h4 i (by omega))) (escP_le hesc hk) key
theorem lead_pos (hp : ∀ i, i < m → ∀ j, j < m → 0 ≤ p i j) (h4 : ∀ i, i < m → sumN m (p i) ≤ 4) (hesc : escP m p) (hr : ∀ i, i < m → ∀ c, c < m → r i c = (if c = i then 4 else 0) - p i c) : ∀ k, k ≤ m → 0 < dt (rsN r k) (csN k) := by
  intro k
  induction k with
  | zero => intro _; simp [rsN, csN, dt]
  | succ k ih =>
    intro hk
    have hd := ih (by omega)
    have hne := lead_ne r m (lead_inj hp h4 hesc hr) (k + 1) hk
    have hx : dt (rsN r (k + 1)) (csN (k + 1)) = r k k * dt (rsN r k) (csN k) - dX (r k) (csN k) (fun i => dt (rsN r k) ((csN k).set i k)) := dt_exp (r k) (rsN r k) k (csN k)
    rw [dX_csN] at hx
    have hsol : ∀ i, i < k → sumN k (fun j => r i j * dt (rsN r k) ((csN k).set (k - 1 - j) k)) = r i k * dt (rsN r k) (csN k) := fun i hi => by
      rw [← cramer1 ((rsN_mem r k _).mpr ⟨i, hi, rfl⟩) k (csN k), dX_csN]
    generalize hG : (fun j => dt (rsN r k) ((csN k).set (k - 1 - j) k)) = G at *
    have hG2 : ∀ j, dt (rsN r k) ((csN k).set (k - 1 - j) k) = G j := fun j => by rw [← hG]
    simp only [hG2] at hx hsol
    generalize dt (rsN r k) (csN k) = d at *
    have hv : ∀ i, i < k → - G i - d ≤ 0 := by
      refine maxp_le (p := p) (k := k) (fun i hi j hj => hp i (by omega) j (by omega)) (fun i hi => Int.le_trans (sumN_mono (by omega) (fun j hj => hp i (by omega) j hj)) (h4 i (by omega))) (escP_le hesc (by omega)) (fun i hi => ?_)
      have h1 := hsol i hi
      have h2 : sumN k (fun j => r i j * G j) = sumN k (fun j => 1 * (if j = i then 4 * G i else 0) + (-1) * (p i j * G j)) := sumN_congr (fun j hj => by
        rw [hr i (by omega) j (by omega)]
        by_cases e : j = i
        · subst e; rw [if_pos rfl, if_pos rfl]; grind
        · rw [if_neg e, if_neg e]; grind)
      rw [h2, sumN_lin, sumN_single _ hi (fun j _ hne => by rw [if_neg hne]), if_pos rfl, hr i (by omega) k (by omega), if_neg (by omega)] at h1
      have h3 : sumN k (fun j => p i j * (- G j - d)) = sumN k (fun j => (-1) * (p i j * G j) + (-d) * p i j) := sumN_congr (fun j _ => by grind)
      rw [h3, sumN_lin]
      have h5 := Int.le_trans (sumN_mono hk (fun j hj => hp i (by omega) j hj)) (h4 i (by omega))
      rw [sumN] at h5
      have e5 : sumN k (fun j => p i j) = sumN k (p i) := rfl
      rw [e5]
      generalize sumN k (fun j => p i j * G j) = A at *
      generalize sumN k (p i) = t at *
      have h6 : d * (t + p i k) ≤ d * 4 := Int.mul_le_mul_of_nonneg_left h5 (by omega)
      have h7 : d * (t + p i k) = d * t + d * p i k := by grind
      have h8 : (0 - p i k) * d = - (d * p i k) := by grind
      have h9 : -d * t = - (d * t) := by grind
      rw [h8] at h1
      rw [h9]
      omega
    have hge : 0 ≤ dt (rsN r (k + 1)) (csN (k + 1)) := by
      rw [hx, hr k (by omega) k (by omega), if_pos rfl]
      have h2 : sumN k (fun j => r k j * G j) = sumN k (fun j => (-1) * (p k j * G j) + 0 * 0) := sumN_congr (fun j hj => by
        rw [hr k (by omega) j (by omega), if_neg (by omega)]; grind)
      rw [h2, sumN_lin k (f := fun j => p k j * G j) (g := fun _ => 0) (a := -1) (b := 0)]
      have h3 : sumN k (fun j => (-d) * p k j) ≤ sumN k (fun j => p k j * G j) := sumN_le (fun j hj => by
        have h4' := Int.mul_le_mul_of_nonneg_left (show - d ≤ G j by have := hv j hj; omega) (hp k (by omega) j (by omega))
        rw [Int.mul_comm (-d)]
        exact h4')
      rw [sumN_mul] at h3
      have h5 := Int.le_trans (sumN_mono hk (fun j hj => hp k (by omega) j hj)) (h4 k (by omega))
      rw [sumN] at h5
      have e5 : sumN k (fun j => p k j) = sumN k (p k) := rfl
      rw [e5] at h3
      generalize sumN k (fun j => p k j * G j) = A at *
      generalize sumN k (p k) = t at *
      have h6 : d * (t + p k k) ≤ d * 4 := Int.mul_le_mul_of_nonneg_left h5 (by omega)
      have h7 : d * (t + p k k) = d * t + d * p k k := by grind
      have h8 : (4 - p k k) * d = 4 * d - d * p k k := by grind
      have h9 : -d * t = - (d * t) := by grind
      rw [h8]
      omega
    omega
end Lead
/-! Reach is what it should be. -/
section Re
variable {D : rD} {p : Nat}
theorem pK_mono {k s t : Nat} (h : pK D p k s t = true) : ∀ k', k ≤ k' → pK D p k' s t = true := by
  intro k'
  induction k' with
  | zero => intro hk; have : k = 0 := by omega
            subst this; exact h
  | succ k' ih =>
    intro hk
    by_cases e : k = k' + 1
    · subst e; exact h
    · rw [pK, ih (by omega)]; rfl
theorem pK_trans : ∀ (k : Nat) (s q t : Nat), q < k → pK D p k s q = true → pK D p k q t = true → pK D p k s t = true
  | 0, s, q, t, h, _, _ => absurd h (by omega)
  | k + 1, s, q, t, h, h1, h2 => by
    have ih := pK_trans k
    rw [pK, Bool.or_eq_true, Bool.and_eq_true] at h1 h2 ⊢
    have hkk := pK_refl D p k k
    by_cases e : q = k
    · subst e
      have a1 : pK D p q s q = true := h1.elim id (fun h => h.1)
      have a2 : pK D p q q t = true := h2.elim id (fun h => h.2)
      exact Or.inr ⟨a1, a2⟩
    · have hq : q < k := by omega
      rcases h1 with h1 | ⟨h1, h1'⟩ <;> rcases h2 with h2 | ⟨h2, h2'⟩
      · exact Or.inl (ih s q t hq h1 h2)
      · exact Or.inr ⟨ih s q k hq h1 h2, h2'⟩
      · exact Or.inr ⟨h1, ih k q t hq h1' h2⟩
      · exact Or.inr ⟨h1, h2'⟩
theorem pRe_trans {s q t : Nat} (hq : q < D 0 0) (h1 : pRe D p s q = true) (h2 : pRe D p q t = true) : pRe D p s t = true := pK_trans _ s q t hq h1 h2
theorem pRe_refl (s : Nat) : pRe D p s s = true := pK_refl D p s _
theorem pRe_edge {s t : Nat} (h1 : pIn D s = true) (h2 : 0 < pW D p s t) : pRe D p s t = true := pK_mono (k := 0) (by simp [pK, pE, h1, h2]) _ (Nat.zero_le _)
/-- what is closed under ways is closed under reach -/
theorem pK_closed {S : Nat → Prop} (hS : ∀ s, S s → pIn D s = true → ∀ t, t < D 0 0 → 0 < pW D p s t → S t) : ∀ (k s t : Nat), k ≤ D 0 0 → t < D 0 0 → S s → pK D p k s t = true → S t
  | 0, s, t, _, ht, hs, h => by
    simp only [pK, pE, Bool.or_eq_true, decide_eq_true_eq, Bool.and_eq_true] at h
    rcases h with h | ⟨h1, h2⟩
    · rw [h]; exact hs
    · exact hS s hs h1 t ht h2
  | k + 1, s, t, hk, ht, hs, h => by
    rw [pK, Bool.or_eq_true, Bool.and_eq_true] at h
    rcases h with h | ⟨h1, h2⟩
    · exact pK_closed hS k s t (by omega) ht hs h
    · exact pK_closed hS k k t (by omega) ht (pK_closed hS k s k (by omega) (by omega) hs h1) h2
theorem cnt_sub {g h : Nat → Bool} : ∀ n, (∀ i, i < n → g i = true → h i = true) → cnt g n ≤ cnt h n
  | 0, _ => Nat.le_refl _
  | n + 1, hh => by
    have := cnt_sub n (fun i hi => hh i (by omega))
    have h2 := hh n (by omega)
    rw [cnt, cnt]
    by_cases e : g n = true
    · rw [if_pos e, if_pos (h2 e)]; omega
    · rw [if_neg e]; omega
theorem cnt_eqs {g h : Nat → Bool} : ∀ n, (∀ i, i < n → g i = true → h i = true) → cnt h n ≤ cnt g n → ∀ i, i < n → h i = true → g i = true
  | 0, _, _, i, hi, _ => absurd hi (by omega)
  | n + 1, hh, hc, i, hi, h2 => by
    have hs := cnt_sub n (fun i hi => hh i (by omega))
    rw [cnt, cnt] at hc
    have hn := hh n (by omega)
    by_cases e : i = n
    · subst e
      rw [if_pos h2] at hc
      by_cases eg : g i = true
      · exact eg
      · rw [if_neg eg] at hc; omega
    · refine cnt_eqs n (fun i hi => hh i (by omega)) ?_ i (by omega) h2
      by_cases eg : g n = true
      · rw [if_pos eg, if_pos (hn eg)] at hc; omega
      · rw [if_neg eg] at hc; omega
theorem ex_min (Q : Nat → Prop) (w : Nat → Nat) : ∀ B s, Q s → w s ≤ B → ∃ s, Q s ∧ ∀ t, Q t → w s ≤ w t
  | 0, s, hs, hb => ⟨s, hs, fun t _ => by omega⟩
  | B + 1, s, hs, hb => by
    by_cases e : ∃ t, Q t ∧ w t < w s
    · obtain ⟨t, h1, h2⟩ := e
      exact ex_min Q w B t h1 (by omega)
    · exact ⟨s, hs, fun t ht => by
        by_cases h : w t < w s
        · exact absurd ⟨t, ht, h⟩ e
        · omega⟩
/-- a set of states that are IN, none ends, none leads out of it: some of it stay -/
theorem closed_stays {S : Nat → Prop} {s0 : Nat} (h0 : S s0) (hn : ∀ s, S s → s < D 0 0 ∧ pIn D s = true ∧ pLv D p s = false) (hS : ∀ s, S s → ∀ t, t < D 0 0 → 0 < pW D p s t → S t) : ∃ s, S s ∧ pSt D p s = true := by
  obtain ⟨s, hs, hmin⟩ := ex_min S (fun s => cnt (pRe D p s) (D 0 0)) (D 0 0) s0 h0 (cnt_le _ _)
  refine ⟨s, hs, ?_⟩
  obtain ⟨h1, h2, h3⟩ := hn s hs
  unfold pSt
  rw [h2, Bool.true_and, allB_iff]
  intro t ht
  cases hr : pRe D p s t
  · rfl
  · have hSt : S t := pK_closed (fun s hs _ t ht hw => hS s hs t ht hw) (D 0 0) s t (Nat.le_refl _) ht hs hr
    obtain ⟨g1, g2, g3⟩ := hn t hSt
    have hts : pRe D p t s = true := by
      refine cnt_eqs (g := pRe D p t) (h := pRe D p s) (D 0 0) (fun i hi hti => pRe_trans ht hr hti) (hmin t hSt) s h1 (pRe_refl s)
    rw [g2, g3, hts]
    rfl
end Re
