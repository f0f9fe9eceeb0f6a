/-! best: the reference goes through all corners. -/
def rowT (js ks i j k : Nat) : Prop := (js = 1 ∨ i < j) ∧ (ks = 1 ∨ i < k) ∧ (js = 1 ∨ ks = 1 ∨ j < k)
section Lq
variable {D : rD} {L : List (Nat → Int)}
theorem lb_row (k44 k56 k65 : _) (v1 v2 : Int32) (I : hI) (J : hJ) {js ks i j k : Nat} (hjs : js ≤ 90) (hks : ks ≤ 90) (hi : i < 90) (hj : j < js) (hk : k < ks) : (rowT js ks i j k ∧ mM_laysBest_B65 k44 k56 k65 v1 v2 (nI js) (nI ks) (nI i) (nI j) (nI k) I J = mM_laysBest_120 k44 k56 k65 v1 v2 (nI js) (nI ks) (nI i) (nI j) (nI k) (nI 1) I J) ∨ (¬ rowT js ks i j k ∧ mM_laysBest_B65 k44 k56 k65 v1 v2 (nI js) (nI ks) (nI i) (nI j) (nI k) I J = k65 v1 v2 (nI js) (nI ks) (nI i) (nI j) (nI (k + 1)) I J) := by
  have z1 : (1 : Int32) = nI 1 := rfl
  have z0 : (0 : Int32) = nI 0 := rfl
  have a0 : ¬ nI ks ≤ nI k := by rw [nI_leI (by omega) (by omega)]; omega
  have a1 := nI_eq (a := js) (b := 1) (by omega) (by omega)
  have a2 := nI_eq (a := ks) (b := 1) (by omega) (by omega)
  have a3 := nI_leI (a := j) (b := i) (by omega) (by omega)
  have a4 := nI_leI (a := k) (b := i) (by omega) (by omega)
  have a5 := nI_leI (a := k) (b := j) (by omega) (by omega)
  have e119 : mM_laysBest_119 k44 k56 k65 v1 v2 (nI js) (nI ks) (nI i) (nI j) (nI k) I J = k65 v1 v2 (nI js) (nI ks) (nI i) (nI j) (nI (k + 1)) I J := by
    unfold mM_laysBest_119 mM_laysBest_120
    rw [if_pos rfl, z1, nI_add]
  have e97 : (rowT js ks i j k → mM_laysBest_97 k44 k56 k65 v1 v2 (nI js) (nI ks) (nI i) (nI j) (nI k) I J = mM_laysBest_120 k44 k56 k65 v1 v2 (nI js) (nI ks) (nI i) (nI j) (nI k) (nI 1) I J) ∧ (¬ (js = 1 ∨ ks = 1 ∨ j < k) → mM_laysBest_97 k44 k56 k65 v1 v2 (nI js) (nI ks) (nI i) (nI j) (nI k) I J = k65 v1 v2 (nI js) (nI ks) (nI i) (nI j) (nI (k + 1)) I J) := by
    unfold mM_laysBest_97
    rw [z1, e119]
    by_cases c1 : js = 1
    · rw [if_pos (a1.mpr c1)]
      exact ⟨fun _ => rfl, fun h => absurd (Or.inl c1) h⟩
    · rw [if_neg (fun h => c1 (a1.mp h))]
      by_cases c2 : ks = 1
      · rw [if_pos (a2.mpr c2)]
        exact ⟨fun _ => rfl, fun h => absurd (Or.inr (Or.inl c2)) h⟩
      · rw [if_neg (fun h => c2 (a2.mp h))]
        by_cases c3 : j < k
        · rw [if_neg (fun h => by have := a5.mp h; omega)]
          exact ⟨fun _ => rfl, fun h => absurd (Or.inr (Or.inr c3)) h⟩
        · rw [if_pos (a5.mpr (by omega))]
          exact ⟨fun h => by unfold rowT at h; omega, fun _ => rfl⟩
  have e84 : (rowT js ks i j k → mM_laysBest_84 k44 k56 k65 v1 v2 (nI js) (nI ks) (nI i) (nI j) (nI k) I J = mM_laysBest_120 k44 k56 k65 v1 v2 (nI js) (nI ks) (nI i) (nI j) (nI k) (nI 1) I J) ∧ (¬ ((ks = 1 ∨ i < k) ∧ (js = 1 ∨ ks = 1 ∨ j < k)) → mM_laysBest_84 k44 k56 k65 v1 v2 (nI js) (nI ks) (nI i) (nI j) (nI k) I J = k65 v1 v2 (nI js) (nI ks) (nI i) (nI j) (nI (k + 1)) I J) := by
    unfold mM_laysBest_84
    rw [z1, e119]
    by_cases c2 : ks = 1
    · rw [if_pos (a2.mpr c2)]
      exact ⟨e97.1, fun h => absurd ⟨Or.inl c2, Or.inr (Or.inl c2)⟩ h⟩
    · rw [if_neg (fun h => c2 (a2.mp h))]
      by_cases c3 : i < k
      · rw [if_neg (fun h => by have := a4.mp h; omega)]
        exact ⟨e97.1, fun h => e97.2 (fun q => h ⟨Or.inr c3, q⟩)⟩
      · rw [if_pos (a4.mpr (by omega))]
        exact ⟨fun h => by unfold rowT at h; omega, fun _ => rfl⟩
  unfold mM_laysBest_B65
  rw [if_neg a0, z1, e119]
  by_cases c1 : js = 1
  · rw [if_pos (a1.mpr c1)]
    by_cases q : rowT js ks i j k
    · exact Or.inl ⟨q, e84.1 q⟩
    · exact Or.inr ⟨q, e84.2 (fun h => q ⟨Or.inl c1, h⟩)⟩
  · rw [if_neg (fun h => c1 (a1.mp h))]
    by_cases c3 : i < j
    · rw [if_neg (fun h => by have := a3.mp h; omega)]
      by_cases q : rowT js ks i j k
      · exact Or.inl ⟨q, e84.1 q⟩
      · exact Or.inr ⟨q, e84.2 (fun h => q ⟨Or.inr c3, h⟩)⟩
    · rw [if_pos (a3.mpr (by omega))]
      exact Or.inr ⟨fun h => by unfold rowT at h; omega, rfl⟩
theorem offB_tr {J J' J'' : hJ} (h1 : offB J J') (h2 : offB J' J'') : offB J J'' := fun a x h => by rw [h2 a x h, h1 a x h]
theorem lk_L (hD : rOk D) {I : hI} (hm : mR D I) (hL : L.length ≤ 90) (hB : ∀ r ∈ L, rB r) {js ks : Nat} (hjs : js ≤ 90) (hks : ks ≤ 90) (hj1 : D 0 1 ≠ 1 → js ≤ L.length) (hk1 : D 0 2 ≠ 1 → ks ≤ L.length) {i j s : Nat} (hs : s < D 0 0) (hi : i < L.length) (hj : j < js) (k44 k56 : _) {W : (Nat → Int) → Prop} : ∀ (r k fuel : Nat) (b : Bool) (J : hJ), k + r = ks → r < fuel → mlQ L I J → kmQ D (fun P => W P ∨ ∃ k', k' < k ∧ rowT js ks i j k' ∧ coT D L i j k' P) s b J → ∃ (b' : Bool) (J' : hJ), mM_laysBest_L65 k44 k56 fuel (nI s) (bI b) (nI js) (nI ks) (nI i) (nI j) (nI k) I J = k56 (nI s) (bI b') (nI js) (nI ks) (nI i) (nI (j + 1)) I J' ∧ offB J J' ∧ kmQ D (fun P => W P ∨ ∃ k', k' < ks ∧ rowT js ks i j k' ∧ coT D L i j k' P) s b' J' := by
  intro r
  induction r with
  | zero =>
    intro k fuel b J hk hf h hq
    obtain ⟨fuel, rfl⟩ : ∃ m, fuel = m + 1 := ⟨fuel - 1, by omega⟩
    obtain rfl : k = ks := by omega
    refine ⟨b, J, ?_, fun _ _ _ => rfl, hq⟩
    show mM_laysBest_B65 k44 k56 (mM_laysBest_L65 k44 k56 fuel) _ _ _ _ _ _ _ _ _ = _
    unfold mM_laysBest_B65
    rw [if_pos ((nI_leI (by omega) (by omega)).mpr (Nat.le_refl _)), li_1, nI_add]
  | succ r ih =>
    intro k fuel b J hk hf h hq
    obtain ⟨fuel, rfl⟩ : ∃ m, fuel = m + 1 := ⟨fuel - 1, by omega⟩
    rcases lb_row k44 k56 (mM_laysBest_L65 k44 k56 fuel) (nI s) (bI b) I J hjs hks (show i < 90 by omega) hj (show k < ks by omega) with ⟨q, e⟩ | ⟨q, e⟩
    · obtain ⟨b1, J1, a1, a2, a3⟩ := lb_step hD hm hL hB h hs hi (j := j) (k := k) (fun c => by have := hj1 c; omega) (fun c => by have := hk1 c; omega) hq (nI js) (nI ks) k44 k56 (mM_laysBest_L65 k44 k56 fuel)
      obtain ⟨b', J', c1, c2, c3⟩ := ih (k + 1) fuel b1 J1 (by omega) (by omega) (mlQ_off h a2) (kmQ_congr a3 (fun P hP => by
        constructor
        · rintro ((w | ⟨k', w1, w2⟩) | w)
          · exact Or.inl w
          · exact Or.inr ⟨k', by omega, w2⟩
          · exact Or.inr ⟨k, by omega, q, w⟩
        · rintro (w | ⟨k', w1, w2, w3⟩)
          · exact Or.inl (Or.inl w)
          · by_cases c : k' = k
            · subst c; exact Or.inr w3
            · exact Or.inl (Or.inr ⟨k', by omega, w2, w3⟩)))
      refine ⟨b', J', ?_, offB_tr a2 c2, c3⟩
      rw [← c1, ← a1]
      exact e
    · obtain ⟨b', J', c1, c2, c3⟩ := ih (k + 1) fuel b J (by omega) (by omega) h (kmQ_congr hq (fun P hP => by
        constructor
        · rintro (w | ⟨k', w1, w2⟩)
          · exact Or.inl w
          · exact Or.inr ⟨k', by omega, w2⟩
        · rintro (w | ⟨k', w1, w2, w3⟩)
          · exact Or.inl w
          · by_cases c : k' = k
            · subst c; exact absurd w2 q
            · exact Or.inr ⟨k', by omega, w2, w3⟩))
      refine ⟨b', J', ?_, c2, c3⟩
      rw [← c1]
      exact e
theorem lj_L (hD : rOk D) {I : hI} (hm : mR D I) (hL : L.length ≤ 90) (hB : ∀ r ∈ L, rB r) {js ks : Nat} (hjs : js ≤ 90) (hks : ks ≤ 90) (hj1 : D 0 1 ≠ 1 → js ≤ L.length) (hk1 : D 0 2 ≠ 1 → ks ≤ L.length) {i s : Nat} (hs : s < D 0 0) (hi : i < L.length) (k44 : _) {W : (Nat → Int) → Prop} : ∀ (r j fuel : Nat) (b : Bool) (J : hJ), j + r = js → r < fuel → mlQ L I J → kmQ D (fun P => W P ∨ ∃ j' k', j' < j ∧ k' < ks ∧ rowT js ks i j' k' ∧ coT D L i j' k' P) s b J → ∃ (b' : Bool) (J' : hJ), mM_laysBest_L56 k44 fuel (nI s) (bI b) (nI js) (nI ks) (nI i) (nI j) I J = k44 (nI s) (bI b') (nI js) (nI ks) (nI (i + 1)) I J' ∧ offB J J' ∧ kmQ D (fun P => W P ∨ ∃ j' k', j' < js ∧ k' < ks ∧ rowT js ks i j' k' ∧ coT D L i j' k' P) s b' J' := by
  intro r
  induction r with
  | zero =>
    intro j fuel b J hk hf h hq
    obtain ⟨fuel, rfl⟩ : ∃ m, fuel = m + 1 := ⟨fuel - 1, by omega⟩
    obtain rfl : j = js := by omega
    refine ⟨b, J, ?_, fun _ _ _ => rfl, hq⟩
    show mM_laysBest_B56 k44 (mM_laysBest_L56 k44 fuel) _ _ _ _ _ _ _ _ = _
    unfold mM_laysBest_B56
    rw [if_pos ((nI_leI (by omega) (by omega)).mpr (Nat.le_refl _)), li_1, nI_add]
  | succ r ih =>
    intro j fuel b J hk hf h hq
    obtain ⟨fuel, rfl⟩ : ∃ m, fuel = m + 1 := ⟨fuel - 1, by omega⟩
    obtain ⟨b1, J1, a1, a2, a3⟩ := lk_L hD hm hL hB hjs hks hj1 hk1 hs hi (show j < js by omega) k44 (mM_laysBest_L56 k44 fuel) ks 0 hF b J (by omega) (by unfold hF; omega) h (kmQ_congr hq (fun P hP => ⟨Or.inl, fun w => by
      rcases w with w | ⟨k', w1, _⟩
      · exact w
      · omega⟩))
    obtain ⟨b', J', c1, c2, c3⟩ := ih (j + 1) fuel b1 J1 (by omega) (by omega) (mlQ_off h a2) (kmQ_congr a3 (fun P hP => by
      constructor
      · rintro ((w | ⟨j', k', w1, w2⟩) | ⟨k', w1, w2⟩)
        · exact Or.inl w
        · exact Or.inr ⟨j', k', by omega, w2⟩
        · exact Or.inr ⟨j, k', by omega, w1, w2⟩
      · rintro (w | ⟨j', k', w1, w2⟩)
        · exact Or.inl (Or.inl w)
        · by_cases c : j' = j
          · subst c; exact Or.inr ⟨k', w2⟩
          · exact Or.inl (Or.inr ⟨j', k', by omega, w2⟩)))
    refine ⟨b', J', ?_, offB_tr a2 c2, c3⟩
    rw [← c1, ← a1]
    show mM_laysBest_B56 k44 (mM_laysBest_L56 k44 fuel) _ _ _ _ _ _ _ _ = _
    unfold mM_laysBest_B56
    rw [if_neg (fun c => by have := (nI_leI (by omega) (by omega)).mp c; omega)]
    rfl
theorem li_L (hD : rOk D) {I : hI} (hm : mR D I) (hL : L.length ≤ 90) (hB : ∀ r ∈ L, rB r) {js ks : Nat} (hjs : js ≤ 90) (hks : ks ≤ 90) (hj1 : D 0 1 ≠ 1 → js ≤ L.length) (hk1 : D 0 2 ≠ 1 → ks ≤ L.length) {s : Nat} (hs : s < D 0 0) : ∀ (r i fuel : Nat) (b : Bool) (J : hJ), i + r = L.length → r < fuel → mlQ L I J → kmQ D (fun P => ∃ i' j' k', i' < i ∧ j' < js ∧ k' < ks ∧ rowT js ks i' j' k' ∧ coT D L i' j' k' P) s b J → ∃ (b' : Bool) (J' : hJ), mM_laysBest_L44 fuel (nI s) (bI b) (nI js) (nI ks) (nI i) I J = some (bI b', I, J') ∧ offB J J' ∧ kmQ D (fun P => ∃ i' j' k', i' < L.length ∧ j' < js ∧ k' < ks ∧ rowT js ks i' j' k' ∧ coT D L i' j' k' P) s b' J' := by
  intro r
  induction r with
  | zero =>
    intro i fuel b J hk hf h hq
    obtain ⟨fuel, rfl⟩ : ∃ m, fuel = m + 1 := ⟨fuel - 1, by omega⟩
    obtain rfl : i = L.length := by omega
    refine ⟨b, J, ?_, fun _ _ _ => rfl, hq⟩
    show mM_laysBest_B44 (mM_laysBest_L44 fuel) _ _ _ _ _ _ _ = _
    unfold mM_laysBest_B44
    rw [h.1, if_pos ((nI_leI (by omega) (by omega)).mpr (Nat.le_refl _)), hg_zb]
  | succ r ih =>
    intro i fuel b J hk hf h hq
    obtain ⟨fuel, rfl⟩ : ∃ m, fuel = m + 1 := ⟨fuel - 1, by omega⟩
    obtain ⟨b1, J1, a1, a2, a3⟩ := lj_L hD hm hL hB hjs hks hj1 hk1 hs (show i < L.length by omega) (mM_laysBest_L44 fuel) js 0 hF b J (by omega) (by unfold hF; omega) h (kmQ_congr hq (fun P hP => ⟨Or.inl, fun w => by
      rcases w with w | ⟨j', k', w1, _⟩
      · exact w
      · omega⟩))
    obtain ⟨b', J', c1, c2, c3⟩ := ih (i + 1) fuel b1 J1 (by omega) (by omega) (mlQ_off h a2) (kmQ_congr a3 (fun P hP => by
      constructor
      · rintro (⟨i', j', k', w1, w2⟩ | ⟨j', k', w2⟩)
        · exact ⟨i', j', k', by omega, w2⟩
        · exact ⟨i, j', k', by omega, w2⟩
      · rintro ⟨i', j', k', w1, w2⟩
        by_cases c : i' = i
        · subst c; exact Or.inr ⟨j', k', w2⟩
        · exact Or.inl ⟨i', j', k', by omega, w2⟩))
    refine ⟨b', J', ?_, offB_tr a2 c2, c3⟩
    rw [← c1, ← a1]
    show mM_laysBest_B44 (mM_laysBest_L44 fuel) _ _ _ _ _ _ _ = _
    unfold mM_laysBest_B44
    rw [h.1, if_neg (fun c => by have := (nI_leI (by omega) (by omega)).mp c; omega)]
    rfl
end Lq
