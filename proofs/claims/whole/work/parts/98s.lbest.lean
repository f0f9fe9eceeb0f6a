/-! best: the reference looks for the best corner. -/
def feaL (L : List (Nat → Int)) (P : Nat → Int) : Prop := ∀ i, i < L.length → L.getD i rZ 3 * P 3 ≤ L.getD i rZ 0 * P 0 + L.getD i rZ 1 * P 1 + L.getD i rZ 2 * P 2
theorem feaL_eq {L : List (Nat → Int)} {P Q : Nat → Int} (hP : 0 < P 3) (hQ : 0 < Q 3) (h : eqP P Q) (hf : feaL L Q) : feaL L P := fun r h1 => by
  have hq := hf r h1
  obtain ⟨a, b, c⟩ := h
  have m := Int.mul_le_mul_of_nonneg_right hq (show 0 ≤ P 3 by omega)
  have e1 : L.getD r rZ 3 * Q 3 * P 3 = L.getD r rZ 3 * P 3 * Q 3 := by grind
  have e2 : (L.getD r rZ 0 * Q 0 + L.getD r rZ 1 * Q 1 + L.getD r rZ 2 * Q 2) * P 3 = (L.getD r rZ 0 * P 0 + L.getD r rZ 1 * P 1 + L.getD r rZ 2 * P 2) * Q 3 := by grind
  rw [e1, e2] at m
  exact Int.le_of_mul_le_mul_right m hQ
section Lb
variable {D : rD} {L : List (Nat → Int)}
def coT (D : rD) (L : List (Nat → Int)) (i j k : Nat) (P : Nat → Int) : Prop := isC (L.getD i rZ) (coR2 D L j) (coR3 D L k) P ∧ feaL L P
def kmQ (D : rD) (W : (Nat → Int) → Prop) (s : Nat) (b : Bool) (J : hJ) : Prop := (b = false ∧ ∀ P : Nat → Int, 0 < P 3 → ¬ W P) ∨ (b = true ∧ ∃ K : Nat → Int, pmQ 93 K J ∧ ptB K ∧ W K ∧ ∀ P : Nat → Int, 0 < P 3 → W P → ¬ ltP (s % D 0 1 : Nat) (s / D 0 1 : Nat) P K)
theorem kmQ_congr {W V : (Nat → Int) → Prop} {s : Nat} {b : Bool} {J : hJ} (h : kmQ D W s b J) (hh : ∀ P : Nat → Int, 0 < P 3 → (W P ↔ V P)) : kmQ D V s b J := by
  rcases h with ⟨a, b⟩ | ⟨a, K, k1, k2, k3, k4⟩
  · exact Or.inl ⟨a, fun P hP hV => b P hP ((hh P hP).mpr hV)⟩
  · exact Or.inr ⟨a, K, k1, k2, (hh K k2.2.2.2.1).mp k3, fun P hP hV => k4 P hP ((hh P hP).mpr hV)⟩
def offB (J J' : hJ) : Prop := ∀ a x, (a ≠ 0 ∨ x < 89 ∨ 96 < x) → J' a x = J a x
theorem pmQ_of {o : Nat} {P : Nat → Int} {J J' : hJ} (h : pmQ o P J) (h1 : ∀ x, o ≤ x → x ≤ o + 3 → J' 0 x = J 0 x) : pmQ o P J' := by
  obtain ⟨a, b, c, d⟩ := h
  exact ⟨by rw [h1 _ (by omega) (by omega)]; exact a, by rw [h1 _ (by omega) (by omega)]; exact b, by rw [h1 _ (by omega) (by omega)]; exact c, by rw [h1 _ (by omega) (by omega)]; exact d⟩
theorem mlQ_off {I : hI} {J J' : hJ} (h : mlQ L I J) (h1 : offB J J') : mlQ L I J' := ⟨h.1, fun i hi k hk => by rw [h1 _ _ (Or.inl (by omega))]; exact h.2 i hi k hk⟩
theorem lb_step (hD : rOk D) {I : hI} {J : hJ} (hm : mR D I) (hL : L.length ≤ 90) (hB : ∀ r ∈ L, rB r) (h : mlQ L I J) {i j k s : Nat} (hs : s < D 0 0) (hi : i < L.length) (hj : D 0 1 ≠ 1 → j < L.length) (hk : D 0 2 ≠ 1 → k < L.length) {W : (Nat → Int) → Prop} {b : Bool} (hq : kmQ D W s b J) (v3 v4 : Int32) (k44 k56 k65 : _) : ∃ (b' : Bool) (J' : hJ), mM_laysBest_120 k44 k56 k65 (nI s) (bI b) v3 v4 (nI i) (nI j) (nI k) (nI 1) I J = k65 (nI s) (bI b') v3 v4 (nI i) (nI j) (nI (k + 1)) I J' ∧ offB J J' ∧ kmQ D (fun P => W P ∨ coT D L i j k P) s b' J' := by
  have bi : rB (L.getD i rZ) := hB _ (getD_mem hi)
  have bj : rB (coR2 D L j) := by
    unfold coR2
    by_cases a : D 0 1 = 1
    · rw [if_pos a]; exact fX_rB
    · rw [if_neg a]; exact hB _ (getD_mem (hj a))
  have bk : rB (coR3 D L k) := by
    unfold coR3
    by_cases a : D 0 2 = 1
    · rw [if_pos a]; exact fY_rB
    · rw [if_neg a]; exact hB _ (getD_mem (hk a))
  have n1 : ¬ nI 1 = (0 : Int32) := by decide
  have n0 : nI 0 = (0 : Int32) := rfl
  have e3 : nI k + (1 : Int32) = nI (k + 1) := by rw [li_1, nI_add]
  unfold mM_laysBest_120
  rw [if_neg n1, mp_corner196 hD hm hL h hi hj hk, e3]
  have same : ∀ (J' : hJ), (∀ a x, (a ≠ 0 ∨ x < 89 ∨ 92 < x) → J' a x = J a x) → (∀ P : Nat → Int, 0 < P 3 → ¬ coT D L i j k P) → offB J J' ∧ kmQ D (fun P => W P ∨ coT D L i j k P) s b J' := fun J' h1 h2 => by
    refine ⟨fun a x hh => h1 a x (by omega), kmQ_congr (W := W) ?_ (fun P hP => ⟨Or.inl, fun q => ?_⟩)⟩
    · rcases hq with hq | ⟨q1, K, k1, k2⟩
      · exact Or.inl hq
      · exact Or.inr ⟨q1, K, pmQ_of k1 (fun x q1 q2 => h1 0 x (by omega)), k2⟩
    · rcases q with q | q
      · exact q
      · exact absurd q (h2 P hP)
  rcases m_196 bi bj bk I J with ⟨c, J1, a1, a2⟩ | ⟨z, J1, z1, z2, a1, a2, a3⟩
  · rw [a1, Option.bind_some, if_pos n0]
    obtain ⟨o, q⟩ := same J1 a2 (fun P _ q => q.1.1 c)
    exact ⟨b, J1, rfl, o, q⟩
  · have hs0 : slp (L.getD i rZ) (coR2 D L j) (coR3 D L k) ≠ 0 := fun e => by rw [e, Int.mul_zero] at z2; omega
    have bC : ptB (cnV z (L.getD i rZ) (coR2 D L j) (coR3 D L k)) := cnV_B (tri_bd bi bj bk) (i := 0) (j := 1) (r := 2) (by decide) (by decide) (by decide) z1 z2
    have hC3 := bC.2.2.2.1
    have h1 : mlQ L I J1 := ⟨h.1, fun i hi k hk => by rw [a3 _ _ (Or.inl (by omega))]; exact h.2 i hi k hk⟩
    have ea := mp_holdsAll hL h1 a2 bC (fun i hi => hB _ (getD_mem hi))
    generalize hCC : cnV z (L.getD i rZ) (coR2 D L j) (coR3 D L k) = C at *
    have hcT : ∀ P : Nat → Int, 0 < P 3 → (coT D L i j k P ↔ (eqP P C ∧ feaL L C)) := fun P hP => by
      have q := eqP_cn (P := P) z1 hs0
      rw [hCC] at q
      constructor
      · rintro ⟨x1, x2⟩
        exact ⟨q.mpr x1, feaL_eq hC3 hP (eqP_symm (q.mpr x1)) x2⟩
      · rintro ⟨x1, x2⟩
        exact ⟨q.mp x1, feaL_eq hP hC3 x1 x2⟩
    rw [a1, Option.bind_some, if_neg n1]
    rw [ea, Option.bind_some]
    have hall := allF_iff (f := fun i => okR (L.getD i rZ) C) L.length 0
    cases hb : allF (fun i => okR (L.getD i rZ) C) 0 L.length
    · rw [bI_f, if_pos n0]
      have nf : ¬ feaL L C := fun hf => by
        have := hall.mpr (fun i _ hi => decide_eq_true (hf i (by omega)))
        rw [hb] at this
        exact absurd this (by decide)
      obtain ⟨o, q⟩ := same J1 a3 (fun P hP q => nf ((hcT P hP).mp q).2)
      exact ⟨b, J1, rfl, o, q⟩
    · rw [bI_t, if_neg n1]
      have yf : feaL L C := fun i hi => of_decide_eq_true (hall.mp hb i (by omega) (by omega))
      have keep : (b = true → ∃ K, ptB K ∧ (∀ P : Nat → Int, 0 < P 3 → W P → ¬ ltP (s % D 0 1 : Nat) (s / D 0 1 : Nat) P K) ∧ ltP (s % D 0 1 : Nat) (s / D 0 1 : Nat) C K) → ∃ (b' : Bool) (J' : hJ), mM_laysBest_159 k44 k56 k65 (nI s) v3 v4 (nI i) (nI j) (nI k) I J1 = k65 (nI s) (bI b') v3 v4 (nI i) (nI j) (nI (k + 1)) I J' ∧ offB J J' ∧ kmQ D (fun P => W P ∨ coT D L i j k P) s b' J' := fun hK => by
        have key : ∀ (K : hJ) (y : Nat) (v : Int64), 93 ≤ y → y ≤ 96 → ∀ a x, (a ≠ 0 ∨ x < 89 ∨ 96 < x) → h_u K 0 y v a x = K a x := fun K y v h1 h2 a x hh => by
          by_cases e : a = 0
          · subst e; exact h_u_pl _ _ _ (by omega)
          · exact h_u_off2 _ _ _ _ e
        obtain ⟨p0, p1, p2, p3⟩ := a2
        refine ⟨true, h_u (h_u (h_u (h_u J1 0 93 (lI (C 0))) 0 94 (lI (C 1))) 0 95 (lI (C 2))) 0 96 (lI (C 3)), ?_, fun a x hh => ?_, Or.inr ⟨rfl, C, ⟨?_, ?_, ?_, ?_⟩, bC, Or.inr ((hcT C hC3).mpr ⟨eqP_refl C, yf⟩), fun P hP hV => ?_⟩⟩
        · unfold mM_laysBest_159
          rw [hl_eq, hl_eq, hl_eq, hl_eq, e3]
          simp (disch := omega) only [h_u_pl, p0, p1, p2, p3]
          rfl
        · rw [key _ 96 _ (by decide) (by decide) a x hh, key _ 95 _ (by decide) (by decide) a x hh, key _ 94 _ (by decide) (by decide) a x hh, key _ 93 _ (by decide) (by decide) a x hh, a3 a x (by omega)]
        · simp (disch := omega) only [h_u_at, h_u_pl]
        · simp (disch := omega) only [h_u_at, h_u_pl]
        · simp (disch := omega) only [h_u_at, h_u_pl]
        · simp (disch := omega) only [h_u_at, h_u_pl]
        · rcases hV with hV | hV
          · rcases hq with ⟨q1, q2⟩ | ⟨q1, _⟩
            · exact absurd hV (q2 P hP)
            · obtain ⟨K, k1, k2, k3⟩ := hK q1
              exact nlt_trans hC3 k1.2.2.2.1 hP (lt_asym k3) (k2 P hP hV)
          · exact (eq_nlt ((hcT P hP).mp hV).1).1
      rcases hq with ⟨q1, q2⟩ | ⟨q1, K, k1, k2, k3, k4⟩
      · rw [q1, bI_f, if_pos n0]
        rw [q1] at keep
        exact keep (fun h => absurd h (by decide))
      · rw [q1, bI_t, if_neg n1]
        obtain ⟨c, c1, c2⟩ := mp_isBetter hD hm hs a2 (pmQ_of k1 (fun x q1 q2 => a3 0 x (by omega))) bC k2
        rw [c1, Option.bind_some]
        cases c
        · rw [bI_f, if_pos n0]
          have nl : ¬ ltP (s % D 0 1 : Nat) (s / D 0 1 : Nat) C K := fun h => absurd (c2.mpr h) (by decide)
          refine ⟨true, J1, rfl, fun a x hh => a3 a x (by omega), Or.inr ⟨rfl, K, pmQ_of k1 (fun x q1 q2 => a3 0 x (by omega)), k2, Or.inl k3, fun P hP hV => ?_⟩⟩
          rcases hV with hV | hV
          · exact k4 P hP hV
          · exact nlt_trans k2.2.2.2.1 hC3 hP nl (eq_nlt ((hcT P hP).mp hV).1).1
        · rw [bI_t, if_neg n1]
          exact keep (fun _ => ⟨K, k2, k4, c2.mp rfl⟩)
end Lb
