/-! Parts of a text: the reference goes from one to the next. -/
def tpM (T : Nat → Nat) (N : Nat) (I : hI) : Prop := N ≤ 500 ∧ I 0 2 = nI N ∧ (∀ i, i < N → I 1 i = nI (T i)) ∧ ∀ i, i < N → 1 ≤ T i ∧ T i ≤ 255
theorem tpM_of {T : Nat → Nat} {N : Nat} {I I' : hI} (h : tpM T N I) (h1 : I' 0 2 = I 0 2) (h2 : ∀ i, I' 1 i = I 1 i) : tpM T N I' := ⟨h.1, by rw [h1]; exact h.2.1, fun i hi => by rw [h2]; exact h.2.2.1 i hi, h.2.2.2⟩
theorem hu_fr {I : hI} {a i : Nat} {x : Int32} {c j : Nat} (q : c ≠ a ∨ j ≠ i) : h_u I a i x c j = I c j := by
  by_cases e : c = a
  · subst e; exact h_u_pl _ _ _ (by omega)
  · exact h_u_off2 _ _ _ _ e
section Nx
variable {T : Nat → Nat} {N : Nat}
theorem m_here {I : hI} (h : tpM T N I) {a : Nat} (ha : a ≤ N) (h3 : I 0 3 = nI a) : mM_here I = some (if a < N then nI (T a) else (-1 : Int32)) := by
  obtain ⟨h1, h2, h4, h5⟩ := h
  unfold mM_here
  rw [h2, h3]
  by_cases c : a < N
  · rw [if_neg (fun q => by have := (nI_leI (by omega) (by omega)).mp q; omega), hg_in _ (by omega) (by omega), nI_clamp (by omega), h4 a c, if_pos c]
  · rw [if_pos ((nI_leI (by omega) (by omega)).mpr (by omega)), if_neg c]
theorem m_isSmall {b : Nat} (hb : b < 2 ^ 31) : mM_isSmall (nI b) = bI (isL b) := rd_isLetter hb
theorem m_isDigit {b : Nat} (hb : b < 2 ^ 31) : mM_isDigit (nI b) = bI (isD b) := rd_isDigit hb
theorem m_small1 : mM_isSmall (-1 : Int32) = nI 0 := by decide
theorem m_digit1 : mM_isDigit (-1 : Int32) = nI 0 := by decide
/-- letters passed -/
theorem nx_L61 : ∀ (r a fuel : Nat) (I : hI), a + r = N → r < fuel → tpM T N I → I 0 3 = nI a → ∃ I' : hI, mM_next_L61 fuel I = some I' ∧ I' 0 3 = nI (rn T N isL a) ∧ ∀ c i, (c ≠ 0 ∨ i ≠ 3) → I' c i = I c i := by
  intro r
  induction r with
  | zero =>
    intro a fuel I ha hf h h3
    obtain ⟨fuel, rfl⟩ : ∃ m, fuel = m + 1 := ⟨fuel - 1, by omega⟩
    refine ⟨I, ?_, by rw [rn_n (fun q => by omega)]; exact h3, fun _ _ _ => rfl⟩
    show mM_next_B61 (mM_next_L61 fuel) _ = _
    unfold mM_next_B61
    rw [m_here h (by omega) h3, if_neg (by omega), Option.bind_some, m_small1]
    rfl
  | succ r ih =>
    intro a fuel I ha hf h h3
    obtain ⟨fuel, rfl⟩ : ∃ m, fuel = m + 1 := ⟨fuel - 1, by omega⟩
    have hT := h.2.2.2 a (by omega)
    have hN := h.1
    have top : mM_next_L61 (fuel + 1) I = if bI (isL (T a)) = nI 0 then some I else mM_next_L61 fuel (h_u I 0 3 (nI (a + 1))) := by
      show mM_next_B61 (mM_next_L61 fuel) _ = _
      unfold mM_next_B61
      rw [m_here h (by omega) h3, if_pos (by omega), Option.bind_some, m_isSmall (by omega), hl_eq, h3, li_0, li_1, nI_add]
    rw [top]
    cases c : isL (T a)
    · rw [if_pos (by decide)]
      exact ⟨I, rfl, by rw [rn_n (fun _ => c)]; exact h3, fun _ _ _ => rfl⟩
    · rw [if_neg (by decide)]
      obtain ⟨I', q1, q2, q3⟩ := ih (a + 1) fuel (h_u I 0 3 (nI (a + 1))) (by omega) (by omega) (tpM_of h (hu_fr (by omega)) (fun i => hu_fr (by omega))) (h_u_at _ _ _ _)
      exact ⟨I', q1, by rw [rn_y (by omega) c]; exact q2, fun c i e => by rw [q3 c i e, hu_fr e]⟩
/-- digits passed: the number so far -/
def nmF (T : Nat → Nat) : Nat → Nat → Nat → Nat
  | 0, m, _ => m
  | r + 1, m, z => nmF T r (min 1000 (10 * m + (T z - 48))) (z + 1)
theorem nx_L104 {s : Nat} : ∀ (r a fuel m : Nat) (I : hI), a + r = N → r < fuel → tpM T N I → s < a → I 0 3 = nI a → I 0 4 = nI s → I 0 7 = nI m → m ≤ 1000 → ∃ I' : hI, mM_next_L104 fuel I = some I' ∧ I' 0 3 = nI (rn T N isD a) ∧ I' 0 7 = nI (if rn T N isD a - s ≤ 2 then nmF T (rn T N isD a - a) m a else 1000) ∧ ∀ c i, (c ≠ 0 ∨ (i ≠ 3 ∧ i ≠ 7)) → I' c i = I c i := by
  intro r
  induction r with
  | zero =>
    intro a fuel m I ha hf h hs h3 h4 h7 hm
    have hN := h.1
    obtain ⟨fuel, rfl⟩ : ∃ m, fuel = m + 1 := ⟨fuel - 1, by omega⟩
    have er : rn T N isD a = a := rn_n (fun q => by omega)
    have top : mM_next_L104 (fuel + 1) I = if nI (a - s) ≤ nI 2 then mM_next_176 (nI m) I else mM_next_176 (nI 1000) I := by
      show mM_next_B104 (mM_next_L104 fuel) _ = _
      unfold mM_next_B104
      rw [m_here h (by omega) h3, if_neg (by omega), Option.bind_some, m_digit1, h3, h4, nI_subN (by omega), h7]
      rfl
    rw [top, er, Nat.sub_self]
    by_cases c : a - s ≤ 2
    · rw [if_pos ((nI_leI (by omega) (by omega)).mpr c), if_pos c]
      refine ⟨h_u I 0 7 (nI m), ?_, ?_, h_u_at _ _ _ _, fun c i q => hu_fr (by omega)⟩
      · unfold mM_next_176; rw [hl_eq]
      · rw [hu_fr (by omega)]; exact h3
    · rw [if_neg (fun q => c ((nI_leI (by omega) (by omega)).mp q)), if_neg c]
      refine ⟨h_u I 0 7 (nI 1000), ?_, ?_, h_u_at _ _ _ _, fun c i q => hu_fr (by omega)⟩
      · unfold mM_next_176; rw [hl_eq]
      · rw [hu_fr (by omega)]; exact h3
  | succ r ih =>
    intro a fuel m I ha hf h hs h3 h4 h7 hm
    have hN := h.1
    obtain ⟨fuel, rfl⟩ : ∃ m, fuel = m + 1 := ⟨fuel - 1, by omega⟩
    have hT := h.2.2.2 a (by omega)
    cases c : isD (T a)
    · have er : rn T N isD a = a := rn_n (fun _ => c)
      have top : mM_next_L104 (fuel + 1) I = if nI (a - s) ≤ nI 2 then mM_next_176 (nI m) I else mM_next_176 (nI 1000) I := by
        show mM_next_B104 (mM_next_L104 fuel) _ = _
        unfold mM_next_B104
        rw [m_here h (by omega) h3, if_pos (by omega), Option.bind_some, m_isDigit (by omega), c, h3, h4, nI_subN (by omega), h7]
        rfl
      rw [top, er, Nat.sub_self]
      by_cases c : a - s ≤ 2
      · rw [if_pos ((nI_leI (by omega) (by omega)).mpr c), if_pos c]
        refine ⟨h_u I 0 7 (nI m), ?_, ?_, h_u_at _ _ _ _, fun c i q => hu_fr (by omega)⟩
        · unfold mM_next_176; rw [hl_eq]
        · rw [hu_fr (by omega)]; exact h3
      · rw [if_neg (fun q => c ((nI_leI (by omega) (by omega)).mp q)), if_neg c]
        refine ⟨h_u I 0 7 (nI 1000), ?_, ?_, h_u_at _ _ _ _, fun c i q => hu_fr (by omega)⟩
        · unfold mM_next_176; rw [hl_eq]
        · rw [hu_fr (by omega)]; exact h3
    · have d := of_decide_eq_true c
      have hle := rn_le (T := T) (g := isD) (show a + 1 ≤ N by omega)
      have en : (if (((10 : Int32) * nI m) + nI (T a)) - (48 : Int32) < (1000 : Int32) then (((10 : Int32) * nI m) + nI (T a)) - (48 : Int32) else (1000 : Int32)) = nI (min 1000 (10 * m + (T a - 48))) := by
        rw [li_10, li_48, li_1000, nI_mul, nI_add, nI_subN (by omega)]
        by_cases q : 10 * m + T a - 48 < 1000
        · rw [if_pos ((nI_ltI (by omega) (by omega)).mpr q)]
          congr 1
          omega
        · rw [if_neg (fun e => q ((nI_ltI (by omega) (by omega)).mp e))]
          congr 1
          omega
      have top : mM_next_L104 (fuel + 1) I = mM_next_L104 fuel (h_u (h_u I 0 7 (nI (min 1000 (10 * m + (T a - 48))))) 0 3 (nI (a + 1))) := by
        show mM_next_B104 (mM_next_L104 fuel) _ = _
        unfold mM_next_B104
        rw [m_here h (by omega) h3, if_pos (by omega), Option.bind_some, m_isDigit (by omega), c, if_neg (by decide), Option.bind_some, hl_eq, h7, en, hl_eq, hu_fr (by omega), h3, li_1, nI_add]
      obtain ⟨I', q1, q2, q3, q4⟩ := ih (a + 1) fuel (min 1000 (10 * m + (T a - 48))) (h_u (h_u I 0 7 (nI (min 1000 (10 * m + (T a - 48))))) 0 3 (nI (a + 1))) (by omega) (by omega) (tpM_of h (by rw [hu_fr (by omega), hu_fr (by omega)]) (fun i => by rw [hu_fr (by omega), hu_fr (by omega)])) (by omega) (h_u_at _ _ _ _) (by rw [hu_fr (by omega), hu_fr (by omega)]; exact h4) (by rw [hu_fr (by omega), h_u_at]) (by omega)
      have er := rn_y (T := T) (g := isD) (show a < N by omega) c
      refine ⟨I', by rw [top]; exact q1, by rw [er]; exact q2, ?_, fun c i e => by rw [q4 c i e, hu_fr (by omega), hu_fr (by omega)]⟩
      rw [q3, er]
      have e2 : rn T N isD (a + 1) - a = (rn T N isD (a + 1) - (a + 1)) + 1 := by omega
      rw [e2, nmF]
/-- blanks passed -/
theorem nx_L0 : ∀ (r a fuel : Nat) (I : hI), a + r = N → r < fuel → tpM T N I → I 0 3 = nI a → ∃ (I' : hI) (m : Nat), mM_next_L0 fuel I = mM_next_B0 (mM_next_L0 m) I' ∧ I' 0 3 = nI (rn T N isB a) ∧ ∀ c i, (c ≠ 0 ∨ i ≠ 3) → I' c i = I c i := by
  intro r
  induction r with
  | zero =>
    intro a fuel I ha hf h h3
    obtain ⟨fuel, rfl⟩ : ∃ m, fuel = m + 1 := ⟨fuel - 1, by omega⟩
    exact ⟨I, fuel, rfl, by rw [rn_n (fun q => by omega)]; exact h3, fun _ _ _ => rfl⟩
  | succ r ih =>
    intro a fuel I ha hf h h3
    obtain ⟨fuel, rfl⟩ : ∃ m, fuel = m + 1 := ⟨fuel - 1, by omega⟩
    have hT := h.2.2.2 a (by omega)
    have hN := h.1
    by_cases c : T a = 32
    · have eb : isB (T a) = true := decide_eq_true c
      have top : mM_next_L0 (fuel + 1) I = mM_next_L0 fuel (h_u I 0 3 (nI (a + 1))) := by
        show mM_next_B0 (mM_next_L0 fuel) _ = _
        unfold mM_next_B0
        rw [m_here h (by omega) h3, if_pos (by omega), Option.bind_some, c, if_pos (show nI 32 = (32 : Int32) from rfl), hl_eq, h3, li_1, nI_add]
      obtain ⟨I', m, q1, q2, q3⟩ := ih (a + 1) fuel (h_u I 0 3 (nI (a + 1))) (by omega) (by omega) (tpM_of h (hu_fr (by omega)) (fun i => hu_fr (by omega))) (h_u_at _ _ _ _)
      exact ⟨I', m, by rw [top]; exact q1, by rw [rn_y (by omega) eb]; exact q2, fun c i e => by rw [q3 c i e, hu_fr e]⟩
    · have eb : isB (T a) = false := decide_eq_false c
      exact ⟨I, fuel, rfl, by rw [rn_n (fun _ => eb)]; exact h3, fun _ _ _ => rfl⟩
/-- the reference stands at part k -/
def atM (T : Nat → Nat) (N k : Nat) (I : hI) : Prop := I 0 3 = nI (tkA T N (k + 1)) ∧ I 0 4 = nI (tkS T N k) ∧ I 0 6 = nI (ptK (tkK T N k)) ∧ (tkK T N k = 256 → I 0 7 = nI (rV (tkV T N k)))
theorem m_next {I : hI} (h : tpM T N I) {k : Nat} (h3 : I 0 3 = nI (tkA T N k)) : ∃ I' : hI, mM_next I = some I' ∧ atM T N k I' ∧ ∀ c i, (c ≠ 0 ∨ (i ≠ 3 ∧ i ≠ 4 ∧ i ≠ 6 ∧ i ≠ 7)) → I' c i = I c i := by
  have hN := h.1
  have hA := tkA_le T N k
  obtain ⟨I1, m, q1, q2, q3⟩ := nx_L0 (N - tkA T N k) (tkA T N k) hF I (by omega) (by unfold hF; omega) h h3
  have hS := tkS_le T N k
  have q2 : I1 0 3 = nI (tkS T N k) := q2
  have eA : tkA T N (k + 1) = tkE T N (tkS T N k) := rfl
  have eK : tkK T N k = kdF T N (tkS T N k) (tkE T N (tkS T N k)) := rfl
  have eV : tkV T N k = nvF T (tkS T N k) (tkE T N (tkS T N k)) := rfl
  have hbl : tkS T N k < N → T (tkS T N k) ≠ 32 := fun hs e => by
    have := rn_end (T := T) (g := isB) hA hs
    have e2 : isB (T (tkS T N k)) = true := decide_eq_true e
    unfold tkS at e2
    rw [this] at e2
    cases e2
  unfold atM
  rw [eA, eK, eV]
  generalize tkS T N k = s at *
  have h1 : tpM T N I1 := tpM_of h (q3 0 2 (by omega)) (fun i => q3 1 i (by omega))
  obtain ⟨I2, hI2⟩ : ∃ J, J = h_u I1 0 4 (nI s) := ⟨_, rfl⟩
  have f2 : ∀ c i, (c ≠ 0 ∨ i ≠ 4) → I2 c i = I1 c i := fun c i q => by rw [hI2]; exact hu_fr q
  have h2 : tpM T N I2 := tpM_of h1 (f2 0 2 (by omega)) (fun i => f2 1 i (by omega))
  have e3 : I2 0 3 = nI s := by rw [f2 0 3 (by omega)]; exact q2
  have e4 : I2 0 4 = nI s := by rw [hI2]; exact h_u_at _ _ _ _
  have hh1 := m_here h1 hS.2 q2
  have hh2 := m_here h2 hS.2 e3
  by_cases hs : s < N
  · have hT := h.2.2.2 s hs
    have hb := hbl hs
    rw [if_pos hs] at hh1 hh2
    have top : mM_next I = if bI (isL (T s)) = nI 0 then (if bI (isD (T s)) = nI 0 then some (h_u (h_u I2 0 6 (nI 3)) 0 3 (nI (s + 1))) else mM_next_L104 hF (h_u (h_u I2 0 6 (nI 2)) 0 7 (nI 0))) else mM_next_L61 hF (h_u I2 0 6 (nI 1)) := by
      unfold mM_next
      rw [q1]
      unfold mM_next_B0
      rw [hh1, Option.bind_some, li_32, if_neg (fun q => hb ((nI_eq (by omega) (by omega)).mp q)), hl_eq, q2, ← hI2, hh2, Option.bind_some, if_neg (nI_nem1 (by omega)), Option.bind_some, Option.bind_some, m_isSmall (by omega), m_isDigit (by omega), hl_eq, hl_eq, hl_eq, hl_eq, hl_eq, hu_fr (by omega), e3, li_0, li_1, li_2, li_3, nI_add]
    rw [top]
    cases c1 : isL (T s)
    · rw [if_pos (by decide)]
      cases c2 : isD (T s)
      · rw [if_pos (by decide)]
        have eE : tkE T N s = s + 1 := by unfold tkE; rw [if_pos hs, c1, c2]; rfl
        have eK : kdF T N s (s + 1) = T s := by unfold kdF; rw [if_pos hs, c1, c2]; rfl
        rw [eE, eK]
        refine ⟨_, rfl, ⟨h_u_at _ _ _ _, ?_, ?_, fun q => by omega⟩, fun c i q => ?_⟩
        · rw [hu_fr (by omega), hu_fr (by omega)]; exact e4
        · rw [hu_fr (by omega), h_u_at]
          unfold ptK
          rw [if_neg (by omega), if_pos (by omega)]
        · rw [hu_fr (by omega), hu_fr (by omega), f2 c i (by omega), q3 c i (by omega)]
      · rw [if_neg (by decide)]
        have d := of_decide_eq_true c2
        have eE : tkE T N s = rn T N isD (s + 1) := by unfold tkE; rw [if_pos hs, c1, c2]; rfl
        have eK : kdF T N s (rn T N isD (s + 1)) = 256 := by unfold kdF; rw [if_pos hs, c1, c2]; rfl
        have hle := rn_le (T := T) (g := isD) (show s + 1 ≤ N by omega)
        have er := rn_y (T := T) (g := isD) hs c2
        obtain ⟨b1, b2, b3⟩ := nvF_bd hs c2
        obtain ⟨I3, hI3⟩ : ∃ J, J = h_u (h_u I2 0 6 (nI 2)) 0 7 (nI 0) := ⟨_, rfl⟩
        have f3 : ∀ c i, (c ≠ 0 ∨ (i ≠ 6 ∧ i ≠ 7)) → I3 c i = I2 c i := fun c i q => by rw [hI3, hu_fr (by omega), hu_fr (by omega)]
        have h3' : tpM T N I3 := tpM_of h2 (f3 0 2 (by omega)) (fun i => f3 1 i (by omega))
        -- the first digit by hand, for the place lies behind the start then
        have step : mM_next_L104 hF I3 = mM_next_L104 999 (h_u (h_u I3 0 7 (nI (T s - 48))) 0 3 (nI (s + 1))) := by
          show mM_next_B104 (mM_next_L104 999) I3 = _
          have e73 : I3 0 7 = nI 0 := by rw [hI3]; exact h_u_at _ _ _ _
          have hh3 := m_here h3' hS.2 (by rw [f3 0 3 (by omega)]; exact e3)
          rw [if_pos hs] at hh3
          unfold mM_next_B104
          rw [hh3, Option.bind_some, m_isDigit (by omega), c2, if_neg (by decide), Option.bind_some, hl_eq, e73, hl_eq, hu_fr (by omega), f3 0 3 (by omega), e3, li_1, nI_add, li_10, li_48, li_1000, nI_mul, nI_add, nI_subN (by omega), if_pos ((nI_ltI (by omega) (by omega)).mpr (by omega))]
          have e0 : 10 * 0 + T s - 48 = T s - 48 := by omega
          rw [e0]
        obtain ⟨I4, hI4⟩ : ∃ J, J = h_u (h_u I3 0 7 (nI (T s - 48))) 0 3 (nI (s + 1)) := ⟨_, rfl⟩
        have f4 : ∀ c i, (c ≠ 0 ∨ (i ≠ 3 ∧ i ≠ 7)) → I4 c i = I3 c i := fun c i q => by rw [hI4, hu_fr (by omega), hu_fr (by omega)]
        obtain ⟨I5, p1, p2, p3, p4⟩ := nx_L104 (T := T) (N := N) (s := s) (N - (s + 1)) (s + 1) 999 (T s - 48) I4 (by omega) (by omega) (tpM_of h3' (f4 0 2 (by omega)) (fun i => f4 1 i (by omega))) (by omega) (by rw [hI4]; exact h_u_at _ _ _ _) (by rw [f4 0 4 (by omega), f3 0 4 (by omega)]; exact e4) (by rw [hI4, hu_fr (by omega), h_u_at]) (by omega)
        rw [eE, eK, ← hI3]
        refine ⟨I5, by rw [step, ← hI4]; exact p1, ⟨p2, ?_, ?_, fun _ => ?_⟩, fun c i q => ?_⟩
        · rw [p4 0 4 (by omega), f4 0 4 (by omega), f3 0 4 (by omega)]; exact e4
        · rw [p4 0 6 (by omega), f4 0 6 (by omega), hI3, hu_fr (by omega), h_u_at]
          rfl
        · rw [p3]
          congr 1
          unfold rV
          by_cases c : rn T N isD (s + 1) - s ≤ 2
          · rw [if_pos c, if_neg (fun q => by have := b2.mp q; omega)]
            unfold nvF
            by_cases c1 : rn T N isD (s + 1) - s = 1
            · have e0 : rn T N isD (s + 1) - (s + 1) = 0 := by omega
              rw [if_pos c1, e0]
              rfl
            · have c2 : rn T N isD (s + 1) - s = 2 := by omega
              have e0 : rn T N isD (s + 1) - (s + 1) = 1 := by omega
              have d2 := of_decide_eq_true (b3 c2).1
              rw [if_neg c1, if_pos c2, e0, nmF, nmF]
              omega
          · rw [if_neg c, if_pos (b2.mpr (by omega))]
        · rw [p4 c i (by omega), f4 c i (by omega), f3 c i (by omega), f2 c i (by omega), q3 c i (by omega)]
    · rw [if_neg (by decide)]
      have eE : tkE T N s = rn T N isL (s + 1) := by unfold tkE; rw [if_pos hs, c1]; rfl
      have er := rn_y (T := T) (g := isL) hs c1
      have eK : kdF T N s (rn T N isL (s + 1)) = wkN T s (rn T N isL (s + 1)) := by unfold kdF; rw [if_pos hs, c1]; rfl
      have hwk := wkN_bd T s (rn T N isL (s + 1))
      obtain ⟨I3, hI3⟩ : ∃ J, J = h_u I2 0 6 (nI 1) := ⟨_, rfl⟩
      have f3 : ∀ c i, (c ≠ 0 ∨ i ≠ 6) → I3 c i = I2 c i := fun c i q => by rw [hI3, hu_fr (by omega)]
      obtain ⟨I4, p1, p2, p3⟩ := nx_L61 (T := T) (N := N) (N - s) s hF I3 (by omega) (by unfold hF; omega) (tpM_of h2 (f3 0 2 (by omega)) (fun i => f3 1 i (by omega))) (by rw [f3 0 3 (by omega)]; exact e3)
      rw [eE, eK, ← hI3]
      refine ⟨I4, p1, ⟨by rw [← er]; exact p2, ?_, ?_, fun q => by omega⟩, fun c i q => ?_⟩
      · rw [p3 0 4 (by omega), f3 0 4 (by omega)]; exact e4
      · rw [p3 0 6 (by omega), hI3, h_u_at]
        unfold ptK
        rw [if_neg (by omega), if_neg (by omega), if_neg (by omega)]
      · rw [p3 c i (by omega), f3 c i (by omega), f2 c i (by omega), q3 c i (by omega)]
  · rw [if_neg hs] at hh1 hh2
    have eE : tkE T N s = N := tkE_N (by omega)
    have eK : kdF T N s N = 0 := by unfold kdF; rw [if_neg hs]
    rw [eE, eK]
    refine ⟨h_u I2 0 6 (nI 0), ?_, ⟨?_, ?_, h_u_at _ _ _ _, fun q => by omega⟩, fun c i q => ?_⟩
    · unfold mM_next
      rw [q1]
      unfold mM_next_B0
      rw [hh1, Option.bind_some, if_neg (by decide), hl_eq, q2, ← hI2, hh2, Option.bind_some, if_pos rfl, hl_eq, li_0]
    · rw [hu_fr (by omega), e3]
      congr 1
      omega
    · rw [hu_fr (by omega)]; exact e4
    · rw [hu_fr (by omega), f2 c i (by omega), q3 c i (by omega)]
end Nx
