/-! best: both sides' corners are the same. -/
section Sm
variable {D : rD}
def cjs (D : rD) : Nat := if D 0 1 = 1 then 1 else (alL D (D 0 0)).length
def cks (D : rD) : Nat := if D 0 2 = 1 then 1 else (alL D (D 0 0)).length
def crT (D : rD) (P : Nat → Int) : Prop := ∃ i j k, i < (alL D (D 0 0)).length ∧ j < cjs D ∧ k < cks D ∧ rowT (cjs D) (cks D) i j k ∧ coT D (alL D (D 0 0)) i j k P
theorem fea_LP {P : Nat → Int} : feaP (cdR D) (cdF D) (cdM D) P ↔ feaL (alL D (D 0 0)) P := by
  have hM := cdM_eq (D := D)
  constructor
  · intro h i hi
    have := h (cdF D + i) (by omega) (by omega)
    rw [cdR_hi] at this
    exact this
  · intro h r h1 h2
    obtain ⟨m, rfl⟩ : ∃ m, r = cdF D + m := ⟨r - cdF D, by omega⟩
    rw [cdR_hi]
    exact h m (by omega)
theorem isC_ij {i r P : Nat → Int} (h : isC i i r P) : False := by
  have h2 := isC_swp2 h
  exact h2.1 (on_i i r).1
theorem isC_ir {i j P : Nat → Int} (h : isC i j i P) : False := h.1 (on_i i j).1
theorem isC_jr {i j P : Nat → Int} (h : isC i j j P) : False := h.1 (on_j i j).1
theorem cr_same {P : Nat → Int} : crS D P ↔ crT D P := by
  have hM := cdM_eq (D := D)
  have hf := fea_LP (D := D) (P := P)
  have hhi := cdR_hi (D := D)
  have hcj : ¬ D 0 1 = 1 → cjs D = (alL D (D 0 0)).length := fun h => by unfold cjs; rw [if_neg h]
  have hck : ¬ D 0 2 = 1 → cks D = (alL D (D 0 0)).length := fun h => by unfold cks; rw [if_neg h]
  unfold crS lnW crT coT
  generalize alL D (D 0 0) = L at *
  by_cases a : D 0 1 = 1
  · by_cases b : D 0 2 = 1
    · have eo : foL D = [fX, fY] := by unfold foL; rw [if_pos a, if_pos b]; rfl
      have hF2 : cdF D = 2 := by unfold cdF; rw [eo]; rfl
      have eI : cdI D = 1 := by unfold cdI; rw [hF2]; rfl
      have eJ : cdJ D = 2 := by unfold cdJ; rw [hF2]; rfl
      have c0 : cdR D 0 = fX := by rw [cdR_lo (by omega), eo]; rfl
      have c1 : cdR D 1 = fY := by rw [cdR_lo (by omega), eo]; rfl
      have ej : cjs D = 1 := by unfold cjs; rw [if_pos a]
      have ek : cks D = 1 := by unfold cks; rw [if_pos b]
      have e2 : ∀ j, coR2 D L j = fX := fun j => by unfold coR2; rw [if_pos a]
      have e3 : ∀ j, coR3 D L j = fY := fun j => by unfold coR3; rw [if_pos b]
      rw [eI, eJ, ej, ek, ← hf]
      constructor
      · rintro ⟨i, j, i1, i2, j1, r, r1, r2, r3, r4⟩
        obtain rfl : i = 0 := by omega
        obtain rfl : j = 1 := by omega
        obtain ⟨m, rfl⟩ : ∃ m, r = cdF D + m := ⟨r - cdF D, by omega⟩
        rw [c0, c1, hhi] at r3
        exact ⟨m, 0, 0, by omega, by omega, by omega, ⟨Or.inl rfl, Or.inl rfl, Or.inl rfl⟩, by rw [e2, e3]; exact isC_swp1 (isC_swp2 r3), r4⟩
      · rintro ⟨i, j, k, i1, _, _, _, r3, r4⟩
        rw [e2, e3] at r3
        exact ⟨0, 1, by omega, by omega, by omega, cdF D + i, by omega, by omega, by rw [c0, c1, hhi]; exact isC_swp2 (isC_swp1 r3), r4⟩
    · have eo : foL D = [fX] := by unfold foL; rw [if_pos a, if_neg b]; rfl
      have hF2 : cdF D = 1 := by unfold cdF; rw [eo]; rfl
      have eI : cdI D = 1 := by unfold cdI; rw [hF2]; rfl
      have eJ : cdJ D = cdM D := by unfold cdJ; rw [hF2]; rfl
      have c0 : cdR D 0 = fX := by rw [cdR_lo (by omega), eo]; rfl
      have ej : cjs D = 1 := by unfold cjs; rw [if_pos a]
      have ek := hck b
      have e2 : ∀ j, coR2 D L j = fX := fun j => by unfold coR2; rw [if_pos a]
      have e3 : ∀ j, coR3 D L j = L.getD j rZ := fun j => by unfold coR3; rw [if_neg b]
      rw [eI, eJ, ej, ek, ← hf]
      constructor
      · rintro ⟨i, j, i1, i2, j1, r, r1, r2, r3, r4⟩
        obtain rfl : i = 0 := by omega
        obtain ⟨m, rfl⟩ : ∃ m, r = cdF D + m := ⟨r - cdF D, by omega⟩
        obtain ⟨q, rfl⟩ : ∃ q, j = cdF D + q := ⟨j - cdF D, by omega⟩
        rw [c0, hhi, hhi] at r3
        rcases Nat.lt_trichotomy q m with c | c | c
        · exact ⟨q, 0, m, by omega, by omega, by omega, ⟨Or.inl rfl, Or.inr c, Or.inl rfl⟩, by rw [e2, e3]; exact isC_swp1 r3, r4⟩
        · subst c; exact (isC_jr r3).elim
        · exact ⟨m, 0, q, by omega, by omega, by omega, ⟨Or.inl rfl, Or.inr c, Or.inl rfl⟩, by rw [e2, e3]; exact isC_swp1 (isC_swp2 r3), r4⟩
      · rintro ⟨i, j, k, i1, _, k1, _, r3, r4⟩
        rw [e2, e3] at r3
        exact ⟨0, cdF D + i, by omega, by omega, by omega, cdF D + k, by omega, by omega, by rw [c0, hhi, hhi]; exact isC_swp1 r3, r4⟩
  · by_cases b : D 0 2 = 1
    · have eo : foL D = [fY] := by unfold foL; rw [if_neg a, if_pos b]; rfl
      have hF2 : cdF D = 1 := by unfold cdF; rw [eo]; rfl
      have eI : cdI D = 1 := by unfold cdI; rw [hF2]; rfl
      have eJ : cdJ D = cdM D := by unfold cdJ; rw [hF2]; rfl
      have c0 : cdR D 0 = fY := by rw [cdR_lo (by omega), eo]; rfl
      have ek : cks D = 1 := by unfold cks; rw [if_pos b]
      have ej := hcj a
      have e2 : ∀ j, coR2 D L j = L.getD j rZ := fun j => by unfold coR2; rw [if_neg a]
      have e3 : ∀ j, coR3 D L j = fY := fun j => by unfold coR3; rw [if_pos b]
      rw [eI, eJ, ej, ek, ← hf]
      constructor
      · rintro ⟨i, j, i1, i2, j1, r, r1, r2, r3, r4⟩
        obtain rfl : i = 0 := by omega
        obtain ⟨m, rfl⟩ : ∃ m, r = cdF D + m := ⟨r - cdF D, by omega⟩
        obtain ⟨q, rfl⟩ : ∃ q, j = cdF D + q := ⟨j - cdF D, by omega⟩
        rw [c0, hhi, hhi] at r3
        rcases Nat.lt_trichotomy q m with c | c | c
        · exact ⟨q, m, 0, by omega, by omega, by omega, ⟨Or.inr c, Or.inl rfl, Or.inr (Or.inl rfl)⟩, by rw [e2, e3]; exact isC_swp2 (isC_swp1 r3), r4⟩
        · subst c; exact (isC_jr r3).elim
        · exact ⟨m, q, 0, by omega, by omega, by omega, ⟨Or.inr c, Or.inl rfl, Or.inr (Or.inl rfl)⟩, by rw [e2, e3]; exact isC_swp2 (isC_swp1 (isC_swp2 r3)), r4⟩
      · rintro ⟨i, j, k, i1, j1, _, _, r3, r4⟩
        rw [e2, e3] at r3
        exact ⟨0, cdF D + i, by omega, by omega, by omega, cdF D + j, by omega, by omega, by rw [c0, hhi, hhi]; exact isC_swp1 (isC_swp2 r3), r4⟩
    · have eo : foL D = [] := by unfold foL; rw [if_neg a, if_neg b]; rfl
      have hF2 : cdF D = 0 := by unfold cdF; rw [eo]; rfl
      have eI : cdI D = cdM D := by unfold cdI; rw [hF2]; rfl
      have eJ : cdJ D = cdM D := by unfold cdJ; rw [hF2]; rfl
      have ej := hcj a
      have ek := hck b
      have e2 : ∀ j, coR2 D L j = L.getD j rZ := fun j => by unfold coR2; rw [if_neg a]
      have e3 : ∀ j, coR3 D L j = L.getD j rZ := fun j => by unfold coR3; rw [if_neg b]
      have hz : ∀ p, cdR D p = L.getD p rZ := fun p => by have := hhi p; rw [hF2, Nat.zero_add] at this; exact this
      rw [eI, eJ, ej, ek, ← hf]
      constructor
      · rintro ⟨i, j, i1, i2, j1, r, r1, r2, r3, r4⟩
        rw [hz, hz, hz] at r3
        rcases Nat.lt_trichotomy j r with c | c | c
        · exact ⟨i, j, r, by omega, by omega, by omega, ⟨Or.inr i2, Or.inr (by omega), Or.inr (Or.inr c)⟩, by rw [e2, e3]; exact r3, r4⟩
        · subst c; exact (isC_jr r3).elim
        · rcases Nat.lt_trichotomy i r with d | d | d
          · exact ⟨i, r, j, by omega, by omega, by omega, ⟨Or.inr d, Or.inr (by omega), Or.inr (Or.inr c)⟩, by rw [e2, e3]; exact isC_swp2 r3, r4⟩
          · subst d; exact (isC_ir r3).elim
          · exact ⟨r, i, j, by omega, by omega, by omega, ⟨Or.inr d, Or.inr (by omega), Or.inr (Or.inr i2)⟩, by rw [e2, e3]; exact isC_swp1 (isC_swp2 r3), r4⟩
      · rintro ⟨i, j, k, i1, j1, k1, ro, r3, r4⟩
        rw [e2, e3] at r3
        have hij : i < j := by
          rcases ro.1 with q | q
          · exfalso
            obtain rfl : i = 0 := by omega
            obtain rfl : j = 0 := by omega
            exact isC_ij r3
          · exact q
        exact ⟨i, j, by omega, hij, by omega, k, by omega, by omega, by rw [hz, hz, hz]; exact r3, r4⟩
end Sm
