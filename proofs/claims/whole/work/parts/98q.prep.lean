/-! best: the class's corners made ready. -/
def cdL (D : rD) : List (Nat → Int) := foL D ++ alL D (D 0 0)
def cdR (D : rD) : Nat → Nat → Int := fun p => (cdL D).getD p rZ
def cdF (D : rD) : Nat := (foL D).length
def cdM (D : rD) : Nat := (cdL D).length
def cdI (D : rD) : Nat := if cdF D = 0 then cdM D else 1
def cdJ (D : rD) : Nat := if cdF D = 2 then 2 else cdM D
/-- all corners -/
def crS (D : rD) (P : Nat → Int) : Prop := ∃ i j, i < cdI D ∧ i < j ∧ j < cdJ D ∧ lnW (cdR D) (cdF D) (cdM D) i j P
theorem getD_mem {L : List (Nat → Int)} {p : Nat} (h : p < L.length) : L.getD p rZ ∈ L := by
  have e : L.getD p rZ = L[p] := by simp [List.getD, List.getElem?_eq_getElem h]
  rw [e]
  exact List.getElem_mem h
section Cp
variable {D : rD}
theorem rwS_rB (hD : rOk D) {s : Nat} (hs : s < D 0 0) : rB (rwS D s) := by
  have h := rwS_bd hD hs
  have h0 := h 0
  have h1 := h 1
  have h2 := h 2
  have h3 := h 3
  unfold rB
  omega
theorem rwC_rB (hD : rOk D) {s c : Nat} (hs : s < D 0 0) (hc : c < D 1 s) : rB (rwC D s c) := by
  have h0 := rwW_b36 hD hs hc 0 (D 0 0) (Nat.le_refl _)
  have h1 := rwW_b36 hD hs hc 1 (D 0 0) (Nat.le_refl _)
  have h2 := rwW_b36 hD hs hc 2 (D 0 0) (Nat.le_refl _)
  have h3 := (hD.2.2.2.2 s hs c hc).2.1
  have e0 : rwC D s c 0 = rwW D s c 0 (D 0 0) := rfl
  have e1 : rwC D s c 1 = rwW D s c 1 (D 0 0) := rfl
  have e2 : rwC D s c 2 = rwW D s c 2 (D 0 0) := rfl
  have e3 : rwC D s c 3 = (D 3 (8 * s + c) : Int) := rfl
  unfold rB
  rw [e0, e1, e2, e3]
  omega
theorem chL_rB (hD : rOk D) {s : Nat} (hs : s < D 0 0) : ∀ c, c ≤ D 1 s → ∀ r ∈ chL D s c, rB r
  | 0, _, r, h => by unfold chL at h; exact absurd h (by simp)
  | c + 1, hc, r, h => by
    unfold chL at h
    rcases List.mem_append.mp h with h | h
    · exact chL_rB hD hs c (by omega) r h
    · rw [List.mem_singleton] at h
      rw [h]
      exact rwC_rB hD hs (by omega)
theorem alL_rB (hD : rOk D) : ∀ t, t ≤ D 0 0 → ∀ r ∈ alL D t, rB r
  | 0, _, r, h => by unfold alL at h; exact absurd h (by simp)
  | t + 1, ht, r, h => by
    unfold alL at h
    rcases List.mem_append.mp h with h | h
    · exact alL_rB hD t (by omega) r h
    · unfold stL at h
      by_cases q : pIn D t = true
      · rw [if_pos q] at h
        rcases List.mem_cons.mp h with h | h
        · rw [h]; exact rwS_rB hD (by omega)
        · exact chL_rB hD (by omega) _ (Nat.le_refl _) r h
      · rw [if_neg q] at h
        exact absurd h (by simp)
theorem fX_rB : rB fX := by unfold rB fX; decide
theorem fY_rB : rB fY := by unfold rB fY; decide
theorem foL_rB : ∀ r ∈ foL D, rB r := fun r h => by
  unfold foL at h
  rcases List.mem_append.mp h with h | h
  · by_cases q : D 0 1 = 1
    · rw [if_pos q, List.mem_singleton] at h; rw [h]; exact fX_rB
    · rw [if_neg q] at h; exact absurd h (by simp)
  · by_cases q : D 0 2 = 1
    · rw [if_pos q, List.mem_singleton] at h; rw [h]; exact fY_rB
    · rw [if_neg q] at h; exact absurd h (by simp)
theorem cdR_bd (hD : rOk D) : bdR (cdR D) (cdM D) := fun p hp => by
  have h : rB (cdR D p) := by
    have := getD_mem (L := cdL D) hp
    rcases List.mem_append.mp this with h | h
    · exact foL_rB _ h
    · exact alL_rB hD _ (Nat.le_refl _) _ h
  exact h
theorem cdM_eq : cdM D = cdF D + (alL D (D 0 0)).length := by unfold cdM cdL cdF; rw [List.length_append]
theorem cdM_le (hD : rOk D) : cdM D ≤ 92 := by
  have := alL_len hD (D 0 0) (Nat.le_refl _)
  have h2 := foL_len (D := D)
  have hn := hD.2.1
  rw [cdM_eq]
  unfold cdF
  omega
theorem cdR_lo {p : Nat} (h : p < cdF D) : cdR D p = (foL D).getD p rZ := by
  unfold cdR cdL
  simp [List.getD, List.getElem?_append_left h]
theorem cdR_hi (p : Nat) : cdR D (cdF D + p) = (alL D (D 0 0)).getD p rZ := by
  unfold cdR cdL cdF
  simp [List.getD, List.getElem?_append_right (Nat.le_add_right _ _)]
theorem coQ_tb {I : hI} {J : hJ} (h : coQ D I J) : tbR (cdR D) (cdM D) J := fun p hp => by
  obtain ⟨h1, ⟨h2, h3⟩, h4⟩ := h
  have hM := cdM_eq (D := D)
  by_cases q : p < cdF D
  · rw [cdR_lo q]
    exact ⟨h4 p q 0 (by decide), h4 p q 1 (by decide), h4 p q 2 (by decide), h4 p q 3 (by decide)⟩
  · obtain ⟨m, rfl⟩ : ∃ m, p = cdF D + m := ⟨p - cdF D, by omega⟩
    rw [cdR_hi]
    exact ⟨h3 m (by omega) 0 (by decide), h3 m (by omega) 1 (by decide), h3 m (by omega) 2 (by decide), h3 m (by omega) 3 (by decide)⟩
theorem co_p37 (I : hI) (J : hJ) (v : Int32) {F : Nat} (h : I 38 5 = nI F) (hF2 : F ≤ 2) {m : Nat} (h4 : I 38 4 = nI m) : mCo_prepare_37 v I J = mCo_prepare_L57 hF v (nI (if F = 2 then 2 else m)) (nI 0) I J := by
  have z2 : (2 : Int32) = nI 2 := rfl
  unfold mCo_prepare_37
  rw [h, z2, li_0]
  by_cases q : F = 2
  · rw [if_pos q, if_pos (by rw [q])]
  · rw [if_neg q, if_neg (fun e => q ((nI_eq (by omega) (by omega)).mp e)), hl_eq, h4]
theorem co_prepare (hD : rOk D) {I : hI} (J : hJ) (hcR : cR D I) (h1 : I 38 1 = nI 0) : ∃ (I' : hI) (J' : hJ), mCo_prepare I J = some (I', J') ∧ (∀ a x, a ≠ 38 → I' a x = I a x) ∧ (∀ a x, (a < 38 ∨ 60 ≤ a) → J' a x = J a x) ∧ I' 38 1 = nI 1 ∧ kpQ D (crS D) I' J' := by
  have z0 : (0 : Int32) = nI 0 := rfl
  have z1 : (1 : Int32) = nI 1 := rfl
  have o2 : ∀ a x, (a ≠ 38 ∨ (x ≠ 1 ∧ x ≠ 2)) → h_u (h_u I 38 1 (nI 1)) 38 2 (nI 0) a x = I a x := fun a x hh => by
    by_cases e : a = 38
    · subst e; rw [h_u_pl _ _ _ (by omega), h_u_pl _ _ _ (by omega)]
    · rw [h_u_off2 _ _ _ _ e, h_u_off2 _ _ _ _ e]
  obtain ⟨I3, J3, a1, a2, a3, a4⟩ := co_make hD J (cR_of hcR (fun a x q1 q2 => o2 a x (by omega)))
  have hb := cdR_bd hD
  have hM := cdM_le hD
  have hMe := cdM_eq (D := D)
  have hF2 : cdF D ≤ 2 := foL_len
  have h5 : I3 38 5 = nI (cdF D) := a4.1
  have h4 : I3 38 4 = nI (cdM D) := by rw [hMe]; exact a4.2.1.1
  have hcR3 : cR D I3 := cR_of hcR (fun a x q1 q2 => by rw [a2 a x (by omega), o2 a x (by omega)])
  have h2 : I3 38 2 = nI 0 := by rw [a2 38 2 (by decide), h_u_at]
  have h31 : I3 38 1 = nI 1 := by rw [a2 38 1 (by decide), h_u_pl _ _ _ (by decide), h_u_at]
  have hfir : cdI D ≤ cdM D := by unfold cdI; split <;> omega
  have hsec : cdJ D ≤ cdM D := by unfold cdJ; split <;> omega
  have hfs : cdI D ≤ cdJ D := by unfold cdI cdJ; split <;> split <;> omega
  obtain ⟨I', J', b1, b2, b3⟩ := pi_L hD hb hM hfir hsec (by omega) hfs (cdI D) 0 hF I3 J3 (by omega) (by unfold hF; omega) ⟨hcR3, h4, h5, coQ_tb a4⟩ (Or.inl ⟨h2, fun P _ ⟨i', _, q, _⟩ => by omega⟩)
  refine ⟨I', J', ?_, fun a x hh => by rw [b2.1 a x (by omega), a2 a x (by omega), o2 a x (by omega)], fun a x hh => by rw [b2.2 a x (by omega) (by omega), a3 a x (by omega)], by rw [b2.1 38 1 (by decide), h31], b3⟩
  unfold mCo_prepare
  rw [z0, z1, if_pos h1, hl_eq, hl_eq, a1, Option.bind_some]
  show (if I3 38 5 = nI 0 then mCo_prepare_37 (I3 38 4) I3 J3 else mCo_prepare_37 (nI 1) I3 J3) = _
  have p := co_p37 I3 J3
  by_cases q : cdF D = 0
  · rw [if_pos (by rw [h5, q]), p _ h5 hF2 h4, h4]
    have e1 : cdI D = cdM D := by unfold cdI; rw [if_pos q]
    have e2 : cdJ D = (if cdF D = 2 then 2 else cdM D) := rfl
    rw [e1] at b1
    rw [← e2]
    exact b1
  · rw [if_neg (fun e => q ((nI_eq (by omega) (by omega)).mp (h5.symm.trans e))), p _ h5 hF2 h4]
    have e1 : cdI D = 1 := by unfold cdI; rw [if_neg q]
    have e2 : cdJ D = (if cdF D = 2 then 2 else cdM D) := rfl
    rw [e1] at b1
    rw [← e2]
    exact b1
end Cp
