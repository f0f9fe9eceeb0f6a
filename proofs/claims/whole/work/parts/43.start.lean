/-! What the constructors leave is the worlds' start. -/
def n_lo (m : Nat) (Rf : Nat → Nat → Option Nat) : Prop := ∀ a i, m ≤ i → Rf a i = none
theorem n_lo_u {m a i x : Nat} {Rf : Nat → Nat → Option Nat} (hi : i < m) (h : n_lo m Rf) : n_lo m (h_u Rf a i (some x)) := by
  intro b j hj
  unfold h_u
  have : ¬ j = i := by omega
  simp [this, h b j hj]
theorem n_lo_J {m n N : Nat} {Rf : Nat → Nat → Option Nat} (hN : N ≤ m) (h : n_lo m Rf) : n_lo m (n_RJ Rf n N) := by
  intro b j hj
  unfold n_RJ
  have : ¬ j < N := by omega
  simp [this, h b j hj]
theorem n_lo_S {m sa n N : Nat} {Rf : Nat → Nat → Option Nat} (hN : N ≤ m) (h : n_lo m Rf) : n_lo m (n_RS Rf sa n N) := by
  intro b j hj
  unfold n_RS
  have : ¬ j < N := by omega
  simp [this, h b j hj]
theorem n_lo_0 {m : Nat} : n_lo m (fun _ _ => none) := fun _ _ _ => rfl
theorem n_lo_C : n_lo 50 (r_C (fun _ _ => none) 0 1) := by
  unfold r_C r_Gt r_Lt q_Lt r_Co r_Hz r_Pl r_Ro r_Wk r_Rd r_Cd
  repeat (first | exact n_lo_0 | refine n_lo_u (by decide) ?_ | refine n_lo_J (by decide) ?_ | refine n_lo_S (by decide) ?_)
theorem n_lo_M : n_lo 100 (r_M (fun _ _ => none) 0 1) := by
  unfold r_M
  repeat (first | exact n_lo_0 | refine n_lo_u (by decide) ?_)
theorem n_lo_RM (B : Bool × Bool) : n_lo 50 (RM B) := by
  intro a i hi
  unfold RM
  by_cases h : a = 0 ∨ a = 1 ∨ a = 6 ∨ a = 7 ∨ a = 13 ∨ a = 31 ∨ a = 38 ∨ a = 20 ∨ a = 32 ∨ a = 39 ∨ a = 49 ∨ a = 61 ∨ a = 118 ∨ a = 62 ∨ a = 119 ∨ a = 176 ∨ a = 189 ∨ a = 68 ∨ a = 125 ∨ a = 175 ∨ a = 188
  · rcases h with rfl | rfl | rfl | rfl | rfl | rfl | rfl | rfl | rfl | rfl | rfl | rfl | rfl | rfl | rfl | rfl | rfl | rfl | rfl | rfl | rfl
    all_goals first
      | exact h_getD_out _ (Nat.le_trans (Nat.le_of_ble_eq_true rfl) hi)
      | (simp; done)
      | (simp; omega)
  · repeat rw [if_neg (by omega)]
theorem n_lo_RMm : n_lo 100 RMm := by
  intro a i hi
  unfold RMm
  split
  · exact h_getD_out _ (by simp; omega)
  · rfl
theorem cl_RM (B : Bool × Bool) {a i : Nat} (h : 201 ≤ a) : RM B a i = none := by
  unfold RM
  repeat rw [if_neg (by omega)]
theorem kdC_eq : x_C [(15, 0)] = kdC := by decide +kernel
theorem kdM_eq : x_M [(16, 0)] = kdM := by decide +kernel
theorem RM_fin : ∀ a, a < 201 → ∀ i, i < 50 → r_C (fun _ _ => none) 0 1 a i = RM (false, false) a i := by decide +kernel
theorem RMm_fin : ∀ a, a < 49 → ∀ i, i < 100 → r_M (fun _ _ => none) 0 1 a i = RMm a i := by decide +kernel
theorem RM_eq (hc : n_cl 201 (r_C (fun _ _ => none) 0 1)) : r_C (fun _ _ => none) 0 1 = RM (false, false) := by
  funext a i
  by_cases ha : a < 201
  · by_cases hi : i < 50
    · exact RM_fin a ha i hi
    · rw [n_lo_C a i (by omega), n_lo_RM _ a i (by omega)]
  · rw [cl_RM _ (by omega)]
    exact n_none hc (by omega) i
theorem RMm_eq (hc : n_cl 49 (r_M (fun _ _ => none) 0 1)) : r_M (fun _ _ => none) 0 1 = RMm := by
  funext a i
  by_cases ha : a < 49
  · by_cases hi : i < 100
    · exact RMm_fin a ha i hi
    · rw [n_lo_M a i (by omega), n_lo_RMm a i (by omega)]
  · rw [n_none hc (by omega) i]
    unfold RMm
    rw [if_neg (by omega)]
