/-! Rows 4 less weights: where nothing stays, no leading determinant is 0. -/
def rsN (r : Nat → dR) : Nat → List dR
  | 0 => []
  | k + 1 => r k :: rsN r k
def csN : Nat → List Nat
  | 0 => []
  | k + 1 => k :: csN k
theorem rsN_len (r : Nat → dR) : ∀ k, (rsN r k).length = k
  | 0 => rfl
  | k + 1 => by simp [rsN, rsN_len r k]
theorem csN_len : ∀ k, (csN k).length = k
  | 0 => rfl
  | k + 1 => by simp [csN, csN_len k]
theorem csN_at : ∀ k i, i < k → (csN k).getD i 0 = k - 1 - i
  | 0, i, h => absurd h (Nat.not_lt_zero _)
  | k + 1, 0, _ => by simp [csN]
  | k + 1, i + 1, h => by
    simp only [csN, List.getD_cons_succ]
    rw [csN_at k i (by omega)]
    omega
theorem csN_mem : ∀ k c, c ∈ csN k ↔ c < k
  | 0, c => by simp [csN]
  | k + 1, c => by
    simp only [csN, List.mem_cons, csN_mem k c]
    omega
theorem csN_nodup : ∀ k, (csN k).Nodup
  | 0 => List.nodup_nil
  | k + 1 => List.nodup_cons.mpr ⟨fun h => by have := (csN_mem k k).mp h; omega, csN_nodup k⟩
theorem rsN_mem (r : Nat → dR) : ∀ k x, x ∈ rsN r k ↔ ∃ i, i < k ∧ x = r i
  | 0, x => by simp [rsN]
  | k + 1, x => by
    simp only [rsN, List.mem_cons, rsN_mem r k x]
    constructor
    · rintro (rfl | ⟨i, hi, rfl⟩)
      · exact ⟨k, by omega, rfl⟩
      · exact ⟨i, by omega, rfl⟩
    · rintro ⟨i, hi, rfl⟩
      by_cases e : i = k
      · subst e; exact Or.inl rfl
      · exact Or.inr ⟨i, by omega, rfl⟩
theorem dX_csN (r : dR) (k : Nat) (x : Nat → Int) : dX r (csN k) x = sumN k (fun j => r j * x (k - 1 - j)) := by
  unfold dX
  rw [csN_len, sumN_rev k (fun j => r j * x (k - 1 - j))]
  refine sumN_congr (fun i hi => ?_)
  rw [csN_at k i hi]
  congr 2
  omega
theorem csN_set : ∀ k i j, i < k → (csN k).set (k - 1 - i) j = (csN k).set (k - 1 - i) j := fun _ _ _ _ => rfl
/-- if leading parts send nothing but 0 to 0, no leading determinant is 0 -/
theorem lead_ne (r : Nat → dR) (m : Nat) (hinj : ∀ k, k ≤ m → ∀ v : Nat → Int, (∀ i, i < k → sumN k (fun j => r i j * v j) = 0) → ∀ i, i < k → v i = 0) : ∀ k, k ≤ m → dt (rsN r k) (csN k) ≠ 0 := by
  intro k
  induction k with
  | zero => intro _; simp [rsN, csN, dt]
  | succ k ih =>
    intro hk h0
    have hd := ih (by omega)
    have h0 : dt (r k :: rsN r k) (k :: csN k) = 0 := h0
    have hv := hinj (k + 1) hk (fun j => if j = k then dt (rsN r k) (csN k) else - dt (rsN r k) ((csN k).set (k - 1 - j) k)) (fun i hi => ?_) k (by omega)
    · rw [if_pos rfl] at hv
      exact hd hv
    · have hz : (r i) k * dt (rsN r k) (csN k) + dX (r i) (csN k) (fun i => - dt (rsN r k) ((csN k).set i k)) = 0 := by
        by_cases e : i = k
        · subst e; exact kernel h0
        · exact kernel_mem ((rsN_mem r k _).mpr ⟨i, by omega, rfl⟩)
      rw [dX_csN] at hz
      simp only [sumN, if_true]
      have e : sumN k (fun j => r i j * (if j = k then dt (rsN r k) (csN k) else - dt (rsN r k) ((csN k).set (k - 1 - j) k))) = sumN k (fun j => r i j * - dt (rsN r k) ((csN k).set (k - 1 - j) k)) := sumN_congr (fun j hj => by rw [if_neg (by omega)])
      rw [e]
      omega
theorem ex_max (v : Nat → Int) : ∀ k, 0 < k → ∃ i, i < k ∧ ∀ j, j < k → (v j).natAbs ≤ (v i).natAbs
  | 0, h => absurd h (by omega)
  | 1, _ => ⟨0, by omega, fun j hj => by have : j = 0 := by omega
                                         subst this; exact Nat.le_refl _⟩
  | k + 2, _ => by
    obtain ⟨i, hi, h⟩ := ex_max v (k + 1) (by omega)
    by_cases e : (v i).natAbs ≤ (v (k + 1)).natAbs
    · refine ⟨k + 1, by omega, fun j hj => ?_⟩
      by_cases e2 : j = k + 1
      · subst e2; exact Nat.le_refl _
      · exact Nat.le_trans (h j (by omega)) e
    · refine ⟨i, by omega, fun j hj => ?_⟩
      by_cases e2 : j = k + 1
      · subst e2; omega
      · exact h j (by omega)
theorem sumN_nn {n : Nat} {f : Nat → Int} (h : ∀ i, i < n → 0 ≤ f i) : 0 ≤ sumN n f := by
  induction n with
  | zero => exact Int.le_refl _
  | succ n ih => simp only [sumN]; have := ih (fun i hi => h i (by omega)); have := h n (by omega); omega
/-- the greatest is nowhere but where all stays -/
theorem maxp {k : Nat} {p : Nat → Nat → Int} (hp : ∀ i, i < k → ∀ j, j < k → 0 ≤ p i j) (h4 : ∀ i, i < k → sumN k (p i) ≤ 4) (hesc : ∀ S : Nat → Bool, (∃ i, i < k ∧ S i = true) → ∃ i, i < k ∧ S i = true ∧ sumN k (fun j => if S j = true then p i j else 0) < 4)
    {v : Nat → Int} (hv : ∀ i, i < k → 4 * v i = sumN k (fun j => p i j * v j)) : ∀ i, i < k → v i = 0 := by
  intro i0 hi0
  obtain ⟨im, him, hmax⟩ := ex_max v k (by omega)
  by_cases hM : (v im).natAbs = 0
  · have := hmax i0 hi0
    omega
  · exfalso
    obtain ⟨i, hi, hS, hlt⟩ := hesc (fun j => decide ((v j).natAbs = (v im).natAbs)) ⟨im, him, by simp⟩
    simp only [decide_eq_true_eq] at hS hlt
    generalize hMM : ((v im).natAbs : Int) = M at *
    have hM1 : 1 ≤ M := by omega
    have hvi : v i = M ∨ v i = - M := by omega
    have hb : ∀ j, j < k → - (if (v j).natAbs = (v im).natAbs then M else M - 1) ≤ v j ∧ v j ≤ (if (v j).natAbs = (v im).natAbs then M else M - 1) := by
      intro j hj
      have := hmax j hj
      by_cases e : (v j).natAbs = (v im).natAbs
      · rw [if_pos e]; omega
      · rw [if_neg e]; omega
    have e1 : sumN k (fun j => p i j * v j) ≤ sumN k (fun j => p i j * (if (v j).natAbs = (v im).natAbs then M else M - 1)) := sumN_le (fun j hj => Int.mul_le_mul_of_nonneg_left (hb j hj).2 (hp i hi j hj))
    have e2 : sumN k (fun j => p i j * - (if (v j).natAbs = (v im).natAbs then M else M - 1)) ≤ sumN k (fun j => p i j * v j) := sumN_le (fun j hj => Int.mul_le_mul_of_nonneg_left (hb j hj).1 (hp i hi j hj))
    have e3 : sumN k (fun j => p i j * (if (v j).natAbs = (v im).natAbs then M else M - 1)) = (M - 1) * sumN k (p i) + 1 * sumN k (fun j => if (v j).natAbs = (v im).natAbs then p i j else 0) := by
      rw [← sumN_lin]
      refine sumN_congr (fun j _ => ?_)
      by_cases e : (v j).natAbs = (v im).natAbs
      · rw [if_pos e, if_pos e]; grind
      · rw [if_neg e, if_neg e]; grind
    have e4 : sumN k (fun j => p i j * - (if (v j).natAbs = (v im).natAbs then M else M - 1)) = - ((M - 1) * sumN k (p i) + 1 * sumN k (fun j => if (v j).natAbs = (v im).natAbs then p i j else 0)) := by
      rw [← e3]
      have : sumN k (fun j => p i j * - (if (v j).natAbs = (v im).natAbs then M else M - 1)) = sumN k (fun j => (-1) * (p i j * (if (v j).natAbs = (v im).natAbs then M else M - 1))) := sumN_congr (fun j _ => by grind)
      rw [this, sumN_mul]
      omega
    have hvv := hv i hi
    have h4i := h4 i hi
    generalize sumN k (fun j => if (v j).natAbs = (v im).natAbs then p i j else 0) = a at *
    generalize sumN k (p i) = t at *
    have g1 : (M - 1) * t ≤ (M - 1) * 4 := Int.mul_le_mul_of_nonneg_left h4i (by omega)
    rcases hvi with h | h <;> rw [h] at hvv <;> omega
/-- a row of the equations: 4 at its own place, less the weights; nothing beyond m -/
def aRow (m : Nat) (p : Nat → Int) (s : Nat) : dR := fun c => if c < m then (if c = s then 4 else 0) - p c else 0
theorem sum_at (m : Nat) (p : Nat → Int) (c : Nat) : sumN m (fun i => p i * (if c = i then 1 else 0)) = if c < m then p c else 0 := by
  induction m with
  | zero => rfl
  | succ m ih =>
    simp only [sumN]
    rw [ih]
    by_cases h1 : c < m
    · have h2 : ¬ c = m := by omega
      have h3 : c < m + 1 := by omega
      simp [h1, h2, h3]
    · by_cases h2 : c = m
      · subst h2; simp
      · have h3 : ¬ c < m + 1 := by omega
        simp [h1, h2, h3]
theorem aRow_ok {m : Nat} {p : Nat → Int} {s : Nat} (hs : s < m) (hp : ∀ j, j < m → 0 ≤ p j) (h4 : sumN m p ≤ 4) : wOk 4 (aRow m p s) := by
  refine ⟨m + 1, fun i => if i < m then p i else 4 - sumN m p, fun _ => some s, fun i => if i < m then some i else none, fun i hi => ?_, ?_, ?_⟩
  · show 0 ≤ (if i < m then p i else 4 - sumN m p)
    by_cases h : i < m
    · rw [if_pos h]; exact hp i h
    · rw [if_neg h]; omega
  · simp only [sumN]
    rw [if_neg (Nat.lt_irrefl _)]
    have : sumN m (fun i => if i < m then p i else 4 - sumN m p) = sumN m p := sumN_congr (fun i hi => if_pos hi)
    omega
  · funext c
    simp only [sumN]
    rw [if_neg (Nat.lt_irrefl _)]
    have e1 : sumN m (fun i => (if i < m then p i else 4 - sumN m p) * dAt (some s) (if i < m then some i else none) c) = sumN m (fun i => (if s = c then 1 else 0) * p i + (-1) * (p i * (if c = i then 1 else 0))) := sumN_congr (fun i hi => by
      rw [if_pos hi, if_pos hi]
      unfold dAt
      by_cases h1 : s = c
      · by_cases h2 : i = c
        · subst h1; subst h2; simp; omega
        · have : ¬ c = i := fun h => h2 h.symm
          subst h1; simp [h2, this]
      · by_cases h2 : i = c
        · subst h2; simp [h1]
        · have : ¬ c = i := fun h => h2 h.symm
          simp [h1, h2, this])
    rw [e1, sumN_lin, sum_at]
    rw [if_neg (Nat.lt_irrefl _)]
    unfold aRow dAt
    by_cases h1 : s = c
    · subst h1
      simp [hs]
      omega
    · have h1' : ¬ c = s := fun h => h1 h.symm
      by_cases h2 : c < m
      · simp [h1, h1', h2]
      · simp [h1, h2]
