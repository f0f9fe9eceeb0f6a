/-! Parts of a text: bytes, runs of them, words, numbers, as both sides tell them apart. -/
def isL (b : Nat) : Bool := decide (97 ≤ b ∧ b ≤ 122)
def isD (b : Nat) : Bool := decide (48 ≤ b ∧ b ≤ 57)
def isB (b : Nat) : Bool := decide (b = 32)
/-- the end of a run -/
def rnF (T : Nat → Nat) (g : Nat → Bool) : Nat → Nat → Nat
  | 0, a => a
  | r + 1, a => if g (T a) = true then rnF T g r (a + 1) else a
def rn (T : Nat → Nat) (N : Nat) (g : Nat → Bool) (a : Nat) : Nat := rnF T g (N - a) a
theorem rnF_le (T : Nat → Nat) (g : Nat → Bool) : ∀ r a, a ≤ rnF T g r a ∧ rnF T g r a ≤ a + r := by
  intro r
  induction r with
  | zero => intro a; exact ⟨Nat.le_refl _, Nat.le_refl _⟩
  | succ r ih =>
    intro a
    have := ih (a + 1)
    rw [rnF]
    split <;> omega
theorem rn_le {T : Nat → Nat} {N : Nat} {g : Nat → Bool} {a : Nat} (h : a ≤ N) : a ≤ rn T N g a ∧ rn T N g a ≤ N := by
  have := rnF_le T g (N - a) a
  unfold rn
  omega
theorem rn_y {T : Nat → Nat} {N : Nat} {g : Nat → Bool} {a : Nat} (h : a < N) (hg : g (T a) = true) : rn T N g a = rn T N g (a + 1) := by
  unfold rn
  obtain ⟨r, hr⟩ : ∃ r, N - a = r + 1 := ⟨N - a - 1, by omega⟩
  have e : N - (a + 1) = r := by omega
  rw [hr, e, rnF, if_pos hg]
theorem rn_n {T : Nat → Nat} {N : Nat} {g : Nat → Bool} {a : Nat} (hg : a < N → g (T a) = false) : rn T N g a = a := by
  unfold rn
  by_cases h : a < N
  · obtain ⟨r, hr⟩ : ∃ r, N - a = r + 1 := ⟨N - a - 1, by omega⟩
    rw [hr, rnF, hg h]
    rfl
  · have e : N - a = 0 := by omega
    rw [e]
    rfl
theorem rnF_end (T : Nat → Nat) (g : Nat → Bool) : ∀ r a, rnF T g r a < a + r → g (T (rnF T g r a)) = false := by
  intro r
  induction r with
  | zero => intro a h; rw [rnF] at h; omega
  | succ r ih =>
    intro a h
    rw [rnF] at h ⊢
    by_cases c : g (T a) = true
    · rw [if_pos c] at h ⊢
      exact ih (a + 1) (by omega)
    · rw [if_neg c]
      simpa using c
theorem rn_end {T : Nat → Nat} {N : Nat} {g : Nat → Bool} {a : Nat} (h : a ≤ N) (hr : rn T N g a < N) : g (T (rn T N g a)) = false := by
  unfold rn at hr ⊢
  exact rnF_end T g _ _ (by omega)
/-- words -/
def wl (j : Nat) : Nat := h_len.getD j 0
def wb (j i : Nat) : Nat := ((h_byt.getD j []).getD i 0).toNatClampNeg
theorem wl_le : ∀ j, j < 11 → 1 ≤ wl j ∧ wl j ≤ 5 := by decide +kernel
theorem sl_w (j : Nat) : h_sl j = nI (wl j) := rfl
theorem sc_w : ∀ j, j < 11 → ∀ i, i < 5 → h_sc j (nI i) = nI (wb j i) := by decide +kernel
theorem wb_lt : ∀ j, j < 11 → ∀ i, i < 5 → wb j i < 256 := by decide +kernel
theorem w_same : ∀ j, j < 11 → ∀ k, k < 11 → wl j = wl k → (∀ i, i < 5 → i < wl j → wb j i = wb k i) → j = k := by decide +kernel
def spF (T : Nat → Nat) (s j : Nat) : Nat → Nat → Bool
  | 0, _ => true
  | r + 1, i => if T (s + i) = wb j i then spF T s j r (i + 1) else false
def spl (T : Nat → Nat) (s z j : Nat) : Bool := decide (z - s = wl j) && spF T s j (wl j) 0
theorem spF_all {T : Nat → Nat} {s j : Nat} : ∀ r i, spF T s j r i = true → ∀ k, i ≤ k → k < i + r → T (s + k) = wb j k := by
  intro r
  induction r with
  | zero => intro i _ k h1 h2; omega
  | succ r ih =>
    intro i h k h1 h2
    rw [spF] at h
    by_cases c : T (s + i) = wb j i
    · rw [if_pos c] at h
      by_cases e : k = i
      · subst e; exact c
      · exact ih (i + 1) h k (by omega) (by omega)
    · rw [if_neg c] at h; cases h
theorem spl_one {T : Nat → Nat} {s z j k : Nat} (hj : j < 11) (hk : k < 11) (h1 : spl T s z j = true) (h2 : spl T s z k = true) : j = k := by
  unfold spl at h1 h2
  rw [Bool.and_eq_true] at h1 h2
  have a1 := of_decide_eq_true h1.1
  have a2 := of_decide_eq_true h2.1
  refine w_same j hj k hk (by omega) (fun i _ hi => ?_)
  rw [← spF_all _ _ h1.2 i (by omega) (by omega), spF_all _ _ h2.2 i (by omega) (by omega)]
/-- which word it is -/
def wkF (f : Nat → Bool) : Nat → Nat → Nat
  | 0, _ => 257
  | r + 1, j => if f j = true then 258 + j else wkF f r (j + 1)
theorem wkF_bd (f : Nat → Bool) : ∀ r j, wkF f r j = 257 ∨ (258 + j ≤ wkF f r j ∧ wkF f r j < 258 + j + r) := by
  intro r
  induction r with
  | zero => intro j; left; rfl
  | succ r ih =>
    intro j
    rw [wkF]
    by_cases c : f j = true
    · rw [if_pos c]; right; omega
    · rw [if_neg c]
      rcases ih (j + 1) with h | h
      · left; exact h
      · right; omega
theorem wkF_is {f : Nat → Bool} {n : Nat} (h1 : ∀ j k, j < n → k < n → f j = true → f k = true → j = k) : ∀ r j, j + r = n → ∀ k, j ≤ k → k < n → (wkF f r j = 258 + k ↔ f k = true) := by
  intro r
  induction r with
  | zero => intro j hj k q1 q2; omega
  | succ r ih =>
    intro j hj k q1 q2
    rw [wkF]
    by_cases c : f j = true
    · rw [if_pos c]
      constructor
      · intro e
        have e2 : j = k := by omega
        rw [← e2]; exact c
      · intro e
        have := h1 j k (by omega) q2 c e
        omega
    · rw [if_neg c]
      by_cases e : k = j
      · subst e
        constructor
        · intro e
          rcases wkF_bd f r (k + 1) with h | h <;> omega
        · intro e; exact absurd e c
      · exact ih (j + 1) (by omega) k (by omega) q2
def wkN (T : Nat → Nat) (s z : Nat) : Nat := wkF (spl T s z) 11 0
theorem wkN_is {T : Nat → Nat} {s z k : Nat} (hk : k < 11) : wkN T s z = 258 + k ↔ spl T s z k = true := wkF_is (n := 11) (fun _ _ h1 h2 h3 h4 => spl_one h1 h2 h3 h4) 11 0 rfl k (by omega) hk
theorem wkN_bd (T : Nat → Nat) (s z : Nat) : 257 ≤ wkN T s z ∧ wkN T s z < 269 := by
  unfold wkN
  rcases wkF_bd (spl T s z) 11 0 with h | h <;> omega
/-- parts: where the next one is looked for, where it begins, what it is, its number -/
def tkE (T : Nat → Nat) (N s : Nat) : Nat := if s < N then (if isL (T s) = true then rn T N isL (s + 1) else if isD (T s) = true then rn T N isD (s + 1) else s + 1) else N
def tkA (T : Nat → Nat) (N : Nat) : Nat → Nat
  | 0 => 0
  | k + 1 => tkE T N (rn T N isB (tkA T N k))
def tkS (T : Nat → Nat) (N k : Nat) : Nat := rn T N isB (tkA T N k)
def kdF (T : Nat → Nat) (N s z : Nat) : Nat := if s < N then (if isL (T s) = true then wkN T s z else if isD (T s) = true then 256 else T s) else 0
def nvF (T : Nat → Nat) (s z : Nat) : Nat := if z - s = 1 then T s - 48 else if z - s = 2 then (T s - 48) * 10 + (T (s + 1) - 48) else 100
def tkK (T : Nat → Nat) (N k : Nat) : Nat := kdF T N (tkS T N k) (tkA T N (k + 1))
def tkV (T : Nat → Nat) (N k : Nat) : Nat := nvF T (tkS T N k) (tkA T N (k + 1))
theorem tkE_le {T : Nat → Nat} {N s : Nat} (hs : s < N) : s < tkE T N s ∧ tkE T N s ≤ N := by
  unfold tkE
  rw [if_pos hs]
  have h1 := rn_le (T := T) (g := isL) (show s + 1 ≤ N by omega)
  have h2 := rn_le (T := T) (g := isD) (show s + 1 ≤ N by omega)
  split
  · omega
  · split <;> omega
theorem tkE_N {T : Nat → Nat} {N s : Nat} (hs : N ≤ s) : tkE T N s = N := by
  unfold tkE
  rw [if_neg (by omega)]
theorem tkA_le (T : Nat → Nat) (N : Nat) : ∀ k, tkA T N k ≤ N := by
  intro k
  induction k with
  | zero => exact Nat.zero_le _
  | succ k ih =>
    rw [tkA]
    by_cases h : rn T N isB (tkA T N k) < N
    · exact (tkE_le h).2
    · rw [tkE_N (by omega)]; exact Nat.le_refl _
theorem tkS_le (T : Nat → Nat) (N k : Nat) : tkA T N k ≤ tkS T N k ∧ tkS T N k ≤ N := rn_le (tkA_le T N k)
theorem tkA_lt {T : Nat → Nat} {N k : Nat} (h : tkS T N k < N) : tkS T N k < tkA T N (k + 1) := (tkE_le h).1
theorem tkA_ge {T : Nat → Nat} {N : Nat} : ∀ k, (∀ j, j < k → tkS T N j < N) → k ≤ tkA T N k := by
  intro k
  induction k with
  | zero => intro _; exact Nat.zero_le _
  | succ k ih =>
    intro h
    have h1 := ih (fun j hj => h j (by omega))
    have h2 := tkA_lt (h k (by omega))
    have h3 := (tkS_le T N k).1
    omega
/-- a number as the reference tells it -/
def rV (v : Nat) : Nat := if v = 100 then 1000 else v
/-- the sort of a part as the reference tells it -/
def ptK (k : Nat) : Nat := if k = 0 then 0 else if k < 256 then 3 else if k = 256 then 2 else 1
theorem kdF_bd {T : Nat → Nat} {N s z : Nat} (hT : ∀ i, i < N → 1 ≤ T i ∧ T i ≤ 255) : kdF T N s z < 269 ∧ (kdF T N s z = 0 ↔ N ≤ s) := by
  unfold kdF
  by_cases h : s < N
  · have h1 := hT s h
    have h2 := wkN_bd T s z
    rw [if_pos h]
    split
    · omega
    · split <;> omega
  · rw [if_neg h]; omega
/-- a number below 100 is told alike -/
theorem nvF_bd {T : Nat → Nat} {N s : Nat} (hs : s < N) (h1 : isD (T s) = true) : nvF T s (rn T N isD (s + 1)) ≤ 100 ∧ (nvF T s (rn T N isD (s + 1)) = 100 ↔ 2 < rn T N isD (s + 1) - s) ∧ (rn T N isD (s + 1) - s = 2 → isD (T (s + 1)) = true ∧ s + 1 < N) := by
  have a1 := of_decide_eq_true h1
  have hle := rn_le (T := T) (g := isD) (show s + 1 ≤ N by omega)
  have h2 : rn T N isD (s + 1) - s = 2 → isD (T (s + 1)) = true ∧ s + 1 < N := by
    intro e
    by_cases c : s + 1 < N
    · by_cases d : isD (T (s + 1)) = true
      · exact ⟨d, c⟩
      · have := rn_n (T := T) (N := N) (g := isD) (a := s + 1) (fun _ => by simpa using d)
        omega
    · omega
  refine ⟨?_, ?_, h2⟩
  · unfold nvF
    split
    · omega
    · split
      · rename_i e1 e2
        have := of_decide_eq_true (h2 e2).1
        omega
      · omega
  · unfold nvF
    split
    · omega
    · split
      · rename_i e1 e2
        have := of_decide_eq_true (h2 e2).1
        omega
      · omega
