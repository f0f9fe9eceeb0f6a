/-! Determinants. A row is a function of labels, the columns are a list of labels. -/
abbrev dR : Type := Nat → Int
def dE (r : dR) : (List Nat → Int) → List Nat → Int
  | _, [] => 0
  | D, c :: cs => r c * D cs - dE r (fun l => D (c :: l)) cs
def dt : List dR → List Nat → Int
  | [], [] => 1
  | [], _ :: _ => 0
  | r :: rs, cs => dE r (dt rs) cs
theorem dt_cons (r : dR) (rs : List dR) (cs : List Nat) : dt (r :: rs) cs = dE r (dt rs) cs := by
  cases cs <;> rfl
theorem dE_lin (r : dR) (a b : Int) : ∀ (cs : List Nat) (D1 D2 : List Nat → Int), dE r (fun l => a * D1 l + b * D2 l) cs = a * dE r D1 cs + b * dE r D2 cs
  | [], _, _ => by simp [dE]
  | c :: cs, D1, D2 => by
    simp only [dE]
    rw [dE_lin r a b cs]
    grind
theorem dE_linr (r1 r2 : dR) (a b : Int) : ∀ (cs : List Nat) (D : List Nat → Int), dE (fun c => a * r1 c + b * r2 c) D cs = a * dE r1 D cs + b * dE r2 D cs
  | [], _ => by simp [dE]
  | c :: cs, D => by
    simp only [dE]
    rw [dE_linr r1 r2 a b cs]
    grind
theorem dE_neg (r : dR) (cs : List Nat) (D : List Nat → Int) : dE r (fun l => - D l) cs = - dE r D cs := by
  have h := dE_lin r (-1) 0 cs D D
  have e : (fun l => -1 * D l + 0 * D l) = (fun l => - D l) := by funext l; grind
  rw [e] at h
  rw [h]
  grind
theorem dE_zero (r : dR) (cs : List Nat) : dE r (fun _ => 0) cs = 0 := by
  have h := dE_lin r 0 0 cs (fun _ => 0) (fun _ => 0)
  have e : (fun l : List Nat => (0 : Int) * (fun _ => 0) l + 0 * (fun _ => 0) l) = (fun _ => 0) := by funext l; simp
  rw [e] at h
  rw [h]
  simp
/-- exchanging two neighbours among the columns turns the sign -/
def dA (D : List Nat → Int) : Prop := ∀ (l1 : List Nat) (a b : Nat) (l2 : List Nat), D (l1 ++ a :: b :: l2) = - D (l1 ++ b :: a :: l2)
theorem dA.cons {D : List Nat → Int} (h : dA D) (c : Nat) : dA (fun l => D (c :: l)) := fun l1 a b l2 => h (c :: l1) a b l2
theorem dE_anti (r : dR) : ∀ (l1 : List Nat) (D : List Nat → Int), dA D → ∀ (a b : Nat) (l2 : List Nat), dE r D (l1 ++ a :: b :: l2) = - dE r D (l1 ++ b :: a :: l2)
  | [], D, h, a, b, l2 => by
    simp only [List.nil_append, dE]
    have e : (fun l => D (a :: b :: l)) = (fun l => - D (b :: a :: l)) := by funext l; exact h [] a b l
    rw [e, dE_neg]
    grind
  | c :: l1, D, h, a, b, l2 => by
    simp only [List.cons_append, dE]
    rw [dE_anti r l1 _ (h.cons c) a b l2, h l1 a b l2]
    grind
theorem dt_anti : ∀ rs : List dR, dA (dt rs)
  | [], l1, a, b, l2 => by
    cases l1 <;> simp [dt]
  | r :: rs, l1, a, b, l2 => by
    rw [dt_cons, dt_cons]
    exact dE_anti r l1 (dt rs) (dt_anti rs) a b l2
theorem dE_swap (r r' : dR) : ∀ (cs : List Nat) (D : List Nat → Int), dE r (dE r' D) cs = - dE r' (dE r D) cs
  | [], D => by simp [dE]
  | c :: cs, D => by
    simp only [dE]
    have e1 : (fun l => r' c * D l - dE r' (fun l => D (c :: l)) l) = (fun l => r' c * D l + (-1) * dE r' (fun l => D (c :: l)) l) := by funext l; grind
    have e2 : (fun l => r c * D l - dE r (fun l => D (c :: l)) l) = (fun l => r c * D l + (-1) * dE r (fun l => D (c :: l)) l) := by funext l; grind
    rw [e1, e2, dE_lin, dE_lin]
    have ih := dE_swap r r' cs (fun l => D (c :: l))
    have i1 : dE r (fun l => dE r' (fun l => D (c :: l)) l) cs = dE r (dE r' (fun l => D (c :: l))) cs := rfl
    have i2 : dE r' (fun l => dE r (fun l => D (c :: l)) l) cs = dE r' (dE r (fun l => D (c :: l))) cs := rfl
    rw [i1, i2, ih]
    grind
theorem dt_swap0 (r r' : dR) (rs : List dR) (cs : List Nat) : dt (r :: r' :: rs) cs = - dt (r' :: r :: rs) cs := by
  have e1 : dt (r' :: rs) = dE r' (dt rs) := by funext l; exact dt_cons _ _ _
  have e2 : dt (r :: rs) = dE r (dt rs) := by funext l; exact dt_cons _ _ _
  rw [dt_cons, dt_cons, e1, e2]
  exact dE_swap r r' cs (dt rs)
theorem dt_swap (r r' : dR) (l2 : List dR) : ∀ (l1 : List dR) (cs : List Nat), dt (l1 ++ r :: r' :: l2) cs = - dt (l1 ++ r' :: r :: l2) cs
  | [], cs => dt_swap0 r r' l2 cs
  | r0 :: l1, cs => by
    rw [List.cons_append, List.cons_append, dt_cons, dt_cons]
    have e : dt (l1 ++ r :: r' :: l2) = (fun l => - dt (l1 ++ r' :: r :: l2) l) := by funext l; exact dt_swap r r' l2 l1 l
    rw [e, dE_neg]
theorem dt_dupr (r : dR) : ∀ (rs : List dR) (cs : List Nat), r ∈ rs → dt (r :: rs) cs = 0
  | [], cs, h => absurd h List.not_mem_nil
  | r' :: rs, cs, h => by
    rcases List.mem_cons.mp h with e | e
    · subst e
      have := dt_swap0 r r rs cs
      omega
    · rw [dt_swap0, dt_cons]
      have e : dt (r :: rs) = (fun _ => 0) := by funext l; exact dt_dupr r rs l e
      rw [e, dE_zero]
      rfl
theorem dA_dup {D : List Nat → Int} (h : dA D) (a : Nat) : ∀ (l pre : List Nat), a ∈ l → D (pre ++ a :: l) = 0
  | [], pre, h0 => absurd h0 List.not_mem_nil
  | b :: l, pre, h0 => by
    by_cases e : a = b
    · subst e
      have := h pre a a l
      omega
    · have h1 : a ∈ l := by
        rcases List.mem_cons.mp h0 with q | q
        · exact absurd q e
        · exact q
      rw [h pre a b l]
      have h2 := dA_dup h a l (pre ++ [b]) h1
      rw [List.append_assoc, List.singleton_append] at h2
      rw [h2]
      rfl
/-- sums over 0 .. n-1 -/
def sumN : Nat → (Nat → Int) → Int
  | 0, _ => 0
  | n + 1, f => sumN n f + f n
theorem sumN_congr {n : Nat} {f g : Nat → Int} (h : ∀ i, i < n → f i = g i) : sumN n f = sumN n g := by
  induction n with
  | zero => rfl
  | succ n ih => simp only [sumN]; rw [ih (fun i hi => h i (by omega)), h n (by omega)]
theorem sumN_lin (a b : Int) (n : Nat) (f g : Nat → Int) : sumN n (fun i => a * f i + b * g i) = a * sumN n f + b * sumN n g := by
  induction n with
  | zero => simp [sumN]
  | succ n ih => simp only [sumN]; rw [ih]; grind
theorem sumN_mul (a : Int) (n : Nat) (f : Nat → Int) : sumN n (fun i => a * f i) = a * sumN n f := by
  induction n with
  | zero => simp [sumN]
  | succ n ih => simp only [sumN]; rw [ih]; grind
theorem sumN_zero {n : Nat} {f : Nat → Int} (h : ∀ i, i < n → f i = 0) : sumN n f = 0 := by
  induction n with
  | zero => rfl
  | succ n ih => simp only [sumN]; rw [ih (fun i hi => h i (by omega)), h n (by omega)]; rfl
theorem sumN_first (n : Nat) (f : Nat → Int) : sumN (n + 1) f = f 0 + sumN n (fun i => f (i + 1)) := by
  induction n with
  | zero => simp [sumN]
  | succ n ih => rw [sumN, ih]; simp only [sumN]; omega
theorem sumN_single {n k : Nat} (f : Nat → Int) (hk : k < n) (h : ∀ i, i < n → i ≠ k → f i = 0) : sumN n f = f k := by
  induction n with
  | zero => omega
  | succ n ih =>
    simp only [sumN]
    by_cases e : k = n
    · subst e
      rw [sumN_zero (fun i hi => h i (by omega) (by omega))]
      omega
    · rw [ih (by omega) (fun i hi => h i (by omega)), h n (by omega) (by omega)]
      omega
theorem sumN_rev (n : Nat) : ∀ f : Nat → Int, sumN n f = sumN n (fun i => f (n - 1 - i)) := by
  induction n with
  | zero => intro f; rfl
  | succ n ih =>
    intro f
    rw [sumN_first n (fun i => f (n + 1 - 1 - i))]
    simp only [sumN]
    rw [ih f]
    have e : ∀ i, i < n → f (n - 1 - i) = f (n + 1 - 1 - (i + 1)) := fun i hi => by congr 1; omega
    rw [sumN_congr e]
    have e0 : n + 1 - 1 - 0 = n := by omega
    rw [e0]
    omega
theorem dE_sum (r : dR) (cs : List Nat) (x : Nat → Int) (F : Nat → List Nat → Int) (n : Nat) : dE r (fun l => sumN n (fun i => x i * F i l)) cs = sumN n (fun i => x i * dE r (F i) cs) := by
  induction n with
  | zero => simp only [sumN]; exact dE_zero r cs
  | succ n ih =>
    simp only [sumN]
    have h := dE_lin r 1 (x n) cs (fun l => sumN n (fun i => x i * F i l)) (F n)
    have e : (fun l => 1 * (fun l => sumN n (fun i => x i * F i l)) l + x n * F n l) = (fun l => sumN n (fun i => x i * F i l) + x n * F n l) := by funext l; simp
    rw [e] at h
    rw [h, ih]
    omega
/-- a column that is a sum of others -/
theorem dE_col (r : dR) (w : Int) (j n : Nat) (x : Nat → Int) (cc : Nat → Nat) (hr : w * r j = sumN n (fun i => x i * r (cc i))) : ∀ (l1 : List Nat) (D : List Nat → Int), (∀ l1 l2, w * D (l1 ++ j :: l2) = sumN n (fun i => x i * D (l1 ++ cc i :: l2))) → ∀ l2, w * dE r D (l1 ++ j :: l2) = sumN n (fun i => x i * dE r D (l1 ++ cc i :: l2))
  | [], D, h, l2 => by
    simp only [List.nil_append, dE]
    have e1 : (fun l => w * D (j :: l)) = (fun l => sumN n (fun i => x i * D (cc i :: l))) := by funext l; exact h [] l
    have e2 := dE_sum r l2 x (fun i l => D (cc i :: l)) n
    rw [← e1] at e2
    have e3 := dE_lin r w 0 l2 (fun l => D (j :: l)) (fun l => D (j :: l))
    have e4 : (fun l => w * D (j :: l) + 0 * D (j :: l)) = (fun l => w * D (j :: l)) := by funext l; simp
    rw [e4, e2] at e3
    have e5 : sumN n (fun i => x i * (r (cc i) * D l2 - dE r (fun l => D (cc i :: l)) l2)) = D l2 * sumN n (fun i => x i * r (cc i)) - sumN n (fun i => x i * dE r (fun l => D (cc i :: l)) l2) := by
      have h5 := sumN_lin (D l2) (-1) n (fun i => x i * r (cc i)) (fun i => x i * dE r (fun l => D (cc i :: l)) l2)
      have h6 : sumN n (fun i => x i * (r (cc i) * D l2 - dE r (fun l => D (cc i :: l)) l2)) = sumN n (fun i => D l2 * (x i * r (cc i)) + (-1) * (x i * dE r (fun l => D (cc i :: l)) l2)) := sumN_congr (fun i _ => by grind)
      rw [h6, h5]
      grind
    rw [e5, e3, ← hr]
    grind
  | c :: l1, D, h, l2 => by
    simp only [List.cons_append, dE]
    have ih := dE_col r w j n x cc hr l1 (fun l => D (c :: l)) (fun a b => h (c :: a) b) l2
    have h0 := h l1 l2
    have e5 : sumN n (fun i => x i * (r c * D (l1 ++ cc i :: l2) - dE r (fun l => D (c :: l)) (l1 ++ cc i :: l2))) = r c * sumN n (fun i => x i * D (l1 ++ cc i :: l2)) - sumN n (fun i => x i * dE r (fun l => D (c :: l)) (l1 ++ cc i :: l2)) := by
      have h5 := sumN_lin (r c) (-1) n (fun i => x i * D (l1 ++ cc i :: l2)) (fun i => x i * dE r (fun l => D (c :: l)) (l1 ++ cc i :: l2))
      have h6 : sumN n (fun i => x i * (r c * D (l1 ++ cc i :: l2) - dE r (fun l => D (c :: l)) (l1 ++ cc i :: l2))) = sumN n (fun i => r c * (x i * D (l1 ++ cc i :: l2)) + (-1) * (x i * dE r (fun l => D (c :: l)) (l1 ++ cc i :: l2))) := sumN_congr (fun i _ => by grind)
      rw [h6, h5]
      grind
    rw [e5, ← h0, ← ih]
    grind
theorem dt_col (w : Int) (j n : Nat) (x : Nat → Int) (cc : Nat → Nat) : ∀ (rs : List dR), (∀ r ∈ rs, w * r j = sumN n (fun i => x i * r (cc i))) → ∀ l1 l2, w * dt rs (l1 ++ j :: l2) = sumN n (fun i => x i * dt rs (l1 ++ cc i :: l2))
  | [], _, l1, l2 => by
    have h0 : ∀ c, dt [] (l1 ++ c :: l2) = 0 := fun c => by cases l1 <;> rfl
    rw [h0, sumN_zero (fun i _ => by rw [h0]; simp)]
    simp
  | r :: rs, h, l1, l2 => by
    have h1 := dE_col r w j n x cc (h r List.mem_cons_self) l1 (dt rs) (dt_col w j n x cc rs (fun r hr => h r (List.mem_cons_of_mem _ hr))) l2
    simp only [dt_cons]
    exact h1
