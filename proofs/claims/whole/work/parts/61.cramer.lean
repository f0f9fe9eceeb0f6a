/-! Cramer's rules, and the exact divisions of elimination. -/
theorem set_split {cs : List Nat} {i : Nat} (h : i < cs.length) (j : Nat) : cs.set i j = cs.take i ++ j :: cs.drop (i + 1) := List.set_eq_take_append_cons_drop.trans (if_pos h)
theorem get_split {cs : List Nat} {i : Nat} (h : i < cs.length) : cs = cs.take i ++ cs.getD i 0 :: cs.drop (i + 1) := by
  have h1 := set_split h (cs.getD i 0)
  have h2 : cs.set i (cs.getD i 0) = cs := by
    have e : cs.getD i 0 = cs[i] := by simp [List.getD, h]
    rw [e]
    exact List.set_getElem_self h
  rw [h2] at h1
  exact h1
def dG (r : dR) (j : Nat) : (List Nat → Int) → List Nat → Int
  | _, [] => 0
  | D, c :: cs => r c * D (j :: cs) + dG r j (fun l => D (c :: l)) cs
theorem dE_dG (r : dR) (j : Nat) : ∀ (cs : List Nat) (D : List Nat → Int), dA D → dE r (fun l => D (j :: l)) cs = dG r j D cs
  | [], D, _ => rfl
  | c :: cs, D, h => by
    simp only [dE, dG]
    have e : (fun l => D (j :: c :: l)) = (fun l => - D (c :: j :: l)) := by funext l; exact h [] j c l
    rw [e, dE_neg, ← dE_dG r j cs (fun l => D (c :: l)) (h.cons c)]
    omega
theorem dG_sum (r : dR) (j : Nat) : ∀ (cs : List Nat) (D : List Nat → Int), dG r j D cs = sumN cs.length (fun i => r (cs.getD i 0) * D (cs.set i j))
  | [], D => rfl
  | c :: cs, D => by
    rw [List.length_cons, sumN_first]
    simp only [dG]
    rw [dG_sum r j cs (fun l => D (c :: l))]
    simp
/-- a row against the solution's numbers -/
def dX (r : dR) (cs : List Nat) (x : Nat → Int) : Int := sumN cs.length (fun i => r (cs.getD i 0) * x i)
theorem dt_exp (r : dR) (rs : List dR) (j : Nat) (cs : List Nat) : dt (r :: rs) (j :: cs) = r j * dt rs cs - dX r cs (fun i => dt rs (cs.set i j)) := by
  rw [dt_cons, dE, dE_dG r j cs (dt rs) (dt_anti rs), dG_sum]
  rfl
/-- there is a solution -/
theorem cramer1 {r : dR} {rs : List dR} (h : r ∈ rs) (j : Nat) (cs : List Nat) : dX r cs (fun i => dt rs (cs.set i j)) = r j * dt rs cs := by
  have h1 := dt_exp r rs j cs
  rw [dt_dupr r rs (j :: cs) h] at h1
  omega
theorem dup_set {D : List Nat → Int} (hD : dA D) {cs : List Nat} {i k : Nat} (hi : i < cs.length) (hk : k < cs.length) (hne : k ≠ i) : D (cs.set i (cs.getD k 0)) = 0 := by
  rw [set_split hi]
  rcases Nat.lt_or_gt_of_ne hne with h | h
  · have hk2 : k < (cs.take i).length := by rw [List.length_take]; omega
    have e : (cs.take i).getD k 0 = cs.getD k 0 := by
      simp only [List.getD, List.getElem?_take, if_pos h]
    have hs := get_split hk2
    rw [e] at hs
    rw [hs, List.append_assoc, List.cons_append]
    exact dA_dup hD _ _ _ (List.mem_append_right _ List.mem_cons_self)
  · have hm : cs.getD k 0 ∈ cs.drop (i + 1) := by
      have h3 : (cs.drop (i + 1))[k - (i + 1)]? = some (cs.getD k 0) := by
        rw [List.getElem?_drop]
        have e : i + 1 + (k - (i + 1)) = k := by omega
        rw [e]
        simp [List.getD, hk]
      exact List.mem_of_getElem? h3
    exact dA_dup hD _ _ _ hm
/-- and there is but one -/
theorem cramer2 {rs : List dR} {cs : List Nat} {w : Int} {j : Nat} {x : Nat → Int} (h : ∀ r ∈ rs, dX r cs x = w * r j) {i : Nat} (hi : i < cs.length) : w * dt rs (cs.set i j) = x i * dt rs cs := by
  rw [set_split hi]
  rw [dt_col w j cs.length x (fun k => cs.getD k 0) rs (fun r hr => by rw [← h r hr]; exact sumN_congr (fun k _ => by grind))]
  have e : ∀ k, k < cs.length → k ≠ i → x k * dt rs (cs.take i ++ cs.getD k 0 :: cs.drop (i + 1)) = 0 := fun k hk hne => by
    rw [← set_split hi, dup_set (dt_anti rs) hi hk hne]
    simp
  rw [sumN_single _ hi e, ← get_split hi]
theorem dX_lin (r : dR) (cs : List Nat) (a b : Int) (x y : Nat → Int) : dX r cs (fun i => a * x i + b * y i) = a * dX r cs x + b * dX r cs y := by
  unfold dX
  rw [← sumN_lin]
  exact sumN_congr (fun i _ => by grind)
theorem dX_cons (r : dR) (c : Nat) (cs : List Nat) (x : Nat → Int) : dX r (c :: cs) x = r c * x 0 + dX r cs (fun i => x (i + 1)) := by
  unfold dX
  rw [List.length_cons, sumN_first]
  simp
theorem dX_congr {r : dR} {cs : List Nat} {x y : Nat → Int} (h : ∀ i, i < cs.length → x i = y i) : dX r cs x = dX r cs y := sumN_congr (fun i hi => by rw [h i hi])
/-- solutions of the larger system out of those of the smaller one -/
theorem jordan {rs : List dR} {cs : List Nat} (r0 : dR) (c0 j : Nat) (hd : dt rs cs ≠ 0) {i : Nat} (hi : i < cs.length) : dt rs cs * dt (r0 :: rs) (c0 :: cs.set i j) = dt (r0 :: rs) (c0 :: cs) * dt rs (cs.set i j) - dt (r0 :: rs) (j :: cs) * dt rs (cs.set i c0) := by
  have key : ∀ r ∈ rs, dX r cs (fun i => 1 * (dt rs cs * dt (r0 :: rs) (c0 :: cs.set i j) + (- dt (r0 :: rs) (c0 :: cs)) * dt rs (cs.set i j)) + dt (r0 :: rs) (j :: cs) * dt rs (cs.set i c0)) = 0 * r j := by
    intro r hr
    rw [dX_lin r cs 1 (dt (r0 :: rs) (j :: cs)) (fun i => dt rs cs * dt (r0 :: rs) (c0 :: cs.set i j) + (- dt (r0 :: rs) (c0 :: cs)) * dt rs (cs.set i j)) (fun i => dt rs (cs.set i c0))]
    rw [dX_lin r cs (dt rs cs) (- dt (r0 :: rs) (c0 :: cs)) (fun i => dt (r0 :: rs) (c0 :: cs.set i j)) (fun i => dt rs (cs.set i j))]
    have h1 := cramer1 (List.mem_cons_of_mem r0 hr) j (c0 :: cs)
    rw [dX_cons] at h1
    simp only [List.set_cons_zero, List.set_cons_succ] at h1
    rw [cramer1 hr j cs, cramer1 hr c0 cs]
    generalize dX r cs (fun i => dt (r0 :: rs) (c0 :: cs.set i j)) = X at h1 ⊢
    generalize dt (r0 :: rs) (c0 :: cs) = d' at h1 ⊢
    generalize dt (r0 :: rs) (j :: cs) = e at h1 ⊢
    generalize dt rs cs = d at h1 ⊢
    grind
  have h2 := cramer2 key hi
  have h3 : (1 * (dt rs cs * dt (r0 :: rs) (c0 :: cs.set i j) + (- dt (r0 :: rs) (c0 :: cs)) * dt rs (cs.set i j)) + dt (r0 :: rs) (j :: cs) * dt rs (cs.set i c0)) * dt rs cs = 0 := by rw [← h2]; simp
  rcases Int.mul_eq_zero.mp h3 with h4 | h4
  · grind
  · exact absurd h4 hd
/-- Bareiss' step is exact -/
theorem bareiss {rs : List dR} {cs : List Nat} (r0 r : dR) (c0 j : Nat) (hd : dt rs cs ≠ 0) : dt rs cs * dt (r :: r0 :: rs) (j :: c0 :: cs) = dt (r0 :: rs) (c0 :: cs) * dt (r :: rs) (j :: cs) - dt (r0 :: rs) (j :: cs) * dt (r :: rs) (c0 :: cs) := by
  rw [dt_exp r (r0 :: rs) j (c0 :: cs), dX_cons, dt_exp r rs j cs, dt_exp r rs c0 cs]
  simp only [List.set_cons_zero, List.set_cons_succ]
  have h1 : dX r cs (fun i => dt rs cs * dt (r0 :: rs) (c0 :: cs.set i j) + 0 * 0) = dX r cs (fun i => dt (r0 :: rs) (c0 :: cs) * dt rs (cs.set i j) + (- dt (r0 :: rs) (j :: cs)) * dt rs (cs.set i c0)) := dX_congr (fun i hi => by
    have := jordan (rs := rs) r0 c0 j hd hi
    grind)
  rw [dX_lin r cs _ _ (fun i => dt rs (cs.set i j)) (fun i => dt rs (cs.set i c0)), dX_lin r cs _ _ (fun i => dt (r0 :: rs) (c0 :: cs.set i j)) (fun _ => 0)] at h1
  generalize dX r cs (fun i => dt (r0 :: rs) (c0 :: cs.set i j)) = X at h1 ⊢
  generalize dX r cs (fun i => dt rs (cs.set i j)) = Y at h1 ⊢
  generalize dX r cs (fun i => dt rs (cs.set i c0)) = Z at h1 ⊢
  generalize dt (r0 :: rs) (c0 :: cs) = d' at h1 ⊢
  generalize dt (r0 :: rs) (j :: cs) = e at h1 ⊢
  generalize dt rs cs = d at h1 ⊢
  grind
/-- rows that all miss a column's part: the vector that they send to 0 -/
theorem kernel {rs : List dR} {cs : List Nat} {c0 : Nat} {r : dR} (h : dt (r :: rs) (c0 :: cs) = 0) : r c0 * dt rs cs + dX r cs (fun i => - dt rs (cs.set i c0)) = 0 := by
  rw [dt_exp] at h
  have h1 := dX_lin r cs (-1) 0 (fun i => dt rs (cs.set i c0)) (fun _ => 0)
  have h2 : dX r cs (fun i => - dt rs (cs.set i c0)) = dX r cs (fun i => -1 * dt rs (cs.set i c0) + 0 * 0) := dX_congr (fun i _ => by omega)
  rw [h2, h1]
  grind
theorem kernel_mem {rs : List dR} {cs : List Nat} {c0 : Nat} {r : dR} (h : r ∈ rs) : r c0 * dt rs cs + dX r cs (fun i => - dt rs (cs.set i c0)) = 0 := kernel (dt_dupr r rs _ h)
/-- a vector that is sent to 0 and isn't 0: the determinant is 0 -/
theorem det_zero {rs : List dR} {cs : List Nat} {x : Nat → Int} (h : ∀ r ∈ rs, dX r cs x = 0) {i : Nat} (hi : i < cs.length) (hx : x i ≠ 0) : dt rs cs = 0 := by
  have h1 := cramer2 (rs := rs) (cs := cs) (w := 0) (j := 0) (x := x) (fun r hr => by rw [h r hr]; simp) hi
  have h2 : x i * dt rs cs = 0 := by rw [← h1]; simp
  rcases Int.mul_eq_zero.mp h2 with h3 | h3
  · exact absurd h3 hx
  · exact h3
