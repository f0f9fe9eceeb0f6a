/-! Statements: what both readers have built of them. -/
/-- how many statements of a kind stand ahead -/
def ctK (I : hI) (kd : Nat) : Nat → Nat
  | 0 => 0
  | x + 1 => ctK I kd x + (if I 9 x = nI kd then 1 else 0)
theorem ctK_congr {I I' : hI} {kd : Nat} : ∀ x, (∀ y, y < x → I' 9 y = I 9 y) → ctK I' kd x = ctK I kd x := by
  intro x
  induction x with
  | zero => intro _; rfl
  | succ x ih =>
    intro h
    rw [ctK, ctK, ih (fun y hy => h y (by omega)), h x (by omega)]
theorem ctK_le (I : hI) (kd : Nat) : ∀ x, ctK I kd x ≤ x := by
  intro x
  induction x with
  | zero => exact Nat.le_refl _
  | succ x ih => rw [ctK]; split <;> omega
theorem ctK_mono (I : hI) (kd x : Nat) : ∀ d, ctK I kd x ≤ ctK I kd (x + d) := by
  intro d
  induction d with
  | zero => exact Nat.le_refl _
  | succ d ih =>
    have e : x + (d + 1) = (x + d) + 1 := by omega
    rw [e, ctK]
    omega
theorem ctK_lt {I : hI} {kd x y : Nat} (h : I 9 x = nI kd) (hy : x < y) : ctK I kd x < ctK I kd y := by
  have h1 := ctK_mono I kd (x + 1) (y - (x + 1))
  have e : x + 1 + (y - (x + 1)) = y := by omega
  rw [e, ctK, if_pos h] at h1
  omega
/-- a statement and its step, but for where its bodies lie -/
def hdQ (t K W q st kd wh c2 c3 x : Nat) (Ic Im : hI) : Prop := kd ≤ 6 ∧ Im 9 x = nI kd ∧ Ic (t + 9 + st) 0 = nI (kcN kd) ∧ (kd ≤ 1 → ∃ (l : Nat) (u : Nat → Int), l < q ∧ Im 10 x = nI l ∧ smQ l u Im ∧ Ic (t + 9 + st) 3 = iI (u 1) ∧ Ic (t + 9 + st) 4 = iI (u 2) ∧ Ic (t + 9 + st) 5 = iI (u 0)) ∧ (kd = 2 → wh = ctK Im 2 x ∧ wh < W ∧ Ic (t + 9 + st) 1 = nI wh ∧ ∃ v, v ≤ 20 ∧ Ic (t + 8) wh = nI v ∧ Im 10 x = nI v) ∧ (kd = 4 → wh < 3 ∧ Ic (t + 9 + st) 1 = nI wh ∧ Im 10 x = nI wh) ∧ (kd = 5 → Ic (t + 9 + st) 6 = nI c2 ∧ Ic (t + 9 + st) 7 = nI c3 ∧ Im 11 x = nI c2 ∧ Im 12 x = nI c3 ∧ c2 < c3 ∧ c3 ≤ K ∧ cnR 0 (t + 1) q c2 c3 Ic Im ∧ Ic (t + 6) c2 = nI 1)
theorem hdQ_of {t K W q K' W' q' st kd wh c2 c3 x : Nat} {Ic Im Ic' Im' : hI} (h : hdQ t K W q st kd wh c2 c3 x Ic Im) (hK : K ≤ K') (hW : W ≤ W') (hq : q ≤ q') (h1 : ∀ i, i ≠ 2 → Ic' (t + 9 + st) i = Ic (t + 9 + st) i) (h2 : ∀ c i, t + 2 ≤ c → c ≤ t + 6 → i < K → Ic' c i = Ic c i) (h3 : ∀ i, i < W → Ic' (t + 8) i = Ic (t + 8) i) (h4 : ∀ y, y ≤ x → Im' 9 y = Im 9 y) (h5 : ∀ c, 10 ≤ c → c ≤ 12 → Im' c x = Im c x) (h6 : ∀ c i, 2 ≤ c → c ≤ 4 → i < q → Im' c i = Im c i) (h7 : ∀ c i, 5 ≤ c → c ≤ 8 → i < K → Im' c i = Im c i) : hdQ t K' W' q' st kd wh c2 c3 x Ic' Im' := by
  obtain ⟨a0, a1, a2, a3, a4, a5, a6⟩ := h
  refine ⟨a0, by rw [h4 x (Nat.le_refl _)]; exact a1, by rw [h1 0 (by omega)]; exact a2, fun z => ?_, fun z => ?_, fun z => ?_, fun z => ?_⟩
  · obtain ⟨l, u, b1, b2, b3, b4, b5, b6⟩ := a3 z
    exact ⟨l, u, by omega, by rw [h5 10 (by omega) (by omega)]; exact b2, smQ_of b3 (fun c q1 q2 => h6 c l q1 q2 b1), by rw [h1 3 (by omega)]; exact b4, by rw [h1 4 (by omega)]; exact b5, by rw [h1 5 (by omega)]; exact b6⟩
  · obtain ⟨b1, b2, b3, v, b4, b5, b6⟩ := a4 z
    exact ⟨by rw [ctK_congr x (fun y hy => h4 y (by omega))]; exact b1, by omega, by rw [h1 1 (by omega)]; exact b3, v, b4, by rw [h3 wh b2]; exact b5, by rw [h5 10 (by omega) (by omega)]; exact b6⟩
  · obtain ⟨b1, b2, b3⟩ := a5 z
    exact ⟨b1, by rw [h1 1 (by omega)]; exact b2, by rw [h5 10 (by omega) (by omega)]; exact b3⟩
  · obtain ⟨b1, b2, b3, b4, b5, b6, b7, b8⟩ := a6 z
    exact ⟨by rw [h1 6 (by omega)]; exact b1, by rw [h1 7 (by omega)]; exact b2, by rw [h5 11 (by omega) (by omega)]; exact b3, by rw [h5 12 (by omega) (by omega)]; exact b4, b5, by omega, cnR_of b7 hq (fun c i q1 q2 q3 q4 => h2 c i (by omega) (by omega) (by omega)) (fun c i q1 q2 q3 q4 => h7 c i q1 q2 (by omega)) (fun c i q1 q2 q3 q4 => h6 c i q1 q2 q4), by rw [h2 (t + 6) c2 (by omega) (by omega) (by omega)]; exact b8⟩
/-- statement x, told by Q -/
def stmQ (t A K W q : Nat) (Q : rD) (x : Nat) (Ic Im : hI) : Prop := hdQ t K W q (Q 4 x) (Q 0 x) (Q 1 x) (Q 2 x) (Q 3 x) x Ic Im ∧ Q 4 x < A ∧ ((3 ≤ Q 0 x ∧ Q 0 x ≤ 5) → (1 ≤ Q 5 x ∧ Q 5 x ≤ A) ∧ Ic (t + 9 + Q 4 x) 2 = nI (Q 5 x) ∧ Ic (t + 9 + (Q 5 x - 1)) 0 = nI 300 ∧ Ic (t + 9 + (Q 5 x - 1)) 2 = nI (Q 6 x) ∧ Im 13 x = ptI 0 (Q 7 x) ∧ Im 14 x = ptI 0 (Q 8 x))
/-- what reading statements may change -/
def FC (t a k w : Nat) (I I' : hI) : Prop := ∀ c i, (c ≠ 1 ∨ i < 6 ∨ 11 < i) → (c ≠ t ∨ (i ≠ 3 ∧ i ≠ 7 ∧ i ≠ 8 ∧ i ≠ 9 ∧ i ≠ 10)) → (c ≠ t + 1 ∨ i ≠ 5) → (c < t + 2 ∨ t + 6 < c ∨ i < k) → (c ≠ t + 8 ∨ i < w) → (c < t + 9 + a ∨ t + 57 ≤ c) → I' c i = I c i
def GC (t : Nat) (I I' : hI) : Prop := ∀ c i, (c ≠ 1 ∨ i < 6 ∨ 11 < i) → (c < t ∨ t + 57 ≤ c) → I' c i = I c i
def FM (s k q : Nat) (I I' : hI) : Prop := ∀ c i, (c ≠ 0 ∨ i < 3 ∨ (7 < i ∧ i ≠ 11 ∧ i ≠ 16 ∧ i ≠ 24 ∧ i ≠ 25 ∧ i ≠ 30 ∧ i ≠ 31)) → (c < 2 ∨ 4 < c ∨ i < q ∨ 250 ≤ i) → (c < 5 ∨ 8 < c ∨ i < k ∨ 250 ≤ i) → (c < 9 ∨ 15 < c ∨ i < s ∨ 24 ≤ i) → I' c i = I c i
theorem FC_tr {t a k w a' k' w' : Nat} {I I' I'' : hI} (h1 : FC t a k w I I') (h2 : FC t a' k' w' I' I'') (ha : a ≤ a') (hk : k ≤ k') (hw : w ≤ w') : FC t a k w I I'' := fun c i q1 q2 q3 q4 q5 q6 => by
  rw [h2 c i q1 q2 q3 (by omega) (by omega) (by omega), h1 c i q1 q2 q3 q4 q5 q6]
theorem FC_le {t a k w a' k' w' : Nat} {I I' : hI} (h : FC t a' k' w' I I') (ha : a ≤ a') (hk : k ≤ k') (hw : w ≤ w') : FC t a k w I I' := fun c i q1 q2 q3 q4 q5 q6 => h c i q1 q2 q3 (by omega) (by omega) (by omega)
theorem GC_tr {t : Nat} {I I' I'' : hI} (h1 : GC t I I') (h2 : GC t I' I'') : GC t I I'' := fun c i q1 q2 => by rw [h2 c i q1 q2, h1 c i q1 q2]
theorem GC_of {t a k w : Nat} {I I' : hI} (h : FC t a k w I I') : GC t I I' := fun c i q1 q2 => h c i q1 (by omega) (by omega) (by omega) (by omega) (by omega)
theorem FM_tr {s k q s' k' q' : Nat} {I I' I'' : hI} (h1 : FM s k q I I') (h2 : FM s' k' q' I' I'') (hs : s ≤ s') (hk : k ≤ k') (hq : q ≤ q') : FM s k q I I'' := fun c i q1 q2 q3 q4 => by
  rw [h2 c i q1 (by omega) (by omega) (by omega), h1 c i q1 q2 q3 q4]
theorem FC_fr {t a k w : Nat} {I I' : hI} (h : frC I I') : FC t a k w I I' := fun c i q1 _ _ _ _ _ => h c i (by omega)
theorem FC_fr2 {t a k w : Nat} {I I' : hI} (h : frC2 I I') : FC t a k w I I' := fun c i q1 _ _ _ _ _ => h c i q1
theorem FC_frD {t a k w : Nat} {I I' : hI} (h : frD (t + 1) k I I') : FC t a k w I I' := fun c i q1 _ q3 q4 _ _ => h c i q1 q3 (by omega)
theorem FM_fr {s k q : Nat} {I I' : hI} (h : frMm I I') : FM s k q I I' := fun c i q1 _ _ _ => h c i (by omega)
theorem FM_frR {s k q : Nat} {I I' : hI} (h : frR q I I') (hq : q < 250) : FM s k q I I' := fun c i q1 q2 _ _ => h c i (by omega) (by omega)
theorem FM_frN {s k q : Nat} {I I' : hI} (h : frN 0 k q I I') : FM s k q I I' := fun c i q1 q2 q3 _ => h c i (by omega) (by omega) (by omega)
/-- the same, but for the pointer behind the statement l -/
def FMx (l s k q : Nat) (I I' : hI) : Prop := ∀ c i, (c ≠ 0 ∨ i < 3 ∨ (7 < i ∧ i ≠ 11 ∧ i ≠ 16 ∧ i ≠ 24 ∧ i ≠ 25 ∧ i ≠ 30 ∧ i ≠ 31)) → (c < 2 ∨ 4 < c ∨ i < q ∨ 250 ≤ i) → (c < 5 ∨ 8 < c ∨ i < k ∨ 250 ≤ i) → (c < 9 ∨ 15 < c ∨ i < s ∨ 24 ≤ i) → (c ≠ 15 ∨ i ≠ l) → I' c i = I c i
theorem FMx_of {l s k q : Nat} {I I' : hI} (h : FM s k q I I') : FMx l s k q I I' := fun c i q1 q2 q3 q4 _ => h c i q1 q2 q3 q4
def FMy (s k q : Nat) (I I' : hI) : Prop := ∀ c i, (c ≠ 0 ∨ i < 3 ∨ (7 < i ∧ i ≠ 11 ∧ i ≠ 16 ∧ i ≠ 24 ∧ i ≠ 25 ∧ i ≠ 30 ∧ i ≠ 31)) → (c < 2 ∨ 4 < c ∨ i < q ∨ 250 ≤ i) → (c < 5 ∨ 8 < c ∨ i < k ∨ 250 ≤ i) → (c < 9 ∨ 15 < c ∨ i < s ∨ 24 ≤ i) → c ≠ 15 → I' c i = I c i
theorem FMy_of {s k q : Nat} {I I' : hI} (h : FM s k q I I') : FMy s k q I I' := fun c i q1 q2 q3 q4 _ => h c i q1 q2 q3 q4
theorem stmQ_of {t A K W q A' K' W' q' X x : Nat} {Q : rD} {Ic Im Ic' Im' : hI} (h : stmQ t A K W q Q x Ic Im) (hc : FC t A K W Ic Ic') (hm : FMy X K q Im Im') (hx : x < X) (hX : X ≤ 24) (hK : K ≤ K') (hW : W ≤ W') (hq : q ≤ q') (hA : A ≤ A') (ht : 61 ≤ t) (hA48 : A ≤ 48) : stmQ t A' K' W' q' Q x Ic' Im' := by
  obtain ⟨a1, a2, a3⟩ := h
  refine ⟨hdQ_of a1 hK hW hq (fun i _ => hc _ i (by omega) (by omega) (by omega) (by omega) (by omega) (by omega)) (fun c i q1 q2 q3 => hc c i (by omega) (by omega) (by omega) (by omega) (by omega) (by omega)) (fun i hi => hc _ i (by omega) (by omega) (by omega) (by omega) (by omega) (by omega)) (fun y hy => hm 9 y (by omega) (by omega) (by omega) (by omega) (by omega)) (fun c q1 q2 => hm c x (by omega) (by omega) (by omega) (by omega) (by omega)) (fun c i q1 q2 q3 => hm c i (by omega) (by omega) (by omega) (by omega) (by omega)) (fun c i q1 q2 q3 => hm c i (by omega) (by omega) (by omega) (by omega) (by omega)), by omega, fun z => ?_⟩
  obtain ⟨b0, b1, b2, b3, b4, b5⟩ := a3 z
  exact ⟨by omega, by rw [hc _ 2 (by omega) (by omega) (by omega) (by omega) (by omega) (by omega)]; exact b1, by rw [hc _ 0 (by omega) (by omega) (by omega) (by omega) (by omega) (by omega)]; exact b2, by rw [hc _ 2 (by omega) (by omega) (by omega) (by omega) (by omega) (by omega)]; exact b3, by rw [hm 13 x (by omega) (by omega) (by omega) (by omega) (by omega)]; exact b4, by rw [hm 14 x (by omega) (by omega) (by omega) (by omega) (by omega)]; exact b5⟩
/-- Q counts only where the statements are -/
theorem stmQ_congr {t A K W q x : Nat} {Q Q' : rD} {Ic Im : hI} (h : stmQ t A K W q Q x Ic Im) (e : ∀ r, r < 9 → Q' r x = Q r x) : stmQ t A K W q Q' x Ic Im := by
  unfold stmQ at h ⊢
  rw [e 0 (by omega), e 1 (by omega), e 2 (by omega), e 3 (by omega), e 4 (by omega), e 5 (by omega), e 6 (by omega), e 7 (by omega), e 8 (by omega)]
  exact h
theorem bodyOk_congr {Q Q' : rD} : ∀ (f d i j a b : Nat), bodyOk Q f d i j a b → (∀ r x, i ≤ x → x < j → Q' r x = Q r x) → bodyOk Q' f d i j a b := by
  intro f
  induction f with
  | zero => intro d i j a b h _; exact h
  | succ f ih =>
    intro d i j a b h e
    rcases h with h | ⟨i', a', h1, h2, h3, h4, h5, h6, h7, h8⟩
    · exact Or.inl h
    · refine Or.inr ⟨i', a', h1, h2, h3, h4, by rw [e 4 i (by omega) (by omega)]; exact h5, by rw [e 9 i (by omega) (by omega)]; exact h6, ?_, ih _ _ _ _ _ h8 (fun r x q1 q2 => e r x (by omega) q2)⟩
      rw [e 0 i (by omega) (by omega)]
      rcases h7 with h7 | ⟨g1, d', k, m, g2, g3, g4, g5, g6, g7, g8, g9, g10, g11, g12⟩
      · exact Or.inl h7
      · exact Or.inr ⟨g1, d', k, m, g2, g3, g4, g5, g6, by rw [e 5 i (by omega) (by omega)]; exact g7, by rw [e 6 i (by omega) (by omega)]; exact g8, by rw [e 7 i (by omega) (by omega)]; exact g9, by rw [e 8 i (by omega) (by omega)]; exact g10, ih _ _ _ _ _ g11 (fun r x q1 q2 => e r x (by omega) (by omega)), ih _ _ _ _ _ g12 (fun r x q1 q2 => e r x (by omega) (by omega))⟩
theorem bodyOk_f {Q : rD} : ∀ (f f' d i j a b : Nat), f ≤ f' → bodyOk Q f d i j a b → bodyOk Q f' d i j a b := by
  intro f
  induction f with
  | zero => intro f' d i j a b _ h; exact absurd h id
  | succ f ih =>
    intro f' d i j a b hf h
    obtain ⟨f', rfl⟩ : ∃ m, f' = m + 1 := ⟨f' - 1, by omega⟩
    rcases h with h | ⟨i', a', h1, h2, h3, h4, h5, h6, h7, h8⟩
    · exact Or.inl h
    · refine Or.inr ⟨i', a', h1, h2, h3, h4, h5, h6, ?_, ih _ _ _ _ _ _ (by omega) h8⟩
      rcases h7 with h7 | ⟨g1, d', k, m, g2, g3, g4, g5, g6, g7, g8, g9, g10, g11, g12⟩
      · exact Or.inl h7
      · exact Or.inr ⟨g1, d', k, m, g2, g3, g4, g5, g6, g7, g8, g9, g10, ih _ _ _ _ _ _ (by omega) g11, ih _ _ _ _ _ _ (by omega) g12⟩
/-- a body's steps lie behind its begin -/
theorem stp_ge {Q : rD} : ∀ (f d i j a b : Nat), bodyOk Q f d i j a b → ∀ y, i ≤ y → y < j → a ≤ Q 4 y ∧ ((3 ≤ Q 0 y ∧ Q 0 y ≤ 5) → a + 1 ≤ Q 5 y) := by
  intro f
  induction f with
  | zero => intro d i j a b h; exact absurd h id
  | succ f ih =>
    intro d i j a b h y q1 q2
    rcases h with h | ⟨i', a', h1, h2, h3, h4, h5, h6, h7, h8⟩
    · omega
    · by_cases z : i' ≤ y
      · have := ih _ _ _ _ _ h8 y z q2
        refine ⟨by omega, fun w => ?_⟩
        have := this.2 w
        omega
      · rcases h7 with ⟨g1, g2, g3⟩ | ⟨g1, d', k, m, g2, g3, g4, g5, g6, g7, g8, g9, g10, g11, g12⟩
        · have e : y = i := by omega
          subst e
          exact ⟨by omega, fun w => by omega⟩
        · by_cases z1 : y = i
          · subst z1
            exact ⟨by omega, fun w => by omega⟩
          · by_cases z2 : y < k
            · have := ih _ _ _ _ _ g11 y (by omega) z2
              refine ⟨by omega, fun w => ?_⟩
              have := this.2 w
              omega
            · have := ih _ _ _ _ _ g12 y (by omega) (by omega)
              refine ⟨by omega, fun w => ?_⟩
              have := this.2 w
              omega
/-- statements i to i' are one with its bodies -/
def stmOk (Q : rD) (f d i i' a a' : Nat) : Prop := i < i' ∧ a < a' ∧ Q 4 i = a ∧ ((Q 0 i ≤ 2 ∨ Q 0 i = 6) ∧ i' = i + 1 ∧ a' = a + 1 ∨ (3 ≤ Q 0 i ∧ Q 0 i ≤ 5) ∧ ∃ d' k m, d = d' + 1 ∧ i + 1 ≤ k ∧ k ≤ i' ∧ a + 1 ≤ m ∧ m + 1 ≤ a' ∧ Q 5 i = m + 1 ∧ Q 6 i = a' ∧ Q 7 i = ptN (i + 1) k ∧ Q 8 i = ptN k i' ∧ bodyOk Q f d' (i + 1) k (a + 1) m ∧ bodyOk Q f d' k i' (m + 1) a')
/-- a body, a statement that both sides hold -/
def bodyR (t d s s' a a' A K W q : Nat) (Ic Im : hI) : Prop := ∃ (Q : rD) (f : Nat), bodyOk Q f d s s' a a' ∧ ∀ y, s ≤ y → y < s' → stmQ t A K W q Q y Ic Im ∧ Im 15 y = ptI 0 (Q 9 y)
def stmR (t d s s' a a' A K W q : Nat) (Ic Im : hI) : Prop := ∃ (Q : rD) (f : Nat), stmOk Q f d s s' a a' ∧ (∀ y, s ≤ y → y < s' → stmQ t A K W q Q y Ic Im) ∧ (∀ y, s < y → y < s' → Im 15 y = ptI 0 (Q 9 y))
theorem body_nil (t d s a A K W q : Nat) (Ic Im : hI) : bodyR t d s s a a A K W q Ic Im := ⟨fun _ _ => 0, 1, Or.inl ⟨rfl, rfl⟩, fun y q1 q2 => by omega⟩
theorem bodyR_of {t d s s' a a' A K W q A' K' W' q' X : Nat} {Ic Im Ic' Im' : hI} (h : bodyR t d s s' a a' A K W q Ic Im) (hc : FC t A K W Ic Ic') (hm : FM X K q Im Im') (hx : s' ≤ X) (hX : X ≤ 24) (hK : K ≤ K') (hW : W ≤ W') (hq : q ≤ q') (hA : A ≤ A') (ht : 61 ≤ t) (hA48 : A ≤ 48) : bodyR t d s s' a a' A' K' W' q' Ic' Im' := by
  obtain ⟨Q, f, h1, h2⟩ := h
  refine ⟨Q, f, h1, fun y q1 q2 => ⟨stmQ_of (h2 y q1 q2).1 hc (FMy_of hm) (by omega) hX hK hW hq hA ht hA48, ?_⟩⟩
  rw [hm 15 y (by omega) (by omega) (by omega) (by omega)]
  exact (h2 y q1 q2).2
theorem stmR_of {t d s s' a a' A K W q A' K' W' q' X : Nat} {Ic Im Ic' Im' : hI} (h : stmR t d s s' a a' A K W q Ic Im) (hc : FC t A K W Ic Ic') (hm : FMy X K q Im Im') (h15 : ∀ y, s < y → y < s' → Im' 15 y = Im 15 y) (hx : s' ≤ X) (hX : X ≤ 24) (hK : K ≤ K') (hW : W ≤ W') (hq : q ≤ q') (hA : A ≤ A') (ht : 61 ≤ t) (hA48 : A ≤ 48) : stmR t d s s' a a' A' K' W' q' Ic' Im' := by
  obtain ⟨Q, f, h1, h2, h3⟩ := h
  refine ⟨Q, f, h1, fun y q1 q2 => stmQ_of (h2 y q1 q2) hc hm (by omega) hX hK hW hq hA ht hA48, fun y q1 q2 => ?_⟩
  rw [h15 y q1 q2]
  exact h3 y q1 q2
/-- a statement ahead of a body -/
theorem body_cons {t d s s1 s' a a1 a' A K W q : Nat} {Ic Im : hI} (h1 : stmR t d s s1 a a1 A K W q Ic Im) (h2 : bodyR t d s1 s' a1 a' A K W q Ic Im) (hs : s1 ≤ s') (ha : a1 ≤ a') (h15 : Im 15 s = ptI 0 (ptN s1 s')) : bodyR t d s s' a a' A K W q Ic Im := by
  obtain ⟨Q1, f1, ⟨b1, b2, b3, b4⟩, c1, c2⟩ := h1
  obtain ⟨Q2, f2, d1, d2⟩ := h2
  obtain ⟨Q, hQ⟩ : ∃ Q : rD, Q = fun r x => if x < s1 then (if x = s ∧ r = 9 then ptN s1 s' else Q1 r x) else Q2 r x := ⟨_, rfl⟩
  have eQ1 : ∀ r x, x < s1 → (x ≠ s ∨ r ≠ 9) → Q r x = Q1 r x := fun r x q1 q2 => by
    rw [hQ]
    show (if x < s1 then (if x = s ∧ r = 9 then ptN s1 s' else Q1 r x) else Q2 r x) = _
    rw [if_pos q1, if_neg (by omega)]
  have eQ9 : Q 9 s = ptN s1 s' := by
    rw [hQ]
    show (if s < s1 then (if s = s ∧ 9 = 9 then ptN s1 s' else Q1 9 s) else Q2 9 s) = _
    rw [if_pos b1, if_pos ⟨rfl, rfl⟩]
  have eQ2 : ∀ r x, s1 ≤ x → Q r x = Q2 r x := fun r x q1 => by
    rw [hQ]
    show (if x < s1 then (if x = s ∧ r = 9 then ptN s1 s' else Q1 r x) else Q2 r x) = _
    rw [if_neg (by omega)]
  refine ⟨Q, f1 + f2 + 1, Or.inr ⟨s1, a1, b1, hs, b2, ha, by rw [eQ1 4 s b1 (by omega)]; exact b3, eQ9, ?_, bodyOk_f f2 _ _ _ _ _ _ (by omega) (bodyOk_congr _ _ _ _ _ _ d1 (fun r x q1 _ => eQ2 r x q1))⟩, fun y q1 q2 => ?_⟩
  · rw [eQ1 0 s b1 (by omega)]
    rcases b4 with b4 | ⟨g1, d', k, m, g2, g3, g4, g5, g6, g7, g8, g9, g10, g11, g12⟩
    · exact Or.inl b4
    · exact Or.inr ⟨g1, d', k, m, g2, g3, g4, g5, g6, by rw [eQ1 5 s b1 (by omega)]; exact g7, by rw [eQ1 6 s b1 (by omega)]; exact g8, by rw [eQ1 7 s b1 (by omega)]; exact g9, by rw [eQ1 8 s b1 (by omega)]; exact g10, bodyOk_f f1 _ _ _ _ _ _ (by omega) (bodyOk_congr _ _ _ _ _ _ g11 (fun r x q1 q2 => eQ1 r x (by omega) (by omega))), bodyOk_f f1 _ _ _ _ _ _ (by omega) (bodyOk_congr _ _ _ _ _ _ g12 (fun r x q1 q2 => eQ1 r x (by omega) (by omega)))⟩
  · by_cases z : y < s1
    · refine ⟨stmQ_congr (c1 y q1 z) (fun r hr => eQ1 r y z (by omega)), ?_⟩
      by_cases z2 : y = s
      · subst z2; rw [eQ9]; exact h15
      · rw [eQ1 9 y z (by omega)]; exact c2 y (by omega) z
    · refine ⟨stmQ_congr (d2 y (by omega) q2).1 (fun r hr => eQ2 r y (by omega)), ?_⟩
      rw [eQ2 9 y (by omega)]; exact (d2 y (by omega) q2).2
/-- a simple statement -/
theorem stm_simple {t d s a A K W q kd wh : Nat} {Ic Im : hI} (h : hdQ t K W q a kd wh 0 0 s Ic Im) (hk : kd ≤ 2 ∨ kd = 6) (ha : a < A) : stmR t d s (s + 1) a (a + 1) A K W q Ic Im := by
  refine ⟨fun r _ => if r = 0 then kd else if r = 1 then wh else if r = 4 then a else 0, 1, ⟨by omega, by omega, rfl, Or.inl ⟨hk, rfl, rfl⟩⟩, fun y q1 q2 => ?_, fun y q1 q2 => by omega⟩
  have e : y = s := by omega
  subst e
  exact ⟨h, ha, fun z => by
    have z : 3 ≤ kd ∧ kd ≤ 5 := z
    omega⟩
/-- a statement with two bodies -/
theorem stm_fork {t d s k s' a m a' A K W q kd wh c2 c3 : Nat} {Ic Im : hI} (h : hdQ t K W q a kd wh c2 c3 s Ic Im) (hk : 3 ≤ kd ∧ kd ≤ 5) (ha : a' ≤ A) (h1 : bodyR t d (s + 1) k (a + 1) m A K W q Ic Im) (h2 : bodyR t d k s' (m + 1) a' A K W q Ic Im) (b1 : s + 1 ≤ k) (b2 : k ≤ s') (b3 : a + 1 ≤ m) (b4 : m + 1 ≤ a') (g1 : Ic (t + 9 + a) 2 = nI (m + 1)) (g2 : Ic (t + 9 + m) 0 = nI 300) (g3 : Ic (t + 9 + m) 2 = nI a') (g4 : Im 13 s = ptI 0 (ptN (s + 1) k)) (g5 : Im 14 s = ptI 0 (ptN k s')) : stmR t (d + 1) s s' a a' A K W q Ic Im := by
  obtain ⟨Q1, f1, c1, c2'⟩ := h1
  obtain ⟨Q2, f2, d1, d2⟩ := h2
  obtain ⟨Q0, hQ0⟩ : ∃ Q : Nat → Nat, Q = fun r => if r = 0 then kd else if r = 1 then wh else if r = 2 then c2 else if r = 3 then c3 else if r = 4 then a else if r = 5 then m + 1 else if r = 6 then a' else if r = 7 then ptN (s + 1) k else ptN k s' := ⟨_, rfl⟩
  obtain ⟨Q, hQ⟩ : ∃ Q : rD, Q = fun r x => if x = s then Q0 r else if x < k then Q1 r x else Q2 r x := ⟨_, rfl⟩
  have e0 : ∀ r, Q r s = Q0 r := fun r => by
    rw [hQ]
    show (if s = s then Q0 r else if s < k then Q1 r s else Q2 r s) = _
    rw [if_pos rfl]
  have e1 : ∀ r x, s < x → x < k → Q r x = Q1 r x := fun r x q1 q2 => by
    rw [hQ]
    show (if x = s then Q0 r else if x < k then Q1 r x else Q2 r x) = _
    rw [if_neg (by omega), if_pos q2]
  have e2 : ∀ r x, k ≤ x → Q r x = Q2 r x := fun r x q1 => by
    rw [hQ]
    show (if x = s then Q0 r else if x < k then Q1 r x else Q2 r x) = _
    rw [if_neg (by omega), if_neg (by omega)]
  have v0 : Q 0 s = kd := by rw [e0, hQ0]; rfl
  have v1 : Q 1 s = wh := by rw [e0, hQ0]; rfl
  have v2 : Q 2 s = c2 := by rw [e0, hQ0]; rfl
  have v3 : Q 3 s = c3 := by rw [e0, hQ0]; rfl
  have v4 : Q 4 s = a := by rw [e0, hQ0]; rfl
  have v5 : Q 5 s = m + 1 := by rw [e0, hQ0]; rfl
  have v6 : Q 6 s = a' := by rw [e0, hQ0]; rfl
  have v7 : Q 7 s = ptN (s + 1) k := by rw [e0, hQ0]; rfl
  have v8 : Q 8 s = ptN k s' := by rw [e0, hQ0]; rfl
  refine ⟨Q, f1 + f2, ⟨by omega, by omega, v4, Or.inr ⟨by rw [v0]; exact hk, d, k, m, rfl, b1, b2, b3, b4, v5, v6, v7, v8, bodyOk_f f1 _ _ _ _ _ _ (by omega) (bodyOk_congr _ _ _ _ _ _ c1 (fun r x q1 q2 => e1 r x (by omega) q2)), bodyOk_f f2 _ _ _ _ _ _ (by omega) (bodyOk_congr _ _ _ _ _ _ d1 (fun r x q1 _ => e2 r x q1))⟩⟩, fun y q1 q2 => ?_, fun y q1 q2 => ?_⟩
  · by_cases z : y = s
    · subst z
      unfold stmQ
      rw [v0, v1, v2, v3, v4, v5, v6, v7, v8, Nat.add_sub_cancel]
      exact ⟨h, by omega, fun _ => ⟨by omega, g1, g2, g3, g4, g5⟩⟩
    · by_cases z2 : y < k
      · exact stmQ_congr (c2' y (by omega) z2).1 (fun r _ => e1 r y (by omega) z2)
      · exact stmQ_congr (d2 y (by omega) q2).1 (fun r _ => e2 r y (by omega))
  · by_cases z2 : y < k
    · rw [e1 9 y (by omega) z2]; exact (c2' y (by omega) z2).2
    · rw [e2 9 y (by omega)]; exact (d2 y (by omega) q2).2
