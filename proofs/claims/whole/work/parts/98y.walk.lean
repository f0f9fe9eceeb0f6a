/-! A round walked: the class's steps in a row, the reference's statements in a tree. -/
/-- a pointer to a statement: 0: none -/
def ptI (o q : Nat) : Int32 := if q = 0 then (-1 : Int32) else nI (o + (q - 1))
def ptN (i j : Nat) : Nat := if i = j then 0 else i + 1
/-- the class's kind of a step by the statement's kind -/
def kcN (k : Nat) : Nat := if k = 0 then 258 else if k = 1 then 259 else if k = 2 then 261 else if k = 3 then 262 else if k = 4 then 263 else if k = 5 then 264 else 265
/-- statements: Q: 0 kind, 1 which pay or pick, 2, 3 its condition, 4 its step's place, 5 where its second body begins, 6 where it ends (steps), 7 first, 8 second, 9 next (pointers); P: 0, 1, 2 its sum by x, by y, plain; E: comparisons; pr: prices -/
def pcQ (t n : Nat) (Q : rD) (P E : cE) (pr : Nat → Int) (I : hI) : Prop := (∀ s, s < n → Q 0 s = 2 → I (t + 8) (Q 1 s) = iI (pr (Q 1 s))) ∧ ∀ s, s < n → I (t + 9 + Q 4 s) 0 = nI (kcN (Q 0 s)) ∧ (Q 0 s ≤ 1 → I (t + 9 + Q 4 s) 3 = iI (P 0 s) ∧ I (t + 9 + Q 4 s) 4 = iI (P 1 s) ∧ I (t + 9 + Q 4 s) 5 = iI (P 2 s)) ∧ ((Q 0 s = 2 ∨ Q 0 s = 4) → I (t + 9 + Q 4 s) 1 = nI (Q 1 s)) ∧ (Q 0 s = 5 → I (t + 9 + Q 4 s) 6 = nI (Q 2 s) ∧ I (t + 9 + Q 4 s) 7 = nI (Q 3 s) ∧ ccQ (t + 1) E (Q 2 s) (Q 3 s) I) ∧ ((3 ≤ Q 0 s ∧ Q 0 s ≤ 5) → I (t + 9 + Q 4 s) 2 = nI (Q 5 s) ∧ I (t + 9 + (Q 5 s - 1)) 0 = nI 300 ∧ I (t + 9 + (Q 5 s - 1)) 2 = nI (Q 6 s))
def pmS (o q n : Nat) (Q : rD) (P E : cE) (pr : Nat → Int) (I : hI) : Prop := ∀ s, s < n → I 9 (o + s) = nI (Q 0 s) ∧ (Q 0 s ≤ 1 → ∃ l u, q + l < 1000 ∧ I 10 (o + s) = nI (q + l) ∧ smQ (q + l) u I ∧ u 0 = P 2 s ∧ u 1 = P 0 s ∧ u 2 = P 1 s) ∧ (Q 0 s = 2 → I 10 (o + s) = iI (pr (Q 1 s))) ∧ (Q 0 s = 4 → I 10 (o + s) = nI (Q 1 s)) ∧ (Q 0 s = 5 → I 11 (o + s) = nI (q + Q 2 s) ∧ I 12 (o + s) = nI (q + Q 3 s) ∧ cmQ q E (Q 2 s) (Q 3 s) I) ∧ ((3 ≤ Q 0 s ∧ Q 0 s ≤ 5) → I 13 (o + s) = ptI o (Q 7 s) ∧ I 14 (o + s) = ptI o (Q 8 s)) ∧ I 15 (o + s) = ptI o (Q 9 s)
def pbQ (n : Nat) (Q : rD) (P E : cE) (pr : Nat → Int) : Prop := n ≤ 24 ∧ (∀ s, s < n → Q 0 s = 2 → 0 ≤ pr (Q 1 s) ∧ pr (Q 1 s) ≤ 20) ∧ ∀ s, s < n → Q 0 s ≤ 6 ∧ (Q 0 s = 2 → Q 1 s < 24) ∧ (Q 0 s = 4 → Q 1 s < 3) ∧ ((- 50000 ≤ P 0 s ∧ P 0 s ≤ 50000) ∧ (- 50000 ≤ P 1 s ∧ P 1 s ≤ 50000) ∧ (- 50000 ≤ P 2 s ∧ P 2 s ≤ 50000)) ∧ (Q 0 s = 5 → Q 2 s < Q 3 s ∧ Q 3 s ≤ 166 ∧ cbQ E (Q 2 s) (Q 3 s) ∧ opB E (Q 2 s) = true)
/-- statements i to j are a body, told by the steps a to b -/
def bodyOk (Q : rD) : Nat → Nat → Nat → Nat → Nat → Nat → Prop
  | 0, _, _, _, _, _ => False
  | f + 1, d, i, j, a, b => (i = j ∧ a = b) ∨ ∃ i' a', i < i' ∧ i' ≤ j ∧ a < a' ∧ a' ≤ b ∧ Q 4 i = a ∧ Q 9 i = ptN i' j ∧ ((Q 0 i ≤ 2 ∨ Q 0 i = 6) ∧ i' = i + 1 ∧ a' = a + 1 ∨ (3 ≤ Q 0 i ∧ Q 0 i ≤ 5) ∧ ∃ d' k m, d = d' + 1 ∧ i + 1 ≤ k ∧ k ≤ i' ∧ a + 1 ≤ m ∧ m + 1 ≤ a' ∧ Q 5 i = m + 1 ∧ Q 6 i = a' ∧ Q 7 i = ptN (i + 1) k ∧ Q 8 i = ptN k i' ∧ bodyOk Q f d' (i + 1) k (a + 1) m ∧ bodyOk Q f d' k i' (m + 1) a') ∧ bodyOk Q f d i' j a' b
/-- the walkers stand alike -/
def wkQ (w h : Nat) (c : Int32) (x y p : Nat) (o : Bool) (Ic Im : hI) : Prop := x < w ∧ y < h ∧ (Ic 6 0 = nI x ∧ Im 0 53 = nI x) ∧ (Ic 6 1 = nI y ∧ Im 0 54 = nI y) ∧ (Ic 6 2 = c + nI p ∧ Im 0 55 = nI p) ∧ Ic 6 3 = Im 0 56 ∧ (Ic 6 4 = bI o ∧ Im 0 60 = bI o) ∧ Ic 6 5 = Im 0 61 ∧ ((Im 0 61 = nI 0 ∧ Ic 6 6 = Im 0 57) ∨ (Im 0 61 = nI 1 ∧ Ic 6 6 = Im 0 59))
def offW (Ic Ic' Im Im' : hI) : Prop := (∀ a i, a ≠ 6 → Ic' a i = Ic a i) ∧ ∀ a i, (a ≠ 0 ∨ i < 53 ∨ 61 < i ∨ i = 57 ∨ i = 58 ∨ i = 61) → Im' a i = Im a i
theorem offW_id (Ic Im : hI) : offW Ic Ic Im Im := ⟨fun _ _ _ => rfl, fun _ _ _ => rfl⟩
theorem offW_tr {Ic Ic' Ic'' Im Im' Im'' : hI} (h1 : offW Ic Ic' Im Im') (h2 : offW Ic' Ic'' Im' Im'') : offW Ic Ic'' Im Im'' := ⟨fun a i h => by rw [h2.1 a i h, h1.1 a i h], fun a i h => by rw [h2.2 a i h, h1.2 a i h]⟩
theorem ccQ_of {t a b : Nat} {E : cE} {I I' : hI} (h : ccQ t E a b I) (h1 : ∀ c i, t + 1 ≤ c → c ≤ t + 5 → I' c i = I c i) : ccQ t E a b I' := fun k q1 q2 => by
  obtain ⟨e0, e1, e2, e3, e4⟩ := h k q1 q2
  exact ⟨by rw [h1 _ _ (by omega) (by omega)]; exact e0, by rw [h1 _ _ (by omega) (by omega)]; exact e1, by rw [h1 _ _ (by omega) (by omega)]; exact e2, by rw [h1 _ _ (by omega) (by omega)]; exact e3, by rw [h1 _ _ (by omega) (by omega)]; exact e4⟩
theorem smQ_of {l : Nat} {u : Nat → Int} {I I' : hI} (h : smQ l u I) (h1 : ∀ c, 2 ≤ c → c ≤ 4 → I' c l = I c l) : smQ l u I' := by
  obtain ⟨a, b, c, d⟩ := h
  exact ⟨by rw [h1 _ (by omega) (by omega)]; exact a, by rw [h1 _ (by omega) (by omega)]; exact b, by rw [h1 _ (by omega) (by omega)]; exact c, d⟩
theorem cmQ_of {o a b : Nat} {E : cE} {I I' : hI} (h : cmQ o E a b I) (h1 : ∀ c i, 2 ≤ c → c ≤ 8 → I' c i = I c i) : cmQ o E a b I' := fun k q1 q2 => by
  obtain ⟨l, r, u, v, hl, hr, e5, e6, su, sv, d0, d1, d2, e7, e8⟩ := h k q1 q2
  exact ⟨l, r, u, v, hl, hr, by rw [h1 _ _ (by omega) (by omega)]; exact e5, by rw [h1 _ _ (by omega) (by omega)]; exact e6, smQ_of su (fun c q1 q2 => h1 c l (by omega) (by omega)), smQ_of sv (fun c q1 q2 => h1 c r (by omega) (by omega)), d0, d1, d2, by rw [h1 _ _ (by omega) (by omega)]; exact e7, by rw [h1 _ _ (by omega) (by omega)]; exact e8⟩
theorem pcQ_of {t n : Nat} {Q : rD} {P E : cE} {pr : Nat → Int} {I I' : hI} (h : pcQ t n Q P E pr I) (h1 : ∀ c i, t ≤ c → I' c i = I c i) : pcQ t n Q P E pr I' := by
  refine ⟨fun s hs q => by rw [h1 _ _ (by omega)]; exact h.1 s hs q, fun s hs => ?_⟩
  obtain ⟨e0, e1, e2, e3, e4⟩ := h.2 s hs
  refine ⟨by rw [h1 _ _ (by omega)]; exact e0, fun q => ?_, fun q => by rw [h1 _ _ (by omega)]; exact e2 q, fun q => ?_, fun q => ?_⟩
  · rw [h1 _ _ (by omega), h1 _ _ (by omega), h1 _ _ (by omega)]; exact e1 q
  · obtain ⟨f1, f2, f3⟩ := e3 q
    exact ⟨by rw [h1 _ _ (by omega)]; exact f1, by rw [h1 _ _ (by omega)]; exact f2, ccQ_of f3 (fun c i q1 q2 => h1 c i (by omega))⟩
  · rw [h1 _ _ (by omega), h1 _ _ (by omega), h1 _ _ (by omega)]; exact e4 q
theorem pmS_of {o q n : Nat} {Q : rD} {P E : cE} {pr : Nat → Int} {I I' : hI} (h : pmS o q n Q P E pr I) (h1 : ∀ c i, 2 ≤ c → c ≤ 15 → I' c i = I c i) : pmS o q n Q P E pr I' := fun s hs => by
  obtain ⟨e0, e1, e2, e3, e4, e5, e6⟩ := h s hs
  refine ⟨by rw [h1 _ _ (by omega) (by omega)]; exact e0, fun q => ?_, fun q => by rw [h1 _ _ (by omega) (by omega)]; exact e2 q, fun q => by rw [h1 _ _ (by omega) (by omega)]; exact e3 q, fun q => ?_, fun q => ?_, by rw [h1 _ _ (by omega) (by omega)]; exact e6⟩
  · obtain ⟨l, u, f1, f2, f3, f4⟩ := e1 q
    exact ⟨l, u, f1, by rw [h1 _ _ (by omega) (by omega)]; exact f2, smQ_of f3 (fun c q1 q2 => h1 c _ (by omega) (by omega)), f4⟩
  · obtain ⟨f1, f2, f3⟩ := e4 q
    exact ⟨by rw [h1 _ _ (by omega) (by omega)]; exact f1, by rw [h1 _ _ (by omega) (by omega)]; exact f2, cmQ_of f3 (fun c i q1 q2 => h1 c i (by omega) (by omega))⟩
  · rw [h1 _ _ (by omega) (by omega), h1 _ _ (by omega) (by omega)]; exact e5 q
/-- what stands while a round is walked -/
def enQ (t w h sz n : Nat) (v : Int32) (Q : rD) (P E : cE) (pr : Nat → Int) (Ic Im : hI) : Prop := 7 ≤ t ∧ sz ≤ 48 ∧ (1 ≤ w ∧ w ≤ 10) ∧ (1 ≤ h ∧ h ≤ 10) ∧ pbQ n Q P E pr ∧ pcQ t n Q P E pr Ic ∧ pmS 24 500 n Q P E pr Im ∧ Ic t 3 = nI sz ∧ Ic t 4 = nI (w - 1) ∧ Ic t 5 = nI (h - 1) ∧ Im 0 39 = nI w ∧ Im 0 40 = nI h ∧ Im 0 58 = v
theorem enQ_of {t w h sz n : Nat} {v : Int32} {Q : rD} {P E : cE} {pr : Nat → Int} {Ic Ic' Im Im' : hI} (H : enQ t w h sz n v Q P E pr Ic Im) (o : offW Ic Ic' Im Im') : enQ t w h sz n v Q P E pr Ic' Im' := by
  obtain ⟨a1, a2, a3, a4, a5, a6, a7, a8, a9, a10, a11, a12, a13⟩ := H
  exact ⟨a1, a2, a3, a4, a5, pcQ_of a6 (fun c i q => o.1 c i (by omega)), pmS_of a7 (fun c i q1 q2 => o.2 c i (by omega)), by rw [o.1 _ _ (by omega)]; exact a8, by rw [o.1 _ _ (by omega)]; exact a9, by rw [o.1 _ _ (by omega)]; exact a10, by rw [o.2 _ _ (by omega)]; exact a11, by rw [o.2 _ _ (by omega)]; exact a12, by rw [o.2 _ _ (by omega)]; exact a13⟩
/-- a number held between 0 and a most -/
def hdN (v : Int) (m : Nat) : Nat := (max 0 (min v m)).toNat
theorem hdN_le (v : Int) (m : Nat) : hdN v m ≤ m := by unfold hdN; omega
theorem m_held {v : Int} {m : Nat} (h1 : - 2 ^ 31 ≤ v) (h2 : v < 2 ^ 31) (hm : m < 2 ^ 31) : mM_held (iI v) (nI m) = nI (hdN v m) := by
  have nm : nI m = iI (m : Int) := rfl
  have c1 := iI_lt (a := v) (b := (m : Int)) h1 h2 (by omega) (by omega)
  have e0 : (0 : Int32) = iI 0 := rfl
  have c2 := iI_lt (a := 0) (b := v) (by omega) (by omega) h1 h2
  have c3 := iI_lt (a := 0) (b := (m : Int)) (by omega) (by omega) (by omega) (by omega)
  unfold mM_held hdN
  rw [nm, e0, nI_iI]
  by_cases q : v < m
  · rw [if_pos (c1.mpr q)]
    by_cases q2 : 0 < v
    · rw [if_pos (c2.mpr q2)]
      congr 1
      omega
    · rw [if_neg (fun z => q2 (c2.mp z))]
      congr 1
      omega
  · rw [if_neg (fun z => q (c1.mp z))]
    by_cases q2 : 0 < (m : Int)
    · rw [if_pos (c3.mpr q2)]
      congr 1
      omega
    · rw [if_neg (fun z => q2 (c3.mp z))]
      congr 1
      omega
theorem wk_held {s : Nat} {I : hI} {x y m : Nat} {X Y Z : Int} (h3 : I s 3 = iI X) (h4 : I s 4 = iI Y) (h5 : I s 5 = iI Z) (hx : I 6 0 = nI x) (hy : I 6 1 = nI y) : mWk_held s (nI m) I = mM_held (iI (X * x + Y * y + Z)) (nI m) := by
  have nx : nI x = iI (x : Int) := rfl
  have ny : nI y = iI (y : Int) := rfl
  unfold mWk_held mM_held
  rw [h3, h4, h5, hx, hy, nx, ny, iI_mul, iI_mul, iI_add, iI_add]
theorem sum_bd {X Y Z : Int} {x y : Nat} (hx : x ≤ 9) (hy : y ≤ 9) (hX : - 50000 ≤ X ∧ X ≤ 50000) (hY : - 50000 ≤ Y ∧ Y ≤ 50000) (hZ : - 50000 ≤ Z ∧ Z ≤ 50000) : - 2 ^ 31 ≤ X * x + Y * y + Z ∧ X * x + Y * y + Z < 2 ^ 31 := by
  have m0 := mb hX (show - 9 ≤ (x : Int) ∧ (x : Int) ≤ 9 by omega)
  have m1 := mb hY (show - 9 ≤ (y : Int) ∧ (y : Int) ≤ 9 by omega)
  omega
/-- a coin: both throw the same -/
theorem coin_both {w h x y p : Nat} {c : Int32} {Ic Im : hI} (H : wkQ w h c x y p false Ic Im) : ∃ (b : Bool) (Ic' Im' : hI), mWk_throwsHeads Ic = (bI b, Ic') ∧ mM_isHeads Im = (bI b, Im') ∧ offW Ic Ic' Im Im' ∧ wkQ w h c x y p false Ic' Im' := by
  obtain ⟨a1, a2, a3, a4, a5, a6, a7, a8, a9⟩ := H
  have offc : ∀ (J : hI) (k : Nat) (v : Int32) a i, a ≠ 6 → h_u J 6 k v a i = J a i := fun J k v a i h => h_u_off2 _ _ _ _ h
  have offm : ∀ (J : hI) (k : Nat) (v : Int32), (k = 56 ∨ k = 59) → ∀ a i, (a ≠ 0 ∨ i < 53 ∨ 61 < i ∨ i = 57 ∨ i = 58 ∨ i = 61) → h_u J 0 k v a i = J a i := fun J k v hk a i h => by
    by_cases e : a = 0
    · subst e; exact h_u_pl _ _ _ (by omega)
    · exact h_u_off2 _ _ _ _ e
  obtain ⟨g, hg⟩ : ∃ g : Int32 → Int32, ∀ z : Int32, z * 1103515245 + 12345 = g z := ⟨fun z => z * 1103515245 + 12345, fun _ => rfl⟩
  obtain ⟨bt, hbt⟩ : ∃ bt : Int32 → Int32 → Int32, ∀ z k : Int32, (z >>> (k &&& 31)) &&& 1 = bt z k := ⟨fun z k => (z >>> (k &&& 31)) &&& 1, fun _ _ => rfl⟩
  unfold mWk_throwsHeads mM_isHeads
  simp only [hl_eq, hg, hbt]
  have sub1 : Im 0 56 + 1 - 1 = Im 0 56 := Int32.add_sub_cancel _ _
  rcases a9 with ⟨d1, d2⟩ | ⟨d1, d2⟩
  · have c5 : h_u Ic 6 3 (Ic 6 3 + 1) 6 5 = (0 : Int32) := by rw [h_u_pl _ _ _ (by decide), a8, d1]; rfl
    have c6 : h_u Ic 6 3 (Ic 6 3 + 1) 6 6 = Im 0 57 := by rw [h_u_pl _ _ _ (by decide), d2]
    have m1 : h_u Im 0 56 (Im 0 56 + 1) 0 61 = (0 : Int32) := by rw [h_u_pl _ _ _ (by decide), d1]; rfl
    have m2 : h_u Im 0 56 (Im 0 56 + 1) 0 57 = Im 0 57 := by rw [h_u_pl _ _ _ (by decide)]
    have m3 : h_u Im 0 56 (Im 0 56 + 1) 0 56 = Im 0 56 + 1 := by rw [h_u_at]
    rw [if_pos c5, if_pos m1, c6, m2, m3, sub1, a6]
    have fin : wkQ w h c x y p false (h_u Ic 6 3 (Im 0 56 + 1)) (h_u Im 0 56 (Im 0 56 + 1)) := by
      refine ⟨a1, a2, ?_, ?_, ?_, ?_, ?_, ?_, Or.inl ⟨?_, ?_⟩⟩ <;> simp (disch := omega) only [h_u_at, h_u_pl] <;> assumption
    by_cases q : bt (Im 0 57) (Im 0 56) = (0 : Int32)
    · rw [if_pos q, if_pos q]
      exact ⟨true, _, _, rfl, rfl, ⟨offc Ic 3 _, offm Im 56 _ (by omega)⟩, fin⟩
    · rw [if_neg q, if_neg q]
      exact ⟨false, _, _, rfl, rfl, ⟨offc Ic 3 _, offm Im 56 _ (by omega)⟩, fin⟩
  · have c5 : ¬ h_u Ic 6 3 (Ic 6 3 + 1) 6 5 = (0 : Int32) := by rw [h_u_pl _ _ _ (by decide), a8, d1]; decide
    have c6 : h_u Ic 6 3 (Ic 6 3 + 1) 6 6 = Im 0 59 := by rw [h_u_pl _ _ _ (by decide), d2]
    have m1 : ¬ h_u Im 0 56 (Im 0 56 + 1) 0 61 = (0 : Int32) := by rw [h_u_pl _ _ _ (by decide), d1]; decide
    have m2 : h_u Im 0 56 (Im 0 56 + 1) 0 59 = Im 0 59 := by rw [h_u_pl _ _ _ (by decide)]
    rw [if_neg c5, if_neg m1, c6, m2, h_u_at, h_u_at, a6]
    have fin : wkQ w h c x y p false (h_u (h_u Ic 6 3 (Im 0 56 + 1)) 6 6 (g (Im 0 59))) (h_u (h_u Im 0 56 (Im 0 56 + 1)) 0 59 (g (Im 0 59))) := by
      refine ⟨a1, a2, ?_, ?_, ?_, ?_, ?_, ?_, Or.inr ⟨?_, ?_⟩⟩ <;> simp (disch := omega) only [h_u_at, h_u_pl] <;> assumption
    have o : offW Ic (h_u (h_u Ic 6 3 (Im 0 56 + 1)) 6 6 (g (Im 0 59))) Im (h_u (h_u Im 0 56 (Im 0 56 + 1)) 0 59 (g (Im 0 59))) := ⟨fun a i h => by rw [offc _ _ _ a i h, offc _ _ _ a i h], fun a i h => by rw [offm _ 59 _ (by omega) a i h, offm _ 56 _ (by omega) a i h]⟩
    by_cases q : bt (g (Im 0 59)) 16 = (0 : Int32)
    · rw [if_pos q, if_pos q]
      exact ⟨true, _, _, rfl, rfl, o, fin⟩
    · rw [if_neg q, if_neg q]
      exact ⟨false, _, _, rfl, rfl, o, fin⟩
