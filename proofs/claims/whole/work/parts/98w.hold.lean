/-! Conditions: both sides hold alike. -/
theorem iI_add (a b : Int) : iI a + iI b = iI (a + b) := (Int32.ofInt_add a b).symm
theorem iI_le {a b : Int} (h1 : - 2 ^ 31 ≤ a) (h2 : a < 2 ^ 31) (h3 : - 2 ^ 31 ≤ b) (h4 : b < 2 ^ 31) : iI a ≤ iI b ↔ a ≤ b := by rw [Int32.le_iff_toInt_le, iI_toInt h1 h2, iI_toInt h3 h4]
theorem iI_lt {a b : Int} (h1 : - 2 ^ 31 ≤ a) (h2 : a < 2 ^ 31) (h3 : - 2 ^ 31 ≤ b) (h4 : b < 2 ^ 31) : iI a < iI b ↔ a < b := by rw [Int32.lt_iff_toInt_lt, iI_toInt h1 h2, iI_toInt h3 h4]
theorem iI_eq {a b : Int} (h1 : - 2 ^ 31 ≤ a) (h2 : a < 2 ^ 31) (h3 : - 2 ^ 31 ≤ b) (h4 : b < 2 ^ 31) : iI a = iI b ↔ a = b := by
  constructor
  · intro h
    have := congrArg Int32.toInt h
    rw [iI_toInt h1 h2, iI_toInt h3 h4] at this
    exact this
  · intro h; rw [h]
theorem iI_0 : (0 : Int32) = iI 0 := rfl
/-- comparisons: 0, 1, 2: left less right by x, by y, plain; 3: the relation; 4: 1 where an ALL begins -/
abbrev cE : Type := Nat → Nat → Int
def cpD (E : cE) (x y k : Nat) : Int := E 0 k * x + E 1 k * y + E 2 k
def cpB (E : cE) (x y k : Nat) : Bool := if E 3 k = 60 then decide (cpD E x y k < 0) else if E 3 k = 61 then decide (cpD E x y k = 0) else decide (0 < cpD E x y k)
def opB (E : cE) (k : Nat) : Bool := decide (E 4 k = 1)
/-- bounds of the numbers -/
def cbQ (E : cE) (a b : Nat) : Prop := ∀ k, a ≤ k → k < b → (- 100000 ≤ E 0 k ∧ E 0 k ≤ 100000) ∧ (- 100000 ≤ E 1 k ∧ E 1 k ≤ 100000) ∧ (- 100000 ≤ E 2 k ∧ E 2 k ≤ 100000) ∧ (E 3 k = 60 ∨ E 3 k = 61 ∨ E 3 k = 62)
/-- the class holds them -/
def ccQ (t : Nat) (E : cE) (a b : Nat) (I : hI) : Prop := ∀ k, a ≤ k → k < b → I (t + 1) k = iI (E 0 k) ∧ I (t + 2) k = iI (E 1 k) ∧ I (t + 3) k = iI (E 2 k) ∧ I (t + 4) k = iI (E 3 k) ∧ I (t + 5) k = bI (opB E k)
/-- does a condition hold: comparisons from i on, r of them, what is known of the ALL so far -/
def hvF (c o : Nat → Bool) : Nat → Nat → Bool → Bool
  | 0, _, a => a
  | r + 1, i, a => if (o i && a) = true then true else hvF c o r (i + 1) ((o i || a) && c i)
def hvB (E : cE) (a b x y : Nat) : Bool := hvF (cpB E x y) (opB E) (b - a) a false
theorem cpD_bd {E : cE} {a b x y k : Nat} (h : cbQ E a b) (h1 : a ≤ k) (h2 : k < b) (hx : x ≤ 9) (hy : y ≤ 9) : (- 900000 ≤ E 0 k * x ∧ E 0 k * x ≤ 900000) ∧ (- 900000 ≤ E 1 k * y ∧ E 1 k * y ≤ 900000) := by
  obtain ⟨a0, a1, a2, _⟩ := h k h1 h2
  have m0 := mb a0 (show - 9 ≤ (x : Int) ∧ (x : Int) ≤ 9 by omega)
  have m1 := mb a1 (show - 9 ≤ (y : Int) ∧ (y : Int) ≤ 9 by omega)
  omega
section Hd
variable {E : cE}
theorem cd_46 {t a b x y k : Nat} {I : hI} (hb : cbQ E a b) (hc : ccQ t E a b I) (h1 : a ≤ k) (h2 : k < b) (hk : b ≤ 166) (hx : x ≤ 9) (hy : y ≤ 9) (z : Bool) (K : Nat → Int32 → Int32 → Int32 → Int32 → Int32 → hI → Option (Int32)) : mCd_hold_46 K t (nI b) (nI x) (nI y) (bI z) (nI k) I = K t (nI b) (nI x) (nI y) (bI (z && cpB E x y k)) (nI (k + 1)) I := by
  obtain ⟨e0, e1, e2, e3, e4⟩ := hc k h1 h2
  obtain ⟨d0, d1⟩ := cpD_bd hb h1 h2 hx hy
  obtain ⟨_, _, b2, b3⟩ := hb k h1 h2
  have nx : nI x = iI (x : Int) := rfl
  have ny : nI y = iI (y : Int) := rfl
  have eD : iI (E 0 k) * nI x + iI (E 1 k) * nI y + iI (E 2 k) = iI (cpD E x y k) := by
    rw [nx, ny, iI_mul, iI_mul, iI_add, iI_add]
    rfl
  have hbd : - 2 ^ 31 ≤ cpD E x y k ∧ cpD E x y k < 2 ^ 31 := by unfold cpD; omega
  have l0 := iI_le (a := 0) (b := cpD E x y k) (by omega) (by omega) hbd.1 hbd.2
  have l1 := iI_le (a := cpD E x y k) (b := 0) hbd.1 hbd.2 (by omega) (by omega)
  have l2 := iI_eq (a := cpD E x y k) (b := 0) hbd.1 hbd.2 (by omega) (by omega)
  have r60 := iI_eq (a := E 3 k) (b := 60) (by omega) (by omega) (by omega) (by omega)
  have r61 := iI_eq (a := E 3 k) (b := 61) (by omega) (by omega) (by omega) (by omega)
  have n60 : (60 : Int32) = iI 60 := rfl
  have n61 : (61 : Int32) = iI 61 := rfl
  have g : ∀ {β : Type} (q : Option β), h_g (h_in (nI k) 166) q = q := fun q => hg_in q (by omega) (by omega)
  have cl : (nI k).toNatClampNeg = k := nI_clamp (by omega)
  have ek : nI k + (1 : Int32) = nI (k + 1) := by rw [li_1, nI_add]
  have n1 : ¬ nI 1 = (0 : Int32) := by decide
  have n0 : nI 0 = (0 : Int32) := rfl
  have m1 : (1 : Int32) = bI true := rfl
  have m0 : (0 : Int32) = bI false := rfl
  unfold mCd_hold_46
  rw [hl_eq]
  simp only [g, cl, e0, e1, e2, e3, eD, n60, n61, ek]
  unfold cpB
  cases z
  · rw [Bool.false_and]
    have : bI false = (0 : Int32) := rfl
    simp only [this, if_true]
    split <;> rfl
  · rw [Bool.true_and]
    have hz : ¬ bI true = (0 : Int32) := by decide
    simp only [if_neg hz]
    by_cases c60 : E 3 k = 60
    · rw [if_pos (r60.mpr c60), if_pos c60]
      by_cases c : cpD E x y k < 0
      · rw [iI_0, if_neg (fun q => by have := l0.mp q; omega), decide_eq_true c]
        rfl
      · rw [iI_0, if_pos (l0.mpr (by omega)), decide_eq_false c]
        rfl
    · rw [if_neg (fun q => c60 (r60.mp q)), if_neg c60]
      by_cases c61 : E 3 k = 61
      · rw [if_pos (r61.mpr c61), if_pos c61]
        by_cases c : cpD E x y k = 0
        · rw [iI_0, if_pos (l2.mpr c), decide_eq_true c]
          rfl
        · rw [iI_0, if_neg (fun q => c (l2.mp q)), decide_eq_false c]
          rfl
      · rw [if_neg (fun q => c61 (r61.mp q)), if_neg c61]
        by_cases c : 0 < cpD E x y k
        · rw [iI_0, if_neg (fun q => by have := l1.mp q; omega), decide_eq_true c]
          rfl
        · rw [iI_0, if_pos (l1.mpr (by omega)), decide_eq_false c]
          rfl
theorem cd_L {t a b x y : Nat} {I : hI} (hb : cbQ E a b) (hc : ccQ t E a b I) (hk : b ≤ 166) (hx : x ≤ 9) (hy : y ≤ 9) : ∀ (r k fuel : Nat) (z : Bool), k + r = b → r < fuel → a ≤ k → mCd_hold_L10 fuel t (nI b) (nI x) (nI y) (bI z) (nI k) I = some (bI (hvF (cpB E x y) (opB E) r k z)) := by
  intro r
  induction r with
  | zero =>
    intro k fuel z hr hf h1
    obtain ⟨fuel, rfl⟩ : ∃ m, fuel = m + 1 := ⟨fuel - 1, by omega⟩
    obtain rfl : k = b := by omega
    show mCd_hold_B10 (mCd_hold_L10 fuel) _ _ _ _ _ _ _ = _
    unfold mCd_hold_B10
    rw [if_pos ((nI_leI (by omega) (by omega)).mpr (Nat.le_refl _)), hg_zb]
    rfl
  | succ r ih =>
    intro k fuel z hr hf h1
    obtain ⟨fuel, rfl⟩ : ∃ m, fuel = m + 1 := ⟨fuel - 1, by omega⟩
    have g : ∀ {β : Type} (q : Option β), h_g (h_in (nI k) 166) q = q := fun q => hg_in q (by omega) (by omega)
    have cl : (nI k).toNatClampNeg = k := nI_clamp (by omega)
    have e5 := (hc k h1 (by omega)).2.2.2.2
    have n166 : (166 : Int32) = nI 166 := rfl
    have m1 : (1 : Int32) = bI true := rfl
    have hz : ¬ bI true = (0 : Int32) := by decide
    have hz0 : bI false = (0 : Int32) := rfl
    show mCd_hold_B10 (mCd_hold_L10 fuel) _ _ _ _ _ _ _ = _
    unfold mCd_hold_B10
    rw [if_neg (fun q => by have := (nI_leI (by omega) (by omega)).mp q; omega), n166, if_neg (fun q => by have := (nI_leI (by omega) (by omega)).mp q; omega), g, cl, e5]
    rw [hvF]
    cases ho : opB E k
    · rw [if_pos hz0, cd_46 hb hc h1 (by omega) hk hx hy, ih (k + 1) fuel _ (by omega) (by omega) (by omega)]
      rw [if_neg (by simp), Bool.false_or]
    · rw [if_neg hz]
      cases z
      · rw [if_pos hz0, m1, cd_46 hb hc h1 (by omega) hk hx hy, ih (k + 1) fuel _ (by omega) (by omega) (by omega)]
        rw [if_neg (by simp), Bool.true_or]
      · rw [if_neg hz, if_pos (by simp)]
        rfl
theorem cd_hold {t a b x y : Nat} {I : hI} (hb : cbQ E a b) (hc : ccQ t E a b I) (hab : a ≤ b) (hk : b ≤ 166) (hx : x ≤ 9) (hy : y ≤ 9) : mCd_hold t (nI a) (nI b) (nI x) (nI y) I = some (bI (hvB E a b x y)) := by
  have e := cd_L hb hc hk hx hy (b - a) a hF false (by omega) (by unfold hF; omega) (Nat.le_refl _)
  have z : ¬ nI a < (0 : Int32) := nI_pos (by omega)
  have m0 : (0 : Int32) = bI false := rfl
  unfold mCd_hold
  rw [hl_eq, if_neg z, m0, e]
  rfl
/-- the reference holds a sum -/
def smQ (l : Nat) (u : Nat → Int) (I : hI) : Prop := I 2 l = iI (u 0) ∧ I 3 l = iI (u 1) ∧ I 4 l = iI (u 2) ∧ (- 50000 ≤ u 0 ∧ u 0 ≤ 50000) ∧ (- 50000 ≤ u 1 ∧ u 1 ≤ 50000) ∧ (- 50000 ≤ u 2 ∧ u 2 ≤ 50000)
def smV (u : Nat → Int) (x y : Nat) : Int := u 0 + u 1 * x + u 2 * y
/-- the reference holds a condition -/
def cmQ (o : Nat) (E : cE) (a b : Nat) (I : hI) : Prop := ∀ k, a ≤ k → k < b → ∃ (l r : Nat) (u v : Nat → Int), l < 1000 ∧ r < 1000 ∧ I 5 (o + k) = nI l ∧ I 6 (o + k) = nI r ∧ smQ l u I ∧ smQ r v I ∧ u 1 - v 1 = E 0 k ∧ u 2 - v 2 = E 1 k ∧ u 0 - v 0 = E 2 k ∧ I 7 (o + k) = iI (E 3 k) ∧ I 8 (o + k) = bI (decide (k + 1 = b) || opB E (k + 1))
theorem smV_bd {l x y : Nat} {u : Nat → Int} {I : hI} (h : smQ l u I) (hx : x ≤ 9) (hy : y ≤ 9) : - 950000 ≤ smV u x y ∧ smV u x y ≤ 950000 := by
  obtain ⟨_, _, _, b0, b1, b2⟩ := h
  have m0 := mb b1 (show - 9 ≤ (x : Int) ∧ (x : Int) ≤ 9 by omega)
  have m1 := mb b2 (show - 9 ≤ (y : Int) ∧ (y : Int) ≤ 9 by omega)
  unfold smV
  omega
theorem m_sumAt {l x y : Nat} {u : Nat → Int} {I : hI} (hl : l < 1000) (h : smQ l u I) : mM_sumAt (nI l) (nI x) (nI y) I = some (iI (smV u x y)) := by
  obtain ⟨e0, e1, e2, _⟩ := h
  have nx : nI x = iI (x : Int) := rfl
  have ny : nI y = iI (y : Int) := rfl
  unfold mM_sumAt
  rw [hg_in _ hl (by omega), hg_in _ hl (by omega), hg_in _ hl (by omega), nI_clamp (by omega), e0, e1, e2, nx, ny, iI_mul, iI_mul, iI_add, iI_add]
  rfl
theorem m_compareAt {o a b x y k : Nat} {I : hI} (hb : cbQ E a b) (hc : cmQ o E a b I) (h1 : a ≤ k) (h2 : k < b) (hk : o + b < 1000) (hx : x ≤ 9) (hy : y ≤ 9) : mM_compareAt (nI (o + k)) (nI x) (nI y) I = some (bI (cpB E x y k)) := by
  obtain ⟨l, r, u, v, hl, hr, e5, e6, su, sv, d0, d1, d2, e7, e8⟩ := hc k h1 h2
  obtain ⟨_, _, _, b3⟩ := hb k h1 h2
  have s1 := m_sumAt (x := x) (y := y) hl su
  have s2 := m_sumAt (x := x) (y := y) hr sv
  have w1 := smV_bd su hx hy
  have w2 := smV_bd sv hx hy
  have eD : cpD E x y k = smV u x y - smV v x y := by
    unfold cpD smV
    rw [← d0, ← d1, ← d2, Int.sub_mul, Int.sub_mul]
    omega
  have r60 := iI_eq (a := E 3 k) (b := 60) (by omega) (by omega) (by omega) (by omega)
  have r61 := iI_eq (a := E 3 k) (b := 61) (by omega) (by omega) (by omega) (by omega)
  have n60 : (60 : Int32) = iI 60 := rfl
  have n61 : (61 : Int32) = iI 61 := rfl
  have l0 := iI_le (a := smV v x y) (b := smV u x y) (by omega) (by omega) (by omega) (by omega)
  have l1 := iI_le (a := smV u x y) (b := smV v x y) (by omega) (by omega) (by omega) (by omega)
  have l2 := iI_eq (a := smV u x y) (b := smV v x y) (by omega) (by omega) (by omega) (by omega)
  have g : ∀ {β : Type} (q : Option β), h_g (h_in (nI (o + k)) 1000) q = q := fun q => hg_in q (by omega) (by omega)
  have cl : (nI (o + k)).toNatClampNeg = o + k := nI_clamp (by omega)
  unfold mM_compareAt
  simp only [g, cl, e5, e6, e7, s1, s2, Option.bind_some, n60, n61]
  unfold cpB
  rw [eD]
  by_cases c60 : E 3 k = 60
  · rw [if_pos (r60.mpr c60), if_pos c60]
    by_cases c : smV u x y - smV v x y < 0
    · rw [if_neg (fun q => by have := l0.mp q; omega), decide_eq_true c]
      rfl
    · rw [if_pos (l0.mpr (by omega)), decide_eq_false c]
      rfl
  · rw [if_neg (fun q => c60 (r60.mp q)), if_neg c60]
    by_cases c61 : E 3 k = 61
    · rw [if_pos (r61.mpr c61), if_pos c61]
      by_cases c : smV u x y - smV v x y = 0
      · rw [if_pos (l2.mpr (by omega)), decide_eq_true c]
        rfl
      · rw [if_neg (fun q => c (by have := l2.mp q; omega)), decide_eq_false c]
        rfl
    · rw [if_neg (fun q => c61 (r61.mp q)), if_neg c61]
      by_cases c : 0 < smV u x y - smV v x y
      · rw [if_neg (fun q => by have := l1.mp q; omega), decide_eq_true c]
        rfl
      · rw [if_pos (l1.mpr (by omega)), decide_eq_false c]
        rfl
theorem mh_L {o a b x y : Nat} {I : hI} (hb : cbQ E a b) (hc : cmQ o E a b I) (hk : o + b < 1000) (hx : x ≤ 9) (hy : y ≤ 9) : ∀ (r k fuel : Nat) (z w : Bool), k + r = b → r < fuel → a ≤ k → (k < b → (opB E k = true → z = false) ∧ w = (opB E k || z)) → (k = b → z = false) → mM_holds_L6 fuel (nI (o + b)) (nI x) (nI y) (bI w) (nI (o + k)) I = some (bI (hvF (cpB E x y) (opB E) r k z)) := by
  intro r
  induction r with
  | zero =>
    intro k fuel z w hr hf h1 h2 h3
    obtain ⟨fuel, rfl⟩ : ∃ m, fuel = m + 1 := ⟨fuel - 1, by omega⟩
    obtain rfl : k = b := by omega
    show mM_holds_B6 (mM_holds_L6 fuel) _ _ _ _ _ _ = _
    unfold mM_holds_B6
    rw [if_pos ((nI_leI (by omega) (by omega)).mpr (Nat.le_refl _)), h3 rfl]
    rfl
  | succ r ih =>
    intro k fuel z w hr hf h1 h2 h3
    obtain ⟨fuel, rfl⟩ : ∃ m, fuel = m + 1 := ⟨fuel - 1, by omega⟩
    obtain ⟨q1, q2⟩ := h2 (by omega)
    have ec := m_compareAt hb hc h1 (show k < b by omega) hk hx hy
    obtain ⟨_, _, _, _, _, _, _, _, _, _, _, _, _, _, e8⟩ := hc k h1 (by omega)
    have g : ∀ {β : Type} (q : Option β), h_g (h_in (nI (o + k)) 1000) q = q := fun q => hg_in q (by omega) (by omega)
    have cl : (nI (o + k)).toNatClampNeg = o + k := nI_clamp (by omega)
    have ek : nI (o + k) + (1 : Int32) = nI (o + (k + 1)) := by rw [li_1, nI_add]; rfl
    have m1 : (1 : Int32) = bI true := rfl
    have m0 : (0 : Int32) = bI false := rfl
    have hz : ¬ bI true = (0 : Int32) := by decide
    have hz0 : bI false = (0 : Int32) := rfl
    -- behind the comparison
    have s34 : ∀ c : Bool, (w && cpB E x y k) = c → mM_holds_34 (mM_holds_L6 fuel) (nI (o + b)) (nI x) (nI y) (nI (o + k)) (bI c) I = some (bI (hvF (cpB E x y) (opB E) (r + 1) k z)) := fun c hcc => by
      have ev : hvF (cpB E x y) (opB E) (r + 1) k z = hvF (cpB E x y) (opB E) r (k + 1) c := by
        rw [hvF, ← hcc, q2]
        cases ho : opB E k
        · rw [if_neg (by simp)]
        · rw [q1 ho, if_neg (by simp)]
      rw [ev]
      unfold mM_holds_34
      rw [g, cl, e8, ek]
      by_cases hl : k + 1 = b
      · have hr0 : r = 0 := by omega
        subst hr0
        rw [decide_eq_true hl, Bool.true_or, if_neg hz]
        cases c
        · rw [if_pos hz0, m1, ih (k + 1) fuel false true (by omega) (by omega) (by omega) (fun h => by omega) (fun _ => rfl)]
        · rw [if_neg hz]
          rfl
      · rw [decide_eq_false hl, Bool.false_or]
        cases ho : opB E (k + 1)
        · rw [if_pos hz0, ih (k + 1) fuel c c (by omega) (by omega) (by omega) (fun h => ⟨fun q => by rw [ho] at q; exact absurd q (by decide), by rw [ho, Bool.false_or]⟩) (fun h => absurd h hl)]
        · rw [if_neg hz]
          cases c
          · rw [if_pos hz0, m1, ih (k + 1) fuel false true (by omega) (by omega) (by omega) (fun h => ⟨fun _ => rfl, by rw [ho, Bool.true_or]⟩) (fun h => absurd h hl)]
          · rw [if_neg hz]
            obtain ⟨r', rfl⟩ : ∃ r', r = r' + 1 := ⟨r - 1, by omega⟩
            rw [hvF, ho, if_pos (by simp)]
            rfl
    show mM_holds_B6 (mM_holds_L6 fuel) _ _ _ _ _ _ = _
    unfold mM_holds_B6
    rw [if_neg (fun q => by have := (nI_leI (by omega) (by omega)).mp q; omega)]
    cases w
    · rw [if_pos hz0]
      unfold mM_holds_33
      rw [m0]
      exact s34 false (by simp)
    · rw [if_neg hz, ec, Option.bind_some]
      cases hcp : cpB E x y k
      · rw [if_pos hz0]
        unfold mM_holds_33
        rw [m0]
        exact s34 false (by simp [hcp])
      · rw [if_neg hz, m1]
        exact s34 true (by simp [hcp])
theorem m_holds {o a b x y : Nat} {I : hI} (hb : cbQ E a b) (hc : cmQ o E a b I) (hab : a < b) (ho : opB E a = true) (hk : o + b < 1000) (hx : x ≤ 9) (hy : y ≤ 9) : mM_holds (nI (o + a)) (nI (o + b)) (nI x) (nI y) I = some (bI (hvB E a b x y)) := by
  have e := mh_L hb hc hk hx hy (b - a) a hF false true (by omega) (by unfold hF; omega) (Nat.le_refl _) (fun _ => ⟨fun _ => rfl, by rw [ho]; rfl⟩) (fun h => by omega)
  have m1 : (1 : Int32) = bI true := rfl
  unfold mM_holds
  rw [m1, e]
  rfl
end Hd
