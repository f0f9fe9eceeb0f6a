/-! best: the ends of a line are noted. -/
/-- a point is the corner of three conditions -/
def isC (i j r P : Nat → Int) : Prop := slp i j r ≠ 0 ∧ P 0 * slp i j r = cn0 i j r * P 3 ∧ P 1 * slp i j r = cn1 i j r * P 3 ∧ P 2 * slp i j r = cn2 i j r * P 3
def cnV (z : Int) (i j r : Nat → Int) : Nat → Int := fun k => if k = 0 then z * cn0 i j r else if k = 1 then z * cn1 i j r else if k = 2 then z * cn2 i j r else z * slp i j r
def ptV (i j : Nat → Int) : Nat → Int := fun k => if k = 0 then pt0 i j else if k = 1 then pt1 i j else pt2 i j
def wyV (i j : Nat → Int) : Nat → Int := fun k => if k = 0 then wy0 i j else if k = 1 then wy1 i j else wy2 i j
def feaP (R : Nat → Nat → Int) (F M : Nat) (P : Nat → Int) : Prop := feaQ R F M (P 0) (P 1) (P 2) (P 3)
/-- the corners on a line -/
def lnW (R : Nat → Nat → Int) (F M i j : Nat) (P : Nat → Int) : Prop := ∃ r, F ≤ r ∧ r < M ∧ isC (R i) (R j) (R r) P ∧ feaP R F M P
theorem kpQ_congr {D : rD} {W V : (Nat → Int) → Prop} {I : hI} {J : hJ} (h : kpQ D W I J) (hh : ∀ P : Nat → Int, 0 < P 3 → (W P ↔ V P)) : kpQ D V I J := by
  rcases h with ⟨a, b⟩ | ⟨a, ⟨P, p1, p2⟩, b⟩
  · exact Or.inl ⟨a, fun P hP hV => b P hP ((hh P hP).mpr hV)⟩
  · refine Or.inr ⟨a, ⟨P, p1, (hh P p1).mp p2⟩, fun s hs hp => ?_⟩
    obtain ⟨K, k1, k2, k3, k4⟩ := b s hs hp
    exact ⟨K, k1, k2, (hh K k2.2.2.2.1).mp k3, fun P hP hV => k4 P hP ((hh P hP).mpr hV)⟩
theorem kpQ_of {D : rD} (hD : rOk D) {W : (Nat → Int) → Prop} {I I' : hI} {J J' : hJ} (h : kpQ D W I J) (h1 : I' 38 2 = I 38 2) (h2 : ∀ a x, 50 ≤ a → a < 60 → J' a x = J a x) : kpQ D W I' J' := by
  have hn := hD.2.1
  rcases h with ⟨a, b⟩ | ⟨a, e, b⟩
  · exact Or.inl ⟨by rw [h1]; exact a, b⟩
  · exact Or.inr ⟨by rw [h1]; exact a, e, fun s hs hp => kpS_of (b s hs hp) (fun x => h2 _ x (by omega) (by omega))⟩
theorem eqP_cn {i j r P : Nat → Int} {z : Int} (hz : z = 1 ∨ z = -1) (hs : slp i j r ≠ 0) : eqP P (cnV z i j r) ↔ isC i j r P := by
  have e0 : cnV z i j r 0 = z * cn0 i j r := rfl
  have e1 : cnV z i j r 1 = z * cn1 i j r := rfl
  have e2 : cnV z i j r 2 = z * cn2 i j r := rfl
  have e3 : cnV z i j r 3 = z * slp i j r := rfl
  unfold eqP isC
  rw [e0, e1, e2, e3]
  rcases hz with rfl | rfl
  · simp only [Int.one_mul]
    exact ⟨fun h => ⟨hs, h⟩, fun h => h.2⟩
  · have n1 : ∀ a b : Int, a * (-1 * b) = - (a * b) := fun a b => by grind
    have n2 : ∀ a b : Int, -1 * a * b = - (a * b) := fun a b => by grind
    simp only [n1, n2]
    constructor
    · intro h; exact ⟨hs, by omega, by omega, by omega⟩
    · intro h; exact ⟨by omega, by omega, by omega⟩
theorem fea_eq {R : Nat → Nat → Int} {F M : Nat} {P Q : Nat → Int} (hP : 0 < P 3) (hQ : 0 < Q 3) (h : eqP P Q) (hf : feaP R F M Q) : feaP R F M P := fun r h1 h2 => by
  have hq := hf r h1 h2
  obtain ⟨a, b, c⟩ := h
  have m := Int.mul_le_mul_of_nonneg_right hq (show 0 ≤ P 3 by omega)
  have e1 : R r 3 * Q 3 * P 3 = R r 3 * P 3 * Q 3 := by grind
  have e2 : (R r 0 * Q 0 + R r 1 * Q 1 + R r 2 * Q 2) * P 3 = (R r 0 * P 0 + R r 1 * P 1 + R r 2 * P 2) * Q 3 := by grind
  rw [e1, e2] at m
  exact Int.le_of_mul_le_mul_right m hQ
/-- two conditions that cut the line at one place make one corner -/
theorem isC_move {i j r q P : Nat → Int} (hS : 0 < wyS i j) (hq : slp i j q ≠ 0) (h : mis i j q * slp i j r = mis i j r * slp i j q) (hP : isC i j r P) : isC i j q P := by
  obtain ⟨h0, h1, h2, h3⟩ := hP
  have key : ∀ (p w cr cq x : Int), slp i j r * p + mis i j r * w = wyS i j * cr → slp i j q * p + mis i j q * w = wyS i j * cq → x * slp i j r = cr * P 3 → x * slp i j q = cq * P 3 := fun p w cr cq x a b c => by
    have e1 : wyS i j * (cq * slp i j r) = wyS i j * (cr * slp i j q) := by grind
    have e2 : cq * slp i j r = cr * slp i j q := Int.eq_of_mul_eq_mul_left (by omega) e1
    have e3 : slp i j r * (x * slp i j q) = slp i j r * (cq * P 3) := by grind
    exact Int.eq_of_mul_eq_mul_left h0 e3
  exact ⟨hq, key _ _ _ _ _ (cor0 i j r) (cor0 i j q) h1, key _ _ _ _ _ (cor1 i j r) (cor1 i j q) h2, key _ _ _ _ _ (cor2 i j r) (cor2 i j q) h3⟩
section En
variable {R : Nat → Nat → Int} {M : Nat}
theorem cn_bd (hb : bdR R M) {i j r : Nat} (hi : i < M) (hj : j < M) (hr : r < M) : (- 14929920 ≤ cn0 (R i) (R j) (R r) ∧ cn0 (R i) (R j) (R r) ≤ 14929920) ∧ (- 14929920 ≤ cn1 (R i) (R j) (R r) ∧ cn1 (R i) (R j) (R r) ≤ 14929920) ∧ (- 14929920 ≤ cn2 (R i) (R j) (R r) ∧ cn2 (R i) (R j) (R r) ≤ 14929920) := by
  obtain ⟨h0, h1, h2⟩ := wy_bd hb hi hj
  obtain ⟨j0, j1, j2⟩ := wy_bd hb hj hr
  obtain ⟨r0, r1, r2⟩ := wy_bd hb hr hi
  have t : ∀ p, p < M → - 1920 ≤ R p 3 ∧ R p 3 ≤ 1920 := fun p hp => by have := (hb p hp).2.2.2; omega
  have x0 := mb (t i hi) j0
  have x1 := mb (t i hi) j1
  have x2 := mb (t i hi) j2
  have y0 := mb (t j hj) r0
  have y1 := mb (t j hj) r1
  have y2 := mb (t j hj) r2
  have z0 := mb (t r hr) h0
  have z1 := mb (t r hr) h1
  have z2 := mb (t r hr) h2
  have e0 : cn0 (R i) (R j) (R r) = R i 3 * wy0 (R j) (R r) + R j 3 * wy0 (R r) (R i) + R r 3 * wy0 (R i) (R j) := rfl
  have e1 : cn1 (R i) (R j) (R r) = R i 3 * wy1 (R j) (R r) + R j 3 * wy1 (R r) (R i) + R r 3 * wy1 (R i) (R j) := rfl
  have e2 : cn2 (R i) (R j) (R r) = R i 3 * wy2 (R j) (R r) + R j 3 * wy2 (R r) (R i) + R r 3 * wy2 (R i) (R j) := rfl
  rw [e0, e1, e2]
  omega
theorem cnV_B (hb : bdR R M) {i j r : Nat} (hi : i < M) (hj : j < M) (hr : r < M) {z : Int} (hz : z = 1 ∨ z = -1) (hp : 0 < z * slp (R i) (R j) (R r)) : ptB (cnV z (R i) (R j) (R r)) := by
  obtain ⟨a, b, c⟩ := cn_bd hb hi hj hr
  have d := slp_bd hb hi hj hr
  have e0 : cnV z (R i) (R j) (R r) 0 = z * cn0 (R i) (R j) (R r) := rfl
  have e1 : cnV z (R i) (R j) (R r) 1 = z * cn1 (R i) (R j) (R r) := rfl
  have e2 : cnV z (R i) (R j) (R r) 2 = z * cn2 (R i) (R j) (R r) := rfl
  have e3 : cnV z (R i) (R j) (R r) 3 = z * slp (R i) (R j) (R r) := rfl
  unfold ptB
  rw [e0, e1, e2, e3]
  rcases hz with rfl | rfl <;> omega
/-- one end is noted -/
theorem co_end {D : rD} (hD : rOk D) (hb : bdR R M) {i j r F : Nat} (hi : i < M) (hj : j < M) (hr : r < M) {z : Int} (hz : z = 1 ∨ z = -1) (hp : 0 < z * slp (R i) (R j) (R r)) (hS : 0 < wyS (R i) (R j)) {I : hI} {J : hJ} (hcR : cR D I) (hl : lnQ (R i) (R j) J) {W : (Nat → Int) → Prop} (hk : kpQ D W I J) {u l : Int} (hu : u = z * mis (R i) (R j) (R r)) (hll : l = z * slp (R i) (R j) (R r)) : ∃ (I' : hI) (J' : hJ), mCo_noteCorner (lI u) (lI l) I J = some (I', J') ∧ (∀ a x, (a ≠ 38 ∨ x ≠ 2) → I' a x = I a x) ∧ (∀ a x, (a < 48 ∨ 60 ≤ a) → J' a x = J a x) ∧ kpQ D (fun P => W P ∨ isC (R i) (R j) (R r) P) I' J' := by
  have hs : slp (R i) (R j) (R r) ≠ 0 := fun e => by rw [e, Int.mul_zero] at hp; omega
  have bS := wyS_bd hb hi hj
  have bc := cnV_B hb hi hj hr hz hp
  obtain ⟨l8, ⟨w0, w1, w2⟩, p0, p1, p2⟩ := hl
  have c0 := cor0 (R i) (R j) (R r)
  have c1 := cor1 (R i) (R j) (R r)
  have c2 := cor2 (R i) (R j) (R r)
  have sgn : ∀ (p w c : Int), slp (R i) (R j) (R r) * p + mis (R i) (R j) (R r) * w = wyS (R i) (R j) * c → p * l + u * w = wyS (R i) (R j) * (z * c) := fun p w c h => by
    rw [hu, hll]
    have : p * (z * slp (R i) (R j) (R r)) + z * mis (R i) (R j) (R r) * w = z * (slp (R i) (R j) (R r) * p + mis (R i) (R j) (R r) * w) := by grind
    rw [this, h]
    grind
  obtain ⟨I', J', C, a1, a2, a3, a4, a5, a6⟩ := co_noteCorner hD hcR hk (u := u) (l := l) (S := wyS (R i) (R j)) (p := ptV (R i) (R j)) (w := wyV (R i) (R j)) (c := cnV z (R i) (R j) (R r)) l8 (fun k hk => by
    rcases (show k = 0 ∨ k = 1 ∨ k = 2 by omega) with rfl | rfl | rfl
    · exact p0
    · exact p1
    · exact p2) (fun k hk => by
    rcases (show k = 0 ∨ k = 1 ∨ k = 2 by omega) with rfl | rfl | rfl
    · exact w0
    · exact w1
    · exact w2) (fun k hk => by
    rcases (show k = 0 ∨ k = 1 ∨ k = 2 by omega) with rfl | rfl | rfl
    · exact sgn _ _ _ c0
    · exact sgn _ _ _ c1
    · exact sgn _ _ _ c2) hll hS bS.2 bc
  refine ⟨I', J', a1, a2, a3, kpQ_congr a6 (fun P hP => ?_)⟩
  have hc3 : 0 < cnV z (R i) (R j) (R r) 3 := bc.2.2.2.1
  have q := eqP_cn (P := P) hz hs
  constructor
  · rintro (h | h)
    · exact Or.inl h
    · exact Or.inr (q.mp (eqP_trans hP a4 hc3 h a5))
  · rintro (h | h)
    · exact Or.inl h
    · exact Or.inr (eqP_trans hP hc3 a4 (q.mpr h) (eqP_symm a5))
end En
