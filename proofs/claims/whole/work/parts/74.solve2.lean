/-! The class solves a plan's equations. -/
def lab (m j : Nat) : Nat := if j < m then j else if j = m then 20 else 21
def sV (D : rD) (p : Nat) (f : Nat → Bool) (k i j : Nat) : Int := if i < k then dt (rsN (eR D p f) k) ((csN k).set (k - 1 - i) (lab (cnt f (D 0 0)) j)) else dt (eR D p f i :: rsN (eR D p f) k) (lab (cnt f (D 0 0)) j :: csN k)
theorem rsN_map (r : Nat → dR) : ∀ k, rsN r k = (csN k).map r
  | 0 => rfl
  | k + 1 => by rw [rsN, csN, List.map_cons, rsN_map r k]
theorem hg_nzL {β : Type} {b : Int} (k : Option β) (h : b ≠ 0) (h1 : - 2 ^ 63 ≤ b) (h2 : b < 2 ^ 63) : h_g (h_nzL (lI b)) k = k := by
  refine h_g_of ?_ k
  refine decide_eq_true (fun e => h ?_)
  exact (lI_eq h1 h2 (by decide) (by decide)).mp e
section Sv
variable {D : rD} {p : Nat} {f : Nat → Bool}
theorem minorA (hD : rOk D) (hf : ∀ u, f u = true → pIn D u = true) (L : List Nat) (cs : List Nat) (hL : ∀ i ∈ L, i < cnt f (D 0 0)) (hl : L.length = cs.length) (hc : ∀ c ∈ cs, c < cnt f (D 0 0)) : - 4 ^ cs.length ≤ dt (L.map (eR D p f)) cs ∧ dt (L.map (eR D p f)) cs ≤ 4 ^ cs.length := by
  have hpos := pow4_nn cs.length
  by_cases hnd : cs.Nodup
  · have e1 : dt (L.map (eR D p f)) cs = dt (L.map (fun i => aRow (cnt f (D 0 0)) (eP D p f i) i)) cs := dt_mapc _ _ L cs (fun i hi c hcc => by
      unfold eR aRow
      rw [if_pos (hc c hcc), if_pos (hc c hcc)])
    have hB := bndA (rs := L.map (fun i => aRow (cnt f (D 0 0)) (eP D p f i) i)) (cs := cs) (by simpa using hl) hnd (fun r hr => by
      obtain ⟨i, hi, rfl⟩ := List.mem_map.mp hr
      exact eR_wOk hD hf (hL i hi))
    rw [← e1, List.length_map, hl] at hB
    exact hB
  · have h0 := dA_nodup (dt_anti (L.map (eR D p f))) cs [] hnd
    rw [List.nil_append] at h0
    omega
theorem pow4_le {a b : Nat} (h : a ≤ b) : (4 : Int) ^ a ≤ 4 ^ b := by
  have : (4 : Nat) ^ a ≤ 4 ^ b := Nat.pow_le_pow_right (by decide) h
  have e1 : ((4 ^ a : Nat) : Int) = 4 ^ a := by rw [Int.natCast_pow]; rfl
  have e2 : ((4 ^ b : Nat) : Int) = 4 ^ b := by rw [Int.natCast_pow]; rfl
  omega
theorem minor_cap {k : Nat} (h : k ≤ 10) : 1920 * (k : Int) * 4 ^ (k - 1) ≤ 5033164800 := by
  have h1 : (4 : Int) ^ (k - 1) ≤ 4 ^ 9 := pow4_le (by omega)
  have h2 : 1920 * (k : Int) * 4 ^ (k - 1) ≤ 1920 * (k : Int) * 4 ^ 9 := Int.mul_le_mul_of_nonneg_left h1 (by omega)
  have h3 : (4 : Int) ^ 9 = 262144 := by decide
  omega
theorem sV_forms (k i j : Nat) (hk : k ≤ cnt f (D 0 0)) (hi : i < cnt f (D 0 0)) : ∃ (L cs : List Nat), sV D p f k i j = dt (L.map (eR D p f)) cs ∧ (∀ x ∈ L, x < cnt f (D 0 0)) ∧ L.length = cs.length ∧ (∀ c ∈ cs, c < cnt f (D 0 0) ∨ c = lab (cnt f (D 0 0)) j) ∧ cs.length ≤ k + 1 ∧ 0 < cs.length ∧ (i < k → cs.length = k) := by
  unfold sV
  by_cases h : i < k
  · rw [if_pos h]
    refine ⟨csN k, (csN k).set (k - 1 - i) (lab (cnt f (D 0 0)) j), by rw [rsN_map], fun x hx => by have := (csN_mem k x).mp hx; omega, by simp, fun c hc => ?_, by simp [csN_len], by simp [csN_len]; omega, fun _ => by simp [csN_len]⟩
    rcases List.mem_or_eq_of_mem_set hc with e | e
    · have := (csN_mem k c).mp e; left; omega
    · exact Or.inr e
  · rw [if_neg h]
    refine ⟨i :: csN k, lab (cnt f (D 0 0)) j :: csN k, by rw [rsN_map, List.map_cons], fun x hx => ?_, by simp, fun c hc => ?_, by simp [csN_len], by simp, fun h2 => absurd h2 h⟩
    · rcases List.mem_cons.mp hx with e | e
      · omega
      · have := (csN_mem k x).mp e; omega
    · rcases List.mem_cons.mp hc with e | e
      · exact Or.inr e
      · have := (csN_mem k c).mp e; left; omega
theorem sV_le (hD : rOk D) (hf : ∀ u, f u = true → pIn D u = true) {k i j : Nat} (hk : k ≤ cnt f (D 0 0)) (hk9 : k < 10 ∨ i < k) (hi : i < cnt f (D 0 0)) : - 5033164800 ≤ sV D p f k i j ∧ sV D p f k i j ≤ 5033164800 := by
  have hn := hD.2.1
  have hm := cnt_le f (D 0 0)
  obtain ⟨L, cs, e, h1, h2, h3, h4, h5, h6⟩ := sV_forms (D := D) (p := p) (f := f) k i j hk hi
  rw [e]
  have hlen : cs.length ≤ 10 := by
    rcases hk9 with h | h
    · omega
    · rw [h6 h]; omega
  have hc := minor_cap hlen
  by_cases hb : lab (cnt f (D 0 0)) j = 20 ∨ lab (cnt f (D 0 0)) j = 21
  · have := minor_le (p := p) hD hf hb L cs h1 h2 h3 h5
    omega
  · have hj : lab (cnt f (D 0 0)) j < cnt f (D 0 0) := by
      unfold lab at hb ⊢
      by_cases q : j < cnt f (D 0 0)
      · rw [if_pos q]; exact q
      · rw [if_neg q] at hb
        by_cases q2 : j = cnt f (D 0 0)
        · rw [if_pos q2] at hb; omega
        · rw [if_neg q2] at hb; omega
    have := minor_le (p := p) hD hf (b := 20) (Or.inl rfl) L cs h1 h2 (fun c hcc => by
      rcases h3 c hcc with h | h
      · exact Or.inl h
      · left; omega) h5
    omega
theorem sV_leA (hD : rOk D) (hf : ∀ u, f u = true → pIn D u = true) {k i j : Nat} (hk : k < cnt f (D 0 0)) (hi : i < cnt f (D 0 0)) (hj : j < cnt f (D 0 0)) : - 1048576 ≤ sV D p f k i j ∧ sV D p f k i j ≤ 1048576 := by
  have hn := hD.2.1
  have hm := cnt_le f (D 0 0)
  obtain ⟨L, cs, e, h1, h2, h3, h4, h5, h6⟩ := sV_forms (D := D) (p := p) (f := f) k i j (by omega) hi
  rw [e]
  have hl : lab (cnt f (D 0 0)) j = j := if_pos hj
  have h := minorA (p := p) hD hf L cs h1 h2 (fun c hcc => by
    rcases h3 c hcc with h | h
    · exact h
    · omega)
  have h7 : (4 : Int) ^ cs.length ≤ 4 ^ 10 := pow4_le (by omega)
  have h8 : (4 : Int) ^ 10 = 1048576 := by decide
  omega
theorem lead_le (hD : rOk D) (hf : ∀ u, f u = true → pIn D u = true) {k : Nat} (hk : k ≤ cnt f (D 0 0)) : dt (rsN (eR D p f) k) (csN k) ≤ 1048576 := by
  have hn := hD.2.1
  have hm := cnt_le f (D 0 0)
  rw [rsN_map]
  have h := minorA (p := p) hD hf (csN k) (csN k) (fun x hx => by have := (csN_mem k x).mp hx; omega) rfl (fun x hx => by have := (csN_mem k x).mp hx; omega)
  have h7 : (4 : Int) ^ (csN k).length ≤ 4 ^ 10 := pow4_le (by rw [csN_len]; omega)
  have h8 : (4 : Int) ^ 10 = 1048576 := by decide
  omega
theorem sV_kk (k : Nat) (hk : k < cnt f (D 0 0)) : sV D p f k k k = dt (rsN (eR D p f) (k + 1)) (csN (k + 1)) := by
  unfold sV lab
  rw [if_neg (Nat.lt_irrefl k), if_pos hk]
  rfl
theorem sV_row (k j : Nat) : sV D p f (k + 1) k j = sV D p f k k j := by
  unfold sV
  rw [if_pos (Nat.lt_succ_self k), if_neg (Nat.lt_irrefl k), Nat.add_sub_cancel, Nat.sub_self]
  rfl
/-- a step of the elimination is exact -/
theorem sV_step {k i j : Nat} (hk : k < cnt f (D 0 0)) (hd : dt (rsN (eR D p f) k) (csN k) ≠ 0) (hi : i ≠ k) : dt (rsN (eR D p f) k) (csN k) * sV D p f (k + 1) i j = sV D p f k k k * sV D p f k i j - sV D p f k i k * sV D p f k k j := by
  have hl : lab (cnt f (D 0 0)) k = k := if_pos hk
  unfold sV
  rw [if_neg (Nat.lt_irrefl k), if_neg (Nat.lt_irrefl k), hl]
  by_cases h : i < k
  · rw [if_pos h, if_pos h, if_pos (by omega)]
    have e1 : k + 1 - 1 - i = (k - 1 - i) + 1 := by omega
    have h1 := jordan (rs := rsN (eR D p f) k) (cs := csN k) (eR D p f k) k (lab (cnt f (D 0 0)) j) hd (i := k - 1 - i) (by rw [csN_len]; omega)
    rw [e1]
    show dt (rsN (eR D p f) k) (csN k) * dt (eR D p f k :: rsN (eR D p f) k) ((k :: csN k).set (k - 1 - i + 1) (lab (cnt f (D 0 0)) j)) = _
    rw [List.set_cons_succ, h1]
    grind
  · rw [if_neg h, if_neg (by omega), if_neg h]
    have h1 := bareiss (rs := rsN (eR D p f) k) (cs := csN k) (eR D p f k) (eR D p f i) k (lab (cnt f (D 0 0)) j) hd
    show dt (rsN (eR D p f) k) (csN k) * dt (eR D p f i :: eR D p f k :: rsN (eR D p f) k) (lab (cnt f (D 0 0)) j :: k :: csN k) = _
    rw [h1]
    grind
theorem sV_0 (i j : Nat) : sV D p f 0 i j = eR D p f i (lab (cnt f (D 0 0)) j) := by
  unfold sV
  rw [if_neg (Nat.not_lt_zero i)]
  simp [rsN, csN, dt, dE]
theorem eV_eR {s j : Nat} (hD : rOk D) (hs : s < D 0 0) (hfs : f s = true) : eV D p f s j = eR D p f (cnt f s) (lab (cnt f (D 0 0)) j) := by
  have hn := hD.2.1
  have hm := cnt_le f (D 0 0)
  unfold eV eR lab eP
  rw [sel_cnt f hs hfs]
  by_cases h1 : j < cnt f (D 0 0)
  · simp only [if_pos h1]
  · by_cases h2 : j = cnt f (D 0 0)
    · have h20 : ¬ (20 < cnt f (D 0 0)) := by omega
      simp only [if_neg h1, if_pos h2, if_neg h20, if_true]
    · have h21 : ¬ (21 < cnt f (D 0 0)) := by omega
      simp only [if_neg h1, if_neg h2, if_neg h21, if_true]
      rfl
theorem pl_clear_L {a1 a2 m : Nat} (hne : a1 ≠ a2) (hm : m ≤ 10) {B P T : Int} {x y q : Nat → Int} (hB : 0 < B ∧ B ≤ 1048576) (hq : ∀ j, j < m + 2 → B * q j = P * x j - T * y j) (hbd : ∀ j, j < m + 2 → - 2 ^ 62 < P * x j - T * y j ∧ P * x j - T * y j < 2 ^ 62) {I : hI} (hI : I 13 11 = nI m) : ∀ (r j fuel : Nat) (J : hJ), j + r = m + 2 → r < fuel → (∀ i, i < m + 2 → J a2 i = lI (y i)) → (∀ i, i < m + 2 → J a1 i = lI (if i < j then q i else x i)) → ∃ J' : hJ, mPl_clearRow_L39 fuel a1 a2 (lI B) (lI P) (lI T) (nI j) I J = some J' ∧ (∀ a i, a ≠ a1 → J' a i = J a i) ∧ ∀ i, i < m + 2 → J' a1 i = lI (q i) := by
  intro r
  induction r with
  | zero =>
    intro j fuel J hj hf h1 h2
    obtain ⟨fuel, rfl⟩ : ∃ m, fuel = m + 1 := ⟨fuel - 1, by omega⟩
    unfold mPl_clearRow_L39 mPl_clearRow_B39
    rw [hI]
    simp (disch := omega) only [↓reduceIte, h_let, hg_in, hg_zb, hg_z0, hg_z1, hg_nz, Option.bind_some, if_pos, if_neg, bI_0, bI_n0, nI_add, nI_mul, nI_ltI, nI_leI, nI_eq, nI_clamp, nI_subN, nI_divN, nI_mod2, nI_m1e, nI_em1, nI_m2e, nI_lt0, m1_lt0, m1_lt, m1_le, h_u_at, h_u_off2, h_u_pl, li_0, li_1, li_2, li_3, li_4, li_5, li_6, li_7, li_8, li_9, li_10, li_11, li_12, li_13, li_14, li_15, li_16, li_17, li_18, li_19, li_20, li_21, li_22, li_23, li_24, li_25, li_26, li_27, li_28, li_29, li_30, li_31, li_32, li_40, li_43, li_45, li_47, li_48, li_57, li_59, li_60, li_61, li_62, li_63, li_64, li_80, li_92, li_97, li_99, li_100, li_122, li_123, li_125, li_166, li_201, li_210, li_250, li_255, li_256, li_257, li_258, li_259, li_260, li_261, li_262, li_263, li_264, li_265, li_266, li_267, li_268, li_300, li_500, li_1000, li_12345, li_27720, li_1000000, li_1103515245, ne_m1, ne_m2]
    exact ⟨J, rfl, fun _ _ _ => rfl, fun i hi => by rw [h2 i hi, if_pos (by omega)]⟩
  | succ r ih =>
    intro j fuel J hj hf h1 h2
    obtain ⟨fuel, rfl⟩ : ∃ m, fuel = m + 1 := ⟨fuel - 1, by omega⟩
    have e1 := h1 j (by omega)
    have e2 := h2 j (by omega)
    rw [if_neg (Nat.lt_irrefl j)] at e2
    have e3 := hq j (by omega)
    have e4 := hbd j (by omega)
    have e5 : lI (P * x j - T * y j) / lI B = lI (q j) := by
      rw [← e3] at e4 ⊢
      exact lI_divx (by omega) (by omega) (by omega) (by omega) (by omega)
    obtain ⟨J', a1', a2', a3'⟩ := ih (j + 1) fuel (h_u J a1 j (lI (q j))) (by omega) (by omega) (fun i hi => by rw [h_u_off2 _ _ _ _ (fun h => hne h.symm)]; exact h1 i hi) (fun i hi => by
      by_cases e : i = j
      · subst e; rw [h_u_at, if_pos (by omega)]
      · rw [h_u_pl _ _ _ e, h2 i hi]
        by_cases e2 : i < j
        · rw [if_pos e2, if_pos (by omega)]
        · rw [if_neg e2, if_neg (by omega)])
    unfold mPl_clearRow_L39 mPl_clearRow_B39
    rw [hI]
    simp (disch := omega) only [↓reduceIte, h_let, hg_in, hg_zb, hg_z0, hg_z1, hg_nz, Option.bind_some, if_pos, if_neg, bI_0, bI_n0, nI_add, nI_mul, nI_ltI, nI_leI, nI_eq, nI_clamp, nI_subN, nI_divN, nI_mod2, nI_m1e, nI_em1, nI_m2e, nI_lt0, m1_lt0, m1_lt, m1_le, h_u_at, h_u_off2, h_u_pl, li_0, li_1, li_2, li_3, li_4, li_5, li_6, li_7, li_8, li_9, li_10, li_11, li_12, li_13, li_14, li_15, li_16, li_17, li_18, li_19, li_20, li_21, li_22, li_23, li_24, li_25, li_26, li_27, li_28, li_29, li_30, li_31, li_32, li_40, li_43, li_45, li_47, li_48, li_57, li_59, li_60, li_61, li_62, li_63, li_64, li_80, li_92, li_97, li_99, li_100, li_122, li_123, li_125, li_166, li_201, li_210, li_250, li_255, li_256, li_257, li_258, li_259, li_260, li_261, li_262, li_263, li_264, li_265, li_266, li_267, li_268, li_300, li_500, li_1000, li_12345, li_27720, li_1000000, li_1103515245, ne_m1, ne_m2, hg_nzL, e1, e2, lI_mul, lI_sub, e5, a1']
    exact ⟨J', rfl, fun a i h => by rw [a2' a i h, h_u_off2 _ _ _ _ h], a3'⟩
theorem prod_bd {a b c d : Int} (ha : - 1048576 ≤ a ∧ a ≤ 1048576) (hb : - 5033164800 ≤ b ∧ b ≤ 5033164800) (hc : - 1048576 ≤ c ∧ c ≤ 1048576) (hd : - 5033164800 ≤ d ∧ d ≤ 5033164800) : - 2 ^ 62 < a * b - c * d ∧ a * b - c * d < 2 ^ 62 := by
  have key : ∀ x y : Int, (- 1048576 ≤ x ∧ x ≤ 1048576) → (- 5033164800 ≤ y ∧ y ≤ 5033164800) → (x * y).natAbs ≤ 1048576 * 5033164800 := fun x y hx hy => by
    rw [Int.natAbs_mul]
    exact Nat.mul_le_mul (by omega) (by omega)
  have h1 := key a b ha hb
  have h2 := key c d hc hd
  omega
/-- the rows at a stage -/
def stOk (D : rD) (p : Nat) (f : Nat → Bool) (k : Nat → Nat) (J : hJ) : Prop := ∀ i, i < cnt f (D 0 0) → ∀ j, j < cnt f (D 0 0) + 2 → J (21 + i) j = lI (sV D p f (k i) i j)
theorem pl_clear (hD : rOk D) (hf : ∀ u, f u = true → pPs D p u = true) {k i : Nat} (hk : k < cnt f (D 0 0)) (hi : i < cnt f (D 0 0)) (hne : i ≠ k) {I : hI} {J : hJ} (hI : I 13 11 = nI (cnt f (D 0 0))) (hJi : ∀ j, j < cnt f (D 0 0) + 2 → J (21 + i) j = lI (sV D p f k i j)) (hJk : ∀ j, j < cnt f (D 0 0) + 2 → J (21 + k) j = lI (sV D p f k k j)) : ∃ J' : hJ, mPl_clearRow (21 + i) (21 + k) (nI k) (lI (dt (rsN (eR D p f) k) (csN k))) I J = some J' ∧ (∀ a l, a ≠ 21 + i → J' a l = J a l) ∧ ∀ j, j < cnt f (D 0 0) + 2 → J' (21 + i) j = lI (sV D p f (k + 1) i j) := by
  have hn := hD.2.1
  have hm := cnt_le f (D 0 0)
  have hfi : ∀ u, f u = true → pIn D u = true := fun u hu => by have := hf u hu; unfold pPs at this; rw [Bool.and_eq_true] at this; exact this.1
  have hd := eq_pos hD hf k (by omega)
  have hdl := lead_le (p := p) hD hfi (k := k) (by omega)
  obtain ⟨J', a1, a2, a3⟩ := pl_clear_L (a1 := 21 + i) (a2 := 21 + k) (m := cnt f (D 0 0)) (by omega) (by omega) (B := dt (rsN (eR D p f) k) (csN k)) (P := sV D p f k k k) (T := sV D p f k i k) (x := sV D p f k i) (y := sV D p f k k) (q := sV D p f (k + 1) i) ⟨hd, hdl⟩ (fun j _ => sV_step hk (by omega) hne) (fun j _ => prod_bd (sV_leA hD hfi hk hk hk) (sV_le hD hfi (by omega) (Or.inl (by omega)) hi) (sV_leA hD hfi hk hi hk) (sV_le hD hfi (by omega) (Or.inl (by omega)) hk)) hI (cnt f (D 0 0) + 2) 0 hF J (by omega) (by unfold hF; omega) hJk (fun l hl => by rw [if_neg (Nat.not_lt_zero l)]; exact hJi l hl)
  have ho : mC_isOutside (nI k) (nI 12) = nI 0 := by
    unfold mC_isOutside
    simp (disch := omega) only [↓reduceIte, h_let, hg_in, hg_zb, hg_z0, hg_z1, hg_nz, Option.bind_some, if_pos, if_neg, bI_0, bI_n0, nI_add, nI_mul, nI_ltI, nI_leI, nI_eq, nI_clamp, nI_subN, nI_divN, nI_mod2, nI_m1e, nI_em1, nI_m2e, nI_lt0, m1_lt0, m1_lt, m1_le, h_u_at, h_u_off2, h_u_pl, li_0, li_1, li_2, li_3, li_4, li_5, li_6, li_7, li_8, li_9, li_10, li_11, li_12, li_13, li_14, li_15, li_16, li_17, li_18, li_19, li_20, li_21, li_22, li_23, li_24, li_25, li_26, li_27, li_28, li_29, li_30, li_31, li_32, li_40, li_43, li_45, li_47, li_48, li_57, li_59, li_60, li_61, li_62, li_63, li_64, li_80, li_92, li_97, li_99, li_100, li_122, li_123, li_125, li_166, li_201, li_210, li_250, li_255, li_256, li_257, li_258, li_259, li_260, li_261, li_262, li_263, li_264, li_265, li_266, li_267, li_268, li_300, li_500, li_1000, li_12345, li_27720, li_1000000, li_1103515245, ne_m1, ne_m2]
  have hz : ¬ (lI (dt (rsN (eR D p f) k) (csN k)) = (0 : Int64)) := fun e => by
    have := (lI_eq (b := 0) (by omega) (by omega) (by decide) (by decide)).mp e
    omega
  unfold mPl_clearRow
  simp (disch := omega) only [↓reduceIte, h_let, hg_in, hg_zb, hg_z0, hg_z1, hg_nz, Option.bind_some, if_pos, if_neg, bI_0, bI_n0, nI_add, nI_mul, nI_ltI, nI_leI, nI_eq, nI_clamp, nI_subN, nI_divN, nI_mod2, nI_m1e, nI_em1, nI_m2e, nI_lt0, m1_lt0, m1_lt, m1_le, h_u_at, h_u_off2, h_u_pl, li_0, li_1, li_2, li_3, li_4, li_5, li_6, li_7, li_8, li_9, li_10, li_11, li_12, li_13, li_14, li_15, li_16, li_17, li_18, li_19, li_20, li_21, li_22, li_23, li_24, li_25, li_26, li_27, li_28, li_29, li_30, li_31, li_32, li_40, li_43, li_45, li_47, li_48, li_57, li_59, li_60, li_61, li_62, li_63, li_64, li_80, li_92, li_97, li_99, li_100, li_122, li_123, li_125, li_166, li_201, li_210, li_250, li_255, li_256, li_257, li_258, li_259, li_260, li_261, li_262, li_263, li_264, li_265, li_266, li_267, li_268, li_300, li_500, li_1000, li_12345, li_27720, li_1000000, li_1103515245, ne_m1, ne_m2, ho, hz, hJk k (by omega), hJi k (by omega), a1]
  exact ⟨J', rfl, a2, a3⟩
theorem pl_solve_i (hD : rOk D) (hf : ∀ u, f u = true → pPs D p u = true) {k : Nat} (hk : k < cnt f (D 0 0)) {I : hI} (hI : I 13 11 = nI (cnt f (D 0 0))) (k4 : _) : ∀ (r i fuel : Nat) (J : hJ), i + r = cnt f (D 0 0) → r < fuel → stOk D p f (fun l => if l < i then k + 1 else k) J → ∃ J' : hJ, mPl_solve_L31 k4 fuel (lI (dt (rsN (eR D p f) k) (csN k))) (nI k) (lI (dt (rsN (eR D p f) (k + 1)) (csN (k + 1)))) (nI i) I J = k4 (lI (dt (rsN (eR D p f) (k + 1)) (csN (k + 1)))) (nI (k + 1)) I J' ∧ (∀ a l, (a < 21 ∨ 30 < a) → J' a l = J a l) ∧ stOk D p f (fun _ => k + 1) J' := by
  have hn := hD.2.1
  have hm := cnt_le f (D 0 0)
  have hfi : ∀ u, f u = true → pIn D u = true := fun u hu => by have := hf u hu; unfold pPs at this; rw [Bool.and_eq_true] at this; exact this.1
  have hd := eq_pos hD hf k (by omega)
  have hdl := lead_le (p := p) hD hfi (k := k) (by omega)
  have hz : ¬ (lI (dt (rsN (eR D p f) k) (csN k)) = (0 : Int64)) := fun e => by
    have := (lI_eq (b := 0) (by omega) (by omega) (by decide) (by decide)).mp e
    omega
  intro r
  induction r with
  | zero =>
    intro i fuel J hi hfu hJ
    obtain ⟨fuel, rfl⟩ : ∃ m, fuel = m + 1 := ⟨fuel - 1, by omega⟩
    unfold mPl_solve_L31 mPl_solve_B31
    rw [hI]
    simp (disch := omega) only [↓reduceIte, h_let, hg_in, hg_zb, hg_z0, hg_z1, hg_nz, Option.bind_some, if_pos, if_neg, bI_0, bI_n0, nI_add, nI_mul, nI_ltI, nI_leI, nI_eq, nI_clamp, nI_subN, nI_divN, nI_mod2, nI_m1e, nI_em1, nI_m2e, nI_lt0, m1_lt0, m1_lt, m1_le, h_u_at, h_u_off2, h_u_pl, li_0, li_1, li_2, li_3, li_4, li_5, li_6, li_7, li_8, li_9, li_10, li_11, li_12, li_13, li_14, li_15, li_16, li_17, li_18, li_19, li_20, li_21, li_22, li_23, li_24, li_25, li_26, li_27, li_28, li_29, li_30, li_31, li_32, li_40, li_43, li_45, li_47, li_48, li_57, li_59, li_60, li_61, li_62, li_63, li_64, li_80, li_92, li_97, li_99, li_100, li_122, li_123, li_125, li_166, li_201, li_210, li_250, li_255, li_256, li_257, li_258, li_259, li_260, li_261, li_262, li_263, li_264, li_265, li_266, li_267, li_268, li_300, li_500, li_1000, li_12345, li_27720, li_1000000, li_1103515245, ne_m1, ne_m2]
    refine ⟨J, rfl, fun _ _ _ => rfl, fun l hl j hj => ?_⟩
    have := hJ l hl j hj
    simp only [if_pos (show l < i by omega)] at this
    exact this
  | succ r ih =>
    intro i fuel J hi hfu hJ
    obtain ⟨fuel, rfl⟩ : ∃ m, fuel = m + 1 := ⟨fuel - 1, by omega⟩
    have hJi : ∀ j, j < cnt f (D 0 0) + 2 → J (21 + i) j = lI (sV D p f k i j) := fun j hj => by
      have := hJ i (by omega) j hj
      simp only [if_neg (Nat.lt_irrefl i)] at this
      exact this
    have hJk : ∀ j, j < cnt f (D 0 0) + 2 → J (21 + k) j = lI (sV D p f k k j) := fun j hj => by
      have := hJ k hk j hj
      by_cases e : k < i
      · simp only [if_pos e] at this
        rw [this, sV_row]
      · simp only [if_neg e] at this
        exact this
    unfold mPl_solve_L31 mPl_solve_B31
    rw [hI]
    by_cases hik : i = k
    · subst hik
      obtain ⟨J', a1, a2, a3⟩ := ih (i + 1) fuel J (by omega) (by omega) (fun l hl j hj => by
        show _ = lI (sV D p f (if l < i + 1 then i + 1 else i) l j)
        by_cases e : l = i
        · subst e
          rw [if_pos (Nat.lt_succ_self l), sV_row]
          exact hJi j hj
        · have := hJ l hl j hj
          by_cases e2 : l < i
          · simp only [if_pos e2] at this
            rw [if_pos (by omega)]; exact this
          · simp only [if_neg e2] at this
            rw [if_neg (by omega)]; exact this)
      simp (disch := omega) only [↓reduceIte, h_let, hg_in, hg_zb, hg_z0, hg_z1, hg_nz, Option.bind_some, if_pos, if_neg, bI_0, bI_n0, nI_add, nI_mul, nI_ltI, nI_leI, nI_eq, nI_clamp, nI_subN, nI_divN, nI_mod2, nI_m1e, nI_em1, nI_m2e, nI_lt0, m1_lt0, m1_lt, m1_le, h_u_at, h_u_off2, h_u_pl, li_0, li_1, li_2, li_3, li_4, li_5, li_6, li_7, li_8, li_9, li_10, li_11, li_12, li_13, li_14, li_15, li_16, li_17, li_18, li_19, li_20, li_21, li_22, li_23, li_24, li_25, li_26, li_27, li_28, li_29, li_30, li_31, li_32, li_40, li_43, li_45, li_47, li_48, li_57, li_59, li_60, li_61, li_62, li_63, li_64, li_80, li_92, li_97, li_99, li_100, li_122, li_123, li_125, li_166, li_201, li_210, li_250, li_255, li_256, li_257, li_258, li_259, li_260, li_261, li_262, li_263, li_264, li_265, li_266, li_267, li_268, li_300, li_500, li_1000, li_12345, li_27720, li_1000000, li_1103515245, ne_m1, ne_m2, a1]
      exact ⟨J', rfl, a2, a3⟩
    · obtain ⟨J1, b1, b2, b3⟩ := pl_clear hD hf hk (i := i) (by omega) hik hI hJi hJk
      obtain ⟨J', a1, a2, a3⟩ := ih (i + 1) fuel J1 (by omega) (by omega) (fun l hl j hj => by
        show _ = lI (sV D p f (if l < i + 1 then k + 1 else k) l j)
        by_cases e : l = i
        · subst e
          rw [if_pos (Nat.lt_succ_self l)]
          exact b3 j hj
        · rw [b2 _ _ (by omega)]
          have := hJ l hl j hj
          by_cases e2 : l < i
          · simp only [if_pos e2] at this
            rw [if_pos (by omega)]; exact this
          · simp only [if_neg e2] at this
            rw [if_neg (by omega)]; exact this)
      simp (disch := omega) only [↓reduceIte, h_let, hg_in, hg_zb, hg_z0, hg_z1, hg_nz, Option.bind_some, if_pos, if_neg, bI_0, bI_n0, nI_add, nI_mul, nI_ltI, nI_leI, nI_eq, nI_clamp, nI_subN, nI_divN, nI_mod2, nI_m1e, nI_em1, nI_m2e, nI_lt0, m1_lt0, m1_lt, m1_le, h_u_at, h_u_off2, h_u_pl, li_0, li_1, li_2, li_3, li_4, li_5, li_6, li_7, li_8, li_9, li_10, li_11, li_12, li_13, li_14, li_15, li_16, li_17, li_18, li_19, li_20, li_21, li_22, li_23, li_24, li_25, li_26, li_27, li_28, li_29, li_30, li_31, li_32, li_40, li_43, li_45, li_47, li_48, li_57, li_59, li_60, li_61, li_62, li_63, li_64, li_80, li_92, li_97, li_99, li_100, li_122, li_123, li_125, li_166, li_201, li_210, li_250, li_255, li_256, li_257, li_258, li_259, li_260, li_261, li_262, li_263, li_264, li_265, li_266, li_267, li_268, li_300, li_500, li_1000, li_12345, li_27720, li_1000000, li_1103515245, ne_m1, ne_m2, hz, b1, a1]
      exact ⟨J', rfl, fun a l h => by rw [a2 a l h, b2 a l (by omega)], a3⟩
theorem pl_solve_L (hD : rOk D) (hf : ∀ u, f u = true → pPs D p u = true) {I : hI} (hI : I 13 11 = nI (cnt f (D 0 0))) : ∀ (r k fuel : Nat) (J : hJ), k + r = cnt f (D 0 0) → r < fuel → stOk D p f (fun _ => k) J → ∃ J' : hJ, mPl_solve_L4 fuel (lI (dt (rsN (eR D p f) k) (csN k))) (nI k) I J = some J' ∧ (∀ a l, (a < 21 ∨ 30 < a) → J' a l = J a l) ∧ stOk D p f (fun _ => cnt f (D 0 0)) J' := by
  have hn := hD.2.1
  have hm := cnt_le f (D 0 0)
  intro r
  induction r with
  | zero =>
    intro k fuel J hk hfu hJ
    obtain ⟨fuel, rfl⟩ : ∃ m, fuel = m + 1 := ⟨fuel - 1, by omega⟩
    obtain rfl : k = cnt f (D 0 0) := by omega
    unfold mPl_solve_L4 mPl_solve_B4
    rw [hI]
    simp (disch := omega) only [↓reduceIte, h_let, hg_in, hg_zb, hg_z0, hg_z1, hg_nz, Option.bind_some, if_pos, if_neg, bI_0, bI_n0, nI_add, nI_mul, nI_ltI, nI_leI, nI_eq, nI_clamp, nI_subN, nI_divN, nI_mod2, nI_m1e, nI_em1, nI_m2e, nI_lt0, m1_lt0, m1_lt, m1_le, h_u_at, h_u_off2, h_u_pl, li_0, li_1, li_2, li_3, li_4, li_5, li_6, li_7, li_8, li_9, li_10, li_11, li_12, li_13, li_14, li_15, li_16, li_17, li_18, li_19, li_20, li_21, li_22, li_23, li_24, li_25, li_26, li_27, li_28, li_29, li_30, li_31, li_32, li_40, li_43, li_45, li_47, li_48, li_57, li_59, li_60, li_61, li_62, li_63, li_64, li_80, li_92, li_97, li_99, li_100, li_122, li_123, li_125, li_166, li_201, li_210, li_250, li_255, li_256, li_257, li_258, li_259, li_260, li_261, li_262, li_263, li_264, li_265, li_266, li_267, li_268, li_300, li_500, li_1000, li_12345, li_27720, li_1000000, li_1103515245, ne_m1, ne_m2]
    exact ⟨J, rfl, fun _ _ _ => rfl, hJ⟩
  | succ r ih =>
    intro k fuel J hk hfu hJ
    obtain ⟨fuel, rfl⟩ : ∃ m, fuel = m + 1 := ⟨fuel - 1, by omega⟩
    obtain ⟨J1, b1, b2, b3⟩ := pl_solve_i hD hf (k := k) (by omega) hI (mPl_solve_L4 fuel) (cnt f (D 0 0)) 0 hF J (by omega) (by unfold hF; omega) (fun l hl j hj => by
      simp only [if_neg (Nat.not_lt_zero l)]
      exact hJ l hl j hj)
    obtain ⟨J', a1, a2, a3⟩ := ih (k + 1) fuel J1 (by omega) (by omega) b3
    have hpv := hJ k (by omega) k (by omega)
    rw [sV_kk k (by omega)] at hpv
    unfold mPl_solve_L4 mPl_solve_B4
    rw [hI]
    simp (disch := omega) only [↓reduceIte, h_let, hg_in, hg_zb, hg_z0, hg_z1, hg_nz, Option.bind_some, if_pos, if_neg, bI_0, bI_n0, nI_add, nI_mul, nI_ltI, nI_leI, nI_eq, nI_clamp, nI_subN, nI_divN, nI_mod2, nI_m1e, nI_em1, nI_m2e, nI_lt0, m1_lt0, m1_lt, m1_le, h_u_at, h_u_off2, h_u_pl, li_0, li_1, li_2, li_3, li_4, li_5, li_6, li_7, li_8, li_9, li_10, li_11, li_12, li_13, li_14, li_15, li_16, li_17, li_18, li_19, li_20, li_21, li_22, li_23, li_24, li_25, li_26, li_27, li_28, li_29, li_30, li_31, li_32, li_40, li_43, li_45, li_47, li_48, li_57, li_59, li_60, li_61, li_62, li_63, li_64, li_80, li_92, li_97, li_99, li_100, li_122, li_123, li_125, li_166, li_201, li_210, li_250, li_255, li_256, li_257, li_258, li_259, li_260, li_261, li_262, li_263, li_264, li_265, li_266, li_267, li_268, li_300, li_500, li_1000, li_12345, li_27720, li_1000000, li_1103515245, ne_m1, ne_m2, hpv, b1, a1]
    exact ⟨J', rfl, fun a l h => by rw [a2 a l h, b2 a l h], a3⟩
/-- the solution: Cramer's numbers -/
def gS (D : rD) (p : Nat) (f : Nat → Bool) (i b : Nat) : Int := dt (rsN (eR D p f) (cnt f (D 0 0))) ((csN (cnt f (D 0 0))).set (cnt f (D 0 0) - 1 - i) b)
def gD (D : rD) (p : Nat) (f : Nat → Bool) : Int := dt (rsN (eR D p f) (cnt f (D 0 0))) (csN (cnt f (D 0 0)))
theorem set_same {cs : List Nat} {i x : Nat} (h : i < cs.length) (hx : cs.getD i 0 = x) : cs.set i x = cs := by
  subst hx
  have e : cs.getD i 0 = cs[i] := by simp [List.getD, h]
  rw [e]
  exact List.set_getElem_self h
theorem pl_solve (hD : rOk D) (hf : ∀ u, f u = true → pPs D p u = true) {I : hI} (hI : I 13 11 = nI (cnt f (D 0 0))) {J : hJ} (gJ : ∀ u, u < D 0 0 → f u = true → ∀ j, j < cnt f (D 0 0) + 2 → J (21 + cnt f u) j = lI (eV D p f u j)) : ∃ J' : hJ, mPl_solve I J = some J' ∧ (∀ a l, (a < 21 ∨ 30 < a) → J' a l = J a l) ∧ ∀ i, i < cnt f (D 0 0) → J' (21 + i) (cnt f (D 0 0)) = lI (gS D p f i 20) ∧ J' (21 + i) (cnt f (D 0 0) + 1) = lI (gS D p f i 21) ∧ J' (21 + i) i = lI (gD D p f) := by
  have hn := hD.2.1
  have hm := cnt_le f (D 0 0)
  obtain ⟨J', a1, a2, a3⟩ := pl_solve_L hD hf hI (cnt f (D 0 0)) 0 hF J (by omega) (by unfold hF; omega) (fun i hi j hj => by
    obtain ⟨s1, s2, s3⟩ := sel_spec f (D 0 0) i hi
    have := gJ _ s1 s2 j hj
    rw [s3, eV_eR hD s1 s2, s3] at this
    rw [this, sV_0])
  unfold mPl_solve
  have e1 : (1 : Int64) = lI (dt (rsN (eR D p f) 0) (csN 0)) := rfl
  rw [e1, li_0, a1]
  refine ⟨J', rfl, a2, fun i hi => ⟨?_, ?_, ?_⟩⟩
  · rw [a3 i hi _ (by omega)]
    unfold sV lab gS
    rw [if_pos hi, if_neg (Nat.lt_irrefl _), if_pos rfl]
  · rw [a3 i hi _ (by omega)]
    unfold sV lab gS
    rw [if_pos hi, if_neg (by omega), if_neg (by omega)]
  · rw [show J' (21 + i) i = lI (sV D p f (cnt f (D 0 0)) i i) from a3 i hi i (by omega)]
    unfold sV lab gD
    rw [if_pos hi, if_pos hi, set_same (by rw [csN_len]; omega) (by rw [csN_at _ _ (by omega)]; omega)]
end Sv
