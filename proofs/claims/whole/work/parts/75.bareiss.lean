/-! The reference's determinant: elimination with exchanges of rows, every division exact. -/
theorem dt_swapG (l1 l2 l3 : List dR) (x y : dR) (cs : List Nat) : dt (l1 ++ x :: (l2 ++ y :: l3)) cs = - dt (l1 ++ y :: (l2 ++ x :: l3)) cs := by
  have h0 : dt (l1 ++ (fun c => x c + 1 * y c) :: (l2 ++ (fun c => x c + 1 * y c) :: l3)) cs = 0 := dt_dupU (List.mem_append_right _ List.mem_cons_self) cs
  rw [dt_addrow] at h0
  have e1 := dt_addrow (l1 ++ x :: l2) l3 x y 1 cs
  have e2 := dt_addrow (l1 ++ y :: l2) l3 x y 1 cs
  simp only [List.append_assoc, List.cons_append] at e1 e2
  rw [e1, e2] at h0
  have d1 : dt (l1 ++ x :: (l2 ++ x :: l3)) cs = 0 := dt_dupU (List.mem_append_right _ List.mem_cons_self) cs
  have d2 : dt (l1 ++ y :: (l2 ++ y :: l3)) cs = 0 := dt_dupU (List.mem_append_right _ List.mem_cons_self) cs
  omega
def rsF (ρ : Nat → dR) (a : Nat) : Nat → List dR
  | 0 => []
  | c + 1 => ρ (a + c) :: rsF ρ a c
theorem rsN_app (ρ : Nat → dR) (a : Nat) : ∀ c, rsN ρ (a + c) = rsF ρ a c ++ rsN ρ a
  | 0 => rfl
  | c + 1 => by
    show rsN ρ (a + c + 1) = ρ (a + c) :: (rsF ρ a c ++ rsN ρ a)
    rw [rsN, rsN_app ρ a c]
theorem rsF_congr {ρ σ : Nat → dR} {a : Nat} : ∀ c, (∀ i, a ≤ i → i < a + c → ρ i = σ i) → rsF ρ a c = rsF σ a c
  | 0, _ => rfl
  | c + 1, h => by
    rw [rsF, rsF, h (a + c) (by omega) (by omega), rsF_congr c (fun i h1 h2 => h i h1 (by omega))]
theorem rsN_congr {ρ σ : Nat → dR} : ∀ c, (∀ i, i < c → ρ i = σ i) → rsN ρ c = rsN σ c
  | 0, _ => rfl
  | c + 1, h => by rw [rsN, rsN, h c (by omega), rsN_congr c (fun i hi => h i (by omega))]
def swF (ρ : Nat → dR) (a b : Nat) : Nat → dR := fun x => if x = a then ρ b else if x = b then ρ a else ρ x
theorem dt_sw {ρ : Nat → dR} {a b n : Nat} (hab : a < b) (hb : b < n) (cs : List Nat) : dt (rsN (swF ρ a b) n) cs = - dt (rsN ρ n) cs := by
  have split : ∀ σ : Nat → dR, rsN σ n = rsF σ (b + 1) (n - b - 1) ++ σ b :: (rsF σ (a + 1) (b - a - 1) ++ σ a :: rsN σ a) := fun σ => by
    have h1 := rsN_app σ (b + 1) (n - b - 1)
    have e1 : b + 1 + (n - b - 1) = n := by omega
    rw [e1] at h1
    have h2 := rsN_app σ (a + 1) (b - a - 1)
    have e2 : a + 1 + (b - a - 1) = b := by omega
    rw [e2] at h2
    rw [h1, rsN, h2, rsN]
  have ha : swF ρ a b a = ρ b := if_pos rfl
  have hb' : swF ρ a b b = ρ a := by unfold swF; rw [if_neg (by omega), if_pos rfl]
  have ho : ∀ i, i ≠ a → i ≠ b → swF ρ a b i = ρ i := fun i h1 h2 => by unfold swF; rw [if_neg h1, if_neg h2]
  rw [split (swF ρ a b), split ρ, ha, hb', rsF_congr (n - b - 1) (fun i h1 h2 => ho i (by omega) (by omega)), rsF_congr (b - a - 1) (fun i h1 h2 => ho i (by omega) (by omega)), rsN_congr a (fun i hi => ho i (by omega) (by omega))]
  exact dt_swapG _ _ _ _ _ cs
def csG (γ : Nat → Nat) : Nat → List Nat
  | 0 => []
  | k + 1 => γ k :: csG γ k
theorem csG_len (γ : Nat → Nat) : ∀ k, (csG γ k).length = k
  | 0 => rfl
  | k + 1 => by simp [csG, csG_len γ k]
theorem csG_mem (γ : Nat → Nat) : ∀ k c, c ∈ csG γ k → ∃ i, i < k ∧ c = γ i
  | 0, c, h => absurd h List.not_mem_nil
  | k + 1, c, h => by
    rcases List.mem_cons.mp h with e | e
    · exact ⟨k, by omega, e⟩
    · obtain ⟨i, hi, e⟩ := csG_mem γ k c e
      exact ⟨i, by omega, e⟩
theorem csG_at (γ : Nat → Nat) : ∀ k i, i < k → (csG γ k).getD i 0 = γ (k - 1 - i)
  | 0, i, h => absurd h (by omega)
  | k + 1, 0, _ => by simp [csG]
  | k + 1, i + 1, h => by
    simp only [csG, List.getD_cons_succ]
    rw [csG_at γ k i (by omega)]
    congr 1
    omega
theorem dX_csG (γ : Nat → Nat) (r : dR) (k : Nat) (x : Nat → Int) : dX r (csG γ k) x = sumN k (fun j => r (γ j) * x (k - 1 - j)) := by
  unfold dX
  rw [csG_len, sumN_rev k (fun j => r (γ j) * x (k - 1 - j))]
  refine sumN_congr (fun i hi => ?_)
  rw [csG_at γ k i hi]
  congr 2
  omega
def bE (ρ : Nat → dR) (γ : Nat → Nat) (k r i : Nat) : Int := dt (ρ r :: rsN ρ k) (γ i :: csG γ k)
def bd (ρ : Nat → dR) (γ : Nat → Nat) (k : Nat) : Int := dt (rsN ρ k) (csG γ k)
/-- no pivot: the determinant is 0 -/
theorem no_pivot {ρ : Nat → dR} {γ : Nat → Nat} {n k : Nat} (hk : k < n) (hd : bd ρ γ k ≠ 0) (hz : ∀ r, k ≤ r → r < n → bE ρ γ k r k = 0) : bd ρ γ n = 0 := by
  refine det_zero (rs := rsN ρ n) (cs := csG γ n) (x := fun i => (fun j => if j < k then - dt (rsN ρ k) ((csG γ k).set (k - 1 - j) (γ k)) else if j = k then bd ρ γ k else 0) (n - 1 - i)) (fun r hr => ?_) (i := n - 1 - k) (by rw [csG_len]; omega) ?_
  · obtain ⟨i, hi, rfl⟩ := (rsN_mem ρ n r).mp hr
    rw [dX_csG]
    have e : sumN n (fun j => ρ i (γ j) * (fun i => (fun j => if j < k then - dt (rsN ρ k) ((csG γ k).set (k - 1 - j) (γ k)) else if j = k then bd ρ γ k else 0) (n - 1 - i)) (n - 1 - j)) = sumN n (fun j => ρ i (γ j) * (if j < k then - dt (rsN ρ k) ((csG γ k).set (k - 1 - j) (γ k)) else if j = k then bd ρ γ k else 0)) := sumN_congr (fun j hj => by
      have : n - 1 - (n - 1 - j) = j := by omega
      simp only [this])
    rw [e]
    have hzz : ρ i (γ k) * dt (rsN ρ k) (csG γ k) + dX (ρ i) (csG γ k) (fun i => - dt (rsN ρ k) ((csG γ k).set i (γ k))) = 0 := by
      by_cases h : i < k
      · exact kernel_mem ((rsN_mem ρ k _).mpr ⟨i, h, rfl⟩)
      · exact kernel (hz i (by omega) hi)
    rw [dX_csG] at hzz
    have cut : ∀ m, k + 1 ≤ m → sumN m (fun j => ρ i (γ j) * (if j < k then - dt (rsN ρ k) ((csG γ k).set (k - 1 - j) (γ k)) else if j = k then bd ρ γ k else 0)) = sumN (k + 1) (fun j => ρ i (γ j) * (if j < k then - dt (rsN ρ k) ((csG γ k).set (k - 1 - j) (γ k)) else if j = k then bd ρ γ k else 0)) := by
      intro m hm
      induction m with
      | zero => omega
      | succ m ih =>
        by_cases e : k = m
        · subst e; rfl
        · rw [sumN, ih (by omega), if_neg (by omega), if_neg (by omega)]
          omega
    rw [cut n (by omega), sumN, if_neg (Nat.lt_irrefl k), if_pos rfl]
    have e2 : sumN k (fun j => ρ i (γ j) * (if j < k then - dt (rsN ρ k) ((csG γ k).set (k - 1 - j) (γ k)) else if j = k then bd ρ γ k else 0)) = sumN k (fun j => ρ i (γ j) * - dt (rsN ρ k) ((csG γ k).set (k - 1 - j) (γ k))) := sumN_congr (fun j hj => by rw [if_pos hj])
    rw [e2]
    unfold bd
    omega
  · have : n - 1 - (n - 1 - k) = k := by omega
    simp only [this, if_neg (Nat.lt_irrefl k), if_true]
    exact hd
theorem bE_step {ρ : Nat → dR} {γ : Nat → Nat} {k : Nat} (hd : bd ρ γ k ≠ 0) (r i : Nat) : bd ρ γ k * bE ρ γ (k + 1) r i = bE ρ γ k r i * bE ρ γ k k k - bE ρ γ k r k * bE ρ γ k k i := by
  have h := bareiss (rs := rsN ρ k) (cs := csG γ k) (ρ k) (ρ r) (γ k) (γ i) hd
  unfold bd bE
  show dt (rsN ρ k) (csG γ k) * dt (ρ r :: ρ k :: rsN ρ k) (γ i :: γ k :: csG γ k) = _
  rw [h]
  grind
/-- rows among given ones, and how large what is made of them is -/
def bB (R : Nat → dR) (γ : Nat → Nat) (n : Nat) : Prop := ∀ (L cs : List Nat), (∀ x ∈ L, x < n) → L.length = cs.length → 0 < cs.length → (∀ c ∈ cs, ∃ i, i < n ∧ c = γ i) → cs.length ≤ 10 → (- 5033164800 ≤ dt (L.map R) cs ∧ dt (L.map R) cs ≤ 5033164800) ∧ (cs.length ≤ 9 → - 1132462080 ≤ dt (L.map R) cs ∧ dt (L.map R) cs ≤ 1132462080)
section Det
variable {R : Nat → dR} {γ : Nat → Nat} {n : Nat}
theorem bE_bd (hB : bB R γ n) (hn : n ≤ 10) {π : Nat → Nat} (hπ : ∀ x, x < n → π x < n) {k r i : Nat} (hk : k < n) (hr : r < n) (hi : i < n) : (- 5033164800 ≤ bE (fun x => R (π x)) γ k r i ∧ bE (fun x => R (π x)) γ k r i ≤ 5033164800) ∧ (k + 1 ≤ 9 → - 1132462080 ≤ bE (fun x => R (π x)) γ k r i ∧ bE (fun x => R (π x)) γ k r i ≤ 1132462080) := by
  have e : bE (fun x => R (π x)) γ k r i = dt ((π r :: (csN k).map π).map R) (γ i :: csG γ k) := by
    unfold bE
    rw [rsN_map, List.map_cons, List.map_map]
    rfl
  rw [e]
  have h := hB (π r :: (csN k).map π) (γ i :: csG γ k) (fun x hx => by
    rcases List.mem_cons.mp hx with q | q
    · rw [q]; exact hπ r hr
    · obtain ⟨y, hy, rfl⟩ := List.mem_map.mp q
      exact hπ y (by have := (csN_mem k y).mp hy; omega)) (by simp [csN_len, csG_len]) (by simp) (fun c hc => by
    rcases List.mem_cons.mp hc with q | q
    · exact ⟨i, hi, q⟩
    · obtain ⟨j, hj, q⟩ := csG_mem γ k c q
      exact ⟨j, by omega, q⟩) (by simp [csG_len]; omega)
  refine ⟨h.1, fun h9 => h.2 (by simp [csG_len]; omega)⟩
theorem bd_bd (hB : bB R γ n) (hn : n ≤ 10) {π : Nat → Nat} (hπ : ∀ x, x < n → π x < n) {k : Nat} (hk : k ≤ n) : - 5033164800 ≤ bd (fun x => R (π x)) γ k ∧ bd (fun x => R (π x)) γ k ≤ 5033164800 := by
  cases k with
  | zero => unfold bd; simp [rsN, csG, dt]
  | succ k =>
    have e : bd (fun x => R (π x)) γ (k + 1) = bE (fun x => R (π x)) γ k k k := rfl
    rw [e]
    exact (bE_bd hB hn hπ (by omega) (by omega) (by omega)).1
def sq (ρ : Nat → dR) (γ : Nat → Nat) (n k : Nat) (J : hJ) : Prop := ∀ r i, k ≤ r → r < n → k ≤ i → i < n → J 41 (10 * r + i) = lI (bE ρ γ k r i)
theorem sqprod {a b c d : Int} (ha : - 1132462080 ≤ a ∧ a ≤ 1132462080) (hb : - 1132462080 ≤ b ∧ b ≤ 1132462080) (hc : - 1132462080 ≤ c ∧ c ≤ 1132462080) (hd : - 1132462080 ≤ d ∧ d ≤ 1132462080) : - 2 ^ 63 < a * b - c * d ∧ a * b - c * d < 2 ^ 63 := by
  have key : ∀ x y : Int, (- 1132462080 ≤ x ∧ x ≤ 1132462080) → (- 1132462080 ≤ y ∧ y ≤ 1132462080) → (x * y).natAbs ≤ 1132462080 * 1132462080 := fun x y hx hy => by
    rw [Int.natAbs_mul]
    exact Nat.mul_le_mul (by omega) (by omega)
  have h1 := key a b ha hb
  have h2 := key c d hc hd
  omega
theorem det_i (hB : bB R γ n) (hn : n ≤ 10) {π : Nat → Nat} (hπ : ∀ x, x < n → π x < n) {k r : Nat} (hkr : k < r) (hr : r < n) (hd : bd (fun x => R (π x)) γ k ≠ 0) (s : Int) (k8 k154 : _) : ∀ (c i fuel : Nat) (J : hJ), i + c = n → c < fuel → k < i → (∀ i', k ≤ i' → i' < n → J 41 (10 * k + i') = lI (bE (fun x => R (π x)) γ k k i')) → (J 41 (10 * r + k) = lI (bE (fun x => R (π x)) γ k r k)) → (∀ i', k < i' → i' < n → J 41 (10 * r + i') = lI (bE (fun x => R (π x)) γ (if i' < i then k + 1 else k) r i')) → ∃ J' : hJ, mM_determinant_L166 k8 k154 fuel (nI n) (lI s) (lI (bd (fun x => R (π x)) γ k)) (nI k) (nI r) (nI i) J = k154 (nI n) (lI s) (lI (bd (fun x => R (π x)) γ k)) (nI k) (nI (r + 1)) J' ∧ (∀ a x, (a ≠ 41 ∨ x < 10 * r + k + 1 ∨ 10 * r + n ≤ x) → J' a x = J a x) ∧ ∀ i', k < i' → i' < n → J' 41 (10 * r + i') = lI (bE (fun x => R (π x)) γ (k + 1) r i') := by
  intro c
  have hdb := bd_bd hB hn hπ (k := k) (by omega)
  induction c with
  | zero =>
    intro i fuel J hi hf hki h1 h2 h3
    obtain ⟨fuel, rfl⟩ : ∃ m, fuel = m + 1 := ⟨fuel - 1, by omega⟩
    unfold mM_determinant_L166 mM_determinant_B166
    simp (disch := omega) only [↓reduceIte, h_let, hg_in, hg_zb, hg_z0, hg_z1, hg_nz, Option.bind_some, if_pos, if_neg, bI_0, bI_n0, nI_add, nI_mul, nI_ltI, nI_leI, nI_eq, nI_clamp, nI_subN, nI_divN, nI_mod2, nI_m1e, nI_em1, nI_m2e, nI_lt0, m1_lt0, m1_lt, m1_le, h_u_at, h_u_off2, h_u_pl, li_0, li_1, li_2, li_3, li_4, li_5, li_6, li_7, li_8, li_9, li_10, li_11, li_12, li_13, li_14, li_15, li_16, li_17, li_18, li_19, li_20, li_21, li_22, li_23, li_24, li_25, li_26, li_27, li_28, li_29, li_30, li_31, li_32, li_40, li_43, li_45, li_47, li_48, li_57, li_59, li_60, li_61, li_62, li_63, li_64, li_80, li_92, li_97, li_99, li_100, li_122, li_123, li_125, li_166, li_201, li_210, li_250, li_255, li_256, li_257, li_258, li_259, li_260, li_261, li_262, li_263, li_264, li_265, li_266, li_267, li_268, li_300, li_500, li_1000, li_12345, li_27720, li_1000000, li_1103515245, ne_m1, ne_m2]
    refine ⟨J, rfl, fun _ _ _ => rfl, fun i' g1 g2 => ?_⟩
    rw [h3 i' g1 g2, if_pos (by omega)]
  | succ c ih =>
    intro i fuel J hi hf hki h1 h2 h3
    obtain ⟨fuel, rfl⟩ : ∃ m, fuel = m + 1 := ⟨fuel - 1, by omega⟩
    have e1 := h3 i hki (by omega)
    rw [if_neg (Nat.lt_irrefl i)] at e1
    have e2 := h1 k (by omega) (by omega)
    have e3 := h1 i (by omega) (by omega)
    have hst := bE_step hd r i
    have hbb := sqprod ((bE_bd hB hn hπ (k := k) (r := r) (i := i) (by omega) hr (by omega)).2 (by omega)) ((bE_bd hB hn hπ (k := k) (r := k) (i := k) (by omega) (by omega) (by omega)).2 (by omega)) ((bE_bd hB hn hπ (k := k) (r := r) (i := k) (by omega) hr (by omega)).2 (by omega)) ((bE_bd hB hn hπ (k := k) (r := k) (i := i) (by omega) (by omega) (by omega)).2 (by omega))
    rw [← hst] at hbb
    have e5 : lI (bE (fun x => R (π x)) γ k r i * bE (fun x => R (π x)) γ k k k - bE (fun x => R (π x)) γ k r k * bE (fun x => R (π x)) γ k k i) / lI (bd (fun x => R (π x)) γ k) = lI (bE (fun x => R (π x)) γ (k + 1) r i) := by
      rw [← hst]
      exact lI_divx hd hbb.1 hbb.2 (by omega) (by omega)
    obtain ⟨J', a1, a2, a3⟩ := ih (i + 1) fuel (h_u J 41 (10 * r + i) (lI (bE (fun x => R (π x)) γ (k + 1) r i))) (by omega) (by omega) (by omega) (fun i' g1 g2 => by rw [h_u_pl _ _ _ (by omega)]; exact h1 i' g1 g2) (by rw [h_u_pl _ _ _ (by omega)]; exact h2) (fun i' g1 g2 => by
      by_cases e : i' = i
      · subst e; rw [h_u_at, if_pos (Nat.lt_succ_self i')]
      · rw [h_u_pl _ _ _ (by omega), h3 i' g1 g2]
        by_cases q : i' < i
        · rw [if_pos q, if_pos (by omega)]
        · rw [if_neg q, if_neg (by omega)])
    unfold mM_determinant_L166 mM_determinant_B166
    simp (disch := omega) only [↓reduceIte, h_let, hg_in, hg_zb, hg_z0, hg_z1, hg_nz, Option.bind_some, if_pos, if_neg, bI_0, bI_n0, nI_add, nI_mul, nI_ltI, nI_leI, nI_eq, nI_clamp, nI_subN, nI_divN, nI_mod2, nI_m1e, nI_em1, nI_m2e, nI_lt0, m1_lt0, m1_lt, m1_le, h_u_at, h_u_off2, h_u_pl, li_0, li_1, li_2, li_3, li_4, li_5, li_6, li_7, li_8, li_9, li_10, li_11, li_12, li_13, li_14, li_15, li_16, li_17, li_18, li_19, li_20, li_21, li_22, li_23, li_24, li_25, li_26, li_27, li_28, li_29, li_30, li_31, li_32, li_40, li_43, li_45, li_47, li_48, li_57, li_59, li_60, li_61, li_62, li_63, li_64, li_80, li_92, li_97, li_99, li_100, li_122, li_123, li_125, li_166, li_201, li_210, li_250, li_255, li_256, li_257, li_258, li_259, li_260, li_261, li_262, li_263, li_264, li_265, li_266, li_267, li_268, li_300, li_500, li_1000, li_12345, li_27720, li_1000000, li_1103515245, ne_m1, ne_m2, hg_nzL, e1, e2, e3, h2, lI_mul, lI_sub, e5, a1]
    refine ⟨J', rfl, fun a x hx => ?_, a3⟩
    rw [a2 a x hx]
    rcases hx with hx | hx
    · exact h_u_off2 _ _ _ _ hx
    · by_cases e : a = 41
      · subst e; exact h_u_pl _ _ _ (by omega)
      · exact h_u_off2 _ _ _ _ e
theorem det_r (hB : bB R γ n) (hn : n ≤ 10) {π : Nat → Nat} (hπ : ∀ x, x < n → π x < n) {k : Nat} (hk : k < n) (hd : bd (fun x => R (π x)) γ k ≠ 0) (s : Int) (k8 : _) : ∀ (c r fuel : Nat) (J : hJ), r + c = n → c < fuel → k < r → (∀ i', k ≤ i' → i' < n → J 41 (10 * k + i') = lI (bE (fun x => R (π x)) γ k k i')) → (∀ r', r ≤ r' → r' < n → ∀ i', k ≤ i' → i' < n → J 41 (10 * r' + i') = lI (bE (fun x => R (π x)) γ k r' i')) → (∀ r', k < r' → r' < r → ∀ i', k < i' → i' < n → J 41 (10 * r' + i') = lI (bE (fun x => R (π x)) γ (k + 1) r' i')) → ∃ J' : hJ, mM_determinant_L154 k8 fuel (nI n) (lI s) (lI (bd (fun x => R (π x)) γ k)) (nI k) (nI r) J = k8 (nI n) (lI s) (lI (bd (fun x => R (π x)) γ (k + 1))) (nI (k + 1)) J' ∧ (∀ a x, a ≠ 41 → J' a x = J a x) ∧ sq (fun x => R (π x)) γ n (k + 1) J' := by
  intro c
  induction c with
  | zero =>
    intro r fuel J hr hf hkr h1 h2 h3
    obtain ⟨fuel, rfl⟩ : ∃ m, fuel = m + 1 := ⟨fuel - 1, by omega⟩
    have e2 := h1 k (by omega) hk
    have e3 : bE (fun x => R (π x)) γ k k k = bd (fun x => R (π x)) γ (k + 1) := rfl
    rw [e3] at e2
    unfold mM_determinant_L154 mM_determinant_B154
    simp (disch := omega) only [↓reduceIte, h_let, hg_in, hg_zb, hg_z0, hg_z1, hg_nz, Option.bind_some, if_pos, if_neg, bI_0, bI_n0, nI_add, nI_mul, nI_ltI, nI_leI, nI_eq, nI_clamp, nI_subN, nI_divN, nI_mod2, nI_m1e, nI_em1, nI_m2e, nI_lt0, m1_lt0, m1_lt, m1_le, h_u_at, h_u_off2, h_u_pl, li_0, li_1, li_2, li_3, li_4, li_5, li_6, li_7, li_8, li_9, li_10, li_11, li_12, li_13, li_14, li_15, li_16, li_17, li_18, li_19, li_20, li_21, li_22, li_23, li_24, li_25, li_26, li_27, li_28, li_29, li_30, li_31, li_32, li_40, li_43, li_45, li_47, li_48, li_57, li_59, li_60, li_61, li_62, li_63, li_64, li_80, li_92, li_97, li_99, li_100, li_122, li_123, li_125, li_166, li_201, li_210, li_250, li_255, li_256, li_257, li_258, li_259, li_260, li_261, li_262, li_263, li_264, li_265, li_266, li_267, li_268, li_300, li_500, li_1000, li_12345, li_27720, li_1000000, li_1103515245, ne_m1, ne_m2, e2]
    exact ⟨J, rfl, fun _ _ _ => rfl, fun r' i' g1 g2 g3 g4 => h3 r' (by omega) (by omega) i' (by omega) g4⟩
  | succ c ih =>
    intro r fuel J hr hf hkr h1 h2 h3
    obtain ⟨fuel, rfl⟩ : ∃ m, fuel = m + 1 := ⟨fuel - 1, by omega⟩
    obtain ⟨J1, b1, b2, b3⟩ := det_i hB hn hπ hkr (by omega) hd s k8 (mM_determinant_L154 k8 fuel) (n - (k + 1)) (k + 1) hF J (by omega) (by unfold hF; omega) (by omega) h1 (h2 r (Nat.le_refl _) (by omega) k (Nat.le_refl _) hk) (fun i' g1 g2 => by rw [if_neg (by omega)]; exact h2 r (Nat.le_refl _) (by omega) i' (by omega) g2)
    obtain ⟨J', a1, a2, a3⟩ := ih (r + 1) fuel J1 (by omega) (by omega) (by omega) (fun i' g1 g2 => by rw [b2 41 _ (by omega)]; exact h1 i' g1 g2) (fun r' g0 g1 i' g2 g3 => by rw [b2 41 _ (by omega)]; exact h2 r' (by omega) g1 i' g2 g3) (fun r' g0 g1 i' g2 g3 => by
      by_cases e : r' = r
      · subst e; exact b3 i' g2 g3
      · rw [b2 41 _ (by omega)]; exact h3 r' g0 (by omega) i' g2 g3)
    unfold mM_determinant_L154 mM_determinant_B154
    simp (disch := omega) only [↓reduceIte, h_let, hg_in, hg_zb, hg_z0, hg_z1, hg_nz, Option.bind_some, if_pos, if_neg, bI_0, bI_n0, nI_add, nI_mul, nI_ltI, nI_leI, nI_eq, nI_clamp, nI_subN, nI_divN, nI_mod2, nI_m1e, nI_em1, nI_m2e, nI_lt0, m1_lt0, m1_lt, m1_le, h_u_at, h_u_off2, h_u_pl, li_0, li_1, li_2, li_3, li_4, li_5, li_6, li_7, li_8, li_9, li_10, li_11, li_12, li_13, li_14, li_15, li_16, li_17, li_18, li_19, li_20, li_21, li_22, li_23, li_24, li_25, li_26, li_27, li_28, li_29, li_30, li_31, li_32, li_40, li_43, li_45, li_47, li_48, li_57, li_59, li_60, li_61, li_62, li_63, li_64, li_80, li_92, li_97, li_99, li_100, li_122, li_123, li_125, li_166, li_201, li_210, li_250, li_255, li_256, li_257, li_258, li_259, li_260, li_261, li_262, li_263, li_264, li_265, li_266, li_267, li_268, li_300, li_500, li_1000, li_12345, li_27720, li_1000000, li_1103515245, ne_m1, ne_m2, b1, a1]
    exact ⟨J', rfl, fun a x hx => by rw [a2 a x hx, b2 a x (Or.inl hx)], a3⟩
theorem det_swap_L {k row : Nat} (hkr : k < row) (hrow : row < n) (hn : n ≤ 10) (s l : Int64) (k8 : _) (J0 : hJ) : ∀ (c i fuel : Nat) (J : hJ), i + c = n → c < fuel → (∀ a x, a ≠ 41 → J a x = J0 a x) → (∀ i', i' < n → J 41 (10 * k + i') = J0 41 (10 * (if i' < i then row else k) + i') ∧ J 41 (10 * row + i') = J0 41 (10 * (if i' < i then k else row) + i')) → (∀ r i', r < 10 → r ≠ k → r ≠ row → i' < 10 → J 41 (10 * r + i') = J0 41 (10 * r + i')) → ∃ J' : hJ, mM_determinant_L59 k8 fuel (nI n) s l (nI k) (nI row) (nI i) J = mM_determinant_L154 k8 hF (nI n) (-s) l (nI k) (nI (k + 1)) J' ∧ (∀ a x, a ≠ 41 → J' a x = J0 a x) ∧ (∀ i', i' < n → J' 41 (10 * k + i') = J0 41 (10 * row + i') ∧ J' 41 (10 * row + i') = J0 41 (10 * k + i')) ∧ ∀ r i', r < 10 → r ≠ k → r ≠ row → i' < 10 → J' 41 (10 * r + i') = J0 41 (10 * r + i') := by
  intro c
  induction c with
  | zero =>
    intro i fuel J hi hf h0 h1 h2
    obtain ⟨fuel, rfl⟩ : ∃ m, fuel = m + 1 := ⟨fuel - 1, by omega⟩
    unfold mM_determinant_L59 mM_determinant_B59 mM_determinant_134
    simp (disch := omega) only [↓reduceIte, h_let, hg_in, hg_zb, hg_z0, hg_z1, hg_nz, Option.bind_some, if_pos, if_neg, bI_0, bI_n0, nI_add, nI_mul, nI_ltI, nI_leI, nI_eq, nI_clamp, nI_subN, nI_divN, nI_mod2, nI_m1e, nI_em1, nI_m2e, nI_lt0, m1_lt0, m1_lt, m1_le, h_u_at, h_u_off2, h_u_pl, li_0, li_1, li_2, li_3, li_4, li_5, li_6, li_7, li_8, li_9, li_10, li_11, li_12, li_13, li_14, li_15, li_16, li_17, li_18, li_19, li_20, li_21, li_22, li_23, li_24, li_25, li_26, li_27, li_28, li_29, li_30, li_31, li_32, li_40, li_43, li_45, li_47, li_48, li_57, li_59, li_60, li_61, li_62, li_63, li_64, li_80, li_92, li_97, li_99, li_100, li_122, li_123, li_125, li_166, li_201, li_210, li_250, li_255, li_256, li_257, li_258, li_259, li_260, li_261, li_262, li_263, li_264, li_265, li_266, li_267, li_268, li_300, li_500, li_1000, li_12345, li_27720, li_1000000, li_1103515245, ne_m1, ne_m2]
    refine ⟨J, rfl, h0, fun i' hi' => ?_, h2⟩
    have := h1 i' hi'
    simp only [if_pos (show i' < i by omega)] at this
    exact this
  | succ c ih =>
    intro i fuel J hi hf h0 h1 h2
    obtain ⟨fuel, rfl⟩ : ∃ m, fuel = m + 1 := ⟨fuel - 1, by omega⟩
    obtain ⟨e1, e2⟩ := h1 i (by omega)
    simp only [if_neg (Nat.lt_irrefl i)] at e1 e2
    obtain ⟨J', a1, a2, a3, a4⟩ := ih (i + 1) fuel (h_u (h_u J 41 (10 * row + i) (J 41 (10 * k + i))) 41 (10 * k + i) (J 41 (10 * row + i))) (by omega) (by omega) (fun a x hx => by rw [h_u_off2 _ _ _ _ hx, h_u_off2 _ _ _ _ hx]; exact h0 a x hx) (fun i' hi' => by
      by_cases e : i' = i
      · subst e
        rw [h_u_at, h_u_pl _ _ _ (by omega), h_u_at, if_pos (Nat.lt_succ_self i'), if_pos (Nat.lt_succ_self i')]
        exact ⟨e2, e1⟩
      · rw [h_u_pl _ _ _ (by omega), h_u_pl _ _ _ (by omega), h_u_pl _ _ _ (by omega), h_u_pl _ _ _ (by omega)]
        have := h1 i' hi'
        by_cases q : i' < i
        · simp only [if_pos q] at this
          simp only [if_pos (show i' < i + 1 by omega)]
          exact this
        · simp only [if_neg q] at this
          simp only [if_neg (show ¬ i' < i + 1 by omega)]
          exact this) (fun r i' g1 g2 g3 g4 => by rw [h_u_pl _ _ _ (by omega), h_u_pl _ _ _ (by omega)]; exact h2 r i' g1 g2 g3 g4)
    unfold mM_determinant_L59 mM_determinant_B59
    simp (disch := omega) only [↓reduceIte, h_let, hg_in, hg_zb, hg_z0, hg_z1, hg_nz, Option.bind_some, if_pos, if_neg, bI_0, bI_n0, nI_add, nI_mul, nI_ltI, nI_leI, nI_eq, nI_clamp, nI_subN, nI_divN, nI_mod2, nI_m1e, nI_em1, nI_m2e, nI_lt0, m1_lt0, m1_lt, m1_le, h_u_at, h_u_off2, h_u_pl, li_0, li_1, li_2, li_3, li_4, li_5, li_6, li_7, li_8, li_9, li_10, li_11, li_12, li_13, li_14, li_15, li_16, li_17, li_18, li_19, li_20, li_21, li_22, li_23, li_24, li_25, li_26, li_27, li_28, li_29, li_30, li_31, li_32, li_40, li_43, li_45, li_47, li_48, li_57, li_59, li_60, li_61, li_62, li_63, li_64, li_80, li_92, li_97, li_99, li_100, li_122, li_123, li_125, li_166, li_201, li_210, li_250, li_255, li_256, li_257, li_258, li_259, li_260, li_261, li_262, li_263, li_264, li_265, li_266, li_267, li_268, li_300, li_500, li_1000, li_12345, li_27720, li_1000000, li_1103515245, ne_m1, ne_m2, a1]
    exact ⟨J', rfl, a2, a3, a4⟩
/-- the search for a pivot -/
theorem det_find {k : Nat} (hn : n ≤ 10) (s l : Int64) (k8 : _) (J : hJ) (v : Nat → Int) (hv : ∀ r, k ≤ r → r < n → J 41 (10 * r + k) = lI (v r) ∧ - 2 ^ 62 < v r ∧ v r < 2 ^ 62) : ∀ (c r fuel : Nat), r + c = n → c < fuel → k ≤ r → k < n → (∀ r', k ≤ r' → r' < r → v r' = 0) → (mM_determinant_L18 k8 fuel (nI n) s l (nI k) (nI r) J = some (lI 0, J) ∧ ∀ r', k ≤ r' → r' < n → v r' = 0) ∨ ∃ row, k ≤ row ∧ row < n ∧ v row ≠ 0 ∧ mM_determinant_L18 k8 fuel (nI n) s l (nI k) (nI r) J = mM_determinant_L59 k8 hF (nI n) s l (nI k) (nI row) (nI 0) J := by
  intro c
  induction c with
  | zero =>
    intro r fuel hr hf hkr hkn h0
    obtain ⟨fuel, rfl⟩ : ∃ m, fuel = m + 1 := ⟨fuel - 1, by omega⟩
    obtain rfl : r = n := by omega
    left
    refine ⟨?_, h0⟩
    unfold mM_determinant_L18 mM_determinant_B18 mM_determinant_48
    have e0 : (0 : Int64) = lI 0 := rfl
    simp (disch := omega) only [↓reduceIte, h_let, hg_in, hg_zb, hg_z0, hg_z1, hg_nz, Option.bind_some, if_pos, if_neg, bI_0, bI_n0, nI_add, nI_mul, nI_ltI, nI_leI, nI_eq, nI_clamp, nI_subN, nI_divN, nI_mod2, nI_m1e, nI_em1, nI_m2e, nI_lt0, m1_lt0, m1_lt, m1_le, h_u_at, h_u_off2, h_u_pl, li_0, li_1, li_2, li_3, li_4, li_5, li_6, li_7, li_8, li_9, li_10, li_11, li_12, li_13, li_14, li_15, li_16, li_17, li_18, li_19, li_20, li_21, li_22, li_23, li_24, li_25, li_26, li_27, li_28, li_29, li_30, li_31, li_32, li_40, li_43, li_45, li_47, li_48, li_57, li_59, li_60, li_61, li_62, li_63, li_64, li_80, li_92, li_97, li_99, li_100, li_122, li_123, li_125, li_166, li_201, li_210, li_250, li_255, li_256, li_257, li_258, li_259, li_260, li_261, li_262, li_263, li_264, li_265, li_266, li_267, li_268, li_300, li_500, li_1000, li_12345, li_27720, li_1000000, li_1103515245, ne_m1, ne_m2, e0]
  | succ c ih =>
    intro r fuel hr hf hkr hkn h0
    obtain ⟨fuel, rfl⟩ : ∃ m, fuel = m + 1 := ⟨fuel - 1, by omega⟩
    obtain ⟨e1, e2, e3⟩ := hv r hkr (by omega)
    unfold mM_determinant_L18 mM_determinant_B18 mM_determinant_48
    have e0 : (0 : Int64) = lI 0 := rfl
    by_cases hz : v r = 0
    · have h := ih (r + 1) fuel (by omega) (by omega) (by omega) hkn (fun r' g1 g2 => by
        by_cases e : r' = r
        · subst e; exact hz
        · exact h0 r' g1 (by omega))
      have hc : lI (v r) = lI 0 := by rw [hz]
      simp (disch := omega) only [↓reduceIte, h_let, hg_in, hg_zb, hg_z0, hg_z1, hg_nz, Option.bind_some, if_pos, if_neg, bI_0, bI_n0, nI_add, nI_mul, nI_ltI, nI_leI, nI_eq, nI_clamp, nI_subN, nI_divN, nI_mod2, nI_m1e, nI_em1, nI_m2e, nI_lt0, m1_lt0, m1_lt, m1_le, h_u_at, h_u_off2, h_u_pl, li_0, li_1, li_2, li_3, li_4, li_5, li_6, li_7, li_8, li_9, li_10, li_11, li_12, li_13, li_14, li_15, li_16, li_17, li_18, li_19, li_20, li_21, li_22, li_23, li_24, li_25, li_26, li_27, li_28, li_29, li_30, li_31, li_32, li_40, li_43, li_45, li_47, li_48, li_57, li_59, li_60, li_61, li_62, li_63, li_64, li_80, li_92, li_97, li_99, li_100, li_122, li_123, li_125, li_166, li_201, li_210, li_250, li_255, li_256, li_257, li_258, li_259, li_260, li_261, li_262, li_263, li_264, li_265, li_266, li_267, li_268, li_300, li_500, li_1000, li_12345, li_27720, li_1000000, li_1103515245, ne_m1, ne_m2, e0, e1, hc]
      exact h
    · right
      refine ⟨r, hkr, by omega, hz, ?_⟩
      have hc : ¬ (lI (v r) = lI 0) := fun e => hz ((lI_eq (by omega) (by omega) (by decide) (by decide)).mp e)
      simp (disch := omega) only [↓reduceIte, h_let, hg_in, hg_zb, hg_z0, hg_z1, hg_nz, Option.bind_some, if_pos, if_neg, bI_0, bI_n0, nI_add, nI_mul, nI_ltI, nI_leI, nI_eq, nI_clamp, nI_subN, nI_divN, nI_mod2, nI_m1e, nI_em1, nI_m2e, nI_lt0, m1_lt0, m1_lt, m1_le, h_u_at, h_u_off2, h_u_pl, li_0, li_1, li_2, li_3, li_4, li_5, li_6, li_7, li_8, li_9, li_10, li_11, li_12, li_13, li_14, li_15, li_16, li_17, li_18, li_19, li_20, li_21, li_22, li_23, li_24, li_25, li_26, li_27, li_28, li_29, li_30, li_31, li_32, li_40, li_43, li_45, li_47, li_48, li_57, li_59, li_60, li_61, li_62, li_63, li_64, li_80, li_92, li_97, li_99, li_100, li_122, li_123, li_125, li_166, li_201, li_210, li_250, li_255, li_256, li_257, li_258, li_259, li_260, li_261, li_262, li_263, li_264, li_265, li_266, li_267, li_268, li_300, li_500, li_1000, li_12345, li_27720, li_1000000, li_1103515245, ne_m1, ne_m2, e0, e1, hc]
theorem det_L (hB : bB R γ n) (hn : n ≤ 10) (hn0 : 0 < n) (T : Int) : ∀ (c k fuel : Nat) (π : Nat → Nat) (s : Int) (J : hJ), k + c = n → c < fuel → (∀ x, x < n → π x < n) → s * bd (fun x => R (π x)) γ n = T → bd (fun x => R (π x)) γ k ≠ 0 → sq (fun x => R (π x)) γ n k J → ∃ J' : hJ, mM_determinant_L8 fuel (nI n) (lI s) (lI (bd (fun x => R (π x)) γ k)) (nI k) J = some (lI T, J') ∧ ∀ a x, a ≠ 41 → J' a x = J a x := by
  intro c
  induction c with
  | zero =>
    intro k fuel π s J hk hf hπ hT hd hq
    obtain ⟨fuel, rfl⟩ : ∃ m, fuel = m + 1 := ⟨fuel - 1, by omega⟩
    obtain rfl : k = n := by omega
    unfold mM_determinant_L8 mM_determinant_B8
    simp (disch := omega) only [↓reduceIte, h_let, hg_in, hg_zb, hg_z0, hg_z1, hg_nz, Option.bind_some, if_pos, if_neg, bI_0, bI_n0, nI_add, nI_mul, nI_ltI, nI_leI, nI_eq, nI_clamp, nI_subN, nI_divN, nI_mod2, nI_m1e, nI_em1, nI_m2e, nI_lt0, m1_lt0, m1_lt, m1_le, h_u_at, h_u_off2, h_u_pl, li_0, li_1, li_2, li_3, li_4, li_5, li_6, li_7, li_8, li_9, li_10, li_11, li_12, li_13, li_14, li_15, li_16, li_17, li_18, li_19, li_20, li_21, li_22, li_23, li_24, li_25, li_26, li_27, li_28, li_29, li_30, li_31, li_32, li_40, li_43, li_45, li_47, li_48, li_57, li_59, li_60, li_61, li_62, li_63, li_64, li_80, li_92, li_97, li_99, li_100, li_122, li_123, li_125, li_166, li_201, li_210, li_250, li_255, li_256, li_257, li_258, li_259, li_260, li_261, li_262, li_263, li_264, li_265, li_266, li_267, li_268, li_300, li_500, li_1000, li_12345, li_27720, li_1000000, li_1103515245, ne_m1, ne_m2, lI_mul, hT]
    exact ⟨J, rfl, fun _ _ _ => rfl⟩
  | succ c ih =>
    intro k fuel π s J hk hf hπ hT hd hq
    obtain ⟨fuel, rfl⟩ : ∃ m, fuel = m + 1 := ⟨fuel - 1, by omega⟩
    have hfind := det_find (n := n) (k := k) hn (lI s) (lI (bd (fun x => R (π x)) γ k)) (mM_determinant_L8 fuel) J (fun r => bE (fun x => R (π x)) γ k r k) (fun r g1 g2 => by
      have hb := (bE_bd hB hn hπ (k := k) (r := r) (i := k) (by omega) g2 (by omega)).1
      exact ⟨hq r k g1 g2 (Nat.le_refl _) (by omega), by omega, by omega⟩) (n - k) k hF (by omega) (by unfold hF; omega) (Nat.le_refl _) (by omega) (fun r' g1 g2 => by omega)
    unfold mM_determinant_L8 mM_determinant_B8
    rcases hfind with ⟨h1, h2⟩ | ⟨row, h1, h2, h3, h4⟩
    · have hT0 : T = 0 := by rw [← hT, no_pivot (by omega) hd h2]; simp
      simp (disch := omega) only [↓reduceIte, h_let, hg_in, hg_zb, hg_z0, hg_z1, hg_nz, Option.bind_some, if_pos, if_neg, bI_0, bI_n0, nI_add, nI_mul, nI_ltI, nI_leI, nI_eq, nI_clamp, nI_subN, nI_divN, nI_mod2, nI_m1e, nI_em1, nI_m2e, nI_lt0, m1_lt0, m1_lt, m1_le, h_u_at, h_u_off2, h_u_pl, li_0, li_1, li_2, li_3, li_4, li_5, li_6, li_7, li_8, li_9, li_10, li_11, li_12, li_13, li_14, li_15, li_16, li_17, li_18, li_19, li_20, li_21, li_22, li_23, li_24, li_25, li_26, li_27, li_28, li_29, li_30, li_31, li_32, li_40, li_43, li_45, li_47, li_48, li_57, li_59, li_60, li_61, li_62, li_63, li_64, li_80, li_92, li_97, li_99, li_100, li_122, li_123, li_125, li_166, li_201, li_210, li_250, li_255, li_256, li_257, li_258, li_259, li_260, li_261, li_262, li_263, li_264, li_265, li_266, li_267, li_268, li_300, li_500, li_1000, li_12345, li_27720, li_1000000, li_1103515245, ne_m1, ne_m2, h1, hT0]
      exact ⟨J, rfl, fun _ _ _ => rfl⟩
    · by_cases hrk : row = k
      · subst hrk
        obtain ⟨J1, b1, b2, b3⟩ := det_r hB hn hπ (k := row) (by omega) hd s (mM_determinant_L8 fuel) (n - (row + 1)) (row + 1) hF J (by omega) (by unfold hF; omega) (by omega) (fun i' g1 g2 => hq row i' (Nat.le_refl _) (by omega) g1 g2) (fun r' g0 g1 i' g2 g3 => hq r' i' (by omega) g1 g2 g3) (fun r' g0 g1 => by omega)
        obtain ⟨J', a1, a2⟩ := ih (row + 1) fuel π s J1 (by omega) (by omega) hπ hT h3 b3
        have hL : mM_determinant_L59 (mM_determinant_L8 fuel) hF (nI n) (lI s) (lI (bd (fun x => R (π x)) γ row)) (nI row) (nI row) (nI 0) J = mM_determinant_L154 (mM_determinant_L8 fuel) hF (nI n) (lI s) (lI (bd (fun x => R (π x)) γ row)) (nI row) (nI (row + 1)) J := by
          have e9 : hF = 999 + 1 := rfl
          conv => lhs; rw [e9]
          unfold mM_determinant_L59 mM_determinant_B59 mM_determinant_134
          simp (disch := omega) only [↓reduceIte, h_let, hg_in, hg_zb, hg_z0, hg_z1, hg_nz, Option.bind_some, if_pos, if_neg, bI_0, bI_n0, nI_add, nI_mul, nI_ltI, nI_leI, nI_eq, nI_clamp, nI_subN, nI_divN, nI_mod2, nI_m1e, nI_em1, nI_m2e, nI_lt0, m1_lt0, m1_lt, m1_le, h_u_at, h_u_off2, h_u_pl, li_0, li_1, li_2, li_3, li_4, li_5, li_6, li_7, li_8, li_9, li_10, li_11, li_12, li_13, li_14, li_15, li_16, li_17, li_18, li_19, li_20, li_21, li_22, li_23, li_24, li_25, li_26, li_27, li_28, li_29, li_30, li_31, li_32, li_40, li_43, li_45, li_47, li_48, li_57, li_59, li_60, li_61, li_62, li_63, li_64, li_80, li_92, li_97, li_99, li_100, li_122, li_123, li_125, li_166, li_201, li_210, li_250, li_255, li_256, li_257, li_258, li_259, li_260, li_261, li_262, li_263, li_264, li_265, li_266, li_267, li_268, li_300, li_500, li_1000, li_12345, li_27720, li_1000000, li_1103515245, ne_m1, ne_m2]
        simp (disch := omega) only [↓reduceIte, h_let, hg_in, hg_zb, hg_z0, hg_z1, hg_nz, Option.bind_some, if_pos, if_neg, bI_0, bI_n0, nI_add, nI_mul, nI_ltI, nI_leI, nI_eq, nI_clamp, nI_subN, nI_divN, nI_mod2, nI_m1e, nI_em1, nI_m2e, nI_lt0, m1_lt0, m1_lt, m1_le, h_u_at, h_u_off2, h_u_pl, li_0, li_1, li_2, li_3, li_4, li_5, li_6, li_7, li_8, li_9, li_10, li_11, li_12, li_13, li_14, li_15, li_16, li_17, li_18, li_19, li_20, li_21, li_22, li_23, li_24, li_25, li_26, li_27, li_28, li_29, li_30, li_31, li_32, li_40, li_43, li_45, li_47, li_48, li_57, li_59, li_60, li_61, li_62, li_63, li_64, li_80, li_92, li_97, li_99, li_100, li_122, li_123, li_125, li_166, li_201, li_210, li_250, li_255, li_256, li_257, li_258, li_259, li_260, li_261, li_262, li_263, li_264, li_265, li_266, li_267, li_268, li_300, li_500, li_1000, li_12345, li_27720, li_1000000, li_1103515245, ne_m1, ne_m2, h4, hL, b1, a1]
        exact ⟨J', rfl, fun a x hx => by rw [a2 a x hx, b2 a x hx]⟩
      · have hkr : k < row := by omega
        obtain ⟨J0, c1, c2, c3, c4⟩ := det_swap_L hkr h2 hn (lI s) (lI (bd (fun x => R (π x)) γ k)) (mM_determinant_L8 fuel) J n 0 hF J (by omega) (by unfold hF; omega) (fun _ _ _ => rfl) (fun i' hi' => by simp only [if_neg (Nat.not_lt_zero i')]; exact ⟨trivial, trivial⟩) (fun _ _ _ _ _ _ => rfl)
        have hsw : (fun x => R ((fun x => if x = k then π row else if x = row then π k else π x) x)) = swF (fun x => R (π x)) k row := by
          funext x
          unfold swF
          by_cases e1 : x = k
          · simp only [if_pos e1]
          · by_cases e2 : x = row
            · simp only [if_neg e1, if_pos e2]
            · simp only [if_neg e1, if_neg e2]
        have hπ' : ∀ x, x < n → (fun x => if x = k then π row else if x = row then π k else π x) x < n := fun x hx => by
          show (if x = k then π row else if x = row then π k else π x) < n
          split
          · exact hπ row h2
          · split
            · exact hπ k (by omega)
            · exact hπ x hx
        have hlow : rsN (swF (fun x => R (π x)) k row) k = rsN (fun x => R (π x)) k := rsN_congr k (fun i hi => by unfold swF; rw [if_neg (by omega), if_neg (by omega)])
        have hbdk : bd (swF (fun x => R (π x)) k row) γ k = bd (fun x => R (π x)) γ k := by unfold bd; rw [hlow]
        have hbEk : ∀ r i, bE (swF (fun x => R (π x)) k row) γ k r i = bE (fun x => R (π x)) γ k (if r = k then row else if r = row then k else r) i := fun r i => by
          unfold bE
          rw [hlow]
          congr 2
          unfold swF
          by_cases e1 : r = k
          · rw [if_pos e1, if_pos e1]
          · by_cases e2 : r = row
            · rw [if_neg e1, if_pos e2, if_neg e1, if_pos e2]
            · rw [if_neg e1, if_neg e2, if_neg e1, if_neg e2]
        have hq' : sq (swF (fun x => R (π x)) k row) γ n k J0 := fun r i g1 g2 g3 g4 => by
          rw [hbEk]
          by_cases e1 : r = k
          · subst e1
            rw [if_pos rfl, (c3 i g4).1]
            exact hq row i h1 h2 g3 g4
          · by_cases e2 : r = row
            · subst e2
              rw [if_neg e1, if_pos rfl, (c3 i g4).2]
              exact hq k i (Nat.le_refl _) (by omega) g3 g4
            · rw [if_neg e1, if_neg e2, c4 r i (by omega) e1 e2 (by omega)]
              exact hq r i g1 g2 g3 g4
        rw [← hsw] at hbdk hbEk hq'
        have hdn : bd (fun x => R ((fun x => if x = k then π row else if x = row then π k else π x) x)) γ k ≠ 0 := by rw [hbdk]; exact hd
        have hT' : (-s) * bd (fun x => R ((fun x => if x = k then π row else if x = row then π k else π x) x)) γ n = T := by
          rw [hsw]
          unfold bd
          rw [dt_sw hkr h2, ← hT]
          unfold bd
          grind
        obtain ⟨J1, b1, b2, b3⟩ := det_r hB hn hπ' (k := k) (by omega) hdn (-s) (mM_determinant_L8 fuel) (n - (k + 1)) (k + 1) hF J0 (by omega) (by unfold hF; omega) (by omega) (fun i' g1 g2 => hq' k i' (Nat.le_refl _) (by omega) g1 g2) (fun r' g0 g1 i' g2 g3 => hq' r' i' (by omega) g1 g2 g3) (fun r' g0 g1 => by omega)
        obtain ⟨J', a1, a2⟩ := ih (k + 1) fuel _ (-s) J1 (by omega) (by omega) hπ' hT' (by
          show bE (fun x => R ((fun x => if x = k then π row else if x = row then π k else π x) x)) γ k k k ≠ 0
          rw [hbEk, if_pos rfl]
          exact h3) b3
        rw [hbdk, ← lI_neg] at b1
        rw [← lI_neg] at a1
        simp (disch := omega) only [↓reduceIte, h_let, hg_in, hg_zb, hg_z0, hg_z1, hg_nz, Option.bind_some, if_pos, if_neg, bI_0, bI_n0, nI_add, nI_mul, nI_ltI, nI_leI, nI_eq, nI_clamp, nI_subN, nI_divN, nI_mod2, nI_m1e, nI_em1, nI_m2e, nI_lt0, m1_lt0, m1_lt, m1_le, h_u_at, h_u_off2, h_u_pl, li_0, li_1, li_2, li_3, li_4, li_5, li_6, li_7, li_8, li_9, li_10, li_11, li_12, li_13, li_14, li_15, li_16, li_17, li_18, li_19, li_20, li_21, li_22, li_23, li_24, li_25, li_26, li_27, li_28, li_29, li_30, li_31, li_32, li_40, li_43, li_45, li_47, li_48, li_57, li_59, li_60, li_61, li_62, li_63, li_64, li_80, li_92, li_97, li_99, li_100, li_122, li_123, li_125, li_166, li_201, li_210, li_250, li_255, li_256, li_257, li_258, li_259, li_260, li_261, li_262, li_263, li_264, li_265, li_266, li_267, li_268, li_300, li_500, li_1000, li_12345, li_27720, li_1000000, li_1103515245, ne_m1, ne_m2, h4, c1, b1, a1]
        exact ⟨J', rfl, fun a x hx => by rw [a2 a x hx, b2 a x hx, c2 a x hx]⟩
theorem det_main (hB : bB R γ n) (hn : n ≤ 10) {J : hJ} (hJ0 : ∀ r i, r < n → i < n → J 41 (10 * r + i) = lI (R r (γ i))) : ∃ J' : hJ, mM_determinant (nI n) J = some (lI (dt (rsN R n) (csG γ n)), J') ∧ ∀ a x, a ≠ 41 → J' a x = J a x := by
  unfold mM_determinant
  have e1 : (1 : Int64) = lI 1 := rfl
  by_cases h0 : n = 0
  · subst h0
    unfold hF mM_determinant_L8 mM_determinant_B8
    simp (disch := omega) only [↓reduceIte, h_let, hg_in, hg_zb, hg_z0, hg_z1, hg_nz, Option.bind_some, if_pos, if_neg, bI_0, bI_n0, nI_add, nI_mul, nI_ltI, nI_leI, nI_eq, nI_clamp, nI_subN, nI_divN, nI_mod2, nI_m1e, nI_em1, nI_m2e, nI_lt0, m1_lt0, m1_lt, m1_le, h_u_at, h_u_off2, h_u_pl, li_0, li_1, li_2, li_3, li_4, li_5, li_6, li_7, li_8, li_9, li_10, li_11, li_12, li_13, li_14, li_15, li_16, li_17, li_18, li_19, li_20, li_21, li_22, li_23, li_24, li_25, li_26, li_27, li_28, li_29, li_30, li_31, li_32, li_40, li_43, li_45, li_47, li_48, li_57, li_59, li_60, li_61, li_62, li_63, li_64, li_80, li_92, li_97, li_99, li_100, li_122, li_123, li_125, li_166, li_201, li_210, li_250, li_255, li_256, li_257, li_258, li_259, li_260, li_261, li_262, li_263, li_264, li_265, li_266, li_267, li_268, li_300, li_500, li_1000, li_12345, li_27720, li_1000000, li_1103515245, ne_m1, ne_m2, e1]
    exact ⟨J, rfl, fun _ _ _ => rfl⟩
  · obtain ⟨J', a1, a2⟩ := det_L hB hn (by omega) (dt (rsN R n) (csG γ n)) n 0 hF (fun x => x) 1 J (by omega) (by unfold hF; omega) (fun x hx => hx) (by unfold bd; exact Int.one_mul _) (by unfold bd; simp [rsN, csG, dt]) (fun r i _ g2 _ g4 => by
      rw [hJ0 r i g2 g4]
      congr 1
      unfold bE
      simp [rsN, csG, dt, dE])
    have e2 : bd (fun x => R ((fun x => x) x)) γ 0 = 1 := rfl
    rw [e2] at a1
    rw [e1, li_0]
    exact ⟨J', a1, a2⟩
end Det
