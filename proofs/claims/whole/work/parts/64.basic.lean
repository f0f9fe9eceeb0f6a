/-! Numbers and memory, as the models' walks use them. -/
theorem li_0 : (0 : Int32) = nI 0 := rfl
theorem li_1 : (1 : Int32) = nI 1 := rfl
theorem li_2 : (2 : Int32) = nI 2 := rfl
theorem li_3 : (3 : Int32) = nI 3 := rfl
theorem li_4 : (4 : Int32) = nI 4 := rfl
theorem li_5 : (5 : Int32) = nI 5 := rfl
theorem li_6 : (6 : Int32) = nI 6 := rfl
theorem li_7 : (7 : Int32) = nI 7 := rfl
theorem li_8 : (8 : Int32) = nI 8 := rfl
theorem li_9 : (9 : Int32) = nI 9 := rfl
theorem li_10 : (10 : Int32) = nI 10 := rfl
theorem li_11 : (11 : Int32) = nI 11 := rfl
theorem li_12 : (12 : Int32) = nI 12 := rfl
theorem li_13 : (13 : Int32) = nI 13 := rfl
theorem li_14 : (14 : Int32) = nI 14 := rfl
theorem li_15 : (15 : Int32) = nI 15 := rfl
theorem li_16 : (16 : Int32) = nI 16 := rfl
theorem li_17 : (17 : Int32) = nI 17 := rfl
theorem li_18 : (18 : Int32) = nI 18 := rfl
theorem li_19 : (19 : Int32) = nI 19 := rfl
theorem li_20 : (20 : Int32) = nI 20 := rfl
theorem li_21 : (21 : Int32) = nI 21 := rfl
theorem li_22 : (22 : Int32) = nI 22 := rfl
theorem li_23 : (23 : Int32) = nI 23 := rfl
theorem li_24 : (24 : Int32) = nI 24 := rfl
theorem li_25 : (25 : Int32) = nI 25 := rfl
theorem li_26 : (26 : Int32) = nI 26 := rfl
theorem li_27 : (27 : Int32) = nI 27 := rfl
theorem li_28 : (28 : Int32) = nI 28 := rfl
theorem li_29 : (29 : Int32) = nI 29 := rfl
theorem li_30 : (30 : Int32) = nI 30 := rfl
theorem li_31 : (31 : Int32) = nI 31 := rfl
theorem li_32 : (32 : Int32) = nI 32 := rfl
theorem li_40 : (40 : Int32) = nI 40 := rfl
theorem li_43 : (43 : Int32) = nI 43 := rfl
theorem li_45 : (45 : Int32) = nI 45 := rfl
theorem li_47 : (47 : Int32) = nI 47 := rfl
theorem li_48 : (48 : Int32) = nI 48 := rfl
theorem li_57 : (57 : Int32) = nI 57 := rfl
theorem li_59 : (59 : Int32) = nI 59 := rfl
theorem li_60 : (60 : Int32) = nI 60 := rfl
theorem li_61 : (61 : Int32) = nI 61 := rfl
theorem li_62 : (62 : Int32) = nI 62 := rfl
theorem li_63 : (63 : Int32) = nI 63 := rfl
theorem li_64 : (64 : Int32) = nI 64 := rfl
theorem li_80 : (80 : Int32) = nI 80 := rfl
theorem li_92 : (92 : Int32) = nI 92 := rfl
theorem li_97 : (97 : Int32) = nI 97 := rfl
theorem li_99 : (99 : Int32) = nI 99 := rfl
theorem li_100 : (100 : Int32) = nI 100 := rfl
theorem li_122 : (122 : Int32) = nI 122 := rfl
theorem li_123 : (123 : Int32) = nI 123 := rfl
theorem li_125 : (125 : Int32) = nI 125 := rfl
theorem li_166 : (166 : Int32) = nI 166 := rfl
theorem li_201 : (201 : Int32) = nI 201 := rfl
theorem li_210 : (210 : Int32) = nI 210 := rfl
theorem li_250 : (250 : Int32) = nI 250 := rfl
theorem li_255 : (255 : Int32) = nI 255 := rfl
theorem li_256 : (256 : Int32) = nI 256 := rfl
theorem li_257 : (257 : Int32) = nI 257 := rfl
theorem li_258 : (258 : Int32) = nI 258 := rfl
theorem li_259 : (259 : Int32) = nI 259 := rfl
theorem li_260 : (260 : Int32) = nI 260 := rfl
theorem li_261 : (261 : Int32) = nI 261 := rfl
theorem li_262 : (262 : Int32) = nI 262 := rfl
theorem li_263 : (263 : Int32) = nI 263 := rfl
theorem li_264 : (264 : Int32) = nI 264 := rfl
theorem li_265 : (265 : Int32) = nI 265 := rfl
theorem li_266 : (266 : Int32) = nI 266 := rfl
theorem li_267 : (267 : Int32) = nI 267 := rfl
theorem li_268 : (268 : Int32) = nI 268 := rfl
theorem li_300 : (300 : Int32) = nI 300 := rfl
theorem li_500 : (500 : Int32) = nI 500 := rfl
theorem li_1000 : (1000 : Int32) = nI 1000 := rfl
theorem li_12345 : (12345 : Int32) = nI 12345 := rfl
theorem li_27720 : (27720 : Int32) = nI 27720 := rfl
theorem li_1000000 : (1000000 : Int32) = nI 1000000 := rfl
theorem li_1103515245 : (1103515245 : Int32) = nI 1103515245 := rfl
abbrev m1 : Int32 := -1
abbrev m2 : Int32 := -2
theorem ne_m1 : -(nI 1) = (-1 : Int32) := rfl
theorem ne_m2 : -(nI 2) = (-2 : Int32) := rfl
theorem nI_mul (a b : Nat) : nI a * nI b = nI (a * b) := (Int32.ofNat_mul a b).symm
theorem nI_subN {a b : Nat} (h : b ≤ a) : nI a - nI b = nI (a - b) := by
  have e : nI a = nI (a - b) + nI b := by rw [nI_add, Nat.sub_add_cancel h]
  rw [e, Int32.add_sub_cancel]
theorem nI_divN {a b : Nat} (ha : a < 2 ^ 31) (hb : b < 2 ^ 31) : nI a / nI b = nI (a / b) := by
  apply Int32.toInt_inj.mp
  have h3 : a / b < 2 ^ 31 := Nat.lt_of_le_of_lt (Nat.div_le_self _ _) ha
  rw [Int32.toInt_div_of_ne_left, nI_toInt ha, nI_toInt hb, nI_toInt h3]
  · rfl
  · intro h
    have := congrArg Int32.toInt h
    rw [nI_toInt ha] at this
    have e : (Int32.minValue).toInt = -2147483648 := by decide
    omega
theorem nI_modN {a b : Nat} (ha : a < 2 ^ 31) (hb : b < 2 ^ 31) : nI a - nI a / nI b * nI b = nI (a % b) := by
  rw [nI_divN ha hb, nI_mul, nI_subN (Nat.div_mul_le_self _ _)]
  congr 1
  have := Nat.div_add_mod a b
  have e : b * (a / b) = a / b * b := Nat.mul_comm _ _
  omega
theorem nI_mod2 (a b : Nat) : nI a - nI (a / b * b) = nI (a % b) := by
  rw [nI_subN (Nat.div_mul_le_self _ _)]
  congr 1
  have := Nat.div_add_mod a b
  have e : b * (a / b) = a / b * b := Nat.mul_comm _ _
  omega
theorem nI_m1e {a : Nat} (h : a < 2 ^ 31) : (nI a = (-1 : Int32)) ↔ False := by
  refine ⟨fun e => ?_, False.elim⟩
  have := congrArg Int32.toInt e
  rw [nI_toInt h] at this
  have e2 : (-1 : Int32).toInt = -1 := by decide
  omega
theorem nI_em1 {a : Nat} (h : a < 2 ^ 31) : ((-1 : Int32) = nI a) ↔ False := by rw [eq_comm]; exact nI_m1e h
theorem nI_m2e {a : Nat} (h : a < 2 ^ 31) : (nI a = (-2 : Int32)) ↔ False := by
  refine ⟨fun e => ?_, False.elim⟩
  have := congrArg Int32.toInt e
  rw [nI_toInt h] at this
  have e2 : (-2 : Int32).toInt = -2 := by decide
  omega
theorem nI_lt0 {a : Nat} (h : a < 2 ^ 31) : (nI a < (0 : Int32)) ↔ False := ⟨fun e => nI_pos h e, False.elim⟩
theorem m1_lt0 {a : Nat} (h : a < 2 ^ 31) : ((-1 : Int32) < nI a) ↔ True := by
  refine ⟨fun _ => trivial, fun _ => ?_⟩
  rw [Int32.lt_iff_toInt_lt, nI_toInt h]
  have e2 : (-1 : Int32).toInt = -1 := by decide
  omega
theorem m1_lt {a : Nat} (h : a < 2 ^ 31) : (nI a < (-1 : Int32)) ↔ False := by
  refine ⟨fun e => ?_, False.elim⟩
  rw [Int32.lt_iff_toInt_lt, nI_toInt h] at e
  have e2 : (-1 : Int32).toInt = -1 := by decide
  omega
theorem m1_le {a : Nat} (h : a < 2 ^ 31) : (nI a ≤ (-1 : Int32)) ↔ False := by
  refine ⟨fun e => ?_, False.elim⟩
  rw [Int32.le_iff_toInt_le, nI_toInt h] at e
  have e2 : (-1 : Int32).toInt = -1 := by decide
  omega
theorem h_u_off2 {β : Type} (f : Nat → Nat → β) {a b : Nat} (i j : Nat) (x : β) (h : b ≠ a) : h_u f a i x b j = f b j := by simp [h_u, h]
theorem ll_0 : (0 : Int64) = lN 0 := rfl
theorem ll_1 : (1 : Int64) = lN 1 := rfl
theorem ll_2 : (2 : Int64) = lN 2 := rfl
theorem ll_4 : (4 : Int64) = lN 4 := rfl
theorem lN_toI {n : Nat} (h : n < 2 ^ 63) : (lN n).toInt = (n : Int) := lg_ofNat_toInt h
theorem lN_ltL {a b : Nat} (ha : a < 2 ^ 63) (hb : b < 2 ^ 63) : lN a < lN b ↔ a < b := by rw [Int64.lt_iff_toInt_lt, lN_toI ha, lN_toI hb]; omega
theorem lN_leL {a b : Nat} (ha : a < 2 ^ 63) (hb : b < 2 ^ 63) : lN a ≤ lN b ↔ a ≤ b := by rw [Int64.le_iff_toInt_le, lN_toI ha, lN_toI hb]; omega
theorem lN_shl (n : Nat) {k : Nat} (hk : k < 64) : lN n <<< ((nI k).toInt64 &&& 63) = lN (n * 2 ^ k) := by
  have hc : ∀ k, k < 64 → ((nI k).toInt64 &&& 63) = lN k := by decide +kernel
  have hs : ∀ k, k < 64 → (BitVec.ofNat 64 k).smod 64 = BitVec.ofNat 64 k := by decide +kernel
  rw [hc k hk]
  apply Int64.toBitVec_inj.mp
  show (BitVec.ofNat 64 n) <<< ((BitVec.ofNat 64 k).smod 64).toNat = BitVec.ofNat 64 (n * 2 ^ k)
  rw [hs k hk, BitVec.toNat_ofNat, Nat.mod_eq_of_lt (by omega)]
  apply BitVec.eq_of_toNat_eq
  rw [BitVec.toNat_shiftLeft, BitVec.toNat_ofNat, BitVec.toNat_ofNat, Nat.shiftLeft_eq, Nat.mod_mul_mod]
theorem lN_shl2 (n : Nat) {k : Nat} (hk : k < 64) : lN n <<< (lN k &&& 63) = lN (n * 2 ^ k) := by
  rw [← nI_l (n := k) (by omega)]
  exact lN_shl n hk
theorem and1_4 : ∀ w, w < 4 → (nI w &&& nI 1 = nI (w % 2)) := by decide +kernel
def bI (b : Bool) : Int32 := if b = true then nI 1 else nI 0
theorem bI_0 (b : Bool) : (bI b = nI 0) ↔ b = false := by cases b <;> decide
theorem bI_n0 (b : Bool) : (bI b = nI 1) ↔ b = true := by cases b <;> decide
theorem bI_t : bI true = nI 1 := rfl
theorem bI_f : bI false = nI 0 := rfl
theorem hg_in {β : Type} {i n : Nat} (k : Option β) (h : i < n) (hn : n < 2 ^ 31) : h_g (h_in (nI i) n) k = k := by
  refine h_g_of ?_ k
  have := nI_in h hn
  exact decide_eq_true this
theorem hg_zb {β : Type} (b : Bool) (k : Option β) : h_g (h_isZ (bI b)) k = k := by
  cases b <;> exact h_g_of (by decide) k
theorem hg_z0 {β : Type} (k : Option β) : h_g (h_isZ (nI 0)) k = k := h_g_of (by decide) k
theorem hg_z1 {β : Type} (k : Option β) : h_g (h_isZ (nI 1)) k = k := h_g_of (by decide) k
theorem hg_nz {β : Type} {i : Nat} (k : Option β) (h : 0 < i) (hn : i < 2 ^ 31) : h_g (h_nz (nI i)) k = k := by
  refine h_g_of ?_ k
  exact decide_eq_true (nI_ne0 h hn)
theorem bit10 : ∀ m, m < 1024 → ∀ s, s < 10 → (((nI m >>> (nI s &&& nI 31)) &&& nI 1) = nI 0 ↔ m.testBit s = false) := by
  intro m hm s hs
  have e0 : ∀ s, s < 10 → ((nI s &&& nI 31).toBitVec.smod 32).toNat = s := by decide +kernel
  have e1 : (nI m >>> (nI s &&& nI 31)) = nI (m >>> s) := by
    apply Int32.toBitVec_inj.mp
    show (nI m).toBitVec.sshiftRight ((nI s &&& nI 31).toBitVec.smod 32).toNat = _
    rw [e0 s hs]
    apply BitVec.eq_of_getLsbD_eq
    intro i hi
    rw [BitVec.getLsbD_sshiftRight]
    have hmm : (nI m).toBitVec = BitVec.ofNat 32 m := rfl
    have hms : (nI (m >>> s)).toBitVec = BitVec.ofNat 32 (m >>> s) := rfl
    have hmsb : (BitVec.ofNat 32 m).msb = false := by
      rw [BitVec.msb_eq_decide]
      simp
      omega
    rw [hmm, hms, hmsb]
    simp only [BitVec.getLsbD_ofNat]
    by_cases h : s + i < 32
    · simp [h, hi, Nat.testBit_shiftRight]
    · have : m.testBit (s + i) = false := Nat.testBit_lt_two_pow (Nat.lt_of_lt_of_le hm (by
        have : (2 : Nat) ^ 10 ≤ 2 ^ (s + i) := Nat.pow_le_pow_right (by decide) (by omega)
        omega))
      simp [h, hi, Nat.testBit_shiftRight, this]
  rw [e1]
  have hl : m >>> s < 2 ^ 31 := by
    have : m >>> s ≤ m := Nat.shiftRight_le m s
    omega
  have e2 : nI (m >>> s) &&& nI 1 = nI ((m >>> s) % 2) := by
    apply Int32.toBitVec_inj.mp
    rw [Int32.toBitVec_and]
    show BitVec.ofNat 32 (m >>> s) &&& BitVec.ofNat 32 1 = BitVec.ofNat 32 ((m >>> s) % 2)
    apply BitVec.eq_of_toNat_eq
    rw [BitVec.toNat_and]
    simp only [BitVec.toNat_ofNat]
    rw [Nat.mod_eq_of_lt (by omega : m >>> s < 2 ^ 32), Nat.mod_eq_of_lt (by omega : 1 < 2 ^ 32), Nat.mod_eq_of_lt (by omega : (m >>> s) % 2 < 2 ^ 32)]
    exact Nat.and_two_pow_sub_one_eq_mod _ 1
  rw [e2, nI_eq (by omega) (by decide)]
  have e3 : m.testBit s = decide ((m >>> s) % 2 = 1) := by
    rw [Nat.testBit, Nat.one_and_eq_mod_two]
    by_cases h : (m >>> s) % 2 = 1
    · simp [h]
    · have : (m >>> s) % 2 = 0 := by omega
      simp [this]
  rw [e3]
  by_cases h : (m >>> s) % 2 = 1
  · simp [h]
  · have : (m >>> s) % 2 = 0 := by omega
    simp [this]
/-- a number whose bits below n are told by f, and no others -/
def bm (x : Int32) (n : Nat) (f : Nat → Bool) : Prop := ∃ m, m < 1024 ∧ x = nI m ∧ ∀ t, m.testBit t = (decide (t < n) && f t)
theorem nI_or {a b : Nat} (ha : a < 1024) (hb : b < 1024) : nI a ||| nI b = nI (a ||| b) := by
  apply Int32.toBitVec_inj.mp
  rw [Int32.toBitVec_or]
  show BitVec.ofNat 32 a ||| BitVec.ofNat 32 b = BitVec.ofNat 32 (a ||| b)
  apply BitVec.eq_of_toNat_eq
  have : a ||| b < 2 ^ 10 := Nat.or_lt_two_pow (by omega) (by omega)
  rw [BitVec.toNat_or]
  simp only [BitVec.toNat_ofNat]
  rw [Nat.mod_eq_of_lt (by omega : a < 2 ^ 32), Nat.mod_eq_of_lt (by omega : b < 2 ^ 32), Nat.mod_eq_of_lt (by omega : (a ||| b) < 2 ^ 32)]
theorem nI_and {a b : Nat} (ha : a < 1024) (hb : b < 1024) : nI a &&& nI b = nI (a &&& b) := by
  apply Int32.toBitVec_inj.mp
  rw [Int32.toBitVec_and]
  show BitVec.ofNat 32 a &&& BitVec.ofNat 32 b = BitVec.ofNat 32 (a &&& b)
  apply BitVec.eq_of_toNat_eq
  have : a &&& b ≤ a := Nat.and_le_left
  rw [BitVec.toNat_and]
  simp only [BitVec.toNat_ofNat]
  rw [Nat.mod_eq_of_lt (by omega : a < 2 ^ 32), Nat.mod_eq_of_lt (by omega : b < 2 ^ 32), Nat.mod_eq_of_lt (by omega : (a &&& b) < 2 ^ 32)]
theorem bm_zero (n : Nat) : bm (nI 0) n (fun _ => false) := ⟨0, by decide, rfl, fun t => by simp⟩
theorem bm_bit {n s : Nat} (hs : s < n) (hn : n ≤ 10) : bm (nI 1 <<< (nI s &&& nI 31)) n (fun t => decide (t = s)) := by
  have e : ∀ s, s < 10 → (nI 1 <<< (nI s &&& nI 31)) = nI (2 ^ s) := by decide +kernel
  refine ⟨2 ^ s, ?_, e s (by omega), fun t => ?_⟩
  · have : 2 ^ s < 2 ^ 10 := Nat.pow_lt_pow_right (by decide) (by omega)
    omega
  · rw [Nat.testBit_two_pow]
    by_cases h : t = s
    · subst h; simp [hs]
    · have h2 : ¬ s = t := fun e => h e.symm
      simp [h, h2]
theorem bm_or {x y : Int32} {n : Nat} {f g : Nat → Bool} (hx : bm x n f) (hy : bm y n g) : bm (x ||| y) n (fun t => f t || g t) := by
  obtain ⟨a, a1, rfl, a3⟩ := hx
  obtain ⟨b, b1, rfl, b3⟩ := hy
  refine ⟨a ||| b, Nat.or_lt_two_pow (n := 10) (by omega) (by omega), nI_or a1 b1, fun t => ?_⟩
  rw [Nat.testBit_or, a3, b3]
  cases decide (t < n) <;> simp
theorem bm_and {x y : Int32} {n : Nat} {f g : Nat → Bool} (hx : bm x n f) (hy : bm y n g) : bm (x &&& y) n (fun t => f t && g t) := by
  obtain ⟨a, a1, rfl, a3⟩ := hx
  obtain ⟨b, b1, rfl, b3⟩ := hy
  refine ⟨a &&& b, Nat.lt_of_le_of_lt Nat.and_le_left a1, nI_and a1 b1, fun t => ?_⟩
  rw [Nat.testBit_and, a3, b3]
  cases decide (t < n) <;> simp
theorem bm_congr {x : Int32} {n : Nat} {f g : Nat → Bool} (h : bm x n f) (hf : ∀ t, t < n → f t = g t) : bm x n g := by
  obtain ⟨a, a1, a2, a3⟩ := h
  refine ⟨a, a1, a2, fun t => ?_⟩
  rw [a3]
  by_cases ht : t < n
  · rw [hf t ht]
  · simp [ht]
theorem bm_test {x : Int32} {n : Nat} {f : Nat → Bool} (h : bm x n f) (hn : n ≤ 10) {t : Nat} (ht : t < n) : ((x >>> (nI t &&& nI 31)) &&& nI 1 = nI 0) ↔ f t = false := by
  obtain ⟨a, a1, rfl, a3⟩ := h
  rw [bit10 a a1 t (by omega), a3]
  simp [ht]
theorem bm_eq {x y : Int32} {n : Nat} {f g : Nat → Bool} (hx : bm x n f) (hy : bm y n g) (h : ∀ t, t < n → f t = g t) : x = y := by
  obtain ⟨a, a1, rfl, a3⟩ := hx
  obtain ⟨b, b1, rfl, b3⟩ := hy
  congr 1
  apply Nat.eq_of_testBit_eq
  intro t
  rw [a3, b3]
  by_cases ht : t < n
  · rw [h t ht]
  · simp [ht]
/-- sums of natural numbers, from a place on, so many -/
def sumF (g : Nat → Nat) : Nat → Nat → Nat
  | _, 0 => 0
  | t, r + 1 => g t + sumF g (t + 1) r
def sumU (n : Nat) (g : Nat → Nat) : Nat := sumF g 0 n
theorem sumF_snoc (g : Nat → Nat) : ∀ r t, sumF g t (r + 1) = sumF g t r + g (t + r)
  | 0, t => by simp [sumF]
  | r + 1, t => by
    rw [sumF, sumF_snoc g r (t + 1), sumF]
    have e : t + 1 + r = t + (r + 1) := by omega
    rw [e]
    omega
theorem sumU_succ (n : Nat) (g : Nat → Nat) : sumU (n + 1) g = sumU n g + g n := by
  unfold sumU
  rw [sumF_snoc, Nat.zero_add]
theorem sumU_int (n : Nat) (g : Nat → Nat) : (sumU n g : Int) = sumN n (fun i => (g i : Int)) := by
  induction n with
  | zero => rfl
  | succ n ih => rw [sumU_succ, sumN, ← ih]; omega
theorem sumU_congr {n : Nat} {f g : Nat → Nat} (h : ∀ i, i < n → f i = g i) : sumU n f = sumU n g := by
  induction n with
  | zero => rfl
  | succ n ih => rw [sumU_succ, sumU_succ, ih (fun i hi => h i (by omega)), h n (by omega)]
theorem sumU_le {n : Nat} {f g : Nat → Nat} (h : ∀ i, i < n → f i ≤ g i) : sumU n f ≤ sumU n g := by
  induction n with
  | zero => exact Nat.le_refl _
  | succ n ih => rw [sumU_succ, sumU_succ]; have := ih (fun i hi => h i (by omega)); have := h n (by omega); omega
theorem sumU_mulr (n B : Nat) (a : Nat → Nat) : sumU n (fun i => a i * B) = sumU n a * B := by
  induction n with
  | zero => simp [sumU, sumF]
  | succ n ih => rw [sumU_succ, sumU_succ, ih, Nat.add_mul]
/-- the rounds' data: 0: states, wide, tall; 1: how many choices; 2: picks, 3: paid, 4: ended, by slots; 5: ways by slot * 10 + state -/
abbrev rD : Type := Nat → Nat → Nat
def rOk (D : rD) : Prop := 1 ≤ D 0 0 ∧ D 0 0 ≤ 10 ∧ D 0 1 * D 0 2 = D 0 0 ∧ (∀ s, s < D 0 0 → D 1 s ≤ 8) ∧ ∀ s, s < D 0 0 → ∀ c, c < D 1 s → D 2 (8 * s + c) < 8 ∧ D 3 (8 * s + c) ≤ 1920 ∧ D 4 (8 * s + c) ≤ 4 ∧ (∀ t, t < D 0 0 → D 5 (10 * (8 * s + c) + t) ≤ 4) ∧ D 4 (8 * s + c) + sumU (D 0 0) (fun t => D 5 (10 * (8 * s + c) + t)) = 4
/-- the class holds them -/
def cR (D : rD) (I : hI) : Prop := I 7 5 = nI (D 0 0) ∧ I 7 7 = nI (D 0 1 - 1) ∧ I 7 8 = nI (D 0 2 - 1) ∧ bm (I 7 6) (D 0 0) (fun s => decide (0 < D 1 s)) ∧ (∀ s, s < D 0 0 → I 8 s = nI (D 1 s)) ∧ ∀ s, s < D 0 0 → ∀ c, c < D 1 s → I 9 (8 * s + c) = nI (D 2 (8 * s + c)) ∧ I 10 (8 * s + c) = nI (D 3 (8 * s + c)) ∧ I 11 (8 * s + c) = nI (D 4 (8 * s + c)) ∧ ∀ t, t < D 0 0 → I 12 (10 * (8 * s + c) + t) = nI (D 5 (10 * (8 * s + c) + t))
/-- the reference holds them -/
def mR (D : rD) (I : hI) : Prop := I 0 41 = nI (D 0 0) ∧ I 0 39 = nI (D 0 1) ∧ I 0 40 = nI (D 0 2) ∧ (∀ s, s < D 0 0 → I 25 s = nI (D 1 s)) ∧ ∀ s, s < D 0 0 → ∀ c, c < D 1 s → I 26 (8 * s + c) = nI (D 2 (8 * s + c)) ∧ I 27 (8 * s + c) = nI (D 3 (8 * s + c)) ∧ I 28 (8 * s + c) = nI (D 4 (8 * s + c)) ∧ ∀ t, t < D 0 0 → I 29 (10 * (8 * s + c) + t) = nI (D 5 (10 * (8 * s + c) + t))
section RoG
variable {D : rD} {I : hI}
theorem ro_isIn (hD : rOk D) (h : cR D I) {s : Nat} (hs : s < 2 ^ 31) : mRo_isIn (nI s) I = bI (decide (s < D 0 0 ∧ 0 < D 1 s)) := by
  have hb := h.2.2.2.1
  have hn := hD.2.1
  unfold mRo_isIn
  rw [h.1]
  by_cases h1 : s < D 0 0
  · have hbit := bm_test hb hn h1
    by_cases h2 : 0 < D 1 s
    · have e2 : decide (0 < D 1 s) = true := by simpa using h2
      simp only [e2] at hbit
      simp (disch := omega) only [↓reduceIte, h_let, hg_in, hg_zb, hg_z0, hg_z1, hg_nz, Option.bind_some, if_pos, if_neg, bI_0, bI_n0, nI_add, nI_mul, nI_ltI, nI_leI, nI_eq, nI_clamp, nI_subN, nI_divN, nI_mod2, nI_m1e, nI_em1, nI_m2e, nI_lt0, m1_lt0, m1_lt, m1_le, h_u_at, h_u_off2, h_u_pl, li_0, li_1, li_2, li_3, li_4, li_5, li_6, li_7, li_8, li_9, li_10, li_11, li_12, li_13, li_14, li_15, li_16, li_17, li_18, li_19, li_20, li_21, li_22, li_23, li_24, li_25, li_26, li_27, li_28, li_29, li_30, li_31, li_32, li_40, li_43, li_45, li_47, li_48, li_57, li_59, li_60, li_61, li_62, li_63, li_64, li_80, li_92, li_97, li_99, li_100, li_122, li_123, li_125, li_166, li_201, li_210, li_250, li_255, li_256, li_257, li_258, li_259, li_260, li_261, li_262, li_263, li_264, li_265, li_266, li_267, li_268, li_300, li_500, li_1000, li_12345, li_27720, li_1000000, li_1103515245, ne_m1, ne_m2, hbit]
      simp [bI, h1, h2]
    · have e2 : decide (0 < D 1 s) = false := by simpa using h2
      simp only [e2] at hbit
      simp (disch := omega) only [↓reduceIte, h_let, hg_in, hg_zb, hg_z0, hg_z1, hg_nz, Option.bind_some, if_pos, if_neg, bI_0, bI_n0, nI_add, nI_mul, nI_ltI, nI_leI, nI_eq, nI_clamp, nI_subN, nI_divN, nI_mod2, nI_m1e, nI_em1, nI_m2e, nI_lt0, m1_lt0, m1_lt, m1_le, h_u_at, h_u_off2, h_u_pl, li_0, li_1, li_2, li_3, li_4, li_5, li_6, li_7, li_8, li_9, li_10, li_11, li_12, li_13, li_14, li_15, li_16, li_17, li_18, li_19, li_20, li_21, li_22, li_23, li_24, li_25, li_26, li_27, li_28, li_29, li_30, li_31, li_32, li_40, li_43, li_45, li_47, li_48, li_57, li_59, li_60, li_61, li_62, li_63, li_64, li_80, li_92, li_97, li_99, li_100, li_122, li_123, li_125, li_166, li_201, li_210, li_250, li_255, li_256, li_257, li_258, li_259, li_260, li_261, li_262, li_263, li_264, li_265, li_266, li_267, li_268, li_300, li_500, li_1000, li_12345, li_27720, li_1000000, li_1103515245, ne_m1, ne_m2, hbit]
      simp [bI, h2]
  · simp (disch := omega) only [↓reduceIte, h_let, hg_in, hg_zb, hg_z0, hg_z1, hg_nz, Option.bind_some, if_pos, if_neg, bI_0, bI_n0, nI_add, nI_mul, nI_ltI, nI_leI, nI_eq, nI_clamp, nI_subN, nI_divN, nI_mod2, nI_m1e, nI_em1, nI_m2e, nI_lt0, m1_lt0, m1_lt, m1_le, h_u_at, h_u_off2, h_u_pl, li_0, li_1, li_2, li_3, li_4, li_5, li_6, li_7, li_8, li_9, li_10, li_11, li_12, li_13, li_14, li_15, li_16, li_17, li_18, li_19, li_20, li_21, li_22, li_23, li_24, li_25, li_26, li_27, li_28, li_29, li_30, li_31, li_32, li_40, li_43, li_45, li_47, li_48, li_57, li_59, li_60, li_61, li_62, li_63, li_64, li_80, li_92, li_97, li_99, li_100, li_122, li_123, li_125, li_166, li_201, li_210, li_250, li_255, li_256, li_257, li_258, li_259, li_260, li_261, li_262, li_263, li_264, li_265, li_266, li_267, li_268, li_300, li_500, li_1000, li_12345, li_27720, li_1000000, li_1103515245, ne_m1, ne_m2]
    simp [bI, h1]
theorem ro_xOf (hD : rOk D) (h : cR D I) {s : Nat} (hs : s < D 0 0) : mRo_xOf (nI s) I = some (nI (s % D 0 1)) := by
  have hn := hD.2.1
  have hw : 1 ≤ D 0 1 ∧ D 0 1 ≤ 10 := by
    have h1 := hD.1
    have h2 := hD.2.2.1
    have h3 : D 0 1 ≠ 0 := fun e => by rw [e] at h2; omega
    have h4 : D 0 2 ≠ 0 := fun e => by rw [e] at h2; omega
    have : D 0 1 * 1 ≤ D 0 1 * D 0 2 := Nat.mul_le_mul_left _ (by omega)
    omega
  have e : D 0 1 - 1 + 1 = D 0 1 := by omega
  unfold mRo_xOf
  rw [h.2.1]
  simp (disch := omega) only [↓reduceIte, h_let, hg_in, hg_zb, hg_z0, hg_z1, hg_nz, Option.bind_some, if_pos, if_neg, bI_0, bI_n0, nI_add, nI_mul, nI_ltI, nI_leI, nI_eq, nI_clamp, nI_subN, nI_divN, nI_mod2, nI_m1e, nI_em1, nI_m2e, nI_lt0, m1_lt0, m1_lt, m1_le, h_u_at, h_u_off2, h_u_pl, li_0, li_1, li_2, li_3, li_4, li_5, li_6, li_7, li_8, li_9, li_10, li_11, li_12, li_13, li_14, li_15, li_16, li_17, li_18, li_19, li_20, li_21, li_22, li_23, li_24, li_25, li_26, li_27, li_28, li_29, li_30, li_31, li_32, li_40, li_43, li_45, li_47, li_48, li_57, li_59, li_60, li_61, li_62, li_63, li_64, li_80, li_92, li_97, li_99, li_100, li_122, li_123, li_125, li_166, li_201, li_210, li_250, li_255, li_256, li_257, li_258, li_259, li_260, li_261, li_262, li_263, li_264, li_265, li_266, li_267, li_268, li_300, li_500, li_1000, li_12345, li_27720, li_1000000, li_1103515245, ne_m1, ne_m2, e]
theorem ro_yOf (hD : rOk D) (h : cR D I) {s : Nat} (hs : s < D 0 0) : mRo_yOf (nI s) I = some (nI (s / D 0 1)) := by
  have hn := hD.2.1
  have hw : 1 ≤ D 0 1 ∧ D 0 1 ≤ 10 := by
    have h1 := hD.1
    have h2 := hD.2.2.1
    have h3 : D 0 1 ≠ 0 := fun e => by rw [e] at h2; omega
    have h4 : D 0 2 ≠ 0 := fun e => by rw [e] at h2; omega
    have : D 0 1 * 1 ≤ D 0 1 * D 0 2 := Nat.mul_le_mul_left _ (by omega)
    omega
  have e : D 0 1 - 1 + 1 = D 0 1 := by omega
  unfold mRo_yOf
  rw [h.2.1]
  simp (disch := omega) only [↓reduceIte, h_let, hg_in, hg_zb, hg_z0, hg_z1, hg_nz, Option.bind_some, if_pos, if_neg, bI_0, bI_n0, nI_add, nI_mul, nI_ltI, nI_leI, nI_eq, nI_clamp, nI_subN, nI_divN, nI_mod2, nI_m1e, nI_em1, nI_m2e, nI_lt0, m1_lt0, m1_lt, m1_le, h_u_at, h_u_off2, h_u_pl, li_0, li_1, li_2, li_3, li_4, li_5, li_6, li_7, li_8, li_9, li_10, li_11, li_12, li_13, li_14, li_15, li_16, li_17, li_18, li_19, li_20, li_21, li_22, li_23, li_24, li_25, li_26, li_27, li_28, li_29, li_30, li_31, li_32, li_40, li_43, li_45, li_47, li_48, li_57, li_59, li_60, li_61, li_62, li_63, li_64, li_80, li_92, li_97, li_99, li_100, li_122, li_123, li_125, li_166, li_201, li_210, li_250, li_255, li_256, li_257, li_258, li_259, li_260, li_261, li_262, li_263, li_264, li_265, li_266, li_267, li_268, li_300, li_500, li_1000, li_12345, li_27720, li_1000000, li_1103515245, ne_m1, ne_m2, e]
theorem ro_quarters (hD : rOk D) (h : cR D I) {s c t : Nat} (hs : s < D 0 0) (hc : c < D 1 s) (ht : t < D 0 0) : mRo_quarters (nI (8 * s + c)) (nI t) I = some (nI (D 5 (10 * (8 * s + c) + t))) := by
  have hn := hD.2.1
  have h8 := hD.2.2.2.1 s hs
  have h5 := (h.2.2.2.2.2 s hs c hc).2.2.2 t ht
  have e : (8 * s + c) * 10 + t = 10 * (8 * s + c) + t := by omega
  unfold mRo_quarters
  rw [h.1]
  simp (disch := omega) only [↓reduceIte, h_let, hg_in, hg_zb, hg_z0, hg_z1, hg_nz, Option.bind_some, if_pos, if_neg, bI_0, bI_n0, nI_add, nI_mul, nI_ltI, nI_leI, nI_eq, nI_clamp, nI_subN, nI_divN, nI_mod2, nI_m1e, nI_em1, nI_m2e, nI_lt0, m1_lt0, m1_lt, m1_le, h_u_at, h_u_off2, h_u_pl, li_0, li_1, li_2, li_3, li_4, li_5, li_6, li_7, li_8, li_9, li_10, li_11, li_12, li_13, li_14, li_15, li_16, li_17, li_18, li_19, li_20, li_21, li_22, li_23, li_24, li_25, li_26, li_27, li_28, li_29, li_30, li_31, li_32, li_40, li_43, li_45, li_47, li_48, li_57, li_59, li_60, li_61, li_62, li_63, li_64, li_80, li_92, li_97, li_99, li_100, li_122, li_123, li_125, li_166, li_201, li_210, li_250, li_255, li_256, li_257, li_258, li_259, li_260, li_261, li_262, li_263, li_264, li_265, li_266, li_267, li_268, li_300, li_500, li_1000, li_12345, li_27720, li_1000000, li_1103515245, ne_m1, ne_m2, e, h5]
theorem ro_isChoice (hD : rOk D) (h : cR D I) {s c : Nat} (hs : s < 2 ^ 31) (hc : c < 2 ^ 31) : mRo_isChoice (nI s) (nI c) I = some (bI (decide (s < D 0 0 ∧ c < D 1 s))) := by
  have hn := hD.2.1
  unfold mRo_isChoice
  rw [h.1]
  by_cases h1 : s < D 0 0
  · have h8 := hD.2.2.2.1 s h1
    have e8 := h.2.2.2.2.1 s h1
    by_cases h2 : c < D 1 s
    · simp (disch := omega) only [↓reduceIte, h_let, hg_in, hg_zb, hg_z0, hg_z1, hg_nz, Option.bind_some, if_pos, if_neg, bI_0, bI_n0, nI_add, nI_mul, nI_ltI, nI_leI, nI_eq, nI_clamp, nI_subN, nI_divN, nI_mod2, nI_m1e, nI_em1, nI_m2e, nI_lt0, m1_lt0, m1_lt, m1_le, h_u_at, h_u_off2, h_u_pl, li_0, li_1, li_2, li_3, li_4, li_5, li_6, li_7, li_8, li_9, li_10, li_11, li_12, li_13, li_14, li_15, li_16, li_17, li_18, li_19, li_20, li_21, li_22, li_23, li_24, li_25, li_26, li_27, li_28, li_29, li_30, li_31, li_32, li_40, li_43, li_45, li_47, li_48, li_57, li_59, li_60, li_61, li_62, li_63, li_64, li_80, li_92, li_97, li_99, li_100, li_122, li_123, li_125, li_166, li_201, li_210, li_250, li_255, li_256, li_257, li_258, li_259, li_260, li_261, li_262, li_263, li_264, li_265, li_266, li_267, li_268, li_300, li_500, li_1000, li_12345, li_27720, li_1000000, li_1103515245, ne_m1, ne_m2, e8]
      simp [h1, h2, bI]
    · simp (disch := omega) only [↓reduceIte, h_let, hg_in, hg_zb, hg_z0, hg_z1, hg_nz, Option.bind_some, if_pos, if_neg, bI_0, bI_n0, nI_add, nI_mul, nI_ltI, nI_leI, nI_eq, nI_clamp, nI_subN, nI_divN, nI_mod2, nI_m1e, nI_em1, nI_m2e, nI_lt0, m1_lt0, m1_lt, m1_le, h_u_at, h_u_off2, h_u_pl, li_0, li_1, li_2, li_3, li_4, li_5, li_6, li_7, li_8, li_9, li_10, li_11, li_12, li_13, li_14, li_15, li_16, li_17, li_18, li_19, li_20, li_21, li_22, li_23, li_24, li_25, li_26, li_27, li_28, li_29, li_30, li_31, li_32, li_40, li_43, li_45, li_47, li_48, li_57, li_59, li_60, li_61, li_62, li_63, li_64, li_80, li_92, li_97, li_99, li_100, li_122, li_123, li_125, li_166, li_201, li_210, li_250, li_255, li_256, li_257, li_258, li_259, li_260, li_261, li_262, li_263, li_264, li_265, li_266, li_267, li_268, li_300, li_500, li_1000, li_12345, li_27720, li_1000000, li_1103515245, ne_m1, ne_m2, e8]
      simp [h1, h2, bI]
  · simp (disch := omega) only [↓reduceIte, h_let, hg_in, hg_zb, hg_z0, hg_z1, hg_nz, Option.bind_some, if_pos, if_neg, bI_0, bI_n0, nI_add, nI_mul, nI_ltI, nI_leI, nI_eq, nI_clamp, nI_subN, nI_divN, nI_mod2, nI_m1e, nI_em1, nI_m2e, nI_lt0, m1_lt0, m1_lt, m1_le, h_u_at, h_u_off2, h_u_pl, li_0, li_1, li_2, li_3, li_4, li_5, li_6, li_7, li_8, li_9, li_10, li_11, li_12, li_13, li_14, li_15, li_16, li_17, li_18, li_19, li_20, li_21, li_22, li_23, li_24, li_25, li_26, li_27, li_28, li_29, li_30, li_31, li_32, li_40, li_43, li_45, li_47, li_48, li_57, li_59, li_60, li_61, li_62, li_63, li_64, li_80, li_92, li_97, li_99, li_100, li_122, li_123, li_125, li_166, li_201, li_210, li_250, li_255, li_256, li_257, li_258, li_259, li_260, li_261, li_262, li_263, li_264, li_265, li_266, li_267, li_268, li_300, li_500, li_1000, li_12345, li_27720, li_1000000, li_1103515245, ne_m1, ne_m2]
    simp [h1, bI]
end RoG
