/-! Words that models are made of, and rows for them. -/
/-- the fuel of loops: more than any of them needs -/
def hF : Nat := 1000
/-- goes on only where the guard holds -/
def h_g {β : Type} (b : Bool) (k : Option β) : Option β := if b = true then k else none
theorem h_gS {β : Type} {b : Bool} {k : Option β} {q : β} (h : h_g b k = some q) : b = true ∧ k = some q := by
  unfold h_g at h
  by_cases hb : b = true
  · rw [if_pos hb] at h; exact ⟨hb, h⟩
  · rw [if_neg hb] at h; cases h
theorem h_g_t {β : Type} (k : Option β) : h_g true k = k := rfl
theorem h_g_of {β : Type} {b : Bool} (hb : b = true) (k : Option β) : h_g b k = k := by rw [hb]; rfl
def h_let {β γ : Type} (x : β) (f : β → γ) : γ := f x
theorem h_letS {β γ : Type} {x : β} {f : β → γ} {q : γ} (h : h_let x f = q) : ∃ y, x = y ∧ f y = q := ⟨x, rfl, h⟩
def h_in (i : Int32) (n : Nat) : Bool := decide (¬ (i < 0 ∨ n ≤ i.toNatClampNeg))
theorem h_inV {i : Int32} {n : Nat} (h : h_in i n = true) : vp_in i n := by
  have h2 : ¬ (i < 0 ∨ n ≤ i.toNatClampNeg) := of_decide_eq_true h
  exact h2
def h_nz (y : Int32) : Bool := decide (¬ y = 0)
theorem h_nzV {y : Int32} (h : h_nz y = true) : ¬ y = 0 := of_decide_eq_true h
def h_nzL (y : Int64) : Bool := decide (¬ y = 0)
theorem h_nzLV {y : Int64} (h : h_nzL y = true) : ¬ y = 0 := of_decide_eq_true h
def h_isZ (x : Int32) : Bool := decide (x = 0 ∨ x = 1)
theorem h_isZV {x : Int32} (h : h_isZ x = true) : narrow .boolean (.int x) = .int x ∧ fits .boolean (.int x) = true := by
  have h := of_decide_eq_true h
  rcases h with rfl | rfl <;> decide +kernel
theorem h_Z0 : narrow .boolean (.int 0) = .int 0 ∧ fits .boolean (.int 0) = true := by decide +kernel
theorem h_Z1 : narrow .boolean (.int 1) = .int 1 ∧ fits .boolean (.int 1) = true := by decide +kernel
theorem h_NI (x : Int32) : narrow .int (.int x) = .int x ∧ fits .int (.int x) = true := ⟨rfl, rfl⟩
theorem h_NJ (x : Int64) : narrow .long (.long x) = .long x ∧ fits .long (.long x) = true := ⟨rfl, rfl⟩
theorem h_iteT {β : Type} {c : Prop} [Decidable c] {a b q : β} (hc : c) (h : (if c then a else b) = q) : a = q := by rwa [if_pos hc] at h
theorem h_iteF {β : Type} {c : Prop} [Decidable c] {a b q : β} (hc : ¬ c) (h : (if c then a else b) = q) : b = q := by rwa [if_neg hc] at h
theorem h_bindS {β γ : Type} {x : Option β} {f : β → Option γ} {q : γ} (h : x.bind f = some q) : ∃ y, x = some y ∧ f y = some q := by
  cases x with
  | none => cases h
  | some y => exact ⟨y, rfl, h⟩
theorem h_mono {d D : Nat} (h : D + 1 ≤ d) : ∃ d', d = d' + 1 ∧ D ≤ d' := ⟨d - 1, by omega, by omega⟩
/-- a row of longs copied -/
def h_cp (J : Nat → Nat → Int64) (src sp dst dp n : Nat) : Nat → Nat → Int64 := fun b j => if b = dst then va_cpy (J src) (J dst) sp dp n j else J b j
section HS
variable {FT : Nat → List Nat} {cc : ByteArray} {nL : Nat} {ret : Option FieldType} {own : String} {kd : List (Nat × Nat)} {d : Nat} {lv : List (Nat × Value)} {pc : Nat} {st : List Value} {I : Nat → Nat → Int32} {J : Nat → Nat → Int64} {Rf : Nat → Nat → Option Nat} {r : Option Value} {M' : hMem}
theorem a_topI {x y : Int32} (h : x = y) (k : AW FT cc nL ret own kd d lv pc (.int y :: st) (I, J, Rf) r M') : AW FT cc nL ret own kd d lv pc (.int x :: st) (I, J, Rf) r M' := by subst h; exact k
theorem a_topJ {x y : Int64} (h : x = y) (k : AW FT cc nL ret own kd d lv pc (.long y :: st) (I, J, Rf) r M') : AW FT cc nL ret own kd d lv pc (.long x :: st) (I, J, Rf) r M' := by subst h; exact k
theorem a_memI {I2 : Nat → Nat → Int32} (h : I = I2) (k : AW FT cc nL ret own kd d lv pc st (I2, J, Rf) r M') : AW FT cc nL ret own kd d lv pc st (I, J, Rf) r M' := by subst h; exact k
theorem a_memJ {J2 : Nat → Nat → Int64} (h : J = J2) (k : AW FT cc nL ret own kd d lv pc st (I, J2, Rf) r M') : AW FT cc nL ret own kd d lv pc st (I, J, Rf) r M' := by subst h; exact k
theorem a_memR {R2 : Nat → Nat → Option Nat} (h : Rf = R2) (k : AW FT cc nL ret own kd d lv pc st (I, J, R2) r M') : AW FT cc nL ret own kd d lv pc st (I, J, Rf) r M' := by subst h; exact k
theorem b_getI {ci a i z idx N : Nat} {C : String} {T : u_T} {ty : Nat → FieldType} (hK : h_K FT ci C T N ty) (hk : kd[a]? = some (ci + 5, z)) (hi : (FT ci)[i]? = some 0) (hw : Cond.fieldLink own idx C (T i).2.1 (T i).2.2.1 ∈ h_T) (hC0 : (T i).1 = C) (hd : decode cc pc = .ok (.getfield idx, 3)) (k : AW FT cc nL ret own kd d lv (pc + 3) (.int (I a i) :: st) (I, J, Rf) r M') : AW FT cc nL ret own kd d lv pc (.ref a :: st) (I, J, Rf) r M' := a_getI hK hk hi hw hC0 hd k
theorem b_getJ {ci a i z idx N : Nat} {C : String} {T : u_T} {ty : Nat → FieldType} (hK : h_K FT ci C T N ty) (hk : kd[a]? = some (ci + 5, z)) (hi : (FT ci)[i]? = some 1) (hw : Cond.fieldLink own idx C (T i).2.1 (T i).2.2.1 ∈ h_T) (hC0 : (T i).1 = C) (hd : decode cc pc = .ok (.getfield idx, 3)) (k : AW FT cc nL ret own kd d lv (pc + 3) (.long (J a i) :: st) (I, J, Rf) r M') : AW FT cc nL ret own kd d lv pc (.ref a :: st) (I, J, Rf) r M' := a_getJ hK hk hi hw hC0 hd k
theorem b_getR {ci a i z idx N b : Nat} {C : String} {T : u_T} {ty : Nat → FieldType} (hK : h_K FT ci C T N ty) (hk : kd[a]? = some (ci + 5, z)) (hi : (FT ci)[i]? = some 2) (hw : Cond.fieldLink own idx C (T i).2.1 (T i).2.2.1 ∈ h_T) (hC0 : (T i).1 = C) (ho : Rf a i = some b) (hd : decode cc pc = .ok (.getfield idx, 3)) (k : AW FT cc nL ret own kd d lv (pc + 3) (.ref b :: st) (I, J, Rf) r M') : AW FT cc nL ret own kd d lv pc (.ref a :: st) (I, J, Rf) r M' := a_getR (t := 0) hK hk hi hw hC0 hd ho k
theorem b_putI {ci a i z idx N : Nat} {x : Int32} {C : String} {T : u_T} {ty : Nat → FieldType} (hK : h_K FT ci C T N ty) (hk : kd[a]? = some (ci + 5, z)) (hi : (FT ci)[i]? = some 0) (hw : Cond.fieldLink own idx C (T i).2.1 (T i).2.2.1 ∈ h_T) (hC0 : (T i).1 = C) (hf : (T i).2.2.2 = false) (hn : narrow (ty i) (.int x) = .int x ∧ fits (ty i) (.int x) = true) (hd : decode cc pc = .ok (.putfield idx, 3)) (k : AW FT cc nL ret own kd d lv (pc + 3) st (h_u I a i x, J, Rf) r M') : AW FT cc nL ret own kd d lv pc (.int x :: .ref a :: st) (I, J, Rf) r M' := a_putI hK hk hi hw hC0 hf hn hd k
theorem b_putJ {ci a i z idx N : Nat} {x : Int64} {C : String} {T : u_T} {ty : Nat → FieldType} (hK : h_K FT ci C T N ty) (hk : kd[a]? = some (ci + 5, z)) (hi : (FT ci)[i]? = some 1) (hw : Cond.fieldLink own idx C (T i).2.1 (T i).2.2.1 ∈ h_T) (hC0 : (T i).1 = C) (hf : (T i).2.2.2 = false) (hn : narrow (ty i) (.long x) = .long x ∧ fits (ty i) (.long x) = true) (hd : decode cc pc = .ok (.putfield idx, 3)) (k : AW FT cc nL ret own kd d lv (pc + 3) st (I, h_u J a i x, Rf) r M') : AW FT cc nL ret own kd d lv pc (.long x :: .ref a :: st) (I, J, Rf) r M' := a_putJ hK hk hi hw hC0 hf hn hd k
theorem b_putR {ci a i z idx N x : Nat} {C : String} {T : u_T} {ty : Nat → FieldType} (hK : h_K FT ci C T N ty) (hk : kd[a]? = some (ci + 5, z)) (hi : (FT ci)[i]? = some 2) (hw : Cond.fieldLink own idx C (T i).2.1 (T i).2.2.1 ∈ h_T) (hC0 : (T i).1 = C) (hf : (T i).2.2.2 = false) (hn : ∀ q, narrow (ty i) (.ref q) = .ref q ∧ fits (ty i) (.ref q) = true) (hd : decode cc pc = .ok (.putfield idx, 3)) (k : AW FT cc nL ret own kd d lv (pc + 3) st (I, J, h_u Rf a i (some x)) r M') : AW FT cc nL ret own kd d lv pc (.ref x :: .ref a :: st) (I, J, Rf) r M' := a_putR (t := 0) hK hk hi hw hC0 hf hn hd k
theorem b_iaload {a n : Nat} {i : Int32} (hk : kd[a]? = some (0, n)) (hi : vp_in i n) (hd : decode cc pc = .ok (.iaload, 1)) (k : AW FT cc nL ret own kd d lv (pc + 1) (.int (I a i.toNatClampNeg) :: st) (I, J, Rf) r M') : AW FT cc nL ret own kd d lv pc (.int i :: .ref a :: st) (I, J, Rf) r M' := a_iaload hk hi hd k
theorem b_laload {a n : Nat} {i : Int32} (hk : kd[a]? = some (1, n)) (hi : vp_in i n) (hd : decode cc pc = .ok (.laload, 1)) (k : AW FT cc nL ret own kd d lv (pc + 1) (.long (J a i.toNatClampNeg) :: st) (I, J, Rf) r M') : AW FT cc nL ret own kd d lv pc (.int i :: .ref a :: st) (I, J, Rf) r M' := a_laload hk hi hd k
theorem b_zaload {a n : Nat} {i : Int32} (hk : kd[a]? = some (2, n)) (hi : vp_in i n) (hd : decode cc pc = .ok (.baload, 1)) (k : AW FT cc nL ret own kd d lv (pc + 1) (.int (I a i.toNatClampNeg) :: st) (I, J, Rf) r M') : AW FT cc nL ret own kd d lv pc (.int i :: .ref a :: st) (I, J, Rf) r M' := a_zaload hk hi hd k
theorem b_aaload3 {a n b : Nat} {i : Int32} (hk : kd[a]? = some (3, n)) (hi : vp_in i n) (ho : Rf a i.toNatClampNeg = some b) (hd : decode cc pc = .ok (.aaload, 1)) (k : AW FT cc nL ret own kd d lv (pc + 1) (.ref b :: st) (I, J, Rf) r M') : AW FT cc nL ret own kd d lv pc (.int i :: .ref a :: st) (I, J, Rf) r M' := a_aaload3 hk hi hd ho k
theorem b_aaload4 {a n b : Nat} {i : Int32} (hk : kd[a]? = some (4, n)) (hi : vp_in i n) (ho : Rf a i.toNatClampNeg = some b) (hd : decode cc pc = .ok (.aaload, 1)) (k : AW FT cc nL ret own kd d lv (pc + 1) (.ref b :: st) (I, J, Rf) r M') : AW FT cc nL ret own kd d lv pc (.int i :: .ref a :: st) (I, J, Rf) r M' := a_aaload4 hk hi hd ho k
theorem b_iastore {a n : Nat} {i : Int32} {x : Int32} (hk : kd[a]? = some (0, n)) (hi : vp_in i n) (hd : decode cc pc = .ok (.iastore, 1)) (k : AW FT cc nL ret own kd d lv (pc + 1) st (h_u I a i.toNatClampNeg x, J, Rf) r M') : AW FT cc nL ret own kd d lv pc (.int x :: .int i :: .ref a :: st) (I, J, Rf) r M' := a_iastore hk hi hd k
theorem b_zastore {a n : Nat} {i : Int32} {x : Int32} (hk : kd[a]? = some (2, n)) (hi : vp_in i n) (hd : decode cc pc = .ok (.bastore, 1)) (k : AW FT cc nL ret own kd d lv (pc + 1) st (h_u I a i.toNatClampNeg (vp_nar .boolean x), J, Rf) r M') : AW FT cc nL ret own kd d lv pc (.int x :: .int i :: .ref a :: st) (I, J, Rf) r M' := a_zastore hk hi hd k
theorem b_lastore {a n : Nat} {i : Int32} {x : Int64} (hk : kd[a]? = some (1, n)) (hi : vp_in i n) (hd : decode cc pc = .ok (.lastore, 1)) (k : AW FT cc nL ret own kd d lv (pc + 1) st (I, h_u J a i.toNatClampNeg x, Rf) r M') : AW FT cc nL ret own kd d lv pc (.long x :: .int i :: .ref a :: st) (I, J, Rf) r M' := a_lastore hk hi hd k
theorem b_iinc {i : Nat} {n : Int} {x v : Int32} {lv' : List (Nat × Value)} (hd : decode cc pc = .ok (.iinc i n, 3)) (hg : lv.find? (fun q => q.1 == i) = some (i, .int x)) (hx : Int32.ofInt n = v) (hn : i < nL) (hv : h_s1 i (.int (x + v)) lv = lv') (k : AW FT cc nL ret own kd d lv' (pc + 3) st (I, J, Rf) r M') : AW FT cc nL ret own kd d lv pc st (I, J, Rf) r M' := a_iinc hd hg (by rw [hx]) hn hv k
theorem a_lcmp_eq {x y : Int64} {off : Int} {tgt : Nat} (hd1 : decode cc pc = .ok (.lcmp, 1)) (hd : decode cc (pc + 1) = .ok (.ifCond .eq off, 3)) (ht : ((pc + 1 : Nat) : Int) + off = (tgt : Int)) (kt : x = y → AW FT cc nL ret own kd d lv tgt st (I, J, Rf) r M') (kf : ¬ x = y → AW FT cc nL ret own kd d lv (pc + 4) st (I, J, Rf) r M') : AW FT cc nL ret own kd d lv pc (.long y :: .long x :: st) (I, J, Rf) r M' := by
  refine a_lcmp hd1 (a_if_eq hd ht (fun h => kt ?_) (fun h => kf ?_))
  · unfold lg_cmp at h; simp only [gt_iff_lt, Int64.lt_iff_toInt_lt, Int64.le_iff_toInt_le, ← Int64.toInt_inj] at h ⊢; split at h <;> (try split at h) <;> first | omega | (exfalso; revert h; decide) | skip
  · unfold lg_cmp at h; simp only [gt_iff_lt, Int64.lt_iff_toInt_lt, Int64.le_iff_toInt_le, ← Int64.toInt_inj] at h ⊢; split at h <;> (try split at h) <;> first | omega | (exfalso; revert h; decide) | skip
theorem a_lcmp_ne {x y : Int64} {off : Int} {tgt : Nat} (hd1 : decode cc pc = .ok (.lcmp, 1)) (hd : decode cc (pc + 1) = .ok (.ifCond .ne off, 3)) (ht : ((pc + 1 : Nat) : Int) + off = (tgt : Int)) (kt : ¬ x = y → AW FT cc nL ret own kd d lv tgt st (I, J, Rf) r M') (kf : x = y → AW FT cc nL ret own kd d lv (pc + 4) st (I, J, Rf) r M') : AW FT cc nL ret own kd d lv pc (.long y :: .long x :: st) (I, J, Rf) r M' := by
  refine a_lcmp hd1 (a_if_ne hd ht (fun h => kt ?_) (fun h => kf ?_))
  · unfold lg_cmp at h; simp only [gt_iff_lt, Int64.lt_iff_toInt_lt, Int64.le_iff_toInt_le, ← Int64.toInt_inj] at h ⊢; split at h <;> (try split at h) <;> first | omega | (exfalso; revert h; decide) | skip
  · unfold lg_cmp at h; simp only [gt_iff_lt, Int64.lt_iff_toInt_lt, Int64.le_iff_toInt_le, ← Int64.toInt_inj] at h ⊢; split at h <;> (try split at h) <;> first | omega | (exfalso; revert h; decide) | skip
theorem a_lcmp_lt {x y : Int64} {off : Int} {tgt : Nat} (hd1 : decode cc pc = .ok (.lcmp, 1)) (hd : decode cc (pc + 1) = .ok (.ifCond .lt off, 3)) (ht : ((pc + 1 : Nat) : Int) + off = (tgt : Int)) (kt : x < y → AW FT cc nL ret own kd d lv tgt st (I, J, Rf) r M') (kf : ¬ x < y → AW FT cc nL ret own kd d lv (pc + 4) st (I, J, Rf) r M') : AW FT cc nL ret own kd d lv pc (.long y :: .long x :: st) (I, J, Rf) r M' := by
  refine a_lcmp hd1 (a_if_lt hd ht (fun h => kt ?_) (fun h => kf ?_))
  · unfold lg_cmp at h; simp only [gt_iff_lt, Int64.lt_iff_toInt_lt, Int64.le_iff_toInt_le, ← Int64.toInt_inj] at h ⊢; split at h <;> (try split at h) <;> first | omega | (exfalso; revert h; decide) | skip
  · unfold lg_cmp at h; simp only [gt_iff_lt, Int64.lt_iff_toInt_lt, Int64.le_iff_toInt_le, ← Int64.toInt_inj] at h ⊢; split at h <;> (try split at h) <;> first | omega | (exfalso; revert h; decide) | skip
theorem a_lcmp_ge {x y : Int64} {off : Int} {tgt : Nat} (hd1 : decode cc pc = .ok (.lcmp, 1)) (hd : decode cc (pc + 1) = .ok (.ifCond .ge off, 3)) (ht : ((pc + 1 : Nat) : Int) + off = (tgt : Int)) (kt : y ≤ x → AW FT cc nL ret own kd d lv tgt st (I, J, Rf) r M') (kf : ¬ y ≤ x → AW FT cc nL ret own kd d lv (pc + 4) st (I, J, Rf) r M') : AW FT cc nL ret own kd d lv pc (.long y :: .long x :: st) (I, J, Rf) r M' := by
  refine a_lcmp hd1 (a_if_ge hd ht (fun h => kt ?_) (fun h => kf ?_))
  · unfold lg_cmp at h; simp only [gt_iff_lt, Int64.lt_iff_toInt_lt, Int64.le_iff_toInt_le, ← Int64.toInt_inj] at h ⊢; split at h <;> (try split at h) <;> first | omega | (exfalso; revert h; decide) | skip
  · unfold lg_cmp at h; simp only [gt_iff_lt, Int64.lt_iff_toInt_lt, Int64.le_iff_toInt_le, ← Int64.toInt_inj] at h ⊢; split at h <;> (try split at h) <;> first | omega | (exfalso; revert h; decide) | skip
theorem a_lcmp_gt {x y : Int64} {off : Int} {tgt : Nat} (hd1 : decode cc pc = .ok (.lcmp, 1)) (hd : decode cc (pc + 1) = .ok (.ifCond .gt off, 3)) (ht : ((pc + 1 : Nat) : Int) + off = (tgt : Int)) (kt : y < x → AW FT cc nL ret own kd d lv tgt st (I, J, Rf) r M') (kf : ¬ y < x → AW FT cc nL ret own kd d lv (pc + 4) st (I, J, Rf) r M') : AW FT cc nL ret own kd d lv pc (.long y :: .long x :: st) (I, J, Rf) r M' := by
  refine a_lcmp hd1 (a_if_gt hd ht (fun h => kt ?_) (fun h => kf ?_))
  · unfold lg_cmp at h; simp only [gt_iff_lt, Int64.lt_iff_toInt_lt, Int64.le_iff_toInt_le, ← Int64.toInt_inj] at h ⊢; split at h <;> (try split at h) <;> first | omega | (exfalso; revert h; decide) | skip
  · unfold lg_cmp at h; simp only [gt_iff_lt, Int64.lt_iff_toInt_lt, Int64.le_iff_toInt_le, ← Int64.toInt_inj] at h ⊢; split at h <;> (try split at h) <;> first | omega | (exfalso; revert h; decide) | skip
theorem a_lcmp_le {x y : Int64} {off : Int} {tgt : Nat} (hd1 : decode cc pc = .ok (.lcmp, 1)) (hd : decode cc (pc + 1) = .ok (.ifCond .le off, 3)) (ht : ((pc + 1 : Nat) : Int) + off = (tgt : Int)) (kt : x ≤ y → AW FT cc nL ret own kd d lv tgt st (I, J, Rf) r M') (kf : ¬ x ≤ y → AW FT cc nL ret own kd d lv (pc + 4) st (I, J, Rf) r M') : AW FT cc nL ret own kd d lv pc (.long y :: .long x :: st) (I, J, Rf) r M' := by
  refine a_lcmp hd1 (a_if_le hd ht (fun h => kt ?_) (fun h => kf ?_))
  · unfold lg_cmp at h; simp only [gt_iff_lt, Int64.lt_iff_toInt_lt, Int64.le_iff_toInt_le, ← Int64.toInt_inj] at h ⊢; split at h <;> (try split at h) <;> first | omega | (exfalso; revert h; decide) | skip
  · unfold lg_cmp at h; simp only [gt_iff_lt, Int64.lt_iff_toInt_lt, Int64.le_iff_toInt_le, ← Int64.toInt_inj] at h ⊢; split at h <;> (try split at h) <;> first | omega | (exfalso; revert h; decide) | skip
end HS
section HM
variable {FT : Nat → List Nat} {cc : ByteArray} {nL : Nat} {ret : Option FieldType} {own : String} {kd : List (Nat × Nat)} {d : Nat} {lv : List (Nat × Value)} {pc : Nat} {st : List Value} {I : Nat → Nat → Int32} {J : Nat → Nat → Int64} {Rf : Nat → Nat → Option Nat} {r : Option Value} {M' : hMem}
def h_mmax : Prop := Cond.static Lib.Math.max.name ∈ h_T ∧ Cond.initialized "java/lang/Math" ∈ h_T ∧ Cond.code Lib.Math.max.name Lib.Math.max.code 2 (some .int) ∈ h_T
theorem a_mmax {x y : Int32} {idx : Nat} (hm : h_mmax) (hl : Cond.methodLink own idx Lib.Math.max.name ∈ h_T) (hw : (st.map fun v => v.category).sum ≤ 8) (hd : decode cc pc = .ok (.invokestatic idx, 3)) (k : AW FT cc nL ret own kd (d + 1) lv (pc + 3) (.int (if x < y then y else x) :: st) (I, J, Rf) r M') : AW FT cc nL ret own kd (d + 1) lv pc (.int y :: .int x :: st) (I, J, Rf) r M' := by
  intro p l e R s m args below meth c H ls locs α D cy A hC hP hS hl2
  have hR := hC.2.2.2.2.2.2.2.2.2.1
  have hc8 := h_cats (α := α) hw
  exact va_mmax hC.1 hC.2.1 (hC.2.2.1.trans hl2.1.symm) hC.2.2.2.1 (hC.2.2.2.2.1 _ hl) (hC.2.2.2.2.1 _ hm.1) (hC.2.2.2.2.1 _ hm.2.1) (hC.2.2.2.2.1 _ hm.2.2) (by have := hR.1; omega) (by have := hR.2; omega) (Nat.zero_le _) (Nat.zero_le _) hd (k p l e R s m args below meth c H ls locs α D cy A hC hP hS hl2)
def h_mmin : Prop := Cond.static Lib.Math.min.name ∈ h_T ∧ Cond.initialized "java/lang/Math" ∈ h_T ∧ Cond.code Lib.Math.min.name Lib.Math.min.code 2 (some .int) ∈ h_T
theorem a_mmin {x y : Int32} {idx : Nat} (hm : h_mmin) (hl : Cond.methodLink own idx Lib.Math.min.name ∈ h_T) (hw : (st.map fun v => v.category).sum ≤ 8) (hd : decode cc pc = .ok (.invokestatic idx, 3)) (k : AW FT cc nL ret own kd (d + 1) lv (pc + 3) (.int (if y < x then y else x) :: st) (I, J, Rf) r M') : AW FT cc nL ret own kd (d + 1) lv pc (.int y :: .int x :: st) (I, J, Rf) r M' := by
  intro p l e R s m args below meth c H ls locs α D cy A hC hP hS hl2
  have hR := hC.2.2.2.2.2.2.2.2.2.1
  have hc8 := h_cats (α := α) hw
  exact va_mmin hC.1 hC.2.1 (hC.2.2.1.trans hl2.1.symm) hC.2.2.2.1 (hC.2.2.2.2.1 _ hl) (hC.2.2.2.2.1 _ hm.1) (hC.2.2.2.2.1 _ hm.2.1) (hC.2.2.2.2.1 _ hm.2.2) (by have := hR.1; omega) (by have := hR.2; omega) (Nat.zero_le _) (Nat.zero_le _) hd (k p l e R s m args below meth c H ls locs α D cy A hC hP hS hl2)
def h_mmaxL : Prop := Cond.static Lib.MathLoose.max_long.x ∈ h_T ∧ Cond.initialized "java/lang/Math" ∈ h_T ∧ Cond.code Lib.MathLoose.max_long.x Lib.MathLoose.max_long.code 4 (some .long) ∈ h_T
theorem a_mmaxL {x y : Int64} {idx : Nat} (hm : h_mmaxL) (hl : Cond.methodLink own idx Lib.MathLoose.max_long.x ∈ h_T) (hw : (st.map fun v => v.category).sum ≤ 8) (hd : decode cc pc = .ok (.invokestatic idx, 3)) (k : AW FT cc nL ret own kd (d + 1) lv (pc + 3) (.long (if y < x then x else y) :: st) (I, J, Rf) r M') : AW FT cc nL ret own kd (d + 1) lv pc (.long y :: .long x :: st) (I, J, Rf) r M' := by
  intro p l e R s m args below meth c H ls locs α D cy A hC hP hS hl2
  have hR := hC.2.2.2.2.2.2.2.2.2.1
  have hc8 := h_cats (α := α) hw
  exact va_mmax_long hC.1 hC.2.1 (hC.2.2.1.trans hl2.1.symm) hC.2.2.2.1 (hC.2.2.2.2.1 _ hl) (hC.2.2.2.2.1 _ hm.1) (hC.2.2.2.2.1 _ hm.2.1) (hC.2.2.2.2.1 _ hm.2.2) (by have := hR.1; omega) (by have := hR.2; omega) (Nat.zero_le _) (Nat.zero_le _) hd (k p l e R s m args below meth c H ls locs α D cy A hC hP hS hl2)
def h_mminL : Prop := Cond.static Lib.MathLoose.min_long.x ∈ h_T ∧ Cond.initialized "java/lang/Math" ∈ h_T ∧ Cond.code Lib.MathLoose.min_long.x Lib.MathLoose.min_long.code 4 (some .long) ∈ h_T
theorem a_mminL {x y : Int64} {idx : Nat} (hm : h_mminL) (hl : Cond.methodLink own idx Lib.MathLoose.min_long.x ∈ h_T) (hw : (st.map fun v => v.category).sum ≤ 8) (hd : decode cc pc = .ok (.invokestatic idx, 3)) (k : AW FT cc nL ret own kd (d + 1) lv (pc + 3) (.long (if y < x then y else x) :: st) (I, J, Rf) r M') : AW FT cc nL ret own kd (d + 1) lv pc (.long y :: .long x :: st) (I, J, Rf) r M' := by
  intro p l e R s m args below meth c H ls locs α D cy A hC hP hS hl2
  have hR := hC.2.2.2.2.2.2.2.2.2.1
  have hc8 := h_cats (α := α) hw
  exact va_mmin_long hC.1 hC.2.1 (hC.2.2.1.trans hl2.1.symm) hC.2.2.2.1 (hC.2.2.2.2.1 _ hl) (hC.2.2.2.2.1 _ hm.1) (hC.2.2.2.2.1 _ hm.2.1) (hC.2.2.2.2.1 _ hm.2.2) (by have := hR.1; omega) (by have := hR.2; omega) (Nat.zero_le _) (Nat.zero_le _) hd (k p l e R s m args below meth c H ls locs α D cy A hC hP hS hl2)
def h_mabsL : Prop := Cond.static Lib.MathLoose.abs_long.x ∈ h_T ∧ Cond.initialized "java/lang/Math" ∈ h_T ∧ Cond.code Lib.MathLoose.abs_long.x Lib.MathLoose.abs_long.code 2 (some .long) ∈ h_T
theorem a_mabsL {x : Int64} {idx : Nat} (hm : h_mabsL) (hl : Cond.methodLink own idx Lib.MathLoose.abs_long.x ∈ h_T) (hw : (st.map fun v => v.category).sum ≤ 8) (hd : decode cc pc = .ok (.invokestatic idx, 3)) (k : AW FT cc nL ret own kd (d + 1) lv (pc + 3) (.long (if 0 < x then x else -x) :: st) (I, J, Rf) r M') : AW FT cc nL ret own kd (d + 1) lv pc (.long x :: st) (I, J, Rf) r M' := by
  intro p l e R s m args below meth c H ls locs α D cy A hC hP hS hl2
  have hR := hC.2.2.2.2.2.2.2.2.2.1
  have hc8 := h_cats (α := α) hw
  exact va_mabs_long hC.1 hC.2.1 (hC.2.2.1.trans hl2.1.symm) hC.2.2.2.1 (hC.2.2.2.2.1 _ hl) (hC.2.2.2.2.1 _ hm.1) (hC.2.2.2.2.1 _ hm.2.1) (hC.2.2.2.2.1 _ hm.2.2) (by have := hR.1; omega) (by have := hR.2; omega) (Nat.zero_le _) (Nat.zero_le _) hd (k p l e R s m args below meth c H ls locs α D cy A hC hP hS hl2)
end HM
section HB
variable {FT : Nat → List Nat} {cc : ByteArray} {nL : Nat} {ret : Option FieldType} {own : String} {kd : List (Nat × Nat)} {d : Nat} {lv : List (Nat × Value)} {pc : Nat} {st : List Value} {M : hMem} {r : Option Value} {M' : hMem}
theorem a_callV1 {v : Value} {y : MethodName} {bytes : ByteArray} {maxL n ci a z idx N : Nat} {ret' : Option FieldType} {As : List Value} (rest : List Value) {st0 : List Value} {M1 : hMem} {T : u_T} (hy : h_yV y bytes maxL ret' n) (hl : Cond.methodLink own idx y ∈ h_T) (hk : kd[a]? = some (ci + 5, z)) (hc : vwCl[ci]? = some (y.cls, T, N)) (hM : HMet FT y bytes maxL ret' kd d (.ref a :: As) M (some v) M1) (hst : As.reverse ++ .ref a :: rest = st0) (hn : As.length = n) (hw : (rest.map fun v => v.category).sum ≤ 8) (hd : decode cc pc = .ok (.invokevirtual idx, 3)) (k : AW FT cc nL ret own kd (d + 1) lv (pc + 3) (v :: rest) M1 r M') : AW FT cc nL ret own kd (d + 1) lv pc st0 M r M' := a_callV rest hy hl hk hc hM hst hn hw hd k
theorem a_callS1 {v : Value} {y : MethodName} {bytes : ByteArray} {maxL n idx : Nat} {ret' : Option FieldType} {As : List Value} (rest : List Value) {st0 : List Value} {M1 : hMem} (hy : h_yS y bytes maxL ret' n) (hl : Cond.methodLink own idx y ∈ h_T) (hM : HMet FT y bytes maxL ret' kd d As M (some v) M1) (hst : As.reverse ++ rest = st0) (hn : As.length = n) (hw : (rest.map fun v => v.category).sum ≤ 8) (hd : decode cc pc = .ok (.invokestatic idx, 3)) (k : AW FT cc nL ret own kd (d + 1) lv (pc + 3) (v :: rest) M1 r M') : AW FT cc nL ret own kd (d + 1) lv pc st0 M r M' := a_callS rest hy hl hM hst hn hw hd k
theorem a_callSN1 {v : Value} {y : MethodName} {bytes : ByteArray} {maxL n idx : Nat} {host : String} {ret' : Option FieldType} {As : List Value} (rest : List Value) {st0 : List Value} {M1 : hMem} (hy : h_yS y bytes maxL ret' n) (hl : Cond.methodLinkNest own idx y host ∈ h_N) (hM : HMet FT y bytes maxL ret' kd d As M (some v) M1) (hst : As.reverse ++ rest = st0) (hn : As.length = n) (hw : (rest.map fun v => v.category).sum ≤ 8) (hd : decode cc pc = .ok (.invokestatic idx, 3)) (k : AW FT cc nL ret own kd (d + 1) lv (pc + 3) (v :: rest) M1 r M') : AW FT cc nL ret own kd (d + 1) lv pc st0 M r M' := a_callSN rest hy hl hM hst hn hw hd k
theorem a_callV0 {y : MethodName} {bytes : ByteArray} {maxL n ci a z idx N : Nat} {ret' : Option FieldType} {As : List Value} (rest : List Value) {st0 : List Value} {M1 : hMem} {T : u_T} (hy : h_yV y bytes maxL ret' n) (hl : Cond.methodLink own idx y ∈ h_T) (hk : kd[a]? = some (ci + 5, z)) (hc : vwCl[ci]? = some (y.cls, T, N)) (hM : HMet FT y bytes maxL ret' kd d (.ref a :: As) M none M1) (hst : As.reverse ++ .ref a :: rest = st0) (hn : As.length = n) (hw : (rest.map fun v => v.category).sum ≤ 8) (hd : decode cc pc = .ok (.invokevirtual idx, 3)) (k : AW FT cc nL ret own kd (d + 1) lv (pc + 3) rest M1 r M') : AW FT cc nL ret own kd (d + 1) lv pc st0 M r M' := a_callV rest hy hl hk hc hM hst hn hw hd k
theorem a_callS0 {y : MethodName} {bytes : ByteArray} {maxL n idx : Nat} {ret' : Option FieldType} {As : List Value} (rest : List Value) {st0 : List Value} {M1 : hMem} (hy : h_yS y bytes maxL ret' n) (hl : Cond.methodLink own idx y ∈ h_T) (hM : HMet FT y bytes maxL ret' kd d As M none M1) (hst : As.reverse ++ rest = st0) (hn : As.length = n) (hw : (rest.map fun v => v.category).sum ≤ 8) (hd : decode cc pc = .ok (.invokestatic idx, 3)) (k : AW FT cc nL ret own kd (d + 1) lv (pc + 3) rest M1 r M') : AW FT cc nL ret own kd (d + 1) lv pc st0 M r M' := a_callS rest hy hl hM hst hn hw hd k
theorem a_callSN0 {y : MethodName} {bytes : ByteArray} {maxL n idx : Nat} {host : String} {ret' : Option FieldType} {As : List Value} (rest : List Value) {st0 : List Value} {M1 : hMem} (hy : h_yS y bytes maxL ret' n) (hl : Cond.methodLinkNest own idx y host ∈ h_N) (hM : HMet FT y bytes maxL ret' kd d As M none M1) (hst : As.reverse ++ rest = st0) (hn : As.length = n) (hw : (rest.map fun v => v.category).sum ≤ 8) (hd : decode cc pc = .ok (.invokestatic idx, 3)) (k : AW FT cc nL ret own kd (d + 1) lv (pc + 3) rest M1 r M') : AW FT cc nL ret own kd (d + 1) lv pc st0 M r M' := a_callSN rest hy hl hM hst hn hw hd k
end HB
theorem ic_m8 : Int32.ofInt (-8) = (-8) := by decide
theorem ic_m1 : Int32.ofInt (-1) = (-1) := by decide
theorem ic_0 : Int32.ofInt (0) = (0) := by decide
theorem ic_1 : Int32.ofInt (1) = (1) := by decide
theorem ic_2 : Int32.ofInt (2) = (2) := by decide
theorem ic_3 : Int32.ofInt (3) = (3) := by decide
theorem ic_4 : Int32.ofInt (4) = (4) := by decide
theorem ic_5 : Int32.ofInt (5) = (5) := by decide
theorem bp_m2 : (Int8.ofInt (-2)).toInt32 = (-2) := by decide
theorem bp_6 : (Int8.ofInt (6)).toInt32 = (6) := by decide
theorem bp_8 : (Int8.ofInt (8)).toInt32 = (8) := by decide
theorem bp_9 : (Int8.ofInt (9)).toInt32 = (9) := by decide
theorem bp_10 : (Int8.ofInt (10)).toInt32 = (10) := by decide
theorem bp_11 : (Int8.ofInt (11)).toInt32 = (11) := by decide
theorem bp_12 : (Int8.ofInt (12)).toInt32 = (12) := by decide
theorem bp_16 : (Int8.ofInt (16)).toInt32 = (16) := by decide
theorem bp_20 : (Int8.ofInt (20)).toInt32 = (20) := by decide
theorem bp_21 : (Int8.ofInt (21)).toInt32 = (21) := by decide
theorem bp_24 : (Int8.ofInt (24)).toInt32 = (24) := by decide
theorem bp_32 : (Int8.ofInt (32)).toInt32 = (32) := by decide
theorem bp_40 : (Int8.ofInt (40)).toInt32 = (40) := by decide
theorem bp_43 : (Int8.ofInt (43)).toInt32 = (43) := by decide
theorem bp_45 : (Int8.ofInt (45)).toInt32 = (45) := by decide
theorem bp_47 : (Int8.ofInt (47)).toInt32 = (47) := by decide
theorem bp_48 : (Int8.ofInt (48)).toInt32 = (48) := by decide
theorem bp_57 : (Int8.ofInt (57)).toInt32 = (57) := by decide
theorem bp_59 : (Int8.ofInt (59)).toInt32 = (59) := by decide
theorem bp_60 : (Int8.ofInt (60)).toInt32 = (60) := by decide
theorem bp_61 : (Int8.ofInt (61)).toInt32 = (61) := by decide
theorem bp_62 : (Int8.ofInt (62)).toInt32 = (62) := by decide
theorem bp_63 : (Int8.ofInt (63)).toInt32 = (63) := by decide
theorem bp_64 : (Int8.ofInt (64)).toInt32 = (64) := by decide
theorem bp_80 : (Int8.ofInt (80)).toInt32 = (80) := by decide
theorem bp_92 : (Int8.ofInt (92)).toInt32 = (92) := by decide
theorem bp_97 : (Int8.ofInt (97)).toInt32 = (97) := by decide
theorem bp_99 : (Int8.ofInt (99)).toInt32 = (99) := by decide
theorem bp_100 : (Int8.ofInt (100)).toInt32 = (100) := by decide
theorem bp_110 : (Int8.ofInt (110)).toInt32 = (110) := by decide
theorem bp_122 : (Int8.ofInt (122)).toInt32 = (122) := by decide
theorem bp_123 : (Int8.ofInt (123)).toInt32 = (123) := by decide
theorem bp_125 : (Int8.ofInt (125)).toInt32 = (125) := by decide
theorem sq_166 : (Int16.ofInt (166)).toInt32 = (166) := by decide
theorem sq_201 : (Int16.ofInt (201)).toInt32 = (201) := by decide
theorem sq_210 : (Int16.ofInt (210)).toInt32 = (210) := by decide
theorem sq_250 : (Int16.ofInt (250)).toInt32 = (250) := by decide
theorem sq_255 : (Int16.ofInt (255)).toInt32 = (255) := by decide
theorem sq_256 : (Int16.ofInt (256)).toInt32 = (256) := by decide
theorem sq_257 : (Int16.ofInt (257)).toInt32 = (257) := by decide
theorem sq_258 : (Int16.ofInt (258)).toInt32 = (258) := by decide
theorem sq_259 : (Int16.ofInt (259)).toInt32 = (259) := by decide
theorem sq_260 : (Int16.ofInt (260)).toInt32 = (260) := by decide
theorem sq_261 : (Int16.ofInt (261)).toInt32 = (261) := by decide
theorem sq_262 : (Int16.ofInt (262)).toInt32 = (262) := by decide
theorem sq_263 : (Int16.ofInt (263)).toInt32 = (263) := by decide
theorem sq_264 : (Int16.ofInt (264)).toInt32 = (264) := by decide
theorem sq_265 : (Int16.ofInt (265)).toInt32 = (265) := by decide
theorem sq_266 : (Int16.ofInt (266)).toInt32 = (266) := by decide
theorem sq_267 : (Int16.ofInt (267)).toInt32 = (267) := by decide
theorem sq_268 : (Int16.ofInt (268)).toInt32 = (268) := by decide
theorem sq_300 : (Int16.ofInt (300)).toInt32 = (300) := by decide
theorem sq_500 : (Int16.ofInt (500)).toInt32 = (500) := by decide
theorem sq_501 : (Int16.ofInt (501)).toInt32 = (501) := by decide
theorem sq_640 : (Int16.ofInt (640)).toInt32 = (640) := by decide
theorem sq_800 : (Int16.ofInt (800)).toInt32 = (800) := by decide
theorem sq_1000 : (Int16.ofInt (1000)).toInt32 = (1000) := by decide
theorem sq_12345 : (Int16.ofInt (12345)).toInt32 = (12345) := by decide
theorem sq_27720 : (Int16.ofInt (27720)).toInt32 = (27720) := by decide
theorem lc_0 : Int64.ofNat ((0 : Fin 2) : Nat) = 0 := rfl
theorem lc_1 : Int64.ofNat ((1 : Fin 2) : Nat) = 1 := rfl
