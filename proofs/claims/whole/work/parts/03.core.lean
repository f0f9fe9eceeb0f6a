/-! A machine of numbered cells: memory is three tables (ints, longs, references) by cell and place; the heap holds it at addresses α. A method's run is told by AW: from this place, with these locals, stack and memory, it returns r and leaves M'. -/
abbrev hMem : Type := (Nat → Nat → Int32) × (Nat → Nat → Int64) × (Nat → Nat → Option Nat)
def h_T : List Cond := lw_tbl.filter goodWord
theorem h_T_of {w : Cond} (h : w ∈ lw_tbl) (g : goodWord w = true) : w ∈ h_T := List.mem_filter.mpr ⟨h, g⟩
theorem h_T_at (i : Nat) {w : Cond} (h : lw_tbl[i]? = some w) (g : goodWord w = true) : w ∈ h_T := h_T_of (List.mem_of_getElem? h) g
theorem h_T_good {y : MethodName} {b : ByteArray} {n : Nat} {r : Option FieldType} (h : Cond.code y b n r ∈ h_T) : GoodIn h_T (Cond.code y b n r :: h_T) := by
  intro w hw
  have hw' : w ∈ h_T := by
    rcases List.mem_cons.mp hw with rfl | q
    · exact h
    · exact q
  exact ⟨hw', good_of_word (List.mem_filter.mp hw').2⟩
def h_v (α : Nat → Nat) : Value → Value
  | .ref a => .ref (α a)
  | v => v
def h_rv : Option Nat → Value
  | some a => .ref a
  | none => .null
theorem h_rv_v (α : Nat → Nat) (o : Option Nat) : h_v α (h_rv o) = va_rf (o.map α) := by cases o <;> rfl
theorem h_v_cat (α : Nat → Nat) (v : Value) : (h_v α v).category = v.category := by cases v <;> rfl
/-- an object's fields: 0 an int, 1 a long, else a reference -/
def h_fv (α : Nat → Nat) (M : hMem) (k i : Nat) : Nat → Value
  | 0 => .int (M.1 k i)
  | 1 => .long (M.2.1 k i)
  | _ => va_rf ((M.2.2 k i).map α)
def h_fs (α : Nat → Nat) (M : hMem) (k : Nat) (l : List Nat) : List Value := l.zipIdx.map (fun q => h_fv α M k q.2 q.1)
theorem h_fs_at {α : Nat → Nat} {M : hMem} {k i t : Nat} {l : List Nat} (h : l[i]? = some t) : (h_fs α M k l)[i]? = some (h_fv α M k i t) := by
  simp [h_fs, List.getElem?_zipIdx, h]
theorem h_fs_len {α : Nat → Nat} {M : hMem} {k : Nat} {l : List Nat} : (h_fs α M k l).length = l.length := by simp [h_fs]
theorem h_fs_set {α : Nat → Nat} {M M' : hMem} {k i t : Nat} {l : List Nat} {v : Value} (h : l[i]? = some t) (hv : h_fv α M' k i t = v) (ho : ∀ j u, j ≠ i → h_fv α M' k j u = h_fv α M k j u) : (h_fs α M k l).set i v = h_fs α M' k l := by
  apply List.ext_getElem?
  intro j
  rw [List.getElem?_set]
  by_cases hj : i = j
  · subst hj
    have hl : i < (h_fs α M k l).length := by
      rw [h_fs_len]
      exact (List.getElem?_eq_some_iff.mp h).1
    rw [if_pos rfl, if_pos hl, h_fs_at h, hv]
  · rw [if_neg hj]
    cases hu : l[j]? with
    | none => simp [h_fs, List.getElem?_zipIdx, hu]
    | some u => rw [h_fs_at hu, h_fs_at hu, ho j u (fun q => hj q.symm)]
/-- a cell: kinds 0 int[], 1 long[], 2 boolean[], 3 Step[], 4 long[][], c + 5 an object of class c with the fields FT c -/
def h_cell (FT : Nat → List Nat) (cy : Nat → ClassId) (α : Nat → Nat) (M : hMem) (k : Nat) (q : Nat × Nat) : va_E := match q.1 with
  | 0 => .inl (cy 0, q.2, .inl (M.1 k))
  | 1 => .inl (cy 1, q.2, .inr (.inl (M.2.1 k)))
  | 2 => .inl (cy 2, q.2, .inl (M.1 k))
  | 3 => .inl (cy 3, q.2, .inr (.inr (.inr (.inr (fun i => (M.2.2 k i).map α)))))
  | 4 => .inl (cy 4, q.2, .inr (.inr (.inr (.inr (fun i => (M.2.2 k i).map α)))))
  | c + 5 => .inr (c, h_fs α M k (FT c))
def h_w (FT : Nat → List Nat) (kd : List (Nat × Nat)) (cy : Nat → ClassId) (α : Nat → Nat) (M : hMem) : va_W := kd.zipIdx.map (fun q => (α q.2, h_cell FT cy α M q.2 q.1))
theorem h_w_at {FT : Nat → List Nat} {kd : List (Nat × Nat)} {cy : Nat → ClassId} {α : Nat → Nat} {M : hMem} {k : Nat} {q : Nat × Nat} (h : kd[k]? = some q) : (h_w FT kd cy α M)[k]? = some (α k, h_cell FT cy α M k q) := by
  simp [h_w, List.getElem?_zipIdx, h]
theorem h_w_len {FT : Nat → List Nat} {kd : List (Nat × Nat)} {cy : Nat → ClassId} {α : Nat → Nat} {M : hMem} : (h_w FT kd cy α M).length = kd.length := by simp [h_w]
theorem h_w_at' {FT : Nat → List Nat} {kd : List (Nat × Nat)} {cy : Nat → ClassId} {α : Nat → Nat} {M : hMem} {k : Nat} {x : Nat × va_E} (h : (h_w FT kd cy α M)[k]? = some x) : k < kd.length ∧ x.1 = α k := by
  have hk : k < kd.length := by
    have := (List.getElem?_eq_some_iff.mp h).1
    rwa [h_w_len] at this
  have h2 := h_w_at (FT := FT) (cy := cy) (α := α) (M := M) (List.getElem?_eq_getElem hk)
  rw [h2] at h
  cases h
  exact ⟨hk, rfl⟩
theorem h_w_set {FT : Nat → List Nat} {kd : List (Nat × Nat)} {cy : Nat → ClassId} {α : Nat → Nat} {M M' : hMem} {k : Nat} {q : Nat × Nat} {e : va_E} (h : kd[k]? = some q) (he : h_cell FT cy α M' k q = e) (ho : ∀ j u, j ≠ k → h_cell FT cy α M' j u = h_cell FT cy α M j u) : (h_w FT kd cy α M).set k (α k, e) = h_w FT kd cy α M' := by
  apply List.ext_getElem?
  intro j
  rw [List.getElem?_set]
  by_cases hj : k = j
  · subst hj
    have hl : k < (h_w FT kd cy α M).length := by
      rw [h_w_len]
      exact (List.getElem?_eq_some_iff.mp h).1
    rw [if_pos rfl, if_pos hl, h_w_at h, he]
  · rw [if_neg hj]
    cases hu : kd[j]? with
    | none => simp [h_w, List.getElem?_zipIdx, hu]
    | some u => rw [h_w_at hu, h_w_at hu, ho j u (fun q => hj q.symm)]
/-- one place changed -/
def h_u {β : Type} (f : Nat → Nat → β) (a i : Nat) (x : β) : Nat → Nat → β := fun b j => if b = a then (if j = i then x else f b j) else f b j
theorem h_u_row {β : Type} (f : Nat → Nat → β) (a i : Nat) (x : β) : h_u f a i x a = fun j => if j = i then x else f a j := by funext j; simp [h_u]
theorem h_u_off {β : Type} (f : Nat → Nat → β) {a b : Nat} (i : Nat) (x : β) (h : b ≠ a) : h_u f a i x b = f b := by funext j; simp [h_u, h]
theorem h_u_at {β : Type} (f : Nat → Nat → β) (a i : Nat) (x : β) : h_u f a i x a i = x := by simp [h_u]
theorem h_u_pl {β : Type} (f : Nat → Nat → β) (a : Nat) {i j : Nat} (x : β) (h : j ≠ i) : h_u f a i x a j = f a j := by simp [h_u, h]
/-- which addresses a method may change -/
def h_A (n : Nat) (α : Nat → Nat) (sz : Nat) : Nat → Prop := fun q => (∃ k, k < n ∧ q = α k) ∨ sz ≤ q
def h_I (n : Nat) (α : Nat → Nat) : Prop := ∀ i j, i < n → j < n → α i = α j → i = j
theorem h_wD {FT : Nat → List Nat} {kd : List (Nat × Nat)} {cy : Nat → ClassId} {α : Nat → Nat} {A : Nat → Prop} (M : hMem) (hI : h_I kd.length α) (hA : ∀ k, k < kd.length → A (α k)) : va_D A (h_w FT kd cy α M) := by
  refine ⟨fun i j p q hp hq e => ?_, fun k q h => ?_⟩
  · obtain ⟨a1, a2⟩ := h_w_at' hp
    obtain ⟨b1, b2⟩ := h_w_at' hq
    exact hI i j a1 b1 (by rw [← a2, ← b2, e])
  · obtain ⟨a1, a2⟩ := h_w_at' h
    rw [a2]
    exact hA k a1
def hTys (cy : Nat → ClassId) : List (ClassId × FieldType) := [(cy 0, .int), (cy 1, .long), (cy 2, .boolean), (cy 3, .object "CoinLoops$Step"), (cy 4, .array .long)]
/-- the words on private methods of nest mates, which 'goodWord' leaves out -/
def h_nest : Cond → Bool
  | .methodLinkNest _ _ _ _ => true
  | _ => false
def h_N : List Cond := lw_tbl.filter h_nest
def h_Nw (U : State) : Prop := ∀ w ∈ h_N, va_Nw w U
theorem h_Nw_warm {s U : State} (hW : s.WarmedH U.vm) (h : h_Nw s) : h_Nw U := by
  intro w hw
  have h1 := h w hw
  have h2 := (List.mem_filter.mp hw).2
  cases w <;> first | exact va_Nw.warmM hW h1 | (simp [h_nest] at h2)
theorem h_Nw_same {s U : State} (hW : s.vm = U.vm) (h : h_Nw s) : h_Nw U := by
  intro w hw
  have h1 := h w hw
  have h2 := (List.mem_filter.mp hw).2
  cases w <;> first | exact va_Nw.same rfl hW h1 | (simp [h_nest] at h2)
def h_lits : List (String × Nat × String × Nat) := [("CoinLoops$Reader", 100, "x", 0), ("CoinLoops$Reader", 106, "y", 1), ("CoinLoops$Reader", 108, "while", 2), ("CoinLoops$Reader", 110, "pay", 3), ("CoinLoops$Reader", 112, "coin", 4), ("CoinLoops$Reader", 114, "pick", 5), ("CoinLoops$Reader", 116, "if", 6), ("CoinLoops$Reader", 118, "out", 7), ("CoinLoops$Reader", 120, "and", 8), ("CoinLoops$Reader", 122, "or", 9), ("CoinLoops$Reader", 124, "by", 10), ("CoinLoopsModel", 231, "x", 0), ("CoinLoopsModel", 236, "y", 1), ("CoinLoopsModel", 323, "while", 2), ("CoinLoopsModel", 259, "and", 8), ("CoinLoopsModel", 261, "or", 9), ("CoinLoopsModel", 271, "pay", 3), ("CoinLoopsModel", 273, "coin", 4), ("CoinLoopsModel", 275, "pick", 5), ("CoinLoopsModel", 277, "if", 6), ("CoinLoopsModel", 279, "out", 7), ("CoinLoopsModel", 340, "by", 10)]
def h_len : List Nat := [1, 1, 5, 3, 4, 4, 2, 3, 3, 2, 2]
def h_byt : List (List Int32) := [[120], [121], [119, 104, 105, 108, 101], [112, 97, 121], [99, 111, 105, 110], [112, 105, 99, 107], [105, 102], [111, 117, 116], [97, 110, 100], [111, 114], [98, 121]]
def h_Zf (n : Nat) (α : Nat → Nat) (A : Nat → Prop) (s : State) (H : Heap) : Prop := va_Z "jdk/internal/util/Preconditions" "SIOOBE_FORMATTER" "Ljava/util/function/BiFunction;" .null A s H ∨ va_Z "jdk/internal/util/Preconditions" "SIOOBE_FORMATTER" "Ljava/util/function/BiFunction;" (.ref (α (n + 22))) A s H
theorem h_Zf.moved {n : Nat} {α : Nat → Nat} {A : Nat → Prop} {u U : State} {H : Heap} (hvm : u.vm.Alike U.vm) (h : h_Zf n α A u H) : h_Zf n α A U H := h.elim (fun h => Or.inl (h.moved hvm)) (fun h => Or.inr (h.moved hvm))
theorem h_Zf.kept {n : Nat} {α : Nat → Nat} {A : Nat → Prop} {U : State} {H H1 : Heap} (h : h_Zf n α A U H) (hq : ∀ a : Nat, a < H.size → ¬ A a → H1[a]? = H[a]?) : h_Zf n α A U H1 := h.elim (fun h => Or.inl (h.kept hq)) (fun h => Or.inr (h.kept hq))
theorem h_Zf.narrow {n : Nat} {α : Nat → Nat} {A B : Nat → Prop} {U : State} {H : Heap} (h : h_Zf n α A U H) (hAB : ∀ q, B q → A q) : h_Zf n α B U H := h.elim (fun h => Or.inl (h.narrow hAB)) (fun h => Or.inr (h.narrow hAB))
/-- what stands outside the cells: links of nest mates, the texts (cells n + i, their bytes n + 11 + i), two statics of the JDK's -/
def h_E (n : Nat) (α : Nat → Nat) (A : Nat → Prop) (s : State) (H : Heap) : Prop :=
  h_Nw s ∧ vk_S 11 h_len h_byt (fun i => α (n + i)) (fun i => α (n + 11 + i)) A s H ∧ (∀ q ∈ h_lits, vk_R q.1 q.2.1 q.2.2.1 (α (n + q.2.2.2)) s) ∧ va_Z "java/lang/String" "COMPACT_STRINGS" "Z" (.int 1) A s H ∧ h_Zf n α A s H
theorem h_E_warm {n : Nat} {α : Nat → Nat} {A B : Nat → Prop} {s U : State} {H : Heap} (hW : s.WarmedH U.vm) (hAB : ∀ q, B q → A q) (hq : ∀ a : Nat, a < s.heap.size → ¬ A a → H[a]? = s.heap[a]?) (h : h_E n α A s s.heap) : h_E n α B U H :=
  ⟨h_Nw_warm hW h.1, ((h.2.1.kept hq).narrow hAB).moved hW.alike, fun q hq => (h.2.2.1 q hq).warm hW, ((h.2.2.2.1.kept hq).narrow hAB).moved hW.alike, ((h.2.2.2.2.kept hq).narrow hAB).moved hW.alike⟩
theorem h_E_same {n : Nat} {α : Nat → Nat} {A : Nat → Prop} {s U : State} {H : Heap} (hW : s.vm = U.vm) (h : h_E n α A s H) : h_E n α A U H :=
  ⟨h_Nw_same hW h.1, h.2.1.moved (hW ▸ Vm.Alike.refl s.vm), fun q hq => (h.2.2.1 q hq).same hW.symm, h.2.2.2.1.moved (hW ▸ Vm.Alike.refl s.vm), h.2.2.2.2.moved (hW ▸ Vm.Alike.refl s.vm)⟩
def h_Q (FT : Nat → List Nat) (kd : List (Nat × Nat)) (cy : Nat → ClassId) (α : Nat → Nat) (D : va_G) (A : Nat → Prop) (r : Option Value) (M' : hMem) : Array Value → State → Outcome → State → Prop :=
  fun _ st oc t => (oc = .returned (r.map (h_v α)) ∧ va_P D vwCl (h_w FT kd cy α M') t.heap) ∧ va_F A st t
/-- what stands throughout a method's body -/
def h_C (cc : ByteArray) (nL : Nat) (ret : Option FieldType) (own : String) (n d : Nat) (p : Program) (R : Room) (s : State) (m : MethodId) (args : Array Value) (meth : Method) (c : Code) (α : Nat → Nat) (D : va_G) (cy : Nat → ClassId) (A : Nat → Prop) : Prop :=
  p.tables.exec = Jvm.exec ∧ c.code = cc ∧ c.maxLocals = nL ∧ s.vm.findClass own = some m.cls ∧ (∀ w ∈ h_T, w.before args s = true) ∧ meth.sig.returnType = ret ∧ meth.locks = false ∧ h_E n α A s s.heap ∧ va_K D vwCl (hTys cy) s ∧ (d ≤ R.frames ∧ d * 64 ≤ R.locals) ∧ h_I n α ∧ (∀ k, k < n → A (α k)) ∧ ∀ q, s.heap.size ≤ q → A q
def AW (FT : Nat → List Nat) (cc : ByteArray) (nL : Nat) (ret : Option FieldType) (own : String) (kd : List (Nat × Nat)) (d : Nat) (lv : List (Nat × Value)) (pc : Nat) (st : List Value) (M : hMem) (r : Option Value) (M' : hMem) : Prop :=
  ∀ (p : Program) (l : Launch) (e : Env) (R : Room) (s : State) (m : MethodId) (args : Array Value) (below : List Frame) (meth : Method) (c : Code) (H : Heap) (ls : Array Slot) (locs : List Loc) (α : Nat → Nat) (D : va_G) (cy : Nat → ClassId) (A : Nat → Prop),
    h_C cc nL ret own kd.length d p R s m args meth c α D cy A → va_P D vwCl (h_w FT kd cy α M) H → va_S A s.heap H locs → lv_has ls nL (lv.map (fun q => (q.1, h_v α q.2))) →
    W p l e R s m args below meth c H locs 0 0 (MQ below (h_Q FT kd cy α D A r M') args s 0 0 A) (F0 m pc ls (st.map (h_v α)))
/-- a method's contract in these words -/
def HMet (FT : Nat → List Nat) (y : MethodName) (cc : ByteArray) (nL : Nat) (ret : Option FieldType) (kd : List (Nat × Nat)) (d : Nat) (av : List Value) (M : hMem) (r : Option Value) (M' : hMem) : Prop :=
  ∀ (l : Launch) (α : Nat → Nat) (D : va_G) (cy : Nat → ClassId) (sz : Nat), h_I kd.length α → Met l y (.code y cc nL ret :: h_T) { frames := d, cells := 0, slots := 0, locals := d * 64 }
    (va_Pc (av.map (h_v α)) (fun U => U.heap.size = sz ∧ va_P D vwCl (h_w FT kd cy α M) U.heap ∧ va_K D vwCl (hTys cy) U ∧ h_E kd.length α (h_A kd.length α sz) U U.heap))
    (h_Q FT kd cy α D (h_A kd.length α sz) r M') 0 0 (h_A kd.length α sz)
theorem h_args (α : Nat → Nat) : ∀ (av : List Value) (i : Nat), lv_args i (av.map (h_v α)) = (lv_args i av).map (fun q => (q.1, h_v α q.2))
  | [], _ => rfl
  | v :: vs, i => by
    show (i, h_v α v) :: lv_args (if (h_v α v).category = 2 then i + 2 else i + 1) (vs.map (h_v α)) = _
    rw [h_v_cat, h_args α vs]
    rfl
theorem h_sl_len (α : Nat → Nat) : ∀ (av : List Value), (lg_sl (av.map (h_v α))).length = (lg_sl av).length
  | [] => rfl
  | v :: vs => by
    have ih := h_sl_len α vs
    cases v <;> simp [lg_sl, h_v, Value.category] at ih ⊢ <;> omega
/-- the contract out of the walk from the entry -/
theorem HMet.of {FT : Nat → List Nat} {y : MethodName} {cc : ByteArray} {nL : Nat} {ret : Option FieldType} {kd : List (Nat × Nat)} {d : Nat} {av : List Value} {M : hMem} {r : Option Value} {M' : hMem} (hy : plainName y.cls = true) (hn : (lg_sl av).length ≤ nL)
    (h : AW FT cc nL ret y.cls kd d (lv_args 0 av) 0 [] M r M') : HMet FT y cc nL ret kd d av M r M' := by
  intro l α D cy sz hI
  refine Met.ofW (cc := cc) (maxL := nL) (ret := ret) hy rfl ?_
  intro p e s m args below meth c s₁ B hml hv
  obtain ⟨rfl, hsz, hP, hK, hN⟩ := hv
  have hl := lv_entry (av.map (h_v α)) (n := nL) (by rw [h_sl_len]; exact hn)
  rw [lg_entry_eq]
  generalize (lg_sl (av.map (h_v α)) ++ List.replicate (nL - (lg_sl (av.map (h_v α))).length) Slot.unset).toArray = ls at hl ⊢
  rw [h_args] at hl
  have hts := atoms_spec (ws := (.code y cc nL ret :: h_T)) B.pre
  have hown : s.vm.findClass y.cls = some m.cls := findClass_of_methodNamed B.named
  subst hsz
  exact h p l e _ s m _ below meth c s.heap ls [] α D cy (h_A kd.length α s.heap.size) ⟨B.exec, B.bytes, hml, hown, fun w hw => hts w (List.mem_cons_of_mem _ hw), B.returns, B.notSynchronized, hN, hK, ⟨Nat.le_refl _, Nat.le_refl _⟩, hI, fun k hk => Or.inl ⟨k, hk, rfl⟩, fun q hq => Or.inr hq⟩ hP va_S.rf hl
