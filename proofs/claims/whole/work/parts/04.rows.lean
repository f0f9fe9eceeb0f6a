/-! The kit's laws of single instructions, over AW. -/
section HR
variable {FT : Nat → List Nat} {cc : ByteArray} {nL : Nat} {ret : Option FieldType} {own : String} {kd : List (Nat × Nat)} {d : Nat} {lv : List (Nat × Value)} {pc : Nat} {st : List Value} {M : hMem} {r : Option Value} {M' : hMem}
theorem a_iadd {x y : Int32} (hd : decode cc pc = .ok (.iadd, 1))  (k : AW FT cc nL ret own kd d lv (pc + 1) (.int (x + y) :: st) M r M') : AW FT cc nL ret own kd d lv pc (.int y :: .int x :: st) M r M' := by
  intro p l e R s m args below meth c H ls locs α D cy A hC hP hS hl
  exact lv_iadd hC.1 hC.2.1 hd  (k p l e R s m args below meth c H ls locs α D cy A hC hP hS hl)
theorem a_isub {x y : Int32} (hd : decode cc pc = .ok (.isub, 1))  (k : AW FT cc nL ret own kd d lv (pc + 1) (.int (x - y) :: st) M r M') : AW FT cc nL ret own kd d lv pc (.int y :: .int x :: st) M r M' := by
  intro p l e R s m args below meth c H ls locs α D cy A hC hP hS hl
  exact lv_isub hC.1 hC.2.1 hd  (k p l e R s m args below meth c H ls locs α D cy A hC hP hS hl)
theorem a_imul {x y : Int32} (hd : decode cc pc = .ok (.imul, 1))  (k : AW FT cc nL ret own kd d lv (pc + 1) (.int (x * y) :: st) M r M') : AW FT cc nL ret own kd d lv pc (.int y :: .int x :: st) M r M' := by
  intro p l e R s m args below meth c H ls locs α D cy A hC hP hS hl
  exact lv_imul hC.1 hC.2.1 hd  (k p l e R s m args below meth c H ls locs α D cy A hC hP hS hl)
theorem a_iand {x y : Int32} (hd : decode cc pc = .ok (.iand, 1))  (k : AW FT cc nL ret own kd d lv (pc + 1) (.int (x &&& y) :: st) M r M') : AW FT cc nL ret own kd d lv pc (.int y :: .int x :: st) M r M' := by
  intro p l e R s m args below meth c H ls locs α D cy A hC hP hS hl
  exact lv_iand hC.1 hC.2.1 hd  (k p l e R s m args below meth c H ls locs α D cy A hC hP hS hl)
theorem a_ior {x y : Int32} (hd : decode cc pc = .ok (.ior, 1))  (k : AW FT cc nL ret own kd d lv (pc + 1) (.int (x ||| y) :: st) M r M') : AW FT cc nL ret own kd d lv pc (.int y :: .int x :: st) M r M' := by
  intro p l e R s m args below meth c H ls locs α D cy A hC hP hS hl
  exact lv_ior hC.1 hC.2.1 hd  (k p l e R s m args below meth c H ls locs α D cy A hC hP hS hl)
theorem a_ixor {x y : Int32} (hd : decode cc pc = .ok (.ixor, 1))  (k : AW FT cc nL ret own kd d lv (pc + 1) (.int (x ^^^ y) :: st) M r M') : AW FT cc nL ret own kd d lv pc (.int y :: .int x :: st) M r M' := by
  intro p l e R s m args below meth c H ls locs α D cy A hC hP hS hl
  exact lv_ixor hC.1 hC.2.1 hd  (k p l e R s m args below meth c H ls locs α D cy A hC hP hS hl)
theorem a_ishl {x y : Int32} (hd : decode cc pc = .ok (.ishl, 1))  (k : AW FT cc nL ret own kd d lv (pc + 1) (.int (x <<< (y &&& 31)) :: st) M r M') : AW FT cc nL ret own kd d lv pc (.int y :: .int x :: st) M r M' := by
  intro p l e R s m args below meth c H ls locs α D cy A hC hP hS hl
  exact lv_ishl hC.1 hC.2.1 hd  (k p l e R s m args below meth c H ls locs α D cy A hC hP hS hl)
theorem a_ishr {x y : Int32} (hd : decode cc pc = .ok (.ishr, 1))  (k : AW FT cc nL ret own kd d lv (pc + 1) (.int (x >>> (y &&& 31)) :: st) M r M') : AW FT cc nL ret own kd d lv pc (.int y :: .int x :: st) M r M' := by
  intro p l e R s m args below meth c H ls locs α D cy A hC hP hS hl
  exact lv_ishr hC.1 hC.2.1 hd  (k p l e R s m args below meth c H ls locs α D cy A hC hP hS hl)
theorem a_idiv {x y : Int32} (hd : decode cc pc = .ok (.idiv, 1)) (hne : ¬ y = 0) (k : AW FT cc nL ret own kd d lv (pc + 1) (.int (x / y) :: st) M r M') : AW FT cc nL ret own kd d lv pc (.int y :: .int x :: st) M r M' := by
  intro p l e R s m args below meth c H ls locs α D cy A hC hP hS hl
  exact lv_idiv hC.1 hC.2.1 hd hne (k p l e R s m args below meth c H ls locs α D cy A hC hP hS hl)
theorem a_irem {x y : Int32} (hd : decode cc pc = .ok (.irem, 1)) (hne : ¬ y = 0) (k : AW FT cc nL ret own kd d lv (pc + 1) (.int (x - x / y * y) :: st) M r M') : AW FT cc nL ret own kd d lv pc (.int y :: .int x :: st) M r M' := by
  intro p l e R s m args below meth c H ls locs α D cy A hC hP hS hl
  exact lv_irem hC.1 hC.2.1 hd hne (k p l e R s m args below meth c H ls locs α D cy A hC hP hS hl)
theorem a_ladd {x y : Int64} (hd : decode cc pc = .ok (.ladd, 1))  (k : AW FT cc nL ret own kd d lv (pc + 1) (.long (x + y) :: st) M r M') : AW FT cc nL ret own kd d lv pc (.long y :: .long x :: st) M r M' := by
  intro p l e R s m args below meth c H ls locs α D cy A hC hP hS hl
  exact lv_ladd hC.1 hC.2.1 hd  (k p l e R s m args below meth c H ls locs α D cy A hC hP hS hl)
theorem a_lsub {x y : Int64} (hd : decode cc pc = .ok (.lsub, 1))  (k : AW FT cc nL ret own kd d lv (pc + 1) (.long (x - y) :: st) M r M') : AW FT cc nL ret own kd d lv pc (.long y :: .long x :: st) M r M' := by
  intro p l e R s m args below meth c H ls locs α D cy A hC hP hS hl
  exact lv_lsub hC.1 hC.2.1 hd  (k p l e R s m args below meth c H ls locs α D cy A hC hP hS hl)
theorem a_lmul {x y : Int64} (hd : decode cc pc = .ok (.lmul, 1))  (k : AW FT cc nL ret own kd d lv (pc + 1) (.long (x * y) :: st) M r M') : AW FT cc nL ret own kd d lv pc (.long y :: .long x :: st) M r M' := by
  intro p l e R s m args below meth c H ls locs α D cy A hC hP hS hl
  exact lv_lmul hC.1 hC.2.1 hd  (k p l e R s m args below meth c H ls locs α D cy A hC hP hS hl)
theorem a_ldiv {x y : Int64} (hd : decode cc pc = .ok (.ldiv, 1)) (hne : ¬ y = 0) (k : AW FT cc nL ret own kd d lv (pc + 1) (.long (x / y) :: st) M r M') : AW FT cc nL ret own kd d lv pc (.long y :: .long x :: st) M r M' := by
  intro p l e R s m args below meth c H ls locs α D cy A hC hP hS hl
  exact lv_ldiv hC.1 hC.2.1 hd hne (k p l e R s m args below meth c H ls locs α D cy A hC hP hS hl)
theorem a_lrem {x y : Int64} (hd : decode cc pc = .ok (.lrem, 1)) (hne : ¬ y = 0) (k : AW FT cc nL ret own kd d lv (pc + 1) (.long (x - x / y * y) :: st) M r M') : AW FT cc nL ret own kd d lv pc (.long y :: .long x :: st) M r M' := by
  intro p l e R s m args below meth c H ls locs α D cy A hC hP hS hl
  exact lv_lrem hC.1 hC.2.1 hd hne (k p l e R s m args below meth c H ls locs α D cy A hC hP hS hl)
theorem a_lneg {x : Int64} (hd : decode cc pc = .ok (.lneg, 1))  (k : AW FT cc nL ret own kd d lv (pc + 1) (.long (-x) :: st) M r M') : AW FT cc nL ret own kd d lv pc (.long x :: st) M r M' := by
  intro p l e R s m args below meth c H ls locs α D cy A hC hP hS hl
  exact lv_lneg hC.1 hC.2.1 hd  (k p l e R s m args below meth c H ls locs α D cy A hC hP hS hl)
theorem a_i2l {x : Int32} (hd : decode cc pc = .ok (.i2l, 1))  (k : AW FT cc nL ret own kd d lv (pc + 1) (.long x.toInt64 :: st) M r M') : AW FT cc nL ret own kd d lv pc (.int x :: st) M r M' := by
  intro p l e R s m args below meth c H ls locs α D cy A hC hP hS hl
  exact lv_i2l hC.1 hC.2.1 hd rfl (k p l e R s m args below meth c H ls locs α D cy A hC hP hS hl)
theorem a_i2c {x : Int32} (hd : decode cc pc = .ok (.i2c, 1))  (k : AW FT cc nL ret own kd d lv (pc + 1) (.int (x.toUInt32 % 65536).toInt32 :: st) M r M') : AW FT cc nL ret own kd d lv pc (.int x :: st) M r M' := by
  intro p l e R s m args below meth c H ls locs α D cy A hC hP hS hl
  exact lv_i2c hC.1 hC.2.1 hd rfl (k p l e R s m args below meth c H ls locs α D cy A hC hP hS hl)
theorem a_iushr {x y : Int32} (hd : decode cc pc = .ok (.iushr, 1))  (k : AW FT cc nL ret own kd d lv (pc + 1) (.int (x.toUInt32 >>> (y.toUInt32 &&& Int32.toUInt32 31)).toInt32 :: st) M r M') : AW FT cc nL ret own kd d lv pc (.int y :: .int x :: st) M r M' := by
  intro p l e R s m args below meth c H ls locs α D cy A hC hP hS hl
  exact lv_iushr hC.1 hC.2.1 hd rfl (k p l e R s m args below meth c H ls locs α D cy A hC hP hS hl)
theorem a_lshl {x : Int64} {y : Int32} (hd : decode cc pc = .ok (.lshl, 1))  (k : AW FT cc nL ret own kd d lv (pc + 1) (.long (x <<< (y.toInt64 &&& 63)) :: st) M r M') : AW FT cc nL ret own kd d lv pc (.int y :: .long x :: st) M r M' := by
  intro p l e R s m args below meth c H ls locs α D cy A hC hP hS hl
  exact lv_lshl hC.1 hC.2.1 hd rfl (k p l e R s m args below meth c H ls locs α D cy A hC hP hS hl)
theorem a_lcmp {x y : Int64} (hd : decode cc pc = .ok (.lcmp, 1))  (k : AW FT cc nL ret own kd d lv (pc + 1) (.int (lg_cmp x y) :: st) M r M') : AW FT cc nL ret own kd d lv pc (.long y :: .long x :: st) M r M' := by
  intro p l e R s m args below meth c H ls locs α D cy A hC hP hS hl
  exact W.lcmp hC.1 hC.2.1 hd  (k p l e R s m args below meth c H ls locs α D cy A hC hP hS hl)
theorem a_iconst {n : Int} {v : Int32} (hd : decode cc pc = .ok (.iconst n, 1)) (hv : Int32.ofInt n = v) (k : AW FT cc nL ret own kd d lv (pc + 1) (.int v :: st) M r M') : AW FT cc nL ret own kd d lv pc st M r M' := by
  intro p l e R s m args below meth c H ls locs α D cy A hC hP hS hl
  exact lv_iconst hC.1 hC.2.1 hd hv (k p l e R s m args below meth c H ls locs α D cy A hC hP hS hl)
theorem a_bipush {n : Int} {v : Int32} (hd : decode cc pc = .ok (.bipush n, 2)) (hv : (Int8.ofInt n).toInt32 = v) (k : AW FT cc nL ret own kd d lv (pc + 2) (.int v :: st) M r M') : AW FT cc nL ret own kd d lv pc st M r M' := by
  intro p l e R s m args below meth c H ls locs α D cy A hC hP hS hl
  exact lv_bipush hC.1 hC.2.1 hd hv (k p l e R s m args below meth c H ls locs α D cy A hC hP hS hl)
theorem a_sipush {n : Int} {v : Int32} (hd : decode cc pc = .ok (.sipush n, 3)) (hv : (Int16.ofInt n).toInt32 = v) (k : AW FT cc nL ret own kd d lv (pc + 3) (.int v :: st) M r M') : AW FT cc nL ret own kd d lv pc st M r M' := by
  intro p l e R s m args below meth c H ls locs α D cy A hC hP hS hl
  exact lv_sipush hC.1 hC.2.1 hd hv (k p l e R s m args below meth c H ls locs α D cy A hC hP hS hl)
theorem a_lconst {n : Fin 2} {v : Int64} (hd : decode cc pc = .ok (.lconst n, 1)) (hv : Int64.ofNat (n : Nat) = v) (k : AW FT cc nL ret own kd d lv (pc + 1) (.long v :: st) M r M') : AW FT cc nL ret own kd d lv pc st M r M' := by
  intro p l e R s m args below meth c H ls locs α D cy A hC hP hS hl
  exact lv_lconst hC.1 hC.2.1 hd hv (k p l e R s m args below meth c H ls locs α D cy A hC hP hS hl)
theorem h_ld {α : Nat → Nat} {ls : Array Slot} {i : Nat} {v : Value} (hl : lv_has ls nL (lv.map (fun q => (q.1, h_v α q.2)))) (hg : lv.find? (fun q => q.1 == i) = some (i, v)) : ls[i]? = some (.val (h_v α v)) := hl.2.2 (i, h_v α v) (List.mem_map.mpr ⟨(i, v), List.mem_of_find?_eq_some hg, rfl⟩)
theorem a_iload_n {k0 : Fin 4} {i : Nat} {x : Int32} (hd : decode cc pc = .ok (.iload_n k0, 1)) (hi : (k0 : Nat) = i) (hg : lv.find? (fun q => q.1 == i) = some (i, .int x)) (k : AW FT cc nL ret own kd d lv (pc + 1) (.int x :: st) M r M') : AW FT cc nL ret own kd d lv pc st M r M' := by
  intro p l e R s m args below meth c H ls locs α D cy A hC hP hS hl
  exact lv_iload_n hC.1 hC.2.1 hd hi (h_ld hl hg) (k p l e R s m args below meth c H ls locs α D cy A hC hP hS hl)
theorem a_iload {i : Nat} {x : Int32} (hd : decode cc pc = .ok (.iload i, 2)) (hg : lv.find? (fun q => q.1 == i) = some (i, .int x)) (k : AW FT cc nL ret own kd d lv (pc + 2) (.int x :: st) M r M') : AW FT cc nL ret own kd d lv pc st M r M' := by
  intro p l e R s m args below meth c H ls locs α D cy A hC hP hS hl
  exact lv_iload hC.1 hC.2.1 hd (h_ld hl hg) (k p l e R s m args below meth c H ls locs α D cy A hC hP hS hl)
theorem a_lload_n {k0 : Fin 4} {i : Nat} {x : Int64} (hd : decode cc pc = .ok (.lload_n k0, 1)) (hi : (k0 : Nat) = i) (hg : lv.find? (fun q => q.1 == i) = some (i, .long x)) (k : AW FT cc nL ret own kd d lv (pc + 1) (.long x :: st) M r M') : AW FT cc nL ret own kd d lv pc st M r M' := by
  intro p l e R s m args below meth c H ls locs α D cy A hC hP hS hl
  exact lv_lload_n hC.1 hC.2.1 hd hi (h_ld hl hg) (k p l e R s m args below meth c H ls locs α D cy A hC hP hS hl)
theorem a_lload {i : Nat} {x : Int64} (hd : decode cc pc = .ok (.lload i, 2)) (hg : lv.find? (fun q => q.1 == i) = some (i, .long x)) (k : AW FT cc nL ret own kd d lv (pc + 2) (.long x :: st) M r M') : AW FT cc nL ret own kd d lv pc st M r M' := by
  intro p l e R s m args below meth c H ls locs α D cy A hC hP hS hl
  exact lv_lload hC.1 hC.2.1 hd (h_ld hl hg) (k p l e R s m args below meth c H ls locs α D cy A hC hP hS hl)
theorem a_aload_n {k0 : Fin 4} {i : Nat} {x : Nat} (hd : decode cc pc = .ok (.aload_n k0, 1)) (hi : (k0 : Nat) = i) (hg : lv.find? (fun q => q.1 == i) = some (i, .ref x)) (k : AW FT cc nL ret own kd d lv (pc + 1) (.ref x :: st) M r M') : AW FT cc nL ret own kd d lv pc st M r M' := by
  intro p l e R s m args below meth c H ls locs α D cy A hC hP hS hl
  exact lv_aload_n hC.1 hC.2.1 hd hi (h_ld hl hg) (k p l e R s m args below meth c H ls locs α D cy A hC hP hS hl)
theorem a_aload {i : Nat} {x : Nat} (hd : decode cc pc = .ok (.aload i, 2)) (hg : lv.find? (fun q => q.1 == i) = some (i, .ref x)) (k : AW FT cc nL ret own kd d lv (pc + 2) (.ref x :: st) M r M') : AW FT cc nL ret own kd d lv pc st M r M' := by
  intro p l e R s m args below meth c H ls locs α D cy A hC hP hS hl
  exact lv_aload hC.1 hC.2.1 hd (h_ld hl hg) (k p l e R s m args below meth c H ls locs α D cy A hC hP hS hl)
def h_s1 (i : Nat) (v : Value) (lv : List (Nat × Value)) : List (Nat × Value) := (i, v) :: lv.filter (fun q => !(q.1 == i) && !(q.1 + 1 == i && q.2.category == 2))
def h_s2 (i : Nat) (v : Value) (lv : List (Nat × Value)) : List (Nat × Value) := (i, v) :: lv.filter (fun q => !(q.1 == i) && (!(q.1 == i + 1) && !(q.1 + 1 == i && q.2.category == 2)))
theorem h_s1_map (α : Nat → Nat) (i : Nat) (v : Value) (lv : List (Nat × Value)) : (i, h_v α v) :: (lv.map (fun q => (q.1, h_v α q.2))).filter (fun q => !(q.1 == i) && !(q.1 + 1 == i && q.2.category == 2)) = (h_s1 i v lv).map (fun q => (q.1, h_v α q.2)) := by
  unfold h_s1
  rw [List.map_cons, List.filter_map]
  congr 3
  funext q
  simp [Function.comp, h_v_cat]
theorem h_s2_map (α : Nat → Nat) (i : Nat) (v : Value) (lv : List (Nat × Value)) : (i, h_v α v) :: (lv.map (fun q => (q.1, h_v α q.2))).filter (fun q => !(q.1 == i) && (!(q.1 == i + 1) && !(q.1 + 1 == i && q.2.category == 2))) = (h_s2 i v lv).map (fun q => (q.1, h_v α q.2)) := by
  unfold h_s2
  rw [List.map_cons, List.filter_map]
  congr 3
  funext q
  simp [Function.comp, h_v_cat]
theorem a_istore_n {k0 : Fin 4} {i : Nat} {x : Int32} {lv' : List (Nat × Value)} (hd : decode cc pc = .ok (.istore_n k0, 1)) (hi : (k0 : Nat) = i) (hn : i < nL) (hv : h_s1 i (.int x) lv = lv') (k : AW FT cc nL ret own kd d lv' (pc + 1) st M r M') : AW FT cc nL ret own kd d lv pc (.int x :: st) M r M' := by
  intro p l e R s m args below meth c H ls locs α D cy A hC hP hS hl
  subst hv
  exact lv_istore_n hC.1 hC.2.1 hd hi hl hn (h_s1_map α i (.int x) lv) (fun ls hl => k p l e R s m args below meth c H ls locs α D cy A hC hP hS hl)
theorem a_istore {i : Nat} {x : Int32} {lv' : List (Nat × Value)} (hd : decode cc pc = .ok (.istore i, 2)) (hn : i < nL) (hv : h_s1 i (.int x) lv = lv') (k : AW FT cc nL ret own kd d lv' (pc + 2) st M r M') : AW FT cc nL ret own kd d lv pc (.int x :: st) M r M' := by
  intro p l e R s m args below meth c H ls locs α D cy A hC hP hS hl
  subst hv
  exact lv_istore hC.1 hC.2.1 hd hl hn (h_s1_map α i (.int x) lv) (fun ls hl => k p l e R s m args below meth c H ls locs α D cy A hC hP hS hl)
theorem a_lstore_n {k0 : Fin 4} {i : Nat} {x : Int64} {lv' : List (Nat × Value)} (hd : decode cc pc = .ok (.lstore_n k0, 1)) (hi : (k0 : Nat) = i) (hn : i + 1 < nL) (hv : h_s2 i (.long x) lv = lv') (k : AW FT cc nL ret own kd d lv' (pc + 1) st M r M') : AW FT cc nL ret own kd d lv pc (.long x :: st) M r M' := by
  intro p l e R s m args below meth c H ls locs α D cy A hC hP hS hl
  subst hv
  exact lv_lstore_n hC.1 hC.2.1 hd hi hl hn (h_s2_map α i (.long x) lv) (fun ls hl => k p l e R s m args below meth c H ls locs α D cy A hC hP hS hl)
theorem a_lstore {i : Nat} {x : Int64} {lv' : List (Nat × Value)} (hd : decode cc pc = .ok (.lstore i, 2)) (hn : i + 1 < nL) (hv : h_s2 i (.long x) lv = lv') (k : AW FT cc nL ret own kd d lv' (pc + 2) st M r M') : AW FT cc nL ret own kd d lv pc (.long x :: st) M r M' := by
  intro p l e R s m args below meth c H ls locs α D cy A hC hP hS hl
  subst hv
  exact lv_lstore hC.1 hC.2.1 hd hl hn (h_s2_map α i (.long x) lv) (fun ls hl => k p l e R s m args below meth c H ls locs α D cy A hC hP hS hl)
theorem a_astore_n {k0 : Fin 4} {i : Nat} {x : Nat} {lv' : List (Nat × Value)} (hd : decode cc pc = .ok (.astore_n k0, 1)) (hi : (k0 : Nat) = i) (hn : i < nL) (hv : h_s1 i (.ref x) lv = lv') (k : AW FT cc nL ret own kd d lv' (pc + 1) st M r M') : AW FT cc nL ret own kd d lv pc (.ref x :: st) M r M' := by
  intro p l e R s m args below meth c H ls locs α D cy A hC hP hS hl
  subst hv
  exact lv_astore_n hC.1 hC.2.1 hd hi hl hn (h_s1_map α i (.ref x) lv) (fun ls hl => k p l e R s m args below meth c H ls locs α D cy A hC hP hS hl)
theorem a_astore {i : Nat} {x : Nat} {lv' : List (Nat × Value)} (hd : decode cc pc = .ok (.astore i, 2)) (hn : i < nL) (hv : h_s1 i (.ref x) lv = lv') (k : AW FT cc nL ret own kd d lv' (pc + 2) st M r M') : AW FT cc nL ret own kd d lv pc (.ref x :: st) M r M' := by
  intro p l e R s m args below meth c H ls locs α D cy A hC hP hS hl
  subst hv
  exact lv_astore hC.1 hC.2.1 hd hl hn (h_s1_map α i (.ref x) lv) (fun ls hl => k p l e R s m args below meth c H ls locs α D cy A hC hP hS hl)
theorem a_iinc {i : Nat} {n : Int} {x v : Int32} {lv' : List (Nat × Value)} (hd : decode cc pc = .ok (.iinc i n, 3)) (hg : lv.find? (fun q => q.1 == i) = some (i, .int x)) (hx : x + Int32.ofInt n = v) (hn : i < nL) (hv : h_s1 i (.int v) lv = lv') (k : AW FT cc nL ret own kd d lv' (pc + 3) st M r M') : AW FT cc nL ret own kd d lv pc st M r M' := by
  intro p l e R s m args below meth c H ls locs α D cy A hC hP hS hl
  subst hv
  obtain ⟨j, hj⟩ := List.getElem?_of_mem (List.mem_of_find?_eq_some hg)
  exact lv_iinc (k := j) hC.1 hC.2.1 hd hl (by rw [List.getElem?_map, hj]; rfl) hx hn (h_s1_map α i (.int v) lv) (fun ls hl => k p l e R s m args below meth c H ls locs α D cy A hC hP hS hl)
theorem a_sub {lv' : List (Nat × Value)} (ks : List Nat) (hs : lv_pick lv ks = lv') (k : AW FT cc nL ret own kd d lv' pc st M r M') : AW FT cc nL ret own kd d lv pc st M r M' := by
  intro p l e R s m args below meth c H ls locs α D cy A hC hP hS hl
  refine k p l e R s m args below meth c H ls locs α D cy A hC hP hS (lv_sub hl ks ?_)
  subst hs
  simp only [lv_pick, List.getElem?_map, List.map_filterMap]
theorem a_dup {v : Value} (hd : decode cc pc = .ok (.dup, 1)) (hc : v.category = 1) (k : AW FT cc nL ret own kd d lv (pc + 1) (v :: v :: st) M r M') : AW FT cc nL ret own kd d lv pc (v :: st) M r M' := by
  intro p l e R s m args below meth c H ls locs α D cy A hC hP hS hl
  exact lv_dup hC.1 hC.2.1 hd (by rw [h_v_cat]; exact hc) (k p l e R s m args below meth c H ls locs α D cy A hC hP hS hl)
theorem a_pop {v : Value} (hd : decode cc pc = .ok (.pop, 1)) (hc : v.category = 1) (k : AW FT cc nL ret own kd d lv (pc + 1) st M r M') : AW FT cc nL ret own kd d lv pc (v :: st) M r M' := by
  intro p l e R s m args below meth c H ls locs α D cy A hC hP hS hl
  exact lv_pop hC.1 hC.2.1 hd (by rw [h_v_cat]; exact hc) (k p l e R s m args below meth c H ls locs α D cy A hC hP hS hl)
theorem a_dup2_11 {v w : Value} (hd : decode cc pc = .ok (.dup2, 1)) (hc : v.category = 1) (hw : w.category = 1) (k : AW FT cc nL ret own kd d lv (pc + 1) (v :: w :: v :: w :: st) M r M') : AW FT cc nL ret own kd d lv pc (v :: w :: st) M r M' := by
  intro p l e R s m args below meth c H ls locs α D cy A hC hP hS hl
  exact lv_dup2_11 hC.1 hC.2.1 hd (by rw [h_v_cat]; exact hc) (by rw [h_v_cat]; exact hw) (k p l e R s m args below meth c H ls locs α D cy A hC hP hS hl)
theorem a_dup2_2 {v : Value} (hd : decode cc pc = .ok (.dup2, 1)) (hc : v.category = 2) (k : AW FT cc nL ret own kd d lv (pc + 1) (v :: v :: st) M r M') : AW FT cc nL ret own kd d lv pc (v :: st) M r M' := by
  intro p l e R s m args below meth c H ls locs α D cy A hC hP hS hl
  exact lv_dup2_2 hC.1 hC.2.1 hd (by rw [h_v_cat]; exact hc) (k p l e R s m args below meth c H ls locs α D cy A hC hP hS hl)
theorem a_ldc {i : Nat} {v : Int32} (hw : Cond.constant own i v ∈ h_T) (hd : decode cc pc = .ok (.ldc i, 2)) (k : AW FT cc nL ret own kd d lv (pc + 2) (.int v :: st) M r M') : AW FT cc nL ret own kd d lv pc st M r M' := by
  intro p l e R s m args below meth c H ls locs α D cy A hC hP hS hl
  exact lv_ldc hC.1 hC.2.1 hC.2.2.2.1 (hC.2.2.2.2.1 _ hw) hd (k p l e R s m args below meth c H ls locs α D cy A hC hP hS hl)
theorem a_ldc_w {i : Nat} {v : Int32} (hw : Cond.constant own i v ∈ h_T) (hd : decode cc pc = .ok (.ldc_w i, 3)) (k : AW FT cc nL ret own kd d lv (pc + 3) (.int v :: st) M r M') : AW FT cc nL ret own kd d lv pc st M r M' := by
  intro p l e R s m args below meth c H ls locs α D cy A hC hP hS hl
  exact lv_ldcw hC.1 hC.2.1 hC.2.2.2.1 (hC.2.2.2.2.1 _ hw) hd (k p l e R s m args below meth c H ls locs α D cy A hC hP hS hl)
theorem a_ldc2_w {i : Nat} {v : Int64} (hw : Cond.constantLong own i v ∈ h_T) (hd : decode cc pc = .ok (.ldc2_w i, 3)) (k : AW FT cc nL ret own kd d lv (pc + 3) (.long v :: st) M r M') : AW FT cc nL ret own kd d lv pc st M r M' := by
  intro p l e R s m args below meth c H ls locs α D cy A hC hP hS hl
  exact lv_ldc2 hC.1 hC.2.1 hC.2.2.2.1 (hC.2.2.2.2.1 _ hw) hd (k p l e R s m args below meth c H ls locs α D cy A hC hP hS hl)
theorem a_goto {off : Int} {tgt : Nat} (hd : decode cc pc = .ok (.goto off, 3)) (ht : (pc : Int) + off = (tgt : Int)) (k : AW FT cc nL ret own kd d lv tgt st M r M') : AW FT cc nL ret own kd d lv pc st M r M' := by
  intro p l e R s m args below meth c H ls locs α D cy A hC hP hS hl
  exact lv_goto hC.1 hC.2.1 hd ht (k p l e R s m args below meth c H ls locs α D cy A hC hP hS hl)
theorem a_if_eq {x : Int32} {off : Int} {tgt : Nat} (hd : decode cc pc = .ok (.ifCond .eq off, 3)) (ht : (pc : Int) + off = (tgt : Int)) (kt : x = 0 → AW FT cc nL ret own kd d lv tgt st M r M') (kf : ¬ x = 0 → AW FT cc nL ret own kd d lv (pc + 3) st M r M') : AW FT cc nL ret own kd d lv pc (.int x :: st) M r M' := by
  intro p l e R s m args below meth c H ls locs α D cy A hC hP hS hl
  exact lv_if_eq hC.1 hC.2.1 hd ht (fun h => kt h p l e R s m args below meth c H ls locs α D cy A hC hP hS hl) (fun h => kf h p l e R s m args below meth c H ls locs α D cy A hC hP hS hl)
theorem a_icmp_eq {x y : Int32} {off : Int} {tgt : Nat} (hd : decode cc pc = .ok (.if_icmp .eq off, 3)) (ht : (pc : Int) + off = (tgt : Int)) (kt : x = y → AW FT cc nL ret own kd d lv tgt st M r M') (kf : ¬ x = y → AW FT cc nL ret own kd d lv (pc + 3) st M r M') : AW FT cc nL ret own kd d lv pc (.int y :: .int x :: st) M r M' := by
  intro p l e R s m args below meth c H ls locs α D cy A hC hP hS hl
  exact lv_icmp_eq hC.1 hC.2.1 hd ht (fun h => kt h p l e R s m args below meth c H ls locs α D cy A hC hP hS hl) (fun h => kf h p l e R s m args below meth c H ls locs α D cy A hC hP hS hl)
theorem a_if_ne {x : Int32} {off : Int} {tgt : Nat} (hd : decode cc pc = .ok (.ifCond .ne off, 3)) (ht : (pc : Int) + off = (tgt : Int)) (kt : ¬ x = 0 → AW FT cc nL ret own kd d lv tgt st M r M') (kf : x = 0 → AW FT cc nL ret own kd d lv (pc + 3) st M r M') : AW FT cc nL ret own kd d lv pc (.int x :: st) M r M' := by
  intro p l e R s m args below meth c H ls locs α D cy A hC hP hS hl
  exact lv_if_ne hC.1 hC.2.1 hd ht (fun h => kt h p l e R s m args below meth c H ls locs α D cy A hC hP hS hl) (fun h => kf h p l e R s m args below meth c H ls locs α D cy A hC hP hS hl)
theorem a_icmp_ne {x y : Int32} {off : Int} {tgt : Nat} (hd : decode cc pc = .ok (.if_icmp .ne off, 3)) (ht : (pc : Int) + off = (tgt : Int)) (kt : ¬ x = y → AW FT cc nL ret own kd d lv tgt st M r M') (kf : x = y → AW FT cc nL ret own kd d lv (pc + 3) st M r M') : AW FT cc nL ret own kd d lv pc (.int y :: .int x :: st) M r M' := by
  intro p l e R s m args below meth c H ls locs α D cy A hC hP hS hl
  exact lv_icmp_ne hC.1 hC.2.1 hd ht (fun h => kt h p l e R s m args below meth c H ls locs α D cy A hC hP hS hl) (fun h => kf h p l e R s m args below meth c H ls locs α D cy A hC hP hS hl)
theorem a_if_lt {x : Int32} {off : Int} {tgt : Nat} (hd : decode cc pc = .ok (.ifCond .lt off, 3)) (ht : (pc : Int) + off = (tgt : Int)) (kt : x < 0 → AW FT cc nL ret own kd d lv tgt st M r M') (kf : ¬ x < 0 → AW FT cc nL ret own kd d lv (pc + 3) st M r M') : AW FT cc nL ret own kd d lv pc (.int x :: st) M r M' := by
  intro p l e R s m args below meth c H ls locs α D cy A hC hP hS hl
  exact lv_if_lt hC.1 hC.2.1 hd ht (fun h => kt h p l e R s m args below meth c H ls locs α D cy A hC hP hS hl) (fun h => kf h p l e R s m args below meth c H ls locs α D cy A hC hP hS hl)
theorem a_icmp_lt {x y : Int32} {off : Int} {tgt : Nat} (hd : decode cc pc = .ok (.if_icmp .lt off, 3)) (ht : (pc : Int) + off = (tgt : Int)) (kt : x < y → AW FT cc nL ret own kd d lv tgt st M r M') (kf : ¬ x < y → AW FT cc nL ret own kd d lv (pc + 3) st M r M') : AW FT cc nL ret own kd d lv pc (.int y :: .int x :: st) M r M' := by
  intro p l e R s m args below meth c H ls locs α D cy A hC hP hS hl
  exact lv_icmp_lt hC.1 hC.2.1 hd ht (fun h => kt h p l e R s m args below meth c H ls locs α D cy A hC hP hS hl) (fun h => kf h p l e R s m args below meth c H ls locs α D cy A hC hP hS hl)
theorem a_if_ge {x : Int32} {off : Int} {tgt : Nat} (hd : decode cc pc = .ok (.ifCond .ge off, 3)) (ht : (pc : Int) + off = (tgt : Int)) (kt : 0 ≤ x → AW FT cc nL ret own kd d lv tgt st M r M') (kf : ¬ 0 ≤ x → AW FT cc nL ret own kd d lv (pc + 3) st M r M') : AW FT cc nL ret own kd d lv pc (.int x :: st) M r M' := by
  intro p l e R s m args below meth c H ls locs α D cy A hC hP hS hl
  exact lv_if_ge hC.1 hC.2.1 hd ht (fun h => kt h p l e R s m args below meth c H ls locs α D cy A hC hP hS hl) (fun h => kf h p l e R s m args below meth c H ls locs α D cy A hC hP hS hl)
theorem a_icmp_ge {x y : Int32} {off : Int} {tgt : Nat} (hd : decode cc pc = .ok (.if_icmp .ge off, 3)) (ht : (pc : Int) + off = (tgt : Int)) (kt : y ≤ x → AW FT cc nL ret own kd d lv tgt st M r M') (kf : ¬ y ≤ x → AW FT cc nL ret own kd d lv (pc + 3) st M r M') : AW FT cc nL ret own kd d lv pc (.int y :: .int x :: st) M r M' := by
  intro p l e R s m args below meth c H ls locs α D cy A hC hP hS hl
  exact lv_icmp_ge hC.1 hC.2.1 hd ht (fun h => kt h p l e R s m args below meth c H ls locs α D cy A hC hP hS hl) (fun h => kf h p l e R s m args below meth c H ls locs α D cy A hC hP hS hl)
theorem a_if_gt {x : Int32} {off : Int} {tgt : Nat} (hd : decode cc pc = .ok (.ifCond .gt off, 3)) (ht : (pc : Int) + off = (tgt : Int)) (kt : 0 < x → AW FT cc nL ret own kd d lv tgt st M r M') (kf : ¬ 0 < x → AW FT cc nL ret own kd d lv (pc + 3) st M r M') : AW FT cc nL ret own kd d lv pc (.int x :: st) M r M' := by
  intro p l e R s m args below meth c H ls locs α D cy A hC hP hS hl
  exact lv_if_gt hC.1 hC.2.1 hd ht (fun h => kt h p l e R s m args below meth c H ls locs α D cy A hC hP hS hl) (fun h => kf h p l e R s m args below meth c H ls locs α D cy A hC hP hS hl)
theorem a_icmp_gt {x y : Int32} {off : Int} {tgt : Nat} (hd : decode cc pc = .ok (.if_icmp .gt off, 3)) (ht : (pc : Int) + off = (tgt : Int)) (kt : y < x → AW FT cc nL ret own kd d lv tgt st M r M') (kf : ¬ y < x → AW FT cc nL ret own kd d lv (pc + 3) st M r M') : AW FT cc nL ret own kd d lv pc (.int y :: .int x :: st) M r M' := by
  intro p l e R s m args below meth c H ls locs α D cy A hC hP hS hl
  exact lv_icmp_gt hC.1 hC.2.1 hd ht (fun h => kt h p l e R s m args below meth c H ls locs α D cy A hC hP hS hl) (fun h => kf h p l e R s m args below meth c H ls locs α D cy A hC hP hS hl)
theorem a_if_le {x : Int32} {off : Int} {tgt : Nat} (hd : decode cc pc = .ok (.ifCond .le off, 3)) (ht : (pc : Int) + off = (tgt : Int)) (kt : x ≤ 0 → AW FT cc nL ret own kd d lv tgt st M r M') (kf : ¬ x ≤ 0 → AW FT cc nL ret own kd d lv (pc + 3) st M r M') : AW FT cc nL ret own kd d lv pc (.int x :: st) M r M' := by
  intro p l e R s m args below meth c H ls locs α D cy A hC hP hS hl
  exact lv_if_le hC.1 hC.2.1 hd ht (fun h => kt h p l e R s m args below meth c H ls locs α D cy A hC hP hS hl) (fun h => kf h p l e R s m args below meth c H ls locs α D cy A hC hP hS hl)
theorem a_icmp_le {x y : Int32} {off : Int} {tgt : Nat} (hd : decode cc pc = .ok (.if_icmp .le off, 3)) (ht : (pc : Int) + off = (tgt : Int)) (kt : x ≤ y → AW FT cc nL ret own kd d lv tgt st M r M') (kf : ¬ x ≤ y → AW FT cc nL ret own kd d lv (pc + 3) st M r M') : AW FT cc nL ret own kd d lv pc (.int y :: .int x :: st) M r M' := by
  intro p l e R s m args below meth c H ls locs α D cy A hC hP hS hl
  exact lv_icmp_le hC.1 hC.2.1 hd ht (fun h => kt h p l e R s m args below meth c H ls locs α D cy A hC hP hS hl) (fun h => kf h p l e R s m args below meth c H ls locs α D cy A hC hP hS hl)
theorem a_tableIn {dflt lo hi : Int} {offs : Array Int} {len : Nat} {x : Int32} {off : Int} {tgt : Nat} (hd : decode cc pc = .ok (.tableswitch dflt lo hi offs, len)) (h1 : ¬ x.toInt < lo) (h2 : ¬ hi < x.toInt) (ho : offs[(x.toInt - lo).toNat]? = some off) (ht : (pc : Int) + off = (tgt : Int)) (k : AW FT cc nL ret own kd d lv tgt st M r M') : AW FT cc nL ret own kd d lv pc (.int x :: st) M r M' := by
  intro p l e R s m args below meth c H ls locs α D cy A hC hP hS hl
  exact lv_tableIn hC.1 hC.2.1 hd h1 h2 ho ht (k p l e R s m args below meth c H ls locs α D cy A hC hP hS hl)
theorem a_tableOut {dflt lo hi : Int} {offs : Array Int} {len : Nat} {x : Int32} {tgt : Nat} (hd : decode cc pc = .ok (.tableswitch dflt lo hi offs, len)) (h : x.toInt < lo ∨ hi < x.toInt) (ht : (pc : Int) + dflt = (tgt : Int)) (k : AW FT cc nL ret own kd d lv tgt st M r M') : AW FT cc nL ret own kd d lv pc (.int x :: st) M r M' := by
  intro p l e R s m args below meth c H ls locs α D cy A hC hP hS hl
  exact lv_tableOut hC.1 hC.2.1 hd h ht (k p l e R s m args below meth c H ls locs α D cy A hC hP hS hl)
/-- class ci of the list: its name, table, number of fields; its words among the tables'; the kinds of its fields -/
def h_K (FT : Nat → List Nat) (ci : Nat) (C : String) (T : u_T) (N : Nat) (ty : Nat → FieldType) : Prop := vwCl[ci]? = some (C, T, N) ∧ (∀ w ∈ u_ws C T N, w ∈ h_T) ∧ (∀ k, k < N → parseFieldDescriptor (T k).2.2.1 = some (ty k)) ∧ (∀ a, a < N → ∀ b, b < N → a ≠ b → (T a).2.1 ≠ (T b).2.1) ∧ (FT ci).length = N
theorem h_P_at {α : Nat → Nat} {cy : Nat → ClassId} {a : Nat} {q : Nat × Nat} (hk : kd[a]? = some q) : (h_w FT kd cy α M)[a]? = some (α a, h_cell FT cy α M a q) := h_w_at hk
theorem a_getI {ci a i z idx N : Nat} {C : String} {T : u_T} {ty : Nat → FieldType} (hK : h_K FT ci C T N ty) (hk : kd[a]? = some (ci + 5, z)) (hi : (FT ci)[i]? = some 0) (hw : Cond.fieldLink own idx C (T i).2.1 (T i).2.2.1 ∈ h_T) (hC0 : (T i).1 = C) (hd : decode cc pc = .ok (.getfield idx, 3)) (k : AW FT cc nL ret own kd d lv (pc + 3) (.int (M.1 a i) :: st) M r M') : AW FT cc nL ret own kd d lv pc (.ref a :: st) M r M' := by
  intro p l e R s m args below meth c H ls locs α D cy A hC hP hS hl
  have hiN : i < N := by rw [← hK.2.2.2.2]; exact (List.getElem?_eq_some_iff.mp hi).1
  exact va_get (ci := ci) (v := .int (M.1 a i)) hC.1 hC.2.1 hC.2.2.2.2.1 hK.2.1 hC.2.2.2.1 hC.2.2.2.2.2.2.2.2.1 hP a (h_w_at hk) hK.1 i hiN (hC.2.2.2.2.1 _ hw) (fun x hx => by rw [hC0] at hx; exact hx) (h_fs_at hi) hd (k p l e R s m args below meth c H ls locs α D cy A hC hP hS hl)
theorem a_getJ {ci a i z idx N : Nat} {C : String} {T : u_T} {ty : Nat → FieldType} (hK : h_K FT ci C T N ty) (hk : kd[a]? = some (ci + 5, z)) (hi : (FT ci)[i]? = some 1) (hw : Cond.fieldLink own idx C (T i).2.1 (T i).2.2.1 ∈ h_T) (hC0 : (T i).1 = C) (hd : decode cc pc = .ok (.getfield idx, 3)) (k : AW FT cc nL ret own kd d lv (pc + 3) (.long (M.2.1 a i) :: st) M r M') : AW FT cc nL ret own kd d lv pc (.ref a :: st) M r M' := by
  intro p l e R s m args below meth c H ls locs α D cy A hC hP hS hl
  have hiN : i < N := by rw [← hK.2.2.2.2]; exact (List.getElem?_eq_some_iff.mp hi).1
  exact va_get (ci := ci) (v := .long (M.2.1 a i)) hC.1 hC.2.1 hC.2.2.2.2.1 hK.2.1 hC.2.2.2.1 hC.2.2.2.2.2.2.2.2.1 hP a (h_w_at hk) hK.1 i hiN (hC.2.2.2.2.1 _ hw) (fun x hx => by rw [hC0] at hx; exact hx) (h_fs_at hi) hd (k p l e R s m args below meth c H ls locs α D cy A hC hP hS hl)
theorem a_getR {ci a i z idx N t : Nat} {o : Option Nat} {C : String} {T : u_T} {ty : Nat → FieldType} (hK : h_K FT ci C T N ty) (hk : kd[a]? = some (ci + 5, z)) (hi : (FT ci)[i]? = some (t + 2)) (hw : Cond.fieldLink own idx C (T i).2.1 (T i).2.2.1 ∈ h_T) (hC0 : (T i).1 = C) (hd : decode cc pc = .ok (.getfield idx, 3)) (ho : M.2.2 a i = o) (k : AW FT cc nL ret own kd d lv (pc + 3) (h_rv o :: st) M r M') : AW FT cc nL ret own kd d lv pc (.ref a :: st) M r M' := by
  intro p l e R s m args below meth c H ls locs α D cy A hC hP hS hl
  have hiN : i < N := by rw [← hK.2.2.2.2]; exact (List.getElem?_eq_some_iff.mp hi).1
  subst ho
  have kk := k p l e R s m args below meth c H ls locs α D cy A hC hP hS hl
  rw [List.map_cons, h_rv_v] at kk
  exact va_get (ci := ci) (v := va_rf ((M.2.2 a i).map α)) hC.1 hC.2.1 hC.2.2.2.2.1 hK.2.1 hC.2.2.2.1 hC.2.2.2.2.2.2.2.2.1 hP a (h_w_at hk) hK.1 i hiN (hC.2.2.2.2.1 _ hw) (fun x hx => by rw [hC0] at hx; exact hx) (h_fs_at hi) hd kk
theorem h_offI {cy : Nat → ClassId} {α : Nat → Nat} {a i : Nat} {x : Int32} : ∀ j u, j ≠ a → h_cell FT cy α (h_u M.1 a i x, M.2.1, M.2.2) j u = h_cell FT cy α M j u := by
  intro j u hj
  obtain ⟨u1, u2⟩ := u
  have hfs : ∀ l, h_fs α (h_u M.1 a i x, M.2.1, M.2.2) j l = h_fs α M j l := by
    intro l
    unfold h_fs
    congr 1
    funext q
    obtain ⟨t, i0⟩ := q
    match t with
    | 0 => simp [h_fv, h_u_off _ i x hj]
    | 1 => simp [h_fv, h_u_off _ i x hj]
    | t + 2 => simp [h_fv, h_u_off _ i x hj]
  match u1 with
  | 0 => simp [h_cell, h_u_off _ i x hj]
  | 1 => simp [h_cell, h_u_off _ i x hj]
  | 2 => simp [h_cell, h_u_off _ i x hj]
  | 3 => simp [h_cell, h_u_off _ i x hj]
  | 4 => simp [h_cell, h_u_off _ i x hj]
  | c + 5 => simp [h_cell, hfs]
theorem h_fldI {α : Nat → Nat} {a i : Nat} {x : Int32} : ∀ j u, j ≠ i → h_fv α (h_u M.1 a i x, M.2.1, M.2.2) a j u = h_fv α M a j u := by
  intro j u hj
  match u with
  | 0 => simp [h_fv, h_u, hj]
  | 1 => simp [h_fv, h_u, hj]
  | t + 2 => simp [h_fv, h_u, hj]
theorem h_offJ {cy : Nat → ClassId} {α : Nat → Nat} {a i : Nat} {x : Int64} : ∀ j u, j ≠ a → h_cell FT cy α (M.1, h_u M.2.1 a i x, M.2.2) j u = h_cell FT cy α M j u := by
  intro j u hj
  obtain ⟨u1, u2⟩ := u
  have hfs : ∀ l, h_fs α (M.1, h_u M.2.1 a i x, M.2.2) j l = h_fs α M j l := by
    intro l
    unfold h_fs
    congr 1
    funext q
    obtain ⟨t, i0⟩ := q
    match t with
    | 0 => simp [h_fv, h_u_off _ i x hj]
    | 1 => simp [h_fv, h_u_off _ i x hj]
    | t + 2 => simp [h_fv, h_u_off _ i x hj]
  match u1 with
  | 0 => simp [h_cell, h_u_off _ i x hj]
  | 1 => simp [h_cell, h_u_off _ i x hj]
  | 2 => simp [h_cell, h_u_off _ i x hj]
  | 3 => simp [h_cell, h_u_off _ i x hj]
  | 4 => simp [h_cell, h_u_off _ i x hj]
  | c + 5 => simp [h_cell, hfs]
theorem h_fldJ {α : Nat → Nat} {a i : Nat} {x : Int64} : ∀ j u, j ≠ i → h_fv α (M.1, h_u M.2.1 a i x, M.2.2) a j u = h_fv α M a j u := by
  intro j u hj
  match u with
  | 0 => simp [h_fv, h_u, hj]
  | 1 => simp [h_fv, h_u, hj]
  | t + 2 => simp [h_fv, h_u, hj]
theorem h_offR {cy : Nat → ClassId} {α : Nat → Nat} {a i : Nat} {x : Option Nat} : ∀ j u, j ≠ a → h_cell FT cy α (M.1, M.2.1, h_u M.2.2 a i x) j u = h_cell FT cy α M j u := by
  intro j u hj
  obtain ⟨u1, u2⟩ := u
  have hfs : ∀ l, h_fs α (M.1, M.2.1, h_u M.2.2 a i x) j l = h_fs α M j l := by
    intro l
    unfold h_fs
    congr 1
    funext q
    obtain ⟨t, i0⟩ := q
    match t with
    | 0 => simp [h_fv, h_u_off _ i x hj]
    | 1 => simp [h_fv, h_u_off _ i x hj]
    | t + 2 => simp [h_fv, h_u_off _ i x hj]
  match u1 with
  | 0 => simp [h_cell, h_u_off _ i x hj]
  | 1 => simp [h_cell, h_u_off _ i x hj]
  | 2 => simp [h_cell, h_u_off _ i x hj]
  | 3 => simp [h_cell, h_u_off _ i x hj]
  | 4 => simp [h_cell, h_u_off _ i x hj]
  | c + 5 => simp [h_cell, hfs]
theorem h_fldR {α : Nat → Nat} {a i : Nat} {x : Option Nat} : ∀ j u, j ≠ i → h_fv α (M.1, M.2.1, h_u M.2.2 a i x) a j u = h_fv α M a j u := by
  intro j u hj
  match u with
  | 0 => simp [h_fv, h_u, hj]
  | 1 => simp [h_fv, h_u, hj]
  | t + 2 => simp [h_fv, h_u, hj]
theorem a_putI {ci a i z idx N : Nat} {x : Int32} {C : String} {T : u_T} {ty : Nat → FieldType} (hK : h_K FT ci C T N ty) (hk : kd[a]? = some (ci + 5, z)) (hi : (FT ci)[i]? = some 0) (hw : Cond.fieldLink own idx C (T i).2.1 (T i).2.2.1 ∈ h_T) (hC0 : (T i).1 = C) (hf : (T i).2.2.2 = false) (hn : narrow (ty i) (.int x) = .int x ∧ fits (ty i) (.int x) = true) (hd : decode cc pc = .ok (.putfield idx, 3)) (k : AW FT cc nL ret own kd d lv (pc + 3) st (h_u M.1 a i x, M.2.1, M.2.2) r M') : AW FT cc nL ret own kd d lv pc (.int x :: .ref a :: st) M r M' := by
  intro p l e R s m args below meth c H ls locs α D cy A hC hP hS hl
  have hiN : i < N := by rw [← hK.2.2.2.2]; exact (List.getElem?_eq_some_iff.mp hi).1
  have hD := h_wD (FT := FT) (cy := cy) M hC.2.2.2.2.2.2.2.2.2.2.1 hC.2.2.2.2.2.2.2.2.2.2.2.1
  refine va_put (ci := ci) (v := .int x) (ty := ty i) hC.1 hC.2.1 hC.2.2.2.2.1 hK.2.1 ty hK.2.2.1 hK.2.2.2.1 hC.2.2.2.1 hC.2.2.2.2.2.2.2.2.1 hP hD hS a (h_w_at hk) hK.1 i hiN (hC.2.2.2.2.1 _ hw) (fun x hx => by rw [hC0] at hx; exact hx) hf (hK.2.2.1 i hiN) hn.1 hn.2 (by rw [h_fs_len, hK.2.2.2.2]; exact hiN) hd (fun H locs hP1 _ hS => ?_)
  have e1 : (h_w FT kd cy α M).set a (α a, .inr (ci, (h_fs α M a (FT ci)).set i (.int x))) = h_w FT kd cy α (h_u M.1 a i x, M.2.1, M.2.2) := h_w_set hk (by show Sum.inr (ci, h_fs α (h_u M.1 a i x, M.2.1, M.2.2) a (FT ci)) = _; rw [h_fs_set (M' := (h_u M.1 a i x, M.2.1, M.2.2)) hi (by simp [h_fv, h_u]) h_fldI]) h_offI
  rw [e1] at hP1
  exact k p l e R s m args below meth c H ls locs α D cy A hC hP1 hS hl
theorem a_putJ {ci a i z idx N : Nat} {x : Int64} {C : String} {T : u_T} {ty : Nat → FieldType} (hK : h_K FT ci C T N ty) (hk : kd[a]? = some (ci + 5, z)) (hi : (FT ci)[i]? = some 1) (hw : Cond.fieldLink own idx C (T i).2.1 (T i).2.2.1 ∈ h_T) (hC0 : (T i).1 = C) (hf : (T i).2.2.2 = false) (hn : narrow (ty i) (.long x) = .long x ∧ fits (ty i) (.long x) = true) (hd : decode cc pc = .ok (.putfield idx, 3)) (k : AW FT cc nL ret own kd d lv (pc + 3) st (M.1, h_u M.2.1 a i x, M.2.2) r M') : AW FT cc nL ret own kd d lv pc (.long x :: .ref a :: st) M r M' := by
  intro p l e R s m args below meth c H ls locs α D cy A hC hP hS hl
  have hiN : i < N := by rw [← hK.2.2.2.2]; exact (List.getElem?_eq_some_iff.mp hi).1
  have hD := h_wD (FT := FT) (cy := cy) M hC.2.2.2.2.2.2.2.2.2.2.1 hC.2.2.2.2.2.2.2.2.2.2.2.1
  refine va_put (ci := ci) (v := .long x) (ty := ty i) hC.1 hC.2.1 hC.2.2.2.2.1 hK.2.1 ty hK.2.2.1 hK.2.2.2.1 hC.2.2.2.1 hC.2.2.2.2.2.2.2.2.1 hP hD hS a (h_w_at hk) hK.1 i hiN (hC.2.2.2.2.1 _ hw) (fun x hx => by rw [hC0] at hx; exact hx) hf (hK.2.2.1 i hiN) hn.1 hn.2 (by rw [h_fs_len, hK.2.2.2.2]; exact hiN) hd (fun H locs hP1 _ hS => ?_)
  have e1 : (h_w FT kd cy α M).set a (α a, .inr (ci, (h_fs α M a (FT ci)).set i (.long x))) = h_w FT kd cy α (M.1, h_u M.2.1 a i x, M.2.2) := h_w_set hk (by show Sum.inr (ci, h_fs α (M.1, h_u M.2.1 a i x, M.2.2) a (FT ci)) = _; rw [h_fs_set (M' := (M.1, h_u M.2.1 a i x, M.2.2)) hi (by simp [h_fv, h_u]) h_fldJ]) h_offJ
  rw [e1] at hP1
  exact k p l e R s m args below meth c H ls locs α D cy A hC hP1 hS hl
theorem a_putR {ci a i z idx N t : Nat} {x : Nat} {C : String} {T : u_T} {ty : Nat → FieldType} (hK : h_K FT ci C T N ty) (hk : kd[a]? = some (ci + 5, z)) (hi : (FT ci)[i]? = some (t + 2)) (hw : Cond.fieldLink own idx C (T i).2.1 (T i).2.2.1 ∈ h_T) (hC0 : (T i).1 = C) (hf : (T i).2.2.2 = false) (hn : ∀ q, narrow (ty i) (.ref q) = .ref q ∧ fits (ty i) (.ref q) = true) (hd : decode cc pc = .ok (.putfield idx, 3)) (k : AW FT cc nL ret own kd d lv (pc + 3) st (M.1, M.2.1, h_u M.2.2 a i (some x)) r M') : AW FT cc nL ret own kd d lv pc (.ref x :: .ref a :: st) M r M' := by
  intro p l e R s m args below meth c H ls locs α D cy A hC hP hS hl
  have hiN : i < N := by rw [← hK.2.2.2.2]; exact (List.getElem?_eq_some_iff.mp hi).1
  have hD := h_wD (FT := FT) (cy := cy) M hC.2.2.2.2.2.2.2.2.2.2.1 hC.2.2.2.2.2.2.2.2.2.2.2.1
  refine va_put (ci := ci) (v := .ref (α x)) (ty := ty i) hC.1 hC.2.1 hC.2.2.2.2.1 hK.2.1 ty hK.2.2.1 hK.2.2.2.1 hC.2.2.2.1 hC.2.2.2.2.2.2.2.2.1 hP hD hS a (h_w_at hk) hK.1 i hiN (hC.2.2.2.2.1 _ hw) (fun x hx => by rw [hC0] at hx; exact hx) hf (hK.2.2.1 i hiN) (hn _).1 (hn _).2 (by rw [h_fs_len, hK.2.2.2.2]; exact hiN) hd (fun H locs hP1 _ hS => ?_)
  have e1 : (h_w FT kd cy α M).set a (α a, .inr (ci, (h_fs α M a (FT ci)).set i (.ref (α x)))) = h_w FT kd cy α (M.1, M.2.1, h_u M.2.2 a i (some x)) := h_w_set hk (by show Sum.inr (ci, h_fs α (M.1, M.2.1, h_u M.2.2 a i (some x)) a (FT ci)) = _; rw [h_fs_set (M' := (M.1, M.2.1, h_u M.2.2 a i (some x))) hi (by simp [h_fv, h_u, va_rf]) h_fldR]) h_offR
  rw [e1] at hP1
  exact k p l e R s m args below meth c H ls locs α D cy A hC hP1 hS hl
theorem a_iaload {a n : Nat} {i : Int32} (hk : kd[a]? = some (0, n)) (hi : vp_in i n) (hd : decode cc pc = .ok (.iaload, 1)) (k : AW FT cc nL ret own kd d lv (pc + 1) (.int (M.1 a i.toNatClampNeg) :: st) M r M') : AW FT cc nL ret own kd d lv pc (.int i :: .ref a :: st) M r M' := by
  intro p l e R s m args below meth c H ls locs α D cy A hC hP hS hl
  exact va_iald hC.1 hC.2.1 hC.2.2.2.2.2.2.2.2.1 hP a 0 (h_w_at hk) rfl hi hd (k p l e R s m args below meth c H ls locs α D cy A hC hP hS hl)
theorem a_laload {a n : Nat} {i : Int32} (hk : kd[a]? = some (1, n)) (hi : vp_in i n) (hd : decode cc pc = .ok (.laload, 1)) (k : AW FT cc nL ret own kd d lv (pc + 1) (.long (M.2.1 a i.toNatClampNeg) :: st) M r M') : AW FT cc nL ret own kd d lv pc (.int i :: .ref a :: st) M r M' := by
  intro p l e R s m args below meth c H ls locs α D cy A hC hP hS hl
  exact va_lald hC.1 hC.2.1 hC.2.2.2.2.2.2.2.2.1 hP a 1 (h_w_at hk) rfl hi hd (k p l e R s m args below meth c H ls locs α D cy A hC hP hS hl)
theorem a_zaload {a n : Nat} {i : Int32} (hk : kd[a]? = some (2, n)) (hi : vp_in i n) (hd : decode cc pc = .ok (.baload, 1)) (k : AW FT cc nL ret own kd d lv (pc + 1) (.int (M.1 a i.toNatClampNeg) :: st) M r M') : AW FT cc nL ret own kd d lv pc (.int i :: .ref a :: st) M r M' := by
  intro p l e R s m args below meth c H ls locs α D cy A hC hP hS hl
  exact va_zald hC.1 hC.2.1 hC.2.2.2.2.2.2.2.2.1 hP a 2 (h_w_at hk) rfl hi hd (k p l e R s m args below meth c H ls locs α D cy A hC hP hS hl)
theorem a_aaload3 {a n : Nat} {i : Int32} {o : Option Nat} (hk : kd[a]? = some (3, n)) (hi : vp_in i n) (hd : decode cc pc = .ok (.aaload, 1)) (ho : M.2.2 a i.toNatClampNeg = o) (k : AW FT cc nL ret own kd d lv (pc + 1) (h_rv o :: st) M r M') : AW FT cc nL ret own kd d lv pc (.int i :: .ref a :: st) M r M' := by
  intro p l e R s m args below meth c H ls locs α D cy A hC hP hS hl
  subst ho
  have kk := k p l e R s m args below meth c H ls locs α D cy A hC hP hS hl
  rw [List.map_cons, h_rv_v] at kk
  exact va_aldq hC.1 hC.2.1 hC.2.2.2.2.2.2.2.2.1 hP a 3 (h_w_at hk) rfl hi hd kk
theorem a_aaload4 {a n : Nat} {i : Int32} {o : Option Nat} (hk : kd[a]? = some (4, n)) (hi : vp_in i n) (hd : decode cc pc = .ok (.aaload, 1)) (ho : M.2.2 a i.toNatClampNeg = o) (k : AW FT cc nL ret own kd d lv (pc + 1) (h_rv o :: st) M r M') : AW FT cc nL ret own kd d lv pc (.int i :: .ref a :: st) M r M' := by
  intro p l e R s m args below meth c H ls locs α D cy A hC hP hS hl
  subst ho
  have kk := k p l e R s m args below meth c H ls locs α D cy A hC hP hS hl
  rw [List.map_cons, h_rv_v] at kk
  have hlt : i.toNatClampNeg < n := Nat.not_le.mp fun q => hi (Or.inr q)
  exact W.aald (v := va_rf ((M.2.2 a i.toNatClampNeg).map α)) (ty := .array .long) hC.1 hC.2.1 (hP a _ (h_w_at hk)) ((hC.2.2.2.2.2.2.2.2.1.2 4 _ rfl).1 n (fun j => va_rf ((M.2.2 a j).map α))) rfl (fun q => by cases q) (by show ¬ (i < 0 ∨ (arrV _ _ _).slots.size ≤ _); rw [arrV_size]; exact hi) (by show (arrV _ _ _).slots[_]? = _; rw [arrV_read _ _ hlt]) rfl rfl hd kk
theorem a_iastore {a n : Nat} {i : Int32} {x : Int32} (hk : kd[a]? = some (0, n)) (hi : vp_in i n) (hd : decode cc pc = .ok (.iastore, 1)) (k : AW FT cc nL ret own kd d lv (pc + 1) st (h_u M.1 a i.toNatClampNeg x, M.2.1, M.2.2) r M') : AW FT cc nL ret own kd d lv pc (.int x :: .int i :: .ref a :: st) M r M' := by
  intro p l e R s m args below meth c H ls locs α D cy A hC hP hS hl
  have hD := h_wD (FT := FT) (cy := cy) M hC.2.2.2.2.2.2.2.2.2.2.1 hC.2.2.2.2.2.2.2.2.2.2.2.1
  refine va_iast hC.1 hC.2.1 hC.2.2.2.2.2.2.2.2.1 hP hD hS a 0 (h_w_at hk) rfl hi hd (fun H locs hP1 _ hS => ?_)
  have e1 : (h_w FT kd cy α M).set a (α a, .inl (cy 0, n, .inl (upd (M.1 a) i.toNatClampNeg x))) = h_w FT kd cy α (h_u M.1 a i.toNatClampNeg x, M.2.1, M.2.2) := h_w_set hk (by show (Sum.inl (cy 0, n, .inl (h_u M.1 a i.toNatClampNeg x a)) : va_E) = _; rw [h_u_row]; rfl) h_offI
  rw [e1] at hP1
  exact k p l e R s m args below meth c H ls locs α D cy A hC hP1 hS hl
theorem a_zastore {a n : Nat} {i : Int32} {x : Int32} (hk : kd[a]? = some (2, n)) (hi : vp_in i n) (hd : decode cc pc = .ok (.bastore, 1)) (k : AW FT cc nL ret own kd d lv (pc + 1) st (h_u M.1 a i.toNatClampNeg (vp_nar .boolean x), M.2.1, M.2.2) r M') : AW FT cc nL ret own kd d lv pc (.int x :: .int i :: .ref a :: st) M r M' := by
  intro p l e R s m args below meth c H ls locs α D cy A hC hP hS hl
  have hD := h_wD (FT := FT) (cy := cy) M hC.2.2.2.2.2.2.2.2.2.2.1 hC.2.2.2.2.2.2.2.2.2.2.2.1
  refine va_zast hC.1 hC.2.1 hC.2.2.2.2.2.2.2.2.1 hP hD hS a 2 (h_w_at hk) rfl hi hd (fun H locs hP1 _ hS => ?_)
  have e1 : (h_w FT kd cy α M).set a (α a, .inl (cy 2, n, .inl (upd (M.1 a) i.toNatClampNeg (vp_nar .boolean x)))) = h_w FT kd cy α (h_u M.1 a i.toNatClampNeg (vp_nar .boolean x), M.2.1, M.2.2) := h_w_set hk (by show (Sum.inl (cy 2, n, .inl (h_u M.1 a i.toNatClampNeg (vp_nar .boolean x) a)) : va_E) = _; rw [h_u_row]; rfl) h_offI
  rw [e1] at hP1
  exact k p l e R s m args below meth c H ls locs α D cy A hC hP1 hS hl
theorem a_lastore {a n : Nat} {i : Int32} {x : Int64} (hk : kd[a]? = some (1, n)) (hi : vp_in i n) (hd : decode cc pc = .ok (.lastore, 1)) (k : AW FT cc nL ret own kd d lv (pc + 1) st (M.1, h_u M.2.1 a i.toNatClampNeg x, M.2.2) r M') : AW FT cc nL ret own kd d lv pc (.long x :: .int i :: .ref a :: st) M r M' := by
  intro p l e R s m args below meth c H ls locs α D cy A hC hP hS hl
  have hD := h_wD (FT := FT) (cy := cy) M hC.2.2.2.2.2.2.2.2.2.2.1 hC.2.2.2.2.2.2.2.2.2.2.2.1
  refine va_last hC.1 hC.2.1 hC.2.2.2.2.2.2.2.2.1 hP hD hS a 1 (h_w_at hk) rfl hi hd (fun H locs hP1 _ hS => ?_)
  have e1 : (h_w FT kd cy α M).set a (α a, .inl (cy 1, n, .inr (.inl (vp_updL (M.2.1 a) i.toNatClampNeg x)))) = h_w FT kd cy α (M.1, h_u M.2.1 a i.toNatClampNeg x, M.2.2) := h_w_set hk (by show (Sum.inl (cy 1, n, .inr (.inl (h_u M.2.1 a i.toNatClampNeg x a))) : va_E) = _; rw [h_u_row]; rfl) h_offJ
  rw [e1] at hP1
  exact k p l e R s m args below meth c H ls locs α D cy A hC hP1 hS hl
theorem a_alen0 {a n : Nat} {v : Int32} (hk : kd[a]? = some (0, n)) (hv : Int32.ofNat n = v) (hd : decode cc pc = .ok (.arraylength, 1)) (k : AW FT cc nL ret own kd d lv (pc + 1) (.int v :: st) M r M') : AW FT cc nL ret own kd d lv pc (.ref a :: st) M r M' := by
  intro p l e R s m args below meth c H ls locs α D cy A hC hP hS hl
  exact va_alen hC.1 hC.2.1 hC.2.2.2.2.2.2.2.2.1 hP a 0 (h_w_at hk) rfl hv hd (k p l e R s m args below meth c H ls locs α D cy A hC hP hS hl)
theorem a_alen1 {a n : Nat} {v : Int32} (hk : kd[a]? = some (1, n)) (hv : Int32.ofNat n = v) (hd : decode cc pc = .ok (.arraylength, 1)) (k : AW FT cc nL ret own kd d lv (pc + 1) (.int v :: st) M r M') : AW FT cc nL ret own kd d lv pc (.ref a :: st) M r M' := by
  intro p l e R s m args below meth c H ls locs α D cy A hC hP hS hl
  exact va_alen hC.1 hC.2.1 hC.2.2.2.2.2.2.2.2.1 hP a 1 (h_w_at hk) rfl hv hd (k p l e R s m args below meth c H ls locs α D cy A hC hP hS hl)
theorem a_alen2 {a n : Nat} {v : Int32} (hk : kd[a]? = some (2, n)) (hv : Int32.ofNat n = v) (hd : decode cc pc = .ok (.arraylength, 1)) (k : AW FT cc nL ret own kd d lv (pc + 1) (.int v :: st) M r M') : AW FT cc nL ret own kd d lv pc (.ref a :: st) M r M' := by
  intro p l e R s m args below meth c H ls locs α D cy A hC hP hS hl
  exact va_alen hC.1 hC.2.1 hC.2.2.2.2.2.2.2.2.1 hP a 2 (h_w_at hk) rfl hv hd (k p l e R s m args below meth c H ls locs α D cy A hC hP hS hl)
theorem a_alen4 {a n : Nat} {v : Int32} (hk : kd[a]? = some (4, n)) (hv : Int32.ofNat n = v) (hd : decode cc pc = .ok (.arraylength, 1)) (k : AW FT cc nL ret own kd d lv (pc + 1) (.int v :: st) M r M') : AW FT cc nL ret own kd d lv pc (.ref a :: st) M r M' := by
  intro p l e R s m args below meth c H ls locs α D cy A hC hP hS hl
  exact va_alen hC.1 hC.2.1 hC.2.2.2.2.2.2.2.2.1 hP a 4 (h_w_at hk) rfl hv hd (k p l e R s m args below meth c H ls locs α D cy A hC hP hS hl)
end HR
section HT
variable {FT : Nat → List Nat} {cc : ByteArray} {nL : Nat} {own : String} {kd : List (Nat × Nat)} {d : Nat} {lv : List (Nat × Value)} {pc : Nat} {M : hMem}
theorem a_iret {x : Int32}  (hd : decode cc pc = .ok (.ireturn, 1)) : AW FT cc nL (some .int) own kd d lv pc [.int x] M (some (.int x)) M := by
  intro p l e R s m args below meth c H ls locs α D cy A hC hP hS hl
  exact W.iret hC.1 hC.2.1 hC.2.2.2.2.2.1  (fun t ht hW => ⟨⟨rfl, by rw [ht]; exact hP⟩, hS.F ht⟩) hS.2.2 hd hC.2.2.2.2.2.2.1
theorem a_zret {x : Int32} (hx : narrow .boolean (.int x) = .int x) (hd : decode cc pc = .ok (.ireturn, 1)) : AW FT cc nL (some .boolean) own kd d lv pc [.int x] M (some (.int x)) M := by
  intro p l e R s m args below meth c H ls locs α D cy A hC hP hS hl
  exact W.zret hC.1 hC.2.1 hC.2.2.2.2.2.1 hx (fun t ht hW => ⟨⟨rfl, by rw [ht]; exact hP⟩, hS.F ht⟩) hS.2.2 hd hC.2.2.2.2.2.2.1
theorem a_lret {x : Int64}  (hd : decode cc pc = .ok (.lreturn, 1)) : AW FT cc nL (some .long) own kd d lv pc [.long x] M (some (.long x)) M := by
  intro p l e R s m args below meth c H ls locs α D cy A hC hP hS hl
  exact W.lret hC.1 hC.2.1 hC.2.2.2.2.2.1  (fun t ht hW => ⟨⟨rfl, by rw [ht]; exact hP⟩, hS.F ht⟩) hS.2.2 hd hC.2.2.2.2.2.2.1
theorem a_vret   (hd : decode cc pc = .ok (.return_, 1)) : AW FT cc nL none own kd d lv pc [] M none M := by
  intro p l e R s m args below meth c H ls locs α D cy A hC hP hS hl
  exact W.vret hC.1 hC.2.1 hC.2.2.2.2.2.1  (fun t ht hW => ⟨⟨rfl, by rw [ht]; exact hP⟩, hS.F ht⟩) hS.2.2 hd hC.2.2.2.2.2.2.1
theorem a_aret {x : Nat} {C : String}  (hd : decode cc pc = .ok (.areturn, 1)) : AW FT cc nL (some (.object C)) own kd d lv pc [.ref x] M (some (.ref x)) M := by
  intro p l e R s m args below meth c H ls locs α D cy A hC hP hS hl
  exact W.aret hC.1 hC.2.1 hC.2.2.2.2.2.1 (Or.inl ⟨_, rfl⟩) (Or.inr ⟨_, rfl⟩) (fun t ht hW => ⟨⟨rfl, by rw [ht]; exact hP⟩, hS.F ht⟩) hS.2.2 hd hC.2.2.2.2.2.2.1
end HT
