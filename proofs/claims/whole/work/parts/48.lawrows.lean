/-! THE CLAIM OUT OF ONE WALK OF THE LAW'S BODY. Your part is whole_start (and what it stands on); all else here is the same for every law, but numbers. -/
def R_law : String := "CoinLoopsLaw"
def lw_P (b : Addr) (xs : List Int32) (args : Array Value) (s : State) : Prop := args = #[.ref b] ∧ s.IntsAt b xs ∧ xs.length ≤ 3072 ∧ (Jvm.Cond.and given_1 narrow_1).before args s = true
def lw_Q (_ : Array Value) (s : State) (o : Outcome) (t : State) : Prop := o = .returned (some (.int 1)) ∧ Framed s o t [] 601024 7293034
def lw_Z (below : List Frame) (a : Array Value) (s : State) : State → Prop := fun t => ∃ o, t.status = .running ∧ Ended t below o ∧ lw_Q a s o t
/-- the law's own end, with 1 on the stack, nothing written that was there before, its room as the claim has it -/
theorem lw_ret {p : Program} {l : Launch} {e : Env} {s : State} {m : MethodId} {below : List Frame} {meth : Method} {c : Code} {b : Nat} (hx : p.tables.exec = Jvm.exec) (hb : c.code = code) (hr : meth.sig.returnType = ret) (hlocks : meth.locks = false) {pc : Nat} {H : Heap} {ls : Array Slot} (hdg : decode code pc = .ok (.ireturn, 1)) : W p l e room_1 s m #[Value.ref b] below meth c H [] 601024 7293034 (lw_Z below #[Value.ref b] s) (F0 m pc ls [.int 1]) := by
  intro T hT X
  obtain ⟨fs, hret, hrun, hended, hW, hframe⟩ := X.leave (v := some (.int 1)) (hlocks := hlocks) (fun h => by rw [hr] at h; cases h)
  have hmeth' : T.vm.method? m = some meth := X.method'
  refine ⟨T.setFrames fs, ?_, .returned (some (.int 1)), hrun, hended, rfl, ⟨_, rfl⟩, hW, hframe⟩
  jvm_step X.here [X.here.top, hx, hb, hdg, hmeth', hr, ret, narrow_b1]
  (try refine ⟨rfl, ?_⟩); (try refine ⟨rfl, ?_⟩)
  first | (intro acts; rw [hret _ acts rfl rfl rfl]) | rw [hret _ _ rfl rfl rfl]
  exact Steps.refl _
/-- what holds at the law's entry: the machine, the code, the tables' words (any of lw_tbl by 'hts w (by decide +kernel)'), the script of L ints xs at the cell b, what the Statement gives of the start (any of its parts by flat_of_before) -/
def lw_At (p : Program) (s : State) (m : MethodId) (meth : Method) (c : Code) (b L : Nat) (xs : Nat → Int32) : Prop :=
  p.tables.exec = Jvm.exec ∧ c.code = code ∧ meth.sig.returnType = ret ∧ c.maxLocals = 7 ∧ s.vm.findClass R_law = some m.cls ∧ (∀ w ∈ lw_tbl, w.before #[Value.ref b] s = true) ∧ va_X b L xs s s.heap ∧ b < s.heap.size ∧ meth.locks = false ∧ (Jvm.Cond.and given_1 narrow_1).before #[Value.ref b] s = true
/-- what the law's body may change: nothing that was there before -/
abbrev w_A (s : State) : Nat → Prop := fun q => s.heap.size ≤ q
/-- what stands throughout the law's body, once its three things are made -/
def LC (p : Program) (l : Launch) (s : State) (m : MethodId) (meth : Method) (c : Code) (b L : Nat) (xs : Nat → Int32) (D : va_G) (cy : Nat → ClassId) (αc αm : Nat → Nat) (oa : Nat) : Prop :=
  lw_At p s m meth c b L xs ∧ L ≤ 3072 ∧ l.stackTraces = false ∧ va_K D vwCl (hTys cy) s ∧ (h_E kdC.length αc (w_A s) s s.heap ∧ h_E kdM.length αm (w_A s) s s.heap ∧ x_E (w_A s) s s.heap) ∧ (h_I kdC.length αc ∧ h_I kdM.length αm) ∧ (∀ i, i < kdC.length → αc i ≠ oa) ∧ (∀ j, j < kdM.length → αm j ≠ oa) ∧ (∀ i j, i < kdC.length → j < kdM.length → αc i ≠ αm j) ∧ (∀ i, i < kdC.length → s.heap.size ≤ αc i) ∧ (∀ j, j < kdM.length → s.heap.size ≤ αm j) ∧ s.heap.size ≤ oa
def LSt (D : va_G) (cy : Nat → ClassId) (s : State) (αc αm : Nat → Nat) (oa : Nat) (Mc Mm : hMem) (f : Nat → Int64) (H : Heap) (locs : List Loc) : Prop :=
  va_P D vwCl (h_w hFT kdC cy αc Mc) H ∧ va_P D vwCl (h_w hFT kdM cy αm Mm) H ∧ va_P D vwCl (x_o cy oa f) H ∧ va_S (w_A s) s.heap H locs
def LW (p : Program) (l : Launch) (e : Env) (s : State) (m : MethodId) (below : List Frame) (meth : Method) (c : Code) (b : Nat) (D : va_G) (cy : Nat → ClassId) (αc αm : Nat → Nat) (oa : Nat) (lv : List (Nat × Value)) (pc : Nat) (st : List Value) (Mc Mm : hMem) (f : Nat → Int64) (n : Nat) : Prop :=
  ∀ (H : Heap) (locs : List Loc) (ls : Array Slot) (cells slots : Nat), LSt D cy s αc αm oa Mc Mm f H locs → cells ≤ 1000 + n → slots ≤ 40000 + 6 * n → lv_has ls 7 lv → W p l e room_1 s m #[Value.ref b] below meth c H locs cells slots (lw_Z below #[Value.ref b] s) (F0 m pc ls st)
section LR
variable {p : Program} {l : Launch} {e : Env} {s : State} {m : MethodId} {below : List Frame} {meth : Method} {c : Code} {b L : Nat} {xs : Nat → Int32} {D : va_G} {cy : Nat → ClassId} {αc αm : Nat → Nat} {oa : Nat} {lv : List (Nat × Value)} {pc : Nat} {st : List Value} {Mc Mm : hMem} {f : Nat → Int64} {n : Nat}
theorem l_iconst {n0 : Int} {v : Int32} (C : LC p l s m meth c b L xs D cy αc αm oa) (hd : decode code pc = .ok (.iconst n0, 1)) (hv : Int32.ofInt n0 = v) (k : LW p l e s m below meth c b D cy αc αm oa lv (pc + 1) (.int v :: st) Mc Mm f n) : LW p l e s m below meth c b D cy αc αm oa lv pc st Mc Mm f n := by
  intro H locs ls cells slots hS hc hs hl
  exact lv_iconst C.1.1 C.1.2.1 hd hv (k H locs ls cells slots hS hc hs hl)
theorem l_bipush {n0 : Int} {v : Int32} (C : LC p l s m meth c b L xs D cy αc αm oa) (hd : decode code pc = .ok (.bipush n0, 2)) (hv : (Int8.ofInt n0).toInt32 = v) (k : LW p l e s m below meth c b D cy αc αm oa lv (pc + 2) (.int v :: st) Mc Mm f n) : LW p l e s m below meth c b D cy αc αm oa lv pc st Mc Mm f n := by
  intro H locs ls cells slots hS hc hs hl
  exact lv_bipush C.1.1 C.1.2.1 hd hv (k H locs ls cells slots hS hc hs hl)
theorem l_iadd {x y : Int32} (C : LC p l s m meth c b L xs D cy αc αm oa) (hd : decode code pc = .ok (.iadd, 1))  (k : LW p l e s m below meth c b D cy αc αm oa lv (pc + 1) (.int (x + y) :: st) Mc Mm f n) : LW p l e s m below meth c b D cy αc αm oa lv pc (.int y :: .int x :: st) Mc Mm f n := by
  intro H locs ls cells slots hS hc hs hl
  exact lv_iadd C.1.1 C.1.2.1 hd  (k H locs ls cells slots hS hc hs hl)
theorem l_isub {x y : Int32} (C : LC p l s m meth c b L xs D cy αc αm oa) (hd : decode code pc = .ok (.isub, 1))  (k : LW p l e s m below meth c b D cy αc αm oa lv (pc + 1) (.int (x - y) :: st) Mc Mm f n) : LW p l e s m below meth c b D cy αc αm oa lv pc (.int y :: .int x :: st) Mc Mm f n := by
  intro H locs ls cells slots hS hc hs hl
  exact lv_isub C.1.1 C.1.2.1 hd  (k H locs ls cells slots hS hc hs hl)
theorem l_iand {x y : Int32} (C : LC p l s m meth c b L xs D cy αc αm oa) (hd : decode code pc = .ok (.iand, 1))  (k : LW p l e s m below meth c b D cy αc αm oa lv (pc + 1) (.int (x &&& y) :: st) Mc Mm f n) : LW p l e s m below meth c b D cy αc αm oa lv pc (.int y :: .int x :: st) Mc Mm f n := by
  intro H locs ls cells slots hS hc hs hl
  exact lv_iand C.1.1 C.1.2.1 hd  (k H locs ls cells slots hS hc hs hl)
theorem l_i2l {x : Int32} (C : LC p l s m meth c b L xs D cy αc αm oa) (hd : decode code pc = .ok (.i2l, 1))  (k : LW p l e s m below meth c b D cy αc αm oa lv (pc + 1) (.long x.toInt64 :: st) Mc Mm f n) : LW p l e s m below meth c b D cy αc αm oa lv pc (.int x :: st) Mc Mm f n := by
  intro H locs ls cells slots hS hc hs hl
  exact lv_i2l C.1.1 C.1.2.1 hd rfl (k H locs ls cells slots hS hc hs hl)
theorem l_aload_n {k0 : Fin 4} {i x : Nat} (C : LC p l s m meth c b L xs D cy αc αm oa) (hd : decode code pc = .ok (.aload_n k0, 1)) (hi : (k0 : Nat) = i) (hg : lv.find? (fun q => q.1 == i) = some (i, .ref x)) (k : LW p l e s m below meth c b D cy αc αm oa lv (pc + 1) (.ref x :: st) Mc Mm f n) : LW p l e s m below meth c b D cy αc αm oa lv pc st Mc Mm f n := by
  intro H locs ls cells slots hS hc hs hl
  exact lv_aload_n C.1.1 C.1.2.1 hd hi (hl.2.2 (i, .ref x) (List.mem_of_find?_eq_some hg)) (k H locs ls cells slots hS hc hs hl)
theorem l_iload {i : Nat} {x : Int32} (C : LC p l s m meth c b L xs D cy αc αm oa) (hd : decode code pc = .ok (.iload i, 2)) (hg : lv.find? (fun q => q.1 == i) = some (i, .int x)) (k : LW p l e s m below meth c b D cy αc αm oa lv (pc + 2) (.int x :: st) Mc Mm f n) : LW p l e s m below meth c b D cy αc αm oa lv pc st Mc Mm f n := by
  intro H locs ls cells slots hS hc hs hl
  exact lv_iload C.1.1 C.1.2.1 hd (hl.2.2 (i, .int x) (List.mem_of_find?_eq_some hg)) (k H locs ls cells slots hS hc hs hl)
theorem l_istore {i : Nat} {x : Int32} {lv' : List (Nat × Value)} (C : LC p l s m meth c b L xs D cy αc αm oa) (hd : decode code pc = .ok (.istore i, 2)) (hn : i < 7) (hv : h_s1 i (.int x) lv = lv') (k : LW p l e s m below meth c b D cy αc αm oa lv' (pc + 2) st Mc Mm f n) : LW p l e s m below meth c b D cy αc αm oa lv pc (.int x :: st) Mc Mm f n := by
  intro H locs ls cells slots hS hc hs hl
  subst hv
  exact lv_istore C.1.1 C.1.2.1 hd hl hn rfl (fun ls hl => k H locs ls cells slots hS hc hs hl)
theorem l_iinc {i : Nat} {n0 : Int} {x v : Int32} {lv' : List (Nat × Value)} (C : LC p l s m meth c b L xs D cy αc αm oa) (hd : decode code pc = .ok (.iinc i n0, 3)) (hg : lv.find? (fun q => q.1 == i) = some (i, .int x)) (hx : x + Int32.ofInt n0 = v) (hn : i < 7) (hv : h_s1 i (.int v) lv = lv') (k : LW p l e s m below meth c b D cy αc αm oa lv' (pc + 3) st Mc Mm f n) : LW p l e s m below meth c b D cy αc αm oa lv pc st Mc Mm f n := by
  intro H locs ls cells slots hS hc hs hl
  subst hv
  obtain ⟨j, hj⟩ := List.getElem?_of_mem (List.mem_of_find?_eq_some hg)
  exact lv_iinc (k := j) C.1.1 C.1.2.1 hd hl hj hx hn rfl (fun ls hl => k H locs ls cells slots hS hc hs hl)
theorem l_sub {lv' : List (Nat × Value)} (ks : List Nat) (hs : lv_pick lv ks = lv') (k : LW p l e s m below meth c b D cy αc αm oa lv' pc st Mc Mm f n) : LW p l e s m below meth c b D cy αc αm oa lv pc st Mc Mm f n := by
  intro H locs ls cells slots hS hc hs2 hl
  exact k H locs ls cells slots hS hc hs2 (lv_sub hl ks hs)
theorem l_goto {off : Int} {tgt : Nat} (C : LC p l s m meth c b L xs D cy αc αm oa) (hd : decode code pc = .ok (.goto off, 3)) (ht : (pc : Int) + off = (tgt : Int)) (k : LW p l e s m below meth c b D cy αc αm oa lv tgt st Mc Mm f n) : LW p l e s m below meth c b D cy αc αm oa lv pc st Mc Mm f n := by
  intro H locs ls cells slots hS hc hs hl
  exact lv_goto C.1.1 C.1.2.1 hd ht (k H locs ls cells slots hS hc hs hl)
theorem l_icmp_eq {x y : Int32} {off : Int} {tgt : Nat} (C : LC p l s m meth c b L xs D cy αc αm oa) (hd : decode code pc = .ok (.if_icmp .eq off, 3)) (ht : (pc : Int) + off = (tgt : Int)) (kt : x = y → LW p l e s m below meth c b D cy αc αm oa lv tgt st Mc Mm f n) (kf : ¬ x = y → LW p l e s m below meth c b D cy αc αm oa lv (pc + 3) st Mc Mm f n) : LW p l e s m below meth c b D cy αc αm oa lv pc (.int y :: .int x :: st) Mc Mm f n := by
  intro H locs ls cells slots hS hc hs hl
  exact lv_icmp_eq C.1.1 C.1.2.1 hd ht (fun h => kt h H locs ls cells slots hS hc hs hl) (fun h => kf h H locs ls cells slots hS hc hs hl)
theorem l_icmp_gt {x y : Int32} {off : Int} {tgt : Nat} (C : LC p l s m meth c b L xs D cy αc αm oa) (hd : decode code pc = .ok (.if_icmp .gt off, 3)) (ht : (pc : Int) + off = (tgt : Int)) (kt : y < x → LW p l e s m below meth c b D cy αc αm oa lv tgt st Mc Mm f n) (kf : ¬ y < x → LW p l e s m below meth c b D cy αc αm oa lv (pc + 3) st Mc Mm f n) : LW p l e s m below meth c b D cy αc αm oa lv pc (.int y :: .int x :: st) Mc Mm f n := by
  intro H locs ls cells slots hS hc hs hl
  exact lv_icmp_gt C.1.1 C.1.2.1 hd ht (fun h => kt h H locs ls cells slots hS hc hs hl) (fun h => kf h H locs ls cells slots hS hc hs hl)
theorem l_if_eq {x : Int32} {off : Int} {tgt : Nat} (C : LC p l s m meth c b L xs D cy αc αm oa) (hd : decode code pc = .ok (.ifCond .eq off, 3)) (ht : (pc : Int) + off = (tgt : Int)) (kt : x = 0 → LW p l e s m below meth c b D cy αc αm oa lv tgt st Mc Mm f n) (kf : ¬ x = 0 → LW p l e s m below meth c b D cy αc αm oa lv (pc + 3) st Mc Mm f n) : LW p l e s m below meth c b D cy αc αm oa lv pc (.int x :: st) Mc Mm f n := by
  intro H locs ls cells slots hS hc hs hl
  exact lv_if_eq C.1.1 C.1.2.1 hd ht (fun h => kt h H locs ls cells slots hS hc hs hl) (fun h => kf h H locs ls cells slots hS hc hs hl)
theorem l_if_ne {x : Int32} {off : Int} {tgt : Nat} (C : LC p l s m meth c b L xs D cy αc αm oa) (hd : decode code pc = .ok (.ifCond .ne off, 3)) (ht : (pc : Int) + off = (tgt : Int)) (kt : ¬ x = 0 → LW p l e s m below meth c b D cy αc αm oa lv tgt st Mc Mm f n) (kf : x = 0 → LW p l e s m below meth c b D cy αc αm oa lv (pc + 3) st Mc Mm f n) : LW p l e s m below meth c b D cy αc αm oa lv pc (.int x :: st) Mc Mm f n := by
  intro H locs ls cells slots hS hc hs hl
  exact lv_if_ne C.1.1 C.1.2.1 hd ht (fun h => kt h H locs ls cells slots hS hc hs hl) (fun h => kf h H locs ls cells slots hS hc hs hl)
theorem l_lcmpe {x : Int64} {off : Int} {tgt : Nat} (C : LC p l s m meth c b L xs D cy αc αm oa) (hd1 : decode code pc = .ok (.lcmp, 1)) (hd : decode code (pc + 1) = .ok (.ifCond .eq off, 3)) (ht : ((pc + 1 : Nat) : Int) + off = (tgt : Int)) (k : LW p l e s m below meth c b D cy αc αm oa lv tgt st Mc Mm f n) : LW p l e s m below meth c b D cy αc αm oa lv pc (.long x :: .long x :: st) Mc Mm f n := by
  intro H locs ls cells slots hS hc hs hl
  refine W.lcmp C.1.1 C.1.2.1 hd1 ?_
  have h0 : lg_cmp x x = 0 := by unfold lg_cmp; rw [if_neg (Int64.lt_irrefl (a := x)), if_pos rfl]
  rw [h0]
  exact lv_if_eq C.1.1 C.1.2.1 hd ht (fun h => k H locs ls cells slots hS hc hs hl) (fun h => absurd rfl h)
theorem l_tableIn {dflt lo hi : Int} {offs : Array Int} {len : Nat} {x : Int32} {off : Int} {tgt : Nat} (C : LC p l s m meth c b L xs D cy αc αm oa) (hd : decode code pc = .ok (.tableswitch dflt lo hi offs, len)) (h1 : ¬ x.toInt < lo) (h2 : ¬ hi < x.toInt) (ho : offs[(x.toInt - lo).toNat]? = some off) (ht : (pc : Int) + off = (tgt : Int)) (k : LW p l e s m below meth c b D cy αc αm oa lv tgt st Mc Mm f n) : LW p l e s m below meth c b D cy αc αm oa lv pc (.int x :: st) Mc Mm f n := by
  intro H locs ls cells slots hS hc hs hl
  exact lv_tableIn C.1.1 C.1.2.1 hd h1 h2 ho ht (k H locs ls cells slots hS hc hs hl)
theorem l_tableOut {dflt lo hi : Int} {offs : Array Int} {len : Nat} {x : Int32} {tgt : Nat} (C : LC p l s m meth c b L xs D cy αc αm oa) (hd : decode code pc = .ok (.tableswitch dflt lo hi offs, len)) (h : x.toInt < lo ∨ hi < x.toInt) (ht : (pc : Int) + dflt = (tgt : Int)) (k : LW p l e s m below meth c b D cy αc αm oa lv tgt st Mc Mm f n) : LW p l e s m below meth c b D cy αc αm oa lv pc (.int x :: st) Mc Mm f n := by
  intro H locs ls cells slots hS hc hs hl
  exact lv_tableOut C.1.1 C.1.2.1 hd h ht (k H locs ls cells slots hS hc hs hl)
theorem w_bA (C : LC p l s m meth c b L xs D cy αc αm oa) : ¬ w_A s b := Nat.not_le.mpr C.1.2.2.2.2.2.2.2.1
theorem l_sld {i : Int32} (C : LC p l s m meth c b L xs D cy αc αm oa) (hi : vp_in i L) (hd : decode code pc = .ok (.iaload, 1)) (k : LW p l e s m below meth c b D cy αc αm oa lv (pc + 1) (.int (xs i.toNatClampNeg) :: st) Mc Mm f n) : LW p l e s m below meth c b D cy αc αm oa lv pc (.int i :: .ref b :: st) Mc Mm f n := by
  intro H locs ls cells slots hS hc hs hl
  exact va_sld C.1.1 C.1.2.1 C.1.2.2.2.2.2.2.1 C.1.2.2.2.2.2.2.2.1 (w_bA C) hS.2.2.2 hi hd (k H locs ls cells slots hS hc hs hl)
theorem l_slen (C : LC p l s m meth c b L xs D cy αc αm oa) (hd : decode code pc = .ok (.arraylength, 1)) (k : LW p l e s m below meth c b D cy αc αm oa lv (pc + 1) (.int (nI L) :: st) Mc Mm f n) : LW p l e s m below meth c b D cy αc αm oa lv pc (.ref b :: st) Mc Mm f n := by
  intro H locs ls cells slots hS hc hs hl
  exact va_slen C.1.1 C.1.2.1 C.1.2.2.2.2.2.2.1 C.1.2.2.2.2.2.2.2.1 (w_bA C) hS.2.2.2 hd (k H locs ls cells slots hS hc hs hl)
theorem l_old (C : LC p l s m meth c b L xs D cy αc αm oa) (hd : decode code pc = .ok (.laload, 1)) (k : LW p l e s m below meth c b D cy αc αm oa lv (pc + 1) (.long (f 0) :: st) Mc Mm f n) : LW p l e s m below meth c b D cy αc αm oa lv pc (.int 0 :: .ref oa :: st) Mc Mm f n := by
  intro H locs ls cells slots hS hc hs hl
  exact va_lald C.1.1 C.1.2.1 C.2.2.2.1 hS.2.2.1 0 1 rfl rfl (vp_in_nI (n := 0) (N := 1) (by decide) (by decide)) hd (k H locs ls cells slots hS hc hs hl)
theorem l_ret (C : LC p l s m meth c b L xs D cy αc αm oa) (hn : n ≤ 600) (hd : decode code pc = .ok (.ireturn, 1)) : LW p l e s m below meth c b D cy αc αm oa lv pc [.int 1] Mc Mm f n := by
  intro H locs ls cells slots hS hc hs hl
  exact va_forget hS.2.2.2.2.2 (W.widen (k := 601024) (n := 7293034) (by omega) (by omega) (lw_ret C.1.1 C.1.2.1 C.1.2.2.1 C.1.2.2.2.2.2.2.2.2.1 hd))
theorem h_call2 {R : Room} {args a : Array Value} {H H0 : Heap} {locs : List Loc} {ls : Array Slot} {cells slots : Nat} {st0 rest : List Value} {FT : Nat → List Nat} {kd : List (Nat × Nat)} {α : Nat → Nat} {A0 A1 : Nat → Prop} {r1 : Option Value} {M1 : hMem} {Q : State → Prop}
    (hr : va_Run p l e R s m args below meth c H locs cells slots 0 0 (F0 m pc ls st0) rest (h_Q FT kd cy α D A1 r1 M1 a) A1) (hS : va_S A0 H0 H locs) (hf : ∀ q, A1 q → A0 q)
    (kk : ∀ (H1 : Heap) (locs1 : List Loc), va_P D vwCl (h_w FT kd cy α M1) H1 → va_S A0 H0 H1 locs1 → (∀ q : Nat, q < H.size → ¬ A1 q → H1[q]? = H[q]?) → W p l e R s m args below meth c H1 locs1 cells slots Q (F0 m (pc + 3) ls ((r1.map (h_v α)).toList ++ rest))) : W p l e R s m args below meth c H locs cells slots Q (F0 m pc ls st0) := by
  intro T hT X
  obtain ⟨v, st₀, t, T', L, h0, X', hL, e1, e2, ⟨⟨hv, hb⟩, hz, hk⟩, st⟩ := hr T hT X
  cases hv
  rw [h0] at hz hk
  obtain ⟨t2, a1, b1⟩ := kk T'.heap (locs ++ L) (by rw [e1]; exact hb)
    ⟨Nat.le_trans hS.1 (by rw [e1]; exact hz), fun q h1 h2 => by rw [e1, hk q (Nat.lt_of_lt_of_le h1 hS.1) (fun z => h2 (hf q z))]; exact hS.2.1 q h1 h2, fun q hq => by
      rcases List.mem_append.mp hq with h | h
      · exact hS.2.2 q h
      · exact hf _ (hL q h)⟩ (fun q h1 h2 => by rw [e1]; exact hk q h1 h2) T' rfl X'
  exact ⟨t2, st t2 a1, b1⟩
/-- cells that a call leaves alone -/
theorem w_keep {kd : List (Nat × Nat)} {α : Nat → Nat} {H H1 : Heap} {ws : va_W} (hP : va_P D vwCl ws H) (hk : ∀ q : Nat, q < H.size → ¬ h_A kd.length α H.size q → H1[q]? = H[q]?) (hd : ∀ (k : Nat) (x : Nat × va_E), ws[k]? = some x → ∀ i, i < kd.length → α i ≠ x.1) : va_P D vwCl ws H1 := hP.kept (fun k x hx => by
  have hlt := (hP k x hx).lt
  refine hk x.1 hlt ?_
  rintro (⟨i, hi, e⟩ | h)
  · exact hd k x hx i hi e.symm
  · exact absurd hlt (Nat.not_lt.mpr h))

end LR
