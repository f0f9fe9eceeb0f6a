/-! CoinLoops.choice, which returns or throws: rows with an open end, then the method. -/
def x_nw : Cond → Bool
  | .castable _ _ => true
  | .declares _ => true
  | _ => false
/-- what a throw needs of the start -/
def x_E (A : Nat → Prop) (s : State) (H : Heap) : Prop := (∀ w ∈ lw_tbl.filter x_nw, va_Nw w s) ∧ vx_Zq Bundle.tN "UNASSIGNED_STACK" Bundle.steD A s H ∧ vx_Zq Bundle.tN "SUPPRESSED_SENTINEL" Bundle.listD A s H
theorem x_E_warm {A B : Nat → Prop} {s U : State} {H : Heap} (hW : s.WarmedH U.vm) (hAB : ∀ q, B q → A q) (hq : ∀ a : Nat, a < s.heap.size → ¬ A a → H[a]? = s.heap[a]?) (h : x_E A s s.heap) : x_E B U H := by
  refine ⟨fun w hw => ?_, ((h.2.1.kept hq).narrow hAB).moved hW.alike, ((h.2.2.kept hq).narrow hAB).moved hW.alike⟩
  have h1 := h.1 w hw
  have h2 := (List.mem_filter.mp hw).2
  cases w <;> first | exact va_Nw.warmC hW h1 | exact va_Nw.warmD hW h1 | (simp [x_nw] at h2)
theorem x_E_same {A : Nat → Prop} {s U : State} {H : Heap} (hW : s.vm = U.vm) (h : x_E A s H) : x_E A U H := by
  refine ⟨fun w hw => ?_, h.2.1.moved (hW ▸ Vm.Alike.refl s.vm), h.2.2.moved (hW ▸ Vm.Alike.refl s.vm)⟩
  have h1 := h.1 w hw
  have h2 := (List.mem_filter.mp hw).2
  cases w <;> first | exact va_Nw.same rfl hW h1 | (simp [x_nw] at h2)
abbrev x_ex : String := "java/util/NoSuchElementException"
def x_XC (FT : Nat → List Nat) (kd : List (Nat × Nat)) (cy : Nat → ClassId) (α : Nat → Nat) (D : va_G) (A : Nat → Prop) (o : Option Int32) (M' : hMem) : String → State → State → Prop :=
  fun E st t => (o = none ∧ E = x_ex ∧ va_P D vwCl (h_w FT kd cy α M') t.heap) ∧ va_F A st t
def x_Qc (FT : Nat → List Nat) (kd : List (Nat × Nat)) (cy : Nat → ClassId) (α : Nat → Nat) (D : va_G) (A : Nat → Prop) (o : Option Int32) (M' : hMem) : Array Value → State → Outcome → State → Prop :=
  fun a st oc t => ∃ r, o = some r ∧ h_Q FT kd cy α D A (some (.int r)) M' a st oc t
def x_Z (l : Launch) (R : Room) (s : State) (c : Code) (A : Nat → Prop) : Prop := l.stackTraces = false ∧ (∀ x ∈ c.exceptionTable.toList, False) ∧ x_E A s s.heap ∧ 1 ≤ R.cells ∧ 6 ≤ R.slots
def AX (FT : Nat → List Nat) (cc : ByteArray) (nL : Nat) (ret : Option FieldType) (own : String) (kd : List (Nat × Nat)) (d : Nat) (lv : List (Nat × Value)) (pc : Nat) (st : List Value) (M : hMem) (o : Option Int32) (M' : hMem) : Prop :=
  ∀ (p : Program) (l : Launch) (e : Env) (R : Room) (s : State) (m : MethodId) (args : Array Value) (below : List Frame) (meth : Method) (c : Code) (H : Heap) (ls : Array Slot) (locs : List Loc) (α : Nat → Nat) (D : va_G) (cy : Nat → ClassId) (A : Nat → Prop),
    x_Z l R s c A → h_C cc nL ret own kd.length d p R s m args meth c α D cy A → va_P D vwCl (h_w FT kd cy α M) H → va_S A s.heap H locs → lv_has ls nL (lv.map (fun q => (q.1, h_v α q.2))) →
    W p l e R s m args below meth c H locs 0 0 (vx_MQ below (x_Qc FT kd cy α D A o M') (x_XC FT kd cy α D A o M') args s 1 6 A) (F0 m pc ls (st.map (h_v α)))
theorem AX.of {FT : Nat → List Nat} {cc : ByteArray} {nL : Nat} {ret : Option FieldType} {own : String} {kd : List (Nat × Nat)} {d : Nat} {lv : List (Nat × Value)} {pc : Nat} {st : List Value} {M M' : hMem} {r : Int32} (h : AW FT cc nL ret own kd d lv pc st M (some (.int r)) M') : AX FT cc nL ret own kd d lv pc st M (some r) M' := by
  intro p l e R s m args below meth c H ls locs α D cy A hZ hC hP hS hl T hT X
  obtain ⟨t, a1, oc, b1, b2, b3, L, b4, b5⟩ := h p l e R s m args below meth c H ls locs α D cy A hC hP hS hl T hT X
  exact ⟨t, a1, oc, b1, b2, Or.inl ⟨⟨r, rfl, b3⟩, L, ⟨b4.1, b4.2.1, b4.2.2.mono (by omega) (by omega)⟩, b5⟩⟩
section XR
variable {FT : Nat → List Nat} {cc : ByteArray} {nL : Nat} {ret : Option FieldType} {own : String} {kd : List (Nat × Nat)} {d : Nat} {lv : List (Nat × Value)} {pc : Nat} {st : List Value} {M : hMem} {I : Nat → Nat → Int32} {J : Nat → Nat → Int64} {Rf : Nat → Nat → Option Nat} {xo : Option Int32} {M' : hMem}
theorem xa_aload_n {k0 : Fin 4} {i : Nat} {x : Nat} (hd : decode cc pc = .ok (.aload_n k0, 1)) (hi : (k0 : Nat) = i) (hg : lv.find? (fun q => q.1 == i) = some (i, .ref x)) (k : AX FT cc nL ret own kd d lv (pc + 1) (.ref x :: st) M xo M') : AX FT cc nL ret own kd d lv pc st M xo M' := by
  intro p l e R s m args below meth c H ls locs α D cy A hZ hC hP hS hl
  exact lv_aload_n hC.1 hC.2.1 hd hi (h_ld hl hg) (k p l e R s m args below meth c H ls locs α D cy A hZ hC hP hS hl)
theorem xa_iload_n {k0 : Fin 4} {i : Nat} {x : Int32} (hd : decode cc pc = .ok (.iload_n k0, 1)) (hi : (k0 : Nat) = i) (hg : lv.find? (fun q => q.1 == i) = some (i, .int x)) (k : AX FT cc nL ret own kd d lv (pc + 1) (.int x :: st) M xo M') : AX FT cc nL ret own kd d lv pc st M xo M' := by
  intro p l e R s m args below meth c H ls locs α D cy A hZ hC hP hS hl
  exact lv_iload_n hC.1 hC.2.1 hd hi (h_ld hl hg) (k p l e R s m args below meth c H ls locs α D cy A hZ hC hP hS hl)
theorem xa_iconst {n : Int} {v : Int32} (hd : decode cc pc = .ok (.iconst n, 1)) (hv : Int32.ofInt n = v) (k : AX FT cc nL ret own kd d lv (pc + 1) (.int v :: st) M xo M') : AX FT cc nL ret own kd d lv pc st M xo M' := by
  intro p l e R s m args below meth c H ls locs α D cy A hZ hC hP hS hl
  exact lv_iconst hC.1 hC.2.1 hd hv (k p l e R s m args below meth c H ls locs α D cy A hZ hC hP hS hl)
theorem xa_if_eq {x : Int32} {off : Int} {tgt : Nat} (hd : decode cc pc = .ok (.ifCond .eq off, 3)) (ht : (pc : Int) + off = (tgt : Int)) (kt : x = 0 → AX FT cc nL ret own kd d lv tgt st M xo M') (kf : ¬ x = 0 → AX FT cc nL ret own kd d lv (pc + 3) st M xo M') : AX FT cc nL ret own kd d lv pc (.int x :: st) M xo M' := by
  intro p l e R s m args below meth c H ls locs α D cy A hZ hC hP hS hl
  exact lv_if_eq hC.1 hC.2.1 hd ht (fun h => kt h p l e R s m args below meth c H ls locs α D cy A hZ hC hP hS hl) (fun h => kf h p l e R s m args below meth c H ls locs α D cy A hZ hC hP hS hl)
theorem xa_if_ne {x : Int32} {off : Int} {tgt : Nat} (hd : decode cc pc = .ok (.ifCond .ne off, 3)) (ht : (pc : Int) + off = (tgt : Int)) (kt : ¬ x = 0 → AX FT cc nL ret own kd d lv tgt st M xo M') (kf : x = 0 → AX FT cc nL ret own kd d lv (pc + 3) st M xo M') : AX FT cc nL ret own kd d lv pc (.int x :: st) M xo M' := by
  intro p l e R s m args below meth c H ls locs α D cy A hZ hC hP hS hl
  exact lv_if_ne hC.1 hC.2.1 hd ht (fun h => kt h p l e R s m args below meth c H ls locs α D cy A hZ hC hP hS hl) (fun h => kf h p l e R s m args below meth c H ls locs α D cy A hZ hC hP hS hl)
theorem xa_goto {off : Int} {tgt : Nat} (hd : decode cc pc = .ok (.goto off, 3)) (ht : (pc : Int) + off = (tgt : Int)) (k : AX FT cc nL ret own kd d lv tgt st M xo M') : AX FT cc nL ret own kd d lv pc st M xo M' := by
  intro p l e R s m args below meth c H ls locs α D cy A hZ hC hP hS hl
  exact lv_goto hC.1 hC.2.1 hd ht (k p l e R s m args below meth c H ls locs α D cy A hZ hC hP hS hl)
theorem xa_getI {ci a i z idx N : Nat} {C : String} {T : u_T} {ty : Nat → FieldType} (hK : h_K FT ci C T N ty) (hk : kd[a]? = some (ci + 5, z)) (hi : (FT ci)[i]? = some 0) (hw : Cond.fieldLink own idx C (T i).2.1 (T i).2.2.1 ∈ h_T) (hC0 : (T i).1 = C) (hd : decode cc pc = .ok (.getfield idx, 3)) (k : AX FT cc nL ret own kd d lv (pc + 3) (.int (M.1 a i) :: st) M xo M') : AX FT cc nL ret own kd d lv pc (.ref a :: st) M xo M' := by
  intro p l e R s m args below meth c H ls locs α D cy A hZ hC hP hS hl
  have hiN : i < N := by rw [← hK.2.2.2.2]; exact (List.getElem?_eq_some_iff.mp hi).1
  exact va_get (ci := ci) (v := .int (M.1 a i)) hC.1 hC.2.1 hC.2.2.2.2.1 hK.2.1 hC.2.2.2.1 hC.2.2.2.2.2.2.2.2.1 hP a (h_w_at hk) hK.1 i hiN (hC.2.2.2.2.1 _ hw) (fun x hx => by rw [hC0] at hx; exact hx) (h_fs_at hi) hd (k p l e R s m args below meth c H ls locs α D cy A hZ hC hP hS hl)
theorem xa_getR {ci a i z idx N t : Nat} {o : Option Nat} {C : String} {T : u_T} {ty : Nat → FieldType} (hK : h_K FT ci C T N ty) (hk : kd[a]? = some (ci + 5, z)) (hi : (FT ci)[i]? = some (t + 2)) (hw : Cond.fieldLink own idx C (T i).2.1 (T i).2.2.1 ∈ h_T) (hC0 : (T i).1 = C) (hd : decode cc pc = .ok (.getfield idx, 3)) (ho : M.2.2 a i = o) (k : AX FT cc nL ret own kd d lv (pc + 3) (h_rv o :: st) M xo M') : AX FT cc nL ret own kd d lv pc (.ref a :: st) M xo M' := by
  intro p l e R s m args below meth c H ls locs α D cy A hZ hC hP hS hl
  have hiN : i < N := by rw [← hK.2.2.2.2]; exact (List.getElem?_eq_some_iff.mp hi).1
  subst ho
  have kk := k p l e R s m args below meth c H ls locs α D cy A hZ hC hP hS hl
  rw [List.map_cons, h_rv_v] at kk
  exact va_get (ci := ci) (v := va_rf ((M.2.2 a i).map α)) hC.1 hC.2.1 hC.2.2.2.2.1 hK.2.1 hC.2.2.2.1 hC.2.2.2.2.2.2.2.2.1 hP a (h_w_at hk) hK.1 i hiN (hC.2.2.2.2.1 _ hw) (fun x hx => by rw [hC0] at hx; exact hx) (h_fs_at hi) hd kk
theorem xb_getI {ci a i z idx N : Nat} {C : String} {T : u_T} {ty : Nat → FieldType} (hK : h_K FT ci C T N ty) (hk : kd[a]? = some (ci + 5, z)) (hi : (FT ci)[i]? = some 0) (hw : Cond.fieldLink own idx C (T i).2.1 (T i).2.2.1 ∈ h_T) (hC0 : (T i).1 = C) (hd : decode cc pc = .ok (.getfield idx, 3)) (k : AX FT cc nL ret own kd d lv (pc + 3) (.int (I a i) :: st) (I, J, Rf) xo M') : AX FT cc nL ret own kd d lv pc (.ref a :: st) (I, J, Rf) xo M' := xa_getI hK hk hi hw hC0 hd k
theorem xb_getR {ci a i z idx N b : Nat} {C : String} {T : u_T} {ty : Nat → FieldType} (hK : h_K FT ci C T N ty) (hk : kd[a]? = some (ci + 5, z)) (hi : (FT ci)[i]? = some 2) (hw : Cond.fieldLink own idx C (T i).2.1 (T i).2.2.1 ∈ h_T) (hC0 : (T i).1 = C) (ho : Rf a i = some b) (hd : decode cc pc = .ok (.getfield idx, 3)) (k : AX FT cc nL ret own kd d lv (pc + 3) (.ref b :: st) (I, J, Rf) xo M') : AX FT cc nL ret own kd d lv pc (.ref a :: st) (I, J, Rf) xo M' := xa_getR (t := 0) hK hk hi hw hC0 hd ho k
theorem xa_callV {y : MethodName} {bytes : ByteArray} {maxL n ci a z idx N : Nat} {ret' : Option FieldType} {As : List Value} (rest : List Value) {st0 : List Value} {r1 : Option Value} {M1 : hMem} {T : u_T} (hy : h_yV y bytes maxL ret' n) (hl : Cond.methodLink own idx y ∈ h_T) (hk : kd[a]? = some (ci + 5, z)) (hc : vwCl[ci]? = some (y.cls, T, N)) (hM : HMet FT y bytes maxL ret' kd d (.ref a :: As) M r1 M1) (hst : As.reverse ++ .ref a :: rest = st0) (hn : As.length = n) (hw : (rest.map fun v => v.category).sum ≤ 8) (hd : decode cc pc = .ok (.invokevirtual idx, 3))
    (k : AX FT cc nL ret own kd (d + 1) lv (pc + 3) (r1.toList ++ rest) M1 xo M') : AX FT cc nL ret own kd (d + 1) lv pc st0 M xo M' := by
  intro p l e R s m args below meth c H ls locs α D cy A hZ hC hP hS hl2
  obtain ⟨hx, hb, hml, hown, hts, hr, hlk, hE, hK, hR, hI, hAα, hA⟩ := id hC
  obtain ⟨hy1, hy2, hy3, hy4, hy5, hy6⟩ := hy
  obtain ⟨⟨hbl, hAB⟩, hpre⟩ := h_pre (av := .ref a :: As) hP hS hK hE hAα hA
  have hT : GoodIn h_T (wsV own idx y.cls y (.code y bytes maxL ret' :: h_T)) := by
    intro w hw
    have hw' : w ∈ h_T := by
      simp only [wsV, List.cons_append, List.nil_append, List.mem_cons] at hw
      rcases hw with rfl | rfl | rfl | rfl | rfl | q
      · exact hl
      · exact hy4
      · exact hy5
      · exact hy3
      · exact hy2
      · exact q
    exact ⟨hw', good_of_word (List.mem_filter.mp hw').2⟩
  have hrun := va_runV (l := l) (e := e) (R := R) (below := below) (meth := meth) (H := H) (locs := locs) (cells := 0) (slots := 0) (g := F0 m pc ls (st0.map (h_v α))) (As := As.map (h_v α)) (rest := rest.map (h_v α)) ⟨hx, hb, hml, hown, hts⟩ (hM l α D cy H.size hI) (cwV n hts hT rfl rfl rfl ⟨rfl, hy1⟩ ⟨by have := hR.1; omega, by have := hR.2; show 8 + (maxL + 11) + d * 64 ≤ R.locals; omega⟩) ⟨hbl, va_recv hK hP hc (h_w_at hk), hpre⟩ rfl (by rw [List.length_map]; exact hn) hl2.1 (by show st0.map (h_v α) = _; rw [← hst]; simp [h_v]) (lv_room (by
    have : (rest.map (h_v α)).map (fun v => v.category) = rest.map fun v => v.category := by
      rw [List.map_map]
      apply List.map_congr_left
      intro v _
      exact h_v_cat α v
    rw [this]; exact hw)) hd ⟨Nat.zero_le _, Nat.zero_le _⟩
  refine h_call hrun hS hAB (fun H1 locs1 hP1 hS1 => ?_)
  have kk := k p l e R s m args below meth c H1 ls locs1 α D cy A hZ hC hP1 hS1 hl2
  have e1 : (r1.toList ++ rest).map (h_v α) = (r1.map (h_v α)).toList ++ rest.map (h_v α) := by cases r1 <;> simp
  rw [e1] at kk
  exact kk
theorem xa_callS {y : MethodName} {bytes : ByteArray} {maxL n idx : Nat} {ret' : Option FieldType} {As : List Value} (rest : List Value) {st0 : List Value} {r1 : Option Value} {M1 : hMem} (hy : h_yS y bytes maxL ret' n) (hl : Cond.methodLink own idx y ∈ h_T) (hM : HMet FT y bytes maxL ret' kd d As M r1 M1) (hst : As.reverse ++ rest = st0) (hn : As.length = n) (hw : (rest.map fun v => v.category).sum ≤ 8) (hd : decode cc pc = .ok (.invokestatic idx, 3))
    (k : AX FT cc nL ret own kd (d + 1) lv (pc + 3) (r1.toList ++ rest) M1 xo M') : AX FT cc nL ret own kd (d + 1) lv pc st0 M xo M' := by
  intro p l e R s m args below meth c H ls locs α D cy A hZ hC hP hS hl2
  obtain ⟨hx, hb, hml, hown, hts, hr, hlk, hE, hK, hR, hI, hAα, hA⟩ := id hC
  obtain ⟨hy1, hy2, hy3, hy4, hy6⟩ := hy
  obtain ⟨⟨hbl, hAB⟩, hpre⟩ := h_pre (av := As) hP hS hK hE hAα hA
  have hrun := va_runS (l := l) (e := e) (R := R) (below := below) (meth := meth) (H := H) (locs := locs) (cells := 0) (slots := 0) (g := F0 m pc ls (st0.map (h_v α))) (As := As.map (h_v α)) (rest := rest.map (h_v α)) ⟨hx, hb, hml, hown, hts⟩ (hM l α D cy H.size hI) ⟨callB_of n hts (h_T_good hy2) rfl rfl rfl (hts _ hy3) (hts _ hl) hy1 ⟨by have := hR.1; omega, by have := hR.2; show 8 + (maxL + 11) + d * 64 ≤ R.locals; omega⟩, hts _ hy4⟩ ⟨hbl, hpre⟩ rfl (by rw [List.length_map]; exact hn) hl2.1 (by show st0.map (h_v α) = _; rw [← hst]; simp) (lv_room (h_cats hw)) hd ⟨Nat.zero_le _, Nat.zero_le _⟩
  refine h_call hrun hS hAB (fun H1 locs1 hP1 hS1 => ?_)
  have kk := k p l e R s m args below meth c H1 ls locs1 α D cy A hZ hC hP1 hS1 hl2
  have e1 : (r1.toList ++ rest).map (h_v α) = (r1.map (h_v α)).toList ++ rest.map (h_v α) := by cases r1 <;> simp
  rw [e1] at kk
  exact kk
theorem xa_callV1 {v : Value} {y : MethodName} {bytes : ByteArray} {maxL n ci a z idx N : Nat} {ret' : Option FieldType} {As : List Value} (rest : List Value) {st0 : List Value} {M1 : hMem} {T : u_T} (hy : h_yV y bytes maxL ret' n) (hl : Cond.methodLink own idx y ∈ h_T) (hk : kd[a]? = some (ci + 5, z)) (hc : vwCl[ci]? = some (y.cls, T, N)) (hM : HMet FT y bytes maxL ret' kd d (.ref a :: As) M (some v) M1) (hst : As.reverse ++ .ref a :: rest = st0) (hn : As.length = n) (hw : (rest.map fun v => v.category).sum ≤ 8) (hd : decode cc pc = .ok (.invokevirtual idx, 3)) (k : AX FT cc nL ret own kd (d + 1) lv (pc + 3) (v :: rest) M1 xo M') : AX FT cc nL ret own kd (d + 1) lv pc st0 M xo M' := xa_callV rest hy hl hk hc hM hst hn hw hd k
theorem xa_callS1 {v : Value} {y : MethodName} {bytes : ByteArray} {maxL n idx : Nat} {ret' : Option FieldType} {As : List Value} (rest : List Value) {st0 : List Value} {M1 : hMem} (hy : h_yS y bytes maxL ret' n) (hl : Cond.methodLink own idx y ∈ h_T) (hM : HMet FT y bytes maxL ret' kd d As M (some v) M1) (hst : As.reverse ++ rest = st0) (hn : As.length = n) (hw : (rest.map fun v => v.category).sum ≤ 8) (hd : decode cc pc = .ok (.invokestatic idx, 3)) (k : AX FT cc nL ret own kd (d + 1) lv (pc + 3) (v :: rest) M1 xo M') : AX FT cc nL ret own kd (d + 1) lv pc st0 M xo M' := xa_callS rest hy hl hM hst hn hw hd k
end XR
theorem x_words : ∀ w ∈ (vx_at0 "CoinLoops" 143 x_ex ["java/lang/RuntimeException", "java/lang/Exception"]).filter goodWord, w ∈ lw_tbl := by decide +kernel
theorem x_words2 : ∀ w ∈ (vx_at0 "CoinLoops" 143 x_ex ["java/lang/RuntimeException", "java/lang/Exception"]).filter (fun w => !goodWord w), w ∈ lw_tbl.filter x_nw := by decide +kernel
theorem x_wordsT : ∀ w ∈ Cond.classLink "CoinLoops" 141 x_ex :: Cond.initialized x_ex :: vx_at0 "CoinLoops" 143 x_ex ["java/lang/RuntimeException", "java/lang/Exception"], vx_ot w = true := by decide +kernel
theorem x_nwT : ∀ w, x_nw w = true → w.onTables = true := by intro w h; cases w <;> first | rfl | (simp [x_nw] at h)
theorem x_link : Cond.classLink "CoinLoops" 141 x_ex ∈ lw_tbl := by decide +kernel
theorem x_init : Cond.initialized x_ex ∈ lw_tbl := by decide +kernel
theorem dX10_choice_0 : decode cX10_choice 0 = .ok (.aload_n 0, 1) := by decide +kernel
theorem dX10_choice_1 : decode cX10_choice 1 = .ok (.aload_n 0, 1) := by decide +kernel
theorem dX10_choice_2 : decode cX10_choice 2 = .ok (.getfield 90, 3) := by decide +kernel
theorem dX10_choice_5 : decode cX10_choice 5 = .ok (.ifCond .ne 7, 3) := by decide +kernel
theorem dX10_choice_8 : decode cX10_choice 8 = .ok (.iconst 1, 1) := by decide +kernel
theorem dX10_choice_9 : decode cX10_choice 9 = .ok (.goto 4, 3) := by decide +kernel
theorem dX10_choice_12 : decode cX10_choice 12 = .ok (.iconst 0, 1) := by decide +kernel
theorem dX10_choice_13 : decode cX10_choice 13 = .ok (.iconst 0, 1) := by decide +kernel
theorem dX10_choice_14 : decode cX10_choice 14 = .ok (.invokevirtual 110, 3) := by decide +kernel
theorem dX10_choice_17 : decode cX10_choice 17 = .ok (.ifCond .ne 36, 3) := by decide +kernel
theorem dX10_choice_20 : decode cX10_choice 20 = .ok (.aload_n 0, 1) := by decide +kernel
theorem dX10_choice_21 : decode cX10_choice 21 = .ok (.aload_n 0, 1) := by decide +kernel
theorem dX10_choice_22 : decode cX10_choice 22 = .ok (.getfield 26, 3) := by decide +kernel
theorem dX10_choice_25 : decode cX10_choice 25 = .ok (.iload_n 1, 1) := by decide +kernel
theorem dX10_choice_26 : decode cX10_choice 26 = .ok (.iload_n 2, 1) := by decide +kernel
theorem dX10_choice_27 : decode cX10_choice 27 = .ok (.invokevirtual 138, 3) := by decide +kernel
theorem dX10_choice_30 : decode cX10_choice 30 = .ok (.ifCond .eq 11, 3) := by decide +kernel
theorem dX10_choice_33 : decode cX10_choice 33 = .ok (.iload_n 3, 1) := by decide +kernel
theorem dX10_choice_34 : decode cX10_choice 34 = .ok (.iconst 3, 1) := by decide +kernel
theorem dX10_choice_35 : decode cX10_choice 35 = .ok (.invokestatic 114, 3) := by decide +kernel
theorem dX10_choice_38 : decode cX10_choice 38 = .ok (.ifCond .eq 7, 3) := by decide +kernel
theorem dX10_choice_41 : decode cX10_choice 41 = .ok (.iconst 1, 1) := by decide +kernel
theorem dX10_choice_42 : decode cX10_choice 42 = .ok (.goto 4, 3) := by decide +kernel
theorem dX10_choice_45 : decode cX10_choice 45 = .ok (.iconst 0, 1) := by decide +kernel
theorem dX10_choice_46 : decode cX10_choice 46 = .ok (.iconst 1, 1) := by decide +kernel
theorem dX10_choice_47 : decode cX10_choice 47 = .ok (.invokevirtual 110, 3) := by decide +kernel
theorem dX10_choice_50 : decode cX10_choice 50 = .ok (.ifCond .eq 11, 3) := by decide +kernel
theorem dX10_choice_53 : decode cX10_choice 53 = .ok (.new 141, 3) := by decide +kernel
theorem dX10_choice_56 : decode cX10_choice 56 = .ok (.dup, 1) := by decide +kernel
theorem dX10_choice_57 : decode cX10_choice 57 = .ok (.invokespecial 143, 3) := by decide +kernel
theorem dX10_choice_60 : decode cX10_choice 60 = .ok (.athrow, 1) := by decide +kernel
theorem dX10_choice_61 : decode cX10_choice 61 = .ok (.iload_n 1, 1) := by decide +kernel
theorem dX10_choice_62 : decode cX10_choice 62 = .ok (.bipush 8, 2) := by decide +kernel
theorem dX10_choice_64 : decode cX10_choice 64 = .ok (.imul, 1) := by decide +kernel
theorem dX10_choice_65 : decode cX10_choice 65 = .ok (.iload_n 2, 1) := by decide +kernel
theorem dX10_choice_66 : decode cX10_choice 66 = .ok (.iadd, 1) := by decide +kernel
theorem dX10_choice_67 : decode cX10_choice 67 = .ok (.istore 4, 2) := by decide +kernel
theorem dX10_choice_69 : decode cX10_choice 69 = .ok (.iload_n 3, 1) := by decide +kernel
theorem dX10_choice_70 : decode cX10_choice 70 = .ok (.ifCond .ne 14, 3) := by decide +kernel
theorem dX10_choice_73 : decode cX10_choice 73 = .ok (.aload_n 0, 1) := by decide +kernel
theorem dX10_choice_74 : decode cX10_choice 74 = .ok (.getfield 26, 3) := by decide +kernel
theorem dX10_choice_77 : decode cX10_choice 77 = .ok (.getfield 144, 3) := by decide +kernel
theorem dX10_choice_80 : decode cX10_choice 80 = .ok (.iload 4, 2) := by decide +kernel
theorem dX10_choice_82 : decode cX10_choice 82 = .ok (.iaload, 1) := by decide +kernel
theorem dX10_choice_83 : decode cX10_choice 83 = .ok (.ireturn, 1) := by decide +kernel
theorem dX10_choice_84 : decode cX10_choice 84 = .ok (.iload_n 3, 1) := by decide +kernel
theorem dX10_choice_85 : decode cX10_choice 85 = .ok (.iconst 1, 1) := by decide +kernel
theorem dX10_choice_86 : decode cX10_choice 86 = .ok (.if_icmp .ne 16, 3) := by decide +kernel
theorem dX10_choice_89 : decode cX10_choice 89 = .ok (.aload_n 0, 1) := by decide +kernel
theorem dX10_choice_90 : decode cX10_choice 90 = .ok (.getfield 26, 3) := by decide +kernel
theorem dX10_choice_93 : decode cX10_choice 93 = .ok (.getfield 146, 3) := by decide +kernel
theorem dX10_choice_96 : decode cX10_choice 96 = .ok (.iload 4, 2) := by decide +kernel
theorem dX10_choice_98 : decode cX10_choice 98 = .ok (.iaload, 1) := by decide +kernel
theorem dX10_choice_99 : decode cX10_choice 99 = .ok (.goto 13, 3) := by decide +kernel
theorem dX10_choice_102 : decode cX10_choice 102 = .ok (.aload_n 0, 1) := by decide +kernel
theorem dX10_choice_103 : decode cX10_choice 103 = .ok (.getfield 26, 3) := by decide +kernel
theorem dX10_choice_106 : decode cX10_choice 106 = .ok (.getfield 149, 3) := by decide +kernel
theorem dX10_choice_109 : decode cX10_choice 109 = .ok (.iload 4, 2) := by decide +kernel
theorem dX10_choice_111 : decode cX10_choice 111 = .ok (.iaload, 1) := by decide +kernel
theorem dX10_choice_112 : decode cX10_choice 112 = .ok (.ireturn, 1) := by decide +kernel
theorem x_throw {FT : Nat → List Nat} {nL : Nat} {ret : Option FieldType} {kd : List (Nat × Nat)} {d : Nat} {lv : List (Nat × Value)} {M : hMem} (h10 : 10 ≤ d) : AX FT cX10_choice nL ret RX10 kd d lv 53 [] M none M := by
  intro p l e R s m args below meth c H ls locs α D cy A hZ hC hP hS hl
  have hgood : ∀ w ∈ lw_tbl, goodWord w = true → w.before args s = true := fun w hw hg => hC.2.2.2.2.1 w (h_T_of hw hg)
  have hat : ∀ w ∈ vx_at0 "CoinLoops" 143 x_ex ["java/lang/RuntimeException", "java/lang/Exception"], w.before args s = true :=
    vx_hat (B := lw_tbl.filter x_nw) (fun w hw => hgood w (x_words w hw) (List.mem_filter.mp hw).2) x_words2 (fun w hw => va_Nw.use (x_nwT w (List.mem_filter.mp hw).2) (hZ.2.2.1.1 w hw))
  have hR := hC.2.2.2.2.2.2.2.2.2.1
  have hR1 := hR.1
  have hR2 := hR.2
  refine vx_throw0 (own := "CoinLoops") (cls := x_ex) (names := ["java/lang/RuntimeException", "java/lang/Exception"]) (ik := 141) (ic := 143) (mc := 1) (ms := 6) hC.1 hC.2.1 hZ.1 hC.2.2.2.1 (by decide) (by decide) (hgood _ x_link rfl) (hgood _ x_init rfl) hat x_wordsT hZ.2.2.1.2.1 hZ.2.2.1.2.2 hS (hl.1.trans hC.2.2.1.symm) dX10_choice_53 dX10_choice_56 dX10_choice_57 dX10_choice_60 (fun x hx => (hZ.2.1 x hx).elim) (by show 2 + 3 < R.frames; omega) (by show 0 + (13 * (2 + 1) + 42) ≤ R.locals; omega) (by have := hZ.2.2.2.1; omega) (by have := hZ.2.2.2.2; omega) hC.2.2.2.2.2.2.1 ?_ hS.2.2 (by omega) (by omega)
  intro t ht hz hq
  exact ⟨⟨rfl, rfl, hP.kept (fun k x hx => hq x.1 ((hP k x hx).lt))⟩, Nat.le_trans hS.1 hz, fun q h1 h2 => by rw [hq q (Nat.lt_of_lt_of_le h1 hS.1)]; exact hS.2.1 q h1 h2⟩
def XMet (FT : Nat → List Nat) (y : MethodName) (cc : ByteArray) (nL : Nat) (ret : Option FieldType) (kd : List (Nat × Nat)) (d : Nat) (av : List Value) (M : hMem) (o : Option Int32) (M' : hMem) : Prop :=
  ∀ (l : Launch) (α : Nat → Nat) (D : va_G) (cy : Nat → ClassId) (sz : Nat), l.stackTraces = false → h_I kd.length α → vx_Met l y (.code y cc nL ret :: h_T) { frames := d, cells := 1, slots := 6, locals := d * 64 }
    (va_Pc (av.map (h_v α)) (fun U => U.heap.size = sz ∧ va_P D vwCl (h_w FT kd cy α M) U.heap ∧ va_K D vwCl (hTys cy) U ∧ h_E kd.length α (h_A kd.length α sz) U U.heap ∧ x_E (h_A kd.length α sz) U U.heap))
    (x_Qc FT kd cy α D (h_A kd.length α sz) o M') (x_XC FT kd cy α D (h_A kd.length α sz) o M') 1 6 (h_A kd.length α sz)
theorem XMet.of {FT : Nat → List Nat} {y : MethodName} {cc : ByteArray} {nL : Nat} {ret : Option FieldType} {kd : List (Nat × Nat)} {d : Nat} {av : List Value} {M : hMem} {o : Option Int32} {M' : hMem} (hy : plainName y.cls = true) (hn : (lg_sl av).length ≤ nL)
    (h : AX FT cc nL ret y.cls kd d (lv_args 0 av) 0 [] M o M') : XMet FT y cc nL ret kd d av M o M' := by
  intro l α D cy sz hst hI
  refine vx_ofW (cc := cc) (maxL := nL) (ret := ret) hy rfl ?_
  intro p e s m args below meth c s₁ B hml hex hv
  obtain ⟨rfl, hsz, hP, hK, hN, hX⟩ := hv
  have hl := lv_entry (av.map (h_v α)) (n := nL) (by rw [h_sl_len]; exact hn)
  rw [lg_entry_eq]
  generalize (lg_sl (av.map (h_v α)) ++ List.replicate (nL - (lg_sl (av.map (h_v α))).length) Slot.unset).toArray = ls at hl ⊢
  rw [h_args] at hl
  have hts := atoms_spec (ws := (.code y cc nL ret :: h_T)) B.pre
  have hown : s.vm.findClass y.cls = some m.cls := findClass_of_methodNamed B.named
  subst hsz
  exact h p l e _ s m _ below meth c s.heap ls [] α D cy (h_A kd.length α s.heap.size) ⟨hst, hex, hX, Nat.le_refl _, Nat.le_refl _⟩ ⟨B.exec, B.bytes, hml, hown, fun w hw => hts w (List.mem_cons_of_mem _ hw), B.returns, B.notSynchronized, hN, hK, ⟨Nat.le_refl _, Nat.le_refl _⟩, hI, fun k hk => Or.inl ⟨k, hk, rfl⟩, fun q hq => Or.inr hq⟩ hP va_S.rf hl
def mC_choice_61  (v1 : Int32) (v2 : Int32) (v3 : Int32) (I : hI) : Option (Int32 × hI) :=
  h_let ((v1 * (8 : Int32)) + v2) fun v4x0 =>
  if v3 = 0 then
    (h_g (h_in v4x0 80) <|
    some ((I 9 v4x0.toNatClampNeg), I))
  else
    (if v3 = (1 : Int32) then
      (h_g (h_in v4x0 80) <|
      some ((I 10 v4x0.toNatClampNeg), I))
    else
      (h_g (h_in v4x0 80) <|
      some ((I 11 v4x0.toNatClampNeg), I)))
set_option maxHeartbeats 4000000 in
theorem sC_choice_61 (d : Nat) (hd : 10 + 1 ≤ d) (v1 : Int32) (v2 : Int32) (v3 : Int32) (I : hI) (J : hJ) (B : Bool × Bool) (q : Int32 × hI) (h : mC_choice_61 v1 v2 v3 I = some q) : AW hFT cX10_choice 5 (some .int) RX10 kdC d [(0, .ref 0), (1, .int v1), (2, .int v2), (3, .int v3)] 61 [] (I, J, RM B) (some (.int q.1)) (q.2, J, RM B) := by
  obtain ⟨d0, rfl, hd0⟩ := h_mono hd
  unfold mC_choice_61 at h
  refine a_iload_n dX10_choice_61 rfl rfl ?_
  refine a_bipush dX10_choice_62 bp_8 ?_
  refine a_imul dX10_choice_64 ?_
  refine a_iload_n dX10_choice_65 rfl rfl ?_
  refine a_iadd dX10_choice_66 ?_
  obtain ⟨v4x0, ev4x0, h⟩ := h_letS h
  refine a_topI ev4x0 ?_
  refine a_istore (lv' := [(4, .int v4x0), (0, .ref 0), (1, .int v1), (2, .int v2), (3, .int v3)]) dX10_choice_67 (by decide) rfl ?_
  refine a_iload_n dX10_choice_69 rfl rfl ?_
  refine a_if_ne (tgt := 84) dX10_choice_70 (by decide) (fun c => ?_) (fun c => ?_)
  · replace h := h_iteF c h
    refine a_iload_n dX10_choice_84 rfl rfl ?_
    refine a_iconst dX10_choice_85 ic_1 ?_
    refine a_icmp_ne (tgt := 102) dX10_choice_86 (by decide) (fun c => ?_) (fun c => ?_)
    · replace h := h_iteF c h
      refine a_aload_n dX10_choice_102 rfl rfl ?_
      refine b_getR hK_10 kc_0 (i := 2) rfl fl_10_26 rfl (rm_0_2 B) dX10_choice_103 ?_
      refine b_getR hK_7 kc_7 (i := 3) rfl fl_10_149 rfl (rm_7_3 B) dX10_choice_106 ?_
      refine a_iload dX10_choice_109 rfl ?_
      obtain ⟨g2, h⟩ := h_gS h
      refine b_iaload kc_11 (h_inV g2) dX10_choice_111 ?_
      cases h
      exact a_iret dX10_choice_112
    · replace h := h_iteT c h
      refine a_aload_n dX10_choice_89 rfl rfl ?_
      refine b_getR hK_10 kc_0 (i := 2) rfl fl_10_26 rfl (rm_0_2 B) dX10_choice_90 ?_
      refine b_getR hK_7 kc_7 (i := 2) rfl fl_10_146 rfl (rm_7_2 B) dX10_choice_93 ?_
      refine a_iload dX10_choice_96 rfl ?_
      obtain ⟨g2, h⟩ := h_gS h
      refine b_iaload kc_10 (h_inV g2) dX10_choice_98 ?_
      refine a_goto (tgt := 112) dX10_choice_99 (by decide) ?_
      cases h
      exact a_iret dX10_choice_112
  · replace h := h_iteT c h
    refine a_aload_n dX10_choice_73 rfl rfl ?_
    refine b_getR hK_10 kc_0 (i := 2) rfl fl_10_26 rfl (rm_0_2 B) dX10_choice_74 ?_
    refine b_getR hK_7 kc_7 (i := 1) rfl fl_10_144 rfl (rm_7_1 B) dX10_choice_77 ?_
    refine a_iload dX10_choice_80 rfl ?_
    obtain ⟨g2, h⟩ := h_gS h
    refine b_iaload kc_9 (h_inV g2) dX10_choice_82 ?_
    cases h
    exact a_iret dX10_choice_83
def mC_choice_46  (v1 : Int32) (v2 : Int32) (v3 : Int32) (vs1 : Int32) (I : hI) : Option (Option Int32 × hI) :=
  (mC_refuse vs1 (1 : Int32) I).bind fun q1 =>
  if q1.1 = 0 then
    (mC_choice_61 v1 v2 v3 q1.2).bind fun q9 => some (some q9.1, q9.2)
  else
    some (none, q1.2)
set_option maxHeartbeats 4000000 in
theorem sC_choice_46 (d : Nat) (hd : 10 + 1 ≤ d) (v1 : Int32) (v2 : Int32) (v3 : Int32) (vs1 : Int32) (I : hI) (J : hJ) (B : Bool × Bool) (q : Option Int32 × hI) (h : mC_choice_46 v1 v2 v3 vs1 I = some q) : AX hFT cX10_choice 5 (some .int) RX10 kdC d [(0, .ref 0), (1, .int v1), (2, .int v2), (3, .int v3)] 46 [.int vs1, .ref 0] (I, J, RM B) q.1 (q.2, J, RM B) := by
  obtain ⟨d0, rfl, hd0⟩ := h_mono hd
  unfold mC_choice_46 at h
  refine xa_iconst dX10_choice_46 ic_1 ?_
  obtain ⟨q1, cq1, h⟩ := h_bindS h
  refine xa_callV1 [] yy_X10_refuse ml_10_110 kc_0 rfl (sC_refuse _ (by omega) vs1 (1 : Int32) I J B q1 cq1) rfl rfl (Nat.le_of_ble_eq_true rfl) dX10_choice_47 ?_
  refine xa_if_eq (tgt := 61) dX10_choice_50 (by decide) (fun c => ?_) (fun c => ?_)
  · replace h := h_iteT c h
    obtain ⟨q9, c9, h⟩ := h_bindS h
    cases h
    refine AX.of ?_
    refine a_sub (lv' := [(0, .ref 0), (1, .int v1), (2, .int v2), (3, .int v3)]) [0, 1, 2, 3] rfl ?_
    exact sC_choice_61 (d0 + 1) (by omega) v1 v2 v3 q1.2 J B q9 c9
  · replace h := h_iteF c h
    cases h
    exact x_throw (by omega)
def mC_choice_13  (v1 : Int32) (v2 : Int32) (v3 : Int32) (vs1 : Int32) (I : hI) : Option (Option Int32 × hI) :=
  (mC_refuse vs1 (0 : Int32) I).bind fun q1 =>
  if q1.1 = 0 then
    ((mRo_isChoice v1 v2 q1.2).bind fun q2 =>
    if q2 = 0 then
      mC_choice_46 v1 v2 v3 (1 : Int32) q1.2
    else
      (if (mC_isOutside v3 (3 : Int32)) = 0 then
        mC_choice_46 v1 v2 v3 (0 : Int32) q1.2
      else
        mC_choice_46 v1 v2 v3 (1 : Int32) q1.2))
  else
    some (none, q1.2)
set_option maxHeartbeats 4000000 in
theorem sC_choice_13 (d : Nat) (hd : 10 + 1 ≤ d) (v1 : Int32) (v2 : Int32) (v3 : Int32) (vs1 : Int32) (I : hI) (J : hJ) (B : Bool × Bool) (q : Option Int32 × hI) (h : mC_choice_13 v1 v2 v3 vs1 I = some q) : AX hFT cX10_choice 5 (some .int) RX10 kdC d [(0, .ref 0), (1, .int v1), (2, .int v2), (3, .int v3)] 13 [.int vs1, .ref 0] (I, J, RM B) q.1 (q.2, J, RM B) := by
  obtain ⟨d0, rfl, hd0⟩ := h_mono hd
  unfold mC_choice_13 at h
  refine xa_iconst dX10_choice_13 ic_0 ?_
  obtain ⟨q1, cq1, h⟩ := h_bindS h
  refine xa_callV1 [] yy_X10_refuse ml_10_110 kc_0 rfl (sC_refuse _ (by omega) vs1 (0 : Int32) I J B q1 cq1) rfl rfl (Nat.le_of_ble_eq_true rfl) dX10_choice_14 ?_
  refine xa_if_ne (tgt := 53) dX10_choice_17 (by decide) (fun c => ?_) (fun c => ?_)
  · replace h := h_iteF c h
    cases h
    exact x_throw (by omega)
  · replace h := h_iteT c h
    refine xa_aload_n dX10_choice_20 rfl rfl ?_
    refine xa_aload_n dX10_choice_21 rfl rfl ?_
    refine xb_getR hK_10 kc_0 (i := 2) rfl fl_10_26 rfl (rm_0_2 B) dX10_choice_22 ?_
    refine xa_iload_n dX10_choice_25 rfl rfl ?_
    refine xa_iload_n dX10_choice_26 rfl rfl ?_
    obtain ⟨q2, cq2, h⟩ := h_bindS h
    refine xa_callV1 [.ref 0] yy_X7_isChoice ml_10_138 kc_7 rfl (sRo_isChoice _ (by omega) v1 v2 q1.2 J B q2 cq2) rfl rfl (Nat.le_of_ble_eq_true rfl) dX10_choice_27 ?_
    refine xa_if_eq (tgt := 41) dX10_choice_30 (by decide) (fun c => ?_) (fun c => ?_)
    · replace h := h_iteT c h
      refine xa_iconst dX10_choice_41 ic_1 ?_
      refine xa_goto (tgt := 46) dX10_choice_42 (by decide) ?_
      exact sC_choice_46 (d0 + 1) (by omega) v1 v2 v3 (1 : Int32) q1.2 J B _ h
    · replace h := h_iteF c h
      refine xa_iload_n dX10_choice_33 rfl rfl ?_
      refine xa_iconst dX10_choice_34 ic_3 ?_
      refine xa_callS1 [.ref 0] yy_X10_isOutside ml_10_114 (sC_isOutside _ (by omega) v3 (3 : Int32) q1.2 J B _ rfl) rfl rfl (Nat.le_of_ble_eq_true rfl) dX10_choice_35 ?_
      refine xa_if_eq (tgt := 45) dX10_choice_38 (by decide) (fun c => ?_) (fun c => ?_)
      · replace h := h_iteT c h
        refine xa_iconst dX10_choice_45 ic_0 ?_
        exact sC_choice_46 (d0 + 1) (by omega) v1 v2 v3 (0 : Int32) q1.2 J B _ h
      · replace h := h_iteF c h
        refine xa_iconst dX10_choice_41 ic_1 ?_
        refine xa_goto (tgt := 46) dX10_choice_42 (by decide) ?_
        exact sC_choice_46 (d0 + 1) (by omega) v1 v2 v3 (1 : Int32) q1.2 J B _ h
def mC_choice  (v1 : Int32) (v2 : Int32) (v3 : Int32) (I : hI) : Option (Option Int32 × hI) :=
  if (I 0 11) = 0 then
    mC_choice_13 v1 v2 v3 (1 : Int32) I
  else
    mC_choice_13 v1 v2 v3 (0 : Int32) I
set_option maxHeartbeats 4000000 in
theorem sC_choice (d : Nat) (hd : 10 + 1 ≤ d) (v1 : Int32) (v2 : Int32) (v3 : Int32) (I : hI) (J : hJ) (B : Bool × Bool) (q : Option Int32 × hI) (h : mC_choice v1 v2 v3 I = some q) : XMet hFT yX10_choice cX10_choice 5 (some .int) kdC d [.ref 0, .int v1, .int v2, .int v3] (I, J, RM B) q.1 (q.2, J, RM B) := by
  obtain ⟨d0, rfl, hd0⟩ := h_mono hd
  refine XMet.of (by decide) (Nat.le_of_ble_eq_true rfl) ?_
  show AX hFT cX10_choice 5 (some .int) RX10 kdC (d0 + 1) [(0, .ref 0), (1, .int v1), (2, .int v2), (3, .int v3)] 0 [] (I, J, RM B) q.1 (q.2, J, RM B)
  unfold mC_choice at h
  refine xa_aload_n dX10_choice_0 rfl rfl ?_
  refine xa_aload_n dX10_choice_1 rfl rfl ?_
  refine xb_getI hK_10 kc_0 (i := 11) rfl fl_10_90 rfl dX10_choice_2 ?_
  refine xa_if_ne (tgt := 12) dX10_choice_5 (by decide) (fun c => ?_) (fun c => ?_)
  · replace h := h_iteF c h
    refine xa_iconst dX10_choice_12 ic_0 ?_
    exact sC_choice_13 (d0 + 1) (by omega) v1 v2 v3 (0 : Int32) I J B _ h
  · replace h := h_iteT c h
    refine xa_iconst dX10_choice_8 ic_1 ?_
    refine xa_goto (tgt := 13) dX10_choice_9 (by decide) ?_
    exact sC_choice_13 (d0 + 1) (by omega) v1 v2 v3 (1 : Int32) I J B _ h
