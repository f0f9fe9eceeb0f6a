/-! Calls over AW: the callee has the whole memory. -/
section HL
variable {FT : Nat → List Nat} {cc : ByteArray} {nL : Nat} {ret : Option FieldType} {own : String} {kd : List (Nat × Nat)} {d : Nat} {lv : List (Nat × Value)} {pc : Nat} {st : List Value} {M : hMem} {r : Option Value} {M' : hMem}
theorem h_call {p : Program} {l : Launch} {e : Env} {R : Room} {s : State} {m : MethodId} {args a : Array Value} {below : List Frame} {meth : Method} {c : Code} {H H0 : Heap} {locs : List Loc} {ls : Array Slot} {st0 rest : List Value} {cy : Nat → ClassId} {α : Nat → Nat} {D : va_G} {A0 A1 : Nat → Prop} {r1 : Option Value} {M1 : hMem} {Q : State → Prop}
    (hr : va_Run p l e R s m args below meth c H locs 0 0 0 0 (F0 m pc ls st0) rest (h_Q FT kd cy α D A1 r1 M1 a) A1) (hS : va_S A0 H0 H locs) (hf : ∀ q, A1 q → A0 q)
    (kk : ∀ (H1 : Heap) (locs1 : List Loc), va_P D vwCl (h_w FT kd cy α M1) H1 → va_S A0 H0 H1 locs1 → W p l e R s m args below meth c H1 locs1 0 0 Q (F0 m (pc + 3) ls ((r1.map (h_v α)).toList ++ rest))) : W p l e R s m args below meth c H locs 0 0 Q (F0 m pc ls st0) := by
  intro T hT X
  obtain ⟨v, st₀, t, T', L, h0, X', hL, e1, e2, ⟨⟨hv, hb⟩, hz, hk⟩, st⟩ := hr T hT X
  cases hv
  rw [h0] at hz hk
  obtain ⟨t2, a1, b1⟩ := kk T'.heap (locs ++ L) (by rw [e1]; exact hb)
    ⟨Nat.le_trans hS.1 (by rw [e1]; exact hz), fun q h1 h2 => by rw [e1, hk q (Nat.lt_of_lt_of_le h1 hS.1) (fun z => h2 (hf q z))]; exact hS.2.1 q h1 h2, fun q hq => by
      rcases List.mem_append.mp hq with h | h
      · exact hS.2.2 q h
      · exact hf _ (hL q h)⟩ T' rfl X'
  exact ⟨t2, st t2 a1, b1⟩
def h_yV (y : MethodName) (bytes : ByteArray) (maxL : Nat) (ret : Option FieldType) (n : Nat) : Prop := (y.cls ≠ "java/lang/invoke/MethodHandle" ∧ y.cls ≠ "java/lang/invoke/VarHandle" ∧ (parseMethodDescriptor y.desc).map (fun d => d.parameters.length) = some n) ∧ Cond.code y bytes maxL ret ∈ h_T ∧ Cond.initialized y.cls ∈ h_T ∧ Cond.instanceMethod y ∈ h_T ∧ Cond.selects y.cls y y ∈ h_T ∧ maxL ≤ 45
def h_yS (y : MethodName) (bytes : ByteArray) (maxL : Nat) (ret : Option FieldType) (n : Nat) : Prop := (y.cls ≠ "java/lang/invoke/MethodHandle" ∧ y.cls ≠ "java/lang/invoke/VarHandle" ∧ (parseMethodDescriptor y.desc).map (fun d => d.parameters.length) = some n) ∧ Cond.code y bytes maxL ret ∈ h_T ∧ Cond.initialized y.cls ∈ h_T ∧ Cond.static y ∈ h_T ∧ maxL ≤ 45
theorem h_pre {s : State} {H : Heap} {locs : List Loc} {α : Nat → Nat} {D : va_G} {cy : Nat → ClassId} {A : Nat → Prop} {av : List Value} (hP : va_P D vwCl (h_w FT kd cy α M) H) (hS : va_S A s.heap H locs) (hK : va_K D vwCl (hTys cy) s) (hE : h_E kd.length α A s s.heap) (hAα : ∀ k, k < kd.length → A (α k)) (hA : ∀ q, s.heap.size ≤ q → A q) :
    (FrameBlind (va_Pc (av.map (h_v α)) (fun U => U.heap.size = H.size ∧ va_P D vwCl (h_w FT kd cy α M) U.heap ∧ va_K D vwCl (hTys cy) U ∧ h_E kd.length α (h_A kd.length α H.size) U U.heap)) ∧ (∀ q, h_A kd.length α H.size q → A q)) ∧ ∀ U : State, U.heap = H → s.WarmedH U.vm → va_Pc (av.map (h_v α)) (fun U => U.heap.size = H.size ∧ va_P D vwCl (h_w FT kd cy α M) U.heap ∧ va_K D vwCl (hTys cy) U ∧ h_E kd.length α (h_A kd.length α H.size) U U.heap) (av.map (h_v α)).toArray U := by
  have hAB : ∀ q, h_A kd.length α H.size q → A q := by
    rintro q (⟨k, hk, rfl⟩ | hq)
    · exact hAα k hk
    · exact hA q (Nat.le_trans hS.1 hq)
  refine ⟨⟨?_, hAB⟩, ?_⟩
  · rintro a U g mk ⟨q0, q1, qP, qK, qE⟩
    exact ⟨q0, q1, qP, va_K.moved (u := U) (U := U.calling g mk a) (Vm.Alike.refl U.vm) qK, h_E_same (s := U) (U := U.calling g mk a) rfl qE⟩
  · intro U hU hW
    refine ⟨rfl, by rw [hU], by rw [hU]; exact hP, va_K.moved hW.alike hK, ?_⟩
    rw [hU]
    exact h_E_warm hW hAB hS.2.1 hE
theorem a_callV {y : MethodName} {bytes : ByteArray} {maxL n ci a z idx N : Nat} {ret' : Option FieldType} {As : List Value} (rest : List Value) {st0 : List Value} {r1 : Option Value} {M1 : hMem} {T : u_T} (hy : h_yV y bytes maxL ret' n) (hl : Cond.methodLink own idx y ∈ h_T) (hk : kd[a]? = some (ci + 5, z)) (hc : vwCl[ci]? = some (y.cls, T, N)) (hM : HMet FT y bytes maxL ret' kd d (.ref a :: As) M r1 M1) (hst : As.reverse ++ .ref a :: rest = st0) (hn : As.length = n) (hw : (rest.map fun v => v.category).sum ≤ 8) (hd : decode cc pc = .ok (.invokevirtual idx, 3))
    (k : AW FT cc nL ret own kd (d + 1) lv (pc + 3) (r1.toList ++ rest) M1 r M') : AW FT cc nL ret own kd (d + 1) lv pc st0 M r M' := by
  intro p l e R s m args below meth c H ls locs α D cy A hC hP hS hl2
  obtain ⟨hx, hb, hml, hown, hts, hr, hlk, hE, hK, hR, hI, hAα, hA⟩ := id hC
  obtain ⟨hy1, hy2, hy3, hy4, hy5, hy6⟩ := hy
  obtain ⟨⟨hbl, hAB⟩, hpre⟩ := h_pre (av := .ref a :: As) hP hS hK hE hAα hA
  have hT : GoodIn h_T (wsV own idx y.cls y (.code y bytes maxL ret' :: h_T)) := by
    intro w hw
    have hw' : w ∈ h_T := by
      simp only [wsV, List.cons_append, List.nil_append, List.mem_cons] at hw
      rcases hw with rfl | rfl | rfl | rfl | rfl | q
      · exact hl
      · exact hy4
      · exact hy5
      · exact hy3
      · exact hy2
      · exact q
    exact ⟨hw', good_of_word (List.mem_filter.mp hw').2⟩
  have hrun := va_runV (l := l) (e := e) (R := R) (below := below) (meth := meth) (H := H) (locs := locs) (cells := 0) (slots := 0) (g := F0 m pc ls (st0.map (h_v α))) (As := As.map (h_v α)) (rest := rest.map (h_v α)) ⟨hx, hb, hml, hown, hts⟩ (hM l α D cy H.size hI) (cwV n hts hT rfl rfl rfl ⟨rfl, hy1⟩ ⟨by have := hR.1; omega, by have := hR.2; show 8 + (maxL + 11) + d * 64 ≤ R.locals; omega⟩) ⟨hbl, va_recv hK hP hc (h_w_at hk), hpre⟩ rfl (by rw [List.length_map]; exact hn) hl2.1 (by show st0.map (h_v α) = _; rw [← hst]; simp [h_v]) (lv_room (by
    have : (rest.map (h_v α)).map (fun v => v.category) = rest.map fun v => v.category := by
      rw [List.map_map]
      apply List.map_congr_left
      intro v _
      exact h_v_cat α v
    rw [this]; exact hw)) hd ⟨Nat.zero_le _, Nat.zero_le _⟩
  refine h_call hrun hS hAB (fun H1 locs1 hP1 hS1 => ?_)
  have kk := k p l e R s m args below meth c H1 ls locs1 α D cy A hC hP1 hS1 hl2
  have e1 : (r1.toList ++ rest).map (h_v α) = (r1.map (h_v α)).toList ++ rest.map (h_v α) := by cases r1 <;> simp
  rw [e1] at kk
  exact kk
theorem h_goodC {y : MethodName} {bytes : ByteArray} {maxL : Nat} {ret' : Option FieldType} (hy2 : Cond.code y bytes maxL ret' ∈ h_T) : GoodIn h_T (.code y bytes maxL ret' :: h_T) := h_T_good hy2
theorem h_cats {α : Nat → Nat} {rest : List Value} (hw : (rest.map fun v => v.category).sum ≤ 8) : ((rest.map (h_v α)).map fun v => v.category).sum ≤ 8 := by
  have : (rest.map (h_v α)).map (fun v => v.category) = rest.map fun v => v.category := by
    rw [List.map_map]
    apply List.map_congr_left
    intro v _
    exact h_v_cat α v
  rw [this]; exact hw
theorem a_callS {y : MethodName} {bytes : ByteArray} {maxL n idx : Nat} {ret' : Option FieldType} {As : List Value} (rest : List Value) {st0 : List Value} {r1 : Option Value} {M1 : hMem} (hy : h_yS y bytes maxL ret' n) (hl : Cond.methodLink own idx y ∈ h_T) (hM : HMet FT y bytes maxL ret' kd d As M r1 M1) (hst : As.reverse ++ rest = st0) (hn : As.length = n) (hw : (rest.map fun v => v.category).sum ≤ 8) (hd : decode cc pc = .ok (.invokestatic idx, 3))
    (k : AW FT cc nL ret own kd (d + 1) lv (pc + 3) (r1.toList ++ rest) M1 r M') : AW FT cc nL ret own kd (d + 1) lv pc st0 M r M' := by
  intro p l e R s m args below meth c H ls locs α D cy A hC hP hS hl2
  obtain ⟨hx, hb, hml, hown, hts, hr, hlk, hE, hK, hR, hI, hAα, hA⟩ := id hC
  obtain ⟨hy1, hy2, hy3, hy4, hy6⟩ := hy
  obtain ⟨⟨hbl, hAB⟩, hpre⟩ := h_pre (av := As) hP hS hK hE hAα hA
  have hrun := va_runS (l := l) (e := e) (R := R) (below := below) (meth := meth) (H := H) (locs := locs) (cells := 0) (slots := 0) (g := F0 m pc ls (st0.map (h_v α))) (As := As.map (h_v α)) (rest := rest.map (h_v α)) ⟨hx, hb, hml, hown, hts⟩ (hM l α D cy H.size hI) ⟨callB_of n hts (h_T_good hy2) rfl rfl rfl (hts _ hy3) (hts _ hl) hy1 ⟨by have := hR.1; omega, by have := hR.2; show 8 + (maxL + 11) + d * 64 ≤ R.locals; omega⟩, hts _ hy4⟩ ⟨hbl, hpre⟩ rfl (by rw [List.length_map]; exact hn) hl2.1 (by show st0.map (h_v α) = _; rw [← hst]; simp) (lv_room (h_cats hw)) hd ⟨Nat.zero_le _, Nat.zero_le _⟩
  refine h_call hrun hS hAB (fun H1 locs1 hP1 hS1 => ?_)
  have kk := k p l e R s m args below meth c H1 ls locs1 α D cy A hC hP1 hS1 hl2
  have e1 : (r1.toList ++ rest).map (h_v α) = (r1.map (h_v α)).toList ++ rest.map (h_v α) := by cases r1 <;> simp
  rw [e1] at kk
  exact kk
theorem a_callSN {y : MethodName} {bytes : ByteArray} {maxL n idx : Nat} {host : String} {ret' : Option FieldType} {As : List Value} (rest : List Value) {st0 : List Value} {r1 : Option Value} {M1 : hMem} (hy : h_yS y bytes maxL ret' n) (hl : Cond.methodLinkNest own idx y host ∈ h_N) (hM : HMet FT y bytes maxL ret' kd d As M r1 M1) (hst : As.reverse ++ rest = st0) (hn : As.length = n) (hw : (rest.map fun v => v.category).sum ≤ 8) (hd : decode cc pc = .ok (.invokestatic idx, 3))
    (k : AW FT cc nL ret own kd (d + 1) lv (pc + 3) (r1.toList ++ rest) M1 r M') : AW FT cc nL ret own kd (d + 1) lv pc st0 M r M' := by
  intro p l e R s m args below meth c H ls locs α D cy A hC hP hS hl2
  obtain ⟨hx, hb, hml, hown, hts, hr, hlk, hE, hK, hR, hI, hAα, hA⟩ := id hC
  obtain ⟨hy1, hy2, hy3, hy4, hy6⟩ := hy
  obtain ⟨⟨hbl, hAB⟩, hpre⟩ := h_pre (av := As) hP hS hK hE hAα hA
  have hrun := va_runSN (l := l) (e := e) (R := R) (below := below) (meth := meth) (H := H) (locs := locs) (cells := 0) (slots := 0) (g := F0 m pc ls (st0.map (h_v α))) (As := As.map (h_v α)) (rest := rest.map (h_v α)) ⟨hx, hb, hml, hown, hts⟩ (hM l α D cy H.size hI) ⟨va_cnB n hts (h_T_good hy2) rfl rfl rfl (hE.1 _ hl) (hts _ hy3) hy1 ⟨by have := hR.1; omega, by have := hR.2; show 8 + (maxL + 11) + d * 64 ≤ R.locals; omega⟩, hts _ hy4, trivial⟩ ⟨hbl, hpre⟩ rfl (by rw [List.length_map]; exact hn) hl2.1 (by show st0.map (h_v α) = _; rw [← hst]; simp) (lv_room (h_cats hw)) hd ⟨Nat.zero_le _, Nat.zero_le _⟩
  refine h_call hrun hS hAB (fun H1 locs1 hP1 hS1 => ?_)
  have kk := k p l e R s m args below meth c H1 ls locs1 α D cy A hC hP1 hS1 hl2
  have e1 : (r1.toList ++ rest).map (h_v α) = (r1.map (h_v α)).toList ++ rest.map (h_v α) := by cases r1 <;> simp
  rw [e1] at kk
  exact kk
end HL
