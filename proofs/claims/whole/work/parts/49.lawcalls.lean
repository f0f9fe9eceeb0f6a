section LK
variable {p : Program} {l : Launch} {e : Env} {s : State} {m : MethodId} {below : List Frame} {meth : Method} {c : Code} {b L : Nat} {xs : Nat → Int32} {D : va_G} {cy : Nat → ClassId} {αc αm : Nat → Nat} {oa : Nat} {lv : List (Nat × Value)} {pc : Nat} {st : List Value} {Mc Mm : hMem} {f : Nat → Int64} {n : Nat}
theorem w_ts (C : LC p l s m meth c b L xs D cy αc αm oa) : ∀ w ∈ h_T, w.before #[Value.ref b] s = true := fun w hw => C.1.2.2.2.2.2.1 w (List.mem_filter.mp hw).1
theorem w_good {own : String} {idx : Nat} {y : MethodName} {bytes : ByteArray} {maxL : Nat} {ret' : Option FieldType} {n0 : Nat} (hy : h_yV y bytes maxL ret' n0) (hl0 : Cond.methodLink own idx y ∈ h_T) : GoodIn h_T (wsV own idx y.cls y (.code y bytes maxL ret' :: h_T)) := by
  intro w hw
  have hw' : w ∈ h_T := by
    simp only [wsV, List.cons_append, List.nil_append, List.mem_cons] at hw
    rcases hw with rfl | rfl | rfl | rfl | rfl | q
    · exact hl0
    · exact hy.2.2.2.1
    · exact hy.2.2.2.2.1
    · exact hy.2.2.1
    · exact hy.2.1
    · exact q
  exact ⟨hw', good_of_word (List.mem_filter.mp hw').2⟩
theorem l_callC {y : MethodName} {bytes : ByteArray} {maxL n0 idx d : Nat} {ret' : Option FieldType} {As : List Value} (rest : List Value) {st0 : List Value} {v : Value} {M1 : hMem} (C : LC p l s m meth c b L xs D cy αc αm oa) (hy : h_yV y bytes maxL ret' n0) (hcl : y.cls = RX10) (hl0 : Cond.methodLink R_law idx y ∈ h_T) (hM : HMet hFT y bytes maxL ret' kdC d (.ref 0 :: As) Mc (some v) M1) (hd0 : d ≤ 1000) (hAs : As.map (h_v αc) = As) (hv : h_v αc v = v) (hst : As.reverse ++ .ref (αc 0) :: rest = st0) (hn : As.length = n0) (hw : (rest.map fun v => v.category).sum ≤ 8) (hn6 : n ≤ 600) (hd : decode code pc = .ok (.invokevirtual idx, 3))
    (k : LW p l e s m below meth c b D cy αc αm oa lv (pc + 3) (v :: rest) M1 Mm f n) : LW p l e s m below meth c b D cy αc αm oa lv pc st0 Mc Mm f n := by
  intro H locs ls cells slots hS hc hs hl
  have hts := w_ts C
  have hP := hS.1
  have hK := C.2.2.2.1
  have hm6 := hy.2.2.2.2.2
  obtain ⟨⟨hbl, hAB⟩, hpre⟩ := h_pre (av := .ref 0 :: As) hP hS.2.2.2 hK C.2.2.2.2.1.1 (fun k hk => C.2.2.2.2.2.2.2.2.2.1 k hk) (fun q hq => hq)
  have hrun := va_runV (l := l) (e := e) (R := room_1) (below := below) (meth := meth) (H := H) (locs := locs) (cells := cells) (slots := slots) (g := F0 m pc ls st0) (As := As.map (h_v αc)) (rest := rest) (b := αc 0) ⟨C.1.1, C.1.2.1, C.1.2.2.2.1, C.1.2.2.2.2.1, hts⟩ (hM l αc D cy H.size C.2.2.2.2.2.1.1) (cwV n0 hts (w_good hy hl0) rfl rfl rfl ⟨rfl, hy.1⟩ ⟨by show d + 1 ≤ 2048; omega, by show 8 + (maxL + 11) + d * 64 ≤ 84000; omega⟩) ⟨hbl, by rw [hcl]; exact va_recv hK hP (ci := 10) (q0 := 0) rfl (h_w_at kc_0), hpre⟩ rfl (by rw [List.length_map]; exact hn) hl.1 (by rw [hAs]; exact hst.symm) (lv_room hw) hd ⟨by show cells + 0 ≤ 601024; omega, by show slots + 0 ≤ 7293034; omega⟩
  refine h_call2 hrun hS.2.2.2 hAB (fun H1 locs1 hP1 hS1 hk1 => ?_)
  have kk := k H1 locs1 ls cells slots ?_ hc hs hl
  · have e1 : ((some v).map (h_v αc)).toList ++ rest = v :: rest := by simp [hv]
    rw [e1]
    exact kk
  · refine ⟨hP1, w_keep hS.2.1 hk1 (fun k x hx i hi => ?_), w_keep hS.2.2.1 hk1 (fun k x hx i hi => ?_), hS1⟩
    · obtain ⟨a1, a2⟩ := h_w_at' hx
      rw [a2]
      exact C.2.2.2.2.2.2.2.2.1 i k hi a1
    · have z1 : k < 1 := (List.getElem?_eq_some_iff.mp hx).1
      have : k = 0 := by omega
      subst this
      cases hx
      exact C.2.2.2.2.2.2.1 i hi
theorem l_callM {y : MethodName} {bytes : ByteArray} {maxL n0 idx d : Nat} {ret' : Option FieldType} {As : List Value} (rest : List Value) {st0 : List Value} {v : Value} {M1 : hMem} (C : LC p l s m meth c b L xs D cy αc αm oa) (hy : h_yV y bytes maxL ret' n0) (hcl : y.cls = RX11) (hl0 : Cond.methodLink R_law idx y ∈ h_T) (hM : HMet hFT y bytes maxL ret' kdM d (.ref 0 :: As) Mm (some v) M1) (hd0 : d ≤ 1000) (hAs : As.map (h_v αm) = As) (hv : h_v αm v = v) (hst : As.reverse ++ .ref (αm 0) :: rest = st0) (hn : As.length = n0) (hw : (rest.map fun v => v.category).sum ≤ 8) (hn6 : n ≤ 600) (hd : decode code pc = .ok (.invokevirtual idx, 3))
    (k : LW p l e s m below meth c b D cy αc αm oa lv (pc + 3) (v :: rest) Mc M1 f n) : LW p l e s m below meth c b D cy αc αm oa lv pc st0 Mc Mm f n := by
  intro H locs ls cells slots hS hc hs hl
  have hts := w_ts C
  have hP := hS.2.1
  have hK := C.2.2.2.1
  have hm6 := hy.2.2.2.2.2
  obtain ⟨⟨hbl, hAB⟩, hpre⟩ := h_pre (av := .ref 0 :: As) hP hS.2.2.2 hK C.2.2.2.2.1.2.1 (fun k hk => C.2.2.2.2.2.2.2.2.2.2.1 k hk) (fun q hq => hq)
  have hrun := va_runV (l := l) (e := e) (R := room_1) (below := below) (meth := meth) (H := H) (locs := locs) (cells := cells) (slots := slots) (g := F0 m pc ls st0) (As := As.map (h_v αm)) (rest := rest) (b := αm 0) ⟨C.1.1, C.1.2.1, C.1.2.2.2.1, C.1.2.2.2.2.1, hts⟩ (hM l αm D cy H.size C.2.2.2.2.2.1.2) (cwV n0 hts (w_good hy hl0) rfl rfl rfl ⟨rfl, hy.1⟩ ⟨by show d + 1 ≤ 2048; omega, by show 8 + (maxL + 11) + d * 64 ≤ 84000; omega⟩) ⟨hbl, by rw [hcl]; exact va_recv hK hP (ci := 11) (q0 := 0) rfl (h_w_at km_0), hpre⟩ rfl (by rw [List.length_map]; exact hn) hl.1 (by rw [hAs]; exact hst.symm) (lv_room hw) hd ⟨by show cells + 0 ≤ 601024; omega, by show slots + 0 ≤ 7293034; omega⟩
  refine h_call2 hrun hS.2.2.2 hAB (fun H1 locs1 hP1 hS1 hk1 => ?_)
  have kk := k H1 locs1 ls cells slots ?_ hc hs hl
  · have e1 : ((some v).map (h_v αm)).toList ++ rest = v :: rest := by simp [hv]
    rw [e1]
    exact kk
  · refine ⟨w_keep hS.1 hk1 (fun k x hx i hi => ?_), hP1, w_keep hS.2.2.1 hk1 (fun k x hx i hi => ?_), hS1⟩
    · obtain ⟨a1, a2⟩ := h_w_at' hx
      rw [a2]
      exact fun h => C.2.2.2.2.2.2.2.2.1 k i a1 hi h.symm
    · have z1 : k < 1 := (List.getElem?_eq_some_iff.mp hx).1
      have : k = 0 := by omega
      subst this
      cases hx
      exact C.2.2.2.2.2.2.2.1 i hi
end LK
