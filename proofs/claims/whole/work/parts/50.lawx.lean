theorem wL_1 : Cond.codeWith yL_choice cL_choice 6 (some .int) [(0, 12, 15, 13)] ∈ h_T := hs_5 194 rfl rfl
theorem wL_2 : Cond.methodLink RL 51 yL_choice ∈ h_T := hs_5 192 rfl rfl
theorem wL_3 : Cond.static yL_choice ∈ h_T := hs_5 193 rfl rfl
theorem wL_4 : Cond.initialized RL ∈ h_T := hs_1 0 rfl rfl
section LX
variable {p : Program} {l : Launch} {e : Env} {s : State} {m : MethodId} {below : List Frame} {meth : Method} {c : Code} {b L : Nat} {xs : Nat → Int32} {D : va_G} {cy : Nat → ClassId} {αc αm : Nat → Nat} {oa : Nat} {lv : List (Nat × Value)} {pc : Nat} {st : List Value} {Mc Mm : hMem} {f : Nat → Int64} {n : Nat}
theorem wL_good : GoodIn h_T (va_wsS RL 51 yL_choice (.codeWith yL_choice cL_choice 6 (some .int) [(0, 12, 15, 13)] :: h_T)) := by
  intro w hw
  have hw' : w ∈ h_T := by
    simp only [va_wsS, List.cons_append, List.nil_append, List.mem_cons] at hw
    rcases hw with rfl | rfl | rfl | rfl | q
    · exact wL_2
    · exact wL_3
    · exact wL_4
    · exact wL_1
    · exact q
  exact ⟨hw', good_of_word (List.mem_filter.mp hw').2⟩
theorem l_callX {d : Nat} {p0 p1 p2 : Int32} {o : Option Int32} {M1 : hMem} (rest : List Value) {st0 : List Value} (C : LC p l s m meth c b L xs D cy αc αm oa) (hM : XMet hFT yX10_choice cX10_choice 5 (some .int) kdC d [.ref 0, .int p0, .int p1, .int p2] Mc o M1) (hd0 : d ≤ 1000) (hst : [.ref oa, .int p2, .int p1, .int p0, .ref (αc 0)] ++ rest = st0) (hw : (rest.map fun v => v.category).sum ≤ 8) (hn6 : n ≤ 600) (hd : decode code pc = .ok (.invokestatic 51, 3))
    (k : LW p l e s m below meth c b D cy αc αm oa lv (pc + 3) (.int (x_k o) :: rest) M1 Mm (x_f o f) (n + 1)) : LW p l e s m below meth c b D cy αc αm oa lv pc st0 Mc Mm f n := by
  intro H locs ls cells slots hS hc hs hl
  have hts := w_ts C
  have hK := C.2.2.2.1
  have hos : oa < H.size := (hS.2.2.1 0 _ rfl).lt
  have hAB : ∀ q, x_A kdC.length αc oa H.size q → w_A s q := by
    rintro q ((⟨k, hk, rfl⟩ | hq) | rfl)
    · exact C.2.2.2.2.2.2.2.2.2.1 k hk
    · exact Nat.le_trans hS.2.2.2.1 hq
    · exact C.2.2.2.2.2.2.2.2.2.2.2
  have hrun := vx_runSW (l := l) (p := p) (e := e) (R := room_1) (below := below) (meth := meth) (H := H) (locs := locs) (cells := cells) (slots := slots) (g := F0 m pc ls st0) (As := [.ref (αc 0), .int p0, .int p1, .int p2, .ref oa]) (rest := rest) ⟨C.1.1, C.1.2.1, C.1.2.2.2.1, C.1.2.2.2.2.1, hts⟩ (sL_choice l C.2.2.1 d αc D cy H.size oa f p0 p1 p2 Mc M1 o C.2.2.2.2.2.1.1 C.2.2.2.2.2.2.1 hos hM) (vx_cwSW 5 hts wL_good rfl rfl rfl (by decide +kernel) ⟨by show d + 1 + 1 ≤ 2048; omega, by show 8 + (6 + 11) + (d + 1) * 64 ≤ 84000; omega⟩) ⟨?_, ?_⟩ rfl rfl hl.1 hst.symm (lv_room hw) hd ⟨by show cells + 1 ≤ 601024; omega, by show slots + 6 ≤ 7293034; omega⟩
  · intro T hT X
    obtain ⟨v, st₀, t, T', Lx, h0, X', hL, e1, e2, ⟨⟨hv, hb1, hb2⟩, hz, hk⟩, st⟩ := hrun T hT X
    cases hv
    rw [h0] at hz hk
    have hPm : va_P D vwCl (h_w hFT kdM cy αm Mm) T'.heap := hS.2.1.kept (fun k x hx => by
      obtain ⟨a1, a2⟩ := h_w_at' hx
      have hlt := (hS.2.1 k x hx).lt
      rw [e1]
      refine hk x.1 hlt ?_
      rw [a2] at hlt ⊢
      rintro ((⟨i, hi, e⟩ | h) | h)
      · exact C.2.2.2.2.2.2.2.2.1 i k hi a1 e.symm
      · exact absurd hlt (Nat.not_lt.mpr h)
      · exact C.2.2.2.2.2.2.2.1 k a1 h)
    obtain ⟨t2, a1, b1⟩ := k T'.heap (locs ++ Lx) ls (cells + 1) (slots + 6) ⟨by rw [e1]; exact hb1, hPm, by rw [e1]; exact hb2,
      ⟨Nat.le_trans hS.2.2.2.1 (by rw [e1]; exact hz), fun q h1 h2 => by rw [e1, hk q (Nat.lt_of_lt_of_le h1 hS.2.2.2.1) (fun z => h2 (hAB q z))]; exact hS.2.2.2.2.1 q h1 h2, fun q hq => by
        rcases List.mem_append.mp hq with h | h
        · exact hS.2.2.2.2.2 q h
        · exact hAB _ (hL q h)⟩⟩ (by omega) (by omega) hl T' rfl X'
    exact ⟨t2, st t2 a1, b1⟩
  · rintro a U g mk ⟨q0, q1, qP, qo, qK, qE, qX⟩
    exact ⟨q0, q1, qP, qo, va_K.moved (u := U) (U := U.calling g mk a) (Vm.Alike.refl U.vm) qK, h_E_same (s := U) (U := U.calling g mk a) rfl qE, x_E_same (s := U) (U := U.calling g mk a) rfl qX⟩
  · intro U hU hW
    refine ⟨rfl, by rw [hU], by rw [hU]; exact hS.1, by rw [hU]; exact hS.2.2.1, va_K.moved hW.alike hK, ?_, ?_⟩
    · rw [hU]; exact h_E_warm hW hAB hS.2.2.2.2.1 C.2.2.2.2.1.1
    · rw [hU]; exact x_E_warm hW hAB hS.2.2.2.2.1 C.2.2.2.2.1.2.2
end LX
