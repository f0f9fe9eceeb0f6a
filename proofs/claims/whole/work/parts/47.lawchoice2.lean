def RL : String := "CoinLoopsLaw"
abbrev cL_choice : ByteArray := method_3_code
def yL_choice : MethodName := ⟨RL, "choice", "(LCoinLoops;III[J)I"⟩
theorem dL_choice_0 : decode cL_choice 0 = .ok (.aload 4, 2) := by decide +kernel
theorem dL_choice_2 : decode cL_choice 2 = .ok (.iconst 0, 1) := by decide +kernel
theorem dL_choice_3 : decode cL_choice 3 = .ok (.aload_n 0, 1) := by decide +kernel
theorem dL_choice_4 : decode cL_choice 4 = .ok (.iload_n 1, 1) := by decide +kernel
theorem dL_choice_5 : decode cL_choice 5 = .ok (.iload_n 2, 1) := by decide +kernel
theorem dL_choice_6 : decode cL_choice 6 = .ok (.iload_n 3, 1) := by decide +kernel
theorem dL_choice_7 : decode cL_choice 7 = .ok (.invokevirtual 7, 3) := by decide +kernel
theorem dL_choice_10 : decode cL_choice 10 = .ok (.i2l, 1) := by decide +kernel
theorem dL_choice_11 : decode cL_choice 11 = .ok (.lastore, 1) := by decide +kernel
theorem dL_choice_12 : decode cL_choice 12 = .ok (.goto 7, 3) := by decide +kernel
theorem dL_choice_15 : decode cL_choice 15 = .ok (.astore 5, 2) := by decide +kernel
theorem dL_choice_17 : decode cL_choice 17 = .ok (.iconst 1, 1) := by decide +kernel
theorem dL_choice_18 : decode cL_choice 18 = .ok (.ireturn, 1) := by decide +kernel
theorem dL_choice_19 : decode cL_choice 19 = .ok (.iconst 0, 1) := by decide +kernel
theorem dL_choice_20 : decode cL_choice 20 = .ok (.ireturn, 1) := by decide +kernel
theorem mlL_7 : Cond.methodLink RL 7 yX10_choice ∈ h_T := hs_5 196 rfl rfl
theorem clL_13 : Cond.classLink RL 13 x_ex ∈ h_T := hs_5 195 rfl rfl
theorem x_cast : Cond.castable x_ex x_ex ∈ lw_tbl.filter x_nw := by decide +kernel
/-- the array out: one long -/
def x_o (cy : Nat → ClassId) (oa : Nat) (f : Nat → Int64) : va_W := [(oa, .inl (cy 1, 1, .inr (.inl f)))]
def x_A (n : Nat) (α : Nat → Nat) (oa sz : Nat) : Nat → Prop := fun q => h_A n α sz q ∨ q = oa
def x_k (o : Option Int32) : Int32 := match o with
  | none => 1
  | some _ => 0
def x_f (o : Option Int32) (f : Nat → Int64) : Nat → Int64 := match o with
  | none => f
  | some v => vp_updL f 0 v.toInt64
def x_LQ (kd : List (Nat × Nat)) (cy : Nat → ClassId) (α : Nat → Nat) (D : va_G) (A : Nat → Prop) (oa : Nat) (k : Int32) (f : Nat → Int64) (M' : hMem) : Array Value → State → Outcome → State → Prop :=
  fun _ st oc t => (oc = .returned (some (.int k)) ∧ va_P D vwCl (h_w hFT kd cy α M') t.heap ∧ va_P D vwCl (x_o cy oa f) t.heap) ∧ va_F A st t
set_option maxHeartbeats 4000000 in
theorem sL_choice (l : Launch) (hst : l.stackTraces = false) (d : Nat) (α : Nat → Nat) (D : va_G) (cy : Nat → ClassId) (sz oa : Nat) (f : Nat → Int64) (p0 p1 p2 : Int32) (M M' : hMem) (o : Option Int32) (hI : h_I kdC.length α) (hoa : ∀ k, k < kdC.length → α k ≠ oa) (hos : oa < sz) (hM : XMet hFT yX10_choice cX10_choice 5 (some .int) kdC d [.ref 0, .int p0, .int p1, .int p2] M o M') :
    Met l yL_choice (.codeWith yL_choice cL_choice 6 (some .int) [(0, 12, 15, 13)] :: h_T) { frames := d + 1, cells := 1, slots := 6, locals := (d + 1) * 64 }
      (va_Pc [.ref (α 0), .int p0, .int p1, .int p2, .ref oa] (fun U => U.heap.size = sz ∧ va_P D vwCl (h_w hFT kdC cy α M) U.heap ∧ va_P D vwCl (x_o cy oa f) U.heap ∧ va_K D vwCl (hTys cy) U ∧ h_E kdC.length α (x_A kdC.length α oa sz) U U.heap ∧ x_E (x_A kdC.length α oa sz) U U.heap))
      (x_LQ kdC cy α D (x_A kdC.length α oa sz) oa (x_k o) (x_f o f) M') 1 6 (x_A kdC.length α oa sz) := by
  refine x_ofWH (cc := cL_choice) (maxL := 6) (ret := (some .int)) (hh := [(0, 12, 15, 13)]) (by decide) rfl ?_
  intro p e s m args below meth c s₁ B hml hv
  obtain ⟨rfl, hsz, hP, hPo, hK, hE, hX⟩ := hv
  have hx := B.exec
  have hb := B.bytes
  have hr := B.returns
  have hlocks := B.notSynchronized
  have hts0 := atoms_spec (ws := (.codeWith yL_choice cL_choice 6 (some .int) [(0, 12, 15, 13)] :: h_T)) B.pre
  have hts : ∀ w ∈ h_T, w.before _ s = true := fun w hw => hts0 w (List.mem_cons_of_mem _ hw)
  have hown : s.vm.findClass RL = some m.cls := findClass_of_methodNamed B.named
  have htab : c.exceptionTable.toList = tableOf [(0, 12, 15, 13)] := vx_table (x := yL_choice) B (hts0 _ List.mem_cons_self)
  subst hsz
  have hl := lv_entry ([.ref (α 0), .int p0, .int p1, .int p2, .ref oa]) (n := 6) (Nat.le_of_ble_eq_true rfl)
  rw [lg_entry_eq]
  generalize (lg_sl ([.ref (α 0), .int p0, .int p1, .int p2, .ref oa]) ++ List.replicate (6 - (lg_sl ([.ref (α 0), .int p0, .int p1, .int p2, .ref oa])).length) Slot.unset).toArray = ls at hl ⊢
  have hl : lv_has ls 6 [(0, .ref (α 0)), (1, .int p0), (2, .int p1), (3, .int p2), (4, .ref oa)] := hl
  have hS : va_S (x_A kdC.length α oa s.heap.size) s.heap s.heap [] := va_S.rf
  have hAB : ∀ q, h_A kdC.length α s.heap.size q → x_A kdC.length α oa s.heap.size q := fun q h => Or.inl h
  refine lv_aload hx hb dL_choice_0 (lv_at hl 4 rfl) ?_
  refine lv_iconst (v := 0) hx hb dL_choice_2 ic_0 ?_
  refine lv_aload_n hx hb dL_choice_3 rfl (lv_at hl 0 rfl) ?_
  refine lv_iload_n hx hb dL_choice_4 rfl (lv_at hl 1 rfl) ?_
  refine lv_iload_n hx hb dL_choice_5 rfl (lv_at hl 2 rfl) ?_
  refine lv_iload_n hx hb dL_choice_6 rfl (lv_at hl 3 rfl) ?_
  obtain ⟨hy1, hy2, hy3, hy4, hy5, hy6⟩ := yy_X10_choice
  have hT : GoodIn h_T (wsV RL 7 yX10_choice.cls yX10_choice (.code yX10_choice cX10_choice 5 (some .int) :: h_T)) := by
    intro w hw
    have hw' : w ∈ h_T := by
      simp only [wsV, List.cons_append, List.nil_append, List.mem_cons] at hw
      rcases hw with rfl | rfl | rfl | rfl | rfl | q
      · exact mlL_7
      · exact hy4
      · exact hy5
      · exact hy3
      · exact hy2
      · exact q
    exact ⟨hw', good_of_word (List.mem_filter.mp hw').2⟩
  have hrun := vx_runV (l := l) (p := p) (e := e) (R := { frames := d + 1, cells := 1, slots := 6, locals := (d + 1) * 64 }) (below := below) (meth := meth) (H := s.heap) (locs := []) (cells := 0) (slots := 0) (g := F0 m 7 ls [.int p2, .int p1, .int p0, .ref (α 0), .int 0, .ref oa]) (As := [.int p0, .int p1, .int p2]) (rest := [.int 0, .ref oa]) (b := α 0) ⟨hx, hb, hml, hown, hts⟩ (hM l α D cy s.heap.size hst hI) (cwV 3 hts hT rfl rfl rfl ⟨rfl, hy1⟩ ⟨Nat.le_refl _, by show 8 + (5 + 11) + d * 64 ≤ (d + 1) * 64; omega⟩) ⟨?_, va_recv hK hP (ci := 10) (q0 := 0) rfl (h_w_at kc_0), ?_⟩ rfl rfl hl.1 rfl (lv_room (Nat.le_of_ble_eq_true rfl)) dL_choice_7 ⟨Nat.le_refl _, Nat.le_refl _⟩
  · refine x_call hrun hS hAB ?_ ?_
    · intro ho q9 ce H1 locs1 hP1 hS1 hk1 hc1 hc2 hc3
      subst ho
      have hPo1 : va_P D vwCl (x_o cy oa f) H1 := hPo.kept (fun k x hx => by
        have hlt := (hPo k x hx).lt
        have hz : k < 1 := (List.getElem?_eq_some_iff.mp hx).1
        have : k = 0 := by omega
        subst this
        cases hx
        exact hk1 oa hlt (by rintro (⟨k, hk, e⟩ | h); exact hoa k hk e.symm; exact absurd hlt (Nat.not_lt.mpr h)))
      refine vx_catch (own := RL) (name := x_ex) (E := x_ex) hown [] ⟨0, 12, 15, 13⟩ [] htab (fun z hz => absurd hz List.not_mem_nil) (by decide) (by decide) (hts _ clL_13) (va_Nw.use rfl (hX.1 _ x_cast)) hc1 hc2 hc3 ?_
      refine lv_astore (lv' := [(5, .ref q9), (0, .ref (α 0)), (1, .int p0), (2, .int p1), (3, .int p2), (4, .ref oa)]) hx hb dL_choice_15 hl (by decide) rfl (fun ls hl => ?_)
      refine lv_iconst (v := 1) hx hb dL_choice_17 ic_1 ?_
      exact W.iret (v := 1) hx hb hr (fun t ht hW => ⟨⟨rfl, by rw [ht]; exact hP1, by rw [ht]; exact hPo1⟩, hS1.F ht⟩) hS1.2.2 dL_choice_18
    · intro r ho H1 locs1 hP1 hS1 hk1
      subst ho
      have hPo1 : va_P D vwCl (x_o cy oa f) H1 := hPo.kept (fun k x hx => by
        have hlt := (hPo k x hx).lt
        have hz : k < 1 := (List.getElem?_eq_some_iff.mp hx).1
        have : k = 0 := by omega
        subst this
        cases hx
        exact hk1 oa hlt (by rintro (⟨k, hk, e⟩ | h); exact hoa k hk e.symm; exact absurd hlt (Nat.not_lt.mpr h)))
      have hDo : va_D (x_A kdC.length α oa s.heap.size) (x_o cy oa f) := ⟨fun i j p q h1 h2 _ => by
          have z1 : i < 1 := (List.getElem?_eq_some_iff.mp h1).1
          have z2 : j < 1 := (List.getElem?_eq_some_iff.mp h2).1
          omega, fun k q h => by
          have z1 : k < 1 := (List.getElem?_eq_some_iff.mp h).1
          have : k = 0 := by omega
          subst this
          cases h
          exact Or.inr rfl⟩
      refine lv_i2l hx hb dL_choice_10 rfl ?_
      have hDa : va_D (x_A kdC.length α oa s.heap.size) (h_w hFT kdC cy α M' ++ x_o cy oa f) := (h_wD M' hI (fun k hk => Or.inl (Or.inl ⟨k, hk, rfl⟩))).app hDo (fun i j p q h1 h2 e => by
        obtain ⟨a1, a2⟩ := h_w_at' h1
        have z2 : j < 1 := (List.getElem?_eq_some_iff.mp h2).1
        have : j = 0 := by omega
        subst this
        cases h2
        exact hoa i a1 (a2.symm.trans e))
      have hidx : (h_w hFT kdC cy α M' ++ x_o cy oa f)[kdC.length]? = some (oa, .inl (cy 1, 1, .inr (.inl f))) := by
        rw [List.getElem?_append_right (by rw [h_w_len]; exact Nat.le_refl _), h_w_len, Nat.sub_self]
        rfl
      refine va_last hx hb hK (hP1.app hPo1) hDa hS1 kdC.length 1 hidx rfl (vp_in_nI (n := 0) (by decide) (by decide)) dL_choice_11 (fun H2 locs2 hP2 _ hS2 => ?_)
      have e9 : (h_w hFT kdC cy α M' ++ x_o cy oa f).set kdC.length (oa, .inl (cy 1, 1, .inr (.inl (vp_updL f (0 : Int32).toNatClampNeg r.toInt64)))) = h_w hFT kdC cy α M' ++ x_o cy oa (x_f (some r) f) := by
        rw [List.set_append_right _ _ (by rw [h_w_len]; exact Nat.le_refl _), h_w_len, Nat.sub_self]
        rfl
      rw [e9] at hP2
      have hP3 : va_P D vwCl (h_w hFT kdC cy α M') H2 := fun k q hk => hP2 k q (by rw [List.getElem?_append_left (List.getElem?_eq_some_iff.mp hk).1]; exact hk)
      have hPo2 : va_P D vwCl (x_o cy oa (x_f (some r) f)) H2 := fun k q hk => hP2 (kdC.length + k) q (by rw [List.getElem?_append_right (by rw [h_w_len]; omega), h_w_len, Nat.add_sub_cancel_left]; exact hk)
      refine lv_goto (tgt := 19) hx hb dL_choice_12 (by decide) ?_
      refine lv_iconst (v := 0) hx hb dL_choice_19 ic_0 ?_
      exact W.iret (v := 0) hx hb hr (fun t ht hW => ⟨⟨rfl, by rw [ht]; exact hP3, by rw [ht]; exact hPo2⟩, hS2.F ht⟩) hS2.2.2 dL_choice_20
  · rintro a U g mk ⟨q0, q1, qP, qK, qE, qX⟩
    exact ⟨q0, q1, qP, va_K.moved (u := U) (U := U.calling g mk a) (Vm.Alike.refl U.vm) qK, h_E_same (s := U) (U := U.calling g mk a) rfl qE, x_E_same (s := U) (U := U.calling g mk a) rfl qX⟩
  · intro U hU hW
    refine ⟨rfl, by rw [hU], by rw [hU]; exact hP, va_K.moved hW.alike hK, ?_, ?_⟩
    · rw [hU]; exact h_E_warm hW hAB (fun _ _ _ => rfl) hE
    · rw [hU]; exact x_E_warm hW hAB (fun _ _ _ => rfl) hX
