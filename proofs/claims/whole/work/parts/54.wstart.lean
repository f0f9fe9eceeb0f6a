/-! The law's entry: both objects, the array out; then its loop. -/
section WS
variable {p : Program} {l : Launch} {e : Env} {s : State} {m : MethodId} {below : List Frame} {meth : Method} {c : Code} {b L : Nat} {xs : Nat → Int32} {D : va_G} {cy : Nat → ClassId}
theorem n_W0 {H : Heap} {locs : List Loc} (hS : va_S (w_A s) s.heap H locs) : n_W D cy (w_A s) s [] (fun _ => 0) (fun _ _ => none) H locs :=
  ⟨fun k q h => by simp [h_w] at h, fun i j hi => absurd hi (Nat.not_lt_zero _), fun k hk => absurd hk (Nat.not_lt_zero _), hS, fun k i x h => by cases h⟩
theorem l_ctor (C0 : lw_At p s m meth c b L xs) (hK : va_K D vwCl (hTys cy) s) (hX : n_X s) {y : MethodName} {bytes : ByteArray} {d idx a : Nat} {kd kd1 : List (Nat × Nat)} {Rf R1 : Nat → Nat → Option Nat} {mc1 ms1 : Nat} {α : Nat → Nat} {H : Heap} {locs : List Loc} {ls : Array Slot} {lv : List (Nat × Value)} {rest : List Value} {cells slots pc : Nat} {Q : State → Prop} (hy : h_yI y bytes 1 0) (hl0 : Cond.methodLink R_law idx y ∈ h_T) (hM : NMet y bytes 1 d kd [.ref a] Rf kd1 R1 mc1 ms1) (hd0 : d ≤ 100) (hw : n_W D cy (w_A s) s kd α Rf H locs) (hl : lv_has ls 7 lv) (hw8 : (rest.map fun v => v.category).sum ≤ 8) (hmc : cells + mc1 ≤ 601024) (hms : slots + ms1 ≤ 7293034) (hd : decode code pc = .ok (.invokespecial idx, 3))
    (k : ∀ (H1 : Heap) (locs1 : List Loc) (α' : Nat → Nat), (∀ k, k < kd.length → α' k = α k) → n_W D cy (w_A s) s kd1 α' R1 H1 locs1 → (∀ q : Nat, q < H.size → ¬ h_A kd.length α H.size q → H1[q]? = H[q]?) → (∀ k, k < kd1.length → h_A kd.length α H.size (α' k)) → W p l e room_1 s m #[Value.ref b] below meth c H1 locs1 (cells + mc1) (slots + ms1) Q (F0 m (pc + 3) ls rest)) :
    W p l e room_1 s m #[Value.ref b] below meth c H locs cells slots Q (F0 m pc ls (.ref (α a) :: rest)) := by
  obtain ⟨hx, hb, hr, hml, hown, htl, hXs, hbl0, hlocks, hgv⟩ := id C0
  have hts : ∀ w ∈ h_T, w.before #[Value.ref b] s = true := fun w h => htl w (List.mem_filter.mp h).1
  obtain ⟨hy1, hy2, hy3, hy4, hy5, hy6⟩ := hy
  have hAB : ∀ q, h_A kd.length α H.size q → w_A s q := by
    rintro q (⟨k, hk, rfl⟩ | hq)
    · exact hw.2.2.1 k hk
    · exact Nat.le_trans hw.2.2.2.1.1 hq
  have hbl : FrameBlind (va_Pc ([Value.ref a].map (h_v α)) (fun U => U.heap.size = H.size ∧ va_P D vwCl (h_w hFT kd cy α (zI, zJ, Rf)) U.heap ∧ va_K D vwCl (hTys cy) U ∧ n_X U)) := by
    rintro a U g mk ⟨q0, q1, qP, qK, qE⟩
    exact ⟨q0, q1, qP, va_K.moved (u := U) (U := U.calling g mk a) (Vm.Alike.refl U.vm) qK, n_X_same (s := U) (U := U.calling g mk a) rfl qE⟩
  have hpre : ∀ U : State, U.heap = H → s.WarmedH U.vm → va_Pc ([Value.ref a].map (h_v α)) (fun U => U.heap.size = H.size ∧ va_P D vwCl (h_w hFT kd cy α (zI, zJ, Rf)) U.heap ∧ va_K D vwCl (hTys cy) U ∧ n_X U) ([Value.ref a].map (h_v α)).toArray U := fun U hU hW => ⟨rfl, by rw [hU], by rw [hU]; exact hw.1, va_K.moved hW.alike hK, n_X_warm hW hX⟩
  have hRR : d + 1 ≤ room_1.frames ∧ 8 + (1 + 11) + d * 64 ≤ room_1.locals := ⟨by show d + 1 ≤ 2048; omega, by show 8 + (1 + 11) + d * 64 ≤ 84000; omega⟩
  have hrun := va_runI (l := l) (e := e) (R := room_1) (below := below) (meth := meth) (H := H) (locs := locs) (cells := cells) (slots := slots) (g := F0 m pc ls (.ref (α a) :: rest)) (As := []) (b := α a) (rest := rest) ⟨hx, hb, hml, hown, hts⟩ (hM l α D cy H.size hw.2.1 hw.2.2.2.2) ⟨callB_of 0 hts (h_T_good hy2) rfl rfl rfl (hts _ hy3) (hts _ hl0) hy1 hRR, hy5, hts _ hy4⟩ ⟨hbl, hpre⟩ rfl rfl hl.1 rfl (lv_room hw8) hd ⟨hmc, hms⟩
  intro T hT X
  obtain ⟨v, st₀, t, T', Lx, h0, X', hL, e1, e2, ⟨⟨hv, α', ha1, ha2, ha3, hb, hcl⟩, hz, hk⟩, st⟩ := hrun T hT X
  cases hv
  rw [h0] at hz hk
  have hS := hw.2.2.2.1
  obtain ⟨t2, a1, b1⟩ := k T'.heap (locs ++ Lx) α' ha1 ⟨by rw [e1]; exact hb, ha2, fun k hk => hAB _ (ha3 k hk),
    ⟨Nat.le_trans hS.1 (by rw [e1]; exact hz), fun q h1 h2 => by rw [e1, hk q (Nat.lt_of_lt_of_le h1 hS.1) (fun z => h2 (hAB q z))]; exact hS.2.1 q h1 h2, fun q hq => by
      rcases List.mem_append.mp hq with h | h
      · exact hS.2.2 q h
      · exact hAB _ (hL q h)⟩, hcl⟩ (fun q h1 h2 => by rw [e1]; exact hk q h1 h2) ha3 T' rfl X'
  exact ⟨t2, st t2 a1, b1⟩
theorem w_left {ws : va_W} {x : Nat × va_E} {H : Heap} (h : va_P D vwCl (ws ++ [x]) H) : va_P D vwCl ws H := fun k q hq => h k q (by rw [List.getElem?_append_left (List.getElem?_eq_some_iff.mp hq).1]; exact hq)
theorem w_last {ws : va_W} {x : Nat × va_E} {H : Heap} (h : va_P D vwCl (ws ++ [x]) H) : va_P D vwCl [x] H := fun k q hq => by
  have hk : k = 0 := by have := (List.getElem?_eq_some_iff.mp hq).1; simp at this; exact this
  subst hk
  cases hq
  exact h ws.length _ (by simp)
theorem w_ne {A : Nat → Prop} {ws : va_W} {x y : Nat × va_E} (hD : va_D A (ws ++ [x])) {i : Nat} (h : ws[i]? = some y) : y.1 ≠ x.1 := fun he => by
  have hi := (List.getElem?_eq_some_iff.mp h).1
  have h1 : (ws ++ [x])[i]? = some y := by rw [List.getElem?_append_left hi]; exact h
  have h2 : (ws ++ [x])[ws.length]? = some x := by simp
  have := hD.1 _ _ _ _ h1 h2 he
  omega
/-- what a constructor begins with -/
theorem w_one {ci q : Nat} {H : Heap} {locs : List Loc} (hS : va_S (w_A s) s.heap H locs) (hq : w_A s q) (hP : va_P D vwCl [(q, .inr (ci, (hFT ci).map (fun t => if t = 0 then .int 0 else if t = 1 then .long 0 else .null)))] H) : n_W D cy (w_A s) s [(ci + 5, 0)] (n_up (fun _ => 0) 0 q) (fun _ _ => none) H locs := by
  have h0 : n_W D cy (w_A s) s [] (fun _ => 0) (fun _ _ => none) H locs := n_W0 hS
  refine n_grow (u := (ci + 5, 0)) h0 (by show Sum.inr (ci, h_fs _ _ _ _) = _; rw [n_dflt h0.2.2.2.2 (Nat.le_refl _)]) hP ⟨fun i j p q hp hq _ => ?_, fun k x hx => ?_⟩ hS
  · have h1 := (List.getElem?_eq_some_iff.mp hp).1
    have h2 := (List.getElem?_eq_some_iff.mp hq).1
    simp [h_w] at h1 h2
    omega
  · have h1 : k = 0 := by have := (List.getElem?_eq_some_iff.mp hx).1; simp [h_w] at this; exact this
    subst h1
    cases hx
    exact hq
theorem w_lt {kd : List (Nat × Nat)} {α : Nat → Nat} {M : hMem} {H : Heap} (h : va_P D vwCl (h_w hFT kd cy α M) H) {k : Nat} (hk : k < kd.length) : α k < H.size := by
  have := h k _ (h_w_at (List.getElem?_eq_getElem hk))
  exact this.lt
theorem w_posC : 0 < kdC.length := by decide +kernel
theorem w_posM : 0 < kdM.length := by decide +kernel
theorem wd_1 : Cond.classLink R_law 8 RX10 ∈ h_T := hs_1 25 rfl rfl
theorem wd_2 : Cond.classLink R_law 16 RX11 ∈ h_T := hs_6 21 rfl rfl
theorem wd_3 : Cond.methodLink R_law 15 yX10_init ∈ h_T := hs_1 27 rfl rfl
theorem wd_4 : Cond.methodLink R_law 18 yX11_init ∈ h_T := hs_6 23 rfl rfl
theorem dL_0 : decode code 0 = .ok (.new 8, 3) := by decide +kernel
theorem dL_3 : decode code 3 = .ok (.dup, 1) := by decide +kernel
theorem dL_4 : decode code 4 = .ok (.invokespecial 15, 3) := by decide +kernel
theorem dL_7 : decode code 7 = .ok (.astore_n 1, 1) := by decide +kernel
theorem dL_8 : decode code 8 = .ok (.new 16, 3) := by decide +kernel
theorem dL_11 : decode code 11 = .ok (.dup, 1) := by decide +kernel
theorem dL_12 : decode code 12 = .ok (.invokespecial 18, 3) := by decide +kernel
theorem dL_15 : decode code 15 = .ok (.astore_n 2, 1) := by decide +kernel
theorem dL_16 : decode code 16 = .ok (.iconst 1, 1) := by decide +kernel
theorem dL_17 : decode code 17 = .ok (.newarray .long, 2) := by decide +kernel
theorem dL_19 : decode code 19 = .ok (.astore_n 3, 1) := by decide +kernel
set_option maxHeartbeats 4000000 in
theorem whole_start0 {Rel : hRel} (hs : hStp Rel) (hz0 : Rel zI zJ (false, false) zI zJ) (l : Launch) (hflags : l.flags = flags0) (hL : L ≤ 3072) (C0 : lw_At p s m meth c b L xs) : W p l e room_1 s m #[Value.ref b] below meth c s.heap [] 0 0 (lw_Z below #[Value.ref b] s) (entryFrame m ([Value.ref b] : List Value).toArray 7) := by
  obtain ⟨hx, hb, hr, hml, hown, htl, hXs, hbl0, hlocks, hgv⟩ := id C0
  have hts : ∀ w ∈ h_T, w.before #[Value.ref b] s = true := fun w h => htl w (List.mem_filter.mp h).1
  have hh : s_all b s := flat_of_before _ hgv
  obtain ⟨D, cy, hK⟩ := s_K htl
  obtain ⟨ext, hext⟩ := s_E hh htl
  have hxE := s_xE hh htl
  have hX : n_X s := ⟨(hext 0 ext (fun i _ => by rw [Nat.zero_add])).1, va_AO.of (htl _ (ht_2 93 rfl)), htl _ (ht_1 186 rfl)⟩
  have hst : l.stackTraces = false := by unfold Launch.stackTraces; rw [hflags]; decide +kernel
  have hA : ∀ q : Nat, s.heap.size ≤ q → w_A s q := fun _ h => h
  have hl := lv_entry ([.ref b]) (n := 7) (Nat.le_of_ble_eq_true rfl)
  rw [lg_entry_eq]
  generalize (lg_sl ([.ref b]) ++ List.replicate (7 - (lg_sl ([.ref b])).length) Slot.unset).toArray = ls at hl ⊢
  have hl : lv_has ls 7 [(0, .ref b)] := hl
  have hS : va_S (w_A s) s.heap s.heap [] := va_S.rf
  refine va_new (ci := 10) (fs := (hFT 10).map (fun t => if t = 0 then .int 0 else if t = 1 then .long 0 else .null)) (ws := []) hx hb hts hK_10.2.1 tyX10 hK_10.2.2.1 hown (hts _ wd_1) (hts _ it_10) (hts _ ini_10) hK (fun k q h => by simp at h) ⟨fun i j p q h => by simp at h, fun k q h => by simp at h⟩ hS hA hK_10.1 dv_10 (Nat.le_of_ble_eq_true rfl) (Nat.le_of_ble_eq_true rfl) dL_0 (fun q1 H1 hP1 hD1 hS1 => ?_)
  have hq1 : w_A s q1 := hD1.2 0 _ rfl
  have hW1 := w_one (cy := cy) (ci := 10) (q := q1) hS1 hq1 hP1
  refine lv_dup hx hb dL_3 rfl ?_
  refine l_ctor (a := 0) (α := n_up (fun _ => 0) 0 q1) C0 hK hX yy_X10_init wd_3 (c_C (n := 1) 100 (Nat.le_of_ble_eq_true rfl) rfl rfl) (Nat.le_refl _) hW1 hl (Nat.le_of_ble_eq_true rfl) (Nat.le_of_ble_eq_true rfl) (Nat.le_of_ble_eq_true rfl) dL_4 (fun H2 locs2 αc hag2 hW2 hk2 hA2 => ?_)
  rw [kdC_eq] at hW2 hA2
  have hRc : r_C (fun _ _ => none) 0 1 = RM (false, false) := RM_eq hW2.2.2.2.2
  rw [hRc] at hW2
  refine lv_astore_n (lv' := [(1, .ref q1), (0, .ref b)]) hx hb dL_7 rfl hl (by decide) rfl (fun ls hl => ?_)
  have hD2 : va_D (w_A s) (h_w hFT kdC cy αc (zI, zJ, RM (false, false))) := h_wD _ hW2.2.1 hW2.2.2.1
  refine va_new (ci := 11) (fs := (hFT 11).map (fun t => if t = 0 then .int 0 else if t = 1 then .long 0 else .null)) hx hb hts hK_11.2.1 tyX11 hK_11.2.2.1 hown (hts _ wd_2) (hts _ it_11) (hts _ ini_11) hK hW2.1 hD2 hW2.2.2.2.1 hA hK_11.1 dv_11 (Nat.le_of_ble_eq_true rfl) (Nat.le_of_ble_eq_true rfl) dL_8 (fun q2 H3 hP3 hD3 hS3 => ?_)
  have hlen : (h_w hFT kdC cy αc (zI, zJ, RM (false, false))).length = kdC.length := h_w_len
  have hq2 : w_A s q2 := hD3.2 _ _ (by rw [List.getElem?_append_right (Nat.le_refl _)]; simp; rfl)
  have hne2 : ∀ i, i < kdC.length → αc i ≠ q2 := fun i hi => w_ne hD3 (h_w_at (List.getElem?_eq_getElem hi))
  have hPc3 := w_left hP3
  have hW3 := w_one (cy := cy) (ci := 11) (q := q2) hS3 hq2 (w_last hP3)
  refine lv_dup hx hb dL_11 rfl ?_
  refine l_ctor (a := 0) (α := n_up (fun _ => 0) 0 q2) C0 hK hX yy_X11_init wd_4 (c_M (n := 1) 100 (Nat.le_of_ble_eq_true rfl) rfl rfl) (Nat.le_refl _) hW3 hl (Nat.le_of_ble_eq_true rfl) (Nat.le_of_ble_eq_true rfl) (Nat.le_of_ble_eq_true rfl) dL_12 (fun H4 locs4 αm hag4 hW4 hk4 hA4 => ?_)
  rw [kdM_eq] at hW4 hA4
  have hRm : r_M (fun _ _ => none) 0 1 = RMm := RMm_eq hW4.2.2.2.2
  rw [hRm] at hW4
  have hcm : ∀ i j, i < kdC.length → j < kdM.length → αc i ≠ αm j := fun i j hi hj he => by
    have hlt := w_lt hPc3 hi
    rcases hA4 j hj with ⟨k, hk, e⟩ | h
    · have hk0 : k = 0 := by simp at hk; exact hk
      subst hk0
      exact hne2 i hi (by rw [he, e]; rfl)
    · omega
  have hPc4 : va_P D vwCl (h_w hFT kdC cy αc (zI, zJ, RM (false, false))) H4 := hPc3.kept (fun k x hx => by
    obtain ⟨a1, a2⟩ := h_w_at' hx
    have hlt := (hPc3 k x hx).lt
    refine hk4 x.1 hlt ?_
    rw [a2] at hlt ⊢
    rintro (⟨i, hi, e⟩ | h)
    · have hi0 : i = 0 := by simp at hi; exact hi
      subst hi0
      exact hne2 k a1 e
    · omega)
  have hac : αc 0 = q1 := hag2 0 (by decide)
  have ham : αm 0 = q2 := hag4 0 (by decide)
  refine lv_astore_n (lv' := [(2, .ref q2), (1, .ref q1), (0, .ref b)]) hx hb dL_15 rfl hl (by decide) rfl (fun ls hl => ?_)
  refine lv_iconst (v := 1) hx hb dL_16 (by decide) ?_
  have hD4 : va_D (w_A s) (h_w hFT kdM cy αm (zI, zJ, RMm)) := h_wD _ hW4.2.1 hW4.2.2.1
  have hS4 := hW4.2.2.2.1
  refine va_newaK (atype := .long) hx hb (hts _ ac_long) rfl dL_17 rfl (by decide) (N := 1) rfl (Nat.le_of_ble_eq_true rfl) (Nat.le_of_ble_eq_true rfl) (Nat.le_of_ble_eq_true rfl) (h := H4.size) rfl (fun H5 cA e5 z5 o5 hAr hNm => ?_)
  have hcA : cA = cy 1 := by
    have g2 := (hK.2 1 (cy 1, .long) rfl).2
    exact Option.some.inj (hNm.symm.trans g2)
  subst hcA
  have hoc : ∀ i, i < kdC.length → αc i ≠ H4.size := fun i hi => Nat.ne_of_lt (w_lt hPc4 hi)
  have hom : ∀ j, j < kdM.length → αm j ≠ H4.size := fun j hj => Nat.ne_of_lt (w_lt hW4.1 hj)
  have hPc5 : va_P D vwCl (h_w hFT kdC cy αc (zI, zJ, RM (false, false))) H5 := hPc4.kept (fun k x hx => o5 x.1 (hPc4 k x hx).lt)
  have hPm5 : va_P D vwCl (h_w hFT kdM cy αm (zI, zJ, RMm)) H5 := hW4.1.kept (fun k x hx => o5 x.1 (hW4.1 k x hx).lt)
  have hPo5 : va_P D vwCl (x_o cy H4.size (fun _ => 0)) H5 := fun k q hq => by
    have hk0 : k = 0 := by have := (List.getElem?_eq_some_iff.mp hq).1; simp [x_o] at this; exact this
    subst hk0
    cases hq
    exact e5
  have hS5 : va_S (w_A s) s.heap H5 locs4 := ⟨by rw [z5]; exact Nat.le_succ_of_le hS4.1, fun q h1 h2 => (o5 q (Nat.lt_of_lt_of_le h1 hS4.1)).trans (hS4.2.1 q h1 h2), hS4.2.2⟩
  -- the addresses of texts beyond the cells
  have hLC : ∀ αc' αm' : Nat → Nat, (∀ k, k < kdC.length → αc' k = αc k) → (∀ i, i < 23 → αc' (kdC.length + i) = ext i) → (∀ k, k < kdM.length → αm' k = αm k) → (∀ i, i < 23 → αm' (kdM.length + i) = ext i) → LC p l s m meth c b L xs D cy αc' αm' H4.size := by
    intro αc' αm' c1 c2 m1 m2
    refine ⟨C0, hL, hst, hK, ⟨hext _ _ c2, hext _ _ m2, hxE⟩, ⟨fun i j hi hj h => hW2.2.1 i j hi hj (by rw [← c1 i hi, ← c1 j hj]; exact h), fun i j hi hj h => hW4.2.1 i j hi hj (by rw [← m1 i hi, ← m1 j hj]; exact h)⟩, fun i hi => ?_, fun j hj => ?_, fun i j hi hj => ?_, fun i hi => ?_, fun j hj => ?_, hS4.1⟩
    · rw [c1 i hi]; exact hoc i hi
    · rw [m1 j hj]; exact hom j hj
    · rw [c1 i hi, m1 j hj]; exact hcm i j hi hj
    · rw [c1 i hi]; exact hW2.2.2.1 i hi
    · rw [m1 j hj]; exact hW4.2.2.1 j hj
  obtain ⟨αc', c1, c2⟩ : ∃ f : Nat → Nat, (∀ k, k < kdC.length → f k = αc k) ∧ ∀ i, i < 23 → f (kdC.length + i) = ext i := ⟨fun k => if k < kdC.length then αc k else ext (k - kdC.length), fun k hk => if_pos hk, fun i _ => by
    show (if kdC.length + i < kdC.length then αc (kdC.length + i) else ext (kdC.length + i - kdC.length)) = ext i
    rw [if_neg (by omega), Nat.add_sub_cancel_left]⟩
  obtain ⟨αm', m1, m2⟩ : ∃ f : Nat → Nat, (∀ k, k < kdM.length → f k = αm k) ∧ ∀ i, i < 23 → f (kdM.length + i) = ext i := ⟨fun k => if k < kdM.length then αm k else ext (k - kdM.length), fun k hk => if_pos hk, fun i _ => by
    show (if kdM.length + i < kdM.length then αm (kdM.length + i) else ext (kdM.length + i - kdM.length)) = ext i
    rw [if_neg (by omega), Nat.add_sub_cancel_left]⟩
  have C := hLC αc' αm' c1 c2 m1 m2
  have hSt : LSt D cy s αc' αm' H4.size (zI, zJ, RM (false, false)) (zI, zJ, RMm) (fun _ => 0) H5 locs4 := by
    refine ⟨?_, ?_, hPo5, hS5⟩
    · rw [n_w_congr hW2.2.2.2.2 c1]; exact hPc5
    · rw [n_w_congr hW4.2.2.2.2 m1]; exact hPm5
  refine lv_astore_n (lv' := [(3, .ref H4.size), (2, .ref q2), (1, .ref q1), (0, .ref b)]) hx hb dL_19 rfl hl (by decide) rfl (fun ls hl => ?_)
  refine lv_iconst (v := 0) hx hb dL_20 (by decide) ?_
  refine lv_istore (lv' := [(4, .int 0), (3, .ref H4.size), (2, .ref q2), (1, .ref q1), (0, .ref b)]) hx hb dL_21 hl (by decide) rfl (fun ls hl => ?_)
  have hl2 : lv_has ls 7 (lB b αc' αm' H4.size (nI 0)) := by
    unfold lB
    rw [c1 0 w_posC, m1 0 w_posM, hac, ham]
    exact lv_sub hl [4, 3, 2, 1, 0] rfl
  exact l_loop hs C (L + 1) 0 0 zI zJ (false, false) zI zJ (fun _ => 0) (by omega) (by omega) (by omega) hz0 H5 locs4 ls _ _ hSt (Nat.le_of_ble_eq_true rfl) (Nat.le_of_ble_eq_true rfl) hl2
end WS
