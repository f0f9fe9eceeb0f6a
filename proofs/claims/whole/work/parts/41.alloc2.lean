/-! Arrays of objects, arrays of arrays, calls of constructors. -/
section NS
variable {cc : ByteArray} {nL : Nat} {own : String} {kd0 : List (Nat × Nat)} {d : Nat} {kd : List (Nat × Nat)} {Rf : Nat → Nat → Option Nat} {mc ms : Nat} {lv : List (Nat × Value)} {pc : Nat} {st : List Value} {kd' : List (Nat × Nat)} {R' : Nat → Nat → Option Nat} {mc' ms' : Nat}
theorem n_none {n : Nat} (hc : n_cl n Rf) {a : Nat} (ha : n ≤ a) (i : Nat) : Rf a i = none := by
  cases h : Rf a i with
  | none => rfl
  | some x => have := (hc a i x h).1; omega
theorem n_newq {idx : Nat} {n : Int32} {N : Nat} (h1 : Cond.classLink own idx "CoinLoops$Step" ∈ h_T) (hn : ¬ n < 0) (hN : n.toNatClampNeg = N) (hb : N * 4 ≤ 536870912) (hmc : mc + 1 ≤ mc') (hms : ms + N ≤ ms') (hlo : ∀ q ∈ lv, n_ok kd.length q.2) (hso : ∀ v ∈ st, n_ok kd.length v) (hd : decode cc pc = .ok (.anewarray idx, 3)) (k : NW cc nL own kd0 d (kd ++ [(3, N)]) Rf (mc + 1) (ms + N) lv (pc + 3) (.ref kd.length :: st) kd' R' mc' ms') : NW cc nL own kd0 d kd Rf mc ms lv pc (.int n :: st) kd' R' mc' ms' := by
  intro p l e R s m args below meth c H ls locs α0 α D cy A hC hw hag hr hl
  have hD := h_wD (FT := hFT) (cy := cy) (zI, zJ, Rf) hw.2.1 hw.2.2.1
  refine va_newq hC.1 hC.2.1 hC.2.2.2.1 (hC.2.2.2.2.1 _ h1) hC.2.2.2.2.2.2.2.1.2.1 hC.2.2.2.2.2.2.2.2.1 hw.1 hD hw.2.2.2.1 hC.2.2.2.2.2.2.2.2.2.2.1 hn hN hb (by omega) (by omega) hd (fun q cA H1 hK1 hP1 hD1 hS1 => ?_)
  have hcA : cA = cy 3 := by
    obtain ⟨_, _, _, _, _, g1⟩ := (hK1.2 5 (cA, .object "CoinLoops$Step") rfl).2
    obtain ⟨_, _, _, _, _, g2⟩ := (hC.2.2.2.2.2.2.2.2.1.2 3 (cy 3, .object "CoinLoops$Step") rfl).2
    exact Option.some.inj (g1.symm.trans g2)
  subst hcA
  refine n_after hC hag hr hl hlo hso (n_grow (u := (3, N)) hw ?_ hP1 hD1 hS1) k
  show (Sum.inl (cy 3, N, Sum.inr (Sum.inr (Sum.inr (Sum.inr (fun i => (Rf kd.length i).map (n_up α kd.length q)))))) : va_E) = _
  have : (fun i => (Rf kd.length i).map (n_up α kd.length q)) = fun _ => none := by
    funext i
    rw [n_none hw.2.2.2.2 (Nat.le_refl _)]
    rfl
  rw [this]
theorem n_ast {a x n : Nat} {i : Int32} (hk : kd[a]? = some (3, n)) (hx : kd[x]? = some (13, 0)) (hi : vp_in i n) (hd : decode cc pc = .ok (.aastore, 1)) (k : NW cc nL own kd0 d kd (h_u Rf a i.toNatClampNeg (some x)) mc ms lv (pc + 1) st kd' R' mc' ms') : NW cc nL own kd0 d kd Rf mc ms lv pc (.ref x :: .int i :: .ref a :: st) kd' R' mc' ms' := by
  intro p l e R s m args below meth c H ls locs α0 α D cy A hC hw hag hr hl
  have hD := h_wD (FT := hFT) (cy := cy) (zI, zJ, Rf) hw.2.1 hw.2.2.1
  have ha := (List.getElem?_eq_some_iff.mp hk).1
  have hx2 := (List.getElem?_eq_some_iff.mp hx).1
  refine va_astq (r := (RX8, TX8, 8)) hC.1 hC.2.1 hC.2.2.2.2.2.2.2.2.1 hw.1 hD hw.2.2.2.1 a 3 x 8 (h_w_at hk) rfl (h_w_at hx) rfl hi hd (fun H locs hP1 _ hS => ?_)
  have e1 : (h_w hFT kd cy α (zI, zJ, Rf)).set a (α a, .inl (cy 3, n, .inr (.inr (.inr (.inr (va_up (fun i => (Rf a i).map α) i.toNatClampNeg (some (α x)))))))) = h_w hFT kd cy α (zI, zJ, h_u Rf a i.toNatClampNeg (some x)) := by
    refine h_w_set hk ?_ (h_offR (M := (zI, zJ, Rf)))
    show (Sum.inl (cy 3, n, Sum.inr (Sum.inr (Sum.inr (Sum.inr (fun j => (h_u Rf a i.toNatClampNeg (some x) a j).map α))))) : va_E) = _
    have : (fun j => (h_u Rf a i.toNatClampNeg (some x) a j).map α) = va_up (fun i => (Rf a i).map α) i.toNatClampNeg (some (α x)) := by
      funext j
      by_cases h : j = i.toNatClampNeg <;> simp [h_u, va_up, h]
    rw [this]
  rw [e1] at hP1
  exact k p l e R s m args below meth c H ls locs α0 α D cy A hC ⟨hP1, hw.2.1, hw.2.2.1, hS, n_cl_u hw.2.2.2.2 ha hx2⟩ hag hr hl
/-- a world whose cells are these, in this order -/
theorem n_of_list {D : va_G} {cy : Nat → ClassId} {A : Nat → Prop} {s : State} {kd1 : List (Nat × Nat)} {α' : Nat → Nat} {R1 : Nat → Nat → Option Nat} {H1 : Heap} {locs : List Loc} {L : va_W} (h1 : h_w hFT kd1 cy α' (zI, zJ, R1) = L) (hP : va_P D vwCl L H1) (hD : va_D A L) (hS : va_S A s.heap H1 locs) (hc : n_cl kd1.length R1) : n_W D cy A s kd1 α' R1 H1 locs := by
  subst h1
  refine ⟨hP, ?_, ?_, hS, hc⟩
  · intro i j hi hj hij
    have g : ∀ i, i < kd1.length → ∃ x, (h_w hFT kd1 cy α' (zI, zJ, R1))[i]? = some (α' i, x) := fun i hi => ⟨_, h_w_at (List.getElem?_eq_getElem hi)⟩
    obtain ⟨x, hx⟩ := g i hi
    obtain ⟨y, hy⟩ := g j hj
    exact hD.1 i j _ _ hx hy hij
  · intro k hk
    exact hD.2 k _ (h_w_at (List.getElem?_eq_getElem hk))
def n_RJ (Rf : Nat → Nat → Option Nat) (n N : Nat) : Nat → Nat → Option Nat := fun a i => if a = n then (if i < N then some (n + 1 + i) else none) else Rf a i
def n_aJ (α : Nat → Nat) (n N q : Nat) (r : Nat → Nat) : Nat → Nat := fun k => if k < n then α k else if k = n then q else r (k - n - 1)
theorem n_cl_J {n N : Nat} (hc : n_cl n Rf) : n_cl (n + 1 + N) (n_RJ Rf n N) := by
  intro k i x h
  unfold n_RJ at h
  by_cases h1 : k = n
  · by_cases h2 : i < N
    · simp [h1, h2] at h
      omega
    · simp [h1, h2] at h
  · simp [h1] at h
    have := hc k i x h
    omega
theorem n_mna {idx : Nat} {n k0 : Int32} {N K : Nat} (h1 : Cond.classLink own idx "[[J" ∈ h_T) (h2 : Cond.arrayClass .long ∈ h_T) (hn : ¬ n < 0) (hk0 : ¬ k0 < 0) (hN : n.toNatClampNeg = N) (hKK : k0.toNatClampNeg = K) (hb1 : N * 4 ≤ 536870912) (hb2 : K * componentBytes .long ≤ 536870912) (hb3 : K ≤ 536870912) (hmc : mc + (1 + N) ≤ mc') (hms : ms + (N + N * K) ≤ ms') (hlo : ∀ q ∈ lv, n_ok kd.length q.2) (hso : ∀ v ∈ st, n_ok kd.length v) (hd : decode cc pc = .ok (.multianewarray idx 2, 4)) (k : NW cc nL own kd0 d (kd ++ [(4, N)] ++ List.replicate N (1, K)) (n_RJ Rf kd.length N) (mc + 1 + N) (ms + N + N * K) lv (pc + 4) (.ref kd.length :: st) kd' R' mc' ms') : NW cc nL own kd0 d kd Rf mc ms lv pc (.int k0 :: .int n :: st) kd' R' mc' ms' := by
  intro p l e R s m args below meth c H ls locs α0 α D cy A hC hw hag hr hl
  have hD := h_wD (FT := hFT) (cy := cy) (zI, zJ, Rf) hw.2.1 hw.2.2.1
  have hcy : s.vm.findClass (FieldType.array .long).toString = some (cy 1) := (hC.2.2.2.2.2.2.2.2.1.2 1 (cy 1, .long) rfl).2
  refine va_mna (X := h_w hFT kd cy α (zI, zJ, Rf)) (L := []) (f := fun _ => .inr (0, [])) (ty := .long) (cy := cy 1) (z := (K, .inr (.inl (fun _ => 0)))) hC.1 hC.2.1 hC.2.2.2.1 (hC.2.2.2.2.1 _ h1) hC.2.2.2.2.2.2.2.1.2.2 (hC.2.2.2.2.1 _ h2) hcy hC.2.2.2.2.2.2.2.2.1 (by simpa [va_pl] using hw.1) (by simpa [va_pl] using hD) hw.2.2.2.1 hC.2.2.2.2.2.2.2.2.2.2.1 hn hk0 hN hKK hb1 hb2 hb3 rfl rfl (by omega) (by omega) (fun c => arrV_new c K (.long 0)) hd (fun q r cA H1 hri _ hK1 hP1 hD1 hS1 => ?_)
  have hcA : cA = cy 4 := by
    have g1 := (hK1.2 5 (cA, .array .long) rfl).2
    have g2 := (hC.2.2.2.2.2.2.2.2.1.2 4 (cy 4, .array .long) rfl).2
    exact Option.some.inj (g1.symm.trans g2)
  subst hcA
  have hag1 : ∀ j, j < kd.length → n_aJ α kd.length N q r j = α j := fun j hj => by simp [n_aJ, hj]
  have hlen : (kd ++ [(4, N)] ++ List.replicate N (1, K)).length = kd.length + 1 + N := by simp [Nat.add_assoc]; try omega
  have hL : h_w hFT (kd ++ [(4, N)] ++ List.replicate N (1, K)) cy (n_aJ α kd.length N q r) (zI, zJ, n_RJ Rf kd.length N) = (h_w hFT kd cy α (zI, zJ, Rf) ++ [(q, .inl (cy 4, N, .inr (.inr (.inr (.inr (fun i => if i < N then some (r i) else none))))))]) ++ va_pl ([] ++ (List.range N).map r) (vr_up (fun _ => .inr (0, [])) ((List.range N).map r) (.inl (cy 1, (K, .inr (.inl (fun _ => 0)))))) := by
    apply List.ext_getElem?
    intro j
    have hl1 : (h_w hFT kd cy α (zI, zJ, Rf)).length = kd.length := h_w_len
    rcases Nat.lt_trichotomy j kd.length with hj | hj | hj
    · obtain ⟨u, hu⟩ : ∃ u, kd[j]? = some u := ⟨_, List.getElem?_eq_getElem hj⟩
      have hu2 : (kd ++ [(4, N)] ++ List.replicate N (1, K))[j]? = some u := by
        rw [List.append_assoc, List.getElem?_append_left hj]
        exact hu
      rw [h_w_at hu2, List.append_assoc, List.getElem?_append_left (by rw [hl1]; exact hj), h_w_at hu, hag1 j hj]
      congr 2
      have hrow : ∀ i, (n_RJ Rf kd.length N j i).map (n_aJ α kd.length N q r) = (Rf j i).map α := by
        intro i
        have : n_RJ Rf kd.length N j i = Rf j i := by simp [n_RJ, Nat.ne_of_lt hj]
        rw [this]
        cases h : Rf j i with
        | none => rfl
        | some x => simp [hag1 x (hw.2.2.2.2 j i x h).2]
      have hfs : ∀ l, h_fs (n_aJ α kd.length N q r) (zI, zJ, n_RJ Rf kd.length N) j l = h_fs α (zI, zJ, Rf) j l := by
        intro l
        unfold h_fs
        congr 1
        funext q
        obtain ⟨t, i0⟩ := q
        match t with
        | 0 => rfl
        | 1 => rfl
        | t + 2 => simp [h_fv, hrow]
      obtain ⟨u1, u2⟩ := u
      match u1 with
      | 0 => rfl
      | 1 => rfl
      | 2 => rfl
      | 3 => simp [h_cell, hrow]
      | 4 => simp [h_cell, hrow]
      | c + 5 => simp [h_cell, hfs]
    · subst hj
      have hu2 : (kd ++ [(4, N)] ++ List.replicate N (1, K))[kd.length]? = some (4, N) := by simp
      rw [h_w_at hu2, List.append_assoc, List.getElem?_append_right (by rw [hl1]; exact Nat.le_refl _), hl1, Nat.sub_self]
      have e0 : n_aJ α kd.length N q r kd.length = q := by simp [n_aJ]
      have e2 : (fun i => (n_RJ Rf kd.length N kd.length i).map (n_aJ α kd.length N q r)) = fun i => if i < N then some (r i) else none := by
        funext i
        by_cases hi : i < N
        · have : ¬ kd.length + 1 + i < kd.length := by omega
          have h3 : ¬ kd.length + 1 + i = kd.length := by omega
          have h4 : kd.length + 1 + i - kd.length - 1 = i := by omega
          simp [n_RJ, n_aJ, hi, this, h3, h4]
        · simp [n_RJ, hi]
      rw [e0]
      show some (q, (Sum.inl (cy 4, N, Sum.inr (Sum.inr (Sum.inr (Sum.inr (fun i => (n_RJ Rf kd.length N kd.length i).map (n_aJ α kd.length N q r)))))) : va_E)) = _
      rw [e2]
      rfl
    · obtain ⟨i, rfl⟩ : ∃ i, j = kd.length + 1 + i := ⟨j - kd.length - 1, by omega⟩
      by_cases hi : i < N
      · have hu2 : (kd ++ [(4, N)] ++ List.replicate N (1, K))[kd.length + 1 + i]? = some (1, K) := by
          rw [List.getElem?_append_right (by simp <;> omega)]
          have : kd.length + 1 + i - (kd ++ [(4, N)]).length = i := by simp <;> omega
          rw [this, List.getElem?_replicate, if_pos hi]
        rw [h_w_at hu2, List.getElem?_append_right (by simp [hl1] <;> omega)]
        have e3 : kd.length + 1 + i - (h_w hFT kd cy α (zI, zJ, Rf) ++ [(q, (Sum.inl (cy 4, N, Sum.inr (Sum.inr (Sum.inr (Sum.inr (fun i => if i < N then some (r i) else none))))) : va_E))]).length = i := by simp [hl1] <;> omega
        rw [e3]
        have e4 : n_aJ α kd.length N q r (kd.length + 1 + i) = r i := by
          have h2 : ¬ kd.length + 1 + i < kd.length := by omega
          have h3 : ¬ kd.length + 1 + i = kd.length := by omega
          have h4 : kd.length + 1 + i - kd.length - 1 = i := by omega
          simp [n_aJ, h2, h3, h4]
        rw [e4]
        have hmem : r i ∈ (List.range N).map r := List.mem_map.mpr ⟨i, List.mem_range.mpr hi, rfl⟩
        simp [va_pl, List.getElem?_map, List.getElem?_range hi, h_cell]
        exact (vr_up_in hmem).symm
      · rw [List.getElem?_eq_none (by rw [h_w_len, hlen]; omega), List.getElem?_eq_none (by simp [hl1, va_pl]; omega)]
  have hw1 := n_of_list (s := s) (locs := locs) hL hP1 hD1 hS1 (by rw [hlen]; exact n_cl_J hw.2.2.2.2)
  have kk := k p l e R s m args below meth c H1 ls locs α0 (n_aJ α kd.length N q r) D cy A hC hw1 ⟨by rw [hlen]; omega, fun j hj => (hag1 j (by omega)).trans (hag.2 j hj)⟩ hr (by rw [n_lv_ag hag1 hlo]; exact hl)
  have e1 : (Value.ref kd.length :: st).map (h_v (n_aJ α kd.length N q r)) = .ref q :: st.map (h_v α) := by
    rw [List.map_cons, n_st_ag hag1 hso]
    simp [h_v, n_aJ]
  rw [e1] at kk
  exact kk
def h_yI (y : MethodName) (bytes : ByteArray) (maxL n : Nat) : Prop := (y.cls ≠ "java/lang/invoke/MethodHandle" ∧ y.cls ≠ "java/lang/invoke/VarHandle" ∧ (parseMethodDescriptor y.desc).map (fun d => d.parameters.length) = some n) ∧ Cond.code y bytes maxL none ∈ h_T ∧ Cond.initialized y.cls ∈ h_T ∧ Cond.instanceMethod y ∈ h_T ∧ y.name = "<init>" ∧ maxL ≤ 45
theorem n_callrow {p : Program} {l : Launch} {e : Env} {R : Room} {s : State} {m : MethodId} {args a : Array Value} {below : List Frame} {meth : Method} {c : Code} {H : Heap} {locs : List Loc} {ls : Array Slot} {st0 rest : List Value} {cy : Nat → ClassId} {α : Nat → Nat} {D : va_G} {A : Nat → Prop} {kd1 : List (Nat × Nat)} {R1 : Nat → Nat → Option Nat} {mc1 ms1 : Nat} {Q : State → Prop}
    (hr : va_Run p l e R s m args below meth c H locs mc ms mc1 ms1 (F0 m pc ls st0) rest (n_Q kd kd1 cy α D (h_A kd.length α H.size) R1 a) (h_A kd.length α H.size)) (hS : va_S A s.heap H locs) (hf : ∀ q, h_A kd.length α H.size q → A q)
    (kk : ∀ (H1 : Heap) (locs1 : List Loc) (α' : Nat → Nat), (∀ k, k < kd.length → α' k = α k) → n_W D cy A s kd1 α' R1 H1 locs1 → W p l e R s m args below meth c H1 locs1 (mc + mc1) (ms + ms1) Q (F0 m (pc + 3) ls rest)) : W p l e R s m args below meth c H locs mc ms Q (F0 m pc ls st0) := by
  intro T hT X
  obtain ⟨v, st₀, t, T', L, h0, X', hL, e1, e2, ⟨⟨hv, α', ha1, ha2, ha3, hb, hcl⟩, hz, hk⟩, st⟩ := hr T hT X
  cases hv
  rw [h0] at hz hk
  obtain ⟨t2, a1, b1⟩ := kk T'.heap (locs ++ L) α' ha1 ⟨by rw [e1]; exact hb, ha2, fun k hk => hf _ (ha3 k hk),
    ⟨Nat.le_trans hS.1 (by rw [e1]; exact hz), fun q h1 h2 => by rw [e1, hk q (Nat.lt_of_lt_of_le h1 hS.1) (fun z => h2 (hf q z))]; exact hS.2.1 q h1 h2, fun q hq => by
      rcases List.mem_append.mp hq with h | h
      · exact hS.2.2 q h
      · exact hf _ (hL q h)⟩, hcl⟩ T' rfl X'
  exact ⟨t2, st t2 a1, b1⟩
theorem n_callN {y : MethodName} {bytes : ByteArray} {maxL n a idx : Nat} {host : String} {As : List Value} (rest : List Value) {st0 : List Value} {kd1 : List (Nat × Nat)} {R1 : Nat → Nat → Option Nat} {mc1 ms1 : Nat} (hy : h_yI y bytes maxL n) (hl0 : Cond.methodLinkNest own idx y host ∈ h_N) (hM : NMet y bytes maxL d kd (.ref a :: As) Rf kd1 R1 mc1 ms1) (hst : As.reverse ++ .ref a :: rest = st0) (hn : As.length = n) (hw8 : (rest.map fun v => v.category).sum ≤ 8) (hmc : mc + mc1 ≤ mc') (hms : ms + ms1 ≤ ms') (hle : kd.length ≤ kd1.length) (hlo : ∀ q ∈ lv, n_ok kd.length q.2) (hso : ∀ v ∈ rest, n_ok kd.length v) (hd : decode cc pc = .ok (.invokespecial idx, 3)) (k : NW cc nL own kd0 (d + 1) kd1 R1 (mc + mc1) (ms + ms1) lv (pc + 3) rest kd' R' mc' ms') : NW cc nL own kd0 (d + 1) kd Rf mc ms lv pc st0 kd' R' mc' ms' := by
  intro p l e R s m args below meth c H ls locs α0 α D cy A hC hw hag hr hl
  obtain ⟨hx, hb, hml, hown, hts, hrt, hlk, hX, hK, hR, hA, hin⟩ := id hC
  obtain ⟨hy1, hy2, hy3, hy4, hy5, hy6⟩ := hy
  have hAB : ∀ q, h_A kd.length α H.size q → A q := by
    rintro q (⟨k, hk, rfl⟩ | hq)
    · exact hw.2.2.1 k hk
    · exact hA q (Nat.le_trans hw.2.2.2.1.1 hq)
  have hbl : FrameBlind (va_Pc ((Value.ref a :: As).map (h_v α)) (fun U => U.heap.size = H.size ∧ va_P D vwCl (h_w hFT kd cy α (zI, zJ, Rf)) U.heap ∧ va_K D vwCl (hTys cy) U ∧ n_X U)) := by
    rintro a U g mk ⟨q0, q1, qP, qK, qE⟩
    exact ⟨q0, q1, qP, va_K.moved (u := U) (U := U.calling g mk a) (Vm.Alike.refl U.vm) qK, n_X_same (s := U) (U := U.calling g mk a) rfl qE⟩
  have hpre : ∀ U : State, U.heap = H → s.WarmedH U.vm → va_Pc ((Value.ref a :: As).map (h_v α)) (fun U => U.heap.size = H.size ∧ va_P D vwCl (h_w hFT kd cy α (zI, zJ, Rf)) U.heap ∧ va_K D vwCl (hTys cy) U ∧ n_X U) ((Value.ref a :: As).map (h_v α)).toArray U := fun U hU hW => ⟨rfl, by rw [hU], by rw [hU]; exact hw.1, va_K.moved hW.alike hK, n_X_warm hW hX⟩
  have hRR : d + 1 ≤ R.frames ∧ 8 + (maxL + 11) + d * 64 ≤ R.locals := ⟨hR.1, by have := hR.2; omega⟩
  have hrun := va_runIN (l := l) (e := e) (R := R) (below := below) (meth := meth) (H := H) (locs := locs) (cells := mc) (slots := ms) (g := F0 m pc ls (st0.map (h_v α))) (As := As.map (h_v α)) (b := α a) (rest := rest.map (h_v α)) ⟨hx, hb, hml, hown, hts⟩ (hM l α D cy H.size hw.2.1 hw.2.2.2.2) ⟨va_cnB n hts (h_T_good hy2) rfl rfl rfl (hX.1 _ hl0) (hts _ hy3) hy1 hRR, hy5, hts _ hy4⟩ ⟨hbl, hpre⟩ rfl (by rw [List.length_map]; exact hn) hl.1 (by show st0.map (h_v α) = _; rw [← hst]; simp [h_v]) (lv_room (h_cats hw8)) hd ⟨by omega, by omega⟩
  refine n_callrow hrun hw.2.2.2.1 hAB (fun H1 locs1 α' hag1 hw1 => ?_)
  have kk := k p l e R s m args below meth c H1 ls locs1 α0 α' D cy A hC hw1 ⟨by omega, fun j hj => (hag1 j (by omega)).trans (hag.2 j hj)⟩ hr (by rw [n_lv_ag hag1 hlo]; exact hl)
  rw [n_st_ag hag1 hso] at kk
  exact kk
theorem n_callI {y : MethodName} {bytes : ByteArray} {maxL n a idx : Nat} {As : List Value} (rest : List Value) {st0 : List Value} {kd1 : List (Nat × Nat)} {R1 : Nat → Nat → Option Nat} {mc1 ms1 : Nat} (hy : h_yI y bytes maxL n) (hl0 : Cond.methodLink own idx y ∈ h_T) (hM : NMet y bytes maxL d kd (.ref a :: As) Rf kd1 R1 mc1 ms1) (hst : As.reverse ++ .ref a :: rest = st0) (hn : As.length = n) (hw8 : (rest.map fun v => v.category).sum ≤ 8) (hmc : mc + mc1 ≤ mc') (hms : ms + ms1 ≤ ms') (hle : kd.length ≤ kd1.length) (hlo : ∀ q ∈ lv, n_ok kd.length q.2) (hso : ∀ v ∈ rest, n_ok kd.length v) (hd : decode cc pc = .ok (.invokespecial idx, 3)) (k : NW cc nL own kd0 (d + 1) kd1 R1 (mc + mc1) (ms + ms1) lv (pc + 3) rest kd' R' mc' ms') : NW cc nL own kd0 (d + 1) kd Rf mc ms lv pc st0 kd' R' mc' ms' := by
  intro p l e R s m args below meth c H ls locs α0 α D cy A hC hw hag hr hl
  obtain ⟨hx, hb, hml, hown, hts, hrt, hlk, hX, hK, hR, hA, hin⟩ := id hC
  obtain ⟨hy1, hy2, hy3, hy4, hy5, hy6⟩ := hy
  have hAB : ∀ q, h_A kd.length α H.size q → A q := by
    rintro q (⟨k, hk, rfl⟩ | hq)
    · exact hw.2.2.1 k hk
    · exact hA q (Nat.le_trans hw.2.2.2.1.1 hq)
  have hbl : FrameBlind (va_Pc ((Value.ref a :: As).map (h_v α)) (fun U => U.heap.size = H.size ∧ va_P D vwCl (h_w hFT kd cy α (zI, zJ, Rf)) U.heap ∧ va_K D vwCl (hTys cy) U ∧ n_X U)) := by
    rintro a U g mk ⟨q0, q1, qP, qK, qE⟩
    exact ⟨q0, q1, qP, va_K.moved (u := U) (U := U.calling g mk a) (Vm.Alike.refl U.vm) qK, n_X_same (s := U) (U := U.calling g mk a) rfl qE⟩
  have hpre : ∀ U : State, U.heap = H → s.WarmedH U.vm → va_Pc ((Value.ref a :: As).map (h_v α)) (fun U => U.heap.size = H.size ∧ va_P D vwCl (h_w hFT kd cy α (zI, zJ, Rf)) U.heap ∧ va_K D vwCl (hTys cy) U ∧ n_X U) ((Value.ref a :: As).map (h_v α)).toArray U := fun U hU hW => ⟨rfl, by rw [hU], by rw [hU]; exact hw.1, va_K.moved hW.alike hK, n_X_warm hW hX⟩
  have hRR : d + 1 ≤ R.frames ∧ 8 + (maxL + 11) + d * 64 ≤ R.locals := ⟨hR.1, by have := hR.2; omega⟩
  have hrun := va_runI (l := l) (e := e) (R := R) (below := below) (meth := meth) (H := H) (locs := locs) (cells := mc) (slots := ms) (g := F0 m pc ls (st0.map (h_v α))) (As := As.map (h_v α)) (b := α a) (rest := rest.map (h_v α)) ⟨hx, hb, hml, hown, hts⟩ (hM l α D cy H.size hw.2.1 hw.2.2.2.2) ⟨callB_of n hts (h_T_good hy2) rfl rfl rfl (hts _ hy3) (hts _ hl0) hy1 hRR, hy5, hts _ hy4⟩ ⟨hbl, hpre⟩ rfl (by rw [List.length_map]; exact hn) hl.1 (by show st0.map (h_v α) = _; rw [← hst]; simp [h_v]) (lv_room (h_cats hw8)) hd ⟨by omega, by omega⟩
  refine n_callrow hrun hw.2.2.2.1 hAB (fun H1 locs1 α' hag1 hw1 => ?_)
  have kk := k p l e R s m args below meth c H1 ls locs1 α0 α' D cy A hC hw1 ⟨by omega, fun j hj => (hag1 j (by omega)).trans (hag.2 j hj)⟩ hr (by rw [n_lv_ag hag1 hlo]; exact hl)
  rw [n_st_ag hag1 hso] at kk
  exact kk
end NS
