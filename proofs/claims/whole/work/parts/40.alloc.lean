/-! Making cells. The array classes' words that the printed names leave out, then the printed rows on new T[n][m], then constructors over the machine of cells. -/
def va_AOA (t : FieldType) (U : State) : Prop := (Cond.arrayOver (.array t)).before #[] U = true
theorem va_AOA.use {t : FieldType} {A : Array Value} {U : State} (h : va_AOA t U) : (Cond.arrayOver (.array t)).before A U = true := h
theorem va_AOA.moved {t : FieldType} {u U : State} (hvm : u.vm.Alike U.vm) (h : va_AOA t u) : va_AOA t U := by
  obtain ⟨comp, c, k, h1, h2, h3, h4, h5⟩ := arrayOverA_spec h
  obtain ⟨k', hk', he⟩ := hvm.2.2 _ _ h3
  have h2' := (va_idx_bare u.vm comp).trans h2
  have hb : u.vm.bare = U.vm.bare := by first | exact hvm.bare_eq | exact hvm.bare_eq.symm
  rw [hb] at h2'
  have hi := (va_idx_bare U.vm comp).symm.trans h2'
  have hkind : k'.kind = .array comp (.array t) := by rw [he]; exact h4
  have f1 : U.vm.findClass (FieldType.array t).toString = some comp := by rw [hvm.findClass]; exact h1
  have f2 : U.vm.findClass ("[" ++ (FieldType.array t).toString) = some c := by rw [hvm.findClass]; exact h5
  unfold va_AOA Cond.before Cond.holds
  simp only [Cond.value]
  rw [f1, Option.bind_some]
  refine (congrArg (fun o : Option Nat => (o.bind (fun c => (U.vm.classes[c]?).map fun (k : Class) => match k.kind with | .array _ ty => decide (ty = FieldType.array t) && decide (U.vm.findClass ("[" ++ (FieldType.array t).toString) = some c) | _ => false) == some true)) hi).trans ?_
  simp [hk', hkind, f2]
/-! ===== BEGIN new T[n][m]: the outer array a place, the inner ones among the pooled ===== -/
/-- f, but v at every address of l -/
def vr_up {α : Type} (f : Nat → α) (l : List Nat) (v : α) : Nat → α := fun a => if a ∈ l then v else f a
theorem vr_up_in {α : Type} {f : Nat → α} {l : List Nat} {v : α} {a : Nat} (h : a ∈ l) : vr_up f l v a = v := if_pos h
theorem vr_up_ne {α : Type} {f : Nat → α} {l : List Nat} {v : α} {a : Nat} (h : a ∉ l) : vr_up f l v a = f a := if_neg h
theorem vr_rows {L l : List Nat} {f : Nat → va_E} {e : va_E} (h : ∀ a, a ∈ l → a ∉ L) : va_pl L f ++ l.map (fun a => (a, e)) = va_pl (L ++ l) (vr_up f l e) := by
  unfold va_pl
  rw [List.map_append]
  congr 1
  · apply List.map_congr_left
    intro a ha
    rw [vr_up_ne (fun q => h a q ha)]
  · apply List.map_congr_left
    intro a ha
    rw [vr_up_in ha]
theorem vr_lay {X rows : va_W} {x : Nat × va_E} {pl : va_W} {D : va_G} {cl : List vw_C} {H : Heap} (hP : va_P D cl (((X ++ pl) ++ [x]) ++ rows) H) : va_P D cl ((X ++ [x]) ++ (pl ++ rows)) H := by
  rw [List.append_assoc (X ++ pl)] at hP
  have h := va_P.swap hP
  rw [← List.append_assoc X] at h
  have h2 := va_P.swap h
  rw [List.append_assoc (X ++ [x])] at h2
  exact h2
theorem vr_layD {X rows : va_W} {x : Nat × va_E} {pl : va_W} {A : Nat → Prop} (hD : va_D A (((X ++ pl) ++ [x]) ++ rows)) : va_D A ((X ++ [x]) ++ (pl ++ rows)) := by
  rw [List.append_assoc (X ++ pl)] at hD
  have h := va_D.swap hD
  rw [← List.append_assoc X] at h
  have h2 := va_D.swap h
  rw [List.append_assoc (X ++ [x])] at h2
  exact h2
theorem vr_outer (c : ClassId) (N h0 : Nat) : ∀ i : Nat, Jvm.Free.Multi.outerC c N h0 i = arrV c N (fun j => va_rf (if j < i then some (h0 + 1 + j) else none))
  | 0 => by
    show ({ cls := c, slots := Array.replicate N .null, vm := .none } : Cell) = _
    rw [arrV_new]
    refine congrArg (arrV c N) (funext fun j => ?_)
    simp [va_rf]
  | i + 1 => by
    show (Jvm.Free.Multi.outerC c N h0 i).setSlot i (.ref (h0 + 1 + i)) = _
    rw [vr_outer c N h0 i, arrV_store]
    refine congrArg (arrV c N) (funext fun j => ?_)
    by_cases e : j = i
    · subst e
      simp [updV, va_rf]
    · by_cases h : j < i
      · simp [updV, e, h, Nat.lt_succ_of_lt h]
      · simp [updV, e, h, show ¬ j < i + 1 by omega]
section VGM
variable {p : Program} {l : Launch} {e : Env} {R : Room} {s : State} {m : MethodId} {args : Array Value} {below : List Frame} {meth : Method} {c : Code} {H : Heap} {locs : List Loc} {cells slots : Nat} {Q : State → Prop}
variable {cc : ByteArray} {pc : Nat} {ls : Array Slot} {rest : List Value} {D : va_G} {cl : List vw_C} {A : Nat → Prop} {a : Nat} {tys : List (ClassId × FieldType)} {ws : va_W} {H0 : Heap}
theorem va_mna {X : va_W} {L : List Nat} {f : Nat → va_E} {cc : ByteArray} (hexec : p.tables.exec = Jvm.exec) (hb : c.code = cc) {own : String} {index : Nat} {ty : FieldType} {cy : ClassId} (hown : s.vm.findClass own = some m.cls) (hclink : (Cond.classLink own index ("[" ++ (FieldType.array ty).toString)).before args s = true) (hover : va_AOA ty s) (harr : (Cond.arrayClass ty).before args s = true) (hcy : s.vm.findClass (FieldType.array ty).toString = some cy)
    (hK : va_K D cl tys s) (hP : va_P D cl (X ++ va_pl L f) H) (hD : va_D A (X ++ va_pl L f)) (hS : va_S A H0 H locs) (hA : ∀ q, H0.size ≤ q → A q) {n k : Int32} {N' K' : Nat} {z : vp_A} (hn : ¬ n < 0) (hk : ¬ k < 0) (hN : n.toNatClampNeg = N') (hM : k.toNatClampNeg = K')
    (hb1 : N' * 4 ≤ 536870912) (hb2 : K' * componentBytes ty ≤ 536870912) (hb3 : K' ≤ 536870912) (hdf : fits ty (defaultValue ty) = true) (hdd : (defaultValue ty).isDefault = true) (hcells : cells + (1 + N') ≤ R.cells) (hslots : slots + (N' + N' * K') ≤ R.slots) (hz : ∀ c : ClassId, Jvm.Free.Multi.innerC c K' (defaultValue ty) = vp_cell c z) (hdg : decode cc pc = .ok (.multianewarray index 2, 4))
    (kk : ∀ (q : Nat) (r : Nat → Nat) (cA : ClassId) (H1 : Heap), (∀ i j : Nat, i < N' → j < N' → r i = r j → i = j) → (∀ i : Nat, i < N' → r i ∉ L) → va_K D cl (tys ++ [(cA, .array ty)]) s →
      va_P D cl ((X ++ [(q, .inl (cA, N', .inr (.inr (.inr (.inr (fun i => if i < N' then some (r i) else none))))))]) ++ va_pl (L ++ (List.range N').map r) (vr_up f ((List.range N').map r) (.inl (cy, z)))) H1 → va_D A ((X ++ [(q, .inl (cA, N', .inr (.inr (.inr (.inr (fun i => if i < N' then some (r i) else none))))))]) ++ va_pl (L ++ (List.range N').map r) (vr_up f ((List.range N').map r) (.inl (cy, z)))) → va_S A H0 H1 locs →
      W p l e R s m args below meth c H1 locs (cells + 1 + N') (slots + N' + N' * K') Q (F0 m (pc + 4) ls (.ref q :: rest))) : W p l e R s m args below meth c H locs cells slots Q (F0 m pc ls (.int k :: .int n :: rest)) := by
  subst hN
  subst hM
  intro T hT Xs
  obtain ⟨vm₁, cA, comp, -, fA, fC, hO, -, X', step⟩ := Xs.multianewarray2F hexec hown hclink (va_AOA.use hover) harr (g := F0 m pc ls (.int k :: .int n :: rest)) rfl (by rw [hb]; exact hdg) rfl hn hk hb1 hb2 hb3 hdf hdd hcells hslots
  have ec : some cy = some comp := hcy.symm.trans fC
  cases ec
  generalize hF : Jvm.Free.Multi.fill (T.setVm vm₁) cA cy n.toNatClampNeg k.toNatClampNeg (defaultValue ty) n.toNatClampNeg = F at X' step
  have hTh : (T.setVm vm₁).heap = H := hT
  obtain ⟨f1, f2, -, -⟩ := Jvm.Free.Multi.fill_facts (T.setVm vm₁) cA cy n.toNatClampNeg k.toNatClampNeg (defaultValue ty) n.toNatClampNeg
  rw [hF, hTh] at f1 f2
  have hold : ∀ x : Nat, x < H.size → F.heap[x]? = H[x]? := fun x hx => by
    have := Jvm.Free.Multi.fill_old (T.setVm vm₁) cA cy n.toNatClampNeg k.toNatClampNeg (defaultValue ty) (a := x) (by rw [hTh]; exact hx) n.toNatClampNeg
    rw [hF, hTh] at this
    exact this
  have hrow : ∀ j : Nat, j < n.toNatClampNeg → F.heap[H.size + 1 + j]? = some (vp_cell cy z) := fun j hj => by
    have := Jvm.Free.Multi.fill_inner (T.setVm vm₁) cA cy n.toNatClampNeg k.toNatClampNeg (defaultValue ty) n.toNatClampNeg j hj
    rw [hF, hTh, hz] at this
    exact this
  have hout : Jvm.Free.Multi.outerC cA n.toNatClampNeg H.size n.toNatClampNeg = vp_cell cA (n.toNatClampNeg, .inr (.inr (.inr (.inr (fun i => if i < n.toNatClampNeg then some (H.size + 1 + i) else none))))) := by
    rw [vp_cell_q]
    exact vr_outer cA n.toNatClampNeg H.size n.toNatClampNeg
  rw [hout] at f2
  have hlt : ∀ a, a ∈ L → a < H.size := fun a ha => by
    obtain ⟨k9, hk9⟩ := va_pl_get (X := X) (f := f) ha
    exact (hP k9 _ hk9).lt
  have hnl : ∀ i : Nat, i < n.toNatClampNeg → H.size + 1 + i ∉ L := fun i _ h => by
    have := hlt _ h
    omega
  have hnm : ∀ a, a ∈ (List.range n.toNatClampNeg).map (fun i => H.size + 1 + i) → a ∉ L := fun a ha h => by
    obtain ⟨i, -, rfl⟩ := List.mem_map.mp ha
    have := hlt _ h
    omega
  have hP0 : va_P D cl (X ++ va_pl L f) F.heap := hP.kept (fun k9 x hx => hold x.1 ((hP k9 x hx).lt))
  have hP1 : va_P D cl ((X ++ va_pl L f) ++ [(H.size, .inl (cA, n.toNatClampNeg, .inr (.inr (.inr (.inr (fun i => if i < n.toNatClampNeg then some (H.size + 1 + i) else none))))))]) F.heap := hP0.app (fun k9 x hx => by
    have h0 : k9 < 1 := (List.getElem?_eq_some_iff.mp hx).1
    rw [show k9 = 0 by omega] at hx
    cases hx
    exact f2)
  have hP2 : va_P D cl (((X ++ va_pl L f) ++ [(H.size, .inl (cA, n.toNatClampNeg, .inr (.inr (.inr (.inr (fun i => if i < n.toNatClampNeg then some (H.size + 1 + i) else none))))))]) ++ ((List.range n.toNatClampNeg).map (fun i => H.size + 1 + i)).map (fun a => (a, .inl (cy, z)))) F.heap := hP1.app (fun k9 x hx => by
    obtain ⟨a, ha, rfl⟩ := List.mem_map.mp (List.mem_of_getElem? hx)
    obtain ⟨i, hi, rfl⟩ := List.mem_map.mp ha
    exact hrow i (List.mem_range.mp hi))
  have hD2 : va_D A (((X ++ va_pl L f) ++ [(H.size, .inl (cA, n.toNatClampNeg, .inr (.inr (.inr (.inr (fun i => if i < n.toNatClampNeg then some (H.size + 1 + i) else none))))))]) ++ ((List.range n.toNatClampNeg).map (fun i => H.size + 1 + i)).map (fun a => (a, .inl (cy, z)))) := by
    have hD1 := hD.push (e := .inl (cA, n.toNatClampNeg, .inr (.inr (.inr (.inr (fun i => if i < n.toNatClampNeg then some (H.size + 1 + i) else none)))))) hP rfl (hA _ hS.1)
    generalize hW1 : (X ++ va_pl L f) ++ [(H.size, .inl (cA, n.toNatClampNeg, .inr (.inr (.inr (.inr (fun i => if i < n.toNatClampNeg then some (H.size + 1 + i) else none))))))] = W1 at hD1 hP1 ⊢
    have hle : ∀ (k9 : Nat) (x : Nat × va_E), W1[k9]? = some x → x.1 ≤ H.size := fun k9 x hx => by
      rw [← hW1] at hx
      by_cases hl : k9 < (X ++ va_pl L f).length
      · rw [List.getElem?_append_left hl] at hx
        exact Nat.le_of_lt ((hP k9 x hx).lt)
      · rw [List.getElem?_append_right (by omega)] at hx
        have h0 : k9 - (X ++ va_pl L f).length < 1 := (List.getElem?_eq_some_iff.mp hx).1
        rw [show k9 - (X ++ va_pl L f).length = 0 by omega] at hx
        cases hx
        exact Nat.le_refl _
    have hr : ∀ (k9 : Nat) (x : Nat × va_E), (((List.range n.toNatClampNeg).map (fun i => H.size + 1 + i)).map (fun a => ((a, .inl (cy, z)) : Nat × va_E)))[k9]? = some x → x.1 = H.size + 1 + k9 := fun k9 x hx => by
      rw [List.getElem?_map, List.getElem?_map] at hx
      by_cases h9 : k9 < n.toNatClampNeg
      · rw [List.getElem?_range h9] at hx
        cases hx
        rfl
      · have hn0 : (List.range n.toNatClampNeg)[k9]? = none := List.getElem?_eq_none (by rw [List.length_range]; omega)
        rw [hn0] at hx
        cases hx
    refine ⟨fun i j x y hi hj hxy => ?_, fun k9 x hx => ?_⟩
    · by_cases h1 : i < W1.length <;> by_cases h2 : j < W1.length
      · rw [List.getElem?_append_left h1] at hi
        rw [List.getElem?_append_left h2] at hj
        exact hD1.1 i j x y hi hj hxy
      · rw [List.getElem?_append_left h1] at hi
        rw [List.getElem?_append_right (by omega)] at hj
        have := hle _ _ hi
        have := hr _ _ hj
        omega
      · rw [List.getElem?_append_right (by omega)] at hi
        rw [List.getElem?_append_left h2] at hj
        have := hle _ _ hj
        have := hr _ _ hi
        omega
      · rw [List.getElem?_append_right (by omega)] at hi hj
        have := hr _ _ hi
        have := hr _ _ hj
        omega
    · by_cases h1 : k9 < W1.length
      · rw [List.getElem?_append_left h1] at hx
        exact hD1.2 k9 x hx
      · rw [List.getElem?_append_right (by omega)] at hx
        have := hr _ _ hx
        exact hA _ (by have := hS.1; omega)
  have hAr : ArrOfT s cA (.array ty) := fun N9 z9 => by
    obtain ⟨-, k9, hk9, cm9, hkk9⟩ := (hO 0 0 0).1
    exact ⟨(fun q hq => by cases hq), k9, hk9, cm9, hkk9⟩
  have hK2 : va_K D cl (tys ++ [(cA, .array ty)]) s := ⟨hK.1, fun k9 x hx => by
    by_cases hl : k9 < tys.length
    · rw [List.getElem?_append_left hl] at hx
      exact hK.2 k9 x hx
    · rw [List.getElem?_append_right (by omega)] at hx
      have h0 : k9 - tys.length < 1 := (List.getElem?_eq_some_iff.mp hx).1
      rw [show k9 - tys.length = 0 by omega] at hx
      cases hx
      exact ⟨hAr, fA⟩⟩
  obtain ⟨t, a1, b1⟩ := kk H.size (fun i => H.size + 1 + i) cA F.heap (fun i j _ _ h => by have h9 : H.size + 1 + i = H.size + 1 + j := h; omega) hnl hK2 (by rw [← vr_rows hnm]; exact vr_lay hP2) (by rw [← vr_rows hnm]; exact vr_layD hD2) ⟨by rw [f1]; have := hS.1; omega, fun x h1 h2 => (hold x (Nat.lt_of_lt_of_le h1 hS.1)).trans (hS.2.1 x h1 h2), hS.2.2⟩ F rfl X'
  refine ⟨t, step t ?_, b1⟩
  have e : T.heap.size = H.size := by rw [hT]
  rw [e]
  exact a1
end VGM
/-! ===== END ===== -/
abbrev zI : hI := fun _ _ => 0
abbrev zJ : hJ := fun _ _ => 0
/-- references go from cells to cells -/
def n_cl (n : Nat) (Rf : Nat → Nat → Option Nat) : Prop := ∀ k i x, Rf k i = some x → k < n ∧ x < n
def n_W (D : va_G) (cy : Nat → ClassId) (A : Nat → Prop) (s : State) (kd : List (Nat × Nat)) (α : Nat → Nat) (Rf : Nat → Nat → Option Nat) (H : Heap) (locs : List Loc) : Prop :=
  va_P D vwCl (h_w hFT kd cy α (zI, zJ, Rf)) H ∧ h_I kd.length α ∧ (∀ k, k < kd.length → A (α k)) ∧ va_S A s.heap H locs ∧ n_cl kd.length Rf
theorem n_cell_congr {cy : Nat → ClassId} {α α' : Nat → Nat} {Rf : Nat → Nat → Option Nat} {n k : Nat} (hc : n_cl n Rf) (hag : ∀ k, k < n → α' k = α k) (u : Nat × Nat) : h_cell hFT cy α' (zI, zJ, Rf) k u = h_cell hFT cy α (zI, zJ, Rf) k u := by
  have hm : ∀ i, (Rf k i).map α' = (Rf k i).map α := by
    intro i
    cases h : Rf k i with
    | none => rfl
    | some x => simp [hag x (hc k i x h).2]
  have hfs : ∀ l, h_fs α' (zI, zJ, Rf) k l = h_fs α (zI, zJ, Rf) k l := by
    intro l
    unfold h_fs
    congr 1
    funext q
    obtain ⟨t, i0⟩ := q
    match t with
    | 0 => rfl
    | 1 => rfl
    | t + 2 => simp [h_fv, hm]
  obtain ⟨u1, u2⟩ := u
  match u1 with
  | 0 => rfl
  | 1 => rfl
  | 2 => rfl
  | 3 => simp [h_cell, hm]
  | 4 => simp [h_cell, hm]
  | c + 5 => simp [h_cell, hfs]
theorem n_w_congr {cy : Nat → ClassId} {α α' : Nat → Nat} {Rf : Nat → Nat → Option Nat} {kd : List (Nat × Nat)} (hc : n_cl kd.length Rf) (hag : ∀ k, k < kd.length → α' k = α k) : h_w hFT kd cy α' (zI, zJ, Rf) = h_w hFT kd cy α (zI, zJ, Rf) := by
  apply List.ext_getElem?
  intro j
  cases hu : kd[j]? with
  | none => simp [h_w, List.getElem?_zipIdx, hu]
  | some u =>
    have hj : j < kd.length := (List.getElem?_eq_some_iff.mp hu).1
    rw [h_w_at hu, h_w_at hu, hag j hj, n_cell_congr hc hag]
theorem h_w_snoc {cy : Nat → ClassId} {α : Nat → Nat} {M : hMem} {kd : List (Nat × Nat)} {u : Nat × Nat} : h_w hFT (kd ++ [u]) cy α M = h_w hFT kd cy α M ++ [(α kd.length, h_cell hFT cy α M kd.length u)] := by
  simp [h_w, List.zipIdx_append]
def n_up (α : Nat → Nat) (n q : Nat) : Nat → Nat := fun k => if k = n then q else α k
theorem n_up_ag {α : Nat → Nat} {n q : Nat} : ∀ k, k < n → n_up α n q k = α k := fun k hk => by simp [n_up, Nat.ne_of_lt hk]
theorem n_up_at {α : Nat → Nat} {n q : Nat} : n_up α n q n = q := by simp [n_up]
/-- one cell more -/
theorem n_grow {D : va_G} {cy : Nat → ClassId} {A : Nat → Prop} {s : State} {kd : List (Nat × Nat)} {α : Nat → Nat} {Rf : Nat → Nat → Option Nat} {H H1 : Heap} {locs : List Loc} {q : Nat} {u : Nat × Nat} {e : va_E} (hw : n_W D cy A s kd α Rf H locs)
    (he : h_cell hFT cy (n_up α kd.length q) (zI, zJ, Rf) kd.length u = e) (hP : va_P D vwCl (h_w hFT kd cy α (zI, zJ, Rf) ++ [(q, e)]) H1) (hD : va_D A (h_w hFT kd cy α (zI, zJ, Rf) ++ [(q, e)])) (hS : va_S A s.heap H1 locs) : n_W D cy A s (kd ++ [u]) (n_up α kd.length q) Rf H1 locs := by
  have h1 : h_w hFT (kd ++ [u]) cy (n_up α kd.length q) (zI, zJ, Rf) = h_w hFT kd cy α (zI, zJ, Rf) ++ [(q, e)] := by
    rw [h_w_snoc, n_w_congr hw.2.2.2.2 n_up_ag, n_up_at, he]
  have hl : (kd ++ [u]).length = kd.length + 1 := by simp
  refine ⟨by rw [h1]; exact hP, ?_, ?_, hS, ?_⟩
  · rw [hl]
    rw [← h1] at hD
    intro i j hi hj hij
    have g : ∀ i, i < kd.length + 1 → ∃ x, (h_w hFT (kd ++ [u]) cy (n_up α kd.length q) (zI, zJ, Rf))[i]? = some (n_up α kd.length q i, x) := fun i hi => ⟨_, h_w_at (List.getElem?_eq_getElem (by rw [hl]; exact hi))⟩
    obtain ⟨x, hx⟩ := g i hi
    obtain ⟨y, hy⟩ := g j hj
    exact hD.1 i j _ _ hx hy hij
  · intro k hk
    rw [← h1] at hD
    exact hD.2 k _ (h_w_at (List.getElem?_eq_getElem hk))
  · intro k i x h
    have := hw.2.2.2.2 k i x h
    rw [hl]
    omega
def n_ok (n : Nat) : Value → Prop
  | .ref k => k < n
  | _ => True
theorem n_v_ag {α α' : Nat → Nat} {n : Nat} (hag : ∀ k, k < n → α' k = α k) {v : Value} (h : n_ok n v) : h_v α' v = h_v α v := by
  cases v <;> first | rfl | exact congrArg Value.ref (hag _ h)
theorem n_st_ag {α α' : Nat → Nat} {n : Nat} (hag : ∀ k, k < n → α' k = α k) {st : List Value} (h : ∀ v ∈ st, n_ok n v) : st.map (h_v α') = st.map (h_v α) := List.map_congr_left (fun v hv => n_v_ag hag (h v hv))
theorem n_lv_ag {α α' : Nat → Nat} {n : Nat} (hag : ∀ k, k < n → α' k = α k) {lv : List (Nat × Value)} (h : ∀ q ∈ lv, n_ok n q.2) : lv.map (fun q => (q.1, h_v α' q.2)) = lv.map (fun q => (q.1, h_v α q.2)) := List.map_congr_left (fun q hq => by rw [n_v_ag hag (h q hq)])
def n_X (s : State) : Prop := h_Nw s ∧ va_AO "CoinLoops$Step" s ∧ va_AOA .long s
theorem n_X_warm {s U : State} (hW : s.WarmedH U.vm) (h : n_X s) : n_X U := ⟨h_Nw_warm hW h.1, h.2.1.moved hW.alike, h.2.2.moved hW.alike⟩
theorem n_X_same {s U : State} (hW : s.vm = U.vm) (h : n_X s) : n_X U := ⟨h_Nw_same hW h.1, h.2.1.moved (hW ▸ Vm.Alike.refl s.vm), h.2.2.moved (hW ▸ Vm.Alike.refl s.vm)⟩
/-- what a constructor leaves -/
def n_Q (kd kd' : List (Nat × Nat)) (cy : Nat → ClassId) (α : Nat → Nat) (D : va_G) (A : Nat → Prop) (R' : Nat → Nat → Option Nat) : Array Value → State → Outcome → State → Prop :=
  fun _ st oc t => (oc = .returned none ∧ ∃ α' : Nat → Nat, (∀ k, k < kd.length → α' k = α k) ∧ h_I kd'.length α' ∧ (∀ k, k < kd'.length → A (α' k)) ∧ va_P D vwCl (h_w hFT kd' cy α' (zI, zJ, R')) t.heap ∧ n_cl kd'.length R') ∧ va_F A st t
def n_C (cc : ByteArray) (nL : Nat) (own : String) (d : Nat) (p : Program) (R : Room) (s : State) (m : MethodId) (args : Array Value) (meth : Method) (c : Code) (D : va_G) (cy : Nat → ClassId) (A : Nat → Prop) : Prop :=
  p.tables.exec = Jvm.exec ∧ c.code = cc ∧ c.maxLocals = nL ∧ s.vm.findClass own = some m.cls ∧ (∀ w ∈ h_T, w.before args s = true) ∧ meth.sig.returnType = none ∧ meth.locks = false ∧ n_X s ∧ va_K D vwCl (hTys cy) s ∧ (d ≤ R.frames ∧ d * 64 ≤ R.locals) ∧ (∀ q, s.heap.size ≤ q → A q) ∧ meth.name = "<init>"
def NW (cc : ByteArray) (nL : Nat) (own : String) (kd0 : List (Nat × Nat)) (d : Nat) (kd : List (Nat × Nat)) (Rf : Nat → Nat → Option Nat) (mc ms : Nat) (lv : List (Nat × Value)) (pc : Nat) (st : List Value) (kd' : List (Nat × Nat)) (R' : Nat → Nat → Option Nat) (mc' ms' : Nat) : Prop :=
  ∀ (p : Program) (l : Launch) (e : Env) (R : Room) (s : State) (m : MethodId) (args : Array Value) (below : List Frame) (meth : Method) (c : Code) (H : Heap) (ls : Array Slot) (locs : List Loc) (α0 α : Nat → Nat) (D : va_G) (cy : Nat → ClassId) (A : Nat → Prop),
    n_C cc nL own d p R s m args meth c D cy A → n_W D cy A s kd α Rf H locs → (kd0.length ≤ kd.length ∧ ∀ k, k < kd0.length → α k = α0 k) → (mc' ≤ R.cells ∧ ms' ≤ R.slots) → lv_has ls nL (lv.map (fun q => (q.1, h_v α q.2))) →
    W p l e R s m args below meth c H locs mc ms (MQ below (n_Q kd0 kd' cy α0 D A R') args s mc' ms' A) (F0 m pc ls (st.map (h_v α)))
def NMet (y : MethodName) (cc : ByteArray) (nL d : Nat) (kd : List (Nat × Nat)) (av : List Value) (Rf : Nat → Nat → Option Nat) (kd' : List (Nat × Nat)) (R' : Nat → Nat → Option Nat) (mc ms : Nat) : Prop :=
  ∀ (l : Launch) (α : Nat → Nat) (D : va_G) (cy : Nat → ClassId) (sz : Nat), h_I kd.length α → n_cl kd.length Rf → Met l y (.code y cc nL none :: h_T) { frames := d, cells := mc, slots := ms, locals := d * 64 }
    (va_Pc (av.map (h_v α)) (fun U => U.heap.size = sz ∧ va_P D vwCl (h_w hFT kd cy α (zI, zJ, Rf)) U.heap ∧ va_K D vwCl (hTys cy) U ∧ n_X U))
    (n_Q kd kd' cy α D (h_A kd.length α sz) R') mc ms (h_A kd.length α sz)
theorem NMet.of {y : MethodName} {cc : ByteArray} {nL d : Nat} {kd kd' : List (Nat × Nat)} {av : List Value} {Rf R' : Nat → Nat → Option Nat} {mc ms : Nat} (hy : plainName y.cls = true) (hyn : y.name = "<init>") (hn : (lg_sl av).length ≤ nL) (h : NW cc nL y.cls kd d kd Rf 0 0 (lv_args 0 av) 0 [] kd' R' mc ms) : NMet y cc nL d kd av Rf kd' R' mc ms := by
  intro l α D cy sz hI hcl
  refine Met.ofW (cc := cc) (maxL := nL) (ret := none) hy rfl ?_
  intro p e s m args below meth c s₁ B hml hv
  obtain ⟨rfl, hsz, hP, hK, hN⟩ := hv
  have hl := lv_entry (av.map (h_v α)) (n := nL) (by rw [h_sl_len]; exact hn)
  rw [lg_entry_eq]
  generalize (lg_sl (av.map (h_v α)) ++ List.replicate (nL - (lg_sl (av.map (h_v α))).length) Slot.unset).toArray = ls at hl ⊢
  rw [h_args] at hl
  have hts := atoms_spec (ws := (.code y cc nL none :: h_T)) B.pre
  have hown : s.vm.findClass y.cls = some m.cls := findClass_of_methodNamed B.named
  have hin : meth.name = "<init>" := by rw [← hyn]; exact (name_of_methodNamed B.named B.method).1
  subst hsz
  exact h p l e _ s m _ below meth c s.heap ls [] α α D cy (h_A kd.length α s.heap.size) ⟨B.exec, B.bytes, hml, hown, fun w hw => hts w (List.mem_cons_of_mem _ hw), B.returns, B.notSynchronized, hN, hK, ⟨Nat.le_refl _, Nat.le_refl _⟩, fun q hq => Or.inr hq, hin⟩ ⟨hP, hI, fun k hk => Or.inl ⟨k, hk, rfl⟩, va_S.rf, hcl⟩ ⟨Nat.le_refl _, fun _ _ => rfl⟩ ⟨Nat.le_refl _, Nat.le_refl _⟩ hl
section NR
variable {cc : ByteArray} {nL : Nat} {own : String} {kd0 : List (Nat × Nat)} {d : Nat} {kd : List (Nat × Nat)} {Rf : Nat → Nat → Option Nat} {mc ms : Nat} {lv : List (Nat × Value)} {pc : Nat} {st : List Value} {kd' : List (Nat × Nat)} {R' : Nat → Nat → Option Nat} {mc' ms' : Nat}
theorem n_iconst {n : Int} {v : Int32} (hd : decode cc pc = .ok (.iconst n, 1)) (hv : Int32.ofInt n = v) (k : NW cc nL own kd0 d kd Rf mc ms lv (pc + 1) (.int v :: st) kd' R' mc' ms') : NW cc nL own kd0 d kd Rf mc ms lv pc st kd' R' mc' ms' := by
  intro p l e R s m args below meth c H ls locs α0 α D cy A hC hw hag hr hl
  exact lv_iconst hC.1 hC.2.1 hd hv (k p l e R s m args below meth c H ls locs α0 α D cy A hC hw hag hr hl)
theorem n_bipush {n : Int} {v : Int32} (hd : decode cc pc = .ok (.bipush n, 2)) (hv : (Int8.ofInt n).toInt32 = v) (k : NW cc nL own kd0 d kd Rf mc ms lv (pc + 2) (.int v :: st) kd' R' mc' ms') : NW cc nL own kd0 d kd Rf mc ms lv pc st kd' R' mc' ms' := by
  intro p l e R s m args below meth c H ls locs α0 α D cy A hC hw hag hr hl
  exact lv_bipush hC.1 hC.2.1 hd hv (k p l e R s m args below meth c H ls locs α0 α D cy A hC hw hag hr hl)
theorem n_sipush {n : Int} {v : Int32} (hd : decode cc pc = .ok (.sipush n, 3)) (hv : (Int16.ofInt n).toInt32 = v) (k : NW cc nL own kd0 d kd Rf mc ms lv (pc + 3) (.int v :: st) kd' R' mc' ms') : NW cc nL own kd0 d kd Rf mc ms lv pc st kd' R' mc' ms' := by
  intro p l e R s m args below meth c H ls locs α0 α D cy A hC hw hag hr hl
  exact lv_sipush hC.1 hC.2.1 hd hv (k p l e R s m args below meth c H ls locs α0 α D cy A hC hw hag hr hl)
theorem n_iload_n {k0 : Fin 4} {i : Nat} {x : Int32} (hd : decode cc pc = .ok (.iload_n k0, 1)) (hi : (k0 : Nat) = i) (hg : lv.find? (fun q => q.1 == i) = some (i, .int x)) (k : NW cc nL own kd0 d kd Rf mc ms lv (pc + 1) (.int x :: st) kd' R' mc' ms') : NW cc nL own kd0 d kd Rf mc ms lv pc st kd' R' mc' ms' := by
  intro p l e R s m args below meth c H ls locs α0 α D cy A hC hw hag hr hl
  exact lv_iload_n hC.1 hC.2.1 hd hi (h_ld hl hg) (k p l e R s m args below meth c H ls locs α0 α D cy A hC hw hag hr hl)
theorem n_aload_n {k0 : Fin 4} {i : Nat} {x : Nat} (hd : decode cc pc = .ok (.aload_n k0, 1)) (hi : (k0 : Nat) = i) (hg : lv.find? (fun q => q.1 == i) = some (i, .ref x)) (k : NW cc nL own kd0 d kd Rf mc ms lv (pc + 1) (.ref x :: st) kd' R' mc' ms') : NW cc nL own kd0 d kd Rf mc ms lv pc st kd' R' mc' ms' := by
  intro p l e R s m args below meth c H ls locs α0 α D cy A hC hw hag hr hl
  exact lv_aload_n hC.1 hC.2.1 hd hi (h_ld hl hg) (k p l e R s m args below meth c H ls locs α0 α D cy A hC hw hag hr hl)
theorem n_istore_n {k0 : Fin 4} {i : Nat} {x : Int32} {lv' : List (Nat × Value)} (hd : decode cc pc = .ok (.istore_n k0, 1)) (hi : (k0 : Nat) = i) (hn : i < nL) (hv : h_s1 i (.int x) lv = lv') (k : NW cc nL own kd0 d kd Rf mc ms lv' (pc + 1) st kd' R' mc' ms') : NW cc nL own kd0 d kd Rf mc ms lv pc (.int x :: st) kd' R' mc' ms' := by
  intro p l e R s m args below meth c H ls locs α0 α D cy A hC hw hag hr hl
  subst hv
  exact lv_istore_n hC.1 hC.2.1 hd hi hl hn (h_s1_map α i (.int x) lv) (fun ls hl => k p l e R s m args below meth c H ls locs α0 α D cy A hC hw hag hr hl)
theorem n_iinc {i : Nat} {n : Int} {x v : Int32} {lv' : List (Nat × Value)} (hd : decode cc pc = .ok (.iinc i n, 3)) (hg : lv.find? (fun q => q.1 == i) = some (i, .int x)) (hx : x + Int32.ofInt n = v) (hn : i < nL) (hv : h_s1 i (.int v) lv = lv') (k : NW cc nL own kd0 d kd Rf mc ms lv' (pc + 3) st kd' R' mc' ms') : NW cc nL own kd0 d kd Rf mc ms lv pc st kd' R' mc' ms' := by
  intro p l e R s m args below meth c H ls locs α0 α D cy A hC hw hag hr hl
  subst hv
  obtain ⟨j, hj⟩ := List.getElem?_of_mem (List.mem_of_find?_eq_some hg)
  exact lv_iinc (k := j) hC.1 hC.2.1 hd hl (by rw [List.getElem?_map, hj]; rfl) hx hn (h_s1_map α i (.int v) lv) (fun ls hl => k p l e R s m args below meth c H ls locs α0 α D cy A hC hw hag hr hl)
theorem n_dup {v : Value} (hd : decode cc pc = .ok (.dup, 1)) (hc : v.category = 1) (k : NW cc nL own kd0 d kd Rf mc ms lv (pc + 1) (v :: v :: st) kd' R' mc' ms') : NW cc nL own kd0 d kd Rf mc ms lv pc (v :: st) kd' R' mc' ms' := by
  intro p l e R s m args below meth c H ls locs α0 α D cy A hC hw hag hr hl
  exact lv_dup hC.1 hC.2.1 hd (by rw [h_v_cat]; exact hc) (k p l e R s m args below meth c H ls locs α0 α D cy A hC hw hag hr hl)
theorem n_goto {off : Int} {tgt : Nat} (hd : decode cc pc = .ok (.goto off, 3)) (ht : (pc : Int) + off = (tgt : Int)) (k : NW cc nL own kd0 d kd Rf mc ms lv tgt st kd' R' mc' ms') : NW cc nL own kd0 d kd Rf mc ms lv pc st kd' R' mc' ms' := by
  intro p l e R s m args below meth c H ls locs α0 α D cy A hC hw hag hr hl
  exact lv_goto hC.1 hC.2.1 hd ht (k p l e R s m args below meth c H ls locs α0 α D cy A hC hw hag hr hl)
theorem n_icmp_ge {x y : Int32} {off : Int} {tgt : Nat} (hd : decode cc pc = .ok (.if_icmp .ge off, 3)) (ht : (pc : Int) + off = (tgt : Int)) (kt : y ≤ x → NW cc nL own kd0 d kd Rf mc ms lv tgt st kd' R' mc' ms') (kf : ¬ y ≤ x → NW cc nL own kd0 d kd Rf mc ms lv (pc + 3) st kd' R' mc' ms') : NW cc nL own kd0 d kd Rf mc ms lv pc (.int y :: .int x :: st) kd' R' mc' ms' := by
  intro p l e R s m args below meth c H ls locs α0 α D cy A hC hw hag hr hl
  exact lv_icmp_ge hC.1 hC.2.1 hd ht (fun h => kt h p l e R s m args below meth c H ls locs α0 α D cy A hC hw hag hr hl) (fun h => kf h p l e R s m args below meth c H ls locs α0 α D cy A hC hw hag hr hl)
theorem n_sub {lv' : List (Nat × Value)} (ks : List Nat) (hs : lv_pick lv ks = lv') (k : NW cc nL own kd0 d kd Rf mc ms lv' pc st kd' R' mc' ms') : NW cc nL own kd0 d kd Rf mc ms lv pc st kd' R' mc' ms' := by
  intro p l e R s m args below meth c H ls locs α0 α D cy A hC hw hag hr hl
  refine k p l e R s m args below meth c H ls locs α0 α D cy A hC hw hag hr (lv_sub hl ks ?_)
  subst hs
  simp only [lv_pick, List.getElem?_map, List.map_filterMap]
theorem n_objInit {idx x : Nat} (hl0 : Cond.methodLink own idx Lib.objectInit ∈ h_T) (hl1 : Cond.instanceMethod Lib.objectInit ∈ h_T) (hl2 : Cond.code Lib.objectInit ⟨#[0xb1]⟩ 1 none ∈ h_T) (hw8 : (st.map fun v => v.category).sum ≤ 8) (h1 : 1 ≤ d) (hd : decode cc pc = .ok (.invokespecial idx, 3)) (k : NW cc nL own kd0 d kd Rf mc ms lv (pc + 3) st kd' R' mc' ms') : NW cc nL own kd0 d kd Rf mc ms lv pc (.ref x :: st) kd' R' mc' ms' := by
  intro p l e R s m args below meth c H ls locs α0 α D cy A hC hw hag hr hl
  have hR := hC.2.2.2.2.2.2.2.2.2.1
  have hc8 := h_cats (α := α) hw8
  have hR1 := hR.1
  have hR2 := hR.2
  exact W.objInit hC.1 hC.2.1 hC.2.2.2.1 (hC.2.2.2.2.1 _ hl0) (hC.2.2.2.2.1 _ hl1) (hC.2.2.2.2.1 _ hl2) rfl (by rw [hC.2.2.1]; exact hl.1) rfl hd (by omega) (by have := lv_room (m := m) (pc := pc) (ls := ls) (rest := (Value.ref x :: st).map (h_v α)) hc8; omega) (k p l e R s m args below meth c H ls locs α0 α D cy A hC hw hag hr hl)
theorem n_ret (hd : decode cc pc = .ok (.return_, 1)) (hcl : mc = mc' ∧ ms = ms' ∧ kd = kd' ∧ Rf = R') : NW cc nL own kd0 d kd Rf mc ms lv pc [] kd' R' mc' ms' := by
  intro p l e R s m args below meth c H ls locs α0 α D cy A hC hw hag hr hl
  obtain ⟨rfl, rfl, rfl, rfl⟩ := hcl
  exact W.vret hC.1 hC.2.1 hC.2.2.2.2.2.1 (fun t ht hW => ⟨⟨rfl, α, hag.2, hw.2.1, hw.2.2.1, by rw [ht]; exact hw.1, hw.2.2.2.2⟩, hw.2.2.2.1.F ht⟩) hw.2.2.2.1.2.2 hd hC.2.2.2.2.2.2.1
theorem n_cl_u {n a i x : Nat} (hc : n_cl n Rf) (ha : a < n) (hx : x < n) : n_cl n (h_u Rf a i (some x)) := by
  intro k j y h
  unfold h_u at h
  by_cases h1 : k = a
  · subst h1
    by_cases h2 : j = i
    · simp [h2] at h
      exact ⟨ha, by omega⟩
    · simp [h2] at h
      exact hc _ _ _ h
  · simp [h1] at h
    exact hc _ _ _ h
theorem n_putF {ci a i z idx N x : Nat} {C : String} {T : u_T} {ty : Nat → FieldType} (hK : h_K hFT ci C T N ty) (hk : kd[a]? = some (ci + 5, z)) (hx : x < kd.length) (hi : (hFT ci)[i]? = some 2) (hwd : Cond.fieldLink own idx C (T i).2.1 (T i).2.2.1 ∈ h_T) (hC0 : (T i).1 = C) (hf : (T i).2.2.2 = true) (hown : C = own) (hn : ∀ q, narrow (ty i) (.ref q) = .ref q ∧ fits (ty i) (.ref q) = true) (hd : decode cc pc = .ok (.putfield idx, 3)) (k : NW cc nL own kd0 d kd (h_u Rf a i (some x)) mc ms lv (pc + 3) st kd' R' mc' ms') : NW cc nL own kd0 d kd Rf mc ms lv pc (.ref x :: .ref a :: st) kd' R' mc' ms' := by
  intro p l e R s m args below meth c H ls locs α0 α D cy A hC hw hag hr hl
  have hiN : i < N := by rw [← hK.2.2.2.2]; exact (List.getElem?_eq_some_iff.mp hi).1
  have hD := h_wD (FT := hFT) (cy := cy) (zI, zJ, Rf) hw.2.1 hw.2.2.1
  refine va_putF (ci := ci) (v := .ref (α x)) (ty := ty i) hC.1 hC.2.1 hC.2.2.2.2.1 hK.2.1 ty hK.2.2.1 hK.2.2.2.1 hC.2.2.2.1 hC.2.2.2.2.2.2.2.2.1 hw.1 hD hw.2.2.2.1 a (h_w_at hk) hK.1 i hiN (hC.2.2.2.2.1 _ hwd) (fun x hx => by rw [hC0] at hx; exact hx) hf hC.2.2.2.2.2.2.2.2.2.2.2 (by rw [hC0]; exact hown) (hK.2.2.1 i hiN) (hn _).1 (hn _).2 (by rw [h_fs_len, hK.2.2.2.2]; exact hiN) hd (fun H locs hP1 _ hS => ?_)
  have e1 : (h_w hFT kd cy α (zI, zJ, Rf)).set a (α a, .inr (ci, (h_fs α (zI, zJ, Rf) a (hFT ci)).set i (.ref (α x)))) = h_w hFT kd cy α (zI, zJ, h_u Rf a i (some x)) := h_w_set hk (by show Sum.inr (ci, h_fs α (zI, zJ, h_u Rf a i (some x)) a (hFT ci)) = _; rw [h_fs_set (M' := (zI, zJ, h_u Rf a i (some x))) hi (by simp [h_fv, h_u, va_rf]) (h_fldR (M := (zI, zJ, Rf)))]) (h_offR (M := (zI, zJ, Rf)))
  rw [e1] at hP1
  exact k p l e R s m args below meth c H ls locs α0 α D cy A hC ⟨hP1, hw.2.1, hw.2.2.1, hS, n_cl_u hw.2.2.2.2 (List.getElem?_eq_some_iff.mp hk).1 hx⟩ hag hr hl
theorem n_putR {ci a i z idx N x : Nat} {C : String} {T : u_T} {ty : Nat → FieldType} (hK : h_K hFT ci C T N ty) (hk : kd[a]? = some (ci + 5, z)) (hx : x < kd.length) (hi : (hFT ci)[i]? = some 2) (hwd : Cond.fieldLink own idx C (T i).2.1 (T i).2.2.1 ∈ h_T) (hC0 : (T i).1 = C) (hf : (T i).2.2.2 = false) (hn : ∀ q, narrow (ty i) (.ref q) = .ref q ∧ fits (ty i) (.ref q) = true) (hd : decode cc pc = .ok (.putfield idx, 3)) (k : NW cc nL own kd0 d kd (h_u Rf a i (some x)) mc ms lv (pc + 3) st kd' R' mc' ms') : NW cc nL own kd0 d kd Rf mc ms lv pc (.ref x :: .ref a :: st) kd' R' mc' ms' := by
  intro p l e R s m args below meth c H ls locs α0 α D cy A hC hw hag hr hl
  have hiN : i < N := by rw [← hK.2.2.2.2]; exact (List.getElem?_eq_some_iff.mp hi).1
  have hD := h_wD (FT := hFT) (cy := cy) (zI, zJ, Rf) hw.2.1 hw.2.2.1
  refine va_put (ci := ci) (v := .ref (α x)) (ty := ty i) hC.1 hC.2.1 hC.2.2.2.2.1 hK.2.1 ty hK.2.2.1 hK.2.2.2.1 hC.2.2.2.1 hC.2.2.2.2.2.2.2.2.1 hw.1 hD hw.2.2.2.1 a (h_w_at hk) hK.1 i hiN (hC.2.2.2.2.1 _ hwd) (fun x hx => by rw [hC0] at hx; exact hx) hf (hK.2.2.1 i hiN) (hn _).1 (hn _).2 (by rw [h_fs_len, hK.2.2.2.2]; exact hiN) hd (fun H locs hP1 _ hS => ?_)
  have e1 : (h_w hFT kd cy α (zI, zJ, Rf)).set a (α a, .inr (ci, (h_fs α (zI, zJ, Rf) a (hFT ci)).set i (.ref (α x)))) = h_w hFT kd cy α (zI, zJ, h_u Rf a i (some x)) := h_w_set hk (by show Sum.inr (ci, h_fs α (zI, zJ, h_u Rf a i (some x)) a (hFT ci)) = _; rw [h_fs_set (M' := (zI, zJ, h_u Rf a i (some x))) hi (by simp [h_fv, h_u, va_rf]) (h_fldR (M := (zI, zJ, Rf)))]) (h_offR (M := (zI, zJ, Rf)))
  rw [e1] at hP1
  exact k p l e R s m args below meth c H ls locs α0 α D cy A hC ⟨hP1, hw.2.1, hw.2.2.1, hS, n_cl_u hw.2.2.2.2 (List.getElem?_eq_some_iff.mp hk).1 hx⟩ hag hr hl
theorem n_getR {ci a i z idx N b : Nat} {C : String} {T : u_T} {ty : Nat → FieldType} (hK : h_K hFT ci C T N ty) (hk : kd[a]? = some (ci + 5, z)) (hi : (hFT ci)[i]? = some 2) (hwd : Cond.fieldLink own idx C (T i).2.1 (T i).2.2.1 ∈ h_T) (hC0 : (T i).1 = C) (ho : Rf a i = some b) (hd : decode cc pc = .ok (.getfield idx, 3)) (k : NW cc nL own kd0 d kd Rf mc ms lv (pc + 3) (.ref b :: st) kd' R' mc' ms') : NW cc nL own kd0 d kd Rf mc ms lv pc (.ref a :: st) kd' R' mc' ms' := by
  intro p l e R s m args below meth c H ls locs α0 α D cy A hC hw hag hr hl
  have hiN : i < N := by rw [← hK.2.2.2.2]; exact (List.getElem?_eq_some_iff.mp hi).1
  have hv : h_fv α (zI, zJ, Rf) a i 2 = .ref (α b) := by simp [h_fv, ho, va_rf]
  exact va_get (ci := ci) (v := .ref (α b)) hC.1 hC.2.1 hC.2.2.2.2.1 hK.2.1 hC.2.2.2.1 hC.2.2.2.2.2.2.2.2.1 hw.1 a (h_w_at hk) hK.1 i hiN (hC.2.2.2.2.1 _ hwd) (fun x hx => by rw [hC0] at hx; exact hx) (by rw [← hv]; exact h_fs_at hi) hd (k p l e R s m args below meth c H ls locs α0 α D cy A hC hw hag hr hl)
/-- the walk behind a new cell -/
theorem n_after {p : Program} {l : Launch} {e : Env} {R : Room} {s : State} {m : MethodId} {args : Array Value} {below : List Frame} {meth : Method} {c : Code} {H1 : Heap} {ls : Array Slot} {locs : List Loc} {α0 α : Nat → Nat} {D : va_G} {cy : Nat → ClassId} {A : Nat → Prop} {q : Nat} {u : Nat × Nat} {mc2 ms2 pc2 : Nat}
    (hC : n_C cc nL own d p R s m args meth c D cy A) (hag : kd0.length ≤ kd.length ∧ ∀ k, k < kd0.length → α k = α0 k) (hr : mc' ≤ R.cells ∧ ms' ≤ R.slots) (hl : lv_has ls nL (lv.map (fun q => (q.1, h_v α q.2)))) (hlo : ∀ q ∈ lv, n_ok kd.length q.2) (hso : ∀ v ∈ st, n_ok kd.length v) (hw1 : n_W D cy A s (kd ++ [u]) (n_up α kd.length q) Rf H1 locs)
    (k : NW cc nL own kd0 d (kd ++ [u]) Rf mc2 ms2 lv pc2 (.ref kd.length :: st) kd' R' mc' ms') : W p l e R s m args below meth c H1 locs mc2 ms2 (MQ below (n_Q kd0 kd' cy α0 D A R') args s mc' ms' A) (F0 m pc2 ls (.ref q :: st.map (h_v α))) := by
  have hg := n_up_ag (α := α) (n := kd.length) (q := q)
  have kk := k p l e R s m args below meth c H1 ls locs α0 (n_up α kd.length q) D cy A hC hw1 ⟨by simp; omega, fun j hj => (hg j (by omega)).trans (hag.2 j hj)⟩ hr (by rw [n_lv_ag hg hlo]; exact hl)
  have e1 : (Value.ref kd.length :: st).map (h_v (n_up α kd.length q)) = .ref q :: st.map (h_v α) := by
    rw [List.map_cons, n_st_ag hg hso]
    simp [h_v, n_up_at]
  rw [e1] at kk
  exact kk
theorem n_dflt {α : Nat → Nat} {n : Nat} {kd1 : List (Nat × Nat)} (hc : n_cl kd1.length Rf) (hn : kd1.length ≤ n) (l : List Nat) : h_fs α (zI, zJ, Rf) n l = l.map (fun t => if t = 0 then .int 0 else if t = 1 then .long 0 else .null) := by
  have hnone : ∀ i, Rf n i = none := by
    intro i
    cases h : Rf n i with
    | none => rfl
    | some x => have := (hc n i x h).1; omega
  unfold h_fs
  apply List.ext_getElem?
  intro j
  simp only [List.getElem?_map, List.getElem?_zipIdx]
  cases l[j]? with
  | none => rfl
  | some t =>
    match t with
    | 0 => simp [h_fv]
    | 1 => simp [h_fv]
    | t + 2 => simp [h_fv, hnone, va_rf]
theorem n_new {ci idx N : Nat} {C : String} {T : u_T} {ty : Nat → FieldType} (hK : h_K hFT ci C T N ty) (hdv : ∀ j, j < N → defaultValue (ty j) = vp_V ((hFT ci).map (fun t => if t = 0 then .int 0 else if t = 1 then .long 0 else .null)) j) (h1 : Cond.classLink own idx C ∈ h_T) (h2 : Cond.instantiable C N ∈ h_T) (h3 : Cond.initialized C ∈ h_T) (hmc : mc + 1 ≤ mc') (hms : ms + N ≤ ms') (hlo : ∀ q ∈ lv, n_ok kd.length q.2) (hso : ∀ v ∈ st, n_ok kd.length v) (hd : decode cc pc = .ok (.new idx, 3)) (k : NW cc nL own kd0 d (kd ++ [(ci + 5, 0)]) Rf (mc + 1) (ms + N) lv (pc + 3) (.ref kd.length :: st) kd' R' mc' ms') : NW cc nL own kd0 d kd Rf mc ms lv pc st kd' R' mc' ms' := by
  intro p l e R s m args below meth c H ls locs α0 α D cy A hC hw hag hr hl
  have hD := h_wD (FT := hFT) (cy := cy) (zI, zJ, Rf) hw.2.1 hw.2.2.1
  refine va_new (ci := ci) (fs := (hFT ci).map (fun t => if t = 0 then .int 0 else if t = 1 then .long 0 else .null)) hC.1 hC.2.1 hC.2.2.2.2.1 hK.2.1 ty hK.2.2.1 hC.2.2.2.1 (hC.2.2.2.2.1 _ h1) (hC.2.2.2.2.1 _ h2) (hC.2.2.2.2.1 _ h3) hC.2.2.2.2.2.2.2.2.1 hw.1 hD hw.2.2.2.1 hC.2.2.2.2.2.2.2.2.2.2.1 hK.1 hdv (by omega) (by omega) hd (fun q H1 hP1 hD1 hS1 => ?_)
  exact n_after hC hag hr hl hlo hso (n_grow (u := (ci + 5, 0)) hw (by show Sum.inr (ci, h_fs _ _ _ _) = _; rw [n_dflt hw.2.2.2.2 (Nat.le_refl _)]) hP1 hD1 hS1) k
theorem n_newa0 {n : Int32} {N : Nat} (hwd : Cond.arrayClass .int ∈ h_T) (hn : ¬ n < 0) (hN : n.toNatClampNeg = N) (hb : N * componentBytes .int ≤ 536870912) (hmc : mc + 1 ≤ mc') (hms : ms + N ≤ ms') (hlo : ∀ q ∈ lv, n_ok kd.length q.2) (hso : ∀ v ∈ st, n_ok kd.length v) (hd : decode cc pc = .ok (.newarray .int, 2)) (k : NW cc nL own kd0 d (kd ++ [(0, N)]) Rf (mc + 1) (ms + N) lv (pc + 2) (.ref kd.length :: st) kd' R' mc' ms') : NW cc nL own kd0 d kd Rf mc ms lv pc (.int n :: st) kd' R' mc' ms' := by
  intro p l e R s m args below meth c H ls locs α0 α D cy A hC hw hag hr hl
  have hD := h_wD (FT := hFT) (cy := cy) (zI, zJ, Rf) hw.2.1 hw.2.2.1
  refine va_newa (atype := .int) (ty := .int) (a0 := (N, .inl (fun _ => 0))) hC.1 hC.2.1 (hC.2.2.2.2.1 _ hwd) rfl hC.2.2.2.2.2.2.2.2.1 hw.1 hD hw.2.2.2.1 hC.2.2.2.2.2.2.2.2.2.2.1 (fun _ => rfl) hn hN hb (by omega) (by omega) hd (fun q cA H1 hK1 hP1 hD1 hS1 => ?_)
  have hcA : cA = cy 0 := by
    have g1 := (hK1.2 5 (cA, .int) rfl).2
    have g2 := (hC.2.2.2.2.2.2.2.2.1.2 0 (cy 0, .int) rfl).2
    exact Option.some.inj (g1.symm.trans g2)
  subst hcA
  exact n_after hC hag hr hl hlo hso (n_grow (u := (0, N)) hw rfl hP1 hD1 hS1) k
theorem n_newa1 {n : Int32} {N : Nat} (hwd : Cond.arrayClass .long ∈ h_T) (hn : ¬ n < 0) (hN : n.toNatClampNeg = N) (hb : N * componentBytes .long ≤ 536870912) (hmc : mc + 1 ≤ mc') (hms : ms + N ≤ ms') (hlo : ∀ q ∈ lv, n_ok kd.length q.2) (hso : ∀ v ∈ st, n_ok kd.length v) (hd : decode cc pc = .ok (.newarray .long, 2)) (k : NW cc nL own kd0 d (kd ++ [(1, N)]) Rf (mc + 1) (ms + N) lv (pc + 2) (.ref kd.length :: st) kd' R' mc' ms') : NW cc nL own kd0 d kd Rf mc ms lv pc (.int n :: st) kd' R' mc' ms' := by
  intro p l e R s m args below meth c H ls locs α0 α D cy A hC hw hag hr hl
  have hD := h_wD (FT := hFT) (cy := cy) (zI, zJ, Rf) hw.2.1 hw.2.2.1
  refine va_newa (atype := .long) (ty := .long) (a0 := (N, .inr (.inl (fun _ => 0)))) hC.1 hC.2.1 (hC.2.2.2.2.1 _ hwd) rfl hC.2.2.2.2.2.2.2.2.1 hw.1 hD hw.2.2.2.1 hC.2.2.2.2.2.2.2.2.2.2.1 (fun _ => rfl) hn hN hb (by omega) (by omega) hd (fun q cA H1 hK1 hP1 hD1 hS1 => ?_)
  have hcA : cA = cy 1 := by
    have g1 := (hK1.2 5 (cA, .long) rfl).2
    have g2 := (hC.2.2.2.2.2.2.2.2.1.2 1 (cy 1, .long) rfl).2
    exact Option.some.inj (g1.symm.trans g2)
  subst hcA
  exact n_after hC hag hr hl hlo hso (n_grow (u := (1, N)) hw rfl hP1 hD1 hS1) k
theorem n_newa2 {n : Int32} {N : Nat} (hwd : Cond.arrayClass .boolean ∈ h_T) (hn : ¬ n < 0) (hN : n.toNatClampNeg = N) (hb : N * componentBytes .boolean ≤ 536870912) (hmc : mc + 1 ≤ mc') (hms : ms + N ≤ ms') (hlo : ∀ q ∈ lv, n_ok kd.length q.2) (hso : ∀ v ∈ st, n_ok kd.length v) (hd : decode cc pc = .ok (.newarray .boolean, 2)) (k : NW cc nL own kd0 d (kd ++ [(2, N)]) Rf (mc + 1) (ms + N) lv (pc + 2) (.ref kd.length :: st) kd' R' mc' ms') : NW cc nL own kd0 d kd Rf mc ms lv pc (.int n :: st) kd' R' mc' ms' := by
  intro p l e R s m args below meth c H ls locs α0 α D cy A hC hw hag hr hl
  have hD := h_wD (FT := hFT) (cy := cy) (zI, zJ, Rf) hw.2.1 hw.2.2.1
  refine va_newa (atype := .boolean) (ty := .boolean) (a0 := (N, .inl (fun _ => 0))) hC.1 hC.2.1 (hC.2.2.2.2.1 _ hwd) rfl hC.2.2.2.2.2.2.2.2.1 hw.1 hD hw.2.2.2.1 hC.2.2.2.2.2.2.2.2.2.2.1 (fun _ => rfl) hn hN hb (by omega) (by omega) hd (fun q cA H1 hK1 hP1 hD1 hS1 => ?_)
  have hcA : cA = cy 2 := by
    have g1 := (hK1.2 5 (cA, .boolean) rfl).2
    have g2 := (hC.2.2.2.2.2.2.2.2.1.2 2 (cy 2, .boolean) rfl).2
    exact Option.some.inj (g1.symm.trans g2)
  subst hcA
  exact n_after hC hag hr hl hlo hso (n_grow (u := (2, N)) hw rfl hP1 hD1 hS1) k
end NR
