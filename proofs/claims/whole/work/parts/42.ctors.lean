/-! The constructors. -/
theorem n_ap {kd : List (Nat × Nat)} {a : Nat} {u : Nat × Nat} (l : List (Nat × Nat)) (h : kd[a]? = some u) : (kd ++ l)[a]? = some u := by rw [List.getElem?_append_left (List.getElem?_eq_some_iff.mp h).1]; exact h
theorem n_last {kd : List (Nat × Nat)} {m : Nat} (u : Nat × Nat) (h : kd.length = m) : (kd ++ [u])[m]? = some u := by subst h; simp
theorem n_lt {kd : List (Nat × Nat)} {a : Nat} {u : Nat × Nat} (h : kd[a]? = some u) : a < kd.length := (List.getElem?_eq_some_iff.mp h).1
theorem n_ok0 {m : Nat} : ∀ v ∈ ([] : List Value), n_ok m v := fun _ h => absurd h List.not_mem_nil
theorem n_okc {m : Nat} {v : Value} {l : List Value} (h : n_ok m v) (hl : ∀ w ∈ l, n_ok m w) : ∀ w ∈ v :: l, n_ok m w := List.forall_mem_cons.mpr ⟨h, hl⟩
theorem n_okl0 {m : Nat} : ∀ q ∈ ([] : List (Nat × Value)), n_ok m q.2 := fun _ h => absurd h List.not_mem_nil
theorem n_oklc {m i : Nat} {v : Value} {l : List (Nat × Value)} (h : n_ok m v) (hl : ∀ w ∈ l, n_ok m w.2) : ∀ w ∈ (i, v) :: l, n_ok m w.2 := List.forall_mem_cons.mpr ⟨h, hl⟩
theorem n_okr {m k : Nat} (h : k < m) : n_ok m (.ref k) := h
theorem n_oki {m : Nat} {x : Int32} : n_ok m (.int x) := trivial
section NT
variable {cc : ByteArray} {nL : Nat} {own : String} {kd0 : List (Nat × Nat)} {d : Nat} {kd : List (Nat × Nat)} {Rf : Nat → Nat → Option Nat} {mc ms : Nat} {lv : List (Nat × Value)} {pc n1 : Nat} {st : List Value} {kd' : List (Nat × Nat)} {R' : Nat → Nat → Option Nat} {mc' ms' : Nat}
theorem o_new {ci idx N u : Nat} {C : String} {T : u_T} {ty : Nat → FieldType} (hu : ci + 5 = u) (hn1 : kd.length = n1) (hK : h_K hFT ci C T N ty) (hdv : ∀ j, j < N → defaultValue (ty j) = vp_V ((hFT ci).map (fun t => if t = 0 then .int 0 else if t = 1 then .long 0 else .null)) j) (h1 : Cond.classLink own idx C ∈ h_T) (h2 : Cond.instantiable C N ∈ h_T) (h3 : Cond.initialized C ∈ h_T) (hmc : mc + 1 ≤ mc') (hms : ms + N ≤ ms') (hlo : ∀ q ∈ lv, n_ok kd.length q.2) (hso : ∀ v ∈ st, n_ok kd.length v) (hd : decode cc pc = .ok (.new idx, 3)) (k : ∀ K : List (Nat × Nat), K = kd ++ [(u, 0)] → K.length = n1 + 1 → (∀ (a : Nat) (w : Nat × Nat), kd[a]? = some w → K[a]? = some w) → K[n1]? = some (u, 0) → NW cc nL own kd0 d K Rf (mc + 1) (ms + N) lv (pc + 3) (.ref n1 :: st) kd' R' mc' ms') : NW cc nL own kd0 d kd Rf mc ms lv pc st kd' R' mc' ms' := by subst hu; subst hn1; exact n_new hK hdv h1 h2 h3 hmc hms hlo hso hd (k _ rfl (by simp) (fun _ _ h => n_ap _ h) (n_last _ rfl))
theorem o_newa0 {n : Int32} {N : Nat} (hn1 : kd.length = n1) (hwd : Cond.arrayClass .int ∈ h_T) (hn : ¬ n < 0) (hN : n.toNatClampNeg = N) (hb : N * componentBytes .int ≤ 536870912) (hmc : mc + 1 ≤ mc') (hms : ms + N ≤ ms') (hlo : ∀ q ∈ lv, n_ok kd.length q.2) (hso : ∀ v ∈ st, n_ok kd.length v) (hd : decode cc pc = .ok (.newarray .int, 2)) (k : ∀ K : List (Nat × Nat), K = kd ++ [(0, N)] → K.length = n1 + 1 → (∀ (a : Nat) (w : Nat × Nat), kd[a]? = some w → K[a]? = some w) → K[n1]? = some (0, N) → NW cc nL own kd0 d K Rf (mc + 1) (ms + N) lv (pc + 2) (.ref n1 :: st) kd' R' mc' ms') : NW cc nL own kd0 d kd Rf mc ms lv pc (.int n :: st) kd' R' mc' ms' := by subst hn1; exact n_newa0 hwd hn hN hb hmc hms hlo hso hd (k _ rfl (by simp) (fun _ _ h => n_ap _ h) (n_last _ rfl))
theorem o_newa1 {n : Int32} {N : Nat} (hn1 : kd.length = n1) (hwd : Cond.arrayClass .long ∈ h_T) (hn : ¬ n < 0) (hN : n.toNatClampNeg = N) (hb : N * componentBytes .long ≤ 536870912) (hmc : mc + 1 ≤ mc') (hms : ms + N ≤ ms') (hlo : ∀ q ∈ lv, n_ok kd.length q.2) (hso : ∀ v ∈ st, n_ok kd.length v) (hd : decode cc pc = .ok (.newarray .long, 2)) (k : ∀ K : List (Nat × Nat), K = kd ++ [(1, N)] → K.length = n1 + 1 → (∀ (a : Nat) (w : Nat × Nat), kd[a]? = some w → K[a]? = some w) → K[n1]? = some (1, N) → NW cc nL own kd0 d K Rf (mc + 1) (ms + N) lv (pc + 2) (.ref n1 :: st) kd' R' mc' ms') : NW cc nL own kd0 d kd Rf mc ms lv pc (.int n :: st) kd' R' mc' ms' := by subst hn1; exact n_newa1 hwd hn hN hb hmc hms hlo hso hd (k _ rfl (by simp) (fun _ _ h => n_ap _ h) (n_last _ rfl))
theorem o_newa2 {n : Int32} {N : Nat} (hn1 : kd.length = n1) (hwd : Cond.arrayClass .boolean ∈ h_T) (hn : ¬ n < 0) (hN : n.toNatClampNeg = N) (hb : N * componentBytes .boolean ≤ 536870912) (hmc : mc + 1 ≤ mc') (hms : ms + N ≤ ms') (hlo : ∀ q ∈ lv, n_ok kd.length q.2) (hso : ∀ v ∈ st, n_ok kd.length v) (hd : decode cc pc = .ok (.newarray .boolean, 2)) (k : ∀ K : List (Nat × Nat), K = kd ++ [(2, N)] → K.length = n1 + 1 → (∀ (a : Nat) (w : Nat × Nat), kd[a]? = some w → K[a]? = some w) → K[n1]? = some (2, N) → NW cc nL own kd0 d K Rf (mc + 1) (ms + N) lv (pc + 2) (.ref n1 :: st) kd' R' mc' ms') : NW cc nL own kd0 d kd Rf mc ms lv pc (.int n :: st) kd' R' mc' ms' := by subst hn1; exact n_newa2 hwd hn hN hb hmc hms hlo hso hd (k _ rfl (by simp) (fun _ _ h => n_ap _ h) (n_last _ rfl))
theorem o_newq {idx : Nat} {n : Int32} {N : Nat} (hn1 : kd.length = n1) (h1 : Cond.classLink own idx "CoinLoops$Step" ∈ h_T) (hn : ¬ n < 0) (hN : n.toNatClampNeg = N) (hb : N * 4 ≤ 536870912) (hmc : mc + 1 ≤ mc') (hms : ms + N ≤ ms') (hlo : ∀ q ∈ lv, n_ok kd.length q.2) (hso : ∀ v ∈ st, n_ok kd.length v) (hd : decode cc pc = .ok (.anewarray idx, 3)) (k : ∀ K : List (Nat × Nat), K = kd ++ [(3, N)] → K.length = n1 + 1 → (∀ (a : Nat) (w : Nat × Nat), kd[a]? = some w → K[a]? = some w) → K[n1]? = some (3, N) → NW cc nL own kd0 d K Rf (mc + 1) (ms + N) lv (pc + 3) (.ref n1 :: st) kd' R' mc' ms') : NW cc nL own kd0 d kd Rf mc ms lv pc (.int n :: st) kd' R' mc' ms' := by subst hn1; exact n_newq h1 hn hN hb hmc hms hlo hso hd (k _ rfl (by simp) (fun _ _ h => n_ap _ h) (n_last _ rfl))
theorem o_mna {idx : Nat} {n k0 : Int32} {N K0 : Nat} (hn1 : kd.length = n1) (h1 : Cond.classLink own idx "[[J" ∈ h_T) (h2 : Cond.arrayClass .long ∈ h_T) (hn : ¬ n < 0) (hk0 : ¬ k0 < 0) (hN : n.toNatClampNeg = N) (hKK : k0.toNatClampNeg = K0) (hb1 : N * 4 ≤ 536870912) (hb2 : K0 * componentBytes .long ≤ 536870912) (hb3 : K0 ≤ 536870912) (hmc : mc + (1 + N) ≤ mc') (hms : ms + (N + N * K0) ≤ ms') (hlo : ∀ q ∈ lv, n_ok kd.length q.2) (hso : ∀ v ∈ st, n_ok kd.length v) (hd : decode cc pc = .ok (.multianewarray idx 2, 4)) (k : ∀ K : List (Nat × Nat), K = kd ++ [(4, N)] ++ List.replicate N (1, K0) → K.length = n1 + (1 + N) → (∀ (a : Nat) (w : Nat × Nat), kd[a]? = some w → K[a]? = some w) → K[n1]? = some (4, N) → NW cc nL own kd0 d K (n_RJ Rf n1 N) (mc + 1 + N) (ms + N + N * K0) lv (pc + 4) (.ref n1 :: st) kd' R' mc' ms') : NW cc nL own kd0 d kd Rf mc ms lv pc (.int k0 :: .int n :: st) kd' R' mc' ms' := by subst hn1; exact n_mna h1 h2 hn hk0 hN hKK hb1 hb2 hb3 hmc hms hlo hso hd (k _ rfl (by simp only [List.length_append, List.length_cons, List.length_nil, List.length_replicate]; omega) (fun _ _ h => n_ap _ (n_ap _ h)) (n_ap _ (n_last _ rfl)))
theorem o_callN {y : MethodName} {bytes : ByteArray} {maxL n a idx j1 : Nat} {host : String} {As : List Value} (rest : List Value) {st0 : List Value} {kd1 : List (Nat × Nat)} {R1 : Nat → Nat → Option Nat} {mc1 ms1 : Nat} (hn1 : kd.length = n1) (hj : kd1.length = kd.length + j1) (hmono : ∀ (a : Nat) (w : Nat × Nat), kd[a]? = some w → kd1[a]? = some w) (hy : h_yI y bytes maxL n) (hl0 : Cond.methodLinkNest own idx y host ∈ h_N) (hM : NMet y bytes maxL d kd (.ref a :: As) Rf kd1 R1 mc1 ms1) (hst : As.reverse ++ .ref a :: rest = st0) (hn : As.length = n) (hw8 : (rest.map fun v => v.category).sum ≤ 8) (hmc : mc + mc1 ≤ mc') (hms : ms + ms1 ≤ ms') (hlo : ∀ q ∈ lv, n_ok kd.length q.2) (hso : ∀ v ∈ rest, n_ok kd.length v) (hd : decode cc pc = .ok (.invokespecial idx, 3)) (k : ∀ K : List (Nat × Nat), K = kd1 → K.length = n1 + j1 → (∀ (a : Nat) (w : Nat × Nat), kd[a]? = some w → K[a]? = some w) → NW cc nL own kd0 (d + 1) K R1 (mc + mc1) (ms + ms1) lv (pc + 3) rest kd' R' mc' ms') : NW cc nL own kd0 (d + 1) kd Rf mc ms lv pc st0 kd' R' mc' ms' := n_callN rest hy hl0 hM hst hn hw8 hmc hms (by omega) hlo hso hd (k _ rfl (by omega) hmono)
theorem o_callI {y : MethodName} {bytes : ByteArray} {maxL n a idx j1 : Nat} {As : List Value} (rest : List Value) {st0 : List Value} {kd1 : List (Nat × Nat)} {R1 : Nat → Nat → Option Nat} {mc1 ms1 : Nat} (hn1 : kd.length = n1) (hj : kd1.length = kd.length + j1) (hmono : ∀ (a : Nat) (w : Nat × Nat), kd[a]? = some w → kd1[a]? = some w) (hy : h_yI y bytes maxL n) (hl0 : Cond.methodLink own idx y ∈ h_T) (hM : NMet y bytes maxL d kd (.ref a :: As) Rf kd1 R1 mc1 ms1) (hst : As.reverse ++ .ref a :: rest = st0) (hn : As.length = n) (hw8 : (rest.map fun v => v.category).sum ≤ 8) (hmc : mc + mc1 ≤ mc') (hms : ms + ms1 ≤ ms') (hlo : ∀ q ∈ lv, n_ok kd.length q.2) (hso : ∀ v ∈ rest, n_ok kd.length v) (hd : decode cc pc = .ok (.invokespecial idx, 3)) (k : ∀ K : List (Nat × Nat), K = kd1 → K.length = n1 + j1 → (∀ (a : Nat) (w : Nat × Nat), kd[a]? = some w → K[a]? = some w) → NW cc nL own kd0 (d + 1) K R1 (mc + mc1) (ms + ms1) lv (pc + 3) rest kd' R' mc' ms') : NW cc nL own kd0 (d + 1) kd Rf mc ms lv pc st0 kd' R' mc' ms' := n_callI rest hy hl0 hM hst hn hw8 hmc hms (by omega) hlo hso hd (k _ rfl (by omega) hmono)
end NT
theorem oi_1 : Cond.instanceMethod Lib.objectInit ∈ h_T := hs_1 31 rfl rfl
theorem oi_2 : Cond.code Lib.objectInit ⟨#[0xb1]⟩ 1 none ∈ h_T := hs_1 32 rfl rfl
theorem ac_int : Cond.arrayClass .int ∈ h_T := hs_1 85 rfl rfl
theorem ac_long : Cond.arrayClass .long ∈ h_T := hs_1 225 rfl rfl
theorem ac_boolean : Cond.arrayClass .boolean ∈ h_T := hs_2 91 rfl rfl
theorem om_10 : Cond.methodLink RX10 3 Lib.objectInit ∈ h_T := hs_1 30 rfl rfl
theorem cl_10_9 : Cond.classLink RX10 9 RX6 ∈ h_T := hs_1 33 rfl rfl
theorem om_6 : Cond.methodLink RX6 3 Lib.objectInit ∈ h_T := hs_1 38 rfl rfl
theorem cl_10_16 : Cond.classLink RX10 16 RX9 ∈ h_T := hs_1 86 rfl rfl
theorem om_9 : Cond.methodLink RX9 3 Lib.objectInit ∈ h_T := hs_1 91 rfl rfl
theorem cl_10_23 : Cond.classLink RX10 23 RX7 ∈ h_T := hs_1 123 rfl rfl
theorem om_7 : Cond.methodLink RX7 3 Lib.objectInit ∈ h_T := hs_1 128 rfl rfl
theorem cl_10_30 : Cond.classLink RX10 30 RX5 ∈ h_T := hs_1 179 rfl rfl
theorem om_5 : Cond.methodLink RX5 3 Lib.objectInit ∈ h_T := hs_1 184 rfl rfl
theorem cl_5_31 : Cond.classLink RX5 31 "[[J" ∈ h_T := hs_1 185 rfl rfl
theorem cl_10_39 : Cond.classLink RX10 39 RX3 ∈ h_T := hs_1 226 rfl rfl
theorem om_3 : Cond.methodLink RX3 3 Lib.objectInit ∈ h_T := hs_1 231 rfl rfl
theorem cl_3_9 : Cond.classLink RX3 9 "[[J" ∈ h_T := hs_1 232 rfl rfl
theorem cl_10_46 : Cond.classLink RX10 46 RX1 ∈ h_T := hs_2 3 rfl rfl
theorem om_1 : Cond.methodLink RX1 3 Lib.objectInit ∈ h_T := hs_2 8 rfl rfl
theorem cl_1_9 : Cond.classLink RX1 9 "[[J" ∈ h_T := hs_2 9 rfl rfl
theorem cl_10_57 : Cond.classLink RX10 57 RX4 ∈ h_T := hs_2 58 rfl rfl
theorem om_4 : Cond.methodLink RX4 3 Lib.objectInit ∈ h_T := hs_2 63 rfl rfl
theorem cl_4_9 : Cond.classLink RX4 9 RX0 ∈ h_T := hs_2 64 rfl rfl
theorem om_0 : Cond.methodLink RX0 3 Lib.objectInit ∈ h_T := hs_2 69 rfl rfl
theorem cl_4_18 : Cond.classLink RX4 18 RX8 ∈ h_T := hs_2 92 rfl rfl
theorem om_8 : Cond.methodLink RX8 1 Lib.objectInit ∈ h_T := hs_2 98 rfl rfl
theorem cl_10_67 : Cond.classLink RX10 67 RX2 ∈ h_T := hs_2 184 rfl rfl
theorem om_2 : Cond.methodLink RX2 3 Lib.objectInit ∈ h_T := hs_2 189 rfl rfl
theorem cl_2_9 : Cond.classLink RX2 9 RX0 ∈ h_T := hs_2 190 rfl rfl
theorem om_11 : Cond.methodLink RX11 3 Lib.objectInit ∈ h_T := hs_6 26 rfl rfl
theorem it_0 : Cond.instantiable RX0 6 ∈ h_T := hs_2 65 rfl rfl
theorem ini_0 : Cond.initialized RX0 ∈ h_T := hs_1 9 rfl rfl
theorem dv_0 : ∀ j, j < 6 → defaultValue (tyX0 j) = vp_V ((hFT 0).map (fun t => if t = 0 then .int 0 else if t = 1 then .long 0 else .null)) j := by decide +kernel
theorem it_1 : Cond.instantiable RX1 15 ∈ h_T := hs_2 4 rfl rfl
theorem ini_1 : Cond.initialized RX1 ∈ h_T := hs_1 7 rfl rfl
theorem dv_1 : ∀ j, j < 15 → defaultValue (tyX1 j) = vp_V ((hFT 1).map (fun t => if t = 0 then .int 0 else if t = 1 then .long 0 else .null)) j := by decide +kernel
theorem it_2 : Cond.instantiable RX2 8 ∈ h_T := hs_2 185 rfl rfl
theorem ini_2 : Cond.initialized RX2 ∈ h_T := hs_1 11 rfl rfl
theorem dv_2 : ∀ j, j < 8 → defaultValue (tyX2 j) = vp_V ((hFT 2).map (fun t => if t = 0 then .int 0 else if t = 1 then .long 0 else .null)) j := by decide +kernel
theorem it_3 : Cond.instantiable RX3 3 ∈ h_T := hs_1 227 rfl rfl
theorem ini_3 : Cond.initialized RX3 ∈ h_T := hs_1 6 rfl rfl
theorem dv_3 : ∀ j, j < 3 → defaultValue (tyX3 j) = vp_V ((hFT 3).map (fun t => if t = 0 then .int 0 else if t = 1 then .long 0 else .null)) j := by decide +kernel
theorem it_4 : Cond.instantiable RX4 11 ∈ h_T := hs_2 59 rfl rfl
theorem ini_4 : Cond.initialized RX4 ∈ h_T := hs_1 8 rfl rfl
theorem dv_4 : ∀ j, j < 11 → defaultValue (tyX4 j) = vp_V ((hFT 4).map (fun t => if t = 0 then .int 0 else if t = 1 then .long 0 else .null)) j := by decide +kernel
theorem it_5 : Cond.instantiable RX5 12 ∈ h_T := hs_1 180 rfl rfl
theorem ini_5 : Cond.initialized RX5 ∈ h_T := hs_1 5 rfl rfl
theorem dv_5 : ∀ j, j < 12 → defaultValue (tyX5 j) = vp_V ((hFT 5).map (fun t => if t = 0 then .int 0 else if t = 1 then .long 0 else .null)) j := by decide +kernel
theorem it_6 : Cond.instantiable RX6 12 ∈ h_T := hs_1 34 rfl rfl
theorem ini_6 : Cond.initialized RX6 ∈ h_T := hs_1 2 rfl rfl
theorem dv_6 : ∀ j, j < 12 → defaultValue (tyX6 j) = vp_V ((hFT 6).map (fun t => if t = 0 then .int 0 else if t = 1 then .long 0 else .null)) j := by decide +kernel
theorem it_7 : Cond.instantiable RX7 10 ∈ h_T := hs_1 124 rfl rfl
theorem ini_7 : Cond.initialized RX7 ∈ h_T := hs_1 4 rfl rfl
theorem dv_7 : ∀ j, j < 10 → defaultValue (tyX7 j) = vp_V ((hFT 7).map (fun t => if t = 0 then .int 0 else if t = 1 then .long 0 else .null)) j := by decide +kernel
theorem it_8 : Cond.instantiable RX8 8 ∈ h_T := hs_2 94 rfl rfl
theorem ini_8 : Cond.initialized RX8 ∈ h_T := hs_1 10 rfl rfl
theorem dv_8 : ∀ j, j < 8 → defaultValue (tyX8 j) = vp_V ((hFT 8).map (fun t => if t = 0 then .int 0 else if t = 1 then .long 0 else .null)) j := by decide +kernel
theorem it_9 : Cond.instantiable RX9 7 ∈ h_T := hs_1 87 rfl rfl
theorem ini_9 : Cond.initialized RX9 ∈ h_T := hs_1 3 rfl rfl
theorem dv_9 : ∀ j, j < 7 → defaultValue (tyX9 j) = vp_V ((hFT 9).map (fun t => if t = 0 then .int 0 else if t = 1 then .long 0 else .null)) j := by decide +kernel
theorem it_10 : Cond.instantiable RX10 15 ∈ h_T := hs_1 26 rfl rfl
theorem ini_10 : Cond.initialized RX10 ∈ h_T := hs_1 1 rfl rfl
theorem dv_10 : ∀ j, j < 15 → defaultValue (tyX10 j) = vp_V ((hFT 10).map (fun t => if t = 0 then .int 0 else if t = 1 then .long 0 else .null)) j := by decide +kernel
theorem it_11 : Cond.instantiable RX11 97 ∈ h_T := hs_6 22 rfl rfl
theorem ini_11 : Cond.initialized RX11 ∈ h_T := hs_1 12 rfl rfl
theorem dv_11 : ∀ j, j < 97 → defaultValue (tyX11 j) = vp_V ((hFT 11).map (fun t => if t = 0 then .int 0 else if t = 1 then .long 0 else .null)) j := by decide +kernel
theorem yy_X0_init : h_yI yX0_init cX0_init 1 0 := ⟨by decide +kernel, hs_2 68 rfl rfl, hs_1 9 rfl rfl, hs_2 67 rfl rfl, rfl, by decide⟩
theorem dX0_init_0 : decode cX0_init 0 = .ok (.aload_n 0, 1) := by decide +kernel
theorem dX0_init_1 : decode cX0_init 1 = .ok (.invokespecial 3, 3) := by decide +kernel
theorem dX0_init_4 : decode cX0_init 4 = .ok (.aload_n 0, 1) := by decide +kernel
theorem dX0_init_5 : decode cX0_init 5 = .ok (.sipush 166, 3) := by decide +kernel
theorem dX0_init_8 : decode cX0_init 8 = .ok (.newarray .int, 2) := by decide +kernel
theorem dX0_init_10 : decode cX0_init 10 = .ok (.putfield 9, 3) := by decide +kernel
theorem dX0_init_13 : decode cX0_init 13 = .ok (.aload_n 0, 1) := by decide +kernel
theorem dX0_init_14 : decode cX0_init 14 = .ok (.sipush 166, 3) := by decide +kernel
theorem dX0_init_17 : decode cX0_init 17 = .ok (.newarray .int, 2) := by decide +kernel
theorem dX0_init_19 : decode cX0_init 19 = .ok (.putfield 15, 3) := by decide +kernel
theorem dX0_init_22 : decode cX0_init 22 = .ok (.aload_n 0, 1) := by decide +kernel
theorem dX0_init_23 : decode cX0_init 23 = .ok (.sipush 166, 3) := by decide +kernel
theorem dX0_init_26 : decode cX0_init 26 = .ok (.newarray .int, 2) := by decide +kernel
theorem dX0_init_28 : decode cX0_init 28 = .ok (.putfield 18, 3) := by decide +kernel
theorem dX0_init_31 : decode cX0_init 31 = .ok (.aload_n 0, 1) := by decide +kernel
theorem dX0_init_32 : decode cX0_init 32 = .ok (.sipush 166, 3) := by decide +kernel
theorem dX0_init_35 : decode cX0_init 35 = .ok (.newarray .int, 2) := by decide +kernel
theorem dX0_init_37 : decode cX0_init 37 = .ok (.putfield 21, 3) := by decide +kernel
theorem dX0_init_40 : decode cX0_init 40 = .ok (.aload_n 0, 1) := by decide +kernel
theorem dX0_init_41 : decode cX0_init 41 = .ok (.sipush 166, 3) := by decide +kernel
theorem dX0_init_44 : decode cX0_init 44 = .ok (.newarray .boolean, 2) := by decide +kernel
theorem dX0_init_46 : decode cX0_init 46 = .ok (.putfield 24, 3) := by decide +kernel
theorem dX0_init_49 : decode cX0_init 49 = .ok (.return_, 1) := by decide +kernel
theorem yy_X1_init : h_yI yX1_init cX1_init 2 1 := ⟨by decide +kernel, hs_2 7 rfl rfl, hs_1 7 rfl rfl, hs_2 6 rfl rfl, rfl, by decide⟩
theorem dX1_init_0 : decode cX1_init 0 = .ok (.aload_n 0, 1) := by decide +kernel
theorem dX1_init_1 : decode cX1_init 1 = .ok (.invokespecial 3, 3) := by decide +kernel
theorem dX1_init_4 : decode cX1_init 4 = .ok (.aload_n 0, 1) := by decide +kernel
theorem dX1_init_5 : decode cX1_init 5 = .ok (.iconst 4, 1) := by decide +kernel
theorem dX1_init_6 : decode cX1_init 6 = .ok (.bipush 92, 2) := by decide +kernel
theorem dX1_init_8 : decode cX1_init 8 = .ok (.multianewarray 9 2, 4) := by decide +kernel
theorem dX1_init_12 : decode cX1_init 12 = .ok (.putfield 11, 3) := by decide +kernel
theorem dX1_init_15 : decode cX1_init 15 = .ok (.aload_n 0, 1) := by decide +kernel
theorem dX1_init_16 : decode cX1_init 16 = .ok (.iconst 3, 1) := by decide +kernel
theorem dX1_init_17 : decode cX1_init 17 = .ok (.newarray .long, 2) := by decide +kernel
theorem dX1_init_19 : decode cX1_init 19 = .ok (.putfield 16, 3) := by decide +kernel
theorem dX1_init_22 : decode cX1_init 22 = .ok (.aload_n 0, 1) := by decide +kernel
theorem dX1_init_23 : decode cX1_init 23 = .ok (.iconst 3, 1) := by decide +kernel
theorem dX1_init_24 : decode cX1_init 24 = .ok (.newarray .long, 2) := by decide +kernel
theorem dX1_init_26 : decode cX1_init 26 = .ok (.putfield 20, 3) := by decide +kernel
theorem dX1_init_29 : decode cX1_init 29 = .ok (.aload_n 0, 1) := by decide +kernel
theorem dX1_init_30 : decode cX1_init 30 = .ok (.iconst 2, 1) := by decide +kernel
theorem dX1_init_31 : decode cX1_init 31 = .ok (.newarray .long, 2) := by decide +kernel
theorem dX1_init_33 : decode cX1_init 33 = .ok (.putfield 23, 3) := by decide +kernel
theorem dX1_init_36 : decode cX1_init 36 = .ok (.aload_n 0, 1) := by decide +kernel
theorem dX1_init_37 : decode cX1_init 37 = .ok (.iconst 2, 1) := by decide +kernel
theorem dX1_init_38 : decode cX1_init 38 = .ok (.newarray .long, 2) := by decide +kernel
theorem dX1_init_40 : decode cX1_init 40 = .ok (.putfield 26, 3) := by decide +kernel
theorem dX1_init_43 : decode cX1_init 43 = .ok (.aload_n 0, 1) := by decide +kernel
theorem dX1_init_44 : decode cX1_init 44 = .ok (.iconst 4, 1) := by decide +kernel
theorem dX1_init_45 : decode cX1_init 45 = .ok (.newarray .long, 2) := by decide +kernel
theorem dX1_init_47 : decode cX1_init 47 = .ok (.putfield 29, 3) := by decide +kernel
theorem dX1_init_50 : decode cX1_init 50 = .ok (.aload_n 0, 1) := by decide +kernel
theorem dX1_init_51 : decode cX1_init 51 = .ok (.bipush 10, 2) := by decide +kernel
theorem dX1_init_53 : decode cX1_init 53 = .ok (.iconst 4, 1) := by decide +kernel
theorem dX1_init_54 : decode cX1_init 54 = .ok (.multianewarray 9 2, 4) := by decide +kernel
theorem dX1_init_58 : decode cX1_init 58 = .ok (.putfield 32, 3) := by decide +kernel
theorem dX1_init_61 : decode cX1_init 61 = .ok (.aload_n 0, 1) := by decide +kernel
theorem dX1_init_62 : decode cX1_init 62 = .ok (.aload_n 1, 1) := by decide +kernel
theorem dX1_init_63 : decode cX1_init 63 = .ok (.putfield 35, 3) := by decide +kernel
theorem dX1_init_66 : decode cX1_init 66 = .ok (.return_, 1) := by decide +kernel
theorem yy_X2_init : h_yI yX2_init cX2_init 1 0 := ⟨by decide +kernel, hs_2 188 rfl rfl, hs_1 11 rfl rfl, hs_2 187 rfl rfl, rfl, by decide⟩
theorem dX2_init_0 : decode cX2_init 0 = .ok (.aload_n 0, 1) := by decide +kernel
theorem dX2_init_1 : decode cX2_init 1 = .ok (.invokespecial 3, 3) := by decide +kernel
theorem dX2_init_4 : decode cX2_init 4 = .ok (.aload_n 0, 1) := by decide +kernel
theorem dX2_init_5 : decode cX2_init 5 = .ok (.new 9, 3) := by decide +kernel
theorem dX2_init_8 : decode cX2_init 8 = .ok (.dup, 1) := by decide +kernel
theorem dX2_init_9 : decode cX2_init 9 = .ok (.invokespecial 11, 3) := by decide +kernel
theorem dX2_init_12 : decode cX2_init 12 = .ok (.putfield 12, 3) := by decide +kernel
theorem dX2_init_15 : decode cX2_init 15 = .ok (.aload_n 0, 1) := by decide +kernel
theorem dX2_init_16 : decode cX2_init 16 = .ok (.bipush 8, 2) := by decide +kernel
theorem dX2_init_18 : decode cX2_init 18 = .ok (.newarray .int, 2) := by decide +kernel
theorem dX2_init_20 : decode cX2_init 20 = .ok (.putfield 18, 3) := by decide +kernel
theorem dX2_init_23 : decode cX2_init 23 = .ok (.aload_n 0, 1) := by decide +kernel
theorem dX2_init_24 : decode cX2_init 24 = .ok (.bipush 8, 2) := by decide +kernel
theorem dX2_init_26 : decode cX2_init 26 = .ok (.newarray .int, 2) := by decide +kernel
theorem dX2_init_28 : decode cX2_init 28 = .ok (.putfield 22, 3) := by decide +kernel
theorem dX2_init_31 : decode cX2_init 31 = .ok (.aload_n 0, 1) := by decide +kernel
theorem dX2_init_32 : decode cX2_init 32 = .ok (.bipush 8, 2) := by decide +kernel
theorem dX2_init_34 : decode cX2_init 34 = .ok (.newarray .int, 2) := by decide +kernel
theorem dX2_init_36 : decode cX2_init 36 = .ok (.putfield 25, 3) := by decide +kernel
theorem dX2_init_39 : decode cX2_init 39 = .ok (.aload_n 0, 1) := by decide +kernel
theorem dX2_init_40 : decode cX2_init 40 = .ok (.bipush 8, 2) := by decide +kernel
theorem dX2_init_42 : decode cX2_init 42 = .ok (.newarray .int, 2) := by decide +kernel
theorem dX2_init_44 : decode cX2_init 44 = .ok (.putfield 28, 3) := by decide +kernel
theorem dX2_init_47 : decode cX2_init 47 = .ok (.aload_n 0, 1) := by decide +kernel
theorem dX2_init_48 : decode cX2_init 48 = .ok (.bipush 8, 2) := by decide +kernel
theorem dX2_init_50 : decode cX2_init 50 = .ok (.newarray .int, 2) := by decide +kernel
theorem dX2_init_52 : decode cX2_init 52 = .ok (.putfield 31, 3) := by decide +kernel
theorem dX2_init_55 : decode cX2_init 55 = .ok (.aload_n 0, 1) := by decide +kernel
theorem dX2_init_56 : decode cX2_init 56 = .ok (.bipush 8, 2) := by decide +kernel
theorem dX2_init_58 : decode cX2_init 58 = .ok (.newarray .int, 2) := by decide +kernel
theorem dX2_init_60 : decode cX2_init 60 = .ok (.putfield 34, 3) := by decide +kernel
theorem dX2_init_63 : decode cX2_init 63 = .ok (.return_, 1) := by decide +kernel
theorem yy_X3_init : h_yI yX3_init cX3_init 2 1 := ⟨by decide +kernel, hs_1 230 rfl rfl, hs_1 6 rfl rfl, hs_1 229 rfl rfl, rfl, by decide⟩
theorem dX3_init_0 : decode cX3_init 0 = .ok (.aload_n 0, 1) := by decide +kernel
theorem dX3_init_1 : decode cX3_init 1 = .ok (.invokespecial 3, 3) := by decide +kernel
theorem dX3_init_4 : decode cX3_init 4 = .ok (.aload_n 0, 1) := by decide +kernel
theorem dX3_init_5 : decode cX3_init 5 = .ok (.iconst 4, 1) := by decide +kernel
theorem dX3_init_6 : decode cX3_init 6 = .ok (.sipush 210, 3) := by decide +kernel
theorem dX3_init_9 : decode cX3_init 9 = .ok (.multianewarray 9 2, 4) := by decide +kernel
theorem dX3_init_13 : decode cX3_init 13 = .ok (.putfield 11, 3) := by decide +kernel
theorem dX3_init_16 : decode cX3_init 16 = .ok (.aload_n 0, 1) := by decide +kernel
theorem dX3_init_17 : decode cX3_init 17 = .ok (.iconst 4, 1) := by decide +kernel
theorem dX3_init_18 : decode cX3_init 18 = .ok (.newarray .int, 2) := by decide +kernel
theorem dX3_init_20 : decode cX3_init 20 = .ok (.putfield 16, 3) := by decide +kernel
theorem dX3_init_23 : decode cX3_init 23 = .ok (.aload_n 0, 1) := by decide +kernel
theorem dX3_init_24 : decode cX3_init 24 = .ok (.aload_n 1, 1) := by decide +kernel
theorem dX3_init_25 : decode cX3_init 25 = .ok (.putfield 20, 3) := by decide +kernel
theorem dX3_init_28 : decode cX3_init 28 = .ok (.return_, 1) := by decide +kernel
theorem yy_X4_init : h_yI yX4_init cX4_init 2 0 := ⟨by decide +kernel, hs_2 62 rfl rfl, hs_1 8 rfl rfl, hs_2 61 rfl rfl, rfl, by decide⟩
theorem dX4_init_0 : decode cX4_init 0 = .ok (.aload_n 0, 1) := by decide +kernel
theorem dX4_init_1 : decode cX4_init 1 = .ok (.invokespecial 3, 3) := by decide +kernel
theorem dX4_init_4 : decode cX4_init 4 = .ok (.aload_n 0, 1) := by decide +kernel
theorem dX4_init_5 : decode cX4_init 5 = .ok (.new 9, 3) := by decide +kernel
theorem dX4_init_8 : decode cX4_init 8 = .ok (.dup, 1) := by decide +kernel
theorem dX4_init_9 : decode cX4_init 9 = .ok (.invokespecial 11, 3) := by decide +kernel
theorem dX4_init_12 : decode cX4_init 12 = .ok (.putfield 12, 3) := by decide +kernel
theorem dX4_init_15 : decode cX4_init 15 = .ok (.aload_n 0, 1) := by decide +kernel
theorem dX4_init_16 : decode cX4_init 16 = .ok (.bipush 48, 2) := by decide +kernel
theorem dX4_init_18 : decode cX4_init 18 = .ok (.anewarray 18, 3) := by decide +kernel
theorem dX4_init_21 : decode cX4_init 21 = .ok (.putfield 20, 3) := by decide +kernel
theorem dX4_init_24 : decode cX4_init 24 = .ok (.aload_n 0, 1) := by decide +kernel
theorem dX4_init_25 : decode cX4_init 25 = .ok (.bipush 24, 2) := by decide +kernel
theorem dX4_init_27 : decode cX4_init 27 = .ok (.newarray .int, 2) := by decide +kernel
theorem dX4_init_29 : decode cX4_init 29 = .ok (.putfield 24, 3) := by decide +kernel
theorem dX4_init_32 : decode cX4_init 32 = .ok (.iconst 0, 1) := by decide +kernel
theorem dX4_init_33 : decode cX4_init 33 = .ok (.istore_n 1, 1) := by decide +kernel
theorem dX4_init_34 : decode cX4_init 34 = .ok (.iload_n 1, 1) := by decide +kernel
theorem dX4_init_35 : decode cX4_init 35 = .ok (.bipush 48, 2) := by decide +kernel
theorem dX4_init_37 : decode cX4_init 37 = .ok (.if_icmp .ge 22, 3) := by decide +kernel
theorem dX4_init_40 : decode cX4_init 40 = .ok (.aload_n 0, 1) := by decide +kernel
theorem dX4_init_41 : decode cX4_init 41 = .ok (.getfield 20, 3) := by decide +kernel
theorem dX4_init_44 : decode cX4_init 44 = .ok (.iload_n 1, 1) := by decide +kernel
theorem dX4_init_45 : decode cX4_init 45 = .ok (.new 18, 3) := by decide +kernel
theorem dX4_init_48 : decode cX4_init 48 = .ok (.dup, 1) := by decide +kernel
theorem dX4_init_49 : decode cX4_init 49 = .ok (.invokespecial 28, 3) := by decide +kernel
theorem dX4_init_52 : decode cX4_init 52 = .ok (.aastore, 1) := by decide +kernel
theorem dX4_init_53 : decode cX4_init 53 = .ok (.iinc 1 1, 3) := by decide +kernel
theorem dX4_init_56 : decode cX4_init 56 = .ok (.goto (-22), 3) := by decide +kernel
theorem dX4_init_59 : decode cX4_init 59 = .ok (.return_, 1) := by decide +kernel
theorem yy_X5_init : h_yI yX5_init cX5_init 2 1 := ⟨by decide +kernel, hs_1 183 rfl rfl, hs_1 5 rfl rfl, hs_1 182 rfl rfl, rfl, by decide⟩
theorem dX5_init_0 : decode cX5_init 0 = .ok (.aload_n 0, 1) := by decide +kernel
theorem dX5_init_1 : decode cX5_init 1 = .ok (.invokespecial 3, 3) := by decide +kernel
theorem dX5_init_4 : decode cX5_init 4 = .ok (.aload_n 0, 1) := by decide +kernel
theorem dX5_init_5 : decode cX5_init 5 = .ok (.bipush 40, 2) := by decide +kernel
theorem dX5_init_7 : decode cX5_init 7 = .ok (.newarray .long, 2) := by decide +kernel
theorem dX5_init_9 : decode cX5_init 9 = .ok (.putfield 9, 3) := by decide +kernel
theorem dX5_init_12 : decode cX5_init 12 = .ok (.aload_n 0, 1) := by decide +kernel
theorem dX5_init_13 : decode cX5_init 13 = .ok (.bipush 40, 2) := by decide +kernel
theorem dX5_init_15 : decode cX5_init 15 = .ok (.newarray .long, 2) := by decide +kernel
theorem dX5_init_17 : decode cX5_init 17 = .ok (.putfield 15, 3) := by decide +kernel
theorem dX5_init_20 : decode cX5_init 20 = .ok (.aload_n 0, 1) := by decide +kernel
theorem dX5_init_21 : decode cX5_init 21 = .ok (.bipush 40, 2) := by decide +kernel
theorem dX5_init_23 : decode cX5_init 23 = .ok (.newarray .int, 2) := by decide +kernel
theorem dX5_init_25 : decode cX5_init 25 = .ok (.putfield 18, 3) := by decide +kernel
theorem dX5_init_28 : decode cX5_init 28 = .ok (.aload_n 0, 1) := by decide +kernel
theorem dX5_init_29 : decode cX5_init 29 = .ok (.bipush 10, 2) := by decide +kernel
theorem dX5_init_31 : decode cX5_init 31 = .ok (.newarray .int, 2) := by decide +kernel
theorem dX5_init_33 : decode cX5_init 33 = .ok (.putfield 22, 3) := by decide +kernel
theorem dX5_init_36 : decode cX5_init 36 = .ok (.aload_n 0, 1) := by decide +kernel
theorem dX5_init_37 : decode cX5_init 37 = .ok (.bipush 10, 2) := by decide +kernel
theorem dX5_init_39 : decode cX5_init 39 = .ok (.newarray .int, 2) := by decide +kernel
theorem dX5_init_41 : decode cX5_init 41 = .ok (.putfield 25, 3) := by decide +kernel
theorem dX5_init_44 : decode cX5_init 44 = .ok (.aload_n 0, 1) := by decide +kernel
theorem dX5_init_45 : decode cX5_init 45 = .ok (.bipush 10, 2) := by decide +kernel
theorem dX5_init_47 : decode cX5_init 47 = .ok (.newarray .int, 2) := by decide +kernel
theorem dX5_init_49 : decode cX5_init 49 = .ok (.putfield 28, 3) := by decide +kernel
theorem dX5_init_52 : decode cX5_init 52 = .ok (.aload_n 0, 1) := by decide +kernel
theorem dX5_init_53 : decode cX5_init 53 = .ok (.bipush 10, 2) := by decide +kernel
theorem dX5_init_55 : decode cX5_init 55 = .ok (.bipush 12, 2) := by decide +kernel
theorem dX5_init_57 : decode cX5_init 57 = .ok (.multianewarray 31 2, 4) := by decide +kernel
theorem dX5_init_61 : decode cX5_init 61 = .ok (.putfield 33, 3) := by decide +kernel
theorem dX5_init_64 : decode cX5_init 64 = .ok (.aload_n 0, 1) := by decide +kernel
theorem dX5_init_65 : decode cX5_init 65 = .ok (.aload_n 1, 1) := by decide +kernel
theorem dX5_init_66 : decode cX5_init 66 = .ok (.putfield 36, 3) := by decide +kernel
theorem dX5_init_69 : decode cX5_init 69 = .ok (.return_, 1) := by decide +kernel
theorem yy_X6_init : h_yI yX6_init cX6_init 1 0 := ⟨by decide +kernel, hs_1 37 rfl rfl, hs_1 2 rfl rfl, hs_1 36 rfl rfl, rfl, by decide⟩
theorem dX6_init_0 : decode cX6_init 0 = .ok (.aload_n 0, 1) := by decide +kernel
theorem dX6_init_1 : decode cX6_init 1 = .ok (.invokespecial 3, 3) := by decide +kernel
theorem dX6_init_4 : decode cX6_init 4 = .ok (.aload_n 0, 1) := by decide +kernel
theorem dX6_init_5 : decode cX6_init 5 = .ok (.sipush 500, 3) := by decide +kernel
theorem dX6_init_8 : decode cX6_init 8 = .ok (.newarray .int, 2) := by decide +kernel
theorem dX6_init_10 : decode cX6_init 10 = .ok (.putfield 9, 3) := by decide +kernel
theorem dX6_init_13 : decode cX6_init 13 = .ok (.aload_n 0, 1) := by decide +kernel
theorem dX6_init_14 : decode cX6_init 14 = .ok (.sipush 501, 3) := by decide +kernel
theorem dX6_init_17 : decode cX6_init 17 = .ok (.newarray .int, 2) := by decide +kernel
theorem dX6_init_19 : decode cX6_init 19 = .ok (.putfield 15, 3) := by decide +kernel
theorem dX6_init_22 : decode cX6_init 22 = .ok (.aload_n 0, 1) := by decide +kernel
theorem dX6_init_23 : decode cX6_init 23 = .ok (.sipush 501, 3) := by decide +kernel
theorem dX6_init_26 : decode cX6_init 26 = .ok (.newarray .int, 2) := by decide +kernel
theorem dX6_init_28 : decode cX6_init 28 = .ok (.putfield 18, 3) := by decide +kernel
theorem dX6_init_31 : decode cX6_init 31 = .ok (.aload_n 0, 1) := by decide +kernel
theorem dX6_init_32 : decode cX6_init 32 = .ok (.sipush 501, 3) := by decide +kernel
theorem dX6_init_35 : decode cX6_init 35 = .ok (.newarray .int, 2) := by decide +kernel
theorem dX6_init_37 : decode cX6_init 37 = .ok (.putfield 21, 3) := by decide +kernel
theorem dX6_init_40 : decode cX6_init 40 = .ok (.return_, 1) := by decide +kernel
theorem yy_X7_init : h_yI yX7_init cX7_init 1 0 := ⟨by decide +kernel, hs_1 127 rfl rfl, hs_1 4 rfl rfl, hs_1 126 rfl rfl, rfl, by decide⟩
theorem dX7_init_0 : decode cX7_init 0 = .ok (.aload_n 0, 1) := by decide +kernel
theorem dX7_init_1 : decode cX7_init 1 = .ok (.invokespecial 3, 3) := by decide +kernel
theorem dX7_init_4 : decode cX7_init 4 = .ok (.aload_n 0, 1) := by decide +kernel
theorem dX7_init_5 : decode cX7_init 5 = .ok (.bipush 10, 2) := by decide +kernel
theorem dX7_init_7 : decode cX7_init 7 = .ok (.newarray .int, 2) := by decide +kernel
theorem dX7_init_9 : decode cX7_init 9 = .ok (.putfield 9, 3) := by decide +kernel
theorem dX7_init_12 : decode cX7_init 12 = .ok (.aload_n 0, 1) := by decide +kernel
theorem dX7_init_13 : decode cX7_init 13 = .ok (.bipush 80, 2) := by decide +kernel
theorem dX7_init_15 : decode cX7_init 15 = .ok (.newarray .int, 2) := by decide +kernel
theorem dX7_init_17 : decode cX7_init 17 = .ok (.putfield 15, 3) := by decide +kernel
theorem dX7_init_20 : decode cX7_init 20 = .ok (.aload_n 0, 1) := by decide +kernel
theorem dX7_init_21 : decode cX7_init 21 = .ok (.bipush 80, 2) := by decide +kernel
theorem dX7_init_23 : decode cX7_init 23 = .ok (.newarray .int, 2) := by decide +kernel
theorem dX7_init_25 : decode cX7_init 25 = .ok (.putfield 18, 3) := by decide +kernel
theorem dX7_init_28 : decode cX7_init 28 = .ok (.aload_n 0, 1) := by decide +kernel
theorem dX7_init_29 : decode cX7_init 29 = .ok (.bipush 80, 2) := by decide +kernel
theorem dX7_init_31 : decode cX7_init 31 = .ok (.newarray .int, 2) := by decide +kernel
theorem dX7_init_33 : decode cX7_init 33 = .ok (.putfield 21, 3) := by decide +kernel
theorem dX7_init_36 : decode cX7_init 36 = .ok (.aload_n 0, 1) := by decide +kernel
theorem dX7_init_37 : decode cX7_init 37 = .ok (.sipush 800, 3) := by decide +kernel
theorem dX7_init_40 : decode cX7_init 40 = .ok (.newarray .int, 2) := by decide +kernel
theorem dX7_init_42 : decode cX7_init 42 = .ok (.putfield 24, 3) := by decide +kernel
theorem dX7_init_45 : decode cX7_init 45 = .ok (.return_, 1) := by decide +kernel
theorem yy_X8_init : h_yI yX8_init cX8_init 1 0 := ⟨by decide +kernel, hs_2 97 rfl rfl, hs_1 10 rfl rfl, hs_2 96 rfl rfl, rfl, by decide⟩
theorem dX8_init_0 : decode cX8_init 0 = .ok (.aload_n 0, 1) := by decide +kernel
theorem dX8_init_1 : decode cX8_init 1 = .ok (.invokespecial 1, 3) := by decide +kernel
theorem dX8_init_4 : decode cX8_init 4 = .ok (.return_, 1) := by decide +kernel
theorem yy_X9_init : h_yI yX9_init cX9_init 1 0 := ⟨by decide +kernel, hs_1 90 rfl rfl, hs_1 3 rfl rfl, hs_1 89 rfl rfl, rfl, by decide⟩
theorem dX9_init_0 : decode cX9_init 0 = .ok (.aload_n 0, 1) := by decide +kernel
theorem dX9_init_1 : decode cX9_init 1 = .ok (.invokespecial 3, 3) := by decide +kernel
theorem dX9_init_4 : decode cX9_init 4 = .ok (.return_, 1) := by decide +kernel
theorem yy_X10_init : h_yI yX10_init cX10_init 1 0 := ⟨by decide +kernel, hs_1 29 rfl rfl, hs_1 1 rfl rfl, hs_1 28 rfl rfl, rfl, by decide⟩
theorem dX10_init_0 : decode cX10_init 0 = .ok (.aload_n 0, 1) := by decide +kernel
theorem dX10_init_1 : decode cX10_init 1 = .ok (.invokespecial 3, 3) := by decide +kernel
theorem dX10_init_4 : decode cX10_init 4 = .ok (.aload_n 0, 1) := by decide +kernel
theorem dX10_init_5 : decode cX10_init 5 = .ok (.new 9, 3) := by decide +kernel
theorem dX10_init_8 : decode cX10_init 8 = .ok (.dup, 1) := by decide +kernel
theorem dX10_init_9 : decode cX10_init 9 = .ok (.invokespecial 11, 3) := by decide +kernel
theorem dX10_init_12 : decode cX10_init 12 = .ok (.putfield 12, 3) := by decide +kernel
theorem dX10_init_15 : decode cX10_init 15 = .ok (.aload_n 0, 1) := by decide +kernel
theorem dX10_init_16 : decode cX10_init 16 = .ok (.new 16, 3) := by decide +kernel
theorem dX10_init_19 : decode cX10_init 19 = .ok (.dup, 1) := by decide +kernel
theorem dX10_init_20 : decode cX10_init 20 = .ok (.invokespecial 18, 3) := by decide +kernel
theorem dX10_init_23 : decode cX10_init 23 = .ok (.putfield 19, 3) := by decide +kernel
theorem dX10_init_26 : decode cX10_init 26 = .ok (.aload_n 0, 1) := by decide +kernel
theorem dX10_init_27 : decode cX10_init 27 = .ok (.new 23, 3) := by decide +kernel
theorem dX10_init_30 : decode cX10_init 30 = .ok (.dup, 1) := by decide +kernel
theorem dX10_init_31 : decode cX10_init 31 = .ok (.invokespecial 25, 3) := by decide +kernel
theorem dX10_init_34 : decode cX10_init 34 = .ok (.putfield 26, 3) := by decide +kernel
theorem dX10_init_37 : decode cX10_init 37 = .ok (.aload_n 0, 1) := by decide +kernel
theorem dX10_init_38 : decode cX10_init 38 = .ok (.new 30, 3) := by decide +kernel
theorem dX10_init_41 : decode cX10_init 41 = .ok (.dup, 1) := by decide +kernel
theorem dX10_init_42 : decode cX10_init 42 = .ok (.aload_n 0, 1) := by decide +kernel
theorem dX10_init_43 : decode cX10_init 43 = .ok (.getfield 26, 3) := by decide +kernel
theorem dX10_init_46 : decode cX10_init 46 = .ok (.invokespecial 32, 3) := by decide +kernel
theorem dX10_init_49 : decode cX10_init 49 = .ok (.putfield 35, 3) := by decide +kernel
theorem dX10_init_52 : decode cX10_init 52 = .ok (.aload_n 0, 1) := by decide +kernel
theorem dX10_init_53 : decode cX10_init 53 = .ok (.new 39, 3) := by decide +kernel
theorem dX10_init_56 : decode cX10_init 56 = .ok (.dup, 1) := by decide +kernel
theorem dX10_init_57 : decode cX10_init 57 = .ok (.aload_n 0, 1) := by decide +kernel
theorem dX10_init_58 : decode cX10_init 58 = .ok (.getfield 26, 3) := by decide +kernel
theorem dX10_init_61 : decode cX10_init 61 = .ok (.invokespecial 41, 3) := by decide +kernel
theorem dX10_init_64 : decode cX10_init 64 = .ok (.putfield 42, 3) := by decide +kernel
theorem dX10_init_67 : decode cX10_init 67 = .ok (.aload_n 0, 1) := by decide +kernel
theorem dX10_init_68 : decode cX10_init 68 = .ok (.new 46, 3) := by decide +kernel
theorem dX10_init_71 : decode cX10_init 71 = .ok (.dup, 1) := by decide +kernel
theorem dX10_init_72 : decode cX10_init 72 = .ok (.aload_n 0, 1) := by decide +kernel
theorem dX10_init_73 : decode cX10_init 73 = .ok (.getfield 26, 3) := by decide +kernel
theorem dX10_init_76 : decode cX10_init 76 = .ok (.invokespecial 48, 3) := by decide +kernel
theorem dX10_init_79 : decode cX10_init 79 = .ok (.putfield 49, 3) := by decide +kernel
theorem dX10_init_82 : decode cX10_init 82 = .ok (.aload_n 0, 1) := by decide +kernel
theorem dX10_init_83 : decode cX10_init 83 = .ok (.iconst 3, 1) := by decide +kernel
theorem dX10_init_84 : decode cX10_init 84 = .ok (.newarray .int, 2) := by decide +kernel
theorem dX10_init_86 : decode cX10_init 86 = .ok (.putfield 53, 3) := by decide +kernel
theorem dX10_init_89 : decode cX10_init 89 = .ok (.aload_n 0, 1) := by decide +kernel
theorem dX10_init_90 : decode cX10_init 90 = .ok (.new 57, 3) := by decide +kernel
theorem dX10_init_93 : decode cX10_init 93 = .ok (.dup, 1) := by decide +kernel
theorem dX10_init_94 : decode cX10_init 94 = .ok (.invokespecial 59, 3) := by decide +kernel
theorem dX10_init_97 : decode cX10_init 97 = .ok (.putfield 60, 3) := by decide +kernel
theorem dX10_init_100 : decode cX10_init 100 = .ok (.aload_n 0, 1) := by decide +kernel
theorem dX10_init_101 : decode cX10_init 101 = .ok (.new 57, 3) := by decide +kernel
theorem dX10_init_104 : decode cX10_init 104 = .ok (.dup, 1) := by decide +kernel
theorem dX10_init_105 : decode cX10_init 105 = .ok (.invokespecial 59, 3) := by decide +kernel
theorem dX10_init_108 : decode cX10_init 108 = .ok (.putfield 64, 3) := by decide +kernel
theorem dX10_init_111 : decode cX10_init 111 = .ok (.aload_n 0, 1) := by decide +kernel
theorem dX10_init_112 : decode cX10_init 112 = .ok (.new 67, 3) := by decide +kernel
theorem dX10_init_115 : decode cX10_init 115 = .ok (.dup, 1) := by decide +kernel
theorem dX10_init_116 : decode cX10_init 116 = .ok (.invokespecial 69, 3) := by decide +kernel
theorem dX10_init_119 : decode cX10_init 119 = .ok (.putfield 70, 3) := by decide +kernel
theorem dX10_init_122 : decode cX10_init 122 = .ok (.aload_n 0, 1) := by decide +kernel
theorem dX10_init_123 : decode cX10_init 123 = .ok (.new 67, 3) := by decide +kernel
theorem dX10_init_126 : decode cX10_init 126 = .ok (.dup, 1) := by decide +kernel
theorem dX10_init_127 : decode cX10_init 127 = .ok (.invokespecial 69, 3) := by decide +kernel
theorem dX10_init_130 : decode cX10_init 130 = .ok (.putfield 74, 3) := by decide +kernel
theorem dX10_init_133 : decode cX10_init 133 = .ok (.return_, 1) := by decide +kernel
theorem yy_X11_init : h_yI yX11_init cX11_init 1 0 := ⟨by decide +kernel, hs_6 25 rfl rfl, hs_1 12 rfl rfl, hs_6 24 rfl rfl, rfl, by decide⟩
theorem dX11_init_0 : decode cX11_init 0 = .ok (.aload_n 0, 1) := by decide +kernel
theorem dX11_init_1 : decode cX11_init 1 = .ok (.invokespecial 3, 3) := by decide +kernel
theorem dX11_init_4 : decode cX11_init 4 = .ok (.aload_n 0, 1) := by decide +kernel
theorem dX11_init_5 : decode cX11_init 5 = .ok (.sipush 500, 3) := by decide +kernel
theorem dX11_init_8 : decode cX11_init 8 = .ok (.newarray .int, 2) := by decide +kernel
theorem dX11_init_10 : decode cX11_init 10 = .ok (.putfield 9, 3) := by decide +kernel
theorem dX11_init_13 : decode cX11_init 13 = .ok (.aload_n 0, 1) := by decide +kernel
theorem dX11_init_14 : decode cX11_init 14 = .ok (.sipush 1000, 3) := by decide +kernel
theorem dX11_init_17 : decode cX11_init 17 = .ok (.newarray .int, 2) := by decide +kernel
theorem dX11_init_19 : decode cX11_init 19 = .ok (.putfield 13, 3) := by decide +kernel
theorem dX11_init_22 : decode cX11_init 22 = .ok (.aload_n 0, 1) := by decide +kernel
theorem dX11_init_23 : decode cX11_init 23 = .ok (.sipush 1000, 3) := by decide +kernel
theorem dX11_init_26 : decode cX11_init 26 = .ok (.newarray .int, 2) := by decide +kernel
theorem dX11_init_28 : decode cX11_init 28 = .ok (.putfield 16, 3) := by decide +kernel
theorem dX11_init_31 : decode cX11_init 31 = .ok (.aload_n 0, 1) := by decide +kernel
theorem dX11_init_32 : decode cX11_init 32 = .ok (.sipush 1000, 3) := by decide +kernel
theorem dX11_init_35 : decode cX11_init 35 = .ok (.newarray .int, 2) := by decide +kernel
theorem dX11_init_37 : decode cX11_init 37 = .ok (.putfield 19, 3) := by decide +kernel
theorem dX11_init_40 : decode cX11_init 40 = .ok (.aload_n 0, 1) := by decide +kernel
theorem dX11_init_41 : decode cX11_init 41 = .ok (.sipush 1000, 3) := by decide +kernel
theorem dX11_init_44 : decode cX11_init 44 = .ok (.newarray .int, 2) := by decide +kernel
theorem dX11_init_46 : decode cX11_init 46 = .ok (.putfield 22, 3) := by decide +kernel
theorem dX11_init_49 : decode cX11_init 49 = .ok (.aload_n 0, 1) := by decide +kernel
theorem dX11_init_50 : decode cX11_init 50 = .ok (.sipush 1000, 3) := by decide +kernel
theorem dX11_init_53 : decode cX11_init 53 = .ok (.newarray .int, 2) := by decide +kernel
theorem dX11_init_55 : decode cX11_init 55 = .ok (.putfield 25, 3) := by decide +kernel
theorem dX11_init_58 : decode cX11_init 58 = .ok (.aload_n 0, 1) := by decide +kernel
theorem dX11_init_59 : decode cX11_init 59 = .ok (.sipush 1000, 3) := by decide +kernel
theorem dX11_init_62 : decode cX11_init 62 = .ok (.newarray .int, 2) := by decide +kernel
theorem dX11_init_64 : decode cX11_init 64 = .ok (.putfield 28, 3) := by decide +kernel
theorem dX11_init_67 : decode cX11_init 67 = .ok (.aload_n 0, 1) := by decide +kernel
theorem dX11_init_68 : decode cX11_init 68 = .ok (.sipush 1000, 3) := by decide +kernel
theorem dX11_init_71 : decode cX11_init 71 = .ok (.newarray .boolean, 2) := by decide +kernel
theorem dX11_init_73 : decode cX11_init 73 = .ok (.putfield 31, 3) := by decide +kernel
theorem dX11_init_76 : decode cX11_init 76 = .ok (.aload_n 0, 1) := by decide +kernel
theorem dX11_init_77 : decode cX11_init 77 = .ok (.bipush 48, 2) := by decide +kernel
theorem dX11_init_79 : decode cX11_init 79 = .ok (.newarray .int, 2) := by decide +kernel
theorem dX11_init_81 : decode cX11_init 81 = .ok (.putfield 35, 3) := by decide +kernel
theorem dX11_init_84 : decode cX11_init 84 = .ok (.aload_n 0, 1) := by decide +kernel
theorem dX11_init_85 : decode cX11_init 85 = .ok (.bipush 48, 2) := by decide +kernel
theorem dX11_init_87 : decode cX11_init 87 = .ok (.newarray .int, 2) := by decide +kernel
theorem dX11_init_89 : decode cX11_init 89 = .ok (.putfield 38, 3) := by decide +kernel
theorem dX11_init_92 : decode cX11_init 92 = .ok (.aload_n 0, 1) := by decide +kernel
theorem dX11_init_93 : decode cX11_init 93 = .ok (.bipush 48, 2) := by decide +kernel
theorem dX11_init_95 : decode cX11_init 95 = .ok (.newarray .int, 2) := by decide +kernel
theorem dX11_init_97 : decode cX11_init 97 = .ok (.putfield 41, 3) := by decide +kernel
theorem dX11_init_100 : decode cX11_init 100 = .ok (.aload_n 0, 1) := by decide +kernel
theorem dX11_init_101 : decode cX11_init 101 = .ok (.bipush 48, 2) := by decide +kernel
theorem dX11_init_103 : decode cX11_init 103 = .ok (.newarray .int, 2) := by decide +kernel
theorem dX11_init_105 : decode cX11_init 105 = .ok (.putfield 44, 3) := by decide +kernel
theorem dX11_init_108 : decode cX11_init 108 = .ok (.aload_n 0, 1) := by decide +kernel
theorem dX11_init_109 : decode cX11_init 109 = .ok (.bipush 48, 2) := by decide +kernel
theorem dX11_init_111 : decode cX11_init 111 = .ok (.newarray .int, 2) := by decide +kernel
theorem dX11_init_113 : decode cX11_init 113 = .ok (.putfield 47, 3) := by decide +kernel
theorem dX11_init_116 : decode cX11_init 116 = .ok (.aload_n 0, 1) := by decide +kernel
theorem dX11_init_117 : decode cX11_init 117 = .ok (.bipush 48, 2) := by decide +kernel
theorem dX11_init_119 : decode cX11_init 119 = .ok (.newarray .int, 2) := by decide +kernel
theorem dX11_init_121 : decode cX11_init 121 = .ok (.putfield 50, 3) := by decide +kernel
theorem dX11_init_124 : decode cX11_init 124 = .ok (.aload_n 0, 1) := by decide +kernel
theorem dX11_init_125 : decode cX11_init 125 = .ok (.bipush 48, 2) := by decide +kernel
theorem dX11_init_127 : decode cX11_init 127 = .ok (.newarray .int, 2) := by decide +kernel
theorem dX11_init_129 : decode cX11_init 129 = .ok (.putfield 53, 3) := by decide +kernel
theorem dX11_init_132 : decode cX11_init 132 = .ok (.aload_n 0, 1) := by decide +kernel
theorem dX11_init_133 : decode cX11_init 133 = .ok (.bipush 8, 2) := by decide +kernel
theorem dX11_init_135 : decode cX11_init 135 = .ok (.newarray .int, 2) := by decide +kernel
theorem dX11_init_137 : decode cX11_init 137 = .ok (.putfield 56, 3) := by decide +kernel
theorem dX11_init_140 : decode cX11_init 140 = .ok (.aload_n 0, 1) := by decide +kernel
theorem dX11_init_141 : decode cX11_init 141 = .ok (.bipush 8, 2) := by decide +kernel
theorem dX11_init_143 : decode cX11_init 143 = .ok (.newarray .int, 2) := by decide +kernel
theorem dX11_init_145 : decode cX11_init 145 = .ok (.putfield 59, 3) := by decide +kernel
theorem dX11_init_148 : decode cX11_init 148 = .ok (.aload_n 0, 1) := by decide +kernel
theorem dX11_init_149 : decode cX11_init 149 = .ok (.bipush 8, 2) := by decide +kernel
theorem dX11_init_151 : decode cX11_init 151 = .ok (.newarray .int, 2) := by decide +kernel
theorem dX11_init_153 : decode cX11_init 153 = .ok (.putfield 62, 3) := by decide +kernel
theorem dX11_init_156 : decode cX11_init 156 = .ok (.aload_n 0, 1) := by decide +kernel
theorem dX11_init_157 : decode cX11_init 157 = .ok (.bipush 8, 2) := by decide +kernel
theorem dX11_init_159 : decode cX11_init 159 = .ok (.newarray .int, 2) := by decide +kernel
theorem dX11_init_161 : decode cX11_init 161 = .ok (.putfield 65, 3) := by decide +kernel
theorem dX11_init_164 : decode cX11_init 164 = .ok (.aload_n 0, 1) := by decide +kernel
theorem dX11_init_165 : decode cX11_init 165 = .ok (.bipush 8, 2) := by decide +kernel
theorem dX11_init_167 : decode cX11_init 167 = .ok (.newarray .int, 2) := by decide +kernel
theorem dX11_init_169 : decode cX11_init 169 = .ok (.putfield 68, 3) := by decide +kernel
theorem dX11_init_172 : decode cX11_init 172 = .ok (.aload_n 0, 1) := by decide +kernel
theorem dX11_init_173 : decode cX11_init 173 = .ok (.bipush 8, 2) := by decide +kernel
theorem dX11_init_175 : decode cX11_init 175 = .ok (.newarray .int, 2) := by decide +kernel
theorem dX11_init_177 : decode cX11_init 177 = .ok (.putfield 71, 3) := by decide +kernel
theorem dX11_init_180 : decode cX11_init 180 = .ok (.aload_n 0, 1) := by decide +kernel
theorem dX11_init_181 : decode cX11_init 181 = .ok (.bipush 8, 2) := by decide +kernel
theorem dX11_init_183 : decode cX11_init 183 = .ok (.newarray .int, 2) := by decide +kernel
theorem dX11_init_185 : decode cX11_init 185 = .ok (.putfield 74, 3) := by decide +kernel
theorem dX11_init_188 : decode cX11_init 188 = .ok (.aload_n 0, 1) := by decide +kernel
theorem dX11_init_189 : decode cX11_init 189 = .ok (.bipush 8, 2) := by decide +kernel
theorem dX11_init_191 : decode cX11_init 191 = .ok (.newarray .int, 2) := by decide +kernel
theorem dX11_init_193 : decode cX11_init 193 = .ok (.putfield 77, 3) := by decide +kernel
theorem dX11_init_196 : decode cX11_init 196 = .ok (.aload_n 0, 1) := by decide +kernel
theorem dX11_init_197 : decode cX11_init 197 = .ok (.iconst 3, 1) := by decide +kernel
theorem dX11_init_198 : decode cX11_init 198 = .ok (.newarray .int, 2) := by decide +kernel
theorem dX11_init_200 : decode cX11_init 200 = .ok (.putfield 80, 3) := by decide +kernel
theorem dX11_init_203 : decode cX11_init 203 = .ok (.aload_n 0, 1) := by decide +kernel
theorem dX11_init_204 : decode cX11_init 204 = .ok (.bipush 10, 2) := by decide +kernel
theorem dX11_init_206 : decode cX11_init 206 = .ok (.newarray .int, 2) := by decide +kernel
theorem dX11_init_208 : decode cX11_init 208 = .ok (.putfield 83, 3) := by decide +kernel
theorem dX11_init_211 : decode cX11_init 211 = .ok (.aload_n 0, 1) := by decide +kernel
theorem dX11_init_212 : decode cX11_init 212 = .ok (.bipush 80, 2) := by decide +kernel
theorem dX11_init_214 : decode cX11_init 214 = .ok (.newarray .int, 2) := by decide +kernel
theorem dX11_init_216 : decode cX11_init 216 = .ok (.putfield 86, 3) := by decide +kernel
theorem dX11_init_219 : decode cX11_init 219 = .ok (.aload_n 0, 1) := by decide +kernel
theorem dX11_init_220 : decode cX11_init 220 = .ok (.bipush 80, 2) := by decide +kernel
theorem dX11_init_222 : decode cX11_init 222 = .ok (.newarray .int, 2) := by decide +kernel
theorem dX11_init_224 : decode cX11_init 224 = .ok (.putfield 89, 3) := by decide +kernel
theorem dX11_init_227 : decode cX11_init 227 = .ok (.aload_n 0, 1) := by decide +kernel
theorem dX11_init_228 : decode cX11_init 228 = .ok (.bipush 80, 2) := by decide +kernel
theorem dX11_init_230 : decode cX11_init 230 = .ok (.newarray .int, 2) := by decide +kernel
theorem dX11_init_232 : decode cX11_init 232 = .ok (.putfield 92, 3) := by decide +kernel
theorem dX11_init_235 : decode cX11_init 235 = .ok (.aload_n 0, 1) := by decide +kernel
theorem dX11_init_236 : decode cX11_init 236 = .ok (.sipush 800, 3) := by decide +kernel
theorem dX11_init_239 : decode cX11_init 239 = .ok (.newarray .int, 2) := by decide +kernel
theorem dX11_init_241 : decode cX11_init 241 = .ok (.putfield 95, 3) := by decide +kernel
theorem dX11_init_244 : decode cX11_init 244 = .ok (.aload_n 0, 1) := by decide +kernel
theorem dX11_init_245 : decode cX11_init 245 = .ok (.bipush 10, 2) := by decide +kernel
theorem dX11_init_247 : decode cX11_init 247 = .ok (.newarray .int, 2) := by decide +kernel
theorem dX11_init_249 : decode cX11_init 249 = .ok (.putfield 98, 3) := by decide +kernel
theorem dX11_init_252 : decode cX11_init 252 = .ok (.aload_n 0, 1) := by decide +kernel
theorem dX11_init_253 : decode cX11_init 253 = .ok (.sipush 640, 3) := by decide +kernel
theorem dX11_init_256 : decode cX11_init 256 = .ok (.newarray .long, 2) := by decide +kernel
theorem dX11_init_258 : decode cX11_init 258 = .ok (.putfield 101, 3) := by decide +kernel
theorem dX11_init_261 : decode cX11_init 261 = .ok (.aload_n 0, 1) := by decide +kernel
theorem dX11_init_262 : decode cX11_init 262 = .ok (.sipush 640, 3) := by decide +kernel
theorem dX11_init_265 : decode cX11_init 265 = .ok (.newarray .long, 2) := by decide +kernel
theorem dX11_init_267 : decode cX11_init 267 = .ok (.putfield 105, 3) := by decide +kernel
theorem dX11_init_270 : decode cX11_init 270 = .ok (.aload_n 0, 1) := by decide +kernel
theorem dX11_init_271 : decode cX11_init 271 = .ok (.sipush 640, 3) := by decide +kernel
theorem dX11_init_274 : decode cX11_init 274 = .ok (.newarray .long, 2) := by decide +kernel
theorem dX11_init_276 : decode cX11_init 276 = .ok (.putfield 108, 3) := by decide +kernel
theorem dX11_init_279 : decode cX11_init 279 = .ok (.aload_n 0, 1) := by decide +kernel
theorem dX11_init_280 : decode cX11_init 280 = .ok (.sipush 640, 3) := by decide +kernel
theorem dX11_init_283 : decode cX11_init 283 = .ok (.newarray .long, 2) := by decide +kernel
theorem dX11_init_285 : decode cX11_init 285 = .ok (.putfield 111, 3) := by decide +kernel
theorem dX11_init_288 : decode cX11_init 288 = .ok (.aload_n 0, 1) := by decide +kernel
theorem dX11_init_289 : decode cX11_init 289 = .ok (.sipush 640, 3) := by decide +kernel
theorem dX11_init_292 : decode cX11_init 292 = .ok (.newarray .boolean, 2) := by decide +kernel
theorem dX11_init_294 : decode cX11_init 294 = .ok (.putfield 114, 3) := by decide +kernel
theorem dX11_init_297 : decode cX11_init 297 = .ok (.aload_n 0, 1) := by decide +kernel
theorem dX11_init_298 : decode cX11_init 298 = .ok (.bipush 100, 2) := by decide +kernel
theorem dX11_init_300 : decode cX11_init 300 = .ok (.newarray .boolean, 2) := by decide +kernel
theorem dX11_init_302 : decode cX11_init 302 = .ok (.putfield 117, 3) := by decide +kernel
theorem dX11_init_305 : decode cX11_init 305 = .ok (.aload_n 0, 1) := by decide +kernel
theorem dX11_init_306 : decode cX11_init 306 = .ok (.bipush 10, 2) := by decide +kernel
theorem dX11_init_308 : decode cX11_init 308 = .ok (.newarray .boolean, 2) := by decide +kernel
theorem dX11_init_310 : decode cX11_init 310 = .ok (.putfield 120, 3) := by decide +kernel
theorem dX11_init_313 : decode cX11_init 313 = .ok (.aload_n 0, 1) := by decide +kernel
theorem dX11_init_314 : decode cX11_init 314 = .ok (.bipush 10, 2) := by decide +kernel
theorem dX11_init_316 : decode cX11_init 316 = .ok (.newarray .int, 2) := by decide +kernel
theorem dX11_init_318 : decode cX11_init 318 = .ok (.putfield 123, 3) := by decide +kernel
theorem dX11_init_321 : decode cX11_init 321 = .ok (.aload_n 0, 1) := by decide +kernel
theorem dX11_init_322 : decode cX11_init 322 = .ok (.bipush 10, 2) := by decide +kernel
theorem dX11_init_324 : decode cX11_init 324 = .ok (.newarray .int, 2) := by decide +kernel
theorem dX11_init_326 : decode cX11_init 326 = .ok (.putfield 126, 3) := by decide +kernel
theorem dX11_init_329 : decode cX11_init 329 = .ok (.aload_n 0, 1) := by decide +kernel
theorem dX11_init_330 : decode cX11_init 330 = .ok (.bipush 110, 2) := by decide +kernel
theorem dX11_init_332 : decode cX11_init 332 = .ok (.newarray .long, 2) := by decide +kernel
theorem dX11_init_334 : decode cX11_init 334 = .ok (.putfield 129, 3) := by decide +kernel
theorem dX11_init_337 : decode cX11_init 337 = .ok (.aload_n 0, 1) := by decide +kernel
theorem dX11_init_338 : decode cX11_init 338 = .ok (.bipush 100, 2) := by decide +kernel
theorem dX11_init_340 : decode cX11_init 340 = .ok (.newarray .long, 2) := by decide +kernel
theorem dX11_init_342 : decode cX11_init 342 = .ok (.putfield 132, 3) := by decide +kernel
theorem dX11_init_345 : decode cX11_init 345 = .ok (.aload_n 0, 1) := by decide +kernel
theorem dX11_init_346 : decode cX11_init 346 = .ok (.iconst 3, 1) := by decide +kernel
theorem dX11_init_347 : decode cX11_init 347 = .ok (.newarray .int, 2) := by decide +kernel
theorem dX11_init_349 : decode cX11_init 349 = .ok (.putfield 135, 3) := by decide +kernel
theorem dX11_init_352 : decode cX11_init 352 = .ok (.aload_n 0, 1) := by decide +kernel
theorem dX11_init_353 : decode cX11_init 353 = .ok (.bipush 10, 2) := by decide +kernel
theorem dX11_init_355 : decode cX11_init 355 = .ok (.newarray .long, 2) := by decide +kernel
theorem dX11_init_357 : decode cX11_init 357 = .ok (.putfield 138, 3) := by decide +kernel
theorem dX11_init_360 : decode cX11_init 360 = .ok (.aload_n 0, 1) := by decide +kernel
theorem dX11_init_361 : decode cX11_init 361 = .ok (.bipush 10, 2) := by decide +kernel
theorem dX11_init_363 : decode cX11_init 363 = .ok (.newarray .long, 2) := by decide +kernel
theorem dX11_init_365 : decode cX11_init 365 = .ok (.putfield 141, 3) := by decide +kernel
theorem dX11_init_368 : decode cX11_init 368 = .ok (.aload_n 0, 1) := by decide +kernel
theorem dX11_init_369 : decode cX11_init 369 = .ok (.bipush 100, 2) := by decide +kernel
theorem dX11_init_371 : decode cX11_init 371 = .ok (.newarray .long, 2) := by decide +kernel
theorem dX11_init_373 : decode cX11_init 373 = .ok (.putfield 144, 3) := by decide +kernel
theorem dX11_init_376 : decode cX11_init 376 = .ok (.aload_n 0, 1) := by decide +kernel
theorem dX11_init_377 : decode cX11_init 377 = .ok (.bipush 100, 2) := by decide +kernel
theorem dX11_init_379 : decode cX11_init 379 = .ok (.newarray .long, 2) := by decide +kernel
theorem dX11_init_381 : decode cX11_init 381 = .ok (.putfield 147, 3) := by decide +kernel
theorem dX11_init_384 : decode cX11_init 384 = .ok (.aload_n 0, 1) := by decide +kernel
theorem dX11_init_385 : decode cX11_init 385 = .ok (.bipush 100, 2) := by decide +kernel
theorem dX11_init_387 : decode cX11_init 387 = .ok (.newarray .long, 2) := by decide +kernel
theorem dX11_init_389 : decode cX11_init 389 = .ok (.putfield 150, 3) := by decide +kernel
theorem dX11_init_392 : decode cX11_init 392 = .ok (.aload_n 0, 1) := by decide +kernel
theorem dX11_init_393 : decode cX11_init 393 = .ok (.bipush 100, 2) := by decide +kernel
theorem dX11_init_395 : decode cX11_init 395 = .ok (.newarray .long, 2) := by decide +kernel
theorem dX11_init_397 : decode cX11_init 397 = .ok (.putfield 153, 3) := by decide +kernel
theorem dX11_init_400 : decode cX11_init 400 = .ok (.return_, 1) := by decide +kernel
def x_St (kd : List (Nat × Nat)) : List (Nat × Nat) := kd
def r_St (Rf : Nat → Nat → Option Nat) (a n : Nat) : Nat → Nat → Option Nat := Rf
theorem l_St (kd : List (Nat × Nat)) : (x_St kd).length = kd.length + 0 := rfl
theorem g_St {kd : List (Nat × Nat)} {a : Nat} {u : Nat × Nat} (h : kd[a]? = some u) : (x_St kd)[a]? = some u := h
set_option maxHeartbeats 4000000 in
set_option maxRecDepth 4000 in
theorem c_St (d : Nat) (hd : 0 + 1 ≤ d) {kd : List (Nat × Nat)} {Rf : Nat → Nat → Option Nat} {a n : Nat} (hn : kd.length = n) (ha : kd[a]? = some (13, 0)) : NMet yX8_init cX8_init 1 d kd [.ref a] Rf (x_St kd) (r_St Rf a n) 0 0 := by
  obtain ⟨d0, rfl, hd0⟩ := h_mono hd
  have haL := n_lt ha
  have L0 : kd.length = n + 0 := hn
  have hne : ∀ k, ¬ a = n + k := fun k => by omega
  have hne0 : ¬ a = n := by omega
  refine NMet.of (by decide) rfl (Nat.le_of_ble_eq_true rfl) ?_
  show NW cX8_init 1 RX8 kd (d0 + 1) kd Rf 0 0 [(0, .ref a)] 0 [] (x_St kd) (r_St Rf a n) 0 0
  refine n_aload_n dX8_init_0 rfl rfl ?_
  refine n_objInit om_8 oi_1 oi_2 (Nat.le_of_ble_eq_true rfl) (Nat.le_add_left 1 d0) dX8_init_1 ?_
  exact n_ret dX8_init_4 ⟨rfl, rfl, rfl, rfl⟩
def x_Cd (kd : List (Nat × Nat)) : List (Nat × Nat) := (((((kd ++ [(0, 166)]) ++ [(0, 166)]) ++ [(0, 166)]) ++ [(0, 166)]) ++ [(2, 166)])
def r_Cd (Rf : Nat → Nat → Option Nat) (a n : Nat) : Nat → Nat → Option Nat := (h_u (h_u (h_u (h_u (h_u Rf a 0 (some n)) a 1 (some (n + 1))) a 2 (some (n + 2))) a 3 (some (n + 3))) a 4 (some (n + 4)))
theorem l_Cd (kd : List (Nat × Nat)) : (x_Cd kd).length = kd.length + 5 := by simp only [x_Cd, List.length_append, List.length_cons, List.length_nil, List.length_replicate, l_St]
theorem g_Cd {kd : List (Nat × Nat)} {a : Nat} {u : Nat × Nat} (h : kd[a]? = some u) : (x_Cd kd)[a]? = some u := (n_ap _ (n_ap _ (n_ap _ (n_ap _ (n_ap _ h)))))
set_option maxHeartbeats 4000000 in
set_option maxRecDepth 4000 in
theorem c_Cd (d : Nat) (hd : 0 + 1 ≤ d) {kd : List (Nat × Nat)} {Rf : Nat → Nat → Option Nat} {a n : Nat} (hn : kd.length = n) (ha : kd[a]? = some (5, 0)) : NMet yX0_init cX0_init 1 d kd [.ref a] Rf (x_Cd kd) (r_Cd Rf a n) 5 830 := by
  obtain ⟨d0, rfl, hd0⟩ := h_mono hd
  have haL := n_lt ha
  have L0 : kd.length = n + 0 := hn
  have hne : ∀ k, ¬ a = n + k := fun k => by omega
  have hne0 : ¬ a = n := by omega
  refine NMet.of (by decide) rfl (Nat.le_of_ble_eq_true rfl) ?_
  show NW cX0_init 1 RX0 kd (d0 + 1) kd Rf 0 0 [(0, .ref a)] 0 [] (x_Cd kd) (r_Cd Rf a n) 5 830
  refine n_aload_n dX0_init_0 rfl rfl ?_
  refine n_objInit om_0 oi_1 oi_2 (Nat.le_of_ble_eq_true rfl) (Nat.le_add_left 1 d0) dX0_init_1 ?_
  refine n_aload_n dX0_init_4 rfl rfl ?_
  refine n_sipush dX0_init_5 sq_166 ?_
  refine o_newa0 (n1 := n) (N := 166) L0 ac_int (by decide) (by decide) (by decide) (Nat.le_of_ble_eq_true rfl) (Nat.le_of_ble_eq_true rfl) (n_oklc (n_okr (n_lt ha)) n_okl0) (n_okc (n_okr (n_lt ha)) n_ok0) dX0_init_8 (fun K1 e1 L1 g1 w1 => ?_)
  have ha_1 := g1 _ _ ha
  have L1 : K1.length = n + 1 := L1
  refine n_putF hK_0 ha_1 (n_lt w1) (i := 0) rfl fl_0_9 rfl rfl rfl (fun _ => ⟨rfl, rfl⟩) dX0_init_10 ?_
  refine n_aload_n dX0_init_13 rfl rfl ?_
  refine n_sipush dX0_init_14 sq_166 ?_
  refine o_newa0 (n1 := (n + 1)) (N := 166) L1 ac_int (by decide) (by decide) (by decide) (Nat.le_of_ble_eq_true rfl) (Nat.le_of_ble_eq_true rfl) (n_oklc (n_okr (n_lt ha_1)) n_okl0) (n_okc (n_okr (n_lt ha_1)) n_ok0) dX0_init_17 (fun K2 e2 L2 g2 w2 => ?_)
  have ha_2 := g2 _ _ ha_1
  have L2 : K2.length = n + 2 := L2
  refine n_putF hK_0 ha_2 (n_lt w2) (i := 1) rfl fl_0_15 rfl rfl rfl (fun _ => ⟨rfl, rfl⟩) dX0_init_19 ?_
  refine n_aload_n dX0_init_22 rfl rfl ?_
  refine n_sipush dX0_init_23 sq_166 ?_
  refine o_newa0 (n1 := (n + 2)) (N := 166) L2 ac_int (by decide) (by decide) (by decide) (Nat.le_of_ble_eq_true rfl) (Nat.le_of_ble_eq_true rfl) (n_oklc (n_okr (n_lt ha_2)) n_okl0) (n_okc (n_okr (n_lt ha_2)) n_ok0) dX0_init_26 (fun K3 e3 L3 g3 w3 => ?_)
  have ha_3 := g3 _ _ ha_2
  have L3 : K3.length = n + 3 := L3
  refine n_putF hK_0 ha_3 (n_lt w3) (i := 2) rfl fl_0_18 rfl rfl rfl (fun _ => ⟨rfl, rfl⟩) dX0_init_28 ?_
  refine n_aload_n dX0_init_31 rfl rfl ?_
  refine n_sipush dX0_init_32 sq_166 ?_
  refine o_newa0 (n1 := (n + 3)) (N := 166) L3 ac_int (by decide) (by decide) (by decide) (Nat.le_of_ble_eq_true rfl) (Nat.le_of_ble_eq_true rfl) (n_oklc (n_okr (n_lt ha_3)) n_okl0) (n_okc (n_okr (n_lt ha_3)) n_ok0) dX0_init_35 (fun K4 e4 L4 g4 w4 => ?_)
  have ha_4 := g4 _ _ ha_3
  have L4 : K4.length = n + 4 := L4
  refine n_putF hK_0 ha_4 (n_lt w4) (i := 3) rfl fl_0_21 rfl rfl rfl (fun _ => ⟨rfl, rfl⟩) dX0_init_37 ?_
  refine n_aload_n dX0_init_40 rfl rfl ?_
  refine n_sipush dX0_init_41 sq_166 ?_
  refine o_newa2 (n1 := (n + 4)) (N := 166) L4 ac_boolean (by decide) (by decide) (by decide) (Nat.le_of_ble_eq_true rfl) (Nat.le_of_ble_eq_true rfl) (n_oklc (n_okr (n_lt ha_4)) n_okl0) (n_okc (n_okr (n_lt ha_4)) n_ok0) dX0_init_44 (fun K5 e5 L5 g5 w5 => ?_)
  have ha_5 := g5 _ _ ha_4
  have L5 : K5.length = n + 5 := L5
  refine n_putF hK_0 ha_5 (n_lt w5) (i := 4) rfl fl_0_24 rfl rfl rfl (fun _ => ⟨rfl, rfl⟩) dX0_init_46 ?_
  exact n_ret dX0_init_49 ⟨rfl, rfl, by subst e5 e4 e3 e2 e1; rfl, rfl⟩
def x_Wk (kd : List (Nat × Nat)) : List (Nat × Nat) := kd
def r_Wk (Rf : Nat → Nat → Option Nat) (a n : Nat) : Nat → Nat → Option Nat := Rf
theorem l_Wk (kd : List (Nat × Nat)) : (x_Wk kd).length = kd.length + 0 := rfl
theorem g_Wk {kd : List (Nat × Nat)} {a : Nat} {u : Nat × Nat} (h : kd[a]? = some u) : (x_Wk kd)[a]? = some u := h
set_option maxHeartbeats 4000000 in
set_option maxRecDepth 4000 in
theorem c_Wk (d : Nat) (hd : 0 + 1 ≤ d) {kd : List (Nat × Nat)} {Rf : Nat → Nat → Option Nat} {a n : Nat} (hn : kd.length = n) (ha : kd[a]? = some (14, 0)) : NMet yX9_init cX9_init 1 d kd [.ref a] Rf (x_Wk kd) (r_Wk Rf a n) 0 0 := by
  obtain ⟨d0, rfl, hd0⟩ := h_mono hd
  have haL := n_lt ha
  have L0 : kd.length = n + 0 := hn
  have hne : ∀ k, ¬ a = n + k := fun k => by omega
  have hne0 : ¬ a = n := by omega
  refine NMet.of (by decide) rfl (Nat.le_of_ble_eq_true rfl) ?_
  show NW cX9_init 1 RX9 kd (d0 + 1) kd Rf 0 0 [(0, .ref a)] 0 [] (x_Wk kd) (r_Wk Rf a n) 0 0
  refine n_aload_n dX9_init_0 rfl rfl ?_
  refine n_objInit om_9 oi_1 oi_2 (Nat.le_of_ble_eq_true rfl) (Nat.le_add_left 1 d0) dX9_init_1 ?_
  exact n_ret dX9_init_4 ⟨rfl, rfl, rfl, rfl⟩
def x_Rd (kd : List (Nat × Nat)) : List (Nat × Nat) := ((((kd ++ [(0, 500)]) ++ [(0, 501)]) ++ [(0, 501)]) ++ [(0, 501)])
def r_Rd (Rf : Nat → Nat → Option Nat) (a n : Nat) : Nat → Nat → Option Nat := (h_u (h_u (h_u (h_u Rf a 0 (some n)) a 2 (some (n + 1))) a 3 (some (n + 2))) a 4 (some (n + 3)))
theorem l_Rd (kd : List (Nat × Nat)) : (x_Rd kd).length = kd.length + 4 := by simp only [x_Rd, List.length_append, List.length_cons, List.length_nil, List.length_replicate, l_St, l_Cd, l_Wk]
theorem g_Rd {kd : List (Nat × Nat)} {a : Nat} {u : Nat × Nat} (h : kd[a]? = some u) : (x_Rd kd)[a]? = some u := (n_ap _ (n_ap _ (n_ap _ (n_ap _ h))))
set_option maxHeartbeats 4000000 in
set_option maxRecDepth 4000 in
theorem c_Rd (d : Nat) (hd : 0 + 1 ≤ d) {kd : List (Nat × Nat)} {Rf : Nat → Nat → Option Nat} {a n : Nat} (hn : kd.length = n) (ha : kd[a]? = some (11, 0)) : NMet yX6_init cX6_init 1 d kd [.ref a] Rf (x_Rd kd) (r_Rd Rf a n) 4 2003 := by
  obtain ⟨d0, rfl, hd0⟩ := h_mono hd
  have haL := n_lt ha
  have L0 : kd.length = n + 0 := hn
  have hne : ∀ k, ¬ a = n + k := fun k => by omega
  have hne0 : ¬ a = n := by omega
  refine NMet.of (by decide) rfl (Nat.le_of_ble_eq_true rfl) ?_
  show NW cX6_init 1 RX6 kd (d0 + 1) kd Rf 0 0 [(0, .ref a)] 0 [] (x_Rd kd) (r_Rd Rf a n) 4 2003
  refine n_aload_n dX6_init_0 rfl rfl ?_
  refine n_objInit om_6 oi_1 oi_2 (Nat.le_of_ble_eq_true rfl) (Nat.le_add_left 1 d0) dX6_init_1 ?_
  refine n_aload_n dX6_init_4 rfl rfl ?_
  refine n_sipush dX6_init_5 sq_500 ?_
  refine o_newa0 (n1 := n) (N := 500) L0 ac_int (by decide) (by decide) (by decide) (Nat.le_of_ble_eq_true rfl) (Nat.le_of_ble_eq_true rfl) (n_oklc (n_okr (n_lt ha)) n_okl0) (n_okc (n_okr (n_lt ha)) n_ok0) dX6_init_8 (fun K1 e1 L1 g1 w1 => ?_)
  have ha_1 := g1 _ _ ha
  have L1 : K1.length = n + 1 := L1
  refine n_putF hK_6 ha_1 (n_lt w1) (i := 0) rfl fl_6_9 rfl rfl rfl (fun _ => ⟨rfl, rfl⟩) dX6_init_10 ?_
  refine n_aload_n dX6_init_13 rfl rfl ?_
  refine n_sipush dX6_init_14 sq_501 ?_
  refine o_newa0 (n1 := (n + 1)) (N := 501) L1 ac_int (by decide) (by decide) (by decide) (Nat.le_of_ble_eq_true rfl) (Nat.le_of_ble_eq_true rfl) (n_oklc (n_okr (n_lt ha_1)) n_okl0) (n_okc (n_okr (n_lt ha_1)) n_ok0) dX6_init_17 (fun K2 e2 L2 g2 w2 => ?_)
  have ha_2 := g2 _ _ ha_1
  have L2 : K2.length = n + 2 := L2
  refine n_putF hK_6 ha_2 (n_lt w2) (i := 2) rfl fl_6_15 rfl rfl rfl (fun _ => ⟨rfl, rfl⟩) dX6_init_19 ?_
  refine n_aload_n dX6_init_22 rfl rfl ?_
  refine n_sipush dX6_init_23 sq_501 ?_
  refine o_newa0 (n1 := (n + 2)) (N := 501) L2 ac_int (by decide) (by decide) (by decide) (Nat.le_of_ble_eq_true rfl) (Nat.le_of_ble_eq_true rfl) (n_oklc (n_okr (n_lt ha_2)) n_okl0) (n_okc (n_okr (n_lt ha_2)) n_ok0) dX6_init_26 (fun K3 e3 L3 g3 w3 => ?_)
  have ha_3 := g3 _ _ ha_2
  have L3 : K3.length = n + 3 := L3
  refine n_putF hK_6 ha_3 (n_lt w3) (i := 3) rfl fl_6_18 rfl rfl rfl (fun _ => ⟨rfl, rfl⟩) dX6_init_28 ?_
  refine n_aload_n dX6_init_31 rfl rfl ?_
  refine n_sipush dX6_init_32 sq_501 ?_
  refine o_newa0 (n1 := (n + 3)) (N := 501) L3 ac_int (by decide) (by decide) (by decide) (Nat.le_of_ble_eq_true rfl) (Nat.le_of_ble_eq_true rfl) (n_oklc (n_okr (n_lt ha_3)) n_okl0) (n_okc (n_okr (n_lt ha_3)) n_ok0) dX6_init_35 (fun K4 e4 L4 g4 w4 => ?_)
  have ha_4 := g4 _ _ ha_3
  have L4 : K4.length = n + 4 := L4
  refine n_putF hK_6 ha_4 (n_lt w4) (i := 4) rfl fl_6_21 rfl rfl rfl (fun _ => ⟨rfl, rfl⟩) dX6_init_37 ?_
  exact n_ret dX6_init_40 ⟨rfl, rfl, by subst e4 e3 e2 e1; rfl, rfl⟩
def x_Ro (kd : List (Nat × Nat)) : List (Nat × Nat) := (((((kd ++ [(0, 10)]) ++ [(0, 80)]) ++ [(0, 80)]) ++ [(0, 80)]) ++ [(0, 800)])
def r_Ro (Rf : Nat → Nat → Option Nat) (a n : Nat) : Nat → Nat → Option Nat := (h_u (h_u (h_u (h_u (h_u Rf a 0 (some n)) a 1 (some (n + 1))) a 2 (some (n + 2))) a 3 (some (n + 3))) a 4 (some (n + 4)))
theorem l_Ro (kd : List (Nat × Nat)) : (x_Ro kd).length = kd.length + 5 := by simp only [x_Ro, List.length_append, List.length_cons, List.length_nil, List.length_replicate, l_St, l_Cd, l_Wk, l_Rd]
theorem g_Ro {kd : List (Nat × Nat)} {a : Nat} {u : Nat × Nat} (h : kd[a]? = some u) : (x_Ro kd)[a]? = some u := (n_ap _ (n_ap _ (n_ap _ (n_ap _ (n_ap _ h)))))
set_option maxHeartbeats 4000000 in
set_option maxRecDepth 4000 in
theorem c_Ro (d : Nat) (hd : 0 + 1 ≤ d) {kd : List (Nat × Nat)} {Rf : Nat → Nat → Option Nat} {a n : Nat} (hn : kd.length = n) (ha : kd[a]? = some (12, 0)) : NMet yX7_init cX7_init 1 d kd [.ref a] Rf (x_Ro kd) (r_Ro Rf a n) 5 1050 := by
  obtain ⟨d0, rfl, hd0⟩ := h_mono hd
  have haL := n_lt ha
  have L0 : kd.length = n + 0 := hn
  have hne : ∀ k, ¬ a = n + k := fun k => by omega
  have hne0 : ¬ a = n := by omega
  refine NMet.of (by decide) rfl (Nat.le_of_ble_eq_true rfl) ?_
  show NW cX7_init 1 RX7 kd (d0 + 1) kd Rf 0 0 [(0, .ref a)] 0 [] (x_Ro kd) (r_Ro Rf a n) 5 1050
  refine n_aload_n dX7_init_0 rfl rfl ?_
  refine n_objInit om_7 oi_1 oi_2 (Nat.le_of_ble_eq_true rfl) (Nat.le_add_left 1 d0) dX7_init_1 ?_
  refine n_aload_n dX7_init_4 rfl rfl ?_
  refine n_bipush dX7_init_5 bp_10 ?_
  refine o_newa0 (n1 := n) (N := 10) L0 ac_int (by decide) (by decide) (by decide) (Nat.le_of_ble_eq_true rfl) (Nat.le_of_ble_eq_true rfl) (n_oklc (n_okr (n_lt ha)) n_okl0) (n_okc (n_okr (n_lt ha)) n_ok0) dX7_init_7 (fun K1 e1 L1 g1 w1 => ?_)
  have ha_1 := g1 _ _ ha
  have L1 : K1.length = n + 1 := L1
  refine n_putF hK_7 ha_1 (n_lt w1) (i := 0) rfl fl_7_9 rfl rfl rfl (fun _ => ⟨rfl, rfl⟩) dX7_init_9 ?_
  refine n_aload_n dX7_init_12 rfl rfl ?_
  refine n_bipush dX7_init_13 bp_80 ?_
  refine o_newa0 (n1 := (n + 1)) (N := 80) L1 ac_int (by decide) (by decide) (by decide) (Nat.le_of_ble_eq_true rfl) (Nat.le_of_ble_eq_true rfl) (n_oklc (n_okr (n_lt ha_1)) n_okl0) (n_okc (n_okr (n_lt ha_1)) n_ok0) dX7_init_15 (fun K2 e2 L2 g2 w2 => ?_)
  have ha_2 := g2 _ _ ha_1
  have L2 : K2.length = n + 2 := L2
  refine n_putF hK_7 ha_2 (n_lt w2) (i := 1) rfl fl_7_15 rfl rfl rfl (fun _ => ⟨rfl, rfl⟩) dX7_init_17 ?_
  refine n_aload_n dX7_init_20 rfl rfl ?_
  refine n_bipush dX7_init_21 bp_80 ?_
  refine o_newa0 (n1 := (n + 2)) (N := 80) L2 ac_int (by decide) (by decide) (by decide) (Nat.le_of_ble_eq_true rfl) (Nat.le_of_ble_eq_true rfl) (n_oklc (n_okr (n_lt ha_2)) n_okl0) (n_okc (n_okr (n_lt ha_2)) n_ok0) dX7_init_23 (fun K3 e3 L3 g3 w3 => ?_)
  have ha_3 := g3 _ _ ha_2
  have L3 : K3.length = n + 3 := L3
  refine n_putF hK_7 ha_3 (n_lt w3) (i := 2) rfl fl_7_18 rfl rfl rfl (fun _ => ⟨rfl, rfl⟩) dX7_init_25 ?_
  refine n_aload_n dX7_init_28 rfl rfl ?_
  refine n_bipush dX7_init_29 bp_80 ?_
  refine o_newa0 (n1 := (n + 3)) (N := 80) L3 ac_int (by decide) (by decide) (by decide) (Nat.le_of_ble_eq_true rfl) (Nat.le_of_ble_eq_true rfl) (n_oklc (n_okr (n_lt ha_3)) n_okl0) (n_okc (n_okr (n_lt ha_3)) n_ok0) dX7_init_31 (fun K4 e4 L4 g4 w4 => ?_)
  have ha_4 := g4 _ _ ha_3
  have L4 : K4.length = n + 4 := L4
  refine n_putF hK_7 ha_4 (n_lt w4) (i := 3) rfl fl_7_21 rfl rfl rfl (fun _ => ⟨rfl, rfl⟩) dX7_init_33 ?_
  refine n_aload_n dX7_init_36 rfl rfl ?_
  refine n_sipush dX7_init_37 sq_800 ?_
  refine o_newa0 (n1 := (n + 4)) (N := 800) L4 ac_int (by decide) (by decide) (by decide) (Nat.le_of_ble_eq_true rfl) (Nat.le_of_ble_eq_true rfl) (n_oklc (n_okr (n_lt ha_4)) n_okl0) (n_okc (n_okr (n_lt ha_4)) n_ok0) dX7_init_40 (fun K5 e5 L5 g5 w5 => ?_)
  have ha_5 := g5 _ _ ha_4
  have L5 : K5.length = n + 5 := L5
  refine n_putF hK_7 ha_5 (n_lt w5) (i := 4) rfl fl_7_24 rfl rfl rfl (fun _ => ⟨rfl, rfl⟩) dX7_init_42 ?_
  exact n_ret dX7_init_45 ⟨rfl, rfl, by subst e5 e4 e3 e2 e1; rfl, rfl⟩
def x_Pl (kd : List (Nat × Nat)) : List (Nat × Nat) := (((((((kd ++ [(1, 40)]) ++ [(1, 40)]) ++ [(0, 40)]) ++ [(0, 10)]) ++ [(0, 10)]) ++ [(0, 10)]) ++ [(4, 10)] ++ List.replicate 10 (1, 12))
def r_Pl (Rf : Nat → Nat → Option Nat) (a b n : Nat) : Nat → Nat → Option Nat := (h_u (h_u (n_RJ (h_u (h_u (h_u (h_u (h_u (h_u Rf a 2 (some n)) a 3 (some (n + 1))) a 4 (some (n + 2))) a 5 (some (n + 3))) a 6 (some (n + 4))) a 7 (some (n + 5))) (n + 6) 10) a 8 (some (n + 6))) a 0 (some b))
theorem l_Pl (kd : List (Nat × Nat)) : (x_Pl kd).length = kd.length + 17 := by simp only [x_Pl, List.length_append, List.length_cons, List.length_nil, List.length_replicate, l_St, l_Cd, l_Wk, l_Rd, l_Ro]
theorem g_Pl {kd : List (Nat × Nat)} {a : Nat} {u : Nat × Nat} (h : kd[a]? = some u) : (x_Pl kd)[a]? = some u := (n_ap _ (n_ap _ (n_ap _ (n_ap _ (n_ap _ (n_ap _ (n_ap _ (n_ap _ h))))))))
set_option maxHeartbeats 4000000 in
set_option maxRecDepth 4000 in
theorem c_Pl (d : Nat) (hd : 0 + 1 ≤ d) {kd : List (Nat × Nat)} {Rf : Nat → Nat → Option Nat} {a n b : Nat} (hn : kd.length = n) (ha : kd[a]? = some (10, 0)) (hb : kd[b]? = some (12, 0)) : NMet yX5_init cX5_init 2 d kd [.ref a, .ref b] Rf (x_Pl kd) (r_Pl Rf a b n) 17 280 := by
  obtain ⟨d0, rfl, hd0⟩ := h_mono hd
  have haL := n_lt ha
  have L0 : kd.length = n + 0 := hn
  have hne : ∀ k, ¬ a = n + k := fun k => by omega
  have hne0 : ¬ a = n := by omega
  refine NMet.of (by decide) rfl (Nat.le_of_ble_eq_true rfl) ?_
  show NW cX5_init 2 RX5 kd (d0 + 1) kd Rf 0 0 [(0, .ref a), (1, .ref b)] 0 [] (x_Pl kd) (r_Pl Rf a b n) 17 280
  refine n_aload_n dX5_init_0 rfl rfl ?_
  refine n_objInit om_5 oi_1 oi_2 (Nat.le_of_ble_eq_true rfl) (Nat.le_add_left 1 d0) dX5_init_1 ?_
  refine n_aload_n dX5_init_4 rfl rfl ?_
  refine n_bipush dX5_init_5 bp_40 ?_
  refine o_newa1 (n1 := n) (N := 40) L0 ac_long (by decide) (by decide) (by decide) (Nat.le_of_ble_eq_true rfl) (Nat.le_of_ble_eq_true rfl) (n_oklc (n_okr (n_lt ha)) (n_oklc (n_okr (n_lt hb)) n_okl0)) (n_okc (n_okr (n_lt ha)) n_ok0) dX5_init_7 (fun K1 e1 L1 g1 w1 => ?_)
  have ha_1 := g1 _ _ ha
  have hb_1 := g1 _ _ hb
  have L1 : K1.length = n + 1 := L1
  refine n_putF hK_5 ha_1 (n_lt w1) (i := 2) rfl fl_5_9 rfl rfl rfl (fun _ => ⟨rfl, rfl⟩) dX5_init_9 ?_
  refine n_aload_n dX5_init_12 rfl rfl ?_
  refine n_bipush dX5_init_13 bp_40 ?_
  refine o_newa1 (n1 := (n + 1)) (N := 40) L1 ac_long (by decide) (by decide) (by decide) (Nat.le_of_ble_eq_true rfl) (Nat.le_of_ble_eq_true rfl) (n_oklc (n_okr (n_lt ha_1)) (n_oklc (n_okr (n_lt hb_1)) n_okl0)) (n_okc (n_okr (n_lt ha_1)) n_ok0) dX5_init_15 (fun K2 e2 L2 g2 w2 => ?_)
  have ha_2 := g2 _ _ ha_1
  have hb_2 := g2 _ _ hb_1
  have L2 : K2.length = n + 2 := L2
  refine n_putF hK_5 ha_2 (n_lt w2) (i := 3) rfl fl_5_15 rfl rfl rfl (fun _ => ⟨rfl, rfl⟩) dX5_init_17 ?_
  refine n_aload_n dX5_init_20 rfl rfl ?_
  refine n_bipush dX5_init_21 bp_40 ?_
  refine o_newa0 (n1 := (n + 2)) (N := 40) L2 ac_int (by decide) (by decide) (by decide) (Nat.le_of_ble_eq_true rfl) (Nat.le_of_ble_eq_true rfl) (n_oklc (n_okr (n_lt ha_2)) (n_oklc (n_okr (n_lt hb_2)) n_okl0)) (n_okc (n_okr (n_lt ha_2)) n_ok0) dX5_init_23 (fun K3 e3 L3 g3 w3 => ?_)
  have ha_3 := g3 _ _ ha_2
  have hb_3 := g3 _ _ hb_2
  have L3 : K3.length = n + 3 := L3
  refine n_putF hK_5 ha_3 (n_lt w3) (i := 4) rfl fl_5_18 rfl rfl rfl (fun _ => ⟨rfl, rfl⟩) dX5_init_25 ?_
  refine n_aload_n dX5_init_28 rfl rfl ?_
  refine n_bipush dX5_init_29 bp_10 ?_
  refine o_newa0 (n1 := (n + 3)) (N := 10) L3 ac_int (by decide) (by decide) (by decide) (Nat.le_of_ble_eq_true rfl) (Nat.le_of_ble_eq_true rfl) (n_oklc (n_okr (n_lt ha_3)) (n_oklc (n_okr (n_lt hb_3)) n_okl0)) (n_okc (n_okr (n_lt ha_3)) n_ok0) dX5_init_31 (fun K4 e4 L4 g4 w4 => ?_)
  have ha_4 := g4 _ _ ha_3
  have hb_4 := g4 _ _ hb_3
  have L4 : K4.length = n + 4 := L4
  refine n_putF hK_5 ha_4 (n_lt w4) (i := 5) rfl fl_5_22 rfl rfl rfl (fun _ => ⟨rfl, rfl⟩) dX5_init_33 ?_
  refine n_aload_n dX5_init_36 rfl rfl ?_
  refine n_bipush dX5_init_37 bp_10 ?_
  refine o_newa0 (n1 := (n + 4)) (N := 10) L4 ac_int (by decide) (by decide) (by decide) (Nat.le_of_ble_eq_true rfl) (Nat.le_of_ble_eq_true rfl) (n_oklc (n_okr (n_lt ha_4)) (n_oklc (n_okr (n_lt hb_4)) n_okl0)) (n_okc (n_okr (n_lt ha_4)) n_ok0) dX5_init_39 (fun K5 e5 L5 g5 w5 => ?_)
  have ha_5 := g5 _ _ ha_4
  have hb_5 := g5 _ _ hb_4
  have L5 : K5.length = n + 5 := L5
  refine n_putF hK_5 ha_5 (n_lt w5) (i := 6) rfl fl_5_25 rfl rfl rfl (fun _ => ⟨rfl, rfl⟩) dX5_init_41 ?_
  refine n_aload_n dX5_init_44 rfl rfl ?_
  refine n_bipush dX5_init_45 bp_10 ?_
  refine o_newa0 (n1 := (n + 5)) (N := 10) L5 ac_int (by decide) (by decide) (by decide) (Nat.le_of_ble_eq_true rfl) (Nat.le_of_ble_eq_true rfl) (n_oklc (n_okr (n_lt ha_5)) (n_oklc (n_okr (n_lt hb_5)) n_okl0)) (n_okc (n_okr (n_lt ha_5)) n_ok0) dX5_init_47 (fun K6 e6 L6 g6 w6 => ?_)
  have ha_6 := g6 _ _ ha_5
  have hb_6 := g6 _ _ hb_5
  have L6 : K6.length = n + 6 := L6
  refine n_putF hK_5 ha_6 (n_lt w6) (i := 7) rfl fl_5_28 rfl rfl rfl (fun _ => ⟨rfl, rfl⟩) dX5_init_49 ?_
  refine n_aload_n dX5_init_52 rfl rfl ?_
  refine n_bipush dX5_init_53 bp_10 ?_
  refine n_bipush dX5_init_55 bp_12 ?_
  refine o_mna (n1 := (n + 6)) (N := 10) (K0 := 12) L6 cl_5_31 ac_long (by decide) (by decide) (by decide) (by decide) (by decide) (by decide) (by decide) (Nat.le_of_ble_eq_true rfl) (Nat.le_of_ble_eq_true rfl) (n_oklc (n_okr (n_lt ha_6)) (n_oklc (n_okr (n_lt hb_6)) n_okl0)) (n_okc (n_okr (n_lt ha_6)) n_ok0) dX5_init_57 (fun K7 e7 L7 g7 w7 => ?_)
  have ha_7 := g7 _ _ ha_6
  have hb_7 := g7 _ _ hb_6
  have L7 : K7.length = n + 17 := L7
  refine n_putF hK_5 ha_7 (n_lt w7) (i := 8) rfl fl_5_33 rfl rfl rfl (fun _ => ⟨rfl, rfl⟩) dX5_init_61 ?_
  refine n_aload_n dX5_init_64 rfl rfl ?_
  refine n_aload_n dX5_init_65 rfl rfl ?_
  refine n_putF hK_5 ha_7 (n_lt hb_7) (i := 0) rfl fl_5_36 rfl rfl rfl (fun _ => ⟨rfl, rfl⟩) dX5_init_66 ?_
  exact n_ret dX5_init_69 ⟨rfl, rfl, by subst e7 e6 e5 e4 e3 e2 e1; rfl, rfl⟩
def x_Hz (kd : List (Nat × Nat)) : List (Nat × Nat) := ((kd ++ [(4, 4)] ++ List.replicate 4 (1, 210)) ++ [(0, 4)])
def r_Hz (Rf : Nat → Nat → Option Nat) (a b n : Nat) : Nat → Nat → Option Nat := (h_u (h_u (h_u (n_RJ Rf n 4) a 1 (some n)) a 2 (some (n + 5))) a 0 (some b))
theorem l_Hz (kd : List (Nat × Nat)) : (x_Hz kd).length = kd.length + 6 := by simp only [x_Hz, List.length_append, List.length_cons, List.length_nil, List.length_replicate, l_St, l_Cd, l_Wk, l_Rd, l_Ro, l_Pl]
theorem g_Hz {kd : List (Nat × Nat)} {a : Nat} {u : Nat × Nat} (h : kd[a]? = some u) : (x_Hz kd)[a]? = some u := (n_ap _ (n_ap _ (n_ap _ h)))
set_option maxHeartbeats 4000000 in
set_option maxRecDepth 4000 in
theorem c_Hz (d : Nat) (hd : 0 + 1 ≤ d) {kd : List (Nat × Nat)} {Rf : Nat → Nat → Option Nat} {a n b : Nat} (hn : kd.length = n) (ha : kd[a]? = some (8, 0)) (hb : kd[b]? = some (12, 0)) : NMet yX3_init cX3_init 2 d kd [.ref a, .ref b] Rf (x_Hz kd) (r_Hz Rf a b n) 6 848 := by
  obtain ⟨d0, rfl, hd0⟩ := h_mono hd
  have haL := n_lt ha
  have L0 : kd.length = n + 0 := hn
  have hne : ∀ k, ¬ a = n + k := fun k => by omega
  have hne0 : ¬ a = n := by omega
  refine NMet.of (by decide) rfl (Nat.le_of_ble_eq_true rfl) ?_
  show NW cX3_init 2 RX3 kd (d0 + 1) kd Rf 0 0 [(0, .ref a), (1, .ref b)] 0 [] (x_Hz kd) (r_Hz Rf a b n) 6 848
  refine n_aload_n dX3_init_0 rfl rfl ?_
  refine n_objInit om_3 oi_1 oi_2 (Nat.le_of_ble_eq_true rfl) (Nat.le_add_left 1 d0) dX3_init_1 ?_
  refine n_aload_n dX3_init_4 rfl rfl ?_
  refine n_iconst dX3_init_5 ic_4 ?_
  refine n_sipush dX3_init_6 sq_210 ?_
  refine o_mna (n1 := n) (N := 4) (K0 := 210) L0 cl_3_9 ac_long (by decide) (by decide) (by decide) (by decide) (by decide) (by decide) (by decide) (Nat.le_of_ble_eq_true rfl) (Nat.le_of_ble_eq_true rfl) (n_oklc (n_okr (n_lt ha)) (n_oklc (n_okr (n_lt hb)) n_okl0)) (n_okc (n_okr (n_lt ha)) n_ok0) dX3_init_9 (fun K1 e1 L1 g1 w1 => ?_)
  have ha_1 := g1 _ _ ha
  have hb_1 := g1 _ _ hb
  have L1 : K1.length = n + 5 := L1
  refine n_putF hK_3 ha_1 (n_lt w1) (i := 1) rfl fl_3_11 rfl rfl rfl (fun _ => ⟨rfl, rfl⟩) dX3_init_13 ?_
  refine n_aload_n dX3_init_16 rfl rfl ?_
  refine n_iconst dX3_init_17 ic_4 ?_
  refine o_newa0 (n1 := (n + 5)) (N := 4) L1 ac_int (by decide) (by decide) (by decide) (Nat.le_of_ble_eq_true rfl) (Nat.le_of_ble_eq_true rfl) (n_oklc (n_okr (n_lt ha_1)) (n_oklc (n_okr (n_lt hb_1)) n_okl0)) (n_okc (n_okr (n_lt ha_1)) n_ok0) dX3_init_18 (fun K2 e2 L2 g2 w2 => ?_)
  have ha_2 := g2 _ _ ha_1
  have hb_2 := g2 _ _ hb_1
  have L2 : K2.length = n + 6 := L2
  refine n_putF hK_3 ha_2 (n_lt w2) (i := 2) rfl fl_3_16 rfl rfl rfl (fun _ => ⟨rfl, rfl⟩) dX3_init_20 ?_
  refine n_aload_n dX3_init_23 rfl rfl ?_
  refine n_aload_n dX3_init_24 rfl rfl ?_
  refine n_putF hK_3 ha_2 (n_lt hb_2) (i := 0) rfl fl_3_20 rfl rfl rfl (fun _ => ⟨rfl, rfl⟩) dX3_init_25 ?_
  exact n_ret dX3_init_28 ⟨rfl, rfl, by subst e2 e1; rfl, rfl⟩
def x_Co (kd : List (Nat × Nat)) : List (Nat × Nat) := (((((((kd ++ [(4, 4)] ++ List.replicate 4 (1, 92)) ++ [(1, 3)]) ++ [(1, 3)]) ++ [(1, 2)]) ++ [(1, 2)]) ++ [(1, 4)]) ++ [(4, 10)] ++ List.replicate 10 (1, 4))
def r_Co (Rf : Nat → Nat → Option Nat) (a b n : Nat) : Nat → Nat → Option Nat := (h_u (h_u (n_RJ (h_u (h_u (h_u (h_u (h_u (h_u (n_RJ Rf n 4) a 3 (some n)) a 6 (some (n + 5))) a 7 (some (n + 6))) a 11 (some (n + 7))) a 12 (some (n + 8))) a 13 (some (n + 9))) (n + 10) 10) a 14 (some (n + 10))) a 0 (some b))
theorem l_Co (kd : List (Nat × Nat)) : (x_Co kd).length = kd.length + 21 := by simp only [x_Co, List.length_append, List.length_cons, List.length_nil, List.length_replicate, l_St, l_Cd, l_Wk, l_Rd, l_Ro, l_Pl, l_Hz]
theorem g_Co {kd : List (Nat × Nat)} {a : Nat} {u : Nat × Nat} (h : kd[a]? = some u) : (x_Co kd)[a]? = some u := (n_ap _ (n_ap _ (n_ap _ (n_ap _ (n_ap _ (n_ap _ (n_ap _ (n_ap _ (n_ap _ h)))))))))
set_option maxHeartbeats 4000000 in
set_option maxRecDepth 4000 in
theorem c_Co (d : Nat) (hd : 0 + 1 ≤ d) {kd : List (Nat × Nat)} {Rf : Nat → Nat → Option Nat} {a n b : Nat} (hn : kd.length = n) (ha : kd[a]? = some (6, 0)) (hb : kd[b]? = some (12, 0)) : NMet yX1_init cX1_init 2 d kd [.ref a, .ref b] Rf (x_Co kd) (r_Co Rf a b n) 21 436 := by
  obtain ⟨d0, rfl, hd0⟩ := h_mono hd
  have haL := n_lt ha
  have L0 : kd.length = n + 0 := hn
  have hne : ∀ k, ¬ a = n + k := fun k => by omega
  have hne0 : ¬ a = n := by omega
  refine NMet.of (by decide) rfl (Nat.le_of_ble_eq_true rfl) ?_
  show NW cX1_init 2 RX1 kd (d0 + 1) kd Rf 0 0 [(0, .ref a), (1, .ref b)] 0 [] (x_Co kd) (r_Co Rf a b n) 21 436
  refine n_aload_n dX1_init_0 rfl rfl ?_
  refine n_objInit om_1 oi_1 oi_2 (Nat.le_of_ble_eq_true rfl) (Nat.le_add_left 1 d0) dX1_init_1 ?_
  refine n_aload_n dX1_init_4 rfl rfl ?_
  refine n_iconst dX1_init_5 ic_4 ?_
  refine n_bipush dX1_init_6 bp_92 ?_
  refine o_mna (n1 := n) (N := 4) (K0 := 92) L0 cl_1_9 ac_long (by decide) (by decide) (by decide) (by decide) (by decide) (by decide) (by decide) (Nat.le_of_ble_eq_true rfl) (Nat.le_of_ble_eq_true rfl) (n_oklc (n_okr (n_lt ha)) (n_oklc (n_okr (n_lt hb)) n_okl0)) (n_okc (n_okr (n_lt ha)) n_ok0) dX1_init_8 (fun K1 e1 L1 g1 w1 => ?_)
  have ha_1 := g1 _ _ ha
  have hb_1 := g1 _ _ hb
  have L1 : K1.length = n + 5 := L1
  refine n_putF hK_1 ha_1 (n_lt w1) (i := 3) rfl fl_1_11 rfl rfl rfl (fun _ => ⟨rfl, rfl⟩) dX1_init_12 ?_
  refine n_aload_n dX1_init_15 rfl rfl ?_
  refine n_iconst dX1_init_16 ic_3 ?_
  refine o_newa1 (n1 := (n + 5)) (N := 3) L1 ac_long (by decide) (by decide) (by decide) (Nat.le_of_ble_eq_true rfl) (Nat.le_of_ble_eq_true rfl) (n_oklc (n_okr (n_lt ha_1)) (n_oklc (n_okr (n_lt hb_1)) n_okl0)) (n_okc (n_okr (n_lt ha_1)) n_ok0) dX1_init_17 (fun K2 e2 L2 g2 w2 => ?_)
  have ha_2 := g2 _ _ ha_1
  have hb_2 := g2 _ _ hb_1
  have L2 : K2.length = n + 6 := L2
  refine n_putF hK_1 ha_2 (n_lt w2) (i := 6) rfl fl_1_16 rfl rfl rfl (fun _ => ⟨rfl, rfl⟩) dX1_init_19 ?_
  refine n_aload_n dX1_init_22 rfl rfl ?_
  refine n_iconst dX1_init_23 ic_3 ?_
  refine o_newa1 (n1 := (n + 6)) (N := 3) L2 ac_long (by decide) (by decide) (by decide) (Nat.le_of_ble_eq_true rfl) (Nat.le_of_ble_eq_true rfl) (n_oklc (n_okr (n_lt ha_2)) (n_oklc (n_okr (n_lt hb_2)) n_okl0)) (n_okc (n_okr (n_lt ha_2)) n_ok0) dX1_init_24 (fun K3 e3 L3 g3 w3 => ?_)
  have ha_3 := g3 _ _ ha_2
  have hb_3 := g3 _ _ hb_2
  have L3 : K3.length = n + 7 := L3
  refine n_putF hK_1 ha_3 (n_lt w3) (i := 7) rfl fl_1_20 rfl rfl rfl (fun _ => ⟨rfl, rfl⟩) dX1_init_26 ?_
  refine n_aload_n dX1_init_29 rfl rfl ?_
  refine n_iconst dX1_init_30 ic_2 ?_
  refine o_newa1 (n1 := (n + 7)) (N := 2) L3 ac_long (by decide) (by decide) (by decide) (Nat.le_of_ble_eq_true rfl) (Nat.le_of_ble_eq_true rfl) (n_oklc (n_okr (n_lt ha_3)) (n_oklc (n_okr (n_lt hb_3)) n_okl0)) (n_okc (n_okr (n_lt ha_3)) n_ok0) dX1_init_31 (fun K4 e4 L4 g4 w4 => ?_)
  have ha_4 := g4 _ _ ha_3
  have hb_4 := g4 _ _ hb_3
  have L4 : K4.length = n + 8 := L4
  refine n_putF hK_1 ha_4 (n_lt w4) (i := 11) rfl fl_1_23 rfl rfl rfl (fun _ => ⟨rfl, rfl⟩) dX1_init_33 ?_
  refine n_aload_n dX1_init_36 rfl rfl ?_
  refine n_iconst dX1_init_37 ic_2 ?_
  refine o_newa1 (n1 := (n + 8)) (N := 2) L4 ac_long (by decide) (by decide) (by decide) (Nat.le_of_ble_eq_true rfl) (Nat.le_of_ble_eq_true rfl) (n_oklc (n_okr (n_lt ha_4)) (n_oklc (n_okr (n_lt hb_4)) n_okl0)) (n_okc (n_okr (n_lt ha_4)) n_ok0) dX1_init_38 (fun K5 e5 L5 g5 w5 => ?_)
  have ha_5 := g5 _ _ ha_4
  have hb_5 := g5 _ _ hb_4
  have L5 : K5.length = n + 9 := L5
  refine n_putF hK_1 ha_5 (n_lt w5) (i := 12) rfl fl_1_26 rfl rfl rfl (fun _ => ⟨rfl, rfl⟩) dX1_init_40 ?_
  refine n_aload_n dX1_init_43 rfl rfl ?_
  refine n_iconst dX1_init_44 ic_4 ?_
  refine o_newa1 (n1 := (n + 9)) (N := 4) L5 ac_long (by decide) (by decide) (by decide) (Nat.le_of_ble_eq_true rfl) (Nat.le_of_ble_eq_true rfl) (n_oklc (n_okr (n_lt ha_5)) (n_oklc (n_okr (n_lt hb_5)) n_okl0)) (n_okc (n_okr (n_lt ha_5)) n_ok0) dX1_init_45 (fun K6 e6 L6 g6 w6 => ?_)
  have ha_6 := g6 _ _ ha_5
  have hb_6 := g6 _ _ hb_5
  have L6 : K6.length = n + 10 := L6
  refine n_putF hK_1 ha_6 (n_lt w6) (i := 13) rfl fl_1_29 rfl rfl rfl (fun _ => ⟨rfl, rfl⟩) dX1_init_47 ?_
  refine n_aload_n dX1_init_50 rfl rfl ?_
  refine n_bipush dX1_init_51 bp_10 ?_
  refine n_iconst dX1_init_53 ic_4 ?_
  refine o_mna (n1 := (n + 10)) (N := 10) (K0 := 4) L6 cl_1_9 ac_long (by decide) (by decide) (by decide) (by decide) (by decide) (by decide) (by decide) (Nat.le_of_ble_eq_true rfl) (Nat.le_of_ble_eq_true rfl) (n_oklc (n_okr (n_lt ha_6)) (n_oklc (n_okr (n_lt hb_6)) n_okl0)) (n_okc (n_okr (n_lt ha_6)) n_ok0) dX1_init_54 (fun K7 e7 L7 g7 w7 => ?_)
  have ha_7 := g7 _ _ ha_6
  have hb_7 := g7 _ _ hb_6
  have L7 : K7.length = n + 21 := L7
  refine n_putF hK_1 ha_7 (n_lt w7) (i := 14) rfl fl_1_32 rfl rfl rfl (fun _ => ⟨rfl, rfl⟩) dX1_init_58 ?_
  refine n_aload_n dX1_init_61 rfl rfl ?_
  refine n_aload_n dX1_init_62 rfl rfl ?_
  refine n_putF hK_1 ha_7 (n_lt hb_7) (i := 0) rfl fl_1_35 rfl rfl rfl (fun _ => ⟨rfl, rfl⟩) dX1_init_63 ?_
  exact n_ret dX1_init_66 ⟨rfl, rfl, by subst e7 e6 e5 e4 e3 e2 e1; rfl, rfl⟩
def x_Gt (kd : List (Nat × Nat)) : List (Nat × Nat) := (((((((x_Cd (kd ++ [(5, 0)])) ++ [(0, 8)]) ++ [(0, 8)]) ++ [(0, 8)]) ++ [(0, 8)]) ++ [(0, 8)]) ++ [(0, 8)])
def r_Gt (Rf : Nat → Nat → Option Nat) (a n : Nat) : Nat → Nat → Option Nat := (h_u (h_u (h_u (h_u (h_u (h_u (h_u (r_Cd Rf n (n + 1)) a 0 (some n)) a 1 (some (n + 6))) a 2 (some (n + 7))) a 3 (some (n + 8))) a 4 (some (n + 9))) a 5 (some (n + 10))) a 6 (some (n + 11)))
theorem l_Gt (kd : List (Nat × Nat)) : (x_Gt kd).length = kd.length + 12 := by simp only [x_Gt, List.length_append, List.length_cons, List.length_nil, List.length_replicate, l_St, l_Cd, l_Wk, l_Rd, l_Ro, l_Pl, l_Hz, l_Co]
theorem g_Gt {kd : List (Nat × Nat)} {a : Nat} {u : Nat × Nat} (h : kd[a]? = some u) : (x_Gt kd)[a]? = some u := (n_ap _ (n_ap _ (n_ap _ (n_ap _ (n_ap _ (n_ap _ (g_Cd (n_ap _ h))))))))
set_option maxHeartbeats 4000000 in
set_option maxRecDepth 4000 in
theorem c_Gt (d : Nat) (hd : 1 + 1 ≤ d) {kd : List (Nat × Nat)} {Rf : Nat → Nat → Option Nat} {a n : Nat} (hn : kd.length = n) (ha : kd[a]? = some (7, 0)) : NMet yX2_init cX2_init 1 d kd [.ref a] Rf (x_Gt kd) (r_Gt Rf a n) 12 884 := by
  obtain ⟨d0, rfl, hd0⟩ := h_mono hd
  have haL := n_lt ha
  have L0 : kd.length = n + 0 := hn
  have hne : ∀ k, ¬ a = n + k := fun k => by omega
  have hne0 : ¬ a = n := by omega
  refine NMet.of (by decide) rfl (Nat.le_of_ble_eq_true rfl) ?_
  show NW cX2_init 1 RX2 kd (d0 + 1) kd Rf 0 0 [(0, .ref a)] 0 [] (x_Gt kd) (r_Gt Rf a n) 12 884
  refine n_aload_n dX2_init_0 rfl rfl ?_
  refine n_objInit om_2 oi_1 oi_2 (Nat.le_of_ble_eq_true rfl) (Nat.le_add_left 1 d0) dX2_init_1 ?_
  refine n_aload_n dX2_init_4 rfl rfl ?_
  refine o_new (u := 5) (n1 := n) rfl L0 hK_0 dv_0 cl_2_9 it_0 ini_0 (Nat.le_of_ble_eq_true rfl) (Nat.le_of_ble_eq_true rfl) (n_oklc (n_okr (n_lt ha)) n_okl0) (n_okc (n_okr (n_lt ha)) n_ok0) dX2_init_5 (fun K1 e1 L1 g1 w1 => ?_)
  have ha_1 := g1 _ _ ha
  have L1 : K1.length = n + 1 := L1
  refine n_dup dX2_init_8 rfl ?_
  refine o_callN (n1 := (n + 1)) (j1 := 5) [.ref n, .ref a] L1 (l_Cd _) (fun _ _ h => g_Cd h) yy_X0_init ml_2_11 (c_Cd d0 (Nat.le_trans (by decide) hd0) L1 w1) rfl rfl (Nat.le_of_ble_eq_true rfl) (Nat.le_of_ble_eq_true rfl) (Nat.le_of_ble_eq_true rfl) (n_oklc (n_okr (n_lt ha_1)) n_okl0) (n_okc (n_okr (n_lt w1)) (n_okc (n_okr (n_lt ha_1)) n_ok0)) dX2_init_9 (fun K2 e2 L2 g2 => ?_)
  have ha_2 := g2 _ _ ha_1
  have hn_2 := g2 _ _ w1
  have L2 : K2.length = n + 6 := L2
  refine n_putF hK_2 ha_2 (n_lt hn_2) (i := 0) rfl fl_2_12 rfl rfl rfl (fun _ => ⟨rfl, rfl⟩) dX2_init_12 ?_
  refine n_aload_n dX2_init_15 rfl rfl ?_
  refine n_bipush dX2_init_16 bp_8 ?_
  refine o_newa0 (n1 := (n + 6)) (N := 8) L2 ac_int (by decide) (by decide) (by decide) (Nat.le_of_ble_eq_true rfl) (Nat.le_of_ble_eq_true rfl) (n_oklc (n_okr (n_lt ha_2)) n_okl0) (n_okc (n_okr (n_lt ha_2)) n_ok0) dX2_init_18 (fun K3 e3 L3 g3 w3 => ?_)
  have ha_3 := g3 _ _ ha_2
  have L3 : K3.length = n + 7 := L3
  refine n_putF hK_2 ha_3 (n_lt w3) (i := 1) rfl fl_2_18 rfl rfl rfl (fun _ => ⟨rfl, rfl⟩) dX2_init_20 ?_
  refine n_aload_n dX2_init_23 rfl rfl ?_
  refine n_bipush dX2_init_24 bp_8 ?_
  refine o_newa0 (n1 := (n + 7)) (N := 8) L3 ac_int (by decide) (by decide) (by decide) (Nat.le_of_ble_eq_true rfl) (Nat.le_of_ble_eq_true rfl) (n_oklc (n_okr (n_lt ha_3)) n_okl0) (n_okc (n_okr (n_lt ha_3)) n_ok0) dX2_init_26 (fun K4 e4 L4 g4 w4 => ?_)
  have ha_4 := g4 _ _ ha_3
  have L4 : K4.length = n + 8 := L4
  refine n_putF hK_2 ha_4 (n_lt w4) (i := 2) rfl fl_2_22 rfl rfl rfl (fun _ => ⟨rfl, rfl⟩) dX2_init_28 ?_
  refine n_aload_n dX2_init_31 rfl rfl ?_
  refine n_bipush dX2_init_32 bp_8 ?_
  refine o_newa0 (n1 := (n + 8)) (N := 8) L4 ac_int (by decide) (by decide) (by decide) (Nat.le_of_ble_eq_true rfl) (Nat.le_of_ble_eq_true rfl) (n_oklc (n_okr (n_lt ha_4)) n_okl0) (n_okc (n_okr (n_lt ha_4)) n_ok0) dX2_init_34 (fun K5 e5 L5 g5 w5 => ?_)
  have ha_5 := g5 _ _ ha_4
  have L5 : K5.length = n + 9 := L5
  refine n_putF hK_2 ha_5 (n_lt w5) (i := 3) rfl fl_2_25 rfl rfl rfl (fun _ => ⟨rfl, rfl⟩) dX2_init_36 ?_
  refine n_aload_n dX2_init_39 rfl rfl ?_
  refine n_bipush dX2_init_40 bp_8 ?_
  refine o_newa0 (n1 := (n + 9)) (N := 8) L5 ac_int (by decide) (by decide) (by decide) (Nat.le_of_ble_eq_true rfl) (Nat.le_of_ble_eq_true rfl) (n_oklc (n_okr (n_lt ha_5)) n_okl0) (n_okc (n_okr (n_lt ha_5)) n_ok0) dX2_init_42 (fun K6 e6 L6 g6 w6 => ?_)
  have ha_6 := g6 _ _ ha_5
  have L6 : K6.length = n + 10 := L6
  refine n_putF hK_2 ha_6 (n_lt w6) (i := 4) rfl fl_2_28 rfl rfl rfl (fun _ => ⟨rfl, rfl⟩) dX2_init_44 ?_
  refine n_aload_n dX2_init_47 rfl rfl ?_
  refine n_bipush dX2_init_48 bp_8 ?_
  refine o_newa0 (n1 := (n + 10)) (N := 8) L6 ac_int (by decide) (by decide) (by decide) (Nat.le_of_ble_eq_true rfl) (Nat.le_of_ble_eq_true rfl) (n_oklc (n_okr (n_lt ha_6)) n_okl0) (n_okc (n_okr (n_lt ha_6)) n_ok0) dX2_init_50 (fun K7 e7 L7 g7 w7 => ?_)
  have ha_7 := g7 _ _ ha_6
  have L7 : K7.length = n + 11 := L7
  refine n_putF hK_2 ha_7 (n_lt w7) (i := 5) rfl fl_2_31 rfl rfl rfl (fun _ => ⟨rfl, rfl⟩) dX2_init_52 ?_
  refine n_aload_n dX2_init_55 rfl rfl ?_
  refine n_bipush dX2_init_56 bp_8 ?_
  refine o_newa0 (n1 := (n + 11)) (N := 8) L7 ac_int (by decide) (by decide) (by decide) (Nat.le_of_ble_eq_true rfl) (Nat.le_of_ble_eq_true rfl) (n_oklc (n_okr (n_lt ha_7)) n_okl0) (n_okc (n_okr (n_lt ha_7)) n_ok0) dX2_init_58 (fun K8 e8 L8 g8 w8 => ?_)
  have ha_8 := g8 _ _ ha_7
  have L8 : K8.length = n + 12 := L8
  refine n_putF hK_2 ha_8 (n_lt w8) (i := 6) rfl fl_2_34 rfl rfl rfl (fun _ => ⟨rfl, rfl⟩) dX2_init_60 ?_
  exact n_ret dX2_init_63 ⟨rfl, rfl, by subst e8 e7 e6 e5 e4 e3 e2 e1; rfl, rfl⟩
def x_M (kd : List (Nat × Nat)) : List (Nat × Nat) := kd ++ [(0, 500), (0, 1000), (0, 1000), (0, 1000), (0, 1000), (0, 1000), (0, 1000), (2, 1000), (0, 48), (0, 48), (0, 48), (0, 48), (0, 48), (0, 48), (0, 48), (0, 8), (0, 8), (0, 8), (0, 8), (0, 8), (0, 8), (0, 8), (0, 8), (0, 3), (0, 10), (0, 80), (0, 80), (0, 80), (0, 800), (0, 10), (1, 640), (1, 640), (1, 640), (1, 640), (2, 640), (2, 100), (2, 10), (0, 10), (0, 10), (1, 110), (1, 100), (0, 3), (1, 10), (1, 10), (1, 100), (1, 100), (1, 100), (1, 100)]
theorem n_ex {K K2 kd l l2 : List (Nat × Nat)} {u : Nat × Nat} (E : K = kd ++ l) (h : K2 = K ++ [u]) (hl : l ++ [u] = l2) : K2 = kd ++ l2 := by subst h; subst E; subst hl; rw [List.append_assoc]
def r_M (Rf : Nat → Nat → Option Nat) (a n : Nat) : Nat → Nat → Option Nat := (h_u (h_u (h_u (h_u (h_u (h_u (h_u (h_u (h_u (h_u (h_u (h_u (h_u (h_u (h_u (h_u (h_u (h_u (h_u (h_u (h_u (h_u (h_u (h_u (h_u (h_u (h_u (h_u (h_u (h_u (h_u (h_u (h_u (h_u (h_u (h_u (h_u (h_u (h_u (h_u (h_u (h_u (h_u (h_u (h_u (h_u (h_u (h_u Rf a 1 (some n)) a 8 (some (n + 1))) a 9 (some (n + 2))) a 10 (some (n + 3))) a 12 (some (n + 4))) a 13 (some (n + 5))) a 14 (some (n + 6))) a 15 (some (n + 7))) a 17 (some (n + 8))) a 18 (some (n + 9))) a 19 (some (n + 10))) a 20 (some (n + 11))) a 21 (some (n + 12))) a 22 (some (n + 13))) a 23 (some (n + 14))) a 32 (some (n + 15))) a 33 (some (n + 16))) a 34 (some (n + 17))) a 35 (some (n + 18))) a 48 (some (n + 19))) a 49 (some (n + 20))) a 50 (some (n + 21))) a 51 (some (n + 22))) a 52 (some (n + 23))) a 62 (some (n + 24))) a 63 (some (n + 25))) a 64 (some (n + 26))) a 65 (some (n + 27))) a 66 (some (n + 28))) a 68 (some (n + 29))) a 69 (some (n + 30))) a 70 (some (n + 31))) a 71 (some (n + 32))) a 72 (some (n + 33))) a 73 (some (n + 34))) a 74 (some (n + 35))) a 75 (some (n + 36))) a 76 (some (n + 37))) a 77 (some (n + 38))) a 79 (some (n + 39))) a 80 (some (n + 40))) a 81 (some (n + 41))) a 82 (some (n + 42))) a 83 (some (n + 43))) a 84 (some (n + 44))) a 85 (some (n + 45))) a 86 (some (n + 46))) a 87 (some (n + 47)))
theorem l_M (kd : List (Nat × Nat)) : (x_M kd).length = kd.length + 48 := by unfold x_M; rw [List.length_append]; rfl
theorem g_M {kd : List (Nat × Nat)} {a : Nat} {u : Nat × Nat} (h : kd[a]? = some u) : (x_M kd)[a]? = some u := n_ap _ h
set_option maxHeartbeats 4000000 in
set_option maxRecDepth 4000 in
theorem c_M (d : Nat) (hd : 0 + 1 ≤ d) {kd : List (Nat × Nat)} {Rf : Nat → Nat → Option Nat} {a n : Nat} (hn : kd.length = n) (ha : kd[a]? = some (16, 0)) : NMet yX11_init cX11_init 1 d kd [.ref a] Rf (x_M kd) (r_M Rf a n) 48 12926 := by
  obtain ⟨d0, rfl, hd0⟩ := h_mono hd
  have haL := n_lt ha
  have L0 : kd.length = n + 0 := hn
  have hne : ∀ k, ¬ a = n + k := fun k => by omega
  have hne0 : ¬ a = n := by omega
  refine NMet.of (by decide) rfl (Nat.le_of_ble_eq_true rfl) ?_
  show NW cX11_init 1 RX11 kd (d0 + 1) kd Rf 0 0 [(0, .ref a)] 0 [] (x_M kd) (r_M Rf a n) 48 12926
  refine n_aload_n dX11_init_0 rfl rfl ?_
  refine n_objInit om_11 oi_1 oi_2 (Nat.le_of_ble_eq_true rfl) (Nat.le_add_left 1 d0) dX11_init_1 ?_
  refine n_aload_n dX11_init_4 rfl rfl ?_
  refine n_sipush dX11_init_5 sq_500 ?_
  refine o_newa0 (n1 := n) (N := 500) L0 ac_int (by decide) (by decide) (by decide) (Nat.le_of_ble_eq_true rfl) (Nat.le_of_ble_eq_true rfl) (n_oklc (n_okr (n_lt ha)) n_okl0) (n_okc (n_okr (n_lt ha)) n_ok0) dX11_init_8 (fun K1 e1 L1 g1 w1 => ?_)
  have ha_1 := g1 _ _ ha
  have L1 : K1.length = n + 1 := L1
  have E1 : K1 = kd ++ [(0, 500)] := n_ex (List.append_nil kd).symm e1 rfl
  clear e1
  refine n_putF hK_11 ha_1 (n_lt w1) (i := 1) rfl fl_11_9 rfl rfl rfl (fun _ => ⟨rfl, rfl⟩) dX11_init_10 ?_
  refine n_aload_n dX11_init_13 rfl rfl ?_
  refine n_sipush dX11_init_14 sq_1000 ?_
  refine o_newa0 (n1 := (n + 1)) (N := 1000) L1 ac_int (by decide) (by decide) (by decide) (Nat.le_of_ble_eq_true rfl) (Nat.le_of_ble_eq_true rfl) (n_oklc (n_okr (n_lt ha_1)) n_okl0) (n_okc (n_okr (n_lt ha_1)) n_ok0) dX11_init_17 (fun K2 e2 L2 g2 w2 => ?_)
  have ha_2 := g2 _ _ ha_1
  have L2 : K2.length = n + 2 := L2
  have E2 : K2 = kd ++ [(0, 500), (0, 1000)] := n_ex E1 e2 rfl
  clear e2
  clear E1 g1
  refine n_putF hK_11 ha_2 (n_lt w2) (i := 8) rfl fl_11_13 rfl rfl rfl (fun _ => ⟨rfl, rfl⟩) dX11_init_19 ?_
  refine n_aload_n dX11_init_22 rfl rfl ?_
  refine n_sipush dX11_init_23 sq_1000 ?_
  refine o_newa0 (n1 := (n + 2)) (N := 1000) L2 ac_int (by decide) (by decide) (by decide) (Nat.le_of_ble_eq_true rfl) (Nat.le_of_ble_eq_true rfl) (n_oklc (n_okr (n_lt ha_2)) n_okl0) (n_okc (n_okr (n_lt ha_2)) n_ok0) dX11_init_26 (fun K3 e3 L3 g3 w3 => ?_)
  have ha_3 := g3 _ _ ha_2
  have L3 : K3.length = n + 3 := L3
  have E3 : K3 = kd ++ [(0, 500), (0, 1000), (0, 1000)] := n_ex E2 e3 rfl
  clear e3
  clear E2 g2
  refine n_putF hK_11 ha_3 (n_lt w3) (i := 9) rfl fl_11_16 rfl rfl rfl (fun _ => ⟨rfl, rfl⟩) dX11_init_28 ?_
  refine n_aload_n dX11_init_31 rfl rfl ?_
  refine n_sipush dX11_init_32 sq_1000 ?_
  refine o_newa0 (n1 := (n + 3)) (N := 1000) L3 ac_int (by decide) (by decide) (by decide) (Nat.le_of_ble_eq_true rfl) (Nat.le_of_ble_eq_true rfl) (n_oklc (n_okr (n_lt ha_3)) n_okl0) (n_okc (n_okr (n_lt ha_3)) n_ok0) dX11_init_35 (fun K4 e4 L4 g4 w4 => ?_)
  have ha_4 := g4 _ _ ha_3
  have L4 : K4.length = n + 4 := L4
  have E4 : K4 = kd ++ [(0, 500), (0, 1000), (0, 1000), (0, 1000)] := n_ex E3 e4 rfl
  clear e4
  clear E3 g3
  refine n_putF hK_11 ha_4 (n_lt w4) (i := 10) rfl fl_11_19 rfl rfl rfl (fun _ => ⟨rfl, rfl⟩) dX11_init_37 ?_
  refine n_aload_n dX11_init_40 rfl rfl ?_
  refine n_sipush dX11_init_41 sq_1000 ?_
  refine o_newa0 (n1 := (n + 4)) (N := 1000) L4 ac_int (by decide) (by decide) (by decide) (Nat.le_of_ble_eq_true rfl) (Nat.le_of_ble_eq_true rfl) (n_oklc (n_okr (n_lt ha_4)) n_okl0) (n_okc (n_okr (n_lt ha_4)) n_ok0) dX11_init_44 (fun K5 e5 L5 g5 w5 => ?_)
  have ha_5 := g5 _ _ ha_4
  have L5 : K5.length = n + 5 := L5
  have E5 : K5 = kd ++ [(0, 500), (0, 1000), (0, 1000), (0, 1000), (0, 1000)] := n_ex E4 e5 rfl
  clear e5
  clear E4 g4
  refine n_putF hK_11 ha_5 (n_lt w5) (i := 12) rfl fl_11_22 rfl rfl rfl (fun _ => ⟨rfl, rfl⟩) dX11_init_46 ?_
  refine n_aload_n dX11_init_49 rfl rfl ?_
  refine n_sipush dX11_init_50 sq_1000 ?_
  refine o_newa0 (n1 := (n + 5)) (N := 1000) L5 ac_int (by decide) (by decide) (by decide) (Nat.le_of_ble_eq_true rfl) (Nat.le_of_ble_eq_true rfl) (n_oklc (n_okr (n_lt ha_5)) n_okl0) (n_okc (n_okr (n_lt ha_5)) n_ok0) dX11_init_53 (fun K6 e6 L6 g6 w6 => ?_)
  have ha_6 := g6 _ _ ha_5
  have L6 : K6.length = n + 6 := L6
  have E6 : K6 = kd ++ [(0, 500), (0, 1000), (0, 1000), (0, 1000), (0, 1000), (0, 1000)] := n_ex E5 e6 rfl
  clear e6
  clear E5 g5
  refine n_putF hK_11 ha_6 (n_lt w6) (i := 13) rfl fl_11_25 rfl rfl rfl (fun _ => ⟨rfl, rfl⟩) dX11_init_55 ?_
  refine n_aload_n dX11_init_58 rfl rfl ?_
  refine n_sipush dX11_init_59 sq_1000 ?_
  refine o_newa0 (n1 := (n + 6)) (N := 1000) L6 ac_int (by decide) (by decide) (by decide) (Nat.le_of_ble_eq_true rfl) (Nat.le_of_ble_eq_true rfl) (n_oklc (n_okr (n_lt ha_6)) n_okl0) (n_okc (n_okr (n_lt ha_6)) n_ok0) dX11_init_62 (fun K7 e7 L7 g7 w7 => ?_)
  have ha_7 := g7 _ _ ha_6
  have L7 : K7.length = n + 7 := L7
  have E7 : K7 = kd ++ [(0, 500), (0, 1000), (0, 1000), (0, 1000), (0, 1000), (0, 1000), (0, 1000)] := n_ex E6 e7 rfl
  clear e7
  clear E6 g6
  refine n_putF hK_11 ha_7 (n_lt w7) (i := 14) rfl fl_11_28 rfl rfl rfl (fun _ => ⟨rfl, rfl⟩) dX11_init_64 ?_
  refine n_aload_n dX11_init_67 rfl rfl ?_
  refine n_sipush dX11_init_68 sq_1000 ?_
  refine o_newa2 (n1 := (n + 7)) (N := 1000) L7 ac_boolean (by decide) (by decide) (by decide) (Nat.le_of_ble_eq_true rfl) (Nat.le_of_ble_eq_true rfl) (n_oklc (n_okr (n_lt ha_7)) n_okl0) (n_okc (n_okr (n_lt ha_7)) n_ok0) dX11_init_71 (fun K8 e8 L8 g8 w8 => ?_)
  have ha_8 := g8 _ _ ha_7
  have L8 : K8.length = n + 8 := L8
  have E8 : K8 = kd ++ [(0, 500), (0, 1000), (0, 1000), (0, 1000), (0, 1000), (0, 1000), (0, 1000), (2, 1000)] := n_ex E7 e8 rfl
  clear e8
  clear E7 g7
  refine n_putF hK_11 ha_8 (n_lt w8) (i := 15) rfl fl_11_31 rfl rfl rfl (fun _ => ⟨rfl, rfl⟩) dX11_init_73 ?_
  refine n_aload_n dX11_init_76 rfl rfl ?_
  refine n_bipush dX11_init_77 bp_48 ?_
  refine o_newa0 (n1 := (n + 8)) (N := 48) L8 ac_int (by decide) (by decide) (by decide) (Nat.le_of_ble_eq_true rfl) (Nat.le_of_ble_eq_true rfl) (n_oklc (n_okr (n_lt ha_8)) n_okl0) (n_okc (n_okr (n_lt ha_8)) n_ok0) dX11_init_79 (fun K9 e9 L9 g9 w9 => ?_)
  have ha_9 := g9 _ _ ha_8
  have L9 : K9.length = n + 9 := L9
  have E9 : K9 = kd ++ [(0, 500), (0, 1000), (0, 1000), (0, 1000), (0, 1000), (0, 1000), (0, 1000), (2, 1000), (0, 48)] := n_ex E8 e9 rfl
  clear e9
  clear E8 g8
  refine n_putF hK_11 ha_9 (n_lt w9) (i := 17) rfl fl_11_35 rfl rfl rfl (fun _ => ⟨rfl, rfl⟩) dX11_init_81 ?_
  refine n_aload_n dX11_init_84 rfl rfl ?_
  refine n_bipush dX11_init_85 bp_48 ?_
  refine o_newa0 (n1 := (n + 9)) (N := 48) L9 ac_int (by decide) (by decide) (by decide) (Nat.le_of_ble_eq_true rfl) (Nat.le_of_ble_eq_true rfl) (n_oklc (n_okr (n_lt ha_9)) n_okl0) (n_okc (n_okr (n_lt ha_9)) n_ok0) dX11_init_87 (fun K10 e10 L10 g10 w10 => ?_)
  have ha_10 := g10 _ _ ha_9
  have L10 : K10.length = n + 10 := L10
  have E10 : K10 = kd ++ [(0, 500), (0, 1000), (0, 1000), (0, 1000), (0, 1000), (0, 1000), (0, 1000), (2, 1000), (0, 48), (0, 48)] := n_ex E9 e10 rfl
  clear e10
  clear E9 g9
  refine n_putF hK_11 ha_10 (n_lt w10) (i := 18) rfl fl_11_38 rfl rfl rfl (fun _ => ⟨rfl, rfl⟩) dX11_init_89 ?_
  refine n_aload_n dX11_init_92 rfl rfl ?_
  refine n_bipush dX11_init_93 bp_48 ?_
  refine o_newa0 (n1 := (n + 10)) (N := 48) L10 ac_int (by decide) (by decide) (by decide) (Nat.le_of_ble_eq_true rfl) (Nat.le_of_ble_eq_true rfl) (n_oklc (n_okr (n_lt ha_10)) n_okl0) (n_okc (n_okr (n_lt ha_10)) n_ok0) dX11_init_95 (fun K11 e11 L11 g11 w11 => ?_)
  have ha_11 := g11 _ _ ha_10
  have L11 : K11.length = n + 11 := L11
  have E11 : K11 = kd ++ [(0, 500), (0, 1000), (0, 1000), (0, 1000), (0, 1000), (0, 1000), (0, 1000), (2, 1000), (0, 48), (0, 48), (0, 48)] := n_ex E10 e11 rfl
  clear e11
  clear E10 g10
  refine n_putF hK_11 ha_11 (n_lt w11) (i := 19) rfl fl_11_41 rfl rfl rfl (fun _ => ⟨rfl, rfl⟩) dX11_init_97 ?_
  refine n_aload_n dX11_init_100 rfl rfl ?_
  refine n_bipush dX11_init_101 bp_48 ?_
  refine o_newa0 (n1 := (n + 11)) (N := 48) L11 ac_int (by decide) (by decide) (by decide) (Nat.le_of_ble_eq_true rfl) (Nat.le_of_ble_eq_true rfl) (n_oklc (n_okr (n_lt ha_11)) n_okl0) (n_okc (n_okr (n_lt ha_11)) n_ok0) dX11_init_103 (fun K12 e12 L12 g12 w12 => ?_)
  have ha_12 := g12 _ _ ha_11
  have L12 : K12.length = n + 12 := L12
  have E12 : K12 = kd ++ [(0, 500), (0, 1000), (0, 1000), (0, 1000), (0, 1000), (0, 1000), (0, 1000), (2, 1000), (0, 48), (0, 48), (0, 48), (0, 48)] := n_ex E11 e12 rfl
  clear e12
  clear E11 g11
  refine n_putF hK_11 ha_12 (n_lt w12) (i := 20) rfl fl_11_44 rfl rfl rfl (fun _ => ⟨rfl, rfl⟩) dX11_init_105 ?_
  refine n_aload_n dX11_init_108 rfl rfl ?_
  refine n_bipush dX11_init_109 bp_48 ?_
  refine o_newa0 (n1 := (n + 12)) (N := 48) L12 ac_int (by decide) (by decide) (by decide) (Nat.le_of_ble_eq_true rfl) (Nat.le_of_ble_eq_true rfl) (n_oklc (n_okr (n_lt ha_12)) n_okl0) (n_okc (n_okr (n_lt ha_12)) n_ok0) dX11_init_111 (fun K13 e13 L13 g13 w13 => ?_)
  have ha_13 := g13 _ _ ha_12
  have L13 : K13.length = n + 13 := L13
  have E13 : K13 = kd ++ [(0, 500), (0, 1000), (0, 1000), (0, 1000), (0, 1000), (0, 1000), (0, 1000), (2, 1000), (0, 48), (0, 48), (0, 48), (0, 48), (0, 48)] := n_ex E12 e13 rfl
  clear e13
  clear E12 g12
  refine n_putF hK_11 ha_13 (n_lt w13) (i := 21) rfl fl_11_47 rfl rfl rfl (fun _ => ⟨rfl, rfl⟩) dX11_init_113 ?_
  refine n_aload_n dX11_init_116 rfl rfl ?_
  refine n_bipush dX11_init_117 bp_48 ?_
  refine o_newa0 (n1 := (n + 13)) (N := 48) L13 ac_int (by decide) (by decide) (by decide) (Nat.le_of_ble_eq_true rfl) (Nat.le_of_ble_eq_true rfl) (n_oklc (n_okr (n_lt ha_13)) n_okl0) (n_okc (n_okr (n_lt ha_13)) n_ok0) dX11_init_119 (fun K14 e14 L14 g14 w14 => ?_)
  have ha_14 := g14 _ _ ha_13
  have L14 : K14.length = n + 14 := L14
  have E14 : K14 = kd ++ [(0, 500), (0, 1000), (0, 1000), (0, 1000), (0, 1000), (0, 1000), (0, 1000), (2, 1000), (0, 48), (0, 48), (0, 48), (0, 48), (0, 48), (0, 48)] := n_ex E13 e14 rfl
  clear e14
  clear E13 g13
  refine n_putF hK_11 ha_14 (n_lt w14) (i := 22) rfl fl_11_50 rfl rfl rfl (fun _ => ⟨rfl, rfl⟩) dX11_init_121 ?_
  refine n_aload_n dX11_init_124 rfl rfl ?_
  refine n_bipush dX11_init_125 bp_48 ?_
  refine o_newa0 (n1 := (n + 14)) (N := 48) L14 ac_int (by decide) (by decide) (by decide) (Nat.le_of_ble_eq_true rfl) (Nat.le_of_ble_eq_true rfl) (n_oklc (n_okr (n_lt ha_14)) n_okl0) (n_okc (n_okr (n_lt ha_14)) n_ok0) dX11_init_127 (fun K15 e15 L15 g15 w15 => ?_)
  have ha_15 := g15 _ _ ha_14
  have L15 : K15.length = n + 15 := L15
  have E15 : K15 = kd ++ [(0, 500), (0, 1000), (0, 1000), (0, 1000), (0, 1000), (0, 1000), (0, 1000), (2, 1000), (0, 48), (0, 48), (0, 48), (0, 48), (0, 48), (0, 48), (0, 48)] := n_ex E14 e15 rfl
  clear e15
  clear E14 g14
  refine n_putF hK_11 ha_15 (n_lt w15) (i := 23) rfl fl_11_53 rfl rfl rfl (fun _ => ⟨rfl, rfl⟩) dX11_init_129 ?_
  refine n_aload_n dX11_init_132 rfl rfl ?_
  refine n_bipush dX11_init_133 bp_8 ?_
  refine o_newa0 (n1 := (n + 15)) (N := 8) L15 ac_int (by decide) (by decide) (by decide) (Nat.le_of_ble_eq_true rfl) (Nat.le_of_ble_eq_true rfl) (n_oklc (n_okr (n_lt ha_15)) n_okl0) (n_okc (n_okr (n_lt ha_15)) n_ok0) dX11_init_135 (fun K16 e16 L16 g16 w16 => ?_)
  have ha_16 := g16 _ _ ha_15
  have L16 : K16.length = n + 16 := L16
  have E16 : K16 = kd ++ [(0, 500), (0, 1000), (0, 1000), (0, 1000), (0, 1000), (0, 1000), (0, 1000), (2, 1000), (0, 48), (0, 48), (0, 48), (0, 48), (0, 48), (0, 48), (0, 48), (0, 8)] := n_ex E15 e16 rfl
  clear e16
  clear E15 g15
  refine n_putF hK_11 ha_16 (n_lt w16) (i := 32) rfl fl_11_56 rfl rfl rfl (fun _ => ⟨rfl, rfl⟩) dX11_init_137 ?_
  refine n_aload_n dX11_init_140 rfl rfl ?_
  refine n_bipush dX11_init_141 bp_8 ?_
  refine o_newa0 (n1 := (n + 16)) (N := 8) L16 ac_int (by decide) (by decide) (by decide) (Nat.le_of_ble_eq_true rfl) (Nat.le_of_ble_eq_true rfl) (n_oklc (n_okr (n_lt ha_16)) n_okl0) (n_okc (n_okr (n_lt ha_16)) n_ok0) dX11_init_143 (fun K17 e17 L17 g17 w17 => ?_)
  have ha_17 := g17 _ _ ha_16
  have L17 : K17.length = n + 17 := L17
  have E17 : K17 = kd ++ [(0, 500), (0, 1000), (0, 1000), (0, 1000), (0, 1000), (0, 1000), (0, 1000), (2, 1000), (0, 48), (0, 48), (0, 48), (0, 48), (0, 48), (0, 48), (0, 48), (0, 8), (0, 8)] := n_ex E16 e17 rfl
  clear e17
  clear E16 g16
  refine n_putF hK_11 ha_17 (n_lt w17) (i := 33) rfl fl_11_59 rfl rfl rfl (fun _ => ⟨rfl, rfl⟩) dX11_init_145 ?_
  refine n_aload_n dX11_init_148 rfl rfl ?_
  refine n_bipush dX11_init_149 bp_8 ?_
  refine o_newa0 (n1 := (n + 17)) (N := 8) L17 ac_int (by decide) (by decide) (by decide) (Nat.le_of_ble_eq_true rfl) (Nat.le_of_ble_eq_true rfl) (n_oklc (n_okr (n_lt ha_17)) n_okl0) (n_okc (n_okr (n_lt ha_17)) n_ok0) dX11_init_151 (fun K18 e18 L18 g18 w18 => ?_)
  have ha_18 := g18 _ _ ha_17
  have L18 : K18.length = n + 18 := L18
  have E18 : K18 = kd ++ [(0, 500), (0, 1000), (0, 1000), (0, 1000), (0, 1000), (0, 1000), (0, 1000), (2, 1000), (0, 48), (0, 48), (0, 48), (0, 48), (0, 48), (0, 48), (0, 48), (0, 8), (0, 8), (0, 8)] := n_ex E17 e18 rfl
  clear e18
  clear E17 g17
  refine n_putF hK_11 ha_18 (n_lt w18) (i := 34) rfl fl_11_62 rfl rfl rfl (fun _ => ⟨rfl, rfl⟩) dX11_init_153 ?_
  refine n_aload_n dX11_init_156 rfl rfl ?_
  refine n_bipush dX11_init_157 bp_8 ?_
  refine o_newa0 (n1 := (n + 18)) (N := 8) L18 ac_int (by decide) (by decide) (by decide) (Nat.le_of_ble_eq_true rfl) (Nat.le_of_ble_eq_true rfl) (n_oklc (n_okr (n_lt ha_18)) n_okl0) (n_okc (n_okr (n_lt ha_18)) n_ok0) dX11_init_159 (fun K19 e19 L19 g19 w19 => ?_)
  have ha_19 := g19 _ _ ha_18
  have L19 : K19.length = n + 19 := L19
  have E19 : K19 = kd ++ [(0, 500), (0, 1000), (0, 1000), (0, 1000), (0, 1000), (0, 1000), (0, 1000), (2, 1000), (0, 48), (0, 48), (0, 48), (0, 48), (0, 48), (0, 48), (0, 48), (0, 8), (0, 8), (0, 8), (0, 8)] := n_ex E18 e19 rfl
  clear e19
  clear E18 g18
  refine n_putF hK_11 ha_19 (n_lt w19) (i := 35) rfl fl_11_65 rfl rfl rfl (fun _ => ⟨rfl, rfl⟩) dX11_init_161 ?_
  refine n_aload_n dX11_init_164 rfl rfl ?_
  refine n_bipush dX11_init_165 bp_8 ?_
  refine o_newa0 (n1 := (n + 19)) (N := 8) L19 ac_int (by decide) (by decide) (by decide) (Nat.le_of_ble_eq_true rfl) (Nat.le_of_ble_eq_true rfl) (n_oklc (n_okr (n_lt ha_19)) n_okl0) (n_okc (n_okr (n_lt ha_19)) n_ok0) dX11_init_167 (fun K20 e20 L20 g20 w20 => ?_)
  have ha_20 := g20 _ _ ha_19
  have L20 : K20.length = n + 20 := L20
  have E20 : K20 = kd ++ [(0, 500), (0, 1000), (0, 1000), (0, 1000), (0, 1000), (0, 1000), (0, 1000), (2, 1000), (0, 48), (0, 48), (0, 48), (0, 48), (0, 48), (0, 48), (0, 48), (0, 8), (0, 8), (0, 8), (0, 8), (0, 8)] := n_ex E19 e20 rfl
  clear e20
  clear E19 g19
  refine n_putF hK_11 ha_20 (n_lt w20) (i := 48) rfl fl_11_68 rfl rfl rfl (fun _ => ⟨rfl, rfl⟩) dX11_init_169 ?_
  refine n_aload_n dX11_init_172 rfl rfl ?_
  refine n_bipush dX11_init_173 bp_8 ?_
  refine o_newa0 (n1 := (n + 20)) (N := 8) L20 ac_int (by decide) (by decide) (by decide) (Nat.le_of_ble_eq_true rfl) (Nat.le_of_ble_eq_true rfl) (n_oklc (n_okr (n_lt ha_20)) n_okl0) (n_okc (n_okr (n_lt ha_20)) n_ok0) dX11_init_175 (fun K21 e21 L21 g21 w21 => ?_)
  have ha_21 := g21 _ _ ha_20
  have L21 : K21.length = n + 21 := L21
  have E21 : K21 = kd ++ [(0, 500), (0, 1000), (0, 1000), (0, 1000), (0, 1000), (0, 1000), (0, 1000), (2, 1000), (0, 48), (0, 48), (0, 48), (0, 48), (0, 48), (0, 48), (0, 48), (0, 8), (0, 8), (0, 8), (0, 8), (0, 8), (0, 8)] := n_ex E20 e21 rfl
  clear e21
  clear E20 g20
  refine n_putF hK_11 ha_21 (n_lt w21) (i := 49) rfl fl_11_71 rfl rfl rfl (fun _ => ⟨rfl, rfl⟩) dX11_init_177 ?_
  refine n_aload_n dX11_init_180 rfl rfl ?_
  refine n_bipush dX11_init_181 bp_8 ?_
  refine o_newa0 (n1 := (n + 21)) (N := 8) L21 ac_int (by decide) (by decide) (by decide) (Nat.le_of_ble_eq_true rfl) (Nat.le_of_ble_eq_true rfl) (n_oklc (n_okr (n_lt ha_21)) n_okl0) (n_okc (n_okr (n_lt ha_21)) n_ok0) dX11_init_183 (fun K22 e22 L22 g22 w22 => ?_)
  have ha_22 := g22 _ _ ha_21
  have L22 : K22.length = n + 22 := L22
  have E22 : K22 = kd ++ [(0, 500), (0, 1000), (0, 1000), (0, 1000), (0, 1000), (0, 1000), (0, 1000), (2, 1000), (0, 48), (0, 48), (0, 48), (0, 48), (0, 48), (0, 48), (0, 48), (0, 8), (0, 8), (0, 8), (0, 8), (0, 8), (0, 8), (0, 8)] := n_ex E21 e22 rfl
  clear e22
  clear E21 g21
  refine n_putF hK_11 ha_22 (n_lt w22) (i := 50) rfl fl_11_74 rfl rfl rfl (fun _ => ⟨rfl, rfl⟩) dX11_init_185 ?_
  refine n_aload_n dX11_init_188 rfl rfl ?_
  refine n_bipush dX11_init_189 bp_8 ?_
  refine o_newa0 (n1 := (n + 22)) (N := 8) L22 ac_int (by decide) (by decide) (by decide) (Nat.le_of_ble_eq_true rfl) (Nat.le_of_ble_eq_true rfl) (n_oklc (n_okr (n_lt ha_22)) n_okl0) (n_okc (n_okr (n_lt ha_22)) n_ok0) dX11_init_191 (fun K23 e23 L23 g23 w23 => ?_)
  have ha_23 := g23 _ _ ha_22
  have L23 : K23.length = n + 23 := L23
  have E23 : K23 = kd ++ [(0, 500), (0, 1000), (0, 1000), (0, 1000), (0, 1000), (0, 1000), (0, 1000), (2, 1000), (0, 48), (0, 48), (0, 48), (0, 48), (0, 48), (0, 48), (0, 48), (0, 8), (0, 8), (0, 8), (0, 8), (0, 8), (0, 8), (0, 8), (0, 8)] := n_ex E22 e23 rfl
  clear e23
  clear E22 g22
  refine n_putF hK_11 ha_23 (n_lt w23) (i := 51) rfl fl_11_77 rfl rfl rfl (fun _ => ⟨rfl, rfl⟩) dX11_init_193 ?_
  refine n_aload_n dX11_init_196 rfl rfl ?_
  refine n_iconst dX11_init_197 ic_3 ?_
  refine o_newa0 (n1 := (n + 23)) (N := 3) L23 ac_int (by decide) (by decide) (by decide) (Nat.le_of_ble_eq_true rfl) (Nat.le_of_ble_eq_true rfl) (n_oklc (n_okr (n_lt ha_23)) n_okl0) (n_okc (n_okr (n_lt ha_23)) n_ok0) dX11_init_198 (fun K24 e24 L24 g24 w24 => ?_)
  have ha_24 := g24 _ _ ha_23
  have L24 : K24.length = n + 24 := L24
  have E24 : K24 = kd ++ [(0, 500), (0, 1000), (0, 1000), (0, 1000), (0, 1000), (0, 1000), (0, 1000), (2, 1000), (0, 48), (0, 48), (0, 48), (0, 48), (0, 48), (0, 48), (0, 48), (0, 8), (0, 8), (0, 8), (0, 8), (0, 8), (0, 8), (0, 8), (0, 8), (0, 3)] := n_ex E23 e24 rfl
  clear e24
  clear E23 g23
  refine n_putF hK_11 ha_24 (n_lt w24) (i := 52) rfl fl_11_80 rfl rfl rfl (fun _ => ⟨rfl, rfl⟩) dX11_init_200 ?_
  refine n_aload_n dX11_init_203 rfl rfl ?_
  refine n_bipush dX11_init_204 bp_10 ?_
  refine o_newa0 (n1 := (n + 24)) (N := 10) L24 ac_int (by decide) (by decide) (by decide) (Nat.le_of_ble_eq_true rfl) (Nat.le_of_ble_eq_true rfl) (n_oklc (n_okr (n_lt ha_24)) n_okl0) (n_okc (n_okr (n_lt ha_24)) n_ok0) dX11_init_206 (fun K25 e25 L25 g25 w25 => ?_)
  have ha_25 := g25 _ _ ha_24
  have L25 : K25.length = n + 25 := L25
  have E25 : K25 = kd ++ [(0, 500), (0, 1000), (0, 1000), (0, 1000), (0, 1000), (0, 1000), (0, 1000), (2, 1000), (0, 48), (0, 48), (0, 48), (0, 48), (0, 48), (0, 48), (0, 48), (0, 8), (0, 8), (0, 8), (0, 8), (0, 8), (0, 8), (0, 8), (0, 8), (0, 3), (0, 10)] := n_ex E24 e25 rfl
  clear e25
  clear E24 g24
  refine n_putF hK_11 ha_25 (n_lt w25) (i := 62) rfl fl_11_83 rfl rfl rfl (fun _ => ⟨rfl, rfl⟩) dX11_init_208 ?_
  refine n_aload_n dX11_init_211 rfl rfl ?_
  refine n_bipush dX11_init_212 bp_80 ?_
  refine o_newa0 (n1 := (n + 25)) (N := 80) L25 ac_int (by decide) (by decide) (by decide) (Nat.le_of_ble_eq_true rfl) (Nat.le_of_ble_eq_true rfl) (n_oklc (n_okr (n_lt ha_25)) n_okl0) (n_okc (n_okr (n_lt ha_25)) n_ok0) dX11_init_214 (fun K26 e26 L26 g26 w26 => ?_)
  have ha_26 := g26 _ _ ha_25
  have L26 : K26.length = n + 26 := L26
  have E26 : K26 = kd ++ [(0, 500), (0, 1000), (0, 1000), (0, 1000), (0, 1000), (0, 1000), (0, 1000), (2, 1000), (0, 48), (0, 48), (0, 48), (0, 48), (0, 48), (0, 48), (0, 48), (0, 8), (0, 8), (0, 8), (0, 8), (0, 8), (0, 8), (0, 8), (0, 8), (0, 3), (0, 10), (0, 80)] := n_ex E25 e26 rfl
  clear e26
  clear E25 g25
  refine n_putF hK_11 ha_26 (n_lt w26) (i := 63) rfl fl_11_86 rfl rfl rfl (fun _ => ⟨rfl, rfl⟩) dX11_init_216 ?_
  refine n_aload_n dX11_init_219 rfl rfl ?_
  refine n_bipush dX11_init_220 bp_80 ?_
  refine o_newa0 (n1 := (n + 26)) (N := 80) L26 ac_int (by decide) (by decide) (by decide) (Nat.le_of_ble_eq_true rfl) (Nat.le_of_ble_eq_true rfl) (n_oklc (n_okr (n_lt ha_26)) n_okl0) (n_okc (n_okr (n_lt ha_26)) n_ok0) dX11_init_222 (fun K27 e27 L27 g27 w27 => ?_)
  have ha_27 := g27 _ _ ha_26
  have L27 : K27.length = n + 27 := L27
  have E27 : K27 = kd ++ [(0, 500), (0, 1000), (0, 1000), (0, 1000), (0, 1000), (0, 1000), (0, 1000), (2, 1000), (0, 48), (0, 48), (0, 48), (0, 48), (0, 48), (0, 48), (0, 48), (0, 8), (0, 8), (0, 8), (0, 8), (0, 8), (0, 8), (0, 8), (0, 8), (0, 3), (0, 10), (0, 80), (0, 80)] := n_ex E26 e27 rfl
  clear e27
  clear E26 g26
  refine n_putF hK_11 ha_27 (n_lt w27) (i := 64) rfl fl_11_89 rfl rfl rfl (fun _ => ⟨rfl, rfl⟩) dX11_init_224 ?_
  refine n_aload_n dX11_init_227 rfl rfl ?_
  refine n_bipush dX11_init_228 bp_80 ?_
  refine o_newa0 (n1 := (n + 27)) (N := 80) L27 ac_int (by decide) (by decide) (by decide) (Nat.le_of_ble_eq_true rfl) (Nat.le_of_ble_eq_true rfl) (n_oklc (n_okr (n_lt ha_27)) n_okl0) (n_okc (n_okr (n_lt ha_27)) n_ok0) dX11_init_230 (fun K28 e28 L28 g28 w28 => ?_)
  have ha_28 := g28 _ _ ha_27
  have L28 : K28.length = n + 28 := L28
  have E28 : K28 = kd ++ [(0, 500), (0, 1000), (0, 1000), (0, 1000), (0, 1000), (0, 1000), (0, 1000), (2, 1000), (0, 48), (0, 48), (0, 48), (0, 48), (0, 48), (0, 48), (0, 48), (0, 8), (0, 8), (0, 8), (0, 8), (0, 8), (0, 8), (0, 8), (0, 8), (0, 3), (0, 10), (0, 80), (0, 80), (0, 80)] := n_ex E27 e28 rfl
  clear e28
  clear E27 g27
  refine n_putF hK_11 ha_28 (n_lt w28) (i := 65) rfl fl_11_92 rfl rfl rfl (fun _ => ⟨rfl, rfl⟩) dX11_init_232 ?_
  refine n_aload_n dX11_init_235 rfl rfl ?_
  refine n_sipush dX11_init_236 sq_800 ?_
  refine o_newa0 (n1 := (n + 28)) (N := 800) L28 ac_int (by decide) (by decide) (by decide) (Nat.le_of_ble_eq_true rfl) (Nat.le_of_ble_eq_true rfl) (n_oklc (n_okr (n_lt ha_28)) n_okl0) (n_okc (n_okr (n_lt ha_28)) n_ok0) dX11_init_239 (fun K29 e29 L29 g29 w29 => ?_)
  have ha_29 := g29 _ _ ha_28
  have L29 : K29.length = n + 29 := L29
  have E29 : K29 = kd ++ [(0, 500), (0, 1000), (0, 1000), (0, 1000), (0, 1000), (0, 1000), (0, 1000), (2, 1000), (0, 48), (0, 48), (0, 48), (0, 48), (0, 48), (0, 48), (0, 48), (0, 8), (0, 8), (0, 8), (0, 8), (0, 8), (0, 8), (0, 8), (0, 8), (0, 3), (0, 10), (0, 80), (0, 80), (0, 80), (0, 800)] := n_ex E28 e29 rfl
  clear e29
  clear E28 g28
  refine n_putF hK_11 ha_29 (n_lt w29) (i := 66) rfl fl_11_95 rfl rfl rfl (fun _ => ⟨rfl, rfl⟩) dX11_init_241 ?_
  refine n_aload_n dX11_init_244 rfl rfl ?_
  refine n_bipush dX11_init_245 bp_10 ?_
  refine o_newa0 (n1 := (n + 29)) (N := 10) L29 ac_int (by decide) (by decide) (by decide) (Nat.le_of_ble_eq_true rfl) (Nat.le_of_ble_eq_true rfl) (n_oklc (n_okr (n_lt ha_29)) n_okl0) (n_okc (n_okr (n_lt ha_29)) n_ok0) dX11_init_247 (fun K30 e30 L30 g30 w30 => ?_)
  have ha_30 := g30 _ _ ha_29
  have L30 : K30.length = n + 30 := L30
  have E30 : K30 = kd ++ [(0, 500), (0, 1000), (0, 1000), (0, 1000), (0, 1000), (0, 1000), (0, 1000), (2, 1000), (0, 48), (0, 48), (0, 48), (0, 48), (0, 48), (0, 48), (0, 48), (0, 8), (0, 8), (0, 8), (0, 8), (0, 8), (0, 8), (0, 8), (0, 8), (0, 3), (0, 10), (0, 80), (0, 80), (0, 80), (0, 800), (0, 10)] := n_ex E29 e30 rfl
  clear e30
  clear E29 g29
  refine n_putF hK_11 ha_30 (n_lt w30) (i := 68) rfl fl_11_98 rfl rfl rfl (fun _ => ⟨rfl, rfl⟩) dX11_init_249 ?_
  refine n_aload_n dX11_init_252 rfl rfl ?_
  refine n_sipush dX11_init_253 sq_640 ?_
  refine o_newa1 (n1 := (n + 30)) (N := 640) L30 ac_long (by decide) (by decide) (by decide) (Nat.le_of_ble_eq_true rfl) (Nat.le_of_ble_eq_true rfl) (n_oklc (n_okr (n_lt ha_30)) n_okl0) (n_okc (n_okr (n_lt ha_30)) n_ok0) dX11_init_256 (fun K31 e31 L31 g31 w31 => ?_)
  have ha_31 := g31 _ _ ha_30
  have L31 : K31.length = n + 31 := L31
  have E31 : K31 = kd ++ [(0, 500), (0, 1000), (0, 1000), (0, 1000), (0, 1000), (0, 1000), (0, 1000), (2, 1000), (0, 48), (0, 48), (0, 48), (0, 48), (0, 48), (0, 48), (0, 48), (0, 8), (0, 8), (0, 8), (0, 8), (0, 8), (0, 8), (0, 8), (0, 8), (0, 3), (0, 10), (0, 80), (0, 80), (0, 80), (0, 800), (0, 10), (1, 640)] := n_ex E30 e31 rfl
  clear e31
  clear E30 g30
  refine n_putF hK_11 ha_31 (n_lt w31) (i := 69) rfl fl_11_101 rfl rfl rfl (fun _ => ⟨rfl, rfl⟩) dX11_init_258 ?_
  refine n_aload_n dX11_init_261 rfl rfl ?_
  refine n_sipush dX11_init_262 sq_640 ?_
  refine o_newa1 (n1 := (n + 31)) (N := 640) L31 ac_long (by decide) (by decide) (by decide) (Nat.le_of_ble_eq_true rfl) (Nat.le_of_ble_eq_true rfl) (n_oklc (n_okr (n_lt ha_31)) n_okl0) (n_okc (n_okr (n_lt ha_31)) n_ok0) dX11_init_265 (fun K32 e32 L32 g32 w32 => ?_)
  have ha_32 := g32 _ _ ha_31
  have L32 : K32.length = n + 32 := L32
  have E32 : K32 = kd ++ [(0, 500), (0, 1000), (0, 1000), (0, 1000), (0, 1000), (0, 1000), (0, 1000), (2, 1000), (0, 48), (0, 48), (0, 48), (0, 48), (0, 48), (0, 48), (0, 48), (0, 8), (0, 8), (0, 8), (0, 8), (0, 8), (0, 8), (0, 8), (0, 8), (0, 3), (0, 10), (0, 80), (0, 80), (0, 80), (0, 800), (0, 10), (1, 640), (1, 640)] := n_ex E31 e32 rfl
  clear e32
  clear E31 g31
  refine n_putF hK_11 ha_32 (n_lt w32) (i := 70) rfl fl_11_105 rfl rfl rfl (fun _ => ⟨rfl, rfl⟩) dX11_init_267 ?_
  refine n_aload_n dX11_init_270 rfl rfl ?_
  refine n_sipush dX11_init_271 sq_640 ?_
  refine o_newa1 (n1 := (n + 32)) (N := 640) L32 ac_long (by decide) (by decide) (by decide) (Nat.le_of_ble_eq_true rfl) (Nat.le_of_ble_eq_true rfl) (n_oklc (n_okr (n_lt ha_32)) n_okl0) (n_okc (n_okr (n_lt ha_32)) n_ok0) dX11_init_274 (fun K33 e33 L33 g33 w33 => ?_)
  have ha_33 := g33 _ _ ha_32
  have L33 : K33.length = n + 33 := L33
  have E33 : K33 = kd ++ [(0, 500), (0, 1000), (0, 1000), (0, 1000), (0, 1000), (0, 1000), (0, 1000), (2, 1000), (0, 48), (0, 48), (0, 48), (0, 48), (0, 48), (0, 48), (0, 48), (0, 8), (0, 8), (0, 8), (0, 8), (0, 8), (0, 8), (0, 8), (0, 8), (0, 3), (0, 10), (0, 80), (0, 80), (0, 80), (0, 800), (0, 10), (1, 640), (1, 640), (1, 640)] := n_ex E32 e33 rfl
  clear e33
  clear E32 g32
  refine n_putF hK_11 ha_33 (n_lt w33) (i := 71) rfl fl_11_108 rfl rfl rfl (fun _ => ⟨rfl, rfl⟩) dX11_init_276 ?_
  refine n_aload_n dX11_init_279 rfl rfl ?_
  refine n_sipush dX11_init_280 sq_640 ?_
  refine o_newa1 (n1 := (n + 33)) (N := 640) L33 ac_long (by decide) (by decide) (by decide) (Nat.le_of_ble_eq_true rfl) (Nat.le_of_ble_eq_true rfl) (n_oklc (n_okr (n_lt ha_33)) n_okl0) (n_okc (n_okr (n_lt ha_33)) n_ok0) dX11_init_283 (fun K34 e34 L34 g34 w34 => ?_)
  have ha_34 := g34 _ _ ha_33
  have L34 : K34.length = n + 34 := L34
  have E34 : K34 = kd ++ [(0, 500), (0, 1000), (0, 1000), (0, 1000), (0, 1000), (0, 1000), (0, 1000), (2, 1000), (0, 48), (0, 48), (0, 48), (0, 48), (0, 48), (0, 48), (0, 48), (0, 8), (0, 8), (0, 8), (0, 8), (0, 8), (0, 8), (0, 8), (0, 8), (0, 3), (0, 10), (0, 80), (0, 80), (0, 80), (0, 800), (0, 10), (1, 640), (1, 640), (1, 640), (1, 640)] := n_ex E33 e34 rfl
  clear e34
  clear E33 g33
  refine n_putF hK_11 ha_34 (n_lt w34) (i := 72) rfl fl_11_111 rfl rfl rfl (fun _ => ⟨rfl, rfl⟩) dX11_init_285 ?_
  refine n_aload_n dX11_init_288 rfl rfl ?_
  refine n_sipush dX11_init_289 sq_640 ?_
  refine o_newa2 (n1 := (n + 34)) (N := 640) L34 ac_boolean (by decide) (by decide) (by decide) (Nat.le_of_ble_eq_true rfl) (Nat.le_of_ble_eq_true rfl) (n_oklc (n_okr (n_lt ha_34)) n_okl0) (n_okc (n_okr (n_lt ha_34)) n_ok0) dX11_init_292 (fun K35 e35 L35 g35 w35 => ?_)
  have ha_35 := g35 _ _ ha_34
  have L35 : K35.length = n + 35 := L35
  have E35 : K35 = kd ++ [(0, 500), (0, 1000), (0, 1000), (0, 1000), (0, 1000), (0, 1000), (0, 1000), (2, 1000), (0, 48), (0, 48), (0, 48), (0, 48), (0, 48), (0, 48), (0, 48), (0, 8), (0, 8), (0, 8), (0, 8), (0, 8), (0, 8), (0, 8), (0, 8), (0, 3), (0, 10), (0, 80), (0, 80), (0, 80), (0, 800), (0, 10), (1, 640), (1, 640), (1, 640), (1, 640), (2, 640)] := n_ex E34 e35 rfl
  clear e35
  clear E34 g34
  refine n_putF hK_11 ha_35 (n_lt w35) (i := 73) rfl fl_11_114 rfl rfl rfl (fun _ => ⟨rfl, rfl⟩) dX11_init_294 ?_
  refine n_aload_n dX11_init_297 rfl rfl ?_
  refine n_bipush dX11_init_298 bp_100 ?_
  refine o_newa2 (n1 := (n + 35)) (N := 100) L35 ac_boolean (by decide) (by decide) (by decide) (Nat.le_of_ble_eq_true rfl) (Nat.le_of_ble_eq_true rfl) (n_oklc (n_okr (n_lt ha_35)) n_okl0) (n_okc (n_okr (n_lt ha_35)) n_ok0) dX11_init_300 (fun K36 e36 L36 g36 w36 => ?_)
  have ha_36 := g36 _ _ ha_35
  have L36 : K36.length = n + 36 := L36
  have E36 : K36 = kd ++ [(0, 500), (0, 1000), (0, 1000), (0, 1000), (0, 1000), (0, 1000), (0, 1000), (2, 1000), (0, 48), (0, 48), (0, 48), (0, 48), (0, 48), (0, 48), (0, 48), (0, 8), (0, 8), (0, 8), (0, 8), (0, 8), (0, 8), (0, 8), (0, 8), (0, 3), (0, 10), (0, 80), (0, 80), (0, 80), (0, 800), (0, 10), (1, 640), (1, 640), (1, 640), (1, 640), (2, 640), (2, 100)] := n_ex E35 e36 rfl
  clear e36
  clear E35 g35
  refine n_putF hK_11 ha_36 (n_lt w36) (i := 74) rfl fl_11_117 rfl rfl rfl (fun _ => ⟨rfl, rfl⟩) dX11_init_302 ?_
  refine n_aload_n dX11_init_305 rfl rfl ?_
  refine n_bipush dX11_init_306 bp_10 ?_
  refine o_newa2 (n1 := (n + 36)) (N := 10) L36 ac_boolean (by decide) (by decide) (by decide) (Nat.le_of_ble_eq_true rfl) (Nat.le_of_ble_eq_true rfl) (n_oklc (n_okr (n_lt ha_36)) n_okl0) (n_okc (n_okr (n_lt ha_36)) n_ok0) dX11_init_308 (fun K37 e37 L37 g37 w37 => ?_)
  have ha_37 := g37 _ _ ha_36
  have L37 : K37.length = n + 37 := L37
  have E37 : K37 = kd ++ [(0, 500), (0, 1000), (0, 1000), (0, 1000), (0, 1000), (0, 1000), (0, 1000), (2, 1000), (0, 48), (0, 48), (0, 48), (0, 48), (0, 48), (0, 48), (0, 48), (0, 8), (0, 8), (0, 8), (0, 8), (0, 8), (0, 8), (0, 8), (0, 8), (0, 3), (0, 10), (0, 80), (0, 80), (0, 80), (0, 800), (0, 10), (1, 640), (1, 640), (1, 640), (1, 640), (2, 640), (2, 100), (2, 10)] := n_ex E36 e37 rfl
  clear e37
  clear E36 g36
  refine n_putF hK_11 ha_37 (n_lt w37) (i := 75) rfl fl_11_120 rfl rfl rfl (fun _ => ⟨rfl, rfl⟩) dX11_init_310 ?_
  refine n_aload_n dX11_init_313 rfl rfl ?_
  refine n_bipush dX11_init_314 bp_10 ?_
  refine o_newa0 (n1 := (n + 37)) (N := 10) L37 ac_int (by decide) (by decide) (by decide) (Nat.le_of_ble_eq_true rfl) (Nat.le_of_ble_eq_true rfl) (n_oklc (n_okr (n_lt ha_37)) n_okl0) (n_okc (n_okr (n_lt ha_37)) n_ok0) dX11_init_316 (fun K38 e38 L38 g38 w38 => ?_)
  have ha_38 := g38 _ _ ha_37
  have L38 : K38.length = n + 38 := L38
  have E38 : K38 = kd ++ [(0, 500), (0, 1000), (0, 1000), (0, 1000), (0, 1000), (0, 1000), (0, 1000), (2, 1000), (0, 48), (0, 48), (0, 48), (0, 48), (0, 48), (0, 48), (0, 48), (0, 8), (0, 8), (0, 8), (0, 8), (0, 8), (0, 8), (0, 8), (0, 8), (0, 3), (0, 10), (0, 80), (0, 80), (0, 80), (0, 800), (0, 10), (1, 640), (1, 640), (1, 640), (1, 640), (2, 640), (2, 100), (2, 10), (0, 10)] := n_ex E37 e38 rfl
  clear e38
  clear E37 g37
  refine n_putF hK_11 ha_38 (n_lt w38) (i := 76) rfl fl_11_123 rfl rfl rfl (fun _ => ⟨rfl, rfl⟩) dX11_init_318 ?_
  refine n_aload_n dX11_init_321 rfl rfl ?_
  refine n_bipush dX11_init_322 bp_10 ?_
  refine o_newa0 (n1 := (n + 38)) (N := 10) L38 ac_int (by decide) (by decide) (by decide) (Nat.le_of_ble_eq_true rfl) (Nat.le_of_ble_eq_true rfl) (n_oklc (n_okr (n_lt ha_38)) n_okl0) (n_okc (n_okr (n_lt ha_38)) n_ok0) dX11_init_324 (fun K39 e39 L39 g39 w39 => ?_)
  have ha_39 := g39 _ _ ha_38
  have L39 : K39.length = n + 39 := L39
  have E39 : K39 = kd ++ [(0, 500), (0, 1000), (0, 1000), (0, 1000), (0, 1000), (0, 1000), (0, 1000), (2, 1000), (0, 48), (0, 48), (0, 48), (0, 48), (0, 48), (0, 48), (0, 48), (0, 8), (0, 8), (0, 8), (0, 8), (0, 8), (0, 8), (0, 8), (0, 8), (0, 3), (0, 10), (0, 80), (0, 80), (0, 80), (0, 800), (0, 10), (1, 640), (1, 640), (1, 640), (1, 640), (2, 640), (2, 100), (2, 10), (0, 10), (0, 10)] := n_ex E38 e39 rfl
  clear e39
  clear E38 g38
  refine n_putF hK_11 ha_39 (n_lt w39) (i := 77) rfl fl_11_126 rfl rfl rfl (fun _ => ⟨rfl, rfl⟩) dX11_init_326 ?_
  refine n_aload_n dX11_init_329 rfl rfl ?_
  refine n_bipush dX11_init_330 bp_110 ?_
  refine o_newa1 (n1 := (n + 39)) (N := 110) L39 ac_long (by decide) (by decide) (by decide) (Nat.le_of_ble_eq_true rfl) (Nat.le_of_ble_eq_true rfl) (n_oklc (n_okr (n_lt ha_39)) n_okl0) (n_okc (n_okr (n_lt ha_39)) n_ok0) dX11_init_332 (fun K40 e40 L40 g40 w40 => ?_)
  have ha_40 := g40 _ _ ha_39
  have L40 : K40.length = n + 40 := L40
  have E40 : K40 = kd ++ [(0, 500), (0, 1000), (0, 1000), (0, 1000), (0, 1000), (0, 1000), (0, 1000), (2, 1000), (0, 48), (0, 48), (0, 48), (0, 48), (0, 48), (0, 48), (0, 48), (0, 8), (0, 8), (0, 8), (0, 8), (0, 8), (0, 8), (0, 8), (0, 8), (0, 3), (0, 10), (0, 80), (0, 80), (0, 80), (0, 800), (0, 10), (1, 640), (1, 640), (1, 640), (1, 640), (2, 640), (2, 100), (2, 10), (0, 10), (0, 10), (1, 110)] := n_ex E39 e40 rfl
  clear e40
  clear E39 g39
  refine n_putF hK_11 ha_40 (n_lt w40) (i := 79) rfl fl_11_129 rfl rfl rfl (fun _ => ⟨rfl, rfl⟩) dX11_init_334 ?_
  refine n_aload_n dX11_init_337 rfl rfl ?_
  refine n_bipush dX11_init_338 bp_100 ?_
  refine o_newa1 (n1 := (n + 40)) (N := 100) L40 ac_long (by decide) (by decide) (by decide) (Nat.le_of_ble_eq_true rfl) (Nat.le_of_ble_eq_true rfl) (n_oklc (n_okr (n_lt ha_40)) n_okl0) (n_okc (n_okr (n_lt ha_40)) n_ok0) dX11_init_340 (fun K41 e41 L41 g41 w41 => ?_)
  have ha_41 := g41 _ _ ha_40
  have L41 : K41.length = n + 41 := L41
  have E41 : K41 = kd ++ [(0, 500), (0, 1000), (0, 1000), (0, 1000), (0, 1000), (0, 1000), (0, 1000), (2, 1000), (0, 48), (0, 48), (0, 48), (0, 48), (0, 48), (0, 48), (0, 48), (0, 8), (0, 8), (0, 8), (0, 8), (0, 8), (0, 8), (0, 8), (0, 8), (0, 3), (0, 10), (0, 80), (0, 80), (0, 80), (0, 800), (0, 10), (1, 640), (1, 640), (1, 640), (1, 640), (2, 640), (2, 100), (2, 10), (0, 10), (0, 10), (1, 110), (1, 100)] := n_ex E40 e41 rfl
  clear e41
  clear E40 g40
  refine n_putF hK_11 ha_41 (n_lt w41) (i := 80) rfl fl_11_132 rfl rfl rfl (fun _ => ⟨rfl, rfl⟩) dX11_init_342 ?_
  refine n_aload_n dX11_init_345 rfl rfl ?_
  refine n_iconst dX11_init_346 ic_3 ?_
  refine o_newa0 (n1 := (n + 41)) (N := 3) L41 ac_int (by decide) (by decide) (by decide) (Nat.le_of_ble_eq_true rfl) (Nat.le_of_ble_eq_true rfl) (n_oklc (n_okr (n_lt ha_41)) n_okl0) (n_okc (n_okr (n_lt ha_41)) n_ok0) dX11_init_347 (fun K42 e42 L42 g42 w42 => ?_)
  have ha_42 := g42 _ _ ha_41
  have L42 : K42.length = n + 42 := L42
  have E42 : K42 = kd ++ [(0, 500), (0, 1000), (0, 1000), (0, 1000), (0, 1000), (0, 1000), (0, 1000), (2, 1000), (0, 48), (0, 48), (0, 48), (0, 48), (0, 48), (0, 48), (0, 48), (0, 8), (0, 8), (0, 8), (0, 8), (0, 8), (0, 8), (0, 8), (0, 8), (0, 3), (0, 10), (0, 80), (0, 80), (0, 80), (0, 800), (0, 10), (1, 640), (1, 640), (1, 640), (1, 640), (2, 640), (2, 100), (2, 10), (0, 10), (0, 10), (1, 110), (1, 100), (0, 3)] := n_ex E41 e42 rfl
  clear e42
  clear E41 g41
  refine n_putF hK_11 ha_42 (n_lt w42) (i := 81) rfl fl_11_135 rfl rfl rfl (fun _ => ⟨rfl, rfl⟩) dX11_init_349 ?_
  refine n_aload_n dX11_init_352 rfl rfl ?_
  refine n_bipush dX11_init_353 bp_10 ?_
  refine o_newa1 (n1 := (n + 42)) (N := 10) L42 ac_long (by decide) (by decide) (by decide) (Nat.le_of_ble_eq_true rfl) (Nat.le_of_ble_eq_true rfl) (n_oklc (n_okr (n_lt ha_42)) n_okl0) (n_okc (n_okr (n_lt ha_42)) n_ok0) dX11_init_355 (fun K43 e43 L43 g43 w43 => ?_)
  have ha_43 := g43 _ _ ha_42
  have L43 : K43.length = n + 43 := L43
  have E43 : K43 = kd ++ [(0, 500), (0, 1000), (0, 1000), (0, 1000), (0, 1000), (0, 1000), (0, 1000), (2, 1000), (0, 48), (0, 48), (0, 48), (0, 48), (0, 48), (0, 48), (0, 48), (0, 8), (0, 8), (0, 8), (0, 8), (0, 8), (0, 8), (0, 8), (0, 8), (0, 3), (0, 10), (0, 80), (0, 80), (0, 80), (0, 800), (0, 10), (1, 640), (1, 640), (1, 640), (1, 640), (2, 640), (2, 100), (2, 10), (0, 10), (0, 10), (1, 110), (1, 100), (0, 3), (1, 10)] := n_ex E42 e43 rfl
  clear e43
  clear E42 g42
  refine n_putF hK_11 ha_43 (n_lt w43) (i := 82) rfl fl_11_138 rfl rfl rfl (fun _ => ⟨rfl, rfl⟩) dX11_init_357 ?_
  refine n_aload_n dX11_init_360 rfl rfl ?_
  refine n_bipush dX11_init_361 bp_10 ?_
  refine o_newa1 (n1 := (n + 43)) (N := 10) L43 ac_long (by decide) (by decide) (by decide) (Nat.le_of_ble_eq_true rfl) (Nat.le_of_ble_eq_true rfl) (n_oklc (n_okr (n_lt ha_43)) n_okl0) (n_okc (n_okr (n_lt ha_43)) n_ok0) dX11_init_363 (fun K44 e44 L44 g44 w44 => ?_)
  have ha_44 := g44 _ _ ha_43
  have L44 : K44.length = n + 44 := L44
  have E44 : K44 = kd ++ [(0, 500), (0, 1000), (0, 1000), (0, 1000), (0, 1000), (0, 1000), (0, 1000), (2, 1000), (0, 48), (0, 48), (0, 48), (0, 48), (0, 48), (0, 48), (0, 48), (0, 8), (0, 8), (0, 8), (0, 8), (0, 8), (0, 8), (0, 8), (0, 8), (0, 3), (0, 10), (0, 80), (0, 80), (0, 80), (0, 800), (0, 10), (1, 640), (1, 640), (1, 640), (1, 640), (2, 640), (2, 100), (2, 10), (0, 10), (0, 10), (1, 110), (1, 100), (0, 3), (1, 10), (1, 10)] := n_ex E43 e44 rfl
  clear e44
  clear E43 g43
  refine n_putF hK_11 ha_44 (n_lt w44) (i := 83) rfl fl_11_141 rfl rfl rfl (fun _ => ⟨rfl, rfl⟩) dX11_init_365 ?_
  refine n_aload_n dX11_init_368 rfl rfl ?_
  refine n_bipush dX11_init_369 bp_100 ?_
  refine o_newa1 (n1 := (n + 44)) (N := 100) L44 ac_long (by decide) (by decide) (by decide) (Nat.le_of_ble_eq_true rfl) (Nat.le_of_ble_eq_true rfl) (n_oklc (n_okr (n_lt ha_44)) n_okl0) (n_okc (n_okr (n_lt ha_44)) n_ok0) dX11_init_371 (fun K45 e45 L45 g45 w45 => ?_)
  have ha_45 := g45 _ _ ha_44
  have L45 : K45.length = n + 45 := L45
  have E45 : K45 = kd ++ [(0, 500), (0, 1000), (0, 1000), (0, 1000), (0, 1000), (0, 1000), (0, 1000), (2, 1000), (0, 48), (0, 48), (0, 48), (0, 48), (0, 48), (0, 48), (0, 48), (0, 8), (0, 8), (0, 8), (0, 8), (0, 8), (0, 8), (0, 8), (0, 8), (0, 3), (0, 10), (0, 80), (0, 80), (0, 80), (0, 800), (0, 10), (1, 640), (1, 640), (1, 640), (1, 640), (2, 640), (2, 100), (2, 10), (0, 10), (0, 10), (1, 110), (1, 100), (0, 3), (1, 10), (1, 10), (1, 100)] := n_ex E44 e45 rfl
  clear e45
  clear E44 g44
  refine n_putF hK_11 ha_45 (n_lt w45) (i := 84) rfl fl_11_144 rfl rfl rfl (fun _ => ⟨rfl, rfl⟩) dX11_init_373 ?_
  refine n_aload_n dX11_init_376 rfl rfl ?_
  refine n_bipush dX11_init_377 bp_100 ?_
  refine o_newa1 (n1 := (n + 45)) (N := 100) L45 ac_long (by decide) (by decide) (by decide) (Nat.le_of_ble_eq_true rfl) (Nat.le_of_ble_eq_true rfl) (n_oklc (n_okr (n_lt ha_45)) n_okl0) (n_okc (n_okr (n_lt ha_45)) n_ok0) dX11_init_379 (fun K46 e46 L46 g46 w46 => ?_)
  have ha_46 := g46 _ _ ha_45
  have L46 : K46.length = n + 46 := L46
  have E46 : K46 = kd ++ [(0, 500), (0, 1000), (0, 1000), (0, 1000), (0, 1000), (0, 1000), (0, 1000), (2, 1000), (0, 48), (0, 48), (0, 48), (0, 48), (0, 48), (0, 48), (0, 48), (0, 8), (0, 8), (0, 8), (0, 8), (0, 8), (0, 8), (0, 8), (0, 8), (0, 3), (0, 10), (0, 80), (0, 80), (0, 80), (0, 800), (0, 10), (1, 640), (1, 640), (1, 640), (1, 640), (2, 640), (2, 100), (2, 10), (0, 10), (0, 10), (1, 110), (1, 100), (0, 3), (1, 10), (1, 10), (1, 100), (1, 100)] := n_ex E45 e46 rfl
  clear e46
  clear E45 g45
  refine n_putF hK_11 ha_46 (n_lt w46) (i := 85) rfl fl_11_147 rfl rfl rfl (fun _ => ⟨rfl, rfl⟩) dX11_init_381 ?_
  refine n_aload_n dX11_init_384 rfl rfl ?_
  refine n_bipush dX11_init_385 bp_100 ?_
  refine o_newa1 (n1 := (n + 46)) (N := 100) L46 ac_long (by decide) (by decide) (by decide) (Nat.le_of_ble_eq_true rfl) (Nat.le_of_ble_eq_true rfl) (n_oklc (n_okr (n_lt ha_46)) n_okl0) (n_okc (n_okr (n_lt ha_46)) n_ok0) dX11_init_387 (fun K47 e47 L47 g47 w47 => ?_)
  have ha_47 := g47 _ _ ha_46
  have L47 : K47.length = n + 47 := L47
  have E47 : K47 = kd ++ [(0, 500), (0, 1000), (0, 1000), (0, 1000), (0, 1000), (0, 1000), (0, 1000), (2, 1000), (0, 48), (0, 48), (0, 48), (0, 48), (0, 48), (0, 48), (0, 48), (0, 8), (0, 8), (0, 8), (0, 8), (0, 8), (0, 8), (0, 8), (0, 8), (0, 3), (0, 10), (0, 80), (0, 80), (0, 80), (0, 800), (0, 10), (1, 640), (1, 640), (1, 640), (1, 640), (2, 640), (2, 100), (2, 10), (0, 10), (0, 10), (1, 110), (1, 100), (0, 3), (1, 10), (1, 10), (1, 100), (1, 100), (1, 100)] := n_ex E46 e47 rfl
  clear e47
  clear E46 g46
  refine n_putF hK_11 ha_47 (n_lt w47) (i := 86) rfl fl_11_150 rfl rfl rfl (fun _ => ⟨rfl, rfl⟩) dX11_init_389 ?_
  refine n_aload_n dX11_init_392 rfl rfl ?_
  refine n_bipush dX11_init_393 bp_100 ?_
  refine o_newa1 (n1 := (n + 47)) (N := 100) L47 ac_long (by decide) (by decide) (by decide) (Nat.le_of_ble_eq_true rfl) (Nat.le_of_ble_eq_true rfl) (n_oklc (n_okr (n_lt ha_47)) n_okl0) (n_okc (n_okr (n_lt ha_47)) n_ok0) dX11_init_395 (fun K48 e48 L48 g48 w48 => ?_)
  have ha_48 := g48 _ _ ha_47
  have L48 : K48.length = n + 48 := L48
  have E48 : K48 = kd ++ [(0, 500), (0, 1000), (0, 1000), (0, 1000), (0, 1000), (0, 1000), (0, 1000), (2, 1000), (0, 48), (0, 48), (0, 48), (0, 48), (0, 48), (0, 48), (0, 48), (0, 8), (0, 8), (0, 8), (0, 8), (0, 8), (0, 8), (0, 8), (0, 8), (0, 3), (0, 10), (0, 80), (0, 80), (0, 80), (0, 800), (0, 10), (1, 640), (1, 640), (1, 640), (1, 640), (2, 640), (2, 100), (2, 10), (0, 10), (0, 10), (1, 110), (1, 100), (0, 3), (1, 10), (1, 10), (1, 100), (1, 100), (1, 100), (1, 100)] := n_ex E47 e48 rfl
  clear e48
  clear E47 g47
  refine n_putF hK_11 ha_48 (n_lt w48) (i := 87) rfl fl_11_153 rfl rfl rfl (fun _ => ⟨rfl, rfl⟩) dX11_init_397 ?_
  exact n_ret dX11_init_400 ⟨rfl, rfl, E48, rfl⟩
def y_Lt (kd : List (Nat × Nat)) : List (Nat × Nat) := (((x_Cd (kd ++ [(5, 0)])) ++ [(3, 48)]) ++ [(0, 24)])
def q_Lt (Rf : Nat → Nat → Option Nat) (a n : Nat) : Nat → Nat → Option Nat := (h_u (h_u (h_u (r_Cd Rf n (n + 1)) a 0 (some n)) a 1 (some (n + 6))) a 2 (some (n + 7)))
/-- the Steps that are made so far -/
def n_RS (Rf : Nat → Nat → Option Nat) (sa n i : Nat) : Nat → Nat → Option Nat := fun k j => if k = sa ∧ j < i then some (n + j) else Rf k j
def x_Lt (kd : List (Nat × Nat)) : List (Nat × Nat) := y_Lt kd ++ List.replicate 48 (13, 0)
def r_Lt (Rf : Nat → Nat → Option Nat) (a n : Nat) : Nat → Nat → Option Nat := n_RS (q_Lt Rf a n) (n + 6) (n + 8) 48
theorem ly_Lt (kd : List (Nat × Nat)) : (y_Lt kd).length = kd.length + 8 := by simp only [y_Lt, List.length_append, List.length_cons, List.length_nil, List.length_replicate, l_St, l_Cd, l_Wk, l_Rd, l_Ro, l_Pl, l_Hz, l_Co, l_Gt, l_M]
theorem l_Lt (kd : List (Nat × Nat)) : (x_Lt kd).length = kd.length + 56 := by simp only [x_Lt, ly_Lt, List.length_append, List.length_replicate]
theorem gy_Lt {kd : List (Nat × Nat)} {a : Nat} {u : Nat × Nat} (h : kd[a]? = some u) : (y_Lt kd)[a]? = some u := (n_ap _ (n_ap _ (g_Cd (n_ap _ h))))
theorem g_Lt {kd : List (Nat × Nat)} {a : Nat} {u : Nat × Nat} (h : kd[a]? = some u) : (x_Lt kd)[a]? = some u := n_ap _ (gy_Lt h)
theorem gs_Lt {kd : List (Nat × Nat)} {n : Nat} (hn : kd.length = n) : (y_Lt kd)[n + 6]? = some (3, 48) := by
  unfold y_Lt
  have L6 : (x_Cd (kd ++ [(5, 0)])).length = n + 6 := by simp only [List.length_append, List.length_cons, List.length_nil, List.length_replicate, l_St, l_Cd, l_Wk, l_Rd, l_Ro, l_Pl, l_Hz, l_Co, l_Gt, l_M]; omega
  exact n_ap _ (n_last (3, 48) L6)
theorem n_RS_s {Rf : Nat → Nat → Option Nat} {sa n i : Nat} : h_u (n_RS Rf sa n i) sa i (some (n + i)) = n_RS Rf sa n (i + 1) := by
  funext k j
  unfold h_u n_RS
  by_cases h1 : k = sa
  · by_cases h2 : j = i
    · subst h2
      simp [h1]
    · by_cases h3 : j < i
      · have : j < i + 1 := by omega
        simp [h1, h2, h3, this]
      · have : ¬ j < i + 1 := by omega
        simp [h1, h2, h3, this]
  · simp [h1]
theorem n_RS_0 {Rf : Nat → Nat → Option Nat} {sa n : Nat} : n_RS Rf sa n 0 = Rf := by
  funext k j
  simp [n_RS]
set_option maxHeartbeats 4000000 in
theorem n_Lt_loop (d0 : Nat) (hd0 : 1 ≤ d0) {kd : List (Nat × Nat)} {Rf : Nat → Nat → Option Nat} {a n : Nat} (hn : kd.length = n) (ha : kd[a]? = some (9, 0)) : ∀ (g i : Nat), i + g = 48 → NW cX4_init 2 RX4 kd (d0 + 1) (y_Lt kd ++ List.replicate i (13, 0)) (n_RS (q_Lt Rf a n) (n + 6) (n + 8) i) (8 + i) (908 + i * 8) [(0, .ref a), (1, .int (nI i))] 34 [] (x_Lt kd) (r_Lt Rf a n) 56 1292 := by
  intro g
  induction g with
  | zero =>
    intro i hi
    have : i = 48 := by omega
    subst this
    refine n_iload_n dX4_init_34 rfl rfl ?_
    refine n_bipush dX4_init_35 bp_48 ?_
    refine n_icmp_ge (tgt := 59) dX4_init_37 (by decide) (fun c => ?_) (fun c => absurd (by decide) c)
    exact n_ret dX4_init_59 ⟨rfl, rfl, rfl, rfl⟩
  | succ g ih =>
    intro i hi
    have hn2 := ly_Lt kd
    have haL := n_lt ha
    have L1 : (y_Lt kd ++ List.replicate i (13, 0)).length = n + 8 + i := by simp only [List.length_append, List.length_replicate, hn2]; omega
    refine n_iload_n dX4_init_34 rfl rfl ?_
    refine n_bipush dX4_init_35 bp_48 ?_
    refine n_icmp_ge (tgt := 59) dX4_init_37 (by decide) (fun c => absurd c (by rw [show (48 : Int32) = nI 48 from rfl]; exact nI_ge (by omega) (by omega))) (fun c => ?_)
    refine n_aload_n dX4_init_40 rfl rfl ?_
    refine n_getR hK_4 (n_ap _ (gy_Lt ha)) (i := 1) rfl fl_4_20 rfl (b := n + 6) (by simp [n_RS, q_Lt, h_u, n_RJ]; try omega) dX4_init_41 ?_
    refine n_iload_n dX4_init_44 rfl rfl ?_
    refine o_new (u := 13) (n1 := n + 8 + i) rfl L1 hK_8 dv_8 cl_4_18 it_8 ini_8 (by omega) (by omega) (n_oklc (n_okr (by omega)) (n_oklc n_oki n_okl0)) (n_okc n_oki (n_okc (n_okr (by omega)) n_ok0)) dX4_init_45 (fun K eK L2 gK wK => ?_)
    subst eK
    refine n_dup dX4_init_48 rfl ?_
    refine n_callN [.ref (n + 8 + i), .int (nI i), .ref (n + 6)] yy_X8_init ml_4_28 (c_St d0 (by omega) L2 (n_last (13, 0) L1)) rfl rfl (Nat.le_of_ble_eq_true rfl) (by omega) (by omega) (by rw [l_St]; omega) (n_oklc (n_okr (by omega)) (n_oklc n_oki n_okl0)) (n_okc (n_okr (by omega)) (n_okc n_oki (n_okc (n_okr (by omega)) n_ok0))) dX4_init_49 ?_
    refine n_ast (n_ap _ (n_ap _ (gs_Lt hn))) (n_last (13, 0) L1) (by exact vp_in_nI (by omega) (by omega)) dX4_init_52 ?_
    refine n_iinc (v := nI (i + 1)) (lv' := [(1, .int (nI (i + 1))), (0, .ref a)]) dX4_init_53 rfl (by rw [ic_1]; exact nI_1 i) (by decide) rfl ?_
    refine n_goto (tgt := 34) dX4_init_56 (by decide) ?_
    refine n_sub (lv' := [(0, .ref a), (1, .int (nI (i + 1)))]) [1, 0] rfl ?_
    have e1 : (nI i).toNatClampNeg = i := nI_clamp (by omega)
    have e2 : y_Lt kd ++ List.replicate i (13, 0) ++ [(13, 0)] = y_Lt kd ++ List.replicate (i + 1) (13, 0) := by rw [List.append_assoc]; congr 1; exact List.replicate_succ'.symm
    have k1 := ih (i + 1) (by omega)
    unfold x_St r_St
    rw [e1, n_RS_s]
    show NW _ _ _ _ _ (y_Lt kd ++ List.replicate i (13, 0) ++ [(13, 0)]) _ _ _ _ _ _ _ _ _ _
    rw [e2]
    have e3 : 8 + i + 1 + 0 = 8 + (i + 1) := by omega
    have e4 : 908 + i * 8 + 8 + 0 = 908 + (i + 1) * 8 := by omega
    rw [e3, e4]
    exact k1
set_option maxHeartbeats 4000000 in
theorem c_Lt (d : Nat) (hd : 2 + 1 ≤ d) {kd : List (Nat × Nat)} {Rf : Nat → Nat → Option Nat} {a n : Nat} (hn : kd.length = n) (ha : kd[a]? = some (9, 0)) : NMet yX4_init cX4_init 2 d kd [.ref a] Rf (x_Lt kd) (r_Lt Rf a n) 56 1292 := by
  obtain ⟨d0, rfl, hd0⟩ := h_mono hd
  have haL := n_lt ha
  have L0 : kd.length = n + 0 := hn
  refine NMet.of (by decide) rfl (Nat.le_of_ble_eq_true rfl) ?_
  show NW cX4_init 2 RX4 kd (d0 + 1) kd Rf 0 0 [(0, .ref a)] 0 [] (x_Lt kd) (r_Lt Rf a n) 56 1292
  refine n_aload_n dX4_init_0 rfl rfl ?_
  refine n_objInit om_4 oi_1 oi_2 (Nat.le_of_ble_eq_true rfl) (Nat.le_add_left 1 d0) dX4_init_1 ?_
  refine n_aload_n dX4_init_4 rfl rfl ?_
  refine o_new (u := 5) (n1 := n) rfl L0 hK_0 dv_0 cl_4_9 it_0 ini_0 (Nat.le_of_ble_eq_true rfl) (Nat.le_of_ble_eq_true rfl) (n_oklc (n_okr (n_lt ha)) n_okl0) (n_okc (n_okr (n_lt ha)) n_ok0) dX4_init_5 (fun K1 e1 L1 g1 w1 => ?_)
  have ha_1 := g1 _ _ ha
  have L1 : K1.length = n + 1 := L1
  refine n_dup dX4_init_8 rfl ?_
  refine o_callN (n1 := (n + 1)) (j1 := 5) [.ref n, .ref a] L1 (l_Cd _) (fun _ _ h => g_Cd h) yy_X0_init ml_4_11 (c_Cd d0 (Nat.le_trans (by decide) hd0) L1 w1) rfl rfl (Nat.le_of_ble_eq_true rfl) (Nat.le_of_ble_eq_true rfl) (Nat.le_of_ble_eq_true rfl) (n_oklc (n_okr (n_lt ha_1)) n_okl0) (n_okc (n_okr (n_lt w1)) (n_okc (n_okr (n_lt ha_1)) n_ok0)) dX4_init_9 (fun K2 e2 L2 g2 => ?_)
  have ha_2 := g2 _ _ ha_1
  have hn_2 := g2 _ _ w1
  have L2 : K2.length = n + 6 := L2
  refine n_putF hK_4 ha_2 (n_lt hn_2) (i := 0) rfl fl_4_12 rfl rfl rfl (fun _ => ⟨rfl, rfl⟩) dX4_init_12 ?_
  refine n_aload_n dX4_init_15 rfl rfl ?_
  refine n_bipush dX4_init_16 bp_48 ?_
  refine o_newq (n1 := (n + 6)) (N := 48) L2 cl_4_18 (by decide) (by decide) (by decide) (Nat.le_of_ble_eq_true rfl) (Nat.le_of_ble_eq_true rfl) (n_oklc (n_okr (n_lt ha_2)) n_okl0) (n_okc (n_okr (n_lt ha_2)) n_ok0) dX4_init_18 (fun K3 e3 L3 g3 w3 => ?_)
  have ha_3 := g3 _ _ ha_2
  have L3 : K3.length = n + 7 := L3
  refine n_putF hK_4 ha_3 (n_lt w3) (i := 1) rfl fl_4_20 rfl rfl rfl (fun _ => ⟨rfl, rfl⟩) dX4_init_21 ?_
  refine n_aload_n dX4_init_24 rfl rfl ?_
  refine n_bipush dX4_init_25 bp_24 ?_
  refine o_newa0 (n1 := (n + 7)) (N := 24) L3 ac_int (by decide) (by decide) (by decide) (Nat.le_of_ble_eq_true rfl) (Nat.le_of_ble_eq_true rfl) (n_oklc (n_okr (n_lt ha_3)) n_okl0) (n_okc (n_okr (n_lt ha_3)) n_ok0) dX4_init_27 (fun K4 e4 L4 g4 w4 => ?_)
  have ha_4 := g4 _ _ ha_3
  have hn6_4 := g4 _ _ w3
  have L4 : K4.length = n + 8 := L4
  refine n_putF hK_4 ha_4 (n_lt w4) (i := 2) rfl fl_4_24 rfl rfl rfl (fun _ => ⟨rfl, rfl⟩) dX4_init_29 ?_
  refine n_iconst dX4_init_32 ic_0 ?_
  refine n_istore_n (lv' := [(1, .int 0), (0, .ref a)]) dX4_init_33 rfl (by decide) rfl ?_
  refine n_sub (lv' := [(0, .ref a), (1, .int 0)]) [1, 0] rfl ?_
  subst e4 e3 e2 e1
  have k1 := n_Lt_loop d0 (by omega) (Rf := Rf) hn ha 48 0 rfl
  rw [n_RS_0, List.replicate_zero, List.append_nil] at k1
  exact k1
def x_C (kd : List (Nat × Nat)) : List (Nat × Nat) := (x_Gt ((x_Gt ((x_Lt ((x_Lt (((x_Co ((x_Hz ((x_Pl ((x_Ro ((x_Wk ((x_Rd (kd ++ [(11, 0)])) ++ [(14, 0)])) ++ [(12, 0)])) ++ [(10, 0)])) ++ [(8, 0)])) ++ [(6, 0)])) ++ [(0, 3)]) ++ [(9, 0)])) ++ [(9, 0)])) ++ [(7, 0)])) ++ [(7, 0)]))
def r_C (Rf : Nat → Nat → Option Nat) (a n : Nat) : Nat → Nat → Option Nat := (h_u (r_Gt (h_u (r_Gt (h_u (r_Lt (h_u (r_Lt (h_u (h_u (r_Co (h_u (r_Hz (h_u (r_Pl (h_u (r_Ro (h_u (r_Wk (h_u (r_Rd Rf n (n + 1)) a 0 (some n)) (n + 5) (n + 6)) a 1 (some (n + 5))) (n + 6) (n + 7)) a 2 (some (n + 6))) (n + 12) (n + 6) (n + 13)) a 3 (some (n + 12))) (n + 30) (n + 6) (n + 31)) a 4 (some (n + 30))) (n + 37) (n + 6) (n + 38)) a 5 (some (n + 37))) a 6 (some (n + 59))) (n + 60) (n + 61)) a 7 (some (n + 60))) (n + 117) (n + 118)) a 8 (some (n + 117))) (n + 174) (n + 175)) a 9 (some (n + 174))) (n + 187) (n + 188)) a 10 (some (n + 187)))
theorem l_C (kd : List (Nat × Nat)) : (x_C kd).length = kd.length + 200 := by simp only [x_C, List.length_append, List.length_cons, List.length_nil, List.length_replicate, l_St, l_Cd, l_Wk, l_Rd, l_Ro, l_Pl, l_Hz, l_Co, l_Gt, l_M, l_Lt]
theorem g_C {kd : List (Nat × Nat)} {a : Nat} {u : Nat × Nat} (h : kd[a]? = some u) : (x_C kd)[a]? = some u := (g_Gt (n_ap _ (g_Gt (n_ap _ (g_Lt (n_ap _ (g_Lt (n_ap _ (n_ap _ (g_Co (n_ap _ (g_Hz (n_ap _ (g_Pl (n_ap _ (g_Ro (n_ap _ (g_Wk (n_ap _ (g_Rd (n_ap _ h)))))))))))))))))))))
set_option maxHeartbeats 4000000 in
set_option maxRecDepth 4000 in
theorem c_C (d : Nat) (hd : 3 + 1 ≤ d) {kd : List (Nat × Nat)} {Rf : Nat → Nat → Option Nat} {a n : Nat} (hn : kd.length = n) (ha : kd[a]? = some (15, 0)) : NMet yX10_init cX10_init 1 d kd [.ref a] Rf (x_C kd) (r_C Rf a n) 200 9069 := by
  obtain ⟨d0, rfl, hd0⟩ := h_mono hd
  have haL := n_lt ha
  have L0 : kd.length = n + 0 := hn
  have hne : ∀ k, ¬ a = n + k := fun k => by omega
  have hne0 : ¬ a = n := by omega
  refine NMet.of (by decide) rfl (Nat.le_of_ble_eq_true rfl) ?_
  show NW cX10_init 1 RX10 kd (d0 + 1) kd Rf 0 0 [(0, .ref a)] 0 [] (x_C kd) (r_C Rf a n) 200 9069
  refine n_aload_n dX10_init_0 rfl rfl ?_
  refine n_objInit om_10 oi_1 oi_2 (Nat.le_of_ble_eq_true rfl) (Nat.le_add_left 1 d0) dX10_init_1 ?_
  refine n_aload_n dX10_init_4 rfl rfl ?_
  refine o_new (u := 11) (n1 := n) rfl L0 hK_6 dv_6 cl_10_9 it_6 ini_6 (Nat.le_of_ble_eq_true rfl) (Nat.le_of_ble_eq_true rfl) (n_oklc (n_okr (n_lt ha)) n_okl0) (n_okc (n_okr (n_lt ha)) n_ok0) dX10_init_5 (fun K1 e1 L1 g1 w1 => ?_)
  have ha_1 := g1 _ _ ha
  have L1 : K1.length = n + 1 := L1
  refine n_dup dX10_init_8 rfl ?_
  refine o_callN (n1 := (n + 1)) (j1 := 4) [.ref n, .ref a] L1 (l_Rd _) (fun _ _ h => g_Rd h) yy_X6_init ml_10_11 (c_Rd d0 (Nat.le_trans (by decide) hd0) L1 w1) rfl rfl (Nat.le_of_ble_eq_true rfl) (Nat.le_of_ble_eq_true rfl) (Nat.le_of_ble_eq_true rfl) (n_oklc (n_okr (n_lt ha_1)) n_okl0) (n_okc (n_okr (n_lt w1)) (n_okc (n_okr (n_lt ha_1)) n_ok0)) dX10_init_9 (fun K2 e2 L2 g2 => ?_)
  have ha_2 := g2 _ _ ha_1
  have hn_2 := g2 _ _ w1
  have L2 : K2.length = n + 5 := L2
  refine n_putF hK_10 ha_2 (n_lt hn_2) (i := 0) rfl fl_10_12 rfl rfl rfl (fun _ => ⟨rfl, rfl⟩) dX10_init_12 ?_
  refine n_aload_n dX10_init_15 rfl rfl ?_
  refine o_new (u := 14) (n1 := (n + 5)) rfl L2 hK_9 dv_9 cl_10_16 it_9 ini_9 (Nat.le_of_ble_eq_true rfl) (Nat.le_of_ble_eq_true rfl) (n_oklc (n_okr (n_lt ha_2)) n_okl0) (n_okc (n_okr (n_lt ha_2)) n_ok0) dX10_init_16 (fun K3 e3 L3 g3 w3 => ?_)
  have ha_3 := g3 _ _ ha_2
  have L3 : K3.length = n + 6 := L3
  refine n_dup dX10_init_19 rfl ?_
  refine o_callN (n1 := (n + 6)) (j1 := 0) [.ref (n + 5), .ref a] L3 (l_Wk _) (fun _ _ h => g_Wk h) yy_X9_init ml_10_18 (c_Wk d0 (Nat.le_trans (by decide) hd0) L3 w3) rfl rfl (Nat.le_of_ble_eq_true rfl) (Nat.le_of_ble_eq_true rfl) (Nat.le_of_ble_eq_true rfl) (n_oklc (n_okr (n_lt ha_3)) n_okl0) (n_okc (n_okr (n_lt w3)) (n_okc (n_okr (n_lt ha_3)) n_ok0)) dX10_init_20 (fun K4 e4 L4 g4 => ?_)
  have ha_4 := g4 _ _ ha_3
  have hn5_4 := g4 _ _ w3
  have L4 : K4.length = n + 6 := L4
  refine n_putF hK_10 ha_4 (n_lt hn5_4) (i := 1) rfl fl_10_19 rfl rfl rfl (fun _ => ⟨rfl, rfl⟩) dX10_init_23 ?_
  refine n_aload_n dX10_init_26 rfl rfl ?_
  refine o_new (u := 12) (n1 := (n + 6)) rfl L4 hK_7 dv_7 cl_10_23 it_7 ini_7 (Nat.le_of_ble_eq_true rfl) (Nat.le_of_ble_eq_true rfl) (n_oklc (n_okr (n_lt ha_4)) n_okl0) (n_okc (n_okr (n_lt ha_4)) n_ok0) dX10_init_27 (fun K5 e5 L5 g5 w5 => ?_)
  have ha_5 := g5 _ _ ha_4
  have L5 : K5.length = n + 7 := L5
  refine n_dup dX10_init_30 rfl ?_
  refine o_callN (n1 := (n + 7)) (j1 := 5) [.ref (n + 6), .ref a] L5 (l_Ro _) (fun _ _ h => g_Ro h) yy_X7_init ml_10_25 (c_Ro d0 (Nat.le_trans (by decide) hd0) L5 w5) rfl rfl (Nat.le_of_ble_eq_true rfl) (Nat.le_of_ble_eq_true rfl) (Nat.le_of_ble_eq_true rfl) (n_oklc (n_okr (n_lt ha_5)) n_okl0) (n_okc (n_okr (n_lt w5)) (n_okc (n_okr (n_lt ha_5)) n_ok0)) dX10_init_31 (fun K6 e6 L6 g6 => ?_)
  have ha_6 := g6 _ _ ha_5
  have hn6_6 := g6 _ _ w5
  have L6 : K6.length = n + 12 := L6
  refine n_putF hK_10 ha_6 (n_lt hn6_6) (i := 2) rfl fl_10_26 rfl rfl rfl (fun _ => ⟨rfl, rfl⟩) dX10_init_34 ?_
  refine n_aload_n dX10_init_37 rfl rfl ?_
  refine o_new (u := 10) (n1 := (n + 12)) rfl L6 hK_5 dv_5 cl_10_30 it_5 ini_5 (Nat.le_of_ble_eq_true rfl) (Nat.le_of_ble_eq_true rfl) (n_oklc (n_okr (n_lt ha_6)) n_okl0) (n_okc (n_okr (n_lt ha_6)) n_ok0) dX10_init_38 (fun K7 e7 L7 g7 w7 => ?_)
  have ha_7 := g7 _ _ ha_6
  have hn6_7 := g7 _ _ hn6_6
  have L7 : K7.length = n + 13 := L7
  refine n_dup dX10_init_41 rfl ?_
  refine n_aload_n dX10_init_42 rfl rfl ?_
  refine n_getR hK_10 ha_7 (i := 2) rfl fl_10_26 rfl (b := (n + 6)) (by simp [r_Rd, r_Wk, r_Ro, r_Pl, r_Hz, r_Co, h_u, n_RJ, hne, hne0, Nat.add_assoc]) dX10_init_43 ?_
  refine o_callI (n1 := (n + 13)) (j1 := 17) [.ref (n + 12), .ref a] L7 (l_Pl _) (fun _ _ h => g_Pl h) yy_X5_init ml_10_32 (c_Pl d0 (Nat.le_trans (by decide) hd0) L7 w7 hn6_7) rfl rfl (Nat.le_of_ble_eq_true rfl) (Nat.le_of_ble_eq_true rfl) (Nat.le_of_ble_eq_true rfl) (n_oklc (n_okr (n_lt ha_7)) n_okl0) (n_okc (n_okr (n_lt w7)) (n_okc (n_okr (n_lt ha_7)) n_ok0)) dX10_init_46 (fun K8 e8 L8 g8 => ?_)
  have ha_8 := g8 _ _ ha_7
  have hn6_8 := g8 _ _ hn6_7
  have hn12_8 := g8 _ _ w7
  have L8 : K8.length = n + 30 := L8
  refine n_putF hK_10 ha_8 (n_lt hn12_8) (i := 3) rfl fl_10_35 rfl rfl rfl (fun _ => ⟨rfl, rfl⟩) dX10_init_49 ?_
  refine n_aload_n dX10_init_52 rfl rfl ?_
  refine o_new (u := 8) (n1 := (n + 30)) rfl L8 hK_3 dv_3 cl_10_39 it_3 ini_3 (Nat.le_of_ble_eq_true rfl) (Nat.le_of_ble_eq_true rfl) (n_oklc (n_okr (n_lt ha_8)) n_okl0) (n_okc (n_okr (n_lt ha_8)) n_ok0) dX10_init_53 (fun K9 e9 L9 g9 w9 => ?_)
  have ha_9 := g9 _ _ ha_8
  have hn6_9 := g9 _ _ hn6_8
  have L9 : K9.length = n + 31 := L9
  refine n_dup dX10_init_56 rfl ?_
  refine n_aload_n dX10_init_57 rfl rfl ?_
  refine n_getR hK_10 ha_9 (i := 2) rfl fl_10_26 rfl (b := (n + 6)) (by simp [r_Rd, r_Wk, r_Ro, r_Pl, r_Hz, r_Co, h_u, n_RJ, hne, hne0, Nat.add_assoc]) dX10_init_58 ?_
  refine o_callI (n1 := (n + 31)) (j1 := 6) [.ref (n + 30), .ref a] L9 (l_Hz _) (fun _ _ h => g_Hz h) yy_X3_init ml_10_41 (c_Hz d0 (Nat.le_trans (by decide) hd0) L9 w9 hn6_9) rfl rfl (Nat.le_of_ble_eq_true rfl) (Nat.le_of_ble_eq_true rfl) (Nat.le_of_ble_eq_true rfl) (n_oklc (n_okr (n_lt ha_9)) n_okl0) (n_okc (n_okr (n_lt w9)) (n_okc (n_okr (n_lt ha_9)) n_ok0)) dX10_init_61 (fun K10 e10 L10 g10 => ?_)
  have ha_10 := g10 _ _ ha_9
  have hn6_10 := g10 _ _ hn6_9
  have hn30_10 := g10 _ _ w9
  have L10 : K10.length = n + 37 := L10
  refine n_putF hK_10 ha_10 (n_lt hn30_10) (i := 4) rfl fl_10_42 rfl rfl rfl (fun _ => ⟨rfl, rfl⟩) dX10_init_64 ?_
  refine n_aload_n dX10_init_67 rfl rfl ?_
  refine o_new (u := 6) (n1 := (n + 37)) rfl L10 hK_1 dv_1 cl_10_46 it_1 ini_1 (Nat.le_of_ble_eq_true rfl) (Nat.le_of_ble_eq_true rfl) (n_oklc (n_okr (n_lt ha_10)) n_okl0) (n_okc (n_okr (n_lt ha_10)) n_ok0) dX10_init_68 (fun K11 e11 L11 g11 w11 => ?_)
  have ha_11 := g11 _ _ ha_10
  have hn6_11 := g11 _ _ hn6_10
  have L11 : K11.length = n + 38 := L11
  refine n_dup dX10_init_71 rfl ?_
  refine n_aload_n dX10_init_72 rfl rfl ?_
  refine n_getR hK_10 ha_11 (i := 2) rfl fl_10_26 rfl (b := (n + 6)) (by simp [r_Rd, r_Wk, r_Ro, r_Pl, r_Hz, r_Co, h_u, n_RJ, hne, hne0, Nat.add_assoc]) dX10_init_73 ?_
  refine o_callI (n1 := (n + 38)) (j1 := 21) [.ref (n + 37), .ref a] L11 (l_Co _) (fun _ _ h => g_Co h) yy_X1_init ml_10_48 (c_Co d0 (Nat.le_trans (by decide) hd0) L11 w11 hn6_11) rfl rfl (Nat.le_of_ble_eq_true rfl) (Nat.le_of_ble_eq_true rfl) (Nat.le_of_ble_eq_true rfl) (n_oklc (n_okr (n_lt ha_11)) n_okl0) (n_okc (n_okr (n_lt w11)) (n_okc (n_okr (n_lt ha_11)) n_ok0)) dX10_init_76 (fun K12 e12 L12 g12 => ?_)
  have ha_12 := g12 _ _ ha_11
  have hn6_12 := g12 _ _ hn6_11
  have hn37_12 := g12 _ _ w11
  have L12 : K12.length = n + 59 := L12
  refine n_putF hK_10 ha_12 (n_lt hn37_12) (i := 5) rfl fl_10_49 rfl rfl rfl (fun _ => ⟨rfl, rfl⟩) dX10_init_79 ?_
  refine n_aload_n dX10_init_82 rfl rfl ?_
  refine n_iconst dX10_init_83 ic_3 ?_
  refine o_newa0 (n1 := (n + 59)) (N := 3) L12 ac_int (by decide) (by decide) (by decide) (Nat.le_of_ble_eq_true rfl) (Nat.le_of_ble_eq_true rfl) (n_oklc (n_okr (n_lt ha_12)) n_okl0) (n_okc (n_okr (n_lt ha_12)) n_ok0) dX10_init_84 (fun K13 e13 L13 g13 w13 => ?_)
  have ha_13 := g13 _ _ ha_12
  have hn6_13 := g13 _ _ hn6_12
  have L13 : K13.length = n + 60 := L13
  refine n_putF hK_10 ha_13 (n_lt w13) (i := 6) rfl fl_10_53 rfl rfl rfl (fun _ => ⟨rfl, rfl⟩) dX10_init_86 ?_
  refine n_aload_n dX10_init_89 rfl rfl ?_
  refine o_new (u := 9) (n1 := (n + 60)) rfl L13 hK_4 dv_4 cl_10_57 it_4 ini_4 (Nat.le_of_ble_eq_true rfl) (Nat.le_of_ble_eq_true rfl) (n_oklc (n_okr (n_lt ha_13)) n_okl0) (n_okc (n_okr (n_lt ha_13)) n_ok0) dX10_init_90 (fun K14 e14 L14 g14 w14 => ?_)
  have ha_14 := g14 _ _ ha_13
  have hn6_14 := g14 _ _ hn6_13
  have L14 : K14.length = n + 61 := L14
  refine n_dup dX10_init_93 rfl ?_
  refine o_callI (n1 := (n + 61)) (j1 := 56) [.ref (n + 60), .ref a] L14 (l_Lt _) (fun _ _ h => g_Lt h) yy_X4_init ml_10_59 (c_Lt d0 (Nat.le_trans (by decide) hd0) L14 w14) rfl rfl (Nat.le_of_ble_eq_true rfl) (Nat.le_of_ble_eq_true rfl) (Nat.le_of_ble_eq_true rfl) (n_oklc (n_okr (n_lt ha_14)) n_okl0) (n_okc (n_okr (n_lt w14)) (n_okc (n_okr (n_lt ha_14)) n_ok0)) dX10_init_94 (fun K15 e15 L15 g15 => ?_)
  have ha_15 := g15 _ _ ha_14
  have hn6_15 := g15 _ _ hn6_14
  have hn60_15 := g15 _ _ w14
  have L15 : K15.length = n + 117 := L15
  refine n_putR hK_10 ha_15 (n_lt hn60_15) (i := 7) rfl fl_10_60 rfl rfl (fun _ => ⟨rfl, rfl⟩) dX10_init_97 ?_
  refine n_aload_n dX10_init_100 rfl rfl ?_
  refine o_new (u := 9) (n1 := (n + 117)) rfl L15 hK_4 dv_4 cl_10_57 it_4 ini_4 (Nat.le_of_ble_eq_true rfl) (Nat.le_of_ble_eq_true rfl) (n_oklc (n_okr (n_lt ha_15)) n_okl0) (n_okc (n_okr (n_lt ha_15)) n_ok0) dX10_init_101 (fun K16 e16 L16 g16 w16 => ?_)
  have ha_16 := g16 _ _ ha_15
  have hn6_16 := g16 _ _ hn6_15
  have L16 : K16.length = n + 118 := L16
  refine n_dup dX10_init_104 rfl ?_
  refine o_callI (n1 := (n + 118)) (j1 := 56) [.ref (n + 117), .ref a] L16 (l_Lt _) (fun _ _ h => g_Lt h) yy_X4_init ml_10_59 (c_Lt d0 (Nat.le_trans (by decide) hd0) L16 w16) rfl rfl (Nat.le_of_ble_eq_true rfl) (Nat.le_of_ble_eq_true rfl) (Nat.le_of_ble_eq_true rfl) (n_oklc (n_okr (n_lt ha_16)) n_okl0) (n_okc (n_okr (n_lt w16)) (n_okc (n_okr (n_lt ha_16)) n_ok0)) dX10_init_105 (fun K17 e17 L17 g17 => ?_)
  have ha_17 := g17 _ _ ha_16
  have hn6_17 := g17 _ _ hn6_16
  have hn117_17 := g17 _ _ w16
  have L17 : K17.length = n + 174 := L17
  refine n_putR hK_10 ha_17 (n_lt hn117_17) (i := 8) rfl fl_10_64 rfl rfl (fun _ => ⟨rfl, rfl⟩) dX10_init_108 ?_
  refine n_aload_n dX10_init_111 rfl rfl ?_
  refine o_new (u := 7) (n1 := (n + 174)) rfl L17 hK_2 dv_2 cl_10_67 it_2 ini_2 (Nat.le_of_ble_eq_true rfl) (Nat.le_of_ble_eq_true rfl) (n_oklc (n_okr (n_lt ha_17)) n_okl0) (n_okc (n_okr (n_lt ha_17)) n_ok0) dX10_init_112 (fun K18 e18 L18 g18 w18 => ?_)
  have ha_18 := g18 _ _ ha_17
  have hn6_18 := g18 _ _ hn6_17
  have L18 : K18.length = n + 175 := L18
  refine n_dup dX10_init_115 rfl ?_
  refine o_callN (n1 := (n + 175)) (j1 := 12) [.ref (n + 174), .ref a] L18 (l_Gt _) (fun _ _ h => g_Gt h) yy_X2_init ml_10_69 (c_Gt d0 (Nat.le_trans (by decide) hd0) L18 w18) rfl rfl (Nat.le_of_ble_eq_true rfl) (Nat.le_of_ble_eq_true rfl) (Nat.le_of_ble_eq_true rfl) (n_oklc (n_okr (n_lt ha_18)) n_okl0) (n_okc (n_okr (n_lt w18)) (n_okc (n_okr (n_lt ha_18)) n_ok0)) dX10_init_116 (fun K19 e19 L19 g19 => ?_)
  have ha_19 := g19 _ _ ha_18
  have hn6_19 := g19 _ _ hn6_18
  have hn174_19 := g19 _ _ w18
  have L19 : K19.length = n + 187 := L19
  refine n_putR hK_10 ha_19 (n_lt hn174_19) (i := 9) rfl fl_10_70 rfl rfl (fun _ => ⟨rfl, rfl⟩) dX10_init_119 ?_
  refine n_aload_n dX10_init_122 rfl rfl ?_
  refine o_new (u := 7) (n1 := (n + 187)) rfl L19 hK_2 dv_2 cl_10_67 it_2 ini_2 (Nat.le_of_ble_eq_true rfl) (Nat.le_of_ble_eq_true rfl) (n_oklc (n_okr (n_lt ha_19)) n_okl0) (n_okc (n_okr (n_lt ha_19)) n_ok0) dX10_init_123 (fun K20 e20 L20 g20 w20 => ?_)
  have ha_20 := g20 _ _ ha_19
  have hn6_20 := g20 _ _ hn6_19
  have L20 : K20.length = n + 188 := L20
  refine n_dup dX10_init_126 rfl ?_
  refine o_callN (n1 := (n + 188)) (j1 := 12) [.ref (n + 187), .ref a] L20 (l_Gt _) (fun _ _ h => g_Gt h) yy_X2_init ml_10_69 (c_Gt d0 (Nat.le_trans (by decide) hd0) L20 w20) rfl rfl (Nat.le_of_ble_eq_true rfl) (Nat.le_of_ble_eq_true rfl) (Nat.le_of_ble_eq_true rfl) (n_oklc (n_okr (n_lt ha_20)) n_okl0) (n_okc (n_okr (n_lt w20)) (n_okc (n_okr (n_lt ha_20)) n_ok0)) dX10_init_127 (fun K21 e21 L21 g21 => ?_)
  have ha_21 := g21 _ _ ha_20
  have hn6_21 := g21 _ _ hn6_20
  have hn187_21 := g21 _ _ w20
  have L21 : K21.length = n + 200 := L21
  refine n_putR hK_10 ha_21 (n_lt hn187_21) (i := 10) rfl fl_10_74 rfl rfl (fun _ => ⟨rfl, rfl⟩) dX10_init_130 ?_
  exact n_ret dX10_init_133 ⟨rfl, rfl, by subst e21 e20 e19 e18 e17 e16 e15 e14 e13 e12 e11 e10 e9 e8 e7 e6 e5 e4 e3 e2 e1; rfl, rfl⟩
