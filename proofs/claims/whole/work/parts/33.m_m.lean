/-! CoinLoopsModel.isIn(I)Z -/
theorem dX11_isIn_0 : decode cX11_isIn 0 = .ok (.aload_n 0, 1) := by decide +kernel
theorem dX11_isIn_1 : decode cX11_isIn 1 = .ok (.aload_n 0, 1) := by decide +kernel
theorem dX11_isIn_2 : decode cX11_isIn 2 = .ok (.getfield 376, 3) := by decide +kernel
theorem dX11_isIn_5 : decode cX11_isIn 5 = .ok (.aload_n 0, 1) := by decide +kernel
theorem dX11_isIn_6 : decode cX11_isIn 6 = .ok (.getfield 379, 3) := by decide +kernel
theorem dX11_isIn_9 : decode cX11_isIn 9 = .ok (.iload_n 1, 1) := by decide +kernel
theorem dX11_isIn_10 : decode cX11_isIn 10 = .ok (.aload_n 0, 1) := by decide +kernel
theorem dX11_isIn_11 : decode cX11_isIn 11 = .ok (.getfield 361, 3) := by decide +kernel
theorem dX11_isIn_14 : decode cX11_isIn 14 = .ok (.irem, 1) := by decide +kernel
theorem dX11_isIn_15 : decode cX11_isIn 15 = .ok (.iload_n 1, 1) := by decide +kernel
theorem dX11_isIn_16 : decode cX11_isIn 16 = .ok (.aload_n 0, 1) := by decide +kernel
theorem dX11_isIn_17 : decode cX11_isIn 17 = .ok (.getfield 361, 3) := by decide +kernel
theorem dX11_isIn_20 : decode cX11_isIn 20 = .ok (.idiv, 1) := by decide +kernel
theorem dX11_isIn_21 : decode cX11_isIn 21 = .ok (.invokevirtual 394, 3) := by decide +kernel
theorem dX11_isIn_24 : decode cX11_isIn 24 = .ok (.ireturn, 1) := by decide +kernel
def mM_isIn  (v1 : Int32) (I : hI) : Option (Int32) :=
  h_g (h_nz (I 0 39)) <|
  h_g (h_nz (I 0 39)) <|
  (mM_holds (I 0 44) (I 0 45) (v1 - v1 / (I 0 39) * (I 0 39)) (v1 / (I 0 39)) I).bind fun q3 =>
  h_g (h_isZ q3) <|
  some q3
set_option maxHeartbeats 4000000 in
theorem sM_isIn (d : Nat) (hd : 2 + 1 ≤ d) (v1 : Int32) (I : hI) (J : hJ) (q : Int32) (h : mM_isIn v1 I = some q) : HMet hFT yX11_isIn cX11_isIn 2 (some .boolean) kdM d [.ref 0, .int v1] (I, J, RMm) (some (.int q)) (I, J, RMm) := by
  obtain ⟨d0, rfl, hd0⟩ := h_mono hd
  refine HMet.of (by decide) (Nat.le_of_ble_eq_true rfl) ?_
  show AW hFT cX11_isIn 2 (some .boolean) RX11 kdM (d0 + 1) [(0, .ref 0), (1, .int v1)] 0 [] (I, J, RMm) (some (.int q)) (I, J, RMm)
  unfold mM_isIn at h
  refine a_aload_n dX11_isIn_0 rfl rfl ?_
  refine a_aload_n dX11_isIn_1 rfl rfl ?_
  refine b_getI hK_11 km_0 (i := 44) rfl fl_11_376 rfl dX11_isIn_2 ?_
  refine a_aload_n dX11_isIn_5 rfl rfl ?_
  refine b_getI hK_11 km_0 (i := 45) rfl fl_11_379 rfl dX11_isIn_6 ?_
  refine a_iload_n dX11_isIn_9 rfl rfl ?_
  refine a_aload_n dX11_isIn_10 rfl rfl ?_
  refine b_getI hK_11 km_0 (i := 39) rfl fl_11_361 rfl dX11_isIn_11 ?_
  obtain ⟨g1, h⟩ := h_gS h
  refine a_irem dX11_isIn_14 (h_nzV g1) ?_
  refine a_iload_n dX11_isIn_15 rfl rfl ?_
  refine a_aload_n dX11_isIn_16 rfl rfl ?_
  refine b_getI hK_11 km_0 (i := 39) rfl fl_11_361 rfl dX11_isIn_17 ?_
  obtain ⟨g2, h⟩ := h_gS h
  refine a_idiv dX11_isIn_20 (h_nzV g2) ?_
  obtain ⟨q3, cq3, h⟩ := h_bindS h
  refine a_callV1 [] yy_X11_holds ml_11_394 km_0 rfl (sM_holds _ (by omega) (I 0 44) (I 0 45) (v1 - v1 / (I 0 39) * (I 0 39)) (v1 / (I 0 39)) I J q3 cq3) rfl rfl (Nat.le_of_ble_eq_true rfl) dX11_isIn_21 ?_
  obtain ⟨g4, h⟩ := h_gS h
  cases h
  exact a_zret ((h_isZV g4).1) dX11_isIn_24
/-! CoinLoopsModel.isAllowed(I)Z -/
theorem dX11_isAllowed_0 : decode cX11_isAllowed 0 = .ok (.iconst 1, 1) := by decide +kernel
theorem dX11_isAllowed_1 : decode cX11_isAllowed 1 = .ok (.istore_n 2, 1) := by decide +kernel
theorem dX11_isAllowed_2 : decode cX11_isAllowed 2 = .ok (.iconst 0, 1) := by decide +kernel
theorem dX11_isAllowed_3 : decode cX11_isAllowed 3 = .ok (.istore_n 3, 1) := by decide +kernel
theorem dX11_isAllowed_4 : decode cX11_isAllowed 4 = .ok (.iload_n 3, 1) := by decide +kernel
theorem dX11_isAllowed_5 : decode cX11_isAllowed 5 = .ok (.aload_n 0, 1) := by decide +kernel
theorem dX11_isAllowed_6 : decode cX11_isAllowed 6 = .ok (.getfield 373, 3) := by decide +kernel
theorem dX11_isAllowed_9 : decode cX11_isAllowed 9 = .ok (.if_icmp .ge 43, 3) := by decide +kernel
theorem dX11_isAllowed_12 : decode cX11_isAllowed 12 = .ok (.iload_n 2, 1) := by decide +kernel
theorem dX11_isAllowed_13 : decode cX11_isAllowed 13 = .ok (.ifCond .eq 31, 3) := by decide +kernel
theorem dX11_isAllowed_16 : decode cX11_isAllowed 16 = .ok (.aload_n 0, 1) := by decide +kernel
theorem dX11_isAllowed_17 : decode cX11_isAllowed 17 = .ok (.getfield 80, 3) := by decide +kernel
theorem dX11_isAllowed_20 : decode cX11_isAllowed 20 = .ok (.iload_n 3, 1) := by decide +kernel
theorem dX11_isAllowed_21 : decode cX11_isAllowed 21 = .ok (.iaload, 1) := by decide +kernel
theorem dX11_isAllowed_22 : decode cX11_isAllowed 22 = .ok (.iconst (-1), 1) := by decide +kernel
theorem dX11_isAllowed_23 : decode cX11_isAllowed 23 = .ok (.if_icmp .eq 17, 3) := by decide +kernel
theorem dX11_isAllowed_26 : decode cX11_isAllowed 26 = .ok (.iload_n 1, 1) := by decide +kernel
theorem dX11_isAllowed_27 : decode cX11_isAllowed 27 = .ok (.iload_n 3, 1) := by decide +kernel
theorem dX11_isAllowed_28 : decode cX11_isAllowed 28 = .ok (.ishr, 1) := by decide +kernel
theorem dX11_isAllowed_29 : decode cX11_isAllowed 29 = .ok (.iconst 1, 1) := by decide +kernel
theorem dX11_isAllowed_30 : decode cX11_isAllowed 30 = .ok (.iand, 1) := by decide +kernel
theorem dX11_isAllowed_31 : decode cX11_isAllowed 31 = .ok (.aload_n 0, 1) := by decide +kernel
theorem dX11_isAllowed_32 : decode cX11_isAllowed 32 = .ok (.getfield 80, 3) := by decide +kernel
theorem dX11_isAllowed_35 : decode cX11_isAllowed 35 = .ok (.iload_n 3, 1) := by decide +kernel
theorem dX11_isAllowed_36 : decode cX11_isAllowed 36 = .ok (.iaload, 1) := by decide +kernel
theorem dX11_isAllowed_37 : decode cX11_isAllowed 37 = .ok (.if_icmp .ne 7, 3) := by decide +kernel
theorem dX11_isAllowed_40 : decode cX11_isAllowed 40 = .ok (.iconst 1, 1) := by decide +kernel
theorem dX11_isAllowed_41 : decode cX11_isAllowed 41 = .ok (.goto 4, 3) := by decide +kernel
theorem dX11_isAllowed_44 : decode cX11_isAllowed 44 = .ok (.iconst 0, 1) := by decide +kernel
theorem dX11_isAllowed_45 : decode cX11_isAllowed 45 = .ok (.istore_n 2, 1) := by decide +kernel
theorem dX11_isAllowed_46 : decode cX11_isAllowed 46 = .ok (.iinc 3 1, 3) := by decide +kernel
theorem dX11_isAllowed_49 : decode cX11_isAllowed 49 = .ok (.goto (-45), 3) := by decide +kernel
theorem dX11_isAllowed_52 : decode cX11_isAllowed 52 = .ok (.iload_n 2, 1) := by decide +kernel
theorem dX11_isAllowed_53 : decode cX11_isAllowed 53 = .ok (.ireturn, 1) := by decide +kernel
def mM_isAllowed_B4 (k4 : Int32 → Int32 → Int32 → hI → Option (Int32)) (v1 : Int32) (v2 : Int32) (v3 : Int32) (I : hI) : Option (Int32) :=
  if (I 0 43) ≤ v3 then
    (h_g (h_isZ v2) <|
    some v2)
  else
    (if v2 = 0 then
      k4 v1 (0 : Int32) (v3 + (1 : Int32)) I
    else
      (h_g (h_in v3 3) <|
      if (I 24 v3.toNatClampNeg) = (-1 : Int32) then
        k4 v1 (1 : Int32) (v3 + (1 : Int32)) I
      else
        (h_g (h_in v3 3) <|
        if ((v1 >>> (v3 &&& 31)) &&& (1 : Int32)) = (I 24 v3.toNatClampNeg) then
          k4 v1 (1 : Int32) (v3 + (1 : Int32)) I
        else
          k4 v1 (0 : Int32) (v3 + (1 : Int32)) I)))
set_option maxHeartbeats 4000000 in
theorem sM_isAllowed_B4 (d : Nat) (hd : 0 ≤ d) (k4 : Int32 → Int32 → Int32 → hI → Option (Int32)) (hk4 : ∀ (v1 : Int32) (v2 : Int32) (v3 : Int32) (I : hI) (J : hJ) (q : Int32), k4 v1 v2 v3 I = some q → AW hFT cX11_isAllowed 4 (some .boolean) RX11 kdM d [(0, .ref 0), (1, .int v1), (2, .int v2), (3, .int v3)] 4 [] (I, J, RMm) (some (.int q)) (I, J, RMm)) (v1 : Int32) (v2 : Int32) (v3 : Int32) (I : hI) (J : hJ) (q : Int32) (h : mM_isAllowed_B4 k4 v1 v2 v3 I = some q) : AW hFT cX11_isAllowed 4 (some .boolean) RX11 kdM d [(0, .ref 0), (1, .int v1), (2, .int v2), (3, .int v3)] 4 [] (I, J, RMm) (some (.int q)) (I, J, RMm) := by
  unfold mM_isAllowed_B4 at h
  refine a_iload_n dX11_isAllowed_4 rfl rfl ?_
  refine a_aload_n dX11_isAllowed_5 rfl rfl ?_
  refine b_getI hK_11 km_0 (i := 43) rfl fl_11_373 rfl dX11_isAllowed_6 ?_
  refine a_icmp_ge (tgt := 52) dX11_isAllowed_9 (by decide) (fun c => ?_) (fun c => ?_)
  · replace h := h_iteT c h
    refine a_iload_n dX11_isAllowed_52 rfl rfl ?_
    obtain ⟨g1, h⟩ := h_gS h
    cases h
    exact a_zret ((h_isZV g1).1) dX11_isAllowed_53
  · replace h := h_iteF c h
    refine a_iload_n dX11_isAllowed_12 rfl rfl ?_
    refine a_if_eq (tgt := 44) dX11_isAllowed_13 (by decide) (fun c => ?_) (fun c => ?_)
    · replace h := h_iteT c h
      refine a_iconst dX11_isAllowed_44 ic_0 ?_
      refine a_istore_n (lv' := [(2, .int (0 : Int32)), (0, .ref 0), (1, .int v1), (3, .int v3)]) dX11_isAllowed_45 rfl (by decide) rfl ?_
      refine b_iinc (lv' := [(3, .int (v3 + (1 : Int32))), (2, .int (0 : Int32)), (0, .ref 0), (1, .int v1)]) dX11_isAllowed_46 rfl ic_1 (by decide) rfl ?_
      refine a_goto (tgt := 4) dX11_isAllowed_49 (by decide) ?_
      refine a_sub (lv' := [(0, .ref 0), (1, .int v1), (2, .int (0 : Int32)), (3, .int (v3 + (1 : Int32)))]) [2, 3, 1, 0] rfl ?_
      exact hk4 v1 (0 : Int32) (v3 + (1 : Int32)) I J _ h
    · replace h := h_iteF c h
      refine a_aload_n dX11_isAllowed_16 rfl rfl ?_
      refine b_getR hK_11 km_0 (i := 52) rfl fl_11_80 rfl rmm_52 dX11_isAllowed_17 ?_
      refine a_iload_n dX11_isAllowed_20 rfl rfl ?_
      obtain ⟨g1, h⟩ := h_gS h
      refine b_iaload km_24 (h_inV g1) dX11_isAllowed_21 ?_
      refine a_iconst dX11_isAllowed_22 ic_m1 ?_
      refine a_icmp_eq (tgt := 40) dX11_isAllowed_23 (by decide) (fun c => ?_) (fun c => ?_)
      · replace h := h_iteT c h
        refine a_iconst dX11_isAllowed_40 ic_1 ?_
        refine a_goto (tgt := 45) dX11_isAllowed_41 (by decide) ?_
        refine a_istore_n (lv' := [(2, .int (1 : Int32)), (0, .ref 0), (1, .int v1), (3, .int v3)]) dX11_isAllowed_45 rfl (by decide) rfl ?_
        refine b_iinc (lv' := [(3, .int (v3 + (1 : Int32))), (2, .int (1 : Int32)), (0, .ref 0), (1, .int v1)]) dX11_isAllowed_46 rfl ic_1 (by decide) rfl ?_
        refine a_goto (tgt := 4) dX11_isAllowed_49 (by decide) ?_
        refine a_sub (lv' := [(0, .ref 0), (1, .int v1), (2, .int (1 : Int32)), (3, .int (v3 + (1 : Int32)))]) [2, 3, 1, 0] rfl ?_
        exact hk4 v1 (1 : Int32) (v3 + (1 : Int32)) I J _ h
      · replace h := h_iteF c h
        refine a_iload_n dX11_isAllowed_26 rfl rfl ?_
        refine a_iload_n dX11_isAllowed_27 rfl rfl ?_
        refine a_ishr dX11_isAllowed_28 ?_
        refine a_iconst dX11_isAllowed_29 ic_1 ?_
        refine a_iand dX11_isAllowed_30 ?_
        refine a_aload_n dX11_isAllowed_31 rfl rfl ?_
        refine b_getR hK_11 km_0 (i := 52) rfl fl_11_80 rfl rmm_52 dX11_isAllowed_32 ?_
        refine a_iload_n dX11_isAllowed_35 rfl rfl ?_
        obtain ⟨g2, h⟩ := h_gS h
        refine b_iaload km_24 (h_inV g2) dX11_isAllowed_36 ?_
        refine a_icmp_ne (tgt := 44) dX11_isAllowed_37 (by decide) (fun c => ?_) (fun c => ?_)
        · replace h := h_iteF c h
          refine a_iconst dX11_isAllowed_44 ic_0 ?_
          refine a_istore_n (lv' := [(2, .int (0 : Int32)), (0, .ref 0), (1, .int v1), (3, .int v3)]) dX11_isAllowed_45 rfl (by decide) rfl ?_
          refine b_iinc (lv' := [(3, .int (v3 + (1 : Int32))), (2, .int (0 : Int32)), (0, .ref 0), (1, .int v1)]) dX11_isAllowed_46 rfl ic_1 (by decide) rfl ?_
          refine a_goto (tgt := 4) dX11_isAllowed_49 (by decide) ?_
          refine a_sub (lv' := [(0, .ref 0), (1, .int v1), (2, .int (0 : Int32)), (3, .int (v3 + (1 : Int32)))]) [2, 3, 1, 0] rfl ?_
          exact hk4 v1 (0 : Int32) (v3 + (1 : Int32)) I J _ h
        · replace h := h_iteT c h
          refine a_iconst dX11_isAllowed_40 ic_1 ?_
          refine a_goto (tgt := 45) dX11_isAllowed_41 (by decide) ?_
          refine a_istore_n (lv' := [(2, .int (1 : Int32)), (0, .ref 0), (1, .int v1), (3, .int v3)]) dX11_isAllowed_45 rfl (by decide) rfl ?_
          refine b_iinc (lv' := [(3, .int (v3 + (1 : Int32))), (2, .int (1 : Int32)), (0, .ref 0), (1, .int v1)]) dX11_isAllowed_46 rfl ic_1 (by decide) rfl ?_
          refine a_goto (tgt := 4) dX11_isAllowed_49 (by decide) ?_
          refine a_sub (lv' := [(0, .ref 0), (1, .int v1), (2, .int (1 : Int32)), (3, .int (v3 + (1 : Int32)))]) [2, 3, 1, 0] rfl ?_
          exact hk4 v1 (1 : Int32) (v3 + (1 : Int32)) I J _ h
def mM_isAllowed_L4  : Nat → Int32 → Int32 → Int32 → hI → Option (Int32)
  | 0 => fun _ _ _ _ => none
  | n + 1 => mM_isAllowed_B4 (mM_isAllowed_L4 n)
theorem sM_isAllowed_L4 (d : Nat) (hd : 0 ≤ d) : ∀ (n : Nat) (v1 : Int32) (v2 : Int32) (v3 : Int32) (I : hI) (J : hJ) (q : Int32) (h : mM_isAllowed_L4 n v1 v2 v3 I = some q), AW hFT cX11_isAllowed 4 (some .boolean) RX11 kdM d [(0, .ref 0), (1, .int v1), (2, .int v2), (3, .int v3)] 4 [] (I, J, RMm) (some (.int q)) (I, J, RMm)
  | 0, _, _, _, _, _, q, h => by cases h
  | n + 1, v1, v2, v3, I, J, q, h => sM_isAllowed_B4 d hd (mM_isAllowed_L4 n) (sM_isAllowed_L4 d hd n) v1 v2 v3 I J q h
def mM_isAllowed  (v1 : Int32) (I : hI) : Option (Int32) :=
  mM_isAllowed_L4 hF v1 (1 : Int32) (0 : Int32) I
set_option maxHeartbeats 4000000 in
theorem sM_isAllowed (d : Nat) (hd : 0 ≤ d) (v1 : Int32) (I : hI) (J : hJ) (q : Int32) (h : mM_isAllowed v1 I = some q) : HMet hFT yX11_isAllowed cX11_isAllowed 4 (some .boolean) kdM d [.ref 0, .int v1] (I, J, RMm) (some (.int q)) (I, J, RMm) := by
  refine HMet.of (by decide) (Nat.le_of_ble_eq_true rfl) ?_
  show AW hFT cX11_isAllowed 4 (some .boolean) RX11 kdM d [(0, .ref 0), (1, .int v1)] 0 [] (I, J, RMm) (some (.int q)) (I, J, RMm)
  unfold mM_isAllowed at h
  refine a_iconst dX11_isAllowed_0 ic_1 ?_
  refine a_istore_n (lv' := [(2, .int (1 : Int32)), (0, .ref 0), (1, .int v1)]) dX11_isAllowed_1 rfl (by decide) rfl ?_
  refine a_iconst dX11_isAllowed_2 ic_0 ?_
  refine a_istore_n (lv' := [(3, .int (0 : Int32)), (2, .int (1 : Int32)), (0, .ref 0), (1, .int v1)]) dX11_isAllowed_3 rfl (by decide) rfl ?_
  refine a_sub (lv' := [(0, .ref 0), (1, .int v1), (2, .int (1 : Int32)), (3, .int (0 : Int32))]) [2, 3, 1, 0] rfl ?_
  exact sM_isAllowed_L4 d (by omega) hF v1 (1 : Int32) (0 : Int32) I J _ h
/-! CoinLoopsModel.choiceAt(II)I -/
theorem dX11_choiceAt_0 : decode cX11_choiceAt 0 = .ok (.bipush 8, 2) := by decide +kernel
theorem dX11_choiceAt_2 : decode cX11_choiceAt 2 = .ok (.iload_n 1, 1) := by decide +kernel
theorem dX11_choiceAt_3 : decode cX11_choiceAt 3 = .ok (.imul, 1) := by decide +kernel
theorem dX11_choiceAt_4 : decode cX11_choiceAt 4 = .ok (.iload_n 2, 1) := by decide +kernel
theorem dX11_choiceAt_5 : decode cX11_choiceAt 5 = .ok (.iadd, 1) := by decide +kernel
theorem dX11_choiceAt_6 : decode cX11_choiceAt 6 = .ok (.ireturn, 1) := by decide +kernel
def mM_choiceAt  (v1 : Int32) (v2 : Int32)  : Int32 :=
  (((8 : Int32) * v1) + v2)
set_option maxHeartbeats 4000000 in
theorem sM_choiceAt (d : Nat) (hd : 0 ≤ d) (v1 : Int32) (v2 : Int32) (I : hI) (J : hJ) (q : Int32) (h : mM_choiceAt v1 v2 = q) : HMet hFT yX11_choiceAt cX11_choiceAt 3 (some .int) kdM d [.ref 0, .int v1, .int v2] (I, J, RMm) (some (.int q)) (I, J, RMm) := by
  refine HMet.of (by decide) (Nat.le_of_ble_eq_true rfl) ?_
  show AW hFT cX11_choiceAt 3 (some .int) RX11 kdM d [(0, .ref 0), (1, .int v1), (2, .int v2)] 0 [] (I, J, RMm) (some (.int q)) (I, J, RMm)
  unfold mM_choiceAt at h
  refine a_bipush dX11_choiceAt_0 bp_8 ?_
  refine a_iload_n dX11_choiceAt_2 rfl rfl ?_
  refine a_imul dX11_choiceAt_3 ?_
  refine a_iload_n dX11_choiceAt_4 rfl rfl ?_
  refine a_iadd dX11_choiceAt_5 ?_
  cases h
  exact a_iret dX11_choiceAt_6
/-! CoinLoopsModel.held(II)I -/
theorem dX11_held_0 : decode cX11_held 0 = .ok (.iconst 0, 1) := by decide +kernel
theorem dX11_held_1 : decode cX11_held 1 = .ok (.iload_n 1, 1) := by decide +kernel
theorem dX11_held_2 : decode cX11_held 2 = .ok (.iload_n 0, 1) := by decide +kernel
theorem dX11_held_3 : decode cX11_held 3 = .ok (.invokestatic 194, 3) := by decide +kernel
theorem dX11_held_6 : decode cX11_held 6 = .ok (.invokestatic 311, 3) := by decide +kernel
theorem dX11_held_9 : decode cX11_held 9 = .ok (.ireturn, 1) := by decide +kernel
def mM_held  (v0 : Int32) (v1 : Int32)  : Int32 :=
  (if (0 : Int32) < (if v0 < v1 then v0 else v1) then (if v0 < v1 then v0 else v1) else (0 : Int32))
set_option maxHeartbeats 4000000 in
theorem sM_held (d : Nat) (hd : 0 + 1 ≤ d) (v0 : Int32) (v1 : Int32) (I : hI) (J : hJ) (q : Int32) (h : mM_held v0 v1 = q) : HMet hFT yX11_held cX11_held 2 (some .int) kdM d [.int v0, .int v1] (I, J, RMm) (some (.int q)) (I, J, RMm) := by
  obtain ⟨d0, rfl, hd0⟩ := h_mono hd
  refine HMet.of (by decide) (Nat.le_of_ble_eq_true rfl) ?_
  show AW hFT cX11_held 2 (some .int) RX11 kdM (d0 + 1) [(0, .int v0), (1, .int v1)] 0 [] (I, J, RMm) (some (.int q)) (I, J, RMm)
  unfold mM_held at h
  refine a_iconst dX11_held_0 ic_0 ?_
  refine a_iload_n dX11_held_1 rfl rfl ?_
  refine a_iload_n dX11_held_2 rfl rfl ?_
  refine a_mmin w_mmin ml_11_194 (Nat.le_of_ble_eq_true rfl) dX11_held_3 ?_
  refine a_mmax w_mmax ml_11_311 (Nat.le_of_ble_eq_true rfl) dX11_held_6 ?_
  cases h
  exact a_iret dX11_held_9
/-! CoinLoopsModel.isHeads()Z -/
theorem dX11_isHeads_0 : decode cX11_isHeads 0 = .ok (.aload_n 0, 1) := by decide +kernel
theorem dX11_isHeads_1 : decode cX11_isHeads 1 = .ok (.dup, 1) := by decide +kernel
theorem dX11_isHeads_2 : decode cX11_isHeads 2 = .ok (.getfield 398, 3) := by decide +kernel
theorem dX11_isHeads_5 : decode cX11_isHeads 5 = .ok (.iconst 1, 1) := by decide +kernel
theorem dX11_isHeads_6 : decode cX11_isHeads 6 = .ok (.iadd, 1) := by decide +kernel
theorem dX11_isHeads_7 : decode cX11_isHeads 7 = .ok (.putfield 398, 3) := by decide +kernel
theorem dX11_isHeads_10 : decode cX11_isHeads 10 = .ok (.aload_n 0, 1) := by decide +kernel
theorem dX11_isHeads_11 : decode cX11_isHeads 11 = .ok (.getfield 401, 3) := by decide +kernel
theorem dX11_isHeads_14 : decode cX11_isHeads 14 = .ok (.ifCond .eq 37, 3) := by decide +kernel
theorem dX11_isHeads_17 : decode cX11_isHeads 17 = .ok (.aload_n 0, 1) := by decide +kernel
theorem dX11_isHeads_18 : decode cX11_isHeads 18 = .ok (.aload_n 0, 1) := by decide +kernel
theorem dX11_isHeads_19 : decode cX11_isHeads 19 = .ok (.getfield 404, 3) := by decide +kernel
theorem dX11_isHeads_22 : decode cX11_isHeads 22 = .ok (.ldc_w 407, 3) := by decide +kernel
theorem dX11_isHeads_25 : decode cX11_isHeads 25 = .ok (.imul, 1) := by decide +kernel
theorem dX11_isHeads_26 : decode cX11_isHeads 26 = .ok (.sipush 12345, 3) := by decide +kernel
theorem dX11_isHeads_29 : decode cX11_isHeads 29 = .ok (.iadd, 1) := by decide +kernel
theorem dX11_isHeads_30 : decode cX11_isHeads 30 = .ok (.putfield 404, 3) := by decide +kernel
theorem dX11_isHeads_33 : decode cX11_isHeads 33 = .ok (.aload_n 0, 1) := by decide +kernel
theorem dX11_isHeads_34 : decode cX11_isHeads 34 = .ok (.getfield 404, 3) := by decide +kernel
theorem dX11_isHeads_37 : decode cX11_isHeads 37 = .ok (.bipush 16, 2) := by decide +kernel
theorem dX11_isHeads_39 : decode cX11_isHeads 39 = .ok (.ishr, 1) := by decide +kernel
theorem dX11_isHeads_40 : decode cX11_isHeads 40 = .ok (.iconst 1, 1) := by decide +kernel
theorem dX11_isHeads_41 : decode cX11_isHeads 41 = .ok (.iand, 1) := by decide +kernel
theorem dX11_isHeads_42 : decode cX11_isHeads 42 = .ok (.ifCond .ne 7, 3) := by decide +kernel
theorem dX11_isHeads_45 : decode cX11_isHeads 45 = .ok (.iconst 1, 1) := by decide +kernel
theorem dX11_isHeads_46 : decode cX11_isHeads 46 = .ok (.goto 4, 3) := by decide +kernel
theorem dX11_isHeads_49 : decode cX11_isHeads 49 = .ok (.iconst 0, 1) := by decide +kernel
theorem dX11_isHeads_50 : decode cX11_isHeads 50 = .ok (.ireturn, 1) := by decide +kernel
theorem dX11_isHeads_51 : decode cX11_isHeads 51 = .ok (.aload_n 0, 1) := by decide +kernel
theorem dX11_isHeads_52 : decode cX11_isHeads 52 = .ok (.getfield 408, 3) := by decide +kernel
theorem dX11_isHeads_55 : decode cX11_isHeads 55 = .ok (.aload_n 0, 1) := by decide +kernel
theorem dX11_isHeads_56 : decode cX11_isHeads 56 = .ok (.getfield 398, 3) := by decide +kernel
theorem dX11_isHeads_59 : decode cX11_isHeads 59 = .ok (.iconst 1, 1) := by decide +kernel
theorem dX11_isHeads_60 : decode cX11_isHeads 60 = .ok (.isub, 1) := by decide +kernel
theorem dX11_isHeads_61 : decode cX11_isHeads 61 = .ok (.ishr, 1) := by decide +kernel
theorem dX11_isHeads_62 : decode cX11_isHeads 62 = .ok (.iconst 1, 1) := by decide +kernel
theorem dX11_isHeads_63 : decode cX11_isHeads 63 = .ok (.iand, 1) := by decide +kernel
theorem dX11_isHeads_64 : decode cX11_isHeads 64 = .ok (.ifCond .ne 7, 3) := by decide +kernel
theorem dX11_isHeads_67 : decode cX11_isHeads 67 = .ok (.iconst 1, 1) := by decide +kernel
theorem dX11_isHeads_68 : decode cX11_isHeads 68 = .ok (.goto 4, 3) := by decide +kernel
theorem dX11_isHeads_71 : decode cX11_isHeads 71 = .ok (.iconst 0, 1) := by decide +kernel
theorem dX11_isHeads_72 : decode cX11_isHeads 72 = .ok (.ireturn, 1) := by decide +kernel
def mM_isHeads   (I : hI) : Int32 × hI :=
  h_let (h_u I 0 56 ((I 0 56) + (1 : Int32))) fun I1 =>
  if (I1 0 61) = 0 then
    (if (((I1 0 57) >>> (((I1 0 56) - (1 : Int32)) &&& 31)) &&& (1 : Int32)) = 0 then
      ((1 : Int32), I1)
    else
      ((0 : Int32), I1))
  else
    (h_let (h_u I1 0 59 (((I1 0 59) * (1103515245 : Int32)) + (12345 : Int32))) fun I2 =>
    if (((I2 0 59) >>> ((16 : Int32) &&& 31)) &&& (1 : Int32)) = 0 then
      ((1 : Int32), I2)
    else
      ((0 : Int32), I2))
set_option maxHeartbeats 4000000 in
theorem sM_isHeads (d : Nat) (hd : 0 ≤ d)  (I : hI) (J : hJ) (q : Int32 × hI) (h : mM_isHeads I = q) : HMet hFT yX11_isHeads cX11_isHeads 1 (some .boolean) kdM d [.ref 0] (I, J, RMm) (some (.int q.1)) (q.2, J, RMm) := by
  refine HMet.of (by decide) (Nat.le_of_ble_eq_true rfl) ?_
  show AW hFT cX11_isHeads 1 (some .boolean) RX11 kdM d [(0, .ref 0)] 0 [] (I, J, RMm) (some (.int q.1)) (q.2, J, RMm)
  unfold mM_isHeads at h
  refine a_aload_n dX11_isHeads_0 rfl rfl ?_
  refine a_dup dX11_isHeads_1 rfl ?_
  refine b_getI hK_11 km_0 (i := 56) rfl fl_11_398 rfl dX11_isHeads_2 ?_
  refine a_iconst dX11_isHeads_5 ic_1 ?_
  refine a_iadd dX11_isHeads_6 ?_
  refine b_putI hK_11 km_0 (i := 56) rfl fl_11_398 rfl rfl (h_NI _) dX11_isHeads_7 ?_
  obtain ⟨I1, eI1, h⟩ := h_letS h
  refine a_memI eI1 ?_
  refine a_aload_n dX11_isHeads_10 rfl rfl ?_
  refine b_getI hK_11 km_0 (i := 61) rfl fl_11_401 rfl dX11_isHeads_11 ?_
  refine a_if_eq (tgt := 51) dX11_isHeads_14 (by decide) (fun c => ?_) (fun c => ?_)
  · replace h := h_iteT c h
    refine a_aload_n dX11_isHeads_51 rfl rfl ?_
    refine b_getI hK_11 km_0 (i := 57) rfl fl_11_408 rfl dX11_isHeads_52 ?_
    refine a_aload_n dX11_isHeads_55 rfl rfl ?_
    refine b_getI hK_11 km_0 (i := 56) rfl fl_11_398 rfl dX11_isHeads_56 ?_
    refine a_iconst dX11_isHeads_59 ic_1 ?_
    refine a_isub dX11_isHeads_60 ?_
    refine a_ishr dX11_isHeads_61 ?_
    refine a_iconst dX11_isHeads_62 ic_1 ?_
    refine a_iand dX11_isHeads_63 ?_
    refine a_if_ne (tgt := 71) dX11_isHeads_64 (by decide) (fun c => ?_) (fun c => ?_)
    · replace h := h_iteF c h
      refine a_iconst dX11_isHeads_71 ic_0 ?_
      cases h
      exact a_zret (h_Z0.1) dX11_isHeads_72
    · replace h := h_iteT c h
      refine a_iconst dX11_isHeads_67 ic_1 ?_
      refine a_goto (tgt := 72) dX11_isHeads_68 (by decide) ?_
      cases h
      exact a_zret (h_Z1.1) dX11_isHeads_72
  · replace h := h_iteF c h
    refine a_aload_n dX11_isHeads_17 rfl rfl ?_
    refine a_aload_n dX11_isHeads_18 rfl rfl ?_
    refine b_getI hK_11 km_0 (i := 59) rfl fl_11_404 rfl dX11_isHeads_19 ?_
    refine a_ldc_w cn_11_407 dX11_isHeads_22 ?_
    refine a_imul dX11_isHeads_25 ?_
    refine a_sipush dX11_isHeads_26 sq_12345 ?_
    refine a_iadd dX11_isHeads_29 ?_
    refine b_putI hK_11 km_0 (i := 59) rfl fl_11_404 rfl rfl (h_NI _) dX11_isHeads_30 ?_
    obtain ⟨I2, eI2, h⟩ := h_letS h
    refine a_memI eI2 ?_
    refine a_aload_n dX11_isHeads_33 rfl rfl ?_
    refine b_getI hK_11 km_0 (i := 59) rfl fl_11_404 rfl dX11_isHeads_34 ?_
    refine a_bipush dX11_isHeads_37 bp_16 ?_
    refine a_ishr dX11_isHeads_39 ?_
    refine a_iconst dX11_isHeads_40 ic_1 ?_
    refine a_iand dX11_isHeads_41 ?_
    refine a_if_ne (tgt := 49) dX11_isHeads_42 (by decide) (fun c => ?_) (fun c => ?_)
    · replace h := h_iteF c h
      refine a_iconst dX11_isHeads_49 ic_0 ?_
      cases h
      exact a_zret (h_Z0.1) dX11_isHeads_50
    · replace h := h_iteT c h
      refine a_iconst dX11_isHeads_45 ic_1 ?_
      refine a_goto (tgt := 50) dX11_isHeads_46 (by decide) ?_
      cases h
      exact a_zret (h_Z1.1) dX11_isHeads_50
/-! CoinLoopsModel.does(I)V -/
theorem dX11_does_0 : decode cX11_does 0 = .ok (.iload_n 1, 1) := by decide +kernel
theorem dX11_does_1 : decode cX11_does 1 = .ok (.istore_n 2, 1) := by decide +kernel
theorem dX11_does_2 : decode cX11_does 2 = .ok (.iload_n 2, 1) := by decide +kernel
theorem dX11_does_3 : decode cX11_does 3 = .ok (.iconst (-1), 1) := by decide +kernel
theorem dX11_does_4 : decode cX11_does 4 = .ok (.if_icmp .eq 273, 3) := by decide +kernel
theorem dX11_does_7 : decode cX11_does 7 = .ok (.aload_n 0, 1) := by decide +kernel
theorem dX11_does_8 : decode cX11_does 8 = .ok (.getfield 411, 3) := by decide +kernel
theorem dX11_does_11 : decode cX11_does 11 = .ok (.ifCond .ne 266, 3) := by decide +kernel
theorem dX11_does_14 : decode cX11_does 14 = .ok (.aload_n 0, 1) := by decide +kernel
theorem dX11_does_15 : decode cX11_does 15 = .ok (.getfield 35, 3) := by decide +kernel
theorem dX11_does_18 : decode cX11_does 18 = .ok (.iload_n 2, 1) := by decide +kernel
theorem dX11_does_19 : decode cX11_does 19 = .ok (.iaload, 1) := by decide +kernel
theorem dX11_does_20 : decode cX11_does 20 = .ok (.tableswitch 242 0 5 #[40, 74, 108, 126, 155, 193], 40) := by decide +kernel
theorem dX11_does_60 : decode cX11_does 60 = .ok (.aload_n 0, 1) := by decide +kernel
theorem dX11_does_61 : decode cX11_does 61 = .ok (.aload_n 0, 1) := by decide +kernel
theorem dX11_does_62 : decode cX11_does 62 = .ok (.aload_n 0, 1) := by decide +kernel
theorem dX11_does_63 : decode cX11_does 63 = .ok (.getfield 38, 3) := by decide +kernel
theorem dX11_does_66 : decode cX11_does 66 = .ok (.iload_n 2, 1) := by decide +kernel
theorem dX11_does_67 : decode cX11_does 67 = .ok (.iaload, 1) := by decide +kernel
theorem dX11_does_68 : decode cX11_does 68 = .ok (.aload_n 0, 1) := by decide +kernel
theorem dX11_does_69 : decode cX11_does 69 = .ok (.getfield 414, 3) := by decide +kernel
theorem dX11_does_72 : decode cX11_does 72 = .ok (.aload_n 0, 1) := by decide +kernel
theorem dX11_does_73 : decode cX11_does 73 = .ok (.getfield 416, 3) := by decide +kernel
theorem dX11_does_76 : decode cX11_does 76 = .ok (.invokevirtual 263, 3) := by decide +kernel
theorem dX11_does_79 : decode cX11_does 79 = .ok (.aload_n 0, 1) := by decide +kernel
theorem dX11_does_80 : decode cX11_does 80 = .ok (.getfield 361, 3) := by decide +kernel
theorem dX11_does_83 : decode cX11_does 83 = .ok (.iconst 1, 1) := by decide +kernel
theorem dX11_does_84 : decode cX11_does 84 = .ok (.isub, 1) := by decide +kernel
theorem dX11_does_85 : decode cX11_does 85 = .ok (.invokestatic 418, 3) := by decide +kernel
theorem dX11_does_88 : decode cX11_does 88 = .ok (.putfield 414, 3) := by decide +kernel
theorem dX11_does_91 : decode cX11_does 91 = .ok (.goto 176, 3) := by decide +kernel
theorem dX11_does_94 : decode cX11_does 94 = .ok (.aload_n 0, 1) := by decide +kernel
theorem dX11_does_95 : decode cX11_does 95 = .ok (.aload_n 0, 1) := by decide +kernel
theorem dX11_does_96 : decode cX11_does 96 = .ok (.aload_n 0, 1) := by decide +kernel
theorem dX11_does_97 : decode cX11_does 97 = .ok (.getfield 38, 3) := by decide +kernel
theorem dX11_does_100 : decode cX11_does 100 = .ok (.iload_n 2, 1) := by decide +kernel
theorem dX11_does_101 : decode cX11_does 101 = .ok (.iaload, 1) := by decide +kernel
theorem dX11_does_102 : decode cX11_does 102 = .ok (.aload_n 0, 1) := by decide +kernel
theorem dX11_does_103 : decode cX11_does 103 = .ok (.getfield 414, 3) := by decide +kernel
theorem dX11_does_106 : decode cX11_does 106 = .ok (.aload_n 0, 1) := by decide +kernel
theorem dX11_does_107 : decode cX11_does 107 = .ok (.getfield 416, 3) := by decide +kernel
theorem dX11_does_110 : decode cX11_does 110 = .ok (.invokevirtual 263, 3) := by decide +kernel
theorem dX11_does_113 : decode cX11_does 113 = .ok (.aload_n 0, 1) := by decide +kernel
theorem dX11_does_114 : decode cX11_does 114 = .ok (.getfield 364, 3) := by decide +kernel
theorem dX11_does_117 : decode cX11_does 117 = .ok (.iconst 1, 1) := by decide +kernel
theorem dX11_does_118 : decode cX11_does 118 = .ok (.isub, 1) := by decide +kernel
theorem dX11_does_119 : decode cX11_does 119 = .ok (.invokestatic 418, 3) := by decide +kernel
theorem dX11_does_122 : decode cX11_does 122 = .ok (.putfield 416, 3) := by decide +kernel
theorem dX11_does_125 : decode cX11_does 125 = .ok (.goto 142, 3) := by decide +kernel
theorem dX11_does_128 : decode cX11_does 128 = .ok (.aload_n 0, 1) := by decide +kernel
theorem dX11_does_129 : decode cX11_does 129 = .ok (.dup, 1) := by decide +kernel
theorem dX11_does_130 : decode cX11_does 130 = .ok (.getfield 421, 3) := by decide +kernel
theorem dX11_does_133 : decode cX11_does 133 = .ok (.aload_n 0, 1) := by decide +kernel
theorem dX11_does_134 : decode cX11_does 134 = .ok (.getfield 38, 3) := by decide +kernel
theorem dX11_does_137 : decode cX11_does 137 = .ok (.iload_n 2, 1) := by decide +kernel
theorem dX11_does_138 : decode cX11_does 138 = .ok (.iaload, 1) := by decide +kernel
theorem dX11_does_139 : decode cX11_does 139 = .ok (.iadd, 1) := by decide +kernel
theorem dX11_does_140 : decode cX11_does 140 = .ok (.putfield 421, 3) := by decide +kernel
theorem dX11_does_143 : decode cX11_does 143 = .ok (.goto 124, 3) := by decide +kernel
theorem dX11_does_146 : decode cX11_does 146 = .ok (.aload_n 0, 1) := by decide +kernel
theorem dX11_does_147 : decode cX11_does 147 = .ok (.aload_n 0, 1) := by decide +kernel
theorem dX11_does_148 : decode cX11_does 148 = .ok (.invokevirtual 424, 3) := by decide +kernel
theorem dX11_does_151 : decode cX11_does 151 = .ok (.ifCond .eq 12, 3) := by decide +kernel
theorem dX11_does_154 : decode cX11_does 154 = .ok (.aload_n 0, 1) := by decide +kernel
theorem dX11_does_155 : decode cX11_does 155 = .ok (.getfield 47, 3) := by decide +kernel
theorem dX11_does_158 : decode cX11_does 158 = .ok (.iload_n 2, 1) := by decide +kernel
theorem dX11_does_159 : decode cX11_does 159 = .ok (.iaload, 1) := by decide +kernel
theorem dX11_does_160 : decode cX11_does 160 = .ok (.goto 9, 3) := by decide +kernel
theorem dX11_does_163 : decode cX11_does 163 = .ok (.aload_n 0, 1) := by decide +kernel
theorem dX11_does_164 : decode cX11_does 164 = .ok (.getfield 50, 3) := by decide +kernel
theorem dX11_does_167 : decode cX11_does 167 = .ok (.iload_n 2, 1) := by decide +kernel
theorem dX11_does_168 : decode cX11_does 168 = .ok (.iaload, 1) := by decide +kernel
theorem dX11_does_169 : decode cX11_does 169 = .ok (.invokevirtual 427, 3) := by decide +kernel
theorem dX11_does_172 : decode cX11_does 172 = .ok (.goto 95, 3) := by decide +kernel
theorem dX11_does_175 : decode cX11_does 175 = .ok (.aload_n 0, 1) := by decide +kernel
theorem dX11_does_176 : decode cX11_does 176 = .ok (.aload_n 0, 1) := by decide +kernel
theorem dX11_does_177 : decode cX11_does 177 = .ok (.getfield 430, 3) := by decide +kernel
theorem dX11_does_180 : decode cX11_does 180 = .ok (.aload_n 0, 1) := by decide +kernel
theorem dX11_does_181 : decode cX11_does 181 = .ok (.getfield 38, 3) := by decide +kernel
theorem dX11_does_184 : decode cX11_does 184 = .ok (.iload_n 2, 1) := by decide +kernel
theorem dX11_does_185 : decode cX11_does 185 = .ok (.iaload, 1) := by decide +kernel
theorem dX11_does_186 : decode cX11_does 186 = .ok (.ishr, 1) := by decide +kernel
theorem dX11_does_187 : decode cX11_does 187 = .ok (.iconst 1, 1) := by decide +kernel
theorem dX11_does_188 : decode cX11_does 188 = .ok (.iand, 1) := by decide +kernel
theorem dX11_does_189 : decode cX11_does 189 = .ok (.ifCond .ne 12, 3) := by decide +kernel
theorem dX11_does_192 : decode cX11_does 192 = .ok (.aload_n 0, 1) := by decide +kernel
theorem dX11_does_193 : decode cX11_does 193 = .ok (.getfield 47, 3) := by decide +kernel
theorem dX11_does_196 : decode cX11_does 196 = .ok (.iload_n 2, 1) := by decide +kernel
theorem dX11_does_197 : decode cX11_does 197 = .ok (.iaload, 1) := by decide +kernel
theorem dX11_does_198 : decode cX11_does 198 = .ok (.goto 9, 3) := by decide +kernel
theorem dX11_does_201 : decode cX11_does 201 = .ok (.aload_n 0, 1) := by decide +kernel
theorem dX11_does_202 : decode cX11_does 202 = .ok (.getfield 50, 3) := by decide +kernel
theorem dX11_does_205 : decode cX11_does 205 = .ok (.iload_n 2, 1) := by decide +kernel
theorem dX11_does_206 : decode cX11_does 206 = .ok (.iaload, 1) := by decide +kernel
theorem dX11_does_207 : decode cX11_does 207 = .ok (.invokevirtual 427, 3) := by decide +kernel
theorem dX11_does_210 : decode cX11_does 210 = .ok (.goto 57, 3) := by decide +kernel
theorem dX11_does_213 : decode cX11_does 213 = .ok (.aload_n 0, 1) := by decide +kernel
theorem dX11_does_214 : decode cX11_does 214 = .ok (.aload_n 0, 1) := by decide +kernel
theorem dX11_does_215 : decode cX11_does 215 = .ok (.aload_n 0, 1) := by decide +kernel
theorem dX11_does_216 : decode cX11_does 216 = .ok (.getfield 41, 3) := by decide +kernel
theorem dX11_does_219 : decode cX11_does 219 = .ok (.iload_n 2, 1) := by decide +kernel
theorem dX11_does_220 : decode cX11_does 220 = .ok (.iaload, 1) := by decide +kernel
theorem dX11_does_221 : decode cX11_does 221 = .ok (.aload_n 0, 1) := by decide +kernel
theorem dX11_does_222 : decode cX11_does 222 = .ok (.getfield 44, 3) := by decide +kernel
theorem dX11_does_225 : decode cX11_does 225 = .ok (.iload_n 2, 1) := by decide +kernel
theorem dX11_does_226 : decode cX11_does 226 = .ok (.iaload, 1) := by decide +kernel
theorem dX11_does_227 : decode cX11_does 227 = .ok (.aload_n 0, 1) := by decide +kernel
theorem dX11_does_228 : decode cX11_does 228 = .ok (.getfield 414, 3) := by decide +kernel
theorem dX11_does_231 : decode cX11_does 231 = .ok (.aload_n 0, 1) := by decide +kernel
theorem dX11_does_232 : decode cX11_does 232 = .ok (.getfield 416, 3) := by decide +kernel
theorem dX11_does_235 : decode cX11_does 235 = .ok (.invokevirtual 394, 3) := by decide +kernel
theorem dX11_does_238 : decode cX11_does 238 = .ok (.ifCond .eq 12, 3) := by decide +kernel
theorem dX11_does_241 : decode cX11_does 241 = .ok (.aload_n 0, 1) := by decide +kernel
theorem dX11_does_242 : decode cX11_does 242 = .ok (.getfield 47, 3) := by decide +kernel
theorem dX11_does_245 : decode cX11_does 245 = .ok (.iload_n 2, 1) := by decide +kernel
theorem dX11_does_246 : decode cX11_does 246 = .ok (.iaload, 1) := by decide +kernel
theorem dX11_does_247 : decode cX11_does 247 = .ok (.goto 9, 3) := by decide +kernel
theorem dX11_does_250 : decode cX11_does 250 = .ok (.aload_n 0, 1) := by decide +kernel
theorem dX11_does_251 : decode cX11_does 251 = .ok (.getfield 50, 3) := by decide +kernel
theorem dX11_does_254 : decode cX11_does 254 = .ok (.iload_n 2, 1) := by decide +kernel
theorem dX11_does_255 : decode cX11_does 255 = .ok (.iaload, 1) := by decide +kernel
theorem dX11_does_256 : decode cX11_does 256 = .ok (.invokevirtual 427, 3) := by decide +kernel
theorem dX11_does_259 : decode cX11_does 259 = .ok (.goto 8, 3) := by decide +kernel
theorem dX11_does_262 : decode cX11_does 262 = .ok (.aload_n 0, 1) := by decide +kernel
theorem dX11_does_263 : decode cX11_does 263 = .ok (.iconst 1, 1) := by decide +kernel
theorem dX11_does_264 : decode cX11_does 264 = .ok (.putfield 411, 3) := by decide +kernel
theorem dX11_does_267 : decode cX11_does 267 = .ok (.aload_n 0, 1) := by decide +kernel
theorem dX11_does_268 : decode cX11_does 268 = .ok (.getfield 53, 3) := by decide +kernel
theorem dX11_does_271 : decode cX11_does 271 = .ok (.iload_n 2, 1) := by decide +kernel
theorem dX11_does_272 : decode cX11_does 272 = .ok (.iaload, 1) := by decide +kernel
theorem dX11_does_273 : decode cX11_does 273 = .ok (.istore_n 2, 1) := by decide +kernel
theorem dX11_does_274 : decode cX11_does 274 = .ok (.goto (-272), 3) := by decide +kernel
theorem dX11_does_277 : decode cX11_does 277 = .ok (.return_, 1) := by decide +kernel
def mM_does_256 (rec : Int32 → hI → Option (hI)) (k2 : Int32 → hI → Option (hI)) (v2 : Int32) (vs1 : Int32) (I : hI) : Option (hI) :=
  (rec vs1 I).bind fun q1 =>
  h_g (h_in v2 48) <|
  h_let (q1 15 v2.toNatClampNeg) fun v2x2 =>
  k2 v2x2 q1
set_option maxHeartbeats 4000000 in
theorem sM_does_256 (rec : Int32 → hI → Option (hI)) (Dr : Nat) (hrec : ∀ d, Dr ≤ d → ∀ (v1 : Int32) (I : hI) (J : hJ) (q : hI), rec v1 I = some q → HMet hFT yX11_does cX11_does 3 none kdM d [.ref 0, .int v1] (I, J, RMm) none (q, J, RMm)) (d : Nat) (hd : (Dr + 2) + 1 ≤ d) (k2 : Int32 → hI → Option (hI)) (hk2 : ∀ (v2 : Int32) (I : hI) (J : hJ) (q : hI), k2 v2 I = some q → AW hFT cX11_does 3 none RX11 kdM d [(0, .ref 0), (2, .int v2)] 2 [] (I, J, RMm) none (q, J, RMm)) (v2 : Int32) (vs1 : Int32) (I : hI) (J : hJ) (q : hI) (h : mM_does_256 rec k2 v2 vs1 I = some q) : AW hFT cX11_does 3 none RX11 kdM d [(0, .ref 0), (2, .int v2)] 256 [.int vs1, .ref 0] (I, J, RMm) none (q, J, RMm) := by
  obtain ⟨d0, rfl, hd0⟩ := h_mono hd
  unfold mM_does_256 at h
  obtain ⟨q1, cq1, h⟩ := h_bindS h
  refine a_callV0 [] yy_X11_does ml_11_427 km_0 rfl (hrec _ (by omega) vs1 I J q1 cq1) rfl rfl (Nat.le_of_ble_eq_true rfl) dX11_does_256 ?_
  refine a_goto (tgt := 267) dX11_does_259 (by decide) ?_
  refine a_aload_n dX11_does_267 rfl rfl ?_
  refine b_getR hK_11 km_0 (i := 23) rfl fl_11_53 rfl rmm_23 dX11_does_268 ?_
  refine a_iload_n dX11_does_271 rfl rfl ?_
  obtain ⟨g2, h⟩ := h_gS h
  refine b_iaload km_15 (h_inV g2) dX11_does_272 ?_
  obtain ⟨v2x2, ev2x2, h⟩ := h_letS h
  refine a_topI ev2x2 ?_
  refine a_istore_n (lv' := [(2, .int v2x2), (0, .ref 0)]) dX11_does_273 rfl (by decide) rfl ?_
  refine a_goto (tgt := 2) dX11_does_274 (by decide) ?_
  refine a_sub (lv' := [(0, .ref 0), (2, .int v2x2)]) [1, 0] rfl ?_
  exact hk2 v2x2 q1 J _ h
def mM_does_207 (rec : Int32 → hI → Option (hI)) (k2 : Int32 → hI → Option (hI)) (v2 : Int32) (vs1 : Int32) (I : hI) : Option (hI) :=
  (rec vs1 I).bind fun q1 =>
  h_g (h_in v2 48) <|
  h_let (q1 15 v2.toNatClampNeg) fun v2x2 =>
  k2 v2x2 q1
set_option maxHeartbeats 4000000 in
theorem sM_does_207 (rec : Int32 → hI → Option (hI)) (Dr : Nat) (hrec : ∀ d, Dr ≤ d → ∀ (v1 : Int32) (I : hI) (J : hJ) (q : hI), rec v1 I = some q → HMet hFT yX11_does cX11_does 3 none kdM d [.ref 0, .int v1] (I, J, RMm) none (q, J, RMm)) (d : Nat) (hd : (Dr + 2) + 1 ≤ d) (k2 : Int32 → hI → Option (hI)) (hk2 : ∀ (v2 : Int32) (I : hI) (J : hJ) (q : hI), k2 v2 I = some q → AW hFT cX11_does 3 none RX11 kdM d [(0, .ref 0), (2, .int v2)] 2 [] (I, J, RMm) none (q, J, RMm)) (v2 : Int32) (vs1 : Int32) (I : hI) (J : hJ) (q : hI) (h : mM_does_207 rec k2 v2 vs1 I = some q) : AW hFT cX11_does 3 none RX11 kdM d [(0, .ref 0), (2, .int v2)] 207 [.int vs1, .ref 0] (I, J, RMm) none (q, J, RMm) := by
  obtain ⟨d0, rfl, hd0⟩ := h_mono hd
  unfold mM_does_207 at h
  obtain ⟨q1, cq1, h⟩ := h_bindS h
  refine a_callV0 [] yy_X11_does ml_11_427 km_0 rfl (hrec _ (by omega) vs1 I J q1 cq1) rfl rfl (Nat.le_of_ble_eq_true rfl) dX11_does_207 ?_
  refine a_goto (tgt := 267) dX11_does_210 (by decide) ?_
  refine a_aload_n dX11_does_267 rfl rfl ?_
  refine b_getR hK_11 km_0 (i := 23) rfl fl_11_53 rfl rmm_23 dX11_does_268 ?_
  refine a_iload_n dX11_does_271 rfl rfl ?_
  obtain ⟨g2, h⟩ := h_gS h
  refine b_iaload km_15 (h_inV g2) dX11_does_272 ?_
  obtain ⟨v2x2, ev2x2, h⟩ := h_letS h
  refine a_topI ev2x2 ?_
  refine a_istore_n (lv' := [(2, .int v2x2), (0, .ref 0)]) dX11_does_273 rfl (by decide) rfl ?_
  refine a_goto (tgt := 2) dX11_does_274 (by decide) ?_
  refine a_sub (lv' := [(0, .ref 0), (2, .int v2x2)]) [1, 0] rfl ?_
  exact hk2 v2x2 q1 J _ h
def mM_does_169 (rec : Int32 → hI → Option (hI)) (k2 : Int32 → hI → Option (hI)) (v2 : Int32) (vs1 : Int32) (I : hI) : Option (hI) :=
  (rec vs1 I).bind fun q1 =>
  h_g (h_in v2 48) <|
  h_let (q1 15 v2.toNatClampNeg) fun v2x2 =>
  k2 v2x2 q1
set_option maxHeartbeats 4000000 in
theorem sM_does_169 (rec : Int32 → hI → Option (hI)) (Dr : Nat) (hrec : ∀ d, Dr ≤ d → ∀ (v1 : Int32) (I : hI) (J : hJ) (q : hI), rec v1 I = some q → HMet hFT yX11_does cX11_does 3 none kdM d [.ref 0, .int v1] (I, J, RMm) none (q, J, RMm)) (d : Nat) (hd : (Dr + 2) + 1 ≤ d) (k2 : Int32 → hI → Option (hI)) (hk2 : ∀ (v2 : Int32) (I : hI) (J : hJ) (q : hI), k2 v2 I = some q → AW hFT cX11_does 3 none RX11 kdM d [(0, .ref 0), (2, .int v2)] 2 [] (I, J, RMm) none (q, J, RMm)) (v2 : Int32) (vs1 : Int32) (I : hI) (J : hJ) (q : hI) (h : mM_does_169 rec k2 v2 vs1 I = some q) : AW hFT cX11_does 3 none RX11 kdM d [(0, .ref 0), (2, .int v2)] 169 [.int vs1, .ref 0] (I, J, RMm) none (q, J, RMm) := by
  obtain ⟨d0, rfl, hd0⟩ := h_mono hd
  unfold mM_does_169 at h
  obtain ⟨q1, cq1, h⟩ := h_bindS h
  refine a_callV0 [] yy_X11_does ml_11_427 km_0 rfl (hrec _ (by omega) vs1 I J q1 cq1) rfl rfl (Nat.le_of_ble_eq_true rfl) dX11_does_169 ?_
  refine a_goto (tgt := 267) dX11_does_172 (by decide) ?_
  refine a_aload_n dX11_does_267 rfl rfl ?_
  refine b_getR hK_11 km_0 (i := 23) rfl fl_11_53 rfl rmm_23 dX11_does_268 ?_
  refine a_iload_n dX11_does_271 rfl rfl ?_
  obtain ⟨g2, h⟩ := h_gS h
  refine b_iaload km_15 (h_inV g2) dX11_does_272 ?_
  obtain ⟨v2x2, ev2x2, h⟩ := h_letS h
  refine a_topI ev2x2 ?_
  refine a_istore_n (lv' := [(2, .int v2x2), (0, .ref 0)]) dX11_does_273 rfl (by decide) rfl ?_
  refine a_goto (tgt := 2) dX11_does_274 (by decide) ?_
  refine a_sub (lv' := [(0, .ref 0), (2, .int v2x2)]) [1, 0] rfl ?_
  exact hk2 v2x2 q1 J _ h
def mM_does_B2 (rec : Int32 → hI → Option (hI)) (k2 : Int32 → hI → Option (hI)) (v2 : Int32) (I : hI) : Option (hI) :=
  if v2 = (-1 : Int32) then
    some I
  else
    (if (I 0 60) = 0 then
      (h_g (h_in v2 48) <|
      if (I 9 v2.toNatClampNeg) = 0 then
        (h_g (h_in v2 48) <|
        (mM_sumAt (I 10 v2.toNatClampNeg) (I 0 53) (I 0 54) I).bind fun q3 =>
        h_let (h_u I 0 53 (mM_held q3 ((I 0 39) - (1 : Int32)))) fun I4 =>
        h_g (h_in v2 48) <|
        h_let (I4 15 v2.toNatClampNeg) fun v2x5 =>
        k2 v2x5 I4)
      else
        (if (I 9 v2.toNatClampNeg) = 1 then
          (h_g (h_in v2 48) <|
          (mM_sumAt (I 10 v2.toNatClampNeg) (I 0 53) (I 0 54) I).bind fun q3 =>
          h_let (h_u I 0 54 (mM_held q3 ((I 0 40) - (1 : Int32)))) fun I4 =>
          h_g (h_in v2 48) <|
          h_let (I4 15 v2.toNatClampNeg) fun v2x5 =>
          k2 v2x5 I4)
        else
          (if (I 9 v2.toNatClampNeg) = 2 then
            (h_g (h_in v2 48) <|
            h_let (h_u I 0 55 ((I 0 55) + (I 10 v2.toNatClampNeg))) fun I3 =>
            h_g (h_in v2 48) <|
            h_let (I3 15 v2.toNatClampNeg) fun v2x4 =>
            k2 v2x4 I3)
          else
            (if (I 9 v2.toNatClampNeg) = 3 then
              (h_let (mM_isHeads I) fun q2 =>
              if q2.1 = 0 then
                (h_g (h_in v2 48) <|
                mM_does_169 rec k2 v2 (q2.2 14 v2.toNatClampNeg) q2.2)
              else
                (h_g (h_in v2 48) <|
                mM_does_169 rec k2 v2 (q2.2 13 v2.toNatClampNeg) q2.2))
            else
              (if (I 9 v2.toNatClampNeg) = 4 then
                (h_g (h_in v2 48) <|
                if (((I 0 58) >>> ((I 10 v2.toNatClampNeg) &&& 31)) &&& (1 : Int32)) = 0 then
                  (h_g (h_in v2 48) <|
                  mM_does_207 rec k2 v2 (I 13 v2.toNatClampNeg) I)
                else
                  (h_g (h_in v2 48) <|
                  mM_does_207 rec k2 v2 (I 14 v2.toNatClampNeg) I))
              else
                (if (I 9 v2.toNatClampNeg) = 5 then
                  (h_g (h_in v2 48) <|
                  h_g (h_in v2 48) <|
                  (mM_holds (I 11 v2.toNatClampNeg) (I 12 v2.toNatClampNeg) (I 0 53) (I 0 54) I).bind fun q4 =>
                  if q4 = 0 then
                    (h_g (h_in v2 48) <|
                    mM_does_256 rec k2 v2 (I 14 v2.toNatClampNeg) I)
                  else
                    (h_g (h_in v2 48) <|
                    mM_does_256 rec k2 v2 (I 13 v2.toNatClampNeg) I))
                else
                  (h_let (h_u I 0 60 (1 : Int32)) fun I2 =>
                  h_g (h_in v2 48) <|
                  h_let (I2 15 v2.toNatClampNeg) fun v2x3 =>
                  k2 v2x3 I2)))))))
    else
      some I)
set_option maxHeartbeats 4000000 in
theorem sM_does_B2 (rec : Int32 → hI → Option (hI)) (Dr : Nat) (hrec : ∀ d, Dr ≤ d → ∀ (v1 : Int32) (I : hI) (J : hJ) (q : hI), rec v1 I = some q → HMet hFT yX11_does cX11_does 3 none kdM d [.ref 0, .int v1] (I, J, RMm) none (q, J, RMm)) (d : Nat) (hd : (Dr + 2) + 1 ≤ d) (k2 : Int32 → hI → Option (hI)) (hk2 : ∀ (v2 : Int32) (I : hI) (J : hJ) (q : hI), k2 v2 I = some q → AW hFT cX11_does 3 none RX11 kdM d [(0, .ref 0), (2, .int v2)] 2 [] (I, J, RMm) none (q, J, RMm)) (v2 : Int32) (I : hI) (J : hJ) (q : hI) (h : mM_does_B2 rec k2 v2 I = some q) : AW hFT cX11_does 3 none RX11 kdM d [(0, .ref 0), (2, .int v2)] 2 [] (I, J, RMm) none (q, J, RMm) := by
  obtain ⟨d0, rfl, hd0⟩ := h_mono hd
  unfold mM_does_B2 at h
  refine a_iload_n dX11_does_2 rfl rfl ?_
  refine a_iconst dX11_does_3 ic_m1 ?_
  refine a_icmp_eq (tgt := 277) dX11_does_4 (by decide) (fun c => ?_) (fun c => ?_)
  · replace h := h_iteT c h
    cases h
    exact a_vret dX11_does_277
  · replace h := h_iteF c h
    refine a_aload_n dX11_does_7 rfl rfl ?_
    refine b_getI hK_11 km_0 (i := 60) rfl fl_11_411 rfl dX11_does_8 ?_
    refine a_if_ne (tgt := 277) dX11_does_11 (by decide) (fun c => ?_) (fun c => ?_)
    · replace h := h_iteF c h
      cases h
      exact a_vret dX11_does_277
    · replace h := h_iteT c h
      refine a_aload_n dX11_does_14 rfl rfl ?_
      refine b_getR hK_11 km_0 (i := 17) rfl fl_11_35 rfl rmm_17 dX11_does_15 ?_
      refine a_iload_n dX11_does_18 rfl rfl ?_
      obtain ⟨g1, h⟩ := h_gS h
      refine b_iaload km_9 (h_inV g1) dX11_does_19 ?_
      by_cases n0 : (I 9 v2.toNatClampNeg) = 0
      · replace h := h_iteT n0 h
        refine a_topI n0 ?_
        refine a_tableIn (tgt := 60) (off := 40) dX11_does_20 (by decide) (by decide) (by decide) (by decide) ?_
        refine a_aload_n dX11_does_60 rfl rfl ?_
        refine a_aload_n dX11_does_61 rfl rfl ?_
        refine a_aload_n dX11_does_62 rfl rfl ?_
        refine b_getR hK_11 km_0 (i := 18) rfl fl_11_38 rfl rmm_18 dX11_does_63 ?_
        refine a_iload_n dX11_does_66 rfl rfl ?_
        obtain ⟨g2, h⟩ := h_gS h
        refine b_iaload km_10 (h_inV g2) dX11_does_67 ?_
        refine a_aload_n dX11_does_68 rfl rfl ?_
        refine b_getI hK_11 km_0 (i := 53) rfl fl_11_414 rfl dX11_does_69 ?_
        refine a_aload_n dX11_does_72 rfl rfl ?_
        refine b_getI hK_11 km_0 (i := 54) rfl fl_11_416 rfl dX11_does_73 ?_
        obtain ⟨q3, cq3, h⟩ := h_bindS h
        refine a_callV1 [.ref 0] yy_X11_sumAt ml_11_263 km_0 rfl (sM_sumAt _ (by omega) (I 10 v2.toNatClampNeg) (I 0 53) (I 0 54) I J q3 cq3) rfl rfl (Nat.le_of_ble_eq_true rfl) dX11_does_76 ?_
        refine a_aload_n dX11_does_79 rfl rfl ?_
        refine b_getI hK_11 km_0 (i := 39) rfl fl_11_361 rfl dX11_does_80 ?_
        refine a_iconst dX11_does_83 ic_1 ?_
        refine a_isub dX11_does_84 ?_
        refine a_callS1 [.ref 0] yy_X11_held ml_11_418 (sM_held _ (by omega) q3 ((I 0 39) - (1 : Int32)) I J _ rfl) rfl rfl (Nat.le_of_ble_eq_true rfl) dX11_does_85 ?_
        refine b_putI hK_11 km_0 (i := 53) rfl fl_11_414 rfl rfl (h_NI _) dX11_does_88 ?_
        obtain ⟨I4, eI4, h⟩ := h_letS h
        refine a_memI eI4 ?_
        refine a_goto (tgt := 267) dX11_does_91 (by decide) ?_
        refine a_aload_n dX11_does_267 rfl rfl ?_
        refine b_getR hK_11 km_0 (i := 23) rfl fl_11_53 rfl rmm_23 dX11_does_268 ?_
        refine a_iload_n dX11_does_271 rfl rfl ?_
        obtain ⟨g5, h⟩ := h_gS h
        refine b_iaload km_15 (h_inV g5) dX11_does_272 ?_
        obtain ⟨v2x5, ev2x5, h⟩ := h_letS h
        refine a_topI ev2x5 ?_
        refine a_istore_n (lv' := [(2, .int v2x5), (0, .ref 0)]) dX11_does_273 rfl (by decide) rfl ?_
        refine a_goto (tgt := 2) dX11_does_274 (by decide) ?_
        refine a_sub (lv' := [(0, .ref 0), (2, .int v2x5)]) [1, 0] rfl ?_
        exact hk2 v2x5 I4 J _ h
      · replace h := h_iteF n0 h
        by_cases n1 : (I 9 v2.toNatClampNeg) = 1
        · replace h := h_iteT n1 h
          refine a_topI n1 ?_
          refine a_tableIn (tgt := 94) (off := 74) dX11_does_20 (by decide) (by decide) (by decide) (by decide) ?_
          refine a_aload_n dX11_does_94 rfl rfl ?_
          refine a_aload_n dX11_does_95 rfl rfl ?_
          refine a_aload_n dX11_does_96 rfl rfl ?_
          refine b_getR hK_11 km_0 (i := 18) rfl fl_11_38 rfl rmm_18 dX11_does_97 ?_
          refine a_iload_n dX11_does_100 rfl rfl ?_
          obtain ⟨g2, h⟩ := h_gS h
          refine b_iaload km_10 (h_inV g2) dX11_does_101 ?_
          refine a_aload_n dX11_does_102 rfl rfl ?_
          refine b_getI hK_11 km_0 (i := 53) rfl fl_11_414 rfl dX11_does_103 ?_
          refine a_aload_n dX11_does_106 rfl rfl ?_
          refine b_getI hK_11 km_0 (i := 54) rfl fl_11_416 rfl dX11_does_107 ?_
          obtain ⟨q3, cq3, h⟩ := h_bindS h
          refine a_callV1 [.ref 0] yy_X11_sumAt ml_11_263 km_0 rfl (sM_sumAt _ (by omega) (I 10 v2.toNatClampNeg) (I 0 53) (I 0 54) I J q3 cq3) rfl rfl (Nat.le_of_ble_eq_true rfl) dX11_does_110 ?_
          refine a_aload_n dX11_does_113 rfl rfl ?_
          refine b_getI hK_11 km_0 (i := 40) rfl fl_11_364 rfl dX11_does_114 ?_
          refine a_iconst dX11_does_117 ic_1 ?_
          refine a_isub dX11_does_118 ?_
          refine a_callS1 [.ref 0] yy_X11_held ml_11_418 (sM_held _ (by omega) q3 ((I 0 40) - (1 : Int32)) I J _ rfl) rfl rfl (Nat.le_of_ble_eq_true rfl) dX11_does_119 ?_
          refine b_putI hK_11 km_0 (i := 54) rfl fl_11_416 rfl rfl (h_NI _) dX11_does_122 ?_
          obtain ⟨I4, eI4, h⟩ := h_letS h
          refine a_memI eI4 ?_
          refine a_goto (tgt := 267) dX11_does_125 (by decide) ?_
          refine a_aload_n dX11_does_267 rfl rfl ?_
          refine b_getR hK_11 km_0 (i := 23) rfl fl_11_53 rfl rmm_23 dX11_does_268 ?_
          refine a_iload_n dX11_does_271 rfl rfl ?_
          obtain ⟨g5, h⟩ := h_gS h
          refine b_iaload km_15 (h_inV g5) dX11_does_272 ?_
          obtain ⟨v2x5, ev2x5, h⟩ := h_letS h
          refine a_topI ev2x5 ?_
          refine a_istore_n (lv' := [(2, .int v2x5), (0, .ref 0)]) dX11_does_273 rfl (by decide) rfl ?_
          refine a_goto (tgt := 2) dX11_does_274 (by decide) ?_
          refine a_sub (lv' := [(0, .ref 0), (2, .int v2x5)]) [1, 0] rfl ?_
          exact hk2 v2x5 I4 J _ h
        · replace h := h_iteF n1 h
          by_cases n2 : (I 9 v2.toNatClampNeg) = 2
          · replace h := h_iteT n2 h
            refine a_topI n2 ?_
            refine a_tableIn (tgt := 128) (off := 108) dX11_does_20 (by decide) (by decide) (by decide) (by decide) ?_
            refine a_aload_n dX11_does_128 rfl rfl ?_
            refine a_dup dX11_does_129 rfl ?_
            refine b_getI hK_11 km_0 (i := 55) rfl fl_11_421 rfl dX11_does_130 ?_
            refine a_aload_n dX11_does_133 rfl rfl ?_
            refine b_getR hK_11 km_0 (i := 18) rfl fl_11_38 rfl rmm_18 dX11_does_134 ?_
            refine a_iload_n dX11_does_137 rfl rfl ?_
            obtain ⟨g2, h⟩ := h_gS h
            refine b_iaload km_10 (h_inV g2) dX11_does_138 ?_
            refine a_iadd dX11_does_139 ?_
            refine b_putI hK_11 km_0 (i := 55) rfl fl_11_421 rfl rfl (h_NI _) dX11_does_140 ?_
            obtain ⟨I3, eI3, h⟩ := h_letS h
            refine a_memI eI3 ?_
            refine a_goto (tgt := 267) dX11_does_143 (by decide) ?_
            refine a_aload_n dX11_does_267 rfl rfl ?_
            refine b_getR hK_11 km_0 (i := 23) rfl fl_11_53 rfl rmm_23 dX11_does_268 ?_
            refine a_iload_n dX11_does_271 rfl rfl ?_
            obtain ⟨g4, h⟩ := h_gS h
            refine b_iaload km_15 (h_inV g4) dX11_does_272 ?_
            obtain ⟨v2x4, ev2x4, h⟩ := h_letS h
            refine a_topI ev2x4 ?_
            refine a_istore_n (lv' := [(2, .int v2x4), (0, .ref 0)]) dX11_does_273 rfl (by decide) rfl ?_
            refine a_goto (tgt := 2) dX11_does_274 (by decide) ?_
            refine a_sub (lv' := [(0, .ref 0), (2, .int v2x4)]) [1, 0] rfl ?_
            exact hk2 v2x4 I3 J _ h
          · replace h := h_iteF n2 h
            by_cases n3 : (I 9 v2.toNatClampNeg) = 3
            · replace h := h_iteT n3 h
              refine a_topI n3 ?_
              refine a_tableIn (tgt := 146) (off := 126) dX11_does_20 (by decide) (by decide) (by decide) (by decide) ?_
              refine a_aload_n dX11_does_146 rfl rfl ?_
              refine a_aload_n dX11_does_147 rfl rfl ?_
              obtain ⟨q2, cq2, h⟩ := h_letS h
              refine a_callV1 [.ref 0] yy_X11_isHeads ml_11_424 km_0 rfl (sM_isHeads _ (by omega)  I J q2 cq2) rfl rfl (Nat.le_of_ble_eq_true rfl) dX11_does_148 ?_
              refine a_if_eq (tgt := 163) dX11_does_151 (by decide) (fun c => ?_) (fun c => ?_)
              · replace h := h_iteT c h
                refine a_aload_n dX11_does_163 rfl rfl ?_
                refine b_getR hK_11 km_0 (i := 22) rfl fl_11_50 rfl rmm_22 dX11_does_164 ?_
                refine a_iload_n dX11_does_167 rfl rfl ?_
                obtain ⟨g3, h⟩ := h_gS h
                refine b_iaload km_14 (h_inV g3) dX11_does_168 ?_
                exact sM_does_169 rec Dr hrec (d0 + 1) (by omega) k2 hk2 v2 (q2.2 14 v2.toNatClampNeg) q2.2 J _ h
              · replace h := h_iteF c h
                refine a_aload_n dX11_does_154 rfl rfl ?_
                refine b_getR hK_11 km_0 (i := 21) rfl fl_11_47 rfl rmm_21 dX11_does_155 ?_
                refine a_iload_n dX11_does_158 rfl rfl ?_
                obtain ⟨g3, h⟩ := h_gS h
                refine b_iaload km_13 (h_inV g3) dX11_does_159 ?_
                refine a_goto (tgt := 169) dX11_does_160 (by decide) ?_
                exact sM_does_169 rec Dr hrec (d0 + 1) (by omega) k2 hk2 v2 (q2.2 13 v2.toNatClampNeg) q2.2 J _ h
            · replace h := h_iteF n3 h
              by_cases n4 : (I 9 v2.toNatClampNeg) = 4
              · replace h := h_iteT n4 h
                refine a_topI n4 ?_
                refine a_tableIn (tgt := 175) (off := 155) dX11_does_20 (by decide) (by decide) (by decide) (by decide) ?_
                refine a_aload_n dX11_does_175 rfl rfl ?_
                refine a_aload_n dX11_does_176 rfl rfl ?_
                refine b_getI hK_11 km_0 (i := 58) rfl fl_11_430 rfl dX11_does_177 ?_
                refine a_aload_n dX11_does_180 rfl rfl ?_
                refine b_getR hK_11 km_0 (i := 18) rfl fl_11_38 rfl rmm_18 dX11_does_181 ?_
                refine a_iload_n dX11_does_184 rfl rfl ?_
                obtain ⟨g2, h⟩ := h_gS h
                refine b_iaload km_10 (h_inV g2) dX11_does_185 ?_
                refine a_ishr dX11_does_186 ?_
                refine a_iconst dX11_does_187 ic_1 ?_
                refine a_iand dX11_does_188 ?_
                refine a_if_ne (tgt := 201) dX11_does_189 (by decide) (fun c => ?_) (fun c => ?_)
                · replace h := h_iteF c h
                  refine a_aload_n dX11_does_201 rfl rfl ?_
                  refine b_getR hK_11 km_0 (i := 22) rfl fl_11_50 rfl rmm_22 dX11_does_202 ?_
                  refine a_iload_n dX11_does_205 rfl rfl ?_
                  obtain ⟨g3, h⟩ := h_gS h
                  refine b_iaload km_14 (h_inV g3) dX11_does_206 ?_
                  exact sM_does_207 rec Dr hrec (d0 + 1) (by omega) k2 hk2 v2 (I 14 v2.toNatClampNeg) I J _ h
                · replace h := h_iteT c h
                  refine a_aload_n dX11_does_192 rfl rfl ?_
                  refine b_getR hK_11 km_0 (i := 21) rfl fl_11_47 rfl rmm_21 dX11_does_193 ?_
                  refine a_iload_n dX11_does_196 rfl rfl ?_
                  obtain ⟨g3, h⟩ := h_gS h
                  refine b_iaload km_13 (h_inV g3) dX11_does_197 ?_
                  refine a_goto (tgt := 207) dX11_does_198 (by decide) ?_
                  exact sM_does_207 rec Dr hrec (d0 + 1) (by omega) k2 hk2 v2 (I 13 v2.toNatClampNeg) I J _ h
              · replace h := h_iteF n4 h
                by_cases n5 : (I 9 v2.toNatClampNeg) = 5
                · replace h := h_iteT n5 h
                  refine a_topI n5 ?_
                  refine a_tableIn (tgt := 213) (off := 193) dX11_does_20 (by decide) (by decide) (by decide) (by decide) ?_
                  refine a_aload_n dX11_does_213 rfl rfl ?_
                  refine a_aload_n dX11_does_214 rfl rfl ?_
                  refine a_aload_n dX11_does_215 rfl rfl ?_
                  refine b_getR hK_11 km_0 (i := 19) rfl fl_11_41 rfl rmm_19 dX11_does_216 ?_
                  refine a_iload_n dX11_does_219 rfl rfl ?_
                  obtain ⟨g2, h⟩ := h_gS h
                  refine b_iaload km_11 (h_inV g2) dX11_does_220 ?_
                  refine a_aload_n dX11_does_221 rfl rfl ?_
                  refine b_getR hK_11 km_0 (i := 20) rfl fl_11_44 rfl rmm_20 dX11_does_222 ?_
                  refine a_iload_n dX11_does_225 rfl rfl ?_
                  obtain ⟨g3, h⟩ := h_gS h
                  refine b_iaload km_12 (h_inV g3) dX11_does_226 ?_
                  refine a_aload_n dX11_does_227 rfl rfl ?_
                  refine b_getI hK_11 km_0 (i := 53) rfl fl_11_414 rfl dX11_does_228 ?_
                  refine a_aload_n dX11_does_231 rfl rfl ?_
                  refine b_getI hK_11 km_0 (i := 54) rfl fl_11_416 rfl dX11_does_232 ?_
                  obtain ⟨q4, cq4, h⟩ := h_bindS h
                  refine a_callV1 [.ref 0] yy_X11_holds ml_11_394 km_0 rfl (sM_holds _ (by omega) (I 11 v2.toNatClampNeg) (I 12 v2.toNatClampNeg) (I 0 53) (I 0 54) I J q4 cq4) rfl rfl (Nat.le_of_ble_eq_true rfl) dX11_does_235 ?_
                  refine a_if_eq (tgt := 250) dX11_does_238 (by decide) (fun c => ?_) (fun c => ?_)
                  · replace h := h_iteT c h
                    refine a_aload_n dX11_does_250 rfl rfl ?_
                    refine b_getR hK_11 km_0 (i := 22) rfl fl_11_50 rfl rmm_22 dX11_does_251 ?_
                    refine a_iload_n dX11_does_254 rfl rfl ?_
                    obtain ⟨g5, h⟩ := h_gS h
                    refine b_iaload km_14 (h_inV g5) dX11_does_255 ?_
                    exact sM_does_256 rec Dr hrec (d0 + 1) (by omega) k2 hk2 v2 (I 14 v2.toNatClampNeg) I J _ h
                  · replace h := h_iteF c h
                    refine a_aload_n dX11_does_241 rfl rfl ?_
                    refine b_getR hK_11 km_0 (i := 21) rfl fl_11_47 rfl rmm_21 dX11_does_242 ?_
                    refine a_iload_n dX11_does_245 rfl rfl ?_
                    obtain ⟨g5, h⟩ := h_gS h
                    refine b_iaload km_13 (h_inV g5) dX11_does_246 ?_
                    refine a_goto (tgt := 256) dX11_does_247 (by decide) ?_
                    exact sM_does_256 rec Dr hrec (d0 + 1) (by omega) k2 hk2 v2 (I 13 v2.toNatClampNeg) I J _ h
                · replace h := h_iteF n5 h
                  refine a_tableOut (tgt := 262) dX11_does_20 (h_tb6 n0 n1 n2 n3 n4 n5) (by decide) ?_
                  refine a_aload_n dX11_does_262 rfl rfl ?_
                  refine a_iconst dX11_does_263 ic_1 ?_
                  refine b_putI hK_11 km_0 (i := 60) rfl fl_11_411 rfl rfl h_Z1 dX11_does_264 ?_
                  obtain ⟨I2, eI2, h⟩ := h_letS h
                  refine a_memI eI2 ?_
                  refine a_aload_n dX11_does_267 rfl rfl ?_
                  refine b_getR hK_11 km_0 (i := 23) rfl fl_11_53 rfl rmm_23 dX11_does_268 ?_
                  refine a_iload_n dX11_does_271 rfl rfl ?_
                  obtain ⟨g3, h⟩ := h_gS h
                  refine b_iaload km_15 (h_inV g3) dX11_does_272 ?_
                  obtain ⟨v2x3, ev2x3, h⟩ := h_letS h
                  refine a_topI ev2x3 ?_
                  refine a_istore_n (lv' := [(2, .int v2x3), (0, .ref 0)]) dX11_does_273 rfl (by decide) rfl ?_
                  refine a_goto (tgt := 2) dX11_does_274 (by decide) ?_
                  refine a_sub (lv' := [(0, .ref 0), (2, .int v2x3)]) [1, 0] rfl ?_
                  exact hk2 v2x3 I2 J _ h
def mM_does_L2 (rec : Int32 → hI → Option (hI))  : Nat → Int32 → hI → Option (hI)
  | 0 => fun _ _ => none
  | n + 1 => mM_does_B2 rec (mM_does_L2 rec n)
theorem sM_does_L2 (rec : Int32 → hI → Option (hI)) (Dr : Nat) (hrec : ∀ d, Dr ≤ d → ∀ (v1 : Int32) (I : hI) (J : hJ) (q : hI), rec v1 I = some q → HMet hFT yX11_does cX11_does 3 none kdM d [.ref 0, .int v1] (I, J, RMm) none (q, J, RMm)) (d : Nat) (hd : (Dr + 2) + 1 ≤ d) : ∀ (n : Nat) (v2 : Int32) (I : hI) (J : hJ) (q : hI) (h : mM_does_L2 rec n v2 I = some q), AW hFT cX11_does 3 none RX11 kdM d [(0, .ref 0), (2, .int v2)] 2 [] (I, J, RMm) none (q, J, RMm)
  | 0, _, _, _, q, h => by cases h
  | n + 1, v2, I, J, q, h => sM_does_B2 rec Dr hrec d hd (mM_does_L2 rec n) (sM_does_L2 rec Dr hrec d hd n) v2 I J q h
def mM_does_B (rec : Int32 → hI → Option (hI))  (v1 : Int32) (I : hI) : Option (hI) :=
  mM_does_L2 rec hF v1 I
set_option maxHeartbeats 4000000 in
theorem sM_does_B (rec : Int32 → hI → Option (hI)) (Dr : Nat) (hrec : ∀ d, Dr ≤ d → ∀ (v1 : Int32) (I : hI) (J : hJ) (q : hI), rec v1 I = some q → HMet hFT yX11_does cX11_does 3 none kdM d [.ref 0, .int v1] (I, J, RMm) none (q, J, RMm)) (d : Nat) (hd : (Dr + 2) + 1 ≤ d) (v1 : Int32) (I : hI) (J : hJ) (q : hI) (h : mM_does_B rec v1 I = some q) : HMet hFT yX11_does cX11_does 3 none kdM d [.ref 0, .int v1] (I, J, RMm) none (q, J, RMm) := by
  obtain ⟨d0, rfl, hd0⟩ := h_mono hd
  refine HMet.of (by decide) (Nat.le_of_ble_eq_true rfl) ?_
  show AW hFT cX11_does 3 none RX11 kdM (d0 + 1) [(0, .ref 0), (1, .int v1)] 0 [] (I, J, RMm) none (q, J, RMm)
  unfold mM_does_B at h
  refine a_iload_n dX11_does_0 rfl rfl ?_
  refine a_istore_n (lv' := [(2, .int v1), (0, .ref 0), (1, .int v1)]) dX11_does_1 rfl (by decide) rfl ?_
  refine a_sub (lv' := [(0, .ref 0), (2, .int v1)]) [1, 0] rfl ?_
  exact sM_does_L2 rec Dr hrec (d0 + 1) (by omega) hF v1 I J _ h
def mM_does : Nat → Int32 → hI → Option (hI)
  | 0 => fun _ _ => none
  | n + 1 => mM_does_B (mM_does n)
theorem sM_does : ∀ (n d : Nat), 3 * n + 1 ≤ d → ∀ (v1 : Int32) (I : hI) (J : hJ) (q : hI), mM_does n v1 I = some q → HMet hFT yX11_does cX11_does 3 none kdM d [.ref 0, .int v1] (I, J, RMm) none (q, J, RMm)
  | 0, d, hd, _, _, _, q, h => by cases h
  | n + 1, d, hd, v1, I, J, q, h => sM_does_B (mM_does n) (3 * n + 1) (fun d hd => sM_does n d hd) d (by omega) v1 I J q h
/-! CoinLoopsModel.round(II)V -/
theorem dX11_round_0 : decode cX11_round 0 = .ok (.aload_n 0, 1) := by decide +kernel
theorem dX11_round_1 : decode cX11_round 1 = .ok (.iload_n 1, 1) := by decide +kernel
theorem dX11_round_2 : decode cX11_round 2 = .ok (.aload_n 0, 1) := by decide +kernel
theorem dX11_round_3 : decode cX11_round 3 = .ok (.getfield 361, 3) := by decide +kernel
theorem dX11_round_6 : decode cX11_round 6 = .ok (.irem, 1) := by decide +kernel
theorem dX11_round_7 : decode cX11_round 7 = .ok (.putfield 414, 3) := by decide +kernel
theorem dX11_round_10 : decode cX11_round 10 = .ok (.aload_n 0, 1) := by decide +kernel
theorem dX11_round_11 : decode cX11_round 11 = .ok (.iload_n 1, 1) := by decide +kernel
theorem dX11_round_12 : decode cX11_round 12 = .ok (.aload_n 0, 1) := by decide +kernel
theorem dX11_round_13 : decode cX11_round 13 = .ok (.getfield 361, 3) := by decide +kernel
theorem dX11_round_16 : decode cX11_round 16 = .ok (.idiv, 1) := by decide +kernel
theorem dX11_round_17 : decode cX11_round 17 = .ok (.putfield 416, 3) := by decide +kernel
theorem dX11_round_20 : decode cX11_round 20 = .ok (.aload_n 0, 1) := by decide +kernel
theorem dX11_round_21 : decode cX11_round 21 = .ok (.iload_n 2, 1) := by decide +kernel
theorem dX11_round_22 : decode cX11_round 22 = .ok (.putfield 430, 3) := by decide +kernel
theorem dX11_round_25 : decode cX11_round 25 = .ok (.aload_n 0, 1) := by decide +kernel
theorem dX11_round_26 : decode cX11_round 26 = .ok (.iconst 0, 1) := by decide +kernel
theorem dX11_round_27 : decode cX11_round 27 = .ok (.putfield 421, 3) := by decide +kernel
theorem dX11_round_30 : decode cX11_round 30 = .ok (.aload_n 0, 1) := by decide +kernel
theorem dX11_round_31 : decode cX11_round 31 = .ok (.iconst 0, 1) := by decide +kernel
theorem dX11_round_32 : decode cX11_round 32 = .ok (.putfield 411, 3) := by decide +kernel
theorem dX11_round_35 : decode cX11_round 35 = .ok (.aload_n 0, 1) := by decide +kernel
theorem dX11_round_36 : decode cX11_round 36 = .ok (.aload_n 0, 1) := by decide +kernel
theorem dX11_round_37 : decode cX11_round 37 = .ok (.getfield 382, 3) := by decide +kernel
theorem dX11_round_40 : decode cX11_round 40 = .ok (.invokevirtual 427, 3) := by decide +kernel
theorem dX11_round_43 : decode cX11_round 43 = .ok (.return_, 1) := by decide +kernel
def mM_round  (v1 : Int32) (v2 : Int32) (I : hI) : Option (hI) :=
  h_g (h_nz (I 0 39)) <|
  h_let (h_u I 0 53 (v1 - v1 / (I 0 39) * (I 0 39))) fun I2 =>
  h_g (h_nz (I2 0 39)) <|
  h_let (h_u I2 0 54 (v1 / (I2 0 39))) fun I4 =>
  h_let (h_u I4 0 58 v2) fun I5 =>
  h_let (h_u I5 0 55 (0 : Int32)) fun I6 =>
  h_let (h_u I6 0 60 (0 : Int32)) fun I7 =>
  (mM_does 10 (I7 0 46) I7).bind fun q8 =>
  some q8
set_option maxHeartbeats 4000000 in
theorem sM_round (d : Nat) (hd : 31 + 1 ≤ d) (v1 : Int32) (v2 : Int32) (I : hI) (J : hJ) (q : hI) (h : mM_round v1 v2 I = some q) : HMet hFT yX11_round cX11_round 3 none kdM d [.ref 0, .int v1, .int v2] (I, J, RMm) none (q, J, RMm) := by
  obtain ⟨d0, rfl, hd0⟩ := h_mono hd
  refine HMet.of (by decide) (Nat.le_of_ble_eq_true rfl) ?_
  show AW hFT cX11_round 3 none RX11 kdM (d0 + 1) [(0, .ref 0), (1, .int v1), (2, .int v2)] 0 [] (I, J, RMm) none (q, J, RMm)
  unfold mM_round at h
  refine a_aload_n dX11_round_0 rfl rfl ?_
  refine a_iload_n dX11_round_1 rfl rfl ?_
  refine a_aload_n dX11_round_2 rfl rfl ?_
  refine b_getI hK_11 km_0 (i := 39) rfl fl_11_361 rfl dX11_round_3 ?_
  obtain ⟨g1, h⟩ := h_gS h
  refine a_irem dX11_round_6 (h_nzV g1) ?_
  refine b_putI hK_11 km_0 (i := 53) rfl fl_11_414 rfl rfl (h_NI _) dX11_round_7 ?_
  obtain ⟨I2, eI2, h⟩ := h_letS h
  refine a_memI eI2 ?_
  refine a_aload_n dX11_round_10 rfl rfl ?_
  refine a_iload_n dX11_round_11 rfl rfl ?_
  refine a_aload_n dX11_round_12 rfl rfl ?_
  refine b_getI hK_11 km_0 (i := 39) rfl fl_11_361 rfl dX11_round_13 ?_
  obtain ⟨g3, h⟩ := h_gS h
  refine a_idiv dX11_round_16 (h_nzV g3) ?_
  refine b_putI hK_11 km_0 (i := 54) rfl fl_11_416 rfl rfl (h_NI _) dX11_round_17 ?_
  obtain ⟨I4, eI4, h⟩ := h_letS h
  refine a_memI eI4 ?_
  refine a_aload_n dX11_round_20 rfl rfl ?_
  refine a_iload_n dX11_round_21 rfl rfl ?_
  refine b_putI hK_11 km_0 (i := 58) rfl fl_11_430 rfl rfl (h_NI _) dX11_round_22 ?_
  obtain ⟨I5, eI5, h⟩ := h_letS h
  refine a_memI eI5 ?_
  refine a_aload_n dX11_round_25 rfl rfl ?_
  refine a_iconst dX11_round_26 ic_0 ?_
  refine b_putI hK_11 km_0 (i := 55) rfl fl_11_421 rfl rfl (h_NI _) dX11_round_27 ?_
  obtain ⟨I6, eI6, h⟩ := h_letS h
  refine a_memI eI6 ?_
  refine a_aload_n dX11_round_30 rfl rfl ?_
  refine a_iconst dX11_round_31 ic_0 ?_
  refine b_putI hK_11 km_0 (i := 60) rfl fl_11_411 rfl rfl h_Z0 dX11_round_32 ?_
  obtain ⟨I7, eI7, h⟩ := h_letS h
  refine a_memI eI7 ?_
  refine a_aload_n dX11_round_35 rfl rfl ?_
  refine a_aload_n dX11_round_36 rfl rfl ?_
  refine b_getI hK_11 km_0 (i := 46) rfl fl_11_382 rfl dX11_round_37 ?_
  obtain ⟨q8, cq8, h⟩ := h_bindS h
  refine a_callV0 [] yy_X11_does ml_11_427 km_0 rfl (sM_does 10 _ (by omega) (I7 0 46) I7 J q8 cq8) rfl rfl (Nat.le_of_ble_eq_true rfl) dX11_round_40 ?_
  cases h
  exact a_vret dX11_round_43
/-! CoinLoopsModel.isAlike(II)Z -/
theorem dX11_isAlike_0 : decode cX11_isAlike 0 = .ok (.aload_n 0, 1) := by decide +kernel
theorem dX11_isAlike_1 : decode cX11_isAlike 1 = .ok (.getfield 89, 3) := by decide +kernel
theorem dX11_isAlike_4 : decode cX11_isAlike 4 = .ok (.iload_n 1, 1) := by decide +kernel
theorem dX11_isAlike_5 : decode cX11_isAlike 5 = .ok (.iaload, 1) := by decide +kernel
theorem dX11_isAlike_6 : decode cX11_isAlike 6 = .ok (.aload_n 0, 1) := by decide +kernel
theorem dX11_isAlike_7 : decode cX11_isAlike 7 = .ok (.getfield 89, 3) := by decide +kernel
theorem dX11_isAlike_10 : decode cX11_isAlike 10 = .ok (.iload_n 2, 1) := by decide +kernel
theorem dX11_isAlike_11 : decode cX11_isAlike 11 = .ok (.iaload, 1) := by decide +kernel
theorem dX11_isAlike_12 : decode cX11_isAlike 12 = .ok (.if_icmp .ne 22, 3) := by decide +kernel
theorem dX11_isAlike_15 : decode cX11_isAlike 15 = .ok (.aload_n 0, 1) := by decide +kernel
theorem dX11_isAlike_16 : decode cX11_isAlike 16 = .ok (.getfield 92, 3) := by decide +kernel
theorem dX11_isAlike_19 : decode cX11_isAlike 19 = .ok (.iload_n 1, 1) := by decide +kernel
theorem dX11_isAlike_20 : decode cX11_isAlike 20 = .ok (.iaload, 1) := by decide +kernel
theorem dX11_isAlike_21 : decode cX11_isAlike 21 = .ok (.aload_n 0, 1) := by decide +kernel
theorem dX11_isAlike_22 : decode cX11_isAlike 22 = .ok (.getfield 92, 3) := by decide +kernel
theorem dX11_isAlike_25 : decode cX11_isAlike 25 = .ok (.iload_n 2, 1) := by decide +kernel
theorem dX11_isAlike_26 : decode cX11_isAlike 26 = .ok (.iaload, 1) := by decide +kernel
theorem dX11_isAlike_27 : decode cX11_isAlike 27 = .ok (.if_icmp .ne 7, 3) := by decide +kernel
theorem dX11_isAlike_30 : decode cX11_isAlike 30 = .ok (.iconst 1, 1) := by decide +kernel
theorem dX11_isAlike_31 : decode cX11_isAlike 31 = .ok (.goto 4, 3) := by decide +kernel
theorem dX11_isAlike_34 : decode cX11_isAlike 34 = .ok (.iconst 0, 1) := by decide +kernel
theorem dX11_isAlike_35 : decode cX11_isAlike 35 = .ok (.istore_n 3, 1) := by decide +kernel
theorem dX11_isAlike_36 : decode cX11_isAlike 36 = .ok (.iconst 0, 1) := by decide +kernel
theorem dX11_isAlike_37 : decode cX11_isAlike 37 = .ok (.istore 4, 2) := by decide +kernel
theorem dX11_isAlike_39 : decode cX11_isAlike 39 = .ok (.iload 4, 2) := by decide +kernel
theorem dX11_isAlike_41 : decode cX11_isAlike 41 = .ok (.aload_n 0, 1) := by decide +kernel
theorem dX11_isAlike_42 : decode cX11_isAlike 42 = .ok (.getfield 367, 3) := by decide +kernel
theorem dX11_isAlike_45 : decode cX11_isAlike 45 = .ok (.if_icmp .ge 46, 3) := by decide +kernel
theorem dX11_isAlike_48 : decode cX11_isAlike 48 = .ok (.iload_n 3, 1) := by decide +kernel
theorem dX11_isAlike_49 : decode cX11_isAlike 49 = .ok (.ifCond .eq 34, 3) := by decide +kernel
theorem dX11_isAlike_52 : decode cX11_isAlike 52 = .ok (.aload_n 0, 1) := by decide +kernel
theorem dX11_isAlike_53 : decode cX11_isAlike 53 = .ok (.getfield 95, 3) := by decide +kernel
theorem dX11_isAlike_56 : decode cX11_isAlike 56 = .ok (.bipush 10, 2) := by decide +kernel
theorem dX11_isAlike_58 : decode cX11_isAlike 58 = .ok (.iload_n 1, 1) := by decide +kernel
theorem dX11_isAlike_59 : decode cX11_isAlike 59 = .ok (.imul, 1) := by decide +kernel
theorem dX11_isAlike_60 : decode cX11_isAlike 60 = .ok (.iload 4, 2) := by decide +kernel
theorem dX11_isAlike_62 : decode cX11_isAlike 62 = .ok (.iadd, 1) := by decide +kernel
theorem dX11_isAlike_63 : decode cX11_isAlike 63 = .ok (.iaload, 1) := by decide +kernel
theorem dX11_isAlike_64 : decode cX11_isAlike 64 = .ok (.aload_n 0, 1) := by decide +kernel
theorem dX11_isAlike_65 : decode cX11_isAlike 65 = .ok (.getfield 95, 3) := by decide +kernel
theorem dX11_isAlike_68 : decode cX11_isAlike 68 = .ok (.bipush 10, 2) := by decide +kernel
theorem dX11_isAlike_70 : decode cX11_isAlike 70 = .ok (.iload_n 2, 1) := by decide +kernel
theorem dX11_isAlike_71 : decode cX11_isAlike 71 = .ok (.imul, 1) := by decide +kernel
theorem dX11_isAlike_72 : decode cX11_isAlike 72 = .ok (.iload 4, 2) := by decide +kernel
theorem dX11_isAlike_74 : decode cX11_isAlike 74 = .ok (.iadd, 1) := by decide +kernel
theorem dX11_isAlike_75 : decode cX11_isAlike 75 = .ok (.iaload, 1) := by decide +kernel
theorem dX11_isAlike_76 : decode cX11_isAlike 76 = .ok (.if_icmp .ne 7, 3) := by decide +kernel
theorem dX11_isAlike_79 : decode cX11_isAlike 79 = .ok (.iconst 1, 1) := by decide +kernel
theorem dX11_isAlike_80 : decode cX11_isAlike 80 = .ok (.goto 4, 3) := by decide +kernel
theorem dX11_isAlike_83 : decode cX11_isAlike 83 = .ok (.iconst 0, 1) := by decide +kernel
theorem dX11_isAlike_84 : decode cX11_isAlike 84 = .ok (.istore_n 3, 1) := by decide +kernel
theorem dX11_isAlike_85 : decode cX11_isAlike 85 = .ok (.iinc 4 1, 3) := by decide +kernel
theorem dX11_isAlike_88 : decode cX11_isAlike 88 = .ok (.goto (-49), 3) := by decide +kernel
theorem dX11_isAlike_91 : decode cX11_isAlike 91 = .ok (.iload_n 3, 1) := by decide +kernel
theorem dX11_isAlike_92 : decode cX11_isAlike 92 = .ok (.ireturn, 1) := by decide +kernel
def mM_isAlike_B39 (k39 : Int32 → Int32 → Int32 → Int32 → hI → Option (Int32)) (v1 : Int32) (v2 : Int32) (v3 : Int32) (v4 : Int32) (I : hI) : Option (Int32) :=
  if (I 0 41) ≤ v4 then
    (h_g (h_isZ v3) <|
    some v3)
  else
    (if v3 = 0 then
      k39 v1 v2 (0 : Int32) (v4 + (1 : Int32)) I
    else
      (h_g (h_in (((10 : Int32) * v1) + v4) 800) <|
      h_g (h_in (((10 : Int32) * v2) + v4) 800) <|
      if (I 29 (((10 : Int32) * v1) + v4).toNatClampNeg) = (I 29 (((10 : Int32) * v2) + v4).toNatClampNeg) then
        k39 v1 v2 (1 : Int32) (v4 + (1 : Int32)) I
      else
        k39 v1 v2 (0 : Int32) (v4 + (1 : Int32)) I))
set_option maxHeartbeats 4000000 in
theorem sM_isAlike_B39 (d : Nat) (hd : 0 ≤ d) (k39 : Int32 → Int32 → Int32 → Int32 → hI → Option (Int32)) (hk39 : ∀ (v1 : Int32) (v2 : Int32) (v3 : Int32) (v4 : Int32) (I : hI) (J : hJ) (q : Int32), k39 v1 v2 v3 v4 I = some q → AW hFT cX11_isAlike 5 (some .boolean) RX11 kdM d [(0, .ref 0), (1, .int v1), (2, .int v2), (3, .int v3), (4, .int v4)] 39 [] (I, J, RMm) (some (.int q)) (I, J, RMm)) (v1 : Int32) (v2 : Int32) (v3 : Int32) (v4 : Int32) (I : hI) (J : hJ) (q : Int32) (h : mM_isAlike_B39 k39 v1 v2 v3 v4 I = some q) : AW hFT cX11_isAlike 5 (some .boolean) RX11 kdM d [(0, .ref 0), (1, .int v1), (2, .int v2), (3, .int v3), (4, .int v4)] 39 [] (I, J, RMm) (some (.int q)) (I, J, RMm) := by
  unfold mM_isAlike_B39 at h
  refine a_iload dX11_isAlike_39 rfl ?_
  refine a_aload_n dX11_isAlike_41 rfl rfl ?_
  refine b_getI hK_11 km_0 (i := 41) rfl fl_11_367 rfl dX11_isAlike_42 ?_
  refine a_icmp_ge (tgt := 91) dX11_isAlike_45 (by decide) (fun c => ?_) (fun c => ?_)
  · replace h := h_iteT c h
    refine a_iload_n dX11_isAlike_91 rfl rfl ?_
    obtain ⟨g1, h⟩ := h_gS h
    cases h
    exact a_zret ((h_isZV g1).1) dX11_isAlike_92
  · replace h := h_iteF c h
    refine a_iload_n dX11_isAlike_48 rfl rfl ?_
    refine a_if_eq (tgt := 83) dX11_isAlike_49 (by decide) (fun c => ?_) (fun c => ?_)
    · replace h := h_iteT c h
      refine a_iconst dX11_isAlike_83 ic_0 ?_
      refine a_istore_n (lv' := [(3, .int (0 : Int32)), (0, .ref 0), (1, .int v1), (2, .int v2), (4, .int v4)]) dX11_isAlike_84 rfl (by decide) rfl ?_
      refine b_iinc (lv' := [(4, .int (v4 + (1 : Int32))), (3, .int (0 : Int32)), (0, .ref 0), (1, .int v1), (2, .int v2)]) dX11_isAlike_85 rfl ic_1 (by decide) rfl ?_
      refine a_goto (tgt := 39) dX11_isAlike_88 (by decide) ?_
      refine a_sub (lv' := [(0, .ref 0), (1, .int v1), (2, .int v2), (3, .int (0 : Int32)), (4, .int (v4 + (1 : Int32)))]) [2, 3, 4, 1, 0] rfl ?_
      exact hk39 v1 v2 (0 : Int32) (v4 + (1 : Int32)) I J _ h
    · replace h := h_iteF c h
      refine a_aload_n dX11_isAlike_52 rfl rfl ?_
      refine b_getR hK_11 km_0 (i := 66) rfl fl_11_95 rfl rmm_66 dX11_isAlike_53 ?_
      refine a_bipush dX11_isAlike_56 bp_10 ?_
      refine a_iload_n dX11_isAlike_58 rfl rfl ?_
      refine a_imul dX11_isAlike_59 ?_
      refine a_iload dX11_isAlike_60 rfl ?_
      refine a_iadd dX11_isAlike_62 ?_
      obtain ⟨g1, h⟩ := h_gS h
      refine b_iaload km_29 (h_inV g1) dX11_isAlike_63 ?_
      refine a_aload_n dX11_isAlike_64 rfl rfl ?_
      refine b_getR hK_11 km_0 (i := 66) rfl fl_11_95 rfl rmm_66 dX11_isAlike_65 ?_
      refine a_bipush dX11_isAlike_68 bp_10 ?_
      refine a_iload_n dX11_isAlike_70 rfl rfl ?_
      refine a_imul dX11_isAlike_71 ?_
      refine a_iload dX11_isAlike_72 rfl ?_
      refine a_iadd dX11_isAlike_74 ?_
      obtain ⟨g2, h⟩ := h_gS h
      refine b_iaload km_29 (h_inV g2) dX11_isAlike_75 ?_
      refine a_icmp_ne (tgt := 83) dX11_isAlike_76 (by decide) (fun c => ?_) (fun c => ?_)
      · replace h := h_iteF c h
        refine a_iconst dX11_isAlike_83 ic_0 ?_
        refine a_istore_n (lv' := [(3, .int (0 : Int32)), (0, .ref 0), (1, .int v1), (2, .int v2), (4, .int v4)]) dX11_isAlike_84 rfl (by decide) rfl ?_
        refine b_iinc (lv' := [(4, .int (v4 + (1 : Int32))), (3, .int (0 : Int32)), (0, .ref 0), (1, .int v1), (2, .int v2)]) dX11_isAlike_85 rfl ic_1 (by decide) rfl ?_
        refine a_goto (tgt := 39) dX11_isAlike_88 (by decide) ?_
        refine a_sub (lv' := [(0, .ref 0), (1, .int v1), (2, .int v2), (3, .int (0 : Int32)), (4, .int (v4 + (1 : Int32)))]) [2, 3, 4, 1, 0] rfl ?_
        exact hk39 v1 v2 (0 : Int32) (v4 + (1 : Int32)) I J _ h
      · replace h := h_iteT c h
        refine a_iconst dX11_isAlike_79 ic_1 ?_
        refine a_goto (tgt := 84) dX11_isAlike_80 (by decide) ?_
        refine a_istore_n (lv' := [(3, .int (1 : Int32)), (0, .ref 0), (1, .int v1), (2, .int v2), (4, .int v4)]) dX11_isAlike_84 rfl (by decide) rfl ?_
        refine b_iinc (lv' := [(4, .int (v4 + (1 : Int32))), (3, .int (1 : Int32)), (0, .ref 0), (1, .int v1), (2, .int v2)]) dX11_isAlike_85 rfl ic_1 (by decide) rfl ?_
        refine a_goto (tgt := 39) dX11_isAlike_88 (by decide) ?_
        refine a_sub (lv' := [(0, .ref 0), (1, .int v1), (2, .int v2), (3, .int (1 : Int32)), (4, .int (v4 + (1 : Int32)))]) [2, 3, 4, 1, 0] rfl ?_
        exact hk39 v1 v2 (1 : Int32) (v4 + (1 : Int32)) I J _ h
def mM_isAlike_L39  : Nat → Int32 → Int32 → Int32 → Int32 → hI → Option (Int32)
  | 0 => fun _ _ _ _ _ => none
  | n + 1 => mM_isAlike_B39 (mM_isAlike_L39 n)
theorem sM_isAlike_L39 (d : Nat) (hd : 0 ≤ d) : ∀ (n : Nat) (v1 : Int32) (v2 : Int32) (v3 : Int32) (v4 : Int32) (I : hI) (J : hJ) (q : Int32) (h : mM_isAlike_L39 n v1 v2 v3 v4 I = some q), AW hFT cX11_isAlike 5 (some .boolean) RX11 kdM d [(0, .ref 0), (1, .int v1), (2, .int v2), (3, .int v3), (4, .int v4)] 39 [] (I, J, RMm) (some (.int q)) (I, J, RMm)
  | 0, _, _, _, _, _, _, q, h => by cases h
  | n + 1, v1, v2, v3, v4, I, J, q, h => sM_isAlike_B39 d hd (mM_isAlike_L39 n) (sM_isAlike_L39 d hd n) v1 v2 v3 v4 I J q h
def mM_isAlike  (v1 : Int32) (v2 : Int32) (I : hI) : Option (Int32) :=
  h_g (h_in v1 80) <|
  h_g (h_in v2 80) <|
  if (I 27 v1.toNatClampNeg) = (I 27 v2.toNatClampNeg) then
    (h_g (h_in v1 80) <|
    h_g (h_in v2 80) <|
    if (I 28 v1.toNatClampNeg) = (I 28 v2.toNatClampNeg) then
      mM_isAlike_L39 hF v1 v2 (1 : Int32) (0 : Int32) I
    else
      mM_isAlike_L39 hF v1 v2 (0 : Int32) (0 : Int32) I)
  else
    mM_isAlike_L39 hF v1 v2 (0 : Int32) (0 : Int32) I
set_option maxHeartbeats 4000000 in
theorem sM_isAlike (d : Nat) (hd : 0 ≤ d) (v1 : Int32) (v2 : Int32) (I : hI) (J : hJ) (q : Int32) (h : mM_isAlike v1 v2 I = some q) : HMet hFT yX11_isAlike cX11_isAlike 5 (some .boolean) kdM d [.ref 0, .int v1, .int v2] (I, J, RMm) (some (.int q)) (I, J, RMm) := by
  refine HMet.of (by decide) (Nat.le_of_ble_eq_true rfl) ?_
  show AW hFT cX11_isAlike 5 (some .boolean) RX11 kdM d [(0, .ref 0), (1, .int v1), (2, .int v2)] 0 [] (I, J, RMm) (some (.int q)) (I, J, RMm)
  unfold mM_isAlike at h
  refine a_aload_n dX11_isAlike_0 rfl rfl ?_
  refine b_getR hK_11 km_0 (i := 64) rfl fl_11_89 rfl rmm_64 dX11_isAlike_1 ?_
  refine a_iload_n dX11_isAlike_4 rfl rfl ?_
  obtain ⟨g1, h⟩ := h_gS h
  refine b_iaload km_27 (h_inV g1) dX11_isAlike_5 ?_
  refine a_aload_n dX11_isAlike_6 rfl rfl ?_
  refine b_getR hK_11 km_0 (i := 64) rfl fl_11_89 rfl rmm_64 dX11_isAlike_7 ?_
  refine a_iload_n dX11_isAlike_10 rfl rfl ?_
  obtain ⟨g2, h⟩ := h_gS h
  refine b_iaload km_27 (h_inV g2) dX11_isAlike_11 ?_
  refine a_icmp_ne (tgt := 34) dX11_isAlike_12 (by decide) (fun c => ?_) (fun c => ?_)
  · replace h := h_iteF c h
    refine a_iconst dX11_isAlike_34 ic_0 ?_
    refine a_istore_n (lv' := [(3, .int (0 : Int32)), (0, .ref 0), (1, .int v1), (2, .int v2)]) dX11_isAlike_35 rfl (by decide) rfl ?_
    refine a_iconst dX11_isAlike_36 ic_0 ?_
    refine a_istore (lv' := [(4, .int (0 : Int32)), (3, .int (0 : Int32)), (0, .ref 0), (1, .int v1), (2, .int v2)]) dX11_isAlike_37 (by decide) rfl ?_
    refine a_sub (lv' := [(0, .ref 0), (1, .int v1), (2, .int v2), (3, .int (0 : Int32)), (4, .int (0 : Int32))]) [2, 3, 4, 1, 0] rfl ?_
    exact sM_isAlike_L39 d (by omega) hF v1 v2 (0 : Int32) (0 : Int32) I J _ h
  · replace h := h_iteT c h
    refine a_aload_n dX11_isAlike_15 rfl rfl ?_
    refine b_getR hK_11 km_0 (i := 65) rfl fl_11_92 rfl rmm_65 dX11_isAlike_16 ?_
    refine a_iload_n dX11_isAlike_19 rfl rfl ?_
    obtain ⟨g3, h⟩ := h_gS h
    refine b_iaload km_28 (h_inV g3) dX11_isAlike_20 ?_
    refine a_aload_n dX11_isAlike_21 rfl rfl ?_
    refine b_getR hK_11 km_0 (i := 65) rfl fl_11_92 rfl rmm_65 dX11_isAlike_22 ?_
    refine a_iload_n dX11_isAlike_25 rfl rfl ?_
    obtain ⟨g4, h⟩ := h_gS h
    refine b_iaload km_28 (h_inV g4) dX11_isAlike_26 ?_
    refine a_icmp_ne (tgt := 34) dX11_isAlike_27 (by decide) (fun c => ?_) (fun c => ?_)
    · replace h := h_iteF c h
      refine a_iconst dX11_isAlike_34 ic_0 ?_
      refine a_istore_n (lv' := [(3, .int (0 : Int32)), (0, .ref 0), (1, .int v1), (2, .int v2)]) dX11_isAlike_35 rfl (by decide) rfl ?_
      refine a_iconst dX11_isAlike_36 ic_0 ?_
      refine a_istore (lv' := [(4, .int (0 : Int32)), (3, .int (0 : Int32)), (0, .ref 0), (1, .int v1), (2, .int v2)]) dX11_isAlike_37 (by decide) rfl ?_
      refine a_sub (lv' := [(0, .ref 0), (1, .int v1), (2, .int v2), (3, .int (0 : Int32)), (4, .int (0 : Int32))]) [2, 3, 4, 1, 0] rfl ?_
      exact sM_isAlike_L39 d (by omega) hF v1 v2 (0 : Int32) (0 : Int32) I J _ h
    · replace h := h_iteT c h
      refine a_iconst dX11_isAlike_30 ic_1 ?_
      refine a_goto (tgt := 35) dX11_isAlike_31 (by decide) ?_
      refine a_istore_n (lv' := [(3, .int (1 : Int32)), (0, .ref 0), (1, .int v1), (2, .int v2)]) dX11_isAlike_35 rfl (by decide) rfl ?_
      refine a_iconst dX11_isAlike_36 ic_0 ?_
      refine a_istore (lv' := [(4, .int (0 : Int32)), (3, .int (1 : Int32)), (0, .ref 0), (1, .int v1), (2, .int v2)]) dX11_isAlike_37 (by decide) rfl ?_
      refine a_sub (lv' := [(0, .ref 0), (1, .int v1), (2, .int v2), (3, .int (1 : Int32)), (4, .int (0 : Int32))]) [2, 3, 4, 1, 0] rfl ?_
      exact sM_isAlike_L39 d (by omega) hF v1 v2 (1 : Int32) (0 : Int32) I J _ h
/-! CoinLoopsModel.laysChoice(II)V -/
theorem dX11_laysChoice_0 : decode cX11_laysChoice 0 = .ok (.aload_n 0, 1) := by decide +kernel
theorem dX11_laysChoice_1 : decode cX11_laysChoice 1 = .ok (.iload_n 1, 1) := by decide +kernel
theorem dX11_laysChoice_2 : decode cX11_laysChoice 2 = .ok (.aload_n 0, 1) := by decide +kernel
theorem dX11_laysChoice_3 : decode cX11_laysChoice 3 = .ok (.getfield 83, 3) := by decide +kernel
theorem dX11_laysChoice_6 : decode cX11_laysChoice 6 = .ok (.iload_n 1, 1) := by decide +kernel
theorem dX11_laysChoice_7 : decode cX11_laysChoice 7 = .ok (.iaload, 1) := by decide +kernel
theorem dX11_laysChoice_8 : decode cX11_laysChoice 8 = .ok (.invokevirtual 433, 3) := by decide +kernel
theorem dX11_laysChoice_11 : decode cX11_laysChoice 11 = .ok (.istore_n 3, 1) := by decide +kernel
theorem dX11_laysChoice_12 : decode cX11_laysChoice 12 = .ok (.aload_n 0, 1) := by decide +kernel
theorem dX11_laysChoice_13 : decode cX11_laysChoice 13 = .ok (.getfield 86, 3) := by decide +kernel
theorem dX11_laysChoice_16 : decode cX11_laysChoice 16 = .ok (.iload_n 3, 1) := by decide +kernel
theorem dX11_laysChoice_17 : decode cX11_laysChoice 17 = .ok (.iload_n 2, 1) := by decide +kernel
theorem dX11_laysChoice_18 : decode cX11_laysChoice 18 = .ok (.iastore, 1) := by decide +kernel
theorem dX11_laysChoice_19 : decode cX11_laysChoice 19 = .ok (.aload_n 0, 1) := by decide +kernel
theorem dX11_laysChoice_20 : decode cX11_laysChoice 20 = .ok (.getfield 89, 3) := by decide +kernel
theorem dX11_laysChoice_23 : decode cX11_laysChoice 23 = .ok (.iload_n 3, 1) := by decide +kernel
theorem dX11_laysChoice_24 : decode cX11_laysChoice 24 = .ok (.iconst 0, 1) := by decide +kernel
theorem dX11_laysChoice_25 : decode cX11_laysChoice 25 = .ok (.iastore, 1) := by decide +kernel
theorem dX11_laysChoice_26 : decode cX11_laysChoice 26 = .ok (.aload_n 0, 1) := by decide +kernel
theorem dX11_laysChoice_27 : decode cX11_laysChoice 27 = .ok (.getfield 92, 3) := by decide +kernel
theorem dX11_laysChoice_30 : decode cX11_laysChoice 30 = .ok (.iload_n 3, 1) := by decide +kernel
theorem dX11_laysChoice_31 : decode cX11_laysChoice 31 = .ok (.iconst 0, 1) := by decide +kernel
theorem dX11_laysChoice_32 : decode cX11_laysChoice 32 = .ok (.iastore, 1) := by decide +kernel
theorem dX11_laysChoice_33 : decode cX11_laysChoice 33 = .ok (.iconst 0, 1) := by decide +kernel
theorem dX11_laysChoice_34 : decode cX11_laysChoice 34 = .ok (.istore 4, 2) := by decide +kernel
theorem dX11_laysChoice_36 : decode cX11_laysChoice 36 = .ok (.iload 4, 2) := by decide +kernel
theorem dX11_laysChoice_38 : decode cX11_laysChoice 38 = .ok (.aload_n 0, 1) := by decide +kernel
theorem dX11_laysChoice_39 : decode cX11_laysChoice 39 = .ok (.getfield 367, 3) := by decide +kernel
theorem dX11_laysChoice_42 : decode cX11_laysChoice 42 = .ok (.if_icmp .ge 22, 3) := by decide +kernel
theorem dX11_laysChoice_45 : decode cX11_laysChoice 45 = .ok (.aload_n 0, 1) := by decide +kernel
theorem dX11_laysChoice_46 : decode cX11_laysChoice 46 = .ok (.getfield 95, 3) := by decide +kernel
theorem dX11_laysChoice_49 : decode cX11_laysChoice 49 = .ok (.bipush 10, 2) := by decide +kernel
theorem dX11_laysChoice_51 : decode cX11_laysChoice 51 = .ok (.iload_n 3, 1) := by decide +kernel
theorem dX11_laysChoice_52 : decode cX11_laysChoice 52 = .ok (.imul, 1) := by decide +kernel
theorem dX11_laysChoice_53 : decode cX11_laysChoice 53 = .ok (.iload 4, 2) := by decide +kernel
theorem dX11_laysChoice_55 : decode cX11_laysChoice 55 = .ok (.iadd, 1) := by decide +kernel
theorem dX11_laysChoice_56 : decode cX11_laysChoice 56 = .ok (.iconst 0, 1) := by decide +kernel
theorem dX11_laysChoice_57 : decode cX11_laysChoice 57 = .ok (.iastore, 1) := by decide +kernel
theorem dX11_laysChoice_58 : decode cX11_laysChoice 58 = .ok (.iinc 4 1, 3) := by decide +kernel
theorem dX11_laysChoice_61 : decode cX11_laysChoice 61 = .ok (.goto (-25), 3) := by decide +kernel
theorem dX11_laysChoice_64 : decode cX11_laysChoice 64 = .ok (.aload_n 0, 1) := by decide +kernel
theorem dX11_laysChoice_65 : decode cX11_laysChoice 65 = .ok (.iconst 0, 1) := by decide +kernel
theorem dX11_laysChoice_66 : decode cX11_laysChoice 66 = .ok (.putfield 401, 3) := by decide +kernel
theorem dX11_laysChoice_69 : decode cX11_laysChoice 69 = .ok (.aload_n 0, 1) := by decide +kernel
theorem dX11_laysChoice_70 : decode cX11_laysChoice 70 = .ok (.iconst 0, 1) := by decide +kernel
theorem dX11_laysChoice_71 : decode cX11_laysChoice 71 = .ok (.putfield 408, 3) := by decide +kernel
theorem dX11_laysChoice_74 : decode cX11_laysChoice 74 = .ok (.aload_n 0, 1) := by decide +kernel
theorem dX11_laysChoice_75 : decode cX11_laysChoice 75 = .ok (.getfield 408, 3) := by decide +kernel
theorem dX11_laysChoice_78 : decode cX11_laysChoice 78 = .ok (.iconst 4, 1) := by decide +kernel
theorem dX11_laysChoice_79 : decode cX11_laysChoice 79 = .ok (.if_icmp .ge 88, 3) := by decide +kernel
theorem dX11_laysChoice_82 : decode cX11_laysChoice 82 = .ok (.aload_n 0, 1) := by decide +kernel
theorem dX11_laysChoice_83 : decode cX11_laysChoice 83 = .ok (.iconst 0, 1) := by decide +kernel
theorem dX11_laysChoice_84 : decode cX11_laysChoice 84 = .ok (.putfield 398, 3) := by decide +kernel
theorem dX11_laysChoice_87 : decode cX11_laysChoice 87 = .ok (.aload_n 0, 1) := by decide +kernel
theorem dX11_laysChoice_88 : decode cX11_laysChoice 88 = .ok (.iload_n 1, 1) := by decide +kernel
theorem dX11_laysChoice_89 : decode cX11_laysChoice 89 = .ok (.iload_n 2, 1) := by decide +kernel
theorem dX11_laysChoice_90 : decode cX11_laysChoice 90 = .ok (.invokevirtual 436, 3) := by decide +kernel
theorem dX11_laysChoice_93 : decode cX11_laysChoice 93 = .ok (.aload_n 0, 1) := by decide +kernel
theorem dX11_laysChoice_94 : decode cX11_laysChoice 94 = .ok (.getfield 89, 3) := by decide +kernel
theorem dX11_laysChoice_97 : decode cX11_laysChoice 97 = .ok (.iload_n 3, 1) := by decide +kernel
theorem dX11_laysChoice_98 : decode cX11_laysChoice 98 = .ok (.dup2, 1) := by decide +kernel
theorem dX11_laysChoice_99 : decode cX11_laysChoice 99 = .ok (.iaload, 1) := by decide +kernel
theorem dX11_laysChoice_100 : decode cX11_laysChoice 100 = .ok (.aload_n 0, 1) := by decide +kernel
theorem dX11_laysChoice_101 : decode cX11_laysChoice 101 = .ok (.getfield 421, 3) := by decide +kernel
theorem dX11_laysChoice_104 : decode cX11_laysChoice 104 = .ok (.iadd, 1) := by decide +kernel
theorem dX11_laysChoice_105 : decode cX11_laysChoice 105 = .ok (.iastore, 1) := by decide +kernel
theorem dX11_laysChoice_106 : decode cX11_laysChoice 106 = .ok (.aload_n 0, 1) := by decide +kernel
theorem dX11_laysChoice_107 : decode cX11_laysChoice 107 = .ok (.getfield 411, 3) := by decide +kernel
theorem dX11_laysChoice_110 : decode cX11_laysChoice 110 = .ok (.ifCond .eq 16, 3) := by decide +kernel
theorem dX11_laysChoice_113 : decode cX11_laysChoice 113 = .ok (.aload_n 0, 1) := by decide +kernel
theorem dX11_laysChoice_114 : decode cX11_laysChoice 114 = .ok (.getfield 92, 3) := by decide +kernel
theorem dX11_laysChoice_117 : decode cX11_laysChoice 117 = .ok (.iload_n 3, 1) := by decide +kernel
theorem dX11_laysChoice_118 : decode cX11_laysChoice 118 = .ok (.dup2, 1) := by decide +kernel
theorem dX11_laysChoice_119 : decode cX11_laysChoice 119 = .ok (.iaload, 1) := by decide +kernel
theorem dX11_laysChoice_120 : decode cX11_laysChoice 120 = .ok (.iconst 1, 1) := by decide +kernel
theorem dX11_laysChoice_121 : decode cX11_laysChoice 121 = .ok (.iadd, 1) := by decide +kernel
theorem dX11_laysChoice_122 : decode cX11_laysChoice 122 = .ok (.iastore, 1) := by decide +kernel
theorem dX11_laysChoice_123 : decode cX11_laysChoice 123 = .ok (.goto 31, 3) := by decide +kernel
theorem dX11_laysChoice_126 : decode cX11_laysChoice 126 = .ok (.aload_n 0, 1) := by decide +kernel
theorem dX11_laysChoice_127 : decode cX11_laysChoice 127 = .ok (.getfield 95, 3) := by decide +kernel
theorem dX11_laysChoice_130 : decode cX11_laysChoice 130 = .ok (.bipush 10, 2) := by decide +kernel
theorem dX11_laysChoice_132 : decode cX11_laysChoice 132 = .ok (.iload_n 3, 1) := by decide +kernel
theorem dX11_laysChoice_133 : decode cX11_laysChoice 133 = .ok (.imul, 1) := by decide +kernel
theorem dX11_laysChoice_134 : decode cX11_laysChoice 134 = .ok (.aload_n 0, 1) := by decide +kernel
theorem dX11_laysChoice_135 : decode cX11_laysChoice 135 = .ok (.getfield 416, 3) := by decide +kernel
theorem dX11_laysChoice_138 : decode cX11_laysChoice 138 = .ok (.aload_n 0, 1) := by decide +kernel
theorem dX11_laysChoice_139 : decode cX11_laysChoice 139 = .ok (.getfield 361, 3) := by decide +kernel
theorem dX11_laysChoice_142 : decode cX11_laysChoice 142 = .ok (.imul, 1) := by decide +kernel
theorem dX11_laysChoice_143 : decode cX11_laysChoice 143 = .ok (.iadd, 1) := by decide +kernel
theorem dX11_laysChoice_144 : decode cX11_laysChoice 144 = .ok (.aload_n 0, 1) := by decide +kernel
theorem dX11_laysChoice_145 : decode cX11_laysChoice 145 = .ok (.getfield 414, 3) := by decide +kernel
theorem dX11_laysChoice_148 : decode cX11_laysChoice 148 = .ok (.iadd, 1) := by decide +kernel
theorem dX11_laysChoice_149 : decode cX11_laysChoice 149 = .ok (.dup2, 1) := by decide +kernel
theorem dX11_laysChoice_150 : decode cX11_laysChoice 150 = .ok (.iaload, 1) := by decide +kernel
theorem dX11_laysChoice_151 : decode cX11_laysChoice 151 = .ok (.iconst 1, 1) := by decide +kernel
theorem dX11_laysChoice_152 : decode cX11_laysChoice 152 = .ok (.iadd, 1) := by decide +kernel
theorem dX11_laysChoice_153 : decode cX11_laysChoice 153 = .ok (.iastore, 1) := by decide +kernel
theorem dX11_laysChoice_154 : decode cX11_laysChoice 154 = .ok (.aload_n 0, 1) := by decide +kernel
theorem dX11_laysChoice_155 : decode cX11_laysChoice 155 = .ok (.dup, 1) := by decide +kernel
theorem dX11_laysChoice_156 : decode cX11_laysChoice 156 = .ok (.getfield 408, 3) := by decide +kernel
theorem dX11_laysChoice_159 : decode cX11_laysChoice 159 = .ok (.iconst 1, 1) := by decide +kernel
theorem dX11_laysChoice_160 : decode cX11_laysChoice 160 = .ok (.iadd, 1) := by decide +kernel
theorem dX11_laysChoice_161 : decode cX11_laysChoice 161 = .ok (.putfield 408, 3) := by decide +kernel
theorem dX11_laysChoice_164 : decode cX11_laysChoice 164 = .ok (.goto (-90), 3) := by decide +kernel
theorem dX11_laysChoice_167 : decode cX11_laysChoice 167 = .ok (.iconst 1, 1) := by decide +kernel
theorem dX11_laysChoice_168 : decode cX11_laysChoice 168 = .ok (.istore 4, 2) := by decide +kernel
theorem dX11_laysChoice_170 : decode cX11_laysChoice 170 = .ok (.iconst 0, 1) := by decide +kernel
theorem dX11_laysChoice_171 : decode cX11_laysChoice 171 = .ok (.istore 5, 2) := by decide +kernel
theorem dX11_laysChoice_173 : decode cX11_laysChoice 173 = .ok (.iload 5, 2) := by decide +kernel
theorem dX11_laysChoice_175 : decode cX11_laysChoice 175 = .ok (.aload_n 0, 1) := by decide +kernel
theorem dX11_laysChoice_176 : decode cX11_laysChoice 176 = .ok (.getfield 83, 3) := by decide +kernel
theorem dX11_laysChoice_179 : decode cX11_laysChoice 179 = .ok (.iload_n 1, 1) := by decide +kernel
theorem dX11_laysChoice_180 : decode cX11_laysChoice 180 = .ok (.iaload, 1) := by decide +kernel
theorem dX11_laysChoice_181 : decode cX11_laysChoice 181 = .ok (.if_icmp .ge 36, 3) := by decide +kernel
theorem dX11_laysChoice_184 : decode cX11_laysChoice 184 = .ok (.iload 4, 2) := by decide +kernel
theorem dX11_laysChoice_186 : decode cX11_laysChoice 186 = .ok (.ifCond .eq 22, 3) := by decide +kernel
theorem dX11_laysChoice_189 : decode cX11_laysChoice 189 = .ok (.aload_n 0, 1) := by decide +kernel
theorem dX11_laysChoice_190 : decode cX11_laysChoice 190 = .ok (.aload_n 0, 1) := by decide +kernel
theorem dX11_laysChoice_191 : decode cX11_laysChoice 191 = .ok (.iload_n 1, 1) := by decide +kernel
theorem dX11_laysChoice_192 : decode cX11_laysChoice 192 = .ok (.iload 5, 2) := by decide +kernel
theorem dX11_laysChoice_194 : decode cX11_laysChoice 194 = .ok (.invokevirtual 433, 3) := by decide +kernel
theorem dX11_laysChoice_197 : decode cX11_laysChoice 197 = .ok (.iload_n 3, 1) := by decide +kernel
theorem dX11_laysChoice_198 : decode cX11_laysChoice 198 = .ok (.invokevirtual 439, 3) := by decide +kernel
theorem dX11_laysChoice_201 : decode cX11_laysChoice 201 = .ok (.ifCond .ne 7, 3) := by decide +kernel
theorem dX11_laysChoice_204 : decode cX11_laysChoice 204 = .ok (.iconst 1, 1) := by decide +kernel
theorem dX11_laysChoice_205 : decode cX11_laysChoice 205 = .ok (.goto 4, 3) := by decide +kernel
theorem dX11_laysChoice_208 : decode cX11_laysChoice 208 = .ok (.iconst 0, 1) := by decide +kernel
theorem dX11_laysChoice_209 : decode cX11_laysChoice 209 = .ok (.istore 4, 2) := by decide +kernel
theorem dX11_laysChoice_211 : decode cX11_laysChoice 211 = .ok (.iinc 5 1, 3) := by decide +kernel
theorem dX11_laysChoice_214 : decode cX11_laysChoice 214 = .ok (.goto (-41), 3) := by decide +kernel
theorem dX11_laysChoice_217 : decode cX11_laysChoice 217 = .ok (.aload_n 0, 1) := by decide +kernel
theorem dX11_laysChoice_218 : decode cX11_laysChoice 218 = .ok (.getfield 83, 3) := by decide +kernel
theorem dX11_laysChoice_221 : decode cX11_laysChoice 221 = .ok (.iload_n 1, 1) := by decide +kernel
theorem dX11_laysChoice_222 : decode cX11_laysChoice 222 = .ok (.dup2, 1) := by decide +kernel
theorem dX11_laysChoice_223 : decode cX11_laysChoice 223 = .ok (.iaload, 1) := by decide +kernel
theorem dX11_laysChoice_224 : decode cX11_laysChoice 224 = .ok (.iload 4, 2) := by decide +kernel
theorem dX11_laysChoice_226 : decode cX11_laysChoice 226 = .ok (.ifCond .eq 7, 3) := by decide +kernel
theorem dX11_laysChoice_229 : decode cX11_laysChoice 229 = .ok (.iconst 1, 1) := by decide +kernel
theorem dX11_laysChoice_230 : decode cX11_laysChoice 230 = .ok (.goto 4, 3) := by decide +kernel
theorem dX11_laysChoice_233 : decode cX11_laysChoice 233 = .ok (.iconst 0, 1) := by decide +kernel
theorem dX11_laysChoice_234 : decode cX11_laysChoice 234 = .ok (.iadd, 1) := by decide +kernel
theorem dX11_laysChoice_235 : decode cX11_laysChoice 235 = .ok (.iastore, 1) := by decide +kernel
theorem dX11_laysChoice_236 : decode cX11_laysChoice 236 = .ok (.return_, 1) := by decide +kernel
def mM_laysChoice_234  (vs1 : Int32) (vs2 : Int32) (vs3 : Int32) (I : hI) : Option (hI) :=
  h_g (h_in vs1 10) <|
  h_let (h_u I 25 vs1.toNatClampNeg (vs2 + vs3)) fun I2 =>
  some I2
set_option maxHeartbeats 4000000 in
theorem sM_laysChoice_234 (d : Nat) (hd : 32 + 1 ≤ d) (vs1 : Int32) (vs2 : Int32) (vs3 : Int32) (I : hI) (J : hJ) (q : hI) (h : mM_laysChoice_234 vs1 vs2 vs3 I = some q) : AW hFT cX11_laysChoice 6 none RX11 kdM d [] 234 [.int vs3, .int vs2, .int vs1, .ref 25] (I, J, RMm) none (q, J, RMm) := by
  obtain ⟨d0, rfl, hd0⟩ := h_mono hd
  unfold mM_laysChoice_234 at h
  refine a_iadd dX11_laysChoice_234 ?_
  obtain ⟨g1, h⟩ := h_gS h
  refine b_iastore km_25 (h_inV g1) dX11_laysChoice_235 ?_
  obtain ⟨I2, eI2, h⟩ := h_letS h
  refine a_memI eI2 ?_
  cases h
  exact a_vret dX11_laysChoice_236
def mM_laysChoice_B173 (k173 : Int32 → Int32 → Int32 → Int32 → hI → Option (hI)) (v1 : Int32) (v3 : Int32) (v4 : Int32) (v5 : Int32) (I : hI) : Option (hI) :=
  h_g (h_in v1 10) <|
  if (I 25 v1.toNatClampNeg) ≤ v5 then
    (h_g (h_in v1 10) <|
    if v4 = 0 then
      mM_laysChoice_234 v1 (I 25 v1.toNatClampNeg) (0 : Int32) I
    else
      mM_laysChoice_234 v1 (I 25 v1.toNatClampNeg) (1 : Int32) I)
  else
    (if v4 = 0 then
      k173 v1 v3 (0 : Int32) (v5 + (1 : Int32)) I
    else
      ((mM_isAlike (mM_choiceAt v1 v5) v3 I).bind fun q2 =>
      if q2 = 0 then
        k173 v1 v3 (1 : Int32) (v5 + (1 : Int32)) I
      else
        k173 v1 v3 (0 : Int32) (v5 + (1 : Int32)) I))
set_option maxHeartbeats 4000000 in
theorem sM_laysChoice_B173 (d : Nat) (hd : 32 + 1 ≤ d) (k173 : Int32 → Int32 → Int32 → Int32 → hI → Option (hI)) (hk173 : ∀ (v1 : Int32) (v3 : Int32) (v4 : Int32) (v5 : Int32) (I : hI) (J : hJ) (q : hI), k173 v1 v3 v4 v5 I = some q → AW hFT cX11_laysChoice 6 none RX11 kdM d [(0, .ref 0), (1, .int v1), (3, .int v3), (4, .int v4), (5, .int v5)] 173 [] (I, J, RMm) none (q, J, RMm)) (v1 : Int32) (v3 : Int32) (v4 : Int32) (v5 : Int32) (I : hI) (J : hJ) (q : hI) (h : mM_laysChoice_B173 k173 v1 v3 v4 v5 I = some q) : AW hFT cX11_laysChoice 6 none RX11 kdM d [(0, .ref 0), (1, .int v1), (3, .int v3), (4, .int v4), (5, .int v5)] 173 [] (I, J, RMm) none (q, J, RMm) := by
  obtain ⟨d0, rfl, hd0⟩ := h_mono hd
  unfold mM_laysChoice_B173 at h
  refine a_iload dX11_laysChoice_173 rfl ?_
  refine a_aload_n dX11_laysChoice_175 rfl rfl ?_
  refine b_getR hK_11 km_0 (i := 62) rfl fl_11_83 rfl rmm_62 dX11_laysChoice_176 ?_
  refine a_iload_n dX11_laysChoice_179 rfl rfl ?_
  obtain ⟨g1, h⟩ := h_gS h
  refine b_iaload km_25 (h_inV g1) dX11_laysChoice_180 ?_
  refine a_icmp_ge (tgt := 217) dX11_laysChoice_181 (by decide) (fun c => ?_) (fun c => ?_)
  · replace h := h_iteT c h
    refine a_aload_n dX11_laysChoice_217 rfl rfl ?_
    refine b_getR hK_11 km_0 (i := 62) rfl fl_11_83 rfl rmm_62 dX11_laysChoice_218 ?_
    refine a_iload_n dX11_laysChoice_221 rfl rfl ?_
    refine a_dup2_11 dX11_laysChoice_222 rfl rfl ?_
    obtain ⟨g2, h⟩ := h_gS h
    refine b_iaload km_25 (h_inV g2) dX11_laysChoice_223 ?_
    refine a_iload dX11_laysChoice_224 rfl ?_
    refine a_if_eq (tgt := 233) dX11_laysChoice_226 (by decide) (fun c => ?_) (fun c => ?_)
    · replace h := h_iteT c h
      refine a_iconst dX11_laysChoice_233 ic_0 ?_
      refine a_sub (lv' := []) [] rfl ?_
      exact sM_laysChoice_234 (d0 + 1) (by omega) v1 (I 25 v1.toNatClampNeg) (0 : Int32) I J _ h
    · replace h := h_iteF c h
      refine a_iconst dX11_laysChoice_229 ic_1 ?_
      refine a_goto (tgt := 234) dX11_laysChoice_230 (by decide) ?_
      refine a_sub (lv' := []) [] rfl ?_
      exact sM_laysChoice_234 (d0 + 1) (by omega) v1 (I 25 v1.toNatClampNeg) (1 : Int32) I J _ h
  · replace h := h_iteF c h
    refine a_iload dX11_laysChoice_184 rfl ?_
    refine a_if_eq (tgt := 208) dX11_laysChoice_186 (by decide) (fun c => ?_) (fun c => ?_)
    · replace h := h_iteT c h
      refine a_iconst dX11_laysChoice_208 ic_0 ?_
      refine a_istore (lv' := [(4, .int (0 : Int32)), (0, .ref 0), (1, .int v1), (3, .int v3), (5, .int v5)]) dX11_laysChoice_209 (by decide) rfl ?_
      refine b_iinc (lv' := [(5, .int (v5 + (1 : Int32))), (4, .int (0 : Int32)), (0, .ref 0), (1, .int v1), (3, .int v3)]) dX11_laysChoice_211 rfl ic_1 (by decide) rfl ?_
      refine a_goto (tgt := 173) dX11_laysChoice_214 (by decide) ?_
      refine a_sub (lv' := [(0, .ref 0), (1, .int v1), (3, .int v3), (4, .int (0 : Int32)), (5, .int (v5 + (1 : Int32)))]) [2, 3, 4, 1, 0] rfl ?_
      exact hk173 v1 v3 (0 : Int32) (v5 + (1 : Int32)) I J _ h
    · replace h := h_iteF c h
      refine a_aload_n dX11_laysChoice_189 rfl rfl ?_
      refine a_aload_n dX11_laysChoice_190 rfl rfl ?_
      refine a_iload_n dX11_laysChoice_191 rfl rfl ?_
      refine a_iload dX11_laysChoice_192 rfl ?_
      refine a_callV1 [.ref 0] yy_X11_choiceAt ml_11_433 km_0 rfl (sM_choiceAt _ (by omega) v1 v5 I J _ rfl) rfl rfl (Nat.le_of_ble_eq_true rfl) dX11_laysChoice_194 ?_
      refine a_iload_n dX11_laysChoice_197 rfl rfl ?_
      obtain ⟨q2, cq2, h⟩ := h_bindS h
      refine a_callV1 [] yy_X11_isAlike ml_11_439 km_0 rfl (sM_isAlike _ (by omega) (mM_choiceAt v1 v5) v3 I J q2 cq2) rfl rfl (Nat.le_of_ble_eq_true rfl) dX11_laysChoice_198 ?_
      refine a_if_ne (tgt := 208) dX11_laysChoice_201 (by decide) (fun c => ?_) (fun c => ?_)
      · replace h := h_iteF c h
        refine a_iconst dX11_laysChoice_208 ic_0 ?_
        refine a_istore (lv' := [(4, .int (0 : Int32)), (0, .ref 0), (1, .int v1), (3, .int v3), (5, .int v5)]) dX11_laysChoice_209 (by decide) rfl ?_
        refine b_iinc (lv' := [(5, .int (v5 + (1 : Int32))), (4, .int (0 : Int32)), (0, .ref 0), (1, .int v1), (3, .int v3)]) dX11_laysChoice_211 rfl ic_1 (by decide) rfl ?_
        refine a_goto (tgt := 173) dX11_laysChoice_214 (by decide) ?_
        refine a_sub (lv' := [(0, .ref 0), (1, .int v1), (3, .int v3), (4, .int (0 : Int32)), (5, .int (v5 + (1 : Int32)))]) [2, 3, 4, 1, 0] rfl ?_
        exact hk173 v1 v3 (0 : Int32) (v5 + (1 : Int32)) I J _ h
      · replace h := h_iteT c h
        refine a_iconst dX11_laysChoice_204 ic_1 ?_
        refine a_goto (tgt := 209) dX11_laysChoice_205 (by decide) ?_
        refine a_istore (lv' := [(4, .int (1 : Int32)), (0, .ref 0), (1, .int v1), (3, .int v3), (5, .int v5)]) dX11_laysChoice_209 (by decide) rfl ?_
        refine b_iinc (lv' := [(5, .int (v5 + (1 : Int32))), (4, .int (1 : Int32)), (0, .ref 0), (1, .int v1), (3, .int v3)]) dX11_laysChoice_211 rfl ic_1 (by decide) rfl ?_
        refine a_goto (tgt := 173) dX11_laysChoice_214 (by decide) ?_
        refine a_sub (lv' := [(0, .ref 0), (1, .int v1), (3, .int v3), (4, .int (1 : Int32)), (5, .int (v5 + (1 : Int32)))]) [2, 3, 4, 1, 0] rfl ?_
        exact hk173 v1 v3 (1 : Int32) (v5 + (1 : Int32)) I J _ h
def mM_laysChoice_L173  : Nat → Int32 → Int32 → Int32 → Int32 → hI → Option (hI)
  | 0 => fun _ _ _ _ _ => none
  | n + 1 => mM_laysChoice_B173 (mM_laysChoice_L173 n)
theorem sM_laysChoice_L173 (d : Nat) (hd : 32 + 1 ≤ d) : ∀ (n : Nat) (v1 : Int32) (v3 : Int32) (v4 : Int32) (v5 : Int32) (I : hI) (J : hJ) (q : hI) (h : mM_laysChoice_L173 n v1 v3 v4 v5 I = some q), AW hFT cX11_laysChoice 6 none RX11 kdM d [(0, .ref 0), (1, .int v1), (3, .int v3), (4, .int v4), (5, .int v5)] 173 [] (I, J, RMm) none (q, J, RMm)
  | 0, _, _, _, _, _, _, q, h => by cases h
  | n + 1, v1, v3, v4, v5, I, J, q, h => sM_laysChoice_B173 d hd (mM_laysChoice_L173 n) (sM_laysChoice_L173 d hd n) v1 v3 v4 v5 I J q h
def mM_laysChoice_154 (k74 : Int32 → Int32 → Int32 → hI → Option (hI)) (v1 : Int32) (v2 : Int32) (v3 : Int32) (I : hI) : Option (hI) :=
  h_let (h_u I 0 57 ((I 0 57) + (1 : Int32))) fun I1 =>
  k74 v1 v2 v3 I1
set_option maxHeartbeats 4000000 in
theorem sM_laysChoice_154 (d : Nat) (hd : 32 + 1 ≤ d) (k74 : Int32 → Int32 → Int32 → hI → Option (hI)) (hk74 : ∀ (v1 : Int32) (v2 : Int32) (v3 : Int32) (I : hI) (J : hJ) (q : hI), k74 v1 v2 v3 I = some q → AW hFT cX11_laysChoice 6 none RX11 kdM d [(0, .ref 0), (1, .int v1), (2, .int v2), (3, .int v3)] 74 [] (I, J, RMm) none (q, J, RMm)) (v1 : Int32) (v2 : Int32) (v3 : Int32) (I : hI) (J : hJ) (q : hI) (h : mM_laysChoice_154 k74 v1 v2 v3 I = some q) : AW hFT cX11_laysChoice 6 none RX11 kdM d [(0, .ref 0), (1, .int v1), (2, .int v2), (3, .int v3)] 154 [] (I, J, RMm) none (q, J, RMm) := by
  obtain ⟨d0, rfl, hd0⟩ := h_mono hd
  unfold mM_laysChoice_154 at h
  refine a_aload_n dX11_laysChoice_154 rfl rfl ?_
  refine a_dup dX11_laysChoice_155 rfl ?_
  refine b_getI hK_11 km_0 (i := 57) rfl fl_11_408 rfl dX11_laysChoice_156 ?_
  refine a_iconst dX11_laysChoice_159 ic_1 ?_
  refine a_iadd dX11_laysChoice_160 ?_
  refine b_putI hK_11 km_0 (i := 57) rfl fl_11_408 rfl rfl (h_NI _) dX11_laysChoice_161 ?_
  obtain ⟨I1, eI1, h⟩ := h_letS h
  refine a_memI eI1 ?_
  refine a_goto (tgt := 74) dX11_laysChoice_164 (by decide) ?_
  exact hk74 v1 v2 v3 I1 J _ h
def mM_laysChoice_B74 (k74 : Int32 → Int32 → Int32 → hI → Option (hI)) (v1 : Int32) (v2 : Int32) (v3 : Int32) (I : hI) : Option (hI) :=
  if (4 : Int32) ≤ (I 0 57) then
    mM_laysChoice_L173 hF v1 v3 (1 : Int32) (0 : Int32) I
  else
    (h_let (h_u I 0 56 (0 : Int32)) fun I1 =>
    (mM_round v1 v2 I1).bind fun q2 =>
    h_g (h_in v3 80) <|
    h_g (h_in v3 80) <|
    h_let (h_u q2 27 v3.toNatClampNeg ((q2 27 v3.toNatClampNeg) + (q2 0 55))) fun I5 =>
    if (I5 0 60) = 0 then
      (h_g (h_in ((((10 : Int32) * v3) + ((I5 0 54) * (I5 0 39))) + (I5 0 53)) 800) <|
      h_g (h_in ((((10 : Int32) * v3) + ((I5 0 54) * (I5 0 39))) + (I5 0 53)) 800) <|
      h_let (h_u I5 29 ((((10 : Int32) * v3) + ((I5 0 54) * (I5 0 39))) + (I5 0 53)).toNatClampNeg ((I5 29 ((((10 : Int32) * v3) + ((I5 0 54) * (I5 0 39))) + (I5 0 53)).toNatClampNeg) + (1 : Int32))) fun I8 =>
      mM_laysChoice_154 k74 v1 v2 v3 I8)
    else
      (h_g (h_in v3 80) <|
      h_g (h_in v3 80) <|
      h_let (h_u I5 28 v3.toNatClampNeg ((I5 28 v3.toNatClampNeg) + (1 : Int32))) fun I8 =>
      mM_laysChoice_154 k74 v1 v2 v3 I8))
set_option maxHeartbeats 4000000 in
theorem sM_laysChoice_B74 (d : Nat) (hd : 32 + 1 ≤ d) (k74 : Int32 → Int32 → Int32 → hI → Option (hI)) (hk74 : ∀ (v1 : Int32) (v2 : Int32) (v3 : Int32) (I : hI) (J : hJ) (q : hI), k74 v1 v2 v3 I = some q → AW hFT cX11_laysChoice 6 none RX11 kdM d [(0, .ref 0), (1, .int v1), (2, .int v2), (3, .int v3)] 74 [] (I, J, RMm) none (q, J, RMm)) (v1 : Int32) (v2 : Int32) (v3 : Int32) (I : hI) (J : hJ) (q : hI) (h : mM_laysChoice_B74 k74 v1 v2 v3 I = some q) : AW hFT cX11_laysChoice 6 none RX11 kdM d [(0, .ref 0), (1, .int v1), (2, .int v2), (3, .int v3)] 74 [] (I, J, RMm) none (q, J, RMm) := by
  obtain ⟨d0, rfl, hd0⟩ := h_mono hd
  unfold mM_laysChoice_B74 at h
  refine a_aload_n dX11_laysChoice_74 rfl rfl ?_
  refine b_getI hK_11 km_0 (i := 57) rfl fl_11_408 rfl dX11_laysChoice_75 ?_
  refine a_iconst dX11_laysChoice_78 ic_4 ?_
  refine a_icmp_ge (tgt := 167) dX11_laysChoice_79 (by decide) (fun c => ?_) (fun c => ?_)
  · replace h := h_iteT c h
    refine a_iconst dX11_laysChoice_167 ic_1 ?_
    refine a_istore (lv' := [(4, .int (1 : Int32)), (0, .ref 0), (1, .int v1), (2, .int v2), (3, .int v3)]) dX11_laysChoice_168 (by decide) rfl ?_
    refine a_iconst dX11_laysChoice_170 ic_0 ?_
    refine a_istore (lv' := [(5, .int (0 : Int32)), (4, .int (1 : Int32)), (0, .ref 0), (1, .int v1), (2, .int v2), (3, .int v3)]) dX11_laysChoice_171 (by decide) rfl ?_
    refine a_sub (lv' := [(0, .ref 0), (1, .int v1), (3, .int v3), (4, .int (1 : Int32)), (5, .int (0 : Int32))]) [2, 3, 5, 1, 0] rfl ?_
    exact sM_laysChoice_L173 (d0 + 1) (by omega) hF v1 v3 (1 : Int32) (0 : Int32) I J _ h
  · replace h := h_iteF c h
    refine a_aload_n dX11_laysChoice_82 rfl rfl ?_
    refine a_iconst dX11_laysChoice_83 ic_0 ?_
    refine b_putI hK_11 km_0 (i := 56) rfl fl_11_398 rfl rfl (h_NI _) dX11_laysChoice_84 ?_
    obtain ⟨I1, eI1, h⟩ := h_letS h
    refine a_memI eI1 ?_
    refine a_aload_n dX11_laysChoice_87 rfl rfl ?_
    refine a_iload_n dX11_laysChoice_88 rfl rfl ?_
    refine a_iload_n dX11_laysChoice_89 rfl rfl ?_
    obtain ⟨q2, cq2, h⟩ := h_bindS h
    refine a_callV0 [] yy_X11_round ml_11_436 km_0 rfl (sM_round _ (by omega) v1 v2 I1 J q2 cq2) rfl rfl (Nat.le_of_ble_eq_true rfl) dX11_laysChoice_90 ?_
    refine a_aload_n dX11_laysChoice_93 rfl rfl ?_
    refine b_getR hK_11 km_0 (i := 64) rfl fl_11_89 rfl rmm_64 dX11_laysChoice_94 ?_
    refine a_iload_n dX11_laysChoice_97 rfl rfl ?_
    refine a_dup2_11 dX11_laysChoice_98 rfl rfl ?_
    obtain ⟨g3, h⟩ := h_gS h
    refine b_iaload km_27 (h_inV g3) dX11_laysChoice_99 ?_
    refine a_aload_n dX11_laysChoice_100 rfl rfl ?_
    refine b_getI hK_11 km_0 (i := 55) rfl fl_11_421 rfl dX11_laysChoice_101 ?_
    refine a_iadd dX11_laysChoice_104 ?_
    obtain ⟨g4, h⟩ := h_gS h
    refine b_iastore km_27 (h_inV g4) dX11_laysChoice_105 ?_
    obtain ⟨I5, eI5, h⟩ := h_letS h
    refine a_memI eI5 ?_
    refine a_aload_n dX11_laysChoice_106 rfl rfl ?_
    refine b_getI hK_11 km_0 (i := 60) rfl fl_11_411 rfl dX11_laysChoice_107 ?_
    refine a_if_eq (tgt := 126) dX11_laysChoice_110 (by decide) (fun c => ?_) (fun c => ?_)
    · replace h := h_iteT c h
      refine a_aload_n dX11_laysChoice_126 rfl rfl ?_
      refine b_getR hK_11 km_0 (i := 66) rfl fl_11_95 rfl rmm_66 dX11_laysChoice_127 ?_
      refine a_bipush dX11_laysChoice_130 bp_10 ?_
      refine a_iload_n dX11_laysChoice_132 rfl rfl ?_
      refine a_imul dX11_laysChoice_133 ?_
      refine a_aload_n dX11_laysChoice_134 rfl rfl ?_
      refine b_getI hK_11 km_0 (i := 54) rfl fl_11_416 rfl dX11_laysChoice_135 ?_
      refine a_aload_n dX11_laysChoice_138 rfl rfl ?_
      refine b_getI hK_11 km_0 (i := 39) rfl fl_11_361 rfl dX11_laysChoice_139 ?_
      refine a_imul dX11_laysChoice_142 ?_
      refine a_iadd dX11_laysChoice_143 ?_
      refine a_aload_n dX11_laysChoice_144 rfl rfl ?_
      refine b_getI hK_11 km_0 (i := 53) rfl fl_11_414 rfl dX11_laysChoice_145 ?_
      refine a_iadd dX11_laysChoice_148 ?_
      refine a_dup2_11 dX11_laysChoice_149 rfl rfl ?_
      obtain ⟨g6, h⟩ := h_gS h
      refine b_iaload km_29 (h_inV g6) dX11_laysChoice_150 ?_
      refine a_iconst dX11_laysChoice_151 ic_1 ?_
      refine a_iadd dX11_laysChoice_152 ?_
      obtain ⟨g7, h⟩ := h_gS h
      refine b_iastore km_29 (h_inV g7) dX11_laysChoice_153 ?_
      obtain ⟨I8, eI8, h⟩ := h_letS h
      refine a_memI eI8 ?_
      exact sM_laysChoice_154 (d0 + 1) (by omega) k74 hk74 v1 v2 v3 I8 J _ h
    · replace h := h_iteF c h
      refine a_aload_n dX11_laysChoice_113 rfl rfl ?_
      refine b_getR hK_11 km_0 (i := 65) rfl fl_11_92 rfl rmm_65 dX11_laysChoice_114 ?_
      refine a_iload_n dX11_laysChoice_117 rfl rfl ?_
      refine a_dup2_11 dX11_laysChoice_118 rfl rfl ?_
      obtain ⟨g6, h⟩ := h_gS h
      refine b_iaload km_28 (h_inV g6) dX11_laysChoice_119 ?_
      refine a_iconst dX11_laysChoice_120 ic_1 ?_
      refine a_iadd dX11_laysChoice_121 ?_
      obtain ⟨g7, h⟩ := h_gS h
      refine b_iastore km_28 (h_inV g7) dX11_laysChoice_122 ?_
      obtain ⟨I8, eI8, h⟩ := h_letS h
      refine a_memI eI8 ?_
      refine a_goto (tgt := 154) dX11_laysChoice_123 (by decide) ?_
      exact sM_laysChoice_154 (d0 + 1) (by omega) k74 hk74 v1 v2 v3 I8 J _ h
def mM_laysChoice_L74  : Nat → Int32 → Int32 → Int32 → hI → Option (hI)
  | 0 => fun _ _ _ _ => none
  | n + 1 => mM_laysChoice_B74 (mM_laysChoice_L74 n)
theorem sM_laysChoice_L74 (d : Nat) (hd : 32 + 1 ≤ d) : ∀ (n : Nat) (v1 : Int32) (v2 : Int32) (v3 : Int32) (I : hI) (J : hJ) (q : hI) (h : mM_laysChoice_L74 n v1 v2 v3 I = some q), AW hFT cX11_laysChoice 6 none RX11 kdM d [(0, .ref 0), (1, .int v1), (2, .int v2), (3, .int v3)] 74 [] (I, J, RMm) none (q, J, RMm)
  | 0, _, _, _, _, _, q, h => by cases h
  | n + 1, v1, v2, v3, I, J, q, h => sM_laysChoice_B74 d hd (mM_laysChoice_L74 n) (sM_laysChoice_L74 d hd n) v1 v2 v3 I J q h
def mM_laysChoice_B36 (k36 : Int32 → Int32 → Int32 → Int32 → hI → Option (hI)) (v1 : Int32) (v2 : Int32) (v3 : Int32) (v4 : Int32) (I : hI) : Option (hI) :=
  if (I 0 41) ≤ v4 then
    (h_let (h_u I 0 61 (0 : Int32)) fun I1 =>
    h_let (h_u I1 0 57 (0 : Int32)) fun I2 =>
    mM_laysChoice_L74 hF v1 v2 v3 I2)
  else
    (h_g (h_in (((10 : Int32) * v3) + v4) 800) <|
    h_let (h_u I 29 (((10 : Int32) * v3) + v4).toNatClampNeg (0 : Int32)) fun I2 =>
    k36 v1 v2 v3 (v4 + (1 : Int32)) I2)
set_option maxHeartbeats 4000000 in
theorem sM_laysChoice_B36 (d : Nat) (hd : 32 + 1 ≤ d) (k36 : Int32 → Int32 → Int32 → Int32 → hI → Option (hI)) (hk36 : ∀ (v1 : Int32) (v2 : Int32) (v3 : Int32) (v4 : Int32) (I : hI) (J : hJ) (q : hI), k36 v1 v2 v3 v4 I = some q → AW hFT cX11_laysChoice 6 none RX11 kdM d [(0, .ref 0), (1, .int v1), (2, .int v2), (3, .int v3), (4, .int v4)] 36 [] (I, J, RMm) none (q, J, RMm)) (v1 : Int32) (v2 : Int32) (v3 : Int32) (v4 : Int32) (I : hI) (J : hJ) (q : hI) (h : mM_laysChoice_B36 k36 v1 v2 v3 v4 I = some q) : AW hFT cX11_laysChoice 6 none RX11 kdM d [(0, .ref 0), (1, .int v1), (2, .int v2), (3, .int v3), (4, .int v4)] 36 [] (I, J, RMm) none (q, J, RMm) := by
  obtain ⟨d0, rfl, hd0⟩ := h_mono hd
  unfold mM_laysChoice_B36 at h
  refine a_iload dX11_laysChoice_36 rfl ?_
  refine a_aload_n dX11_laysChoice_38 rfl rfl ?_
  refine b_getI hK_11 km_0 (i := 41) rfl fl_11_367 rfl dX11_laysChoice_39 ?_
  refine a_icmp_ge (tgt := 64) dX11_laysChoice_42 (by decide) (fun c => ?_) (fun c => ?_)
  · replace h := h_iteT c h
    refine a_aload_n dX11_laysChoice_64 rfl rfl ?_
    refine a_iconst dX11_laysChoice_65 ic_0 ?_
    refine b_putI hK_11 km_0 (i := 61) rfl fl_11_401 rfl rfl h_Z0 dX11_laysChoice_66 ?_
    obtain ⟨I1, eI1, h⟩ := h_letS h
    refine a_memI eI1 ?_
    refine a_aload_n dX11_laysChoice_69 rfl rfl ?_
    refine a_iconst dX11_laysChoice_70 ic_0 ?_
    refine b_putI hK_11 km_0 (i := 57) rfl fl_11_408 rfl rfl (h_NI _) dX11_laysChoice_71 ?_
    obtain ⟨I2, eI2, h⟩ := h_letS h
    refine a_memI eI2 ?_
    refine a_sub (lv' := [(0, .ref 0), (1, .int v1), (2, .int v2), (3, .int v3)]) [0, 1, 2, 3] rfl ?_
    exact sM_laysChoice_L74 (d0 + 1) (by omega) hF v1 v2 v3 I2 J _ h
  · replace h := h_iteF c h
    refine a_aload_n dX11_laysChoice_45 rfl rfl ?_
    refine b_getR hK_11 km_0 (i := 66) rfl fl_11_95 rfl rmm_66 dX11_laysChoice_46 ?_
    refine a_bipush dX11_laysChoice_49 bp_10 ?_
    refine a_iload_n dX11_laysChoice_51 rfl rfl ?_
    refine a_imul dX11_laysChoice_52 ?_
    refine a_iload dX11_laysChoice_53 rfl ?_
    refine a_iadd dX11_laysChoice_55 ?_
    refine a_iconst dX11_laysChoice_56 ic_0 ?_
    obtain ⟨g1, h⟩ := h_gS h
    refine b_iastore km_29 (h_inV g1) dX11_laysChoice_57 ?_
    obtain ⟨I2, eI2, h⟩ := h_letS h
    refine a_memI eI2 ?_
    refine b_iinc (lv' := [(4, .int (v4 + (1 : Int32))), (0, .ref 0), (1, .int v1), (2, .int v2), (3, .int v3)]) dX11_laysChoice_58 rfl ic_1 (by decide) rfl ?_
    refine a_goto (tgt := 36) dX11_laysChoice_61 (by decide) ?_
    refine a_sub (lv' := [(0, .ref 0), (1, .int v1), (2, .int v2), (3, .int v3), (4, .int (v4 + (1 : Int32)))]) [1, 2, 3, 4, 0] rfl ?_
    exact hk36 v1 v2 v3 (v4 + (1 : Int32)) I2 J _ h
def mM_laysChoice_L36  : Nat → Int32 → Int32 → Int32 → Int32 → hI → Option (hI)
  | 0 => fun _ _ _ _ _ => none
  | n + 1 => mM_laysChoice_B36 (mM_laysChoice_L36 n)
theorem sM_laysChoice_L36 (d : Nat) (hd : 32 + 1 ≤ d) : ∀ (n : Nat) (v1 : Int32) (v2 : Int32) (v3 : Int32) (v4 : Int32) (I : hI) (J : hJ) (q : hI) (h : mM_laysChoice_L36 n v1 v2 v3 v4 I = some q), AW hFT cX11_laysChoice 6 none RX11 kdM d [(0, .ref 0), (1, .int v1), (2, .int v2), (3, .int v3), (4, .int v4)] 36 [] (I, J, RMm) none (q, J, RMm)
  | 0, _, _, _, _, _, _, q, h => by cases h
  | n + 1, v1, v2, v3, v4, I, J, q, h => sM_laysChoice_B36 d hd (mM_laysChoice_L36 n) (sM_laysChoice_L36 d hd n) v1 v2 v3 v4 I J q h
def mM_laysChoice  (v1 : Int32) (v2 : Int32) (I : hI) : Option (hI) :=
  h_g (h_in v1 10) <|
  h_let (mM_choiceAt v1 (I 25 v1.toNatClampNeg)) fun v3x1 =>
  h_g (h_in v3x1 80) <|
  h_let (h_u I 26 v3x1.toNatClampNeg v2) fun I4 =>
  h_g (h_in v3x1 80) <|
  h_let (h_u I4 27 v3x1.toNatClampNeg (0 : Int32)) fun I6 =>
  h_g (h_in v3x1 80) <|
  h_let (h_u I6 28 v3x1.toNatClampNeg (0 : Int32)) fun I8 =>
  mM_laysChoice_L36 hF v1 v2 v3x1 (0 : Int32) I8
set_option maxHeartbeats 4000000 in
theorem sM_laysChoice (d : Nat) (hd : 32 + 1 ≤ d) (v1 : Int32) (v2 : Int32) (I : hI) (J : hJ) (q : hI) (h : mM_laysChoice v1 v2 I = some q) : HMet hFT yX11_laysChoice cX11_laysChoice 6 none kdM d [.ref 0, .int v1, .int v2] (I, J, RMm) none (q, J, RMm) := by
  obtain ⟨d0, rfl, hd0⟩ := h_mono hd
  refine HMet.of (by decide) (Nat.le_of_ble_eq_true rfl) ?_
  show AW hFT cX11_laysChoice 6 none RX11 kdM (d0 + 1) [(0, .ref 0), (1, .int v1), (2, .int v2)] 0 [] (I, J, RMm) none (q, J, RMm)
  unfold mM_laysChoice at h
  refine a_aload_n dX11_laysChoice_0 rfl rfl ?_
  refine a_iload_n dX11_laysChoice_1 rfl rfl ?_
  refine a_aload_n dX11_laysChoice_2 rfl rfl ?_
  refine b_getR hK_11 km_0 (i := 62) rfl fl_11_83 rfl rmm_62 dX11_laysChoice_3 ?_
  refine a_iload_n dX11_laysChoice_6 rfl rfl ?_
  obtain ⟨g1, h⟩ := h_gS h
  refine b_iaload km_25 (h_inV g1) dX11_laysChoice_7 ?_
  refine a_callV1 [] yy_X11_choiceAt ml_11_433 km_0 rfl (sM_choiceAt _ (by omega) v1 (I 25 v1.toNatClampNeg) I J _ rfl) rfl rfl (Nat.le_of_ble_eq_true rfl) dX11_laysChoice_8 ?_
  obtain ⟨v3x1, ev3x1, h⟩ := h_letS h
  refine a_topI ev3x1 ?_
  refine a_istore_n (lv' := [(3, .int v3x1), (0, .ref 0), (1, .int v1), (2, .int v2)]) dX11_laysChoice_11 rfl (by decide) rfl ?_
  refine a_aload_n dX11_laysChoice_12 rfl rfl ?_
  refine b_getR hK_11 km_0 (i := 63) rfl fl_11_86 rfl rmm_63 dX11_laysChoice_13 ?_
  refine a_iload_n dX11_laysChoice_16 rfl rfl ?_
  refine a_iload_n dX11_laysChoice_17 rfl rfl ?_
  obtain ⟨g3, h⟩ := h_gS h
  refine b_iastore km_26 (h_inV g3) dX11_laysChoice_18 ?_
  obtain ⟨I4, eI4, h⟩ := h_letS h
  refine a_memI eI4 ?_
  refine a_aload_n dX11_laysChoice_19 rfl rfl ?_
  refine b_getR hK_11 km_0 (i := 64) rfl fl_11_89 rfl rmm_64 dX11_laysChoice_20 ?_
  refine a_iload_n dX11_laysChoice_23 rfl rfl ?_
  refine a_iconst dX11_laysChoice_24 ic_0 ?_
  obtain ⟨g5, h⟩ := h_gS h
  refine b_iastore km_27 (h_inV g5) dX11_laysChoice_25 ?_
  obtain ⟨I6, eI6, h⟩ := h_letS h
  refine a_memI eI6 ?_
  refine a_aload_n dX11_laysChoice_26 rfl rfl ?_
  refine b_getR hK_11 km_0 (i := 65) rfl fl_11_92 rfl rmm_65 dX11_laysChoice_27 ?_
  refine a_iload_n dX11_laysChoice_30 rfl rfl ?_
  refine a_iconst dX11_laysChoice_31 ic_0 ?_
  obtain ⟨g7, h⟩ := h_gS h
  refine b_iastore km_28 (h_inV g7) dX11_laysChoice_32 ?_
  obtain ⟨I8, eI8, h⟩ := h_letS h
  refine a_memI eI8 ?_
  refine a_iconst dX11_laysChoice_33 ic_0 ?_
  refine a_istore (lv' := [(4, .int (0 : Int32)), (3, .int v3x1), (0, .ref 0), (1, .int v1), (2, .int v2)]) dX11_laysChoice_34 (by decide) rfl ?_
  refine a_sub (lv' := [(0, .ref 0), (1, .int v1), (2, .int v2), (3, .int v3x1), (4, .int (0 : Int32))]) [2, 3, 4, 1, 0] rfl ?_
  exact sM_laysChoice_L36 (d0 + 1) (by omega) hF v1 v2 v3x1 (0 : Int32) I8 J _ h
/-! CoinLoopsModel.laysRounds()V -/
theorem dX11_laysRounds_0 : decode cX11_laysRounds 0 = .ok (.aload_n 0, 1) := by decide +kernel
theorem dX11_laysRounds_1 : decode cX11_laysRounds 1 = .ok (.iconst 0, 1) := by decide +kernel
theorem dX11_laysRounds_2 : decode cX11_laysRounds 2 = .ok (.putfield 443, 3) := by decide +kernel
theorem dX11_laysRounds_5 : decode cX11_laysRounds 5 = .ok (.iconst 0, 1) := by decide +kernel
theorem dX11_laysRounds_6 : decode cX11_laysRounds 6 = .ok (.istore_n 1, 1) := by decide +kernel
theorem dX11_laysRounds_7 : decode cX11_laysRounds 7 = .ok (.iload_n 1, 1) := by decide +kernel
theorem dX11_laysRounds_8 : decode cX11_laysRounds 8 = .ok (.aload_n 0, 1) := by decide +kernel
theorem dX11_laysRounds_9 : decode cX11_laysRounds 9 = .ok (.getfield 367, 3) := by decide +kernel
theorem dX11_laysRounds_12 : decode cX11_laysRounds 12 = .ok (.if_icmp .ge 56, 3) := by decide +kernel
theorem dX11_laysRounds_15 : decode cX11_laysRounds 15 = .ok (.aload_n 0, 1) := by decide +kernel
theorem dX11_laysRounds_16 : decode cX11_laysRounds 16 = .ok (.getfield 83, 3) := by decide +kernel
theorem dX11_laysRounds_19 : decode cX11_laysRounds 19 = .ok (.iload_n 1, 1) := by decide +kernel
theorem dX11_laysRounds_20 : decode cX11_laysRounds 20 = .ok (.iconst 0, 1) := by decide +kernel
theorem dX11_laysRounds_21 : decode cX11_laysRounds 21 = .ok (.iastore, 1) := by decide +kernel
theorem dX11_laysRounds_22 : decode cX11_laysRounds 22 = .ok (.iconst 0, 1) := by decide +kernel
theorem dX11_laysRounds_23 : decode cX11_laysRounds 23 = .ok (.istore_n 2, 1) := by decide +kernel
theorem dX11_laysRounds_24 : decode cX11_laysRounds 24 = .ok (.iload_n 2, 1) := by decide +kernel
theorem dX11_laysRounds_25 : decode cX11_laysRounds 25 = .ok (.iconst 1, 1) := by decide +kernel
theorem dX11_laysRounds_26 : decode cX11_laysRounds 26 = .ok (.aload_n 0, 1) := by decide +kernel
theorem dX11_laysRounds_27 : decode cX11_laysRounds 27 = .ok (.getfield 373, 3) := by decide +kernel
theorem dX11_laysRounds_30 : decode cX11_laysRounds 30 = .ok (.ishl, 1) := by decide +kernel
theorem dX11_laysRounds_31 : decode cX11_laysRounds 31 = .ok (.if_icmp .ge 31, 3) := by decide +kernel
theorem dX11_laysRounds_34 : decode cX11_laysRounds 34 = .ok (.aload_n 0, 1) := by decide +kernel
theorem dX11_laysRounds_35 : decode cX11_laysRounds 35 = .ok (.iload_n 1, 1) := by decide +kernel
theorem dX11_laysRounds_36 : decode cX11_laysRounds 36 = .ok (.invokevirtual 446, 3) := by decide +kernel
theorem dX11_laysRounds_39 : decode cX11_laysRounds 39 = .ok (.ifCond .eq 23, 3) := by decide +kernel
theorem dX11_laysRounds_42 : decode cX11_laysRounds 42 = .ok (.aload_n 0, 1) := by decide +kernel
theorem dX11_laysRounds_43 : decode cX11_laysRounds 43 = .ok (.iload_n 2, 1) := by decide +kernel
theorem dX11_laysRounds_44 : decode cX11_laysRounds 44 = .ok (.invokevirtual 449, 3) := by decide +kernel
theorem dX11_laysRounds_47 : decode cX11_laysRounds 47 = .ok (.ifCond .eq 9, 3) := by decide +kernel
theorem dX11_laysRounds_50 : decode cX11_laysRounds 50 = .ok (.aload_n 0, 1) := by decide +kernel
theorem dX11_laysRounds_51 : decode cX11_laysRounds 51 = .ok (.iload_n 1, 1) := by decide +kernel
theorem dX11_laysRounds_52 : decode cX11_laysRounds 52 = .ok (.iload_n 2, 1) := by decide +kernel
theorem dX11_laysRounds_53 : decode cX11_laysRounds 53 = .ok (.invokevirtual 452, 3) := by decide +kernel
theorem dX11_laysRounds_56 : decode cX11_laysRounds 56 = .ok (.iinc 2 1, 3) := by decide +kernel
theorem dX11_laysRounds_59 : decode cX11_laysRounds 59 = .ok (.goto (-35), 3) := by decide +kernel
theorem dX11_laysRounds_62 : decode cX11_laysRounds 62 = .ok (.iinc 1 1, 3) := by decide +kernel
theorem dX11_laysRounds_65 : decode cX11_laysRounds 65 = .ok (.goto (-58), 3) := by decide +kernel
theorem dX11_laysRounds_68 : decode cX11_laysRounds 68 = .ok (.return_, 1) := by decide +kernel
def mM_laysRounds_B24 (k7 : Int32 → hI → Option (hI)) (k24 : Int32 → Int32 → hI → Option (hI)) (v1 : Int32) (v2 : Int32) (I : hI) : Option (hI) :=
  if ((1 : Int32) <<< ((I 0 43) &&& 31)) ≤ v2 then
    k7 (v1 + (1 : Int32)) I
  else
    ((mM_isIn v1 I).bind fun q1 =>
    if q1 = 0 then
      k7 (v1 + (1 : Int32)) I
    else
      ((mM_isAllowed v2 I).bind fun q2 =>
      if q2 = 0 then
        k24 v1 (v2 + (1 : Int32)) I
      else
        ((mM_laysChoice v1 v2 I).bind fun q3 =>
        k24 v1 (v2 + (1 : Int32)) q3)))
set_option maxHeartbeats 4000000 in
theorem sM_laysRounds_B24 (d : Nat) (hd : 33 + 1 ≤ d) (k7 : Int32 → hI → Option (hI)) (hk7 : ∀ (v1 : Int32) (I : hI) (J : hJ) (q : hI), k7 v1 I = some q → AW hFT cX11_laysRounds 3 none RX11 kdM d [(0, .ref 0), (1, .int v1)] 7 [] (I, J, RMm) none (q, J, RMm)) (k24 : Int32 → Int32 → hI → Option (hI)) (hk24 : ∀ (v1 : Int32) (v2 : Int32) (I : hI) (J : hJ) (q : hI), k24 v1 v2 I = some q → AW hFT cX11_laysRounds 3 none RX11 kdM d [(0, .ref 0), (1, .int v1), (2, .int v2)] 24 [] (I, J, RMm) none (q, J, RMm)) (v1 : Int32) (v2 : Int32) (I : hI) (J : hJ) (q : hI) (h : mM_laysRounds_B24 k7 k24 v1 v2 I = some q) : AW hFT cX11_laysRounds 3 none RX11 kdM d [(0, .ref 0), (1, .int v1), (2, .int v2)] 24 [] (I, J, RMm) none (q, J, RMm) := by
  obtain ⟨d0, rfl, hd0⟩ := h_mono hd
  unfold mM_laysRounds_B24 at h
  refine a_iload_n dX11_laysRounds_24 rfl rfl ?_
  refine a_iconst dX11_laysRounds_25 ic_1 ?_
  refine a_aload_n dX11_laysRounds_26 rfl rfl ?_
  refine b_getI hK_11 km_0 (i := 43) rfl fl_11_373 rfl dX11_laysRounds_27 ?_
  refine a_ishl dX11_laysRounds_30 ?_
  refine a_icmp_ge (tgt := 62) dX11_laysRounds_31 (by decide) (fun c => ?_) (fun c => ?_)
  · replace h := h_iteT c h
    refine b_iinc (lv' := [(1, .int (v1 + (1 : Int32))), (0, .ref 0), (2, .int v2)]) dX11_laysRounds_62 rfl ic_1 (by decide) rfl ?_
    refine a_goto (tgt := 7) dX11_laysRounds_65 (by decide) ?_
    refine a_sub (lv' := [(0, .ref 0), (1, .int (v1 + (1 : Int32)))]) [1, 0] rfl ?_
    exact hk7 (v1 + (1 : Int32)) I J _ h
  · replace h := h_iteF c h
    refine a_aload_n dX11_laysRounds_34 rfl rfl ?_
    refine a_iload_n dX11_laysRounds_35 rfl rfl ?_
    obtain ⟨q1, cq1, h⟩ := h_bindS h
    refine a_callV1 [] yy_X11_isIn ml_11_446 km_0 rfl (sM_isIn _ (by omega) v1 I J q1 cq1) rfl rfl (Nat.le_of_ble_eq_true rfl) dX11_laysRounds_36 ?_
    refine a_if_eq (tgt := 62) dX11_laysRounds_39 (by decide) (fun c => ?_) (fun c => ?_)
    · replace h := h_iteT c h
      refine b_iinc (lv' := [(1, .int (v1 + (1 : Int32))), (0, .ref 0), (2, .int v2)]) dX11_laysRounds_62 rfl ic_1 (by decide) rfl ?_
      refine a_goto (tgt := 7) dX11_laysRounds_65 (by decide) ?_
      refine a_sub (lv' := [(0, .ref 0), (1, .int (v1 + (1 : Int32)))]) [1, 0] rfl ?_
      exact hk7 (v1 + (1 : Int32)) I J _ h
    · replace h := h_iteF c h
      refine a_aload_n dX11_laysRounds_42 rfl rfl ?_
      refine a_iload_n dX11_laysRounds_43 rfl rfl ?_
      obtain ⟨q2, cq2, h⟩ := h_bindS h
      refine a_callV1 [] yy_X11_isAllowed ml_11_449 km_0 rfl (sM_isAllowed _ (by omega) v2 I J q2 cq2) rfl rfl (Nat.le_of_ble_eq_true rfl) dX11_laysRounds_44 ?_
      refine a_if_eq (tgt := 56) dX11_laysRounds_47 (by decide) (fun c => ?_) (fun c => ?_)
      · replace h := h_iteT c h
        refine b_iinc (lv' := [(2, .int (v2 + (1 : Int32))), (0, .ref 0), (1, .int v1)]) dX11_laysRounds_56 rfl ic_1 (by decide) rfl ?_
        refine a_goto (tgt := 24) dX11_laysRounds_59 (by decide) ?_
        refine a_sub (lv' := [(0, .ref 0), (1, .int v1), (2, .int (v2 + (1 : Int32)))]) [1, 2, 0] rfl ?_
        exact hk24 v1 (v2 + (1 : Int32)) I J _ h
      · replace h := h_iteF c h
        refine a_aload_n dX11_laysRounds_50 rfl rfl ?_
        refine a_iload_n dX11_laysRounds_51 rfl rfl ?_
        refine a_iload_n dX11_laysRounds_52 rfl rfl ?_
        obtain ⟨q3, cq3, h⟩ := h_bindS h
        refine a_callV0 [] yy_X11_laysChoice ml_11_452 km_0 rfl (sM_laysChoice _ (by omega) v1 v2 I J q3 cq3) rfl rfl (Nat.le_of_ble_eq_true rfl) dX11_laysRounds_53 ?_
        refine b_iinc (lv' := [(2, .int (v2 + (1 : Int32))), (0, .ref 0), (1, .int v1)]) dX11_laysRounds_56 rfl ic_1 (by decide) rfl ?_
        refine a_goto (tgt := 24) dX11_laysRounds_59 (by decide) ?_
        refine a_sub (lv' := [(0, .ref 0), (1, .int v1), (2, .int (v2 + (1 : Int32)))]) [1, 2, 0] rfl ?_
        exact hk24 v1 (v2 + (1 : Int32)) q3 J _ h
def mM_laysRounds_L24 (k7 : Int32 → hI → Option (hI)) : Nat → Int32 → Int32 → hI → Option (hI)
  | 0 => fun _ _ _ => none
  | n + 1 => mM_laysRounds_B24 k7 (mM_laysRounds_L24 k7 n)
theorem sM_laysRounds_L24 (d : Nat) (hd : 33 + 1 ≤ d) (k7 : Int32 → hI → Option (hI)) (hk7 : ∀ (v1 : Int32) (I : hI) (J : hJ) (q : hI), k7 v1 I = some q → AW hFT cX11_laysRounds 3 none RX11 kdM d [(0, .ref 0), (1, .int v1)] 7 [] (I, J, RMm) none (q, J, RMm)) : ∀ (n : Nat) (v1 : Int32) (v2 : Int32) (I : hI) (J : hJ) (q : hI) (h : mM_laysRounds_L24 k7 n v1 v2 I = some q), AW hFT cX11_laysRounds 3 none RX11 kdM d [(0, .ref 0), (1, .int v1), (2, .int v2)] 24 [] (I, J, RMm) none (q, J, RMm)
  | 0, _, _, _, _, q, h => by cases h
  | n + 1, v1, v2, I, J, q, h => sM_laysRounds_B24 d hd k7 hk7 (mM_laysRounds_L24 k7 n) (sM_laysRounds_L24 d hd k7 hk7 n) v1 v2 I J q h
def mM_laysRounds_B7 (k7 : Int32 → hI → Option (hI)) (v1 : Int32) (I : hI) : Option (hI) :=
  if (I 0 41) ≤ v1 then
    some I
  else
    (h_g (h_in v1 10) <|
    h_let (h_u I 25 v1.toNatClampNeg (0 : Int32)) fun I2 =>
    mM_laysRounds_L24 k7 hF v1 (0 : Int32) I2)
set_option maxHeartbeats 4000000 in
theorem sM_laysRounds_B7 (d : Nat) (hd : 33 + 1 ≤ d) (k7 : Int32 → hI → Option (hI)) (hk7 : ∀ (v1 : Int32) (I : hI) (J : hJ) (q : hI), k7 v1 I = some q → AW hFT cX11_laysRounds 3 none RX11 kdM d [(0, .ref 0), (1, .int v1)] 7 [] (I, J, RMm) none (q, J, RMm)) (v1 : Int32) (I : hI) (J : hJ) (q : hI) (h : mM_laysRounds_B7 k7 v1 I = some q) : AW hFT cX11_laysRounds 3 none RX11 kdM d [(0, .ref 0), (1, .int v1)] 7 [] (I, J, RMm) none (q, J, RMm) := by
  obtain ⟨d0, rfl, hd0⟩ := h_mono hd
  unfold mM_laysRounds_B7 at h
  refine a_iload_n dX11_laysRounds_7 rfl rfl ?_
  refine a_aload_n dX11_laysRounds_8 rfl rfl ?_
  refine b_getI hK_11 km_0 (i := 41) rfl fl_11_367 rfl dX11_laysRounds_9 ?_
  refine a_icmp_ge (tgt := 68) dX11_laysRounds_12 (by decide) (fun c => ?_) (fun c => ?_)
  · replace h := h_iteT c h
    cases h
    exact a_vret dX11_laysRounds_68
  · replace h := h_iteF c h
    refine a_aload_n dX11_laysRounds_15 rfl rfl ?_
    refine b_getR hK_11 km_0 (i := 62) rfl fl_11_83 rfl rmm_62 dX11_laysRounds_16 ?_
    refine a_iload_n dX11_laysRounds_19 rfl rfl ?_
    refine a_iconst dX11_laysRounds_20 ic_0 ?_
    obtain ⟨g1, h⟩ := h_gS h
    refine b_iastore km_25 (h_inV g1) dX11_laysRounds_21 ?_
    obtain ⟨I2, eI2, h⟩ := h_letS h
    refine a_memI eI2 ?_
    refine a_iconst dX11_laysRounds_22 ic_0 ?_
    refine a_istore_n (lv' := [(2, .int (0 : Int32)), (0, .ref 0), (1, .int v1)]) dX11_laysRounds_23 rfl (by decide) rfl ?_
    refine a_sub (lv' := [(0, .ref 0), (1, .int v1), (2, .int (0 : Int32))]) [1, 2, 0] rfl ?_
    exact sM_laysRounds_L24 (d0 + 1) (by omega) k7 hk7 hF v1 (0 : Int32) I2 J _ h
def mM_laysRounds_L7  : Nat → Int32 → hI → Option (hI)
  | 0 => fun _ _ => none
  | n + 1 => mM_laysRounds_B7 (mM_laysRounds_L7 n)
theorem sM_laysRounds_L7 (d : Nat) (hd : 33 + 1 ≤ d) : ∀ (n : Nat) (v1 : Int32) (I : hI) (J : hJ) (q : hI) (h : mM_laysRounds_L7 n v1 I = some q), AW hFT cX11_laysRounds 3 none RX11 kdM d [(0, .ref 0), (1, .int v1)] 7 [] (I, J, RMm) none (q, J, RMm)
  | 0, _, _, _, q, h => by cases h
  | n + 1, v1, I, J, q, h => sM_laysRounds_B7 d hd (mM_laysRounds_L7 n) (sM_laysRounds_L7 d hd n) v1 I J q h
def mM_laysRounds   (I : hI) : Option (hI) :=
  h_let (h_u I 0 67 (0 : Int32)) fun I1 =>
  mM_laysRounds_L7 hF (0 : Int32) I1
set_option maxHeartbeats 4000000 in
theorem sM_laysRounds (d : Nat) (hd : 33 + 1 ≤ d)  (I : hI) (J : hJ) (q : hI) (h : mM_laysRounds I = some q) : HMet hFT yX11_laysRounds cX11_laysRounds 3 none kdM d [.ref 0] (I, J, RMm) none (q, J, RMm) := by
  obtain ⟨d0, rfl, hd0⟩ := h_mono hd
  refine HMet.of (by decide) (Nat.le_of_ble_eq_true rfl) ?_
  show AW hFT cX11_laysRounds 3 none RX11 kdM (d0 + 1) [(0, .ref 0)] 0 [] (I, J, RMm) none (q, J, RMm)
  unfold mM_laysRounds at h
  refine a_aload_n dX11_laysRounds_0 rfl rfl ?_
  refine a_iconst dX11_laysRounds_1 ic_0 ?_
  refine b_putI hK_11 km_0 (i := 67) rfl fl_11_443 rfl rfl h_Z0 dX11_laysRounds_2 ?_
  obtain ⟨I1, eI1, h⟩ := h_letS h
  refine a_memI eI1 ?_
  refine a_iconst dX11_laysRounds_5 ic_0 ?_
  refine a_istore_n (lv' := [(1, .int (0 : Int32)), (0, .ref 0)]) dX11_laysRounds_6 rfl (by decide) rfl ?_
  refine a_sub (lv' := [(0, .ref 0), (1, .int (0 : Int32))]) [1, 0] rfl ?_
  exact sM_laysRounds_L7 (d0 + 1) (by omega) hF (0 : Int32) I1 J _ h
/-! CoinLoopsModel.loop()I -/
theorem dX11_loop_0 : decode cX11_loop 0 = .ok (.aload_n 0, 1) := by decide +kernel
theorem dX11_loop_1 : decode cX11_loop 1 = .ok (.iconst 0, 1) := by decide +kernel
theorem dX11_loop_2 : decode cX11_loop 2 = .ok (.putfield 156, 3) := by decide +kernel
theorem dX11_loop_5 : decode cX11_loop 5 = .ok (.aload_n 0, 1) := by decide +kernel
theorem dX11_loop_6 : decode cX11_loop 6 = .ok (.invokevirtual 342, 3) := by decide +kernel
theorem dX11_loop_9 : decode cX11_loop 9 = .ok (.iconst (-1), 1) := by decide +kernel
theorem dX11_loop_10 : decode cX11_loop 10 = .ok (.if_icmp .eq 5, 3) := by decide +kernel
theorem dX11_loop_13 : decode cX11_loop 13 = .ok (.iconst (-1), 1) := by decide +kernel
theorem dX11_loop_14 : decode cX11_loop 14 = .ok (.ireturn, 1) := by decide +kernel
theorem dX11_loop_15 : decode cX11_loop 15 = .ok (.aload_n 0, 1) := by decide +kernel
theorem dX11_loop_16 : decode cX11_loop 16 = .ok (.iconst 0, 1) := by decide +kernel
theorem dX11_loop_17 : decode cX11_loop 17 = .ok (.putfield 164, 3) := by decide +kernel
theorem dX11_loop_20 : decode cX11_loop 20 = .ok (.aload_n 0, 1) := by decide +kernel
theorem dX11_loop_21 : decode cX11_loop 21 = .ok (.iconst 1, 1) := by decide +kernel
theorem dX11_loop_22 : decode cX11_loop 22 = .ok (.putfield 351, 3) := by decide +kernel
theorem dX11_loop_25 : decode cX11_loop 25 = .ok (.aload_n 0, 1) := by decide +kernel
theorem dX11_loop_26 : decode cX11_loop 26 = .ok (.iconst 0, 1) := by decide +kernel
theorem dX11_loop_27 : decode cX11_loop 27 = .ok (.putfield 355, 3) := by decide +kernel
theorem dX11_loop_30 : decode cX11_loop 30 = .ok (.aload_n 0, 1) := by decide +kernel
theorem dX11_loop_31 : decode cX11_loop 31 = .ok (.iconst 0, 1) := by decide +kernel
theorem dX11_loop_32 : decode cX11_loop 32 = .ok (.putfield 358, 3) := by decide +kernel
theorem dX11_loop_35 : decode cX11_loop 35 = .ok (.aload_n 0, 1) := by decide +kernel
theorem dX11_loop_36 : decode cX11_loop 36 = .ok (.aload_n 0, 1) := by decide +kernel
theorem dX11_loop_37 : decode cX11_loop 37 = .ok (.getfield 317, 3) := by decide +kernel
theorem dX11_loop_40 : decode cX11_loop 40 = .ok (.putfield 361, 3) := by decide +kernel
theorem dX11_loop_43 : decode cX11_loop 43 = .ok (.aload_n 0, 1) := by decide +kernel
theorem dX11_loop_44 : decode cX11_loop 44 = .ok (.aload_n 0, 1) := by decide +kernel
theorem dX11_loop_45 : decode cX11_loop 45 = .ok (.getfield 320, 3) := by decide +kernel
theorem dX11_loop_48 : decode cX11_loop 48 = .ok (.putfield 364, 3) := by decide +kernel
theorem dX11_loop_51 : decode cX11_loop 51 = .ok (.aload_n 0, 1) := by decide +kernel
theorem dX11_loop_52 : decode cX11_loop 52 = .ok (.aload_n 0, 1) := by decide +kernel
theorem dX11_loop_53 : decode cX11_loop 53 = .ok (.getfield 361, 3) := by decide +kernel
theorem dX11_loop_56 : decode cX11_loop 56 = .ok (.aload_n 0, 1) := by decide +kernel
theorem dX11_loop_57 : decode cX11_loop 57 = .ok (.getfield 364, 3) := by decide +kernel
theorem dX11_loop_60 : decode cX11_loop 60 = .ok (.imul, 1) := by decide +kernel
theorem dX11_loop_61 : decode cX11_loop 61 = .ok (.putfield 367, 3) := by decide +kernel
theorem dX11_loop_64 : decode cX11_loop 64 = .ok (.aload_n 0, 1) := by decide +kernel
theorem dX11_loop_65 : decode cX11_loop 65 = .ok (.aload_n 0, 1) := by decide +kernel
theorem dX11_loop_66 : decode cX11_loop 66 = .ok (.getfield 293, 3) := by decide +kernel
theorem dX11_loop_69 : decode cX11_loop 69 = .ok (.putfield 370, 3) := by decide +kernel
theorem dX11_loop_72 : decode cX11_loop 72 = .ok (.aload_n 0, 1) := by decide +kernel
theorem dX11_loop_73 : decode cX11_loop 73 = .ok (.aload_n 0, 1) := by decide +kernel
theorem dX11_loop_74 : decode cX11_loop 74 = .ok (.getfield 296, 3) := by decide +kernel
theorem dX11_loop_77 : decode cX11_loop 77 = .ok (.putfield 373, 3) := by decide +kernel
theorem dX11_loop_80 : decode cX11_loop 80 = .ok (.aload_n 0, 1) := by decide +kernel
theorem dX11_loop_81 : decode cX11_loop 81 = .ok (.sipush 500, 3) := by decide +kernel
theorem dX11_loop_84 : decode cX11_loop 84 = .ok (.putfield 376, 3) := by decide +kernel
theorem dX11_loop_87 : decode cX11_loop 87 = .ok (.aload_n 0, 1) := by decide +kernel
theorem dX11_loop_88 : decode cX11_loop 88 = .ok (.sipush 500, 3) := by decide +kernel
theorem dX11_loop_91 : decode cX11_loop 91 = .ok (.aload_n 0, 1) := by decide +kernel
theorem dX11_loop_92 : decode cX11_loop 92 = .ok (.getfield 325, 3) := by decide +kernel
theorem dX11_loop_95 : decode cX11_loop 95 = .ok (.iadd, 1) := by decide +kernel
theorem dX11_loop_96 : decode cX11_loop 96 = .ok (.putfield 379, 3) := by decide +kernel
theorem dX11_loop_99 : decode cX11_loop 99 = .ok (.aload_n 0, 1) := by decide +kernel
theorem dX11_loop_100 : decode cX11_loop 100 = .ok (.aload_n 0, 1) := by decide +kernel
theorem dX11_loop_101 : decode cX11_loop 101 = .ok (.getfield 328, 3) := by decide +kernel
theorem dX11_loop_104 : decode cX11_loop 104 = .ok (.bipush 24, 2) := by decide +kernel
theorem dX11_loop_106 : decode cX11_loop 106 = .ok (.invokestatic 348, 3) := by decide +kernel
theorem dX11_loop_109 : decode cX11_loop 109 = .ok (.putfield 382, 3) := by decide +kernel
theorem dX11_loop_112 : decode cX11_loop 112 = .ok (.aload_n 0, 1) := by decide +kernel
theorem dX11_loop_113 : decode cX11_loop 113 = .ok (.iconst 0, 1) := by decide +kernel
theorem dX11_loop_114 : decode cX11_loop 114 = .ok (.invokevirtual 385, 3) := by decide +kernel
theorem dX11_loop_117 : decode cX11_loop 117 = .ok (.aload_n 0, 1) := by decide +kernel
theorem dX11_loop_118 : decode cX11_loop 118 = .ok (.invokevirtual 388, 3) := by decide +kernel
theorem dX11_loop_121 : decode cX11_loop 121 = .ok (.iconst 0, 1) := by decide +kernel
theorem dX11_loop_122 : decode cX11_loop 122 = .ok (.istore_n 1, 1) := by decide +kernel
theorem dX11_loop_123 : decode cX11_loop 123 = .ok (.iload_n 1, 1) := by decide +kernel
theorem dX11_loop_124 : decode cX11_loop 124 = .ok (.iconst 3, 1) := by decide +kernel
theorem dX11_loop_125 : decode cX11_loop 125 = .ok (.if_icmp .ge 16, 3) := by decide +kernel
theorem dX11_loop_128 : decode cX11_loop 128 = .ok (.aload_n 0, 1) := by decide +kernel
theorem dX11_loop_129 : decode cX11_loop 129 = .ok (.getfield 80, 3) := by decide +kernel
theorem dX11_loop_132 : decode cX11_loop 132 = .ok (.iload_n 1, 1) := by decide +kernel
theorem dX11_loop_133 : decode cX11_loop 133 = .ok (.iconst (-1), 1) := by decide +kernel
theorem dX11_loop_134 : decode cX11_loop 134 = .ok (.iastore, 1) := by decide +kernel
theorem dX11_loop_135 : decode cX11_loop 135 = .ok (.iinc 1 1, 3) := by decide +kernel
theorem dX11_loop_138 : decode cX11_loop 138 = .ok (.goto (-15), 3) := by decide +kernel
theorem dX11_loop_141 : decode cX11_loop 141 = .ok (.aload_n 0, 1) := by decide +kernel
theorem dX11_loop_142 : decode cX11_loop 142 = .ok (.invokevirtual 391, 3) := by decide +kernel
theorem dX11_loop_145 : decode cX11_loop 145 = .ok (.aload_n 0, 1) := by decide +kernel
theorem dX11_loop_146 : decode cX11_loop 146 = .ok (.getfield 367, 3) := by decide +kernel
theorem dX11_loop_149 : decode cX11_loop 149 = .ok (.ireturn, 1) := by decide +kernel
def mM_loop_B123 (k123 : Int32 → hI → Option (Int32 × hI)) (v1 : Int32) (I : hI) : Option (Int32 × hI) :=
  if (3 : Int32) ≤ v1 then
    ((mM_laysRounds I).bind fun q1 =>
    some ((q1 0 41), q1))
  else
    (h_g (h_in v1 3) <|
    h_let (h_u I 24 v1.toNatClampNeg (-1 : Int32)) fun I2 =>
    k123 (v1 + (1 : Int32)) I2)
set_option maxHeartbeats 4000000 in
theorem sM_loop_B123 (d : Nat) (hd : 152 + 1 ≤ d) (k123 : Int32 → hI → Option (Int32 × hI)) (hk123 : ∀ (v1 : Int32) (I : hI) (J : hJ) (q : Int32 × hI), k123 v1 I = some q → AW hFT cX11_loop 2 (some .int) RX11 kdM d [(0, .ref 0), (1, .int v1)] 123 [] (I, J, RMm) (some (.int q.1)) (q.2, J, RMm)) (v1 : Int32) (I : hI) (J : hJ) (q : Int32 × hI) (h : mM_loop_B123 k123 v1 I = some q) : AW hFT cX11_loop 2 (some .int) RX11 kdM d [(0, .ref 0), (1, .int v1)] 123 [] (I, J, RMm) (some (.int q.1)) (q.2, J, RMm) := by
  obtain ⟨d0, rfl, hd0⟩ := h_mono hd
  unfold mM_loop_B123 at h
  refine a_iload_n dX11_loop_123 rfl rfl ?_
  refine a_iconst dX11_loop_124 ic_3 ?_
  refine a_icmp_ge (tgt := 141) dX11_loop_125 (by decide) (fun c => ?_) (fun c => ?_)
  · replace h := h_iteT c h
    refine a_aload_n dX11_loop_141 rfl rfl ?_
    obtain ⟨q1, cq1, h⟩ := h_bindS h
    refine a_callV0 [] yy_X11_laysRounds ml_11_391 km_0 rfl (sM_laysRounds _ (by omega)  I J q1 cq1) rfl rfl (Nat.le_of_ble_eq_true rfl) dX11_loop_142 ?_
    refine a_aload_n dX11_loop_145 rfl rfl ?_
    refine b_getI hK_11 km_0 (i := 41) rfl fl_11_367 rfl dX11_loop_146 ?_
    cases h
    exact a_iret dX11_loop_149
  · replace h := h_iteF c h
    refine a_aload_n dX11_loop_128 rfl rfl ?_
    refine b_getR hK_11 km_0 (i := 52) rfl fl_11_80 rfl rmm_52 dX11_loop_129 ?_
    refine a_iload_n dX11_loop_132 rfl rfl ?_
    refine a_iconst dX11_loop_133 ic_m1 ?_
    obtain ⟨g1, h⟩ := h_gS h
    refine b_iastore km_24 (h_inV g1) dX11_loop_134 ?_
    obtain ⟨I2, eI2, h⟩ := h_letS h
    refine a_memI eI2 ?_
    refine b_iinc (lv' := [(1, .int (v1 + (1 : Int32))), (0, .ref 0)]) dX11_loop_135 rfl ic_1 (by decide) rfl ?_
    refine a_goto (tgt := 123) dX11_loop_138 (by decide) ?_
    refine a_sub (lv' := [(0, .ref 0), (1, .int (v1 + (1 : Int32)))]) [1, 0] rfl ?_
    exact hk123 (v1 + (1 : Int32)) I2 J _ h
def mM_loop_L123  : Nat → Int32 → hI → Option (Int32 × hI)
  | 0 => fun _ _ => none
  | n + 1 => mM_loop_B123 (mM_loop_L123 n)
theorem sM_loop_L123 (d : Nat) (hd : 152 + 1 ≤ d) : ∀ (n : Nat) (v1 : Int32) (I : hI) (J : hJ) (q : Int32 × hI) (h : mM_loop_L123 n v1 I = some q), AW hFT cX11_loop 2 (some .int) RX11 kdM d [(0, .ref 0), (1, .int v1)] 123 [] (I, J, RMm) (some (.int q.1)) (q.2, J, RMm)
  | 0, _, _, _, q, h => by cases h
  | n + 1, v1, I, J, q, h => sM_loop_B123 d hd (mM_loop_L123 n) (sM_loop_L123 d hd n) v1 I J q h
def mM_loop   (I : hI) : Option (Int32 × hI) :=
  h_let (h_u I 0 0 (0 : Int32)) fun I1 =>
  (mM_readLoop I1).bind fun q2 =>
  if q2.1 = (-1 : Int32) then
    (h_let (h_u q2.2 0 2 (0 : Int32)) fun I3 =>
    h_let (h_u I3 0 37 (1 : Int32)) fun I4 =>
    h_let (h_u I4 0 38 (0 : Int32)) fun I5 =>
    h_let (h_u I5 0 47 (0 : Int32)) fun I6 =>
    h_let (h_u I6 0 39 (I6 0 26)) fun I7 =>
    h_let (h_u I7 0 40 (I7 0 27)) fun I8 =>
    h_let (h_u I8 0 41 ((I8 0 39) * (I8 0 40))) fun I9 =>
    h_let (h_u I9 0 42 (I9 0 24)) fun I10 =>
    h_let (h_u I10 0 43 (I10 0 25)) fun I11 =>
    h_let (h_u I11 0 44 (500 : Int32)) fun I12 =>
    h_let (h_u I12 0 45 ((500 : Int32) + (I12 0 28))) fun I13 =>
    h_let (h_u I13 0 46 (mM_on (I13 0 29) (24 : Int32))) fun I14 =>
    (mM_keepsSums (0 : Int32) I14).bind fun q15 =>
    (mM_keepsStatements q15).bind fun q16 =>
    mM_loop_L123 hF (0 : Int32) q16)
  else
    some ((-1 : Int32), q2.2)
set_option maxHeartbeats 4000000 in
theorem sM_loop (d : Nat) (hd : 152 + 1 ≤ d)  (I : hI) (J : hJ) (q : Int32 × hI) (h : mM_loop I = some q) : HMet hFT yX11_loop cX11_loop 2 (some .int) kdM d [.ref 0] (I, J, RMm) (some (.int q.1)) (q.2, J, RMm) := by
  obtain ⟨d0, rfl, hd0⟩ := h_mono hd
  refine HMet.of (by decide) (Nat.le_of_ble_eq_true rfl) ?_
  show AW hFT cX11_loop 2 (some .int) RX11 kdM (d0 + 1) [(0, .ref 0)] 0 [] (I, J, RMm) (some (.int q.1)) (q.2, J, RMm)
  unfold mM_loop at h
  refine a_aload_n dX11_loop_0 rfl rfl ?_
  refine a_iconst dX11_loop_1 ic_0 ?_
  refine b_putI hK_11 km_0 (i := 0) rfl fl_11_156 rfl rfl (h_NI _) dX11_loop_2 ?_
  obtain ⟨I1, eI1, h⟩ := h_letS h
  refine a_memI eI1 ?_
  refine a_aload_n dX11_loop_5 rfl rfl ?_
  obtain ⟨q2, cq2, h⟩ := h_bindS h
  refine a_callV1 [] yy_X11_readLoop ml_11_342 km_0 rfl (sM_readLoop _ (by omega)  I1 J q2 cq2) rfl rfl (Nat.le_of_ble_eq_true rfl) dX11_loop_6 ?_
  refine a_iconst dX11_loop_9 ic_m1 ?_
  refine a_icmp_eq (tgt := 15) dX11_loop_10 (by decide) (fun c => ?_) (fun c => ?_)
  · replace h := h_iteT c h
    refine a_aload_n dX11_loop_15 rfl rfl ?_
    refine a_iconst dX11_loop_16 ic_0 ?_
    refine b_putI hK_11 km_0 (i := 2) rfl fl_11_164 rfl rfl (h_NI _) dX11_loop_17 ?_
    obtain ⟨I3, eI3, h⟩ := h_letS h
    refine a_memI eI3 ?_
    refine a_aload_n dX11_loop_20 rfl rfl ?_
    refine a_iconst dX11_loop_21 ic_1 ?_
    refine b_putI hK_11 km_0 (i := 37) rfl fl_11_351 rfl rfl h_Z1 dX11_loop_22 ?_
    obtain ⟨I4, eI4, h⟩ := h_letS h
    refine a_memI eI4 ?_
    refine a_aload_n dX11_loop_25 rfl rfl ?_
    refine a_iconst dX11_loop_26 ic_0 ?_
    refine b_putI hK_11 km_0 (i := 38) rfl fl_11_355 rfl rfl h_Z0 dX11_loop_27 ?_
    obtain ⟨I5, eI5, h⟩ := h_letS h
    refine a_memI eI5 ?_
    refine a_aload_n dX11_loop_30 rfl rfl ?_
    refine a_iconst dX11_loop_31 ic_0 ?_
    refine b_putI hK_11 km_0 (i := 47) rfl fl_11_358 rfl rfl (h_NI _) dX11_loop_32 ?_
    obtain ⟨I6, eI6, h⟩ := h_letS h
    refine a_memI eI6 ?_
    refine a_aload_n dX11_loop_35 rfl rfl ?_
    refine a_aload_n dX11_loop_36 rfl rfl ?_
    refine b_getI hK_11 km_0 (i := 26) rfl fl_11_317 rfl dX11_loop_37 ?_
    refine b_putI hK_11 km_0 (i := 39) rfl fl_11_361 rfl rfl (h_NI _) dX11_loop_40 ?_
    obtain ⟨I7, eI7, h⟩ := h_letS h
    refine a_memI eI7 ?_
    refine a_aload_n dX11_loop_43 rfl rfl ?_
    refine a_aload_n dX11_loop_44 rfl rfl ?_
    refine b_getI hK_11 km_0 (i := 27) rfl fl_11_320 rfl dX11_loop_45 ?_
    refine b_putI hK_11 km_0 (i := 40) rfl fl_11_364 rfl rfl (h_NI _) dX11_loop_48 ?_
    obtain ⟨I8, eI8, h⟩ := h_letS h
    refine a_memI eI8 ?_
    refine a_aload_n dX11_loop_51 rfl rfl ?_
    refine a_aload_n dX11_loop_52 rfl rfl ?_
    refine b_getI hK_11 km_0 (i := 39) rfl fl_11_361 rfl dX11_loop_53 ?_
    refine a_aload_n dX11_loop_56 rfl rfl ?_
    refine b_getI hK_11 km_0 (i := 40) rfl fl_11_364 rfl dX11_loop_57 ?_
    refine a_imul dX11_loop_60 ?_
    refine b_putI hK_11 km_0 (i := 41) rfl fl_11_367 rfl rfl (h_NI _) dX11_loop_61 ?_
    obtain ⟨I9, eI9, h⟩ := h_letS h
    refine a_memI eI9 ?_
    refine a_aload_n dX11_loop_64 rfl rfl ?_
    refine a_aload_n dX11_loop_65 rfl rfl ?_
    refine b_getI hK_11 km_0 (i := 24) rfl fl_11_293 rfl dX11_loop_66 ?_
    refine b_putI hK_11 km_0 (i := 42) rfl fl_11_370 rfl rfl (h_NI _) dX11_loop_69 ?_
    obtain ⟨I10, eI10, h⟩ := h_letS h
    refine a_memI eI10 ?_
    refine a_aload_n dX11_loop_72 rfl rfl ?_
    refine a_aload_n dX11_loop_73 rfl rfl ?_
    refine b_getI hK_11 km_0 (i := 25) rfl fl_11_296 rfl dX11_loop_74 ?_
    refine b_putI hK_11 km_0 (i := 43) rfl fl_11_373 rfl rfl (h_NI _) dX11_loop_77 ?_
    obtain ⟨I11, eI11, h⟩ := h_letS h
    refine a_memI eI11 ?_
    refine a_aload_n dX11_loop_80 rfl rfl ?_
    refine a_sipush dX11_loop_81 sq_500 ?_
    refine b_putI hK_11 km_0 (i := 44) rfl fl_11_376 rfl rfl (h_NI _) dX11_loop_84 ?_
    obtain ⟨I12, eI12, h⟩ := h_letS h
    refine a_memI eI12 ?_
    refine a_aload_n dX11_loop_87 rfl rfl ?_
    refine a_sipush dX11_loop_88 sq_500 ?_
    refine a_aload_n dX11_loop_91 rfl rfl ?_
    refine b_getI hK_11 km_0 (i := 28) rfl fl_11_325 rfl dX11_loop_92 ?_
    refine a_iadd dX11_loop_95 ?_
    refine b_putI hK_11 km_0 (i := 45) rfl fl_11_379 rfl rfl (h_NI _) dX11_loop_96 ?_
    obtain ⟨I13, eI13, h⟩ := h_letS h
    refine a_memI eI13 ?_
    refine a_aload_n dX11_loop_99 rfl rfl ?_
    refine a_aload_n dX11_loop_100 rfl rfl ?_
    refine b_getI hK_11 km_0 (i := 29) rfl fl_11_328 rfl dX11_loop_101 ?_
    refine a_bipush dX11_loop_104 bp_24 ?_
    refine a_callS1 [.ref 0] yy_X11_on ml_11_348 (sM_on _ (by omega) (I13 0 29) (24 : Int32) I13 J _ rfl) rfl rfl (Nat.le_of_ble_eq_true rfl) dX11_loop_106 ?_
    refine b_putI hK_11 km_0 (i := 46) rfl fl_11_382 rfl rfl (h_NI _) dX11_loop_109 ?_
    obtain ⟨I14, eI14, h⟩ := h_letS h
    refine a_memI eI14 ?_
    refine a_aload_n dX11_loop_112 rfl rfl ?_
    refine a_iconst dX11_loop_113 ic_0 ?_
    obtain ⟨q15, cq15, h⟩ := h_bindS h
    refine a_callV0 [] yy_X11_keepsSums ml_11_385 km_0 rfl (sM_keepsSums _ (by omega) (0 : Int32) I14 J q15 cq15) rfl rfl (Nat.le_of_ble_eq_true rfl) dX11_loop_114 ?_
    refine a_aload_n dX11_loop_117 rfl rfl ?_
    obtain ⟨q16, cq16, h⟩ := h_bindS h
    refine a_callV0 [] yy_X11_keepsStatements ml_11_388 km_0 rfl (sM_keepsStatements _ (by omega)  q15 J q16 cq16) rfl rfl (Nat.le_of_ble_eq_true rfl) dX11_loop_118 ?_
    refine a_iconst dX11_loop_121 ic_0 ?_
    refine a_istore_n (lv' := [(1, .int (0 : Int32)), (0, .ref 0)]) dX11_loop_122 rfl (by decide) rfl ?_
    refine a_sub (lv' := [(0, .ref 0), (1, .int (0 : Int32))]) [1, 0] rfl ?_
    exact sM_loop_L123 (d0 + 1) (by omega) hF (0 : Int32) q16 J _ h
  · replace h := h_iteF c h
    refine a_iconst dX11_loop_13 ic_m1 ?_
    cases h
    exact a_iret dX11_loop_14
/-! CoinLoopsModel.guess()I -/
theorem dX11_guess_0 : decode cX11_guess 0 = .ok (.aload_n 0, 1) := by decide +kernel
theorem dX11_guess_1 : decode cX11_guess 1 = .ok (.iconst 0, 1) := by decide +kernel
theorem dX11_guess_2 : decode cX11_guess 2 = .ok (.putfield 156, 3) := by decide +kernel
theorem dX11_guess_5 : decode cX11_guess 5 = .ok (.aload_n 0, 1) := by decide +kernel
theorem dX11_guess_6 : decode cX11_guess 6 = .ok (.invokevirtual 345, 3) := by decide +kernel
theorem dX11_guess_9 : decode cX11_guess 9 = .ok (.iconst (-1), 1) := by decide +kernel
theorem dX11_guess_10 : decode cX11_guess 10 = .ok (.if_icmp .eq 5, 3) := by decide +kernel
theorem dX11_guess_13 : decode cX11_guess 13 = .ok (.iconst (-1), 1) := by decide +kernel
theorem dX11_guess_14 : decode cX11_guess 14 = .ok (.ireturn, 1) := by decide +kernel
theorem dX11_guess_15 : decode cX11_guess 15 = .ok (.aload_n 0, 1) := by decide +kernel
theorem dX11_guess_16 : decode cX11_guess 16 = .ok (.iconst 0, 1) := by decide +kernel
theorem dX11_guess_17 : decode cX11_guess 17 = .ok (.putfield 164, 3) := by decide +kernel
theorem dX11_guess_20 : decode cX11_guess 20 = .ok (.aload_n 0, 1) := by decide +kernel
theorem dX11_guess_21 : decode cX11_guess 21 = .ok (.iconst 1, 1) := by decide +kernel
theorem dX11_guess_22 : decode cX11_guess 22 = .ok (.putfield 355, 3) := by decide +kernel
theorem dX11_guess_25 : decode cX11_guess 25 = .ok (.aload_n 0, 1) := by decide +kernel
theorem dX11_guess_26 : decode cX11_guess 26 = .ok (.aload_n 0, 1) := by decide +kernel
theorem dX11_guess_27 : decode cX11_guess 27 = .ok (.getfield 334, 3) := by decide +kernel
theorem dX11_guess_30 : decode cX11_guess 30 = .ok (.putfield 358, 3) := by decide +kernel
theorem dX11_guess_33 : decode cX11_guess 33 = .ok (.aload_n 0, 1) := by decide +kernel
theorem dX11_guess_34 : decode cX11_guess 34 = .ok (.sipush 250, 3) := by decide +kernel
theorem dX11_guess_37 : decode cX11_guess 37 = .ok (.invokevirtual 385, 3) := by decide +kernel
theorem dX11_guess_40 : decode cX11_guess 40 = .ok (.iconst 0, 1) := by decide +kernel
theorem dX11_guess_41 : decode cX11_guess 41 = .ok (.istore_n 1, 1) := by decide +kernel
theorem dX11_guess_42 : decode cX11_guess 42 = .ok (.iload_n 1, 1) := by decide +kernel
theorem dX11_guess_43 : decode cX11_guess 43 = .ok (.aload_n 0, 1) := by decide +kernel
theorem dX11_guess_44 : decode cX11_guess 44 = .ok (.getfield 358, 3) := by decide +kernel
theorem dX11_guess_47 : decode cX11_guess 47 = .ok (.if_icmp .ge 69, 3) := by decide +kernel
theorem dX11_guess_50 : decode cX11_guess 50 = .ok (.aload_n 0, 1) := by decide +kernel
theorem dX11_guess_51 : decode cX11_guess 51 = .ok (.getfield 68, 3) := by decide +kernel
theorem dX11_guess_54 : decode cX11_guess 54 = .ok (.iload_n 1, 1) := by decide +kernel
theorem dX11_guess_55 : decode cX11_guess 55 = .ok (.sipush 500, 3) := by decide +kernel
theorem dX11_guess_58 : decode cX11_guess 58 = .ok (.aload_n 0, 1) := by decide +kernel
theorem dX11_guess_59 : decode cX11_guess 59 = .ok (.getfield 56, 3) := by decide +kernel
theorem dX11_guess_62 : decode cX11_guess 62 = .ok (.iload_n 1, 1) := by decide +kernel
theorem dX11_guess_63 : decode cX11_guess 63 = .ok (.iaload, 1) := by decide +kernel
theorem dX11_guess_64 : decode cX11_guess 64 = .ok (.iadd, 1) := by decide +kernel
theorem dX11_guess_65 : decode cX11_guess 65 = .ok (.iastore, 1) := by decide +kernel
theorem dX11_guess_66 : decode cX11_guess 66 = .ok (.aload_n 0, 1) := by decide +kernel
theorem dX11_guess_67 : decode cX11_guess 67 = .ok (.getfield 71, 3) := by decide +kernel
theorem dX11_guess_70 : decode cX11_guess 70 = .ok (.iload_n 1, 1) := by decide +kernel
theorem dX11_guess_71 : decode cX11_guess 71 = .ok (.sipush 500, 3) := by decide +kernel
theorem dX11_guess_74 : decode cX11_guess 74 = .ok (.aload_n 0, 1) := by decide +kernel
theorem dX11_guess_75 : decode cX11_guess 75 = .ok (.getfield 59, 3) := by decide +kernel
theorem dX11_guess_78 : decode cX11_guess 78 = .ok (.iload_n 1, 1) := by decide +kernel
theorem dX11_guess_79 : decode cX11_guess 79 = .ok (.iaload, 1) := by decide +kernel
theorem dX11_guess_80 : decode cX11_guess 80 = .ok (.iadd, 1) := by decide +kernel
theorem dX11_guess_81 : decode cX11_guess 81 = .ok (.iastore, 1) := by decide +kernel
theorem dX11_guess_82 : decode cX11_guess 82 = .ok (.aload_n 0, 1) := by decide +kernel
theorem dX11_guess_83 : decode cX11_guess 83 = .ok (.getfield 74, 3) := by decide +kernel
theorem dX11_guess_86 : decode cX11_guess 86 = .ok (.iload_n 1, 1) := by decide +kernel
theorem dX11_guess_87 : decode cX11_guess 87 = .ok (.sipush 500, 3) := by decide +kernel
theorem dX11_guess_90 : decode cX11_guess 90 = .ok (.aload_n 0, 1) := by decide +kernel
theorem dX11_guess_91 : decode cX11_guess 91 = .ok (.getfield 62, 3) := by decide +kernel
theorem dX11_guess_94 : decode cX11_guess 94 = .ok (.iload_n 1, 1) := by decide +kernel
theorem dX11_guess_95 : decode cX11_guess 95 = .ok (.iaload, 1) := by decide +kernel
theorem dX11_guess_96 : decode cX11_guess 96 = .ok (.iadd, 1) := by decide +kernel
theorem dX11_guess_97 : decode cX11_guess 97 = .ok (.iastore, 1) := by decide +kernel
theorem dX11_guess_98 : decode cX11_guess 98 = .ok (.aload_n 0, 1) := by decide +kernel
theorem dX11_guess_99 : decode cX11_guess 99 = .ok (.getfield 77, 3) := by decide +kernel
theorem dX11_guess_102 : decode cX11_guess 102 = .ok (.iload_n 1, 1) := by decide +kernel
theorem dX11_guess_103 : decode cX11_guess 103 = .ok (.aload_n 0, 1) := by decide +kernel
theorem dX11_guess_104 : decode cX11_guess 104 = .ok (.getfield 65, 3) := by decide +kernel
theorem dX11_guess_107 : decode cX11_guess 107 = .ok (.iload_n 1, 1) := by decide +kernel
theorem dX11_guess_108 : decode cX11_guess 108 = .ok (.iaload, 1) := by decide +kernel
theorem dX11_guess_109 : decode cX11_guess 109 = .ok (.iastore, 1) := by decide +kernel
theorem dX11_guess_110 : decode cX11_guess 110 = .ok (.iinc 1 1, 3) := by decide +kernel
theorem dX11_guess_113 : decode cX11_guess 113 = .ok (.goto (-71), 3) := by decide +kernel
theorem dX11_guess_116 : decode cX11_guess 116 = .ok (.aload_n 0, 1) := by decide +kernel
theorem dX11_guess_117 : decode cX11_guess 117 = .ok (.getfield 358, 3) := by decide +kernel
theorem dX11_guess_120 : decode cX11_guess 120 = .ok (.ireturn, 1) := by decide +kernel
def mM_guess_B42 (k42 : Int32 → hI → Option (Int32 × hI)) (v1 : Int32) (I : hI) : Option (Int32 × hI) :=
  if (I 0 47) ≤ v1 then
    some ((I 0 47), I)
  else
    (h_g (h_in v1 8) <|
    h_g (h_in v1 8) <|
    h_let (h_u I 20 v1.toNatClampNeg ((500 : Int32) + (I 16 v1.toNatClampNeg))) fun I3 =>
    h_g (h_in v1 8) <|
    h_g (h_in v1 8) <|
    h_let (h_u I3 21 v1.toNatClampNeg ((500 : Int32) + (I3 17 v1.toNatClampNeg))) fun I6 =>
    h_g (h_in v1 8) <|
    h_g (h_in v1 8) <|
    h_let (h_u I6 22 v1.toNatClampNeg ((500 : Int32) + (I6 18 v1.toNatClampNeg))) fun I9 =>
    h_g (h_in v1 8) <|
    h_g (h_in v1 8) <|
    h_let (h_u I9 23 v1.toNatClampNeg (I9 19 v1.toNatClampNeg)) fun I12 =>
    k42 (v1 + (1 : Int32)) I12)
set_option maxHeartbeats 4000000 in
theorem sM_guess_B42 (d : Nat) (hd : 14 + 1 ≤ d) (k42 : Int32 → hI → Option (Int32 × hI)) (hk42 : ∀ (v1 : Int32) (I : hI) (J : hJ) (q : Int32 × hI), k42 v1 I = some q → AW hFT cX11_guess 2 (some .int) RX11 kdM d [(0, .ref 0), (1, .int v1)] 42 [] (I, J, RMm) (some (.int q.1)) (q.2, J, RMm)) (v1 : Int32) (I : hI) (J : hJ) (q : Int32 × hI) (h : mM_guess_B42 k42 v1 I = some q) : AW hFT cX11_guess 2 (some .int) RX11 kdM d [(0, .ref 0), (1, .int v1)] 42 [] (I, J, RMm) (some (.int q.1)) (q.2, J, RMm) := by
  obtain ⟨d0, rfl, hd0⟩ := h_mono hd
  unfold mM_guess_B42 at h
  refine a_iload_n dX11_guess_42 rfl rfl ?_
  refine a_aload_n dX11_guess_43 rfl rfl ?_
  refine b_getI hK_11 km_0 (i := 47) rfl fl_11_358 rfl dX11_guess_44 ?_
  refine a_icmp_ge (tgt := 116) dX11_guess_47 (by decide) (fun c => ?_) (fun c => ?_)
  · replace h := h_iteT c h
    refine a_aload_n dX11_guess_116 rfl rfl ?_
    refine b_getI hK_11 km_0 (i := 47) rfl fl_11_358 rfl dX11_guess_117 ?_
    cases h
    exact a_iret dX11_guess_120
  · replace h := h_iteF c h
    refine a_aload_n dX11_guess_50 rfl rfl ?_
    refine b_getR hK_11 km_0 (i := 48) rfl fl_11_68 rfl rmm_48 dX11_guess_51 ?_
    refine a_iload_n dX11_guess_54 rfl rfl ?_
    refine a_sipush dX11_guess_55 sq_500 ?_
    refine a_aload_n dX11_guess_58 rfl rfl ?_
    refine b_getR hK_11 km_0 (i := 32) rfl fl_11_56 rfl rmm_32 dX11_guess_59 ?_
    refine a_iload_n dX11_guess_62 rfl rfl ?_
    obtain ⟨g1, h⟩ := h_gS h
    refine b_iaload km_16 (h_inV g1) dX11_guess_63 ?_
    refine a_iadd dX11_guess_64 ?_
    obtain ⟨g2, h⟩ := h_gS h
    refine b_iastore km_20 (h_inV g2) dX11_guess_65 ?_
    obtain ⟨I3, eI3, h⟩ := h_letS h
    refine a_memI eI3 ?_
    refine a_aload_n dX11_guess_66 rfl rfl ?_
    refine b_getR hK_11 km_0 (i := 49) rfl fl_11_71 rfl rmm_49 dX11_guess_67 ?_
    refine a_iload_n dX11_guess_70 rfl rfl ?_
    refine a_sipush dX11_guess_71 sq_500 ?_
    refine a_aload_n dX11_guess_74 rfl rfl ?_
    refine b_getR hK_11 km_0 (i := 33) rfl fl_11_59 rfl rmm_33 dX11_guess_75 ?_
    refine a_iload_n dX11_guess_78 rfl rfl ?_
    obtain ⟨g4, h⟩ := h_gS h
    refine b_iaload km_17 (h_inV g4) dX11_guess_79 ?_
    refine a_iadd dX11_guess_80 ?_
    obtain ⟨g5, h⟩ := h_gS h
    refine b_iastore km_21 (h_inV g5) dX11_guess_81 ?_
    obtain ⟨I6, eI6, h⟩ := h_letS h
    refine a_memI eI6 ?_
    refine a_aload_n dX11_guess_82 rfl rfl ?_
    refine b_getR hK_11 km_0 (i := 50) rfl fl_11_74 rfl rmm_50 dX11_guess_83 ?_
    refine a_iload_n dX11_guess_86 rfl rfl ?_
    refine a_sipush dX11_guess_87 sq_500 ?_
    refine a_aload_n dX11_guess_90 rfl rfl ?_
    refine b_getR hK_11 km_0 (i := 34) rfl fl_11_62 rfl rmm_34 dX11_guess_91 ?_
    refine a_iload_n dX11_guess_94 rfl rfl ?_
    obtain ⟨g7, h⟩ := h_gS h
    refine b_iaload km_18 (h_inV g7) dX11_guess_95 ?_
    refine a_iadd dX11_guess_96 ?_
    obtain ⟨g8, h⟩ := h_gS h
    refine b_iastore km_22 (h_inV g8) dX11_guess_97 ?_
    obtain ⟨I9, eI9, h⟩ := h_letS h
    refine a_memI eI9 ?_
    refine a_aload_n dX11_guess_98 rfl rfl ?_
    refine b_getR hK_11 km_0 (i := 51) rfl fl_11_77 rfl rmm_51 dX11_guess_99 ?_
    refine a_iload_n dX11_guess_102 rfl rfl ?_
    refine a_aload_n dX11_guess_103 rfl rfl ?_
    refine b_getR hK_11 km_0 (i := 35) rfl fl_11_65 rfl rmm_35 dX11_guess_104 ?_
    refine a_iload_n dX11_guess_107 rfl rfl ?_
    obtain ⟨g10, h⟩ := h_gS h
    refine b_iaload km_19 (h_inV g10) dX11_guess_108 ?_
    obtain ⟨g11, h⟩ := h_gS h
    refine b_iastore km_23 (h_inV g11) dX11_guess_109 ?_
    obtain ⟨I12, eI12, h⟩ := h_letS h
    refine a_memI eI12 ?_
    refine b_iinc (lv' := [(1, .int (v1 + (1 : Int32))), (0, .ref 0)]) dX11_guess_110 rfl ic_1 (by decide) rfl ?_
    refine a_goto (tgt := 42) dX11_guess_113 (by decide) ?_
    refine a_sub (lv' := [(0, .ref 0), (1, .int (v1 + (1 : Int32)))]) [1, 0] rfl ?_
    exact hk42 (v1 + (1 : Int32)) I12 J _ h
def mM_guess_L42  : Nat → Int32 → hI → Option (Int32 × hI)
  | 0 => fun _ _ => none
  | n + 1 => mM_guess_B42 (mM_guess_L42 n)
theorem sM_guess_L42 (d : Nat) (hd : 14 + 1 ≤ d) : ∀ (n : Nat) (v1 : Int32) (I : hI) (J : hJ) (q : Int32 × hI) (h : mM_guess_L42 n v1 I = some q), AW hFT cX11_guess 2 (some .int) RX11 kdM d [(0, .ref 0), (1, .int v1)] 42 [] (I, J, RMm) (some (.int q.1)) (q.2, J, RMm)
  | 0, _, _, _, q, h => by cases h
  | n + 1, v1, I, J, q, h => sM_guess_B42 d hd (mM_guess_L42 n) (sM_guess_L42 d hd n) v1 I J q h
def mM_guess   (I : hI) : Option (Int32 × hI) :=
  h_let (h_u I 0 0 (0 : Int32)) fun I1 =>
  (mM_readGuess I1).bind fun q2 =>
  if q2.1 = (-1 : Int32) then
    (h_let (h_u q2.2 0 2 (0 : Int32)) fun I3 =>
    h_let (h_u I3 0 38 (1 : Int32)) fun I4 =>
    h_let (h_u I4 0 47 (I4 0 36)) fun I5 =>
    (mM_keepsSums (250 : Int32) I5).bind fun q6 =>
    mM_guess_L42 hF (0 : Int32) q6)
  else
    some ((-1 : Int32), q2.2)
set_option maxHeartbeats 4000000 in
theorem sM_guess (d : Nat) (hd : 14 + 1 ≤ d)  (I : hI) (J : hJ) (q : Int32 × hI) (h : mM_guess I = some q) : HMet hFT yX11_guess cX11_guess 2 (some .int) kdM d [.ref 0] (I, J, RMm) (some (.int q.1)) (q.2, J, RMm) := by
  obtain ⟨d0, rfl, hd0⟩ := h_mono hd
  refine HMet.of (by decide) (Nat.le_of_ble_eq_true rfl) ?_
  show AW hFT cX11_guess 2 (some .int) RX11 kdM (d0 + 1) [(0, .ref 0)] 0 [] (I, J, RMm) (some (.int q.1)) (q.2, J, RMm)
  unfold mM_guess at h
  refine a_aload_n dX11_guess_0 rfl rfl ?_
  refine a_iconst dX11_guess_1 ic_0 ?_
  refine b_putI hK_11 km_0 (i := 0) rfl fl_11_156 rfl rfl (h_NI _) dX11_guess_2 ?_
  obtain ⟨I1, eI1, h⟩ := h_letS h
  refine a_memI eI1 ?_
  refine a_aload_n dX11_guess_5 rfl rfl ?_
  obtain ⟨q2, cq2, h⟩ := h_bindS h
  refine a_callV1 [] yy_X11_readGuess ml_11_345 km_0 rfl (sM_readGuess _ (by omega)  I1 J q2 cq2) rfl rfl (Nat.le_of_ble_eq_true rfl) dX11_guess_6 ?_
  refine a_iconst dX11_guess_9 ic_m1 ?_
  refine a_icmp_eq (tgt := 15) dX11_guess_10 (by decide) (fun c => ?_) (fun c => ?_)
  · replace h := h_iteT c h
    refine a_aload_n dX11_guess_15 rfl rfl ?_
    refine a_iconst dX11_guess_16 ic_0 ?_
    refine b_putI hK_11 km_0 (i := 2) rfl fl_11_164 rfl rfl (h_NI _) dX11_guess_17 ?_
    obtain ⟨I3, eI3, h⟩ := h_letS h
    refine a_memI eI3 ?_
    refine a_aload_n dX11_guess_20 rfl rfl ?_
    refine a_iconst dX11_guess_21 ic_1 ?_
    refine b_putI hK_11 km_0 (i := 38) rfl fl_11_355 rfl rfl h_Z1 dX11_guess_22 ?_
    obtain ⟨I4, eI4, h⟩ := h_letS h
    refine a_memI eI4 ?_
    refine a_aload_n dX11_guess_25 rfl rfl ?_
    refine a_aload_n dX11_guess_26 rfl rfl ?_
    refine b_getI hK_11 km_0 (i := 36) rfl fl_11_334 rfl dX11_guess_27 ?_
    refine b_putI hK_11 km_0 (i := 47) rfl fl_11_358 rfl rfl (h_NI _) dX11_guess_30 ?_
    obtain ⟨I5, eI5, h⟩ := h_letS h
    refine a_memI eI5 ?_
    refine a_aload_n dX11_guess_33 rfl rfl ?_
    refine a_sipush dX11_guess_34 sq_250 ?_
    obtain ⟨q6, cq6, h⟩ := h_bindS h
    refine a_callV0 [] yy_X11_keepsSums ml_11_385 km_0 rfl (sM_keepsSums _ (by omega) (250 : Int32) I5 J q6 cq6) rfl rfl (Nat.le_of_ble_eq_true rfl) dX11_guess_37 ?_
    refine a_iconst dX11_guess_40 ic_0 ?_
    refine a_istore_n (lv' := [(1, .int (0 : Int32)), (0, .ref 0)]) dX11_guess_41 rfl (by decide) rfl ?_
    refine a_sub (lv' := [(0, .ref 0), (1, .int (0 : Int32))]) [1, 0] rfl ?_
    exact sM_guess_L42 (d0 + 1) (by omega) hF (0 : Int32) q6 J _ h
  · replace h := h_iteF c h
    refine a_iconst dX11_guess_13 ic_m1 ?_
    cases h
    exact a_iret dX11_guess_14
/-! CoinLoopsModel.plans()I -/
theorem dX11_plans_0 : decode cX11_plans 0 = .ok (.iconst 1, 1) := by decide +kernel
theorem dX11_plans_1 : decode cX11_plans 1 = .ok (.istore_n 1, 1) := by decide +kernel
theorem dX11_plans_2 : decode cX11_plans 2 = .ok (.iconst 0, 1) := by decide +kernel
theorem dX11_plans_3 : decode cX11_plans 3 = .ok (.istore_n 2, 1) := by decide +kernel
theorem dX11_plans_4 : decode cX11_plans 4 = .ok (.iload_n 2, 1) := by decide +kernel
theorem dX11_plans_5 : decode cX11_plans 5 = .ok (.aload_n 0, 1) := by decide +kernel
theorem dX11_plans_6 : decode cX11_plans 6 = .ok (.getfield 367, 3) := by decide +kernel
theorem dX11_plans_9 : decode cX11_plans 9 = .ok (.if_icmp .ge 37, 3) := by decide +kernel
theorem dX11_plans_12 : decode cX11_plans 12 = .ok (.aload_n 0, 1) := by decide +kernel
theorem dX11_plans_13 : decode cX11_plans 13 = .ok (.getfield 83, 3) := by decide +kernel
theorem dX11_plans_16 : decode cX11_plans 16 = .ok (.iload_n 2, 1) := by decide +kernel
theorem dX11_plans_17 : decode cX11_plans 17 = .ok (.iaload, 1) := by decide +kernel
theorem dX11_plans_18 : decode cX11_plans 18 = .ok (.ifCond .ne 7, 3) := by decide +kernel
theorem dX11_plans_21 : decode cX11_plans 21 = .ok (.iload_n 1, 1) := by decide +kernel
theorem dX11_plans_22 : decode cX11_plans 22 = .ok (.goto 17, 3) := by decide +kernel
theorem dX11_plans_25 : decode cX11_plans 25 = .ok (.ldc_w 455, 3) := by decide +kernel
theorem dX11_plans_28 : decode cX11_plans 28 = .ok (.iload_n 1, 1) := by decide +kernel
theorem dX11_plans_29 : decode cX11_plans 29 = .ok (.aload_n 0, 1) := by decide +kernel
theorem dX11_plans_30 : decode cX11_plans 30 = .ok (.getfield 83, 3) := by decide +kernel
theorem dX11_plans_33 : decode cX11_plans 33 = .ok (.iload_n 2, 1) := by decide +kernel
theorem dX11_plans_34 : decode cX11_plans 34 = .ok (.iaload, 1) := by decide +kernel
theorem dX11_plans_35 : decode cX11_plans 35 = .ok (.imul, 1) := by decide +kernel
theorem dX11_plans_36 : decode cX11_plans 36 = .ok (.invokestatic 194, 3) := by decide +kernel
theorem dX11_plans_39 : decode cX11_plans 39 = .ok (.istore_n 1, 1) := by decide +kernel
theorem dX11_plans_40 : decode cX11_plans 40 = .ok (.iinc 2 1, 3) := by decide +kernel
theorem dX11_plans_43 : decode cX11_plans 43 = .ok (.goto (-39), 3) := by decide +kernel
theorem dX11_plans_46 : decode cX11_plans 46 = .ok (.iload_n 1, 1) := by decide +kernel
theorem dX11_plans_47 : decode cX11_plans 47 = .ok (.ireturn, 1) := by decide +kernel
def mM_plans_B4 (k4 : Int32 → Int32 → hI → Option (Int32)) (v1 : Int32) (v2 : Int32) (I : hI) : Option (Int32) :=
  if (I 0 41) ≤ v2 then
    some v1
  else
    (h_g (h_in v2 10) <|
    if (I 25 v2.toNatClampNeg) = 0 then
      k4 v1 (v2 + (1 : Int32)) I
    else
      (h_g (h_in v2 10) <|
      h_let (if (v1 * (I 25 v2.toNatClampNeg)) < (1000000 : Int32) then (v1 * (I 25 v2.toNatClampNeg)) else (1000000 : Int32)) fun v1x2 =>
      k4 v1x2 (v2 + (1 : Int32)) I))
set_option maxHeartbeats 4000000 in
theorem sM_plans_B4 (d : Nat) (hd : 0 + 1 ≤ d) (k4 : Int32 → Int32 → hI → Option (Int32)) (hk4 : ∀ (v1 : Int32) (v2 : Int32) (I : hI) (J : hJ) (q : Int32), k4 v1 v2 I = some q → AW hFT cX11_plans 3 (some .int) RX11 kdM d [(0, .ref 0), (1, .int v1), (2, .int v2)] 4 [] (I, J, RMm) (some (.int q)) (I, J, RMm)) (v1 : Int32) (v2 : Int32) (I : hI) (J : hJ) (q : Int32) (h : mM_plans_B4 k4 v1 v2 I = some q) : AW hFT cX11_plans 3 (some .int) RX11 kdM d [(0, .ref 0), (1, .int v1), (2, .int v2)] 4 [] (I, J, RMm) (some (.int q)) (I, J, RMm) := by
  obtain ⟨d0, rfl, hd0⟩ := h_mono hd
  unfold mM_plans_B4 at h
  refine a_iload_n dX11_plans_4 rfl rfl ?_
  refine a_aload_n dX11_plans_5 rfl rfl ?_
  refine b_getI hK_11 km_0 (i := 41) rfl fl_11_367 rfl dX11_plans_6 ?_
  refine a_icmp_ge (tgt := 46) dX11_plans_9 (by decide) (fun c => ?_) (fun c => ?_)
  · replace h := h_iteT c h
    refine a_iload_n dX11_plans_46 rfl rfl ?_
    cases h
    exact a_iret dX11_plans_47
  · replace h := h_iteF c h
    refine a_aload_n dX11_plans_12 rfl rfl ?_
    refine b_getR hK_11 km_0 (i := 62) rfl fl_11_83 rfl rmm_62 dX11_plans_13 ?_
    refine a_iload_n dX11_plans_16 rfl rfl ?_
    obtain ⟨g1, h⟩ := h_gS h
    refine b_iaload km_25 (h_inV g1) dX11_plans_17 ?_
    refine a_if_ne (tgt := 25) dX11_plans_18 (by decide) (fun c => ?_) (fun c => ?_)
    · replace h := h_iteF c h
      refine a_ldc_w cn_11_455 dX11_plans_25 ?_
      refine a_iload_n dX11_plans_28 rfl rfl ?_
      refine a_aload_n dX11_plans_29 rfl rfl ?_
      refine b_getR hK_11 km_0 (i := 62) rfl fl_11_83 rfl rmm_62 dX11_plans_30 ?_
      refine a_iload_n dX11_plans_33 rfl rfl ?_
      obtain ⟨g2, h⟩ := h_gS h
      refine b_iaload km_25 (h_inV g2) dX11_plans_34 ?_
      refine a_imul dX11_plans_35 ?_
      refine a_mmin w_mmin ml_11_194 (Nat.le_of_ble_eq_true rfl) dX11_plans_36 ?_
      obtain ⟨v1x2, ev1x2, h⟩ := h_letS h
      refine a_topI ev1x2 ?_
      refine a_istore_n (lv' := [(1, .int v1x2), (0, .ref 0), (2, .int v2)]) dX11_plans_39 rfl (by decide) rfl ?_
      refine b_iinc (lv' := [(2, .int (v2 + (1 : Int32))), (1, .int v1x2), (0, .ref 0)]) dX11_plans_40 rfl ic_1 (by decide) rfl ?_
      refine a_goto (tgt := 4) dX11_plans_43 (by decide) ?_
      refine a_sub (lv' := [(0, .ref 0), (1, .int v1x2), (2, .int (v2 + (1 : Int32)))]) [2, 1, 0] rfl ?_
      exact hk4 v1x2 (v2 + (1 : Int32)) I J _ h
    · replace h := h_iteT c h
      refine a_iload_n dX11_plans_21 rfl rfl ?_
      refine a_goto (tgt := 39) dX11_plans_22 (by decide) ?_
      refine a_istore_n (lv' := [(1, .int v1), (0, .ref 0), (2, .int v2)]) dX11_plans_39 rfl (by decide) rfl ?_
      refine b_iinc (lv' := [(2, .int (v2 + (1 : Int32))), (1, .int v1), (0, .ref 0)]) dX11_plans_40 rfl ic_1 (by decide) rfl ?_
      refine a_goto (tgt := 4) dX11_plans_43 (by decide) ?_
      refine a_sub (lv' := [(0, .ref 0), (1, .int v1), (2, .int (v2 + (1 : Int32)))]) [2, 1, 0] rfl ?_
      exact hk4 v1 (v2 + (1 : Int32)) I J _ h
def mM_plans_L4  : Nat → Int32 → Int32 → hI → Option (Int32)
  | 0 => fun _ _ _ => none
  | n + 1 => mM_plans_B4 (mM_plans_L4 n)
theorem sM_plans_L4 (d : Nat) (hd : 0 + 1 ≤ d) : ∀ (n : Nat) (v1 : Int32) (v2 : Int32) (I : hI) (J : hJ) (q : Int32) (h : mM_plans_L4 n v1 v2 I = some q), AW hFT cX11_plans 3 (some .int) RX11 kdM d [(0, .ref 0), (1, .int v1), (2, .int v2)] 4 [] (I, J, RMm) (some (.int q)) (I, J, RMm)
  | 0, _, _, _, _, q, h => by cases h
  | n + 1, v1, v2, I, J, q, h => sM_plans_B4 d hd (mM_plans_L4 n) (sM_plans_L4 d hd n) v1 v2 I J q h
def mM_plans   (I : hI) : Option (Int32) :=
  mM_plans_L4 hF (1 : Int32) (0 : Int32) I
set_option maxHeartbeats 4000000 in
theorem sM_plans (d : Nat) (hd : 0 + 1 ≤ d)  (I : hI) (J : hJ) (q : Int32) (h : mM_plans I = some q) : HMet hFT yX11_plans cX11_plans 3 (some .int) kdM d [.ref 0] (I, J, RMm) (some (.int q)) (I, J, RMm) := by
  obtain ⟨d0, rfl, hd0⟩ := h_mono hd
  refine HMet.of (by decide) (Nat.le_of_ble_eq_true rfl) ?_
  show AW hFT cX11_plans 3 (some .int) RX11 kdM (d0 + 1) [(0, .ref 0)] 0 [] (I, J, RMm) (some (.int q)) (I, J, RMm)
  unfold mM_plans at h
  refine a_iconst dX11_plans_0 ic_1 ?_
  refine a_istore_n (lv' := [(1, .int (1 : Int32)), (0, .ref 0)]) dX11_plans_1 rfl (by decide) rfl ?_
  refine a_iconst dX11_plans_2 ic_0 ?_
  refine a_istore_n (lv' := [(2, .int (0 : Int32)), (1, .int (1 : Int32)), (0, .ref 0)]) dX11_plans_3 rfl (by decide) rfl ?_
  refine a_sub (lv' := [(0, .ref 0), (1, .int (1 : Int32)), (2, .int (0 : Int32))]) [2, 1, 0] rfl ?_
  exact sM_plans_L4 (d0 + 1) (by omega) hF (1 : Int32) (0 : Int32) I J _ h
/-! CoinLoopsModel.areTooMany()Z -/
theorem dX11_areTooMany_0 : decode cX11_areTooMany 0 = .ok (.aload_n 0, 1) := by decide +kernel
theorem dX11_areTooMany_1 : decode cX11_areTooMany 1 = .ok (.invokevirtual 456, 3) := by decide +kernel
theorem dX11_areTooMany_4 : decode cX11_areTooMany 4 = .ok (.bipush 64, 2) := by decide +kernel
theorem dX11_areTooMany_6 : decode cX11_areTooMany 6 = .ok (.if_icmp .le 7, 3) := by decide +kernel
theorem dX11_areTooMany_9 : decode cX11_areTooMany 9 = .ok (.iconst 1, 1) := by decide +kernel
theorem dX11_areTooMany_10 : decode cX11_areTooMany 10 = .ok (.goto 4, 3) := by decide +kernel
theorem dX11_areTooMany_13 : decode cX11_areTooMany 13 = .ok (.iconst 0, 1) := by decide +kernel
theorem dX11_areTooMany_14 : decode cX11_areTooMany 14 = .ok (.ireturn, 1) := by decide +kernel
def mM_areTooMany   (I : hI) : Option (Int32) :=
  (mM_plans I).bind fun q1 =>
  if q1 ≤ (64 : Int32) then
    some (0 : Int32)
  else
    some (1 : Int32)
set_option maxHeartbeats 4000000 in
theorem sM_areTooMany (d : Nat) (hd : 1 + 1 ≤ d)  (I : hI) (J : hJ) (q : Int32) (h : mM_areTooMany I = some q) : HMet hFT yX11_areTooMany cX11_areTooMany 1 (some .boolean) kdM d [.ref 0] (I, J, RMm) (some (.int q)) (I, J, RMm) := by
  obtain ⟨d0, rfl, hd0⟩ := h_mono hd
  refine HMet.of (by decide) (Nat.le_of_ble_eq_true rfl) ?_
  show AW hFT cX11_areTooMany 1 (some .boolean) RX11 kdM (d0 + 1) [(0, .ref 0)] 0 [] (I, J, RMm) (some (.int q)) (I, J, RMm)
  unfold mM_areTooMany at h
  refine a_aload_n dX11_areTooMany_0 rfl rfl ?_
  obtain ⟨q1, cq1, h⟩ := h_bindS h
  refine a_callV1 [] yy_X11_plans ml_11_456 km_0 rfl (sM_plans _ (by omega)  I J q1 cq1) rfl rfl (Nat.le_of_ble_eq_true rfl) dX11_areTooMany_1 ?_
  refine a_bipush dX11_areTooMany_4 bp_64 ?_
  refine a_icmp_le (tgt := 13) dX11_areTooMany_6 (by decide) (fun c => ?_) (fun c => ?_)
  · replace h := h_iteT c h
    refine a_iconst dX11_areTooMany_13 ic_0 ?_
    cases h
    exact a_zret (h_Z0.1) dX11_areTooMany_14
  · replace h := h_iteF c h
    refine a_iconst dX11_areTooMany_9 ic_1 ?_
    refine a_goto (tgt := 14) dX11_areTooMany_10 (by decide) ?_
    cases h
    exact a_zret (h_Z1.1) dX11_areTooMany_14
/-! CoinLoopsModel.laysPlan(I)V -/
theorem dX11_laysPlan_0 : decode cX11_laysPlan 0 = .ok (.iload_n 1, 1) := by decide +kernel
theorem dX11_laysPlan_1 : decode cX11_laysPlan 1 = .ok (.istore_n 2, 1) := by decide +kernel
theorem dX11_laysPlan_2 : decode cX11_laysPlan 2 = .ok (.aload_n 0, 1) := by decide +kernel
theorem dX11_laysPlan_3 : decode cX11_laysPlan 3 = .ok (.getfield 367, 3) := by decide +kernel
theorem dX11_laysPlan_6 : decode cX11_laysPlan 6 = .ok (.iconst 1, 1) := by decide +kernel
theorem dX11_laysPlan_7 : decode cX11_laysPlan 7 = .ok (.isub, 1) := by decide +kernel
theorem dX11_laysPlan_8 : decode cX11_laysPlan 8 = .ok (.istore_n 3, 1) := by decide +kernel
theorem dX11_laysPlan_9 : decode cX11_laysPlan 9 = .ok (.iload_n 3, 1) := by decide +kernel
theorem dX11_laysPlan_10 : decode cX11_laysPlan 10 = .ok (.ifCond .lt 48, 3) := by decide +kernel
theorem dX11_laysPlan_13 : decode cX11_laysPlan 13 = .ok (.aload_n 0, 1) := by decide +kernel
theorem dX11_laysPlan_14 : decode cX11_laysPlan 14 = .ok (.getfield 98, 3) := by decide +kernel
theorem dX11_laysPlan_17 : decode cX11_laysPlan 17 = .ok (.iload_n 3, 1) := by decide +kernel
theorem dX11_laysPlan_18 : decode cX11_laysPlan 18 = .ok (.iconst 0, 1) := by decide +kernel
theorem dX11_laysPlan_19 : decode cX11_laysPlan 19 = .ok (.iastore, 1) := by decide +kernel
theorem dX11_laysPlan_20 : decode cX11_laysPlan 20 = .ok (.aload_n 0, 1) := by decide +kernel
theorem dX11_laysPlan_21 : decode cX11_laysPlan 21 = .ok (.getfield 83, 3) := by decide +kernel
theorem dX11_laysPlan_24 : decode cX11_laysPlan 24 = .ok (.iload_n 3, 1) := by decide +kernel
theorem dX11_laysPlan_25 : decode cX11_laysPlan 25 = .ok (.iaload, 1) := by decide +kernel
theorem dX11_laysPlan_26 : decode cX11_laysPlan 26 = .ok (.ifCond .le 26, 3) := by decide +kernel
theorem dX11_laysPlan_29 : decode cX11_laysPlan 29 = .ok (.aload_n 0, 1) := by decide +kernel
theorem dX11_laysPlan_30 : decode cX11_laysPlan 30 = .ok (.getfield 98, 3) := by decide +kernel
theorem dX11_laysPlan_33 : decode cX11_laysPlan 33 = .ok (.iload_n 3, 1) := by decide +kernel
theorem dX11_laysPlan_34 : decode cX11_laysPlan 34 = .ok (.iload_n 2, 1) := by decide +kernel
theorem dX11_laysPlan_35 : decode cX11_laysPlan 35 = .ok (.aload_n 0, 1) := by decide +kernel
theorem dX11_laysPlan_36 : decode cX11_laysPlan 36 = .ok (.getfield 83, 3) := by decide +kernel
theorem dX11_laysPlan_39 : decode cX11_laysPlan 39 = .ok (.iload_n 3, 1) := by decide +kernel
theorem dX11_laysPlan_40 : decode cX11_laysPlan 40 = .ok (.iaload, 1) := by decide +kernel
theorem dX11_laysPlan_41 : decode cX11_laysPlan 41 = .ok (.irem, 1) := by decide +kernel
theorem dX11_laysPlan_42 : decode cX11_laysPlan 42 = .ok (.iastore, 1) := by decide +kernel
theorem dX11_laysPlan_43 : decode cX11_laysPlan 43 = .ok (.iload_n 2, 1) := by decide +kernel
theorem dX11_laysPlan_44 : decode cX11_laysPlan 44 = .ok (.aload_n 0, 1) := by decide +kernel
theorem dX11_laysPlan_45 : decode cX11_laysPlan 45 = .ok (.getfield 83, 3) := by decide +kernel
theorem dX11_laysPlan_48 : decode cX11_laysPlan 48 = .ok (.iload_n 3, 1) := by decide +kernel
theorem dX11_laysPlan_49 : decode cX11_laysPlan 49 = .ok (.iaload, 1) := by decide +kernel
theorem dX11_laysPlan_50 : decode cX11_laysPlan 50 = .ok (.idiv, 1) := by decide +kernel
theorem dX11_laysPlan_51 : decode cX11_laysPlan 51 = .ok (.istore_n 2, 1) := by decide +kernel
theorem dX11_laysPlan_52 : decode cX11_laysPlan 52 = .ok (.iinc 3 (-1), 3) := by decide +kernel
theorem dX11_laysPlan_55 : decode cX11_laysPlan 55 = .ok (.goto (-46), 3) := by decide +kernel
theorem dX11_laysPlan_58 : decode cX11_laysPlan 58 = .ok (.return_, 1) := by decide +kernel
def mM_laysPlan_B9 (k9 : Int32 → Int32 → hI → Option (hI)) (v2 : Int32) (v3 : Int32) (I : hI) : Option (hI) :=
  if v3 < 0 then
    some I
  else
    (h_g (h_in v3 10) <|
    h_let (h_u I 30 v3.toNatClampNeg (0 : Int32)) fun I2 =>
    h_g (h_in v3 10) <|
    if (I2 25 v3.toNatClampNeg) ≤ 0 then
      k9 v2 (v3 + (-1 : Int32)) I2
    else
      (h_g (h_in v3 10) <|
      h_g (h_nz (I2 25 v3.toNatClampNeg)) <|
      h_g (h_in v3 10) <|
      h_let (h_u I2 30 v3.toNatClampNeg (v2 - v2 / (I2 25 v3.toNatClampNeg) * (I2 25 v3.toNatClampNeg))) fun I7 =>
      h_g (h_in v3 10) <|
      h_g (h_nz (I7 25 v3.toNatClampNeg)) <|
      h_let (v2 / (I7 25 v3.toNatClampNeg)) fun v2x9 =>
      k9 v2x9 (v3 + (-1 : Int32)) I7))
set_option maxHeartbeats 4000000 in
theorem sM_laysPlan_B9 (d : Nat) (hd : 0 ≤ d) (k9 : Int32 → Int32 → hI → Option (hI)) (hk9 : ∀ (v2 : Int32) (v3 : Int32) (I : hI) (J : hJ) (q : hI), k9 v2 v3 I = some q → AW hFT cX11_laysPlan 4 none RX11 kdM d [(0, .ref 0), (2, .int v2), (3, .int v3)] 9 [] (I, J, RMm) none (q, J, RMm)) (v2 : Int32) (v3 : Int32) (I : hI) (J : hJ) (q : hI) (h : mM_laysPlan_B9 k9 v2 v3 I = some q) : AW hFT cX11_laysPlan 4 none RX11 kdM d [(0, .ref 0), (2, .int v2), (3, .int v3)] 9 [] (I, J, RMm) none (q, J, RMm) := by
  unfold mM_laysPlan_B9 at h
  refine a_iload_n dX11_laysPlan_9 rfl rfl ?_
  refine a_if_lt (tgt := 58) dX11_laysPlan_10 (by decide) (fun c => ?_) (fun c => ?_)
  · replace h := h_iteT c h
    cases h
    exact a_vret dX11_laysPlan_58
  · replace h := h_iteF c h
    refine a_aload_n dX11_laysPlan_13 rfl rfl ?_
    refine b_getR hK_11 km_0 (i := 68) rfl fl_11_98 rfl rmm_68 dX11_laysPlan_14 ?_
    refine a_iload_n dX11_laysPlan_17 rfl rfl ?_
    refine a_iconst dX11_laysPlan_18 ic_0 ?_
    obtain ⟨g1, h⟩ := h_gS h
    refine b_iastore km_30 (h_inV g1) dX11_laysPlan_19 ?_
    obtain ⟨I2, eI2, h⟩ := h_letS h
    refine a_memI eI2 ?_
    refine a_aload_n dX11_laysPlan_20 rfl rfl ?_
    refine b_getR hK_11 km_0 (i := 62) rfl fl_11_83 rfl rmm_62 dX11_laysPlan_21 ?_
    refine a_iload_n dX11_laysPlan_24 rfl rfl ?_
    obtain ⟨g3, h⟩ := h_gS h
    refine b_iaload km_25 (h_inV g3) dX11_laysPlan_25 ?_
    refine a_if_le (tgt := 52) dX11_laysPlan_26 (by decide) (fun c => ?_) (fun c => ?_)
    · replace h := h_iteT c h
      refine b_iinc (lv' := [(3, .int (v3 + (-1 : Int32))), (0, .ref 0), (2, .int v2)]) dX11_laysPlan_52 rfl ic_m1 (by decide) rfl ?_
      refine a_goto (tgt := 9) dX11_laysPlan_55 (by decide) ?_
      refine a_sub (lv' := [(0, .ref 0), (2, .int v2), (3, .int (v3 + (-1 : Int32)))]) [1, 2, 0] rfl ?_
      exact hk9 v2 (v3 + (-1 : Int32)) I2 J _ h
    · replace h := h_iteF c h
      refine a_aload_n dX11_laysPlan_29 rfl rfl ?_
      refine b_getR hK_11 km_0 (i := 68) rfl fl_11_98 rfl rmm_68 dX11_laysPlan_30 ?_
      refine a_iload_n dX11_laysPlan_33 rfl rfl ?_
      refine a_iload_n dX11_laysPlan_34 rfl rfl ?_
      refine a_aload_n dX11_laysPlan_35 rfl rfl ?_
      refine b_getR hK_11 km_0 (i := 62) rfl fl_11_83 rfl rmm_62 dX11_laysPlan_36 ?_
      refine a_iload_n dX11_laysPlan_39 rfl rfl ?_
      obtain ⟨g4, h⟩ := h_gS h
      refine b_iaload km_25 (h_inV g4) dX11_laysPlan_40 ?_
      obtain ⟨g5, h⟩ := h_gS h
      refine a_irem dX11_laysPlan_41 (h_nzV g5) ?_
      obtain ⟨g6, h⟩ := h_gS h
      refine b_iastore km_30 (h_inV g6) dX11_laysPlan_42 ?_
      obtain ⟨I7, eI7, h⟩ := h_letS h
      refine a_memI eI7 ?_
      refine a_iload_n dX11_laysPlan_43 rfl rfl ?_
      refine a_aload_n dX11_laysPlan_44 rfl rfl ?_
      refine b_getR hK_11 km_0 (i := 62) rfl fl_11_83 rfl rmm_62 dX11_laysPlan_45 ?_
      refine a_iload_n dX11_laysPlan_48 rfl rfl ?_
      obtain ⟨g8, h⟩ := h_gS h
      refine b_iaload km_25 (h_inV g8) dX11_laysPlan_49 ?_
      obtain ⟨g9, h⟩ := h_gS h
      refine a_idiv dX11_laysPlan_50 (h_nzV g9) ?_
      obtain ⟨v2x9, ev2x9, h⟩ := h_letS h
      refine a_topI ev2x9 ?_
      refine a_istore_n (lv' := [(2, .int v2x9), (0, .ref 0), (3, .int v3)]) dX11_laysPlan_51 rfl (by decide) rfl ?_
      refine b_iinc (lv' := [(3, .int (v3 + (-1 : Int32))), (2, .int v2x9), (0, .ref 0)]) dX11_laysPlan_52 rfl ic_m1 (by decide) rfl ?_
      refine a_goto (tgt := 9) dX11_laysPlan_55 (by decide) ?_
      refine a_sub (lv' := [(0, .ref 0), (2, .int v2x9), (3, .int (v3 + (-1 : Int32)))]) [2, 1, 0] rfl ?_
      exact hk9 v2x9 (v3 + (-1 : Int32)) I7 J _ h
def mM_laysPlan_L9  : Nat → Int32 → Int32 → hI → Option (hI)
  | 0 => fun _ _ _ => none
  | n + 1 => mM_laysPlan_B9 (mM_laysPlan_L9 n)
theorem sM_laysPlan_L9 (d : Nat) (hd : 0 ≤ d) : ∀ (n : Nat) (v2 : Int32) (v3 : Int32) (I : hI) (J : hJ) (q : hI) (h : mM_laysPlan_L9 n v2 v3 I = some q), AW hFT cX11_laysPlan 4 none RX11 kdM d [(0, .ref 0), (2, .int v2), (3, .int v3)] 9 [] (I, J, RMm) none (q, J, RMm)
  | 0, _, _, _, _, q, h => by cases h
  | n + 1, v2, v3, I, J, q, h => sM_laysPlan_B9 d hd (mM_laysPlan_L9 n) (sM_laysPlan_L9 d hd n) v2 v3 I J q h
def mM_laysPlan  (v1 : Int32) (I : hI) : Option (hI) :=
  h_let ((I 0 41) - (1 : Int32)) fun v3x0 =>
  mM_laysPlan_L9 hF v1 v3x0 I
set_option maxHeartbeats 4000000 in
theorem sM_laysPlan (d : Nat) (hd : 0 ≤ d) (v1 : Int32) (I : hI) (J : hJ) (q : hI) (h : mM_laysPlan v1 I = some q) : HMet hFT yX11_laysPlan cX11_laysPlan 4 none kdM d [.ref 0, .int v1] (I, J, RMm) none (q, J, RMm) := by
  refine HMet.of (by decide) (Nat.le_of_ble_eq_true rfl) ?_
  show AW hFT cX11_laysPlan 4 none RX11 kdM d [(0, .ref 0), (1, .int v1)] 0 [] (I, J, RMm) none (q, J, RMm)
  unfold mM_laysPlan at h
  refine a_iload_n dX11_laysPlan_0 rfl rfl ?_
  refine a_istore_n (lv' := [(2, .int v1), (0, .ref 0), (1, .int v1)]) dX11_laysPlan_1 rfl (by decide) rfl ?_
  refine a_aload_n dX11_laysPlan_2 rfl rfl ?_
  refine b_getI hK_11 km_0 (i := 41) rfl fl_11_367 rfl dX11_laysPlan_3 ?_
  refine a_iconst dX11_laysPlan_6 ic_1 ?_
  refine a_isub dX11_laysPlan_7 ?_
  obtain ⟨v3x0, ev3x0, h⟩ := h_letS h
  refine a_topI ev3x0 ?_
  refine a_istore_n (lv' := [(3, .int v3x0), (2, .int v1), (0, .ref 0), (1, .int v1)]) dX11_laysPlan_8 rfl (by decide) rfl ?_
  refine a_sub (lv' := [(0, .ref 0), (2, .int v1), (3, .int v3x0)]) [2, 1, 0] rfl ?_
  exact sM_laysPlan_L9 d (by omega) hF v1 v3x0 I J _ h
