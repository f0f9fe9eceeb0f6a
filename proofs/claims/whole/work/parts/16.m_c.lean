/-! CoinLoops$Walk.start(II)V -/
theorem dX9_start_0 : decode cX9_start 0 = .ok (.aload_n 0, 1) := by decide +kernel
theorem dX9_start_1 : decode cX9_start 1 = .ok (.iload_n 1, 1) := by decide +kernel
theorem dX9_start_2 : decode cX9_start 2 = .ok (.putfield 35, 3) := by decide +kernel
theorem dX9_start_5 : decode cX9_start 5 = .ok (.aload_n 0, 1) := by decide +kernel
theorem dX9_start_6 : decode cX9_start 6 = .ok (.iload_n 2, 1) := by decide +kernel
theorem dX9_start_7 : decode cX9_start 7 = .ok (.putfield 38, 3) := by decide +kernel
theorem dX9_start_10 : decode cX9_start 10 = .ok (.aload_n 0, 1) := by decide +kernel
theorem dX9_start_11 : decode cX9_start 11 = .ok (.iconst 0, 1) := by decide +kernel
theorem dX9_start_12 : decode cX9_start 12 = .ok (.putfield 41, 3) := by decide +kernel
theorem dX9_start_15 : decode cX9_start 15 = .ok (.aload_n 0, 1) := by decide +kernel
theorem dX9_start_16 : decode cX9_start 16 = .ok (.iconst 0, 1) := by decide +kernel
theorem dX9_start_17 : decode cX9_start 17 = .ok (.putfield 44, 3) := by decide +kernel
theorem dX9_start_20 : decode cX9_start 20 = .ok (.aload_n 0, 1) := by decide +kernel
theorem dX9_start_21 : decode cX9_start 21 = .ok (.iconst 0, 1) := by decide +kernel
theorem dX9_start_22 : decode cX9_start 22 = .ok (.putfield 23, 3) := by decide +kernel
theorem dX9_start_25 : decode cX9_start 25 = .ok (.return_, 1) := by decide +kernel
def mWk_start  (v1 : Int32) (v2 : Int32) (I : hI) : hI :=
  h_let (h_u I 6 0 v1) fun I1 =>
  h_let (h_u I1 6 1 v2) fun I2 =>
  h_let (h_u I2 6 2 (0 : Int32)) fun I3 =>
  h_let (h_u I3 6 3 (0 : Int32)) fun I4 =>
  h_let (h_u I4 6 4 (0 : Int32)) fun I5 =>
  I5
set_option maxHeartbeats 4000000 in
theorem sWk_start (d : Nat) (hd : 0 ≤ d) (v1 : Int32) (v2 : Int32) (I : hI) (J : hJ) (B : Bool × Bool) (q : hI) (h : mWk_start v1 v2 I = q) : HMet hFT yX9_start cX9_start 3 none kdC d [.ref 6, .int v1, .int v2] (I, J, RM B) none (q, J, RM B) := by
  refine HMet.of (by decide) (Nat.le_of_ble_eq_true rfl) ?_
  show AW hFT cX9_start 3 none RX9 kdC d [(0, .ref 6), (1, .int v1), (2, .int v2)] 0 [] (I, J, RM B) none (q, J, RM B)
  unfold mWk_start at h
  refine a_aload_n dX9_start_0 rfl rfl ?_
  refine a_iload_n dX9_start_1 rfl rfl ?_
  refine b_putI hK_9 kc_6 (i := 0) rfl fl_9_35 rfl rfl (h_NI _) dX9_start_2 ?_
  obtain ⟨I1, eI1, h⟩ := h_letS h
  refine a_memI eI1 ?_
  refine a_aload_n dX9_start_5 rfl rfl ?_
  refine a_iload_n dX9_start_6 rfl rfl ?_
  refine b_putI hK_9 kc_6 (i := 1) rfl fl_9_38 rfl rfl (h_NI _) dX9_start_7 ?_
  obtain ⟨I2, eI2, h⟩ := h_letS h
  refine a_memI eI2 ?_
  refine a_aload_n dX9_start_10 rfl rfl ?_
  refine a_iconst dX9_start_11 ic_0 ?_
  refine b_putI hK_9 kc_6 (i := 2) rfl fl_9_41 rfl rfl (h_NI _) dX9_start_12 ?_
  obtain ⟨I3, eI3, h⟩ := h_letS h
  refine a_memI eI3 ?_
  refine a_aload_n dX9_start_15 rfl rfl ?_
  refine a_iconst dX9_start_16 ic_0 ?_
  refine b_putI hK_9 kc_6 (i := 3) rfl fl_9_44 rfl rfl (h_NI _) dX9_start_17 ?_
  obtain ⟨I4, eI4, h⟩ := h_letS h
  refine a_memI eI4 ?_
  refine a_aload_n dX9_start_20 rfl rfl ?_
  refine a_iconst dX9_start_21 ic_0 ?_
  refine b_putI hK_9 kc_6 (i := 4) rfl fl_9_23 rfl rfl h_Z0 dX9_start_22 ?_
  obtain ⟨I5, eI5, h⟩ := h_letS h
  refine a_memI eI5 ?_
  cases h
  exact a_vret dX9_start_25
/-! CoinLoops$Walk.startQuarter(III)V -/
theorem dX9_startQuarter_0 : decode cX9_startQuarter 0 = .ok (.aload_n 0, 1) := by decide +kernel
theorem dX9_startQuarter_1 : decode cX9_startQuarter 1 = .ok (.iload_n 1, 1) := by decide +kernel
theorem dX9_startQuarter_2 : decode cX9_startQuarter 2 = .ok (.iload_n 2, 1) := by decide +kernel
theorem dX9_startQuarter_3 : decode cX9_startQuarter 3 = .ok (.invokevirtual 9, 3) := by decide +kernel
theorem dX9_startQuarter_6 : decode cX9_startQuarter 6 = .ok (.aload_n 0, 1) := by decide +kernel
theorem dX9_startQuarter_7 : decode cX9_startQuarter 7 = .ok (.iconst 0, 1) := by decide +kernel
theorem dX9_startQuarter_8 : decode cX9_startQuarter 8 = .ok (.putfield 15, 3) := by decide +kernel
theorem dX9_startQuarter_11 : decode cX9_startQuarter 11 = .ok (.aload_n 0, 1) := by decide +kernel
theorem dX9_startQuarter_12 : decode cX9_startQuarter 12 = .ok (.iload_n 3, 1) := by decide +kernel
theorem dX9_startQuarter_13 : decode cX9_startQuarter 13 = .ok (.putfield 19, 3) := by decide +kernel
theorem dX9_startQuarter_16 : decode cX9_startQuarter 16 = .ok (.return_, 1) := by decide +kernel
def mWk_startQuarter  (v1 : Int32) (v2 : Int32) (v3 : Int32) (I : hI) : hI :=
  h_let (mWk_start v1 v2 I) fun q1 =>
  h_let (h_u q1 6 5 (0 : Int32)) fun I2 =>
  h_let (h_u I2 6 6 v3) fun I3 =>
  I3
set_option maxHeartbeats 4000000 in
theorem sWk_startQuarter (d : Nat) (hd : 0 + 1 ≤ d) (v1 : Int32) (v2 : Int32) (v3 : Int32) (I : hI) (J : hJ) (B : Bool × Bool) (q : hI) (h : mWk_startQuarter v1 v2 v3 I = q) : HMet hFT yX9_startQuarter cX9_startQuarter 4 none kdC d [.ref 6, .int v1, .int v2, .int v3] (I, J, RM B) none (q, J, RM B) := by
  obtain ⟨d0, rfl, hd0⟩ := h_mono hd
  refine HMet.of (by decide) (Nat.le_of_ble_eq_true rfl) ?_
  show AW hFT cX9_startQuarter 4 none RX9 kdC (d0 + 1) [(0, .ref 6), (1, .int v1), (2, .int v2), (3, .int v3)] 0 [] (I, J, RM B) none (q, J, RM B)
  unfold mWk_startQuarter at h
  refine a_aload_n dX9_startQuarter_0 rfl rfl ?_
  refine a_iload_n dX9_startQuarter_1 rfl rfl ?_
  refine a_iload_n dX9_startQuarter_2 rfl rfl ?_
  obtain ⟨q1, cq1, h⟩ := h_letS h
  refine a_callV0 [] yy_X9_start ml_9_9 kc_6 rfl (sWk_start _ (by omega) v1 v2 I J B q1 cq1) rfl rfl (Nat.le_of_ble_eq_true rfl) dX9_startQuarter_3 ?_
  refine a_aload_n dX9_startQuarter_6 rfl rfl ?_
  refine a_iconst dX9_startQuarter_7 ic_0 ?_
  refine b_putI hK_9 kc_6 (i := 5) rfl fl_9_15 rfl rfl h_Z0 dX9_startQuarter_8 ?_
  obtain ⟨I2, eI2, h⟩ := h_letS h
  refine a_memI eI2 ?_
  refine a_aload_n dX9_startQuarter_11 rfl rfl ?_
  refine a_iload_n dX9_startQuarter_12 rfl rfl ?_
  refine b_putI hK_9 kc_6 (i := 6) rfl fl_9_19 rfl rfl (h_NI _) dX9_startQuarter_13 ?_
  obtain ⟨I3, eI3, h⟩ := h_letS h
  refine a_memI eI3 ?_
  cases h
  exact a_vret dX9_startQuarter_16
/-! CoinLoops$Walk.held(LCoinLoops$Step;I)I -/
theorem dX9_held_0 : decode cX9_held 0 = .ok (.iconst 0, 1) := by decide +kernel
theorem dX9_held_1 : decode cX9_held 1 = .ok (.iload_n 2, 1) := by decide +kernel
theorem dX9_held_2 : decode cX9_held 2 = .ok (.aload_n 1, 1) := by decide +kernel
theorem dX9_held_3 : decode cX9_held 3 = .ok (.getfield 96, 3) := by decide +kernel
theorem dX9_held_6 : decode cX9_held 6 = .ok (.aload_n 0, 1) := by decide +kernel
theorem dX9_held_7 : decode cX9_held 7 = .ok (.getfield 35, 3) := by decide +kernel
theorem dX9_held_10 : decode cX9_held 10 = .ok (.imul, 1) := by decide +kernel
theorem dX9_held_11 : decode cX9_held 11 = .ok (.aload_n 1, 1) := by decide +kernel
theorem dX9_held_12 : decode cX9_held 12 = .ok (.getfield 99, 3) := by decide +kernel
theorem dX9_held_15 : decode cX9_held 15 = .ok (.aload_n 0, 1) := by decide +kernel
theorem dX9_held_16 : decode cX9_held 16 = .ok (.getfield 38, 3) := by decide +kernel
theorem dX9_held_19 : decode cX9_held 19 = .ok (.imul, 1) := by decide +kernel
theorem dX9_held_20 : decode cX9_held 20 = .ok (.iadd, 1) := by decide +kernel
theorem dX9_held_21 : decode cX9_held 21 = .ok (.aload_n 1, 1) := by decide +kernel
theorem dX9_held_22 : decode cX9_held 22 = .ok (.getfield 102, 3) := by decide +kernel
theorem dX9_held_25 : decode cX9_held 25 = .ok (.iadd, 1) := by decide +kernel
theorem dX9_held_26 : decode cX9_held 26 = .ok (.invokestatic 105, 3) := by decide +kernel
theorem dX9_held_29 : decode cX9_held 29 = .ok (.invokestatic 111, 3) := by decide +kernel
theorem dX9_held_32 : decode cX9_held 32 = .ok (.ireturn, 1) := by decide +kernel
def mWk_held  (t1 : Nat) (v2 : Int32) (I : hI) : Int32 :=
  (if (0 : Int32) < (if ((((I t1 3) * (I 6 0)) + ((I t1 4) * (I 6 1))) + (I t1 5)) < v2 then ((((I t1 3) * (I 6 0)) + ((I t1 4) * (I 6 1))) + (I t1 5)) else v2) then (if ((((I t1 3) * (I 6 0)) + ((I t1 4) * (I 6 1))) + (I t1 5)) < v2 then ((((I t1 3) * (I 6 0)) + ((I t1 4) * (I 6 1))) + (I t1 5)) else v2) else (0 : Int32))
set_option maxHeartbeats 4000000 in
theorem sWk_held (d : Nat) (hd : 0 + 1 ≤ d) (t1 : Nat) (ht1 : h_ST t1) (v2 : Int32) (I : hI) (J : hJ) (B : Bool × Bool) (q : Int32) (h : mWk_held t1 v2 I = q) : HMet hFT yX9_held cX9_held 3 (some .int) kdC d [.ref 6, .ref t1, .int v2] (I, J, RM B) (some (.int q)) (I, J, RM B) := by
  obtain ⟨d0, rfl, hd0⟩ := h_mono hd
  refine HMet.of (by decide) (Nat.le_of_ble_eq_true rfl) ?_
  show AW hFT cX9_held 3 (some .int) RX9 kdC (d0 + 1) [(0, .ref 6), (1, .ref t1), (2, .int v2)] 0 [] (I, J, RM B) (some (.int q)) (I, J, RM B)
  unfold mWk_held at h
  refine a_iconst dX9_held_0 ic_0 ?_
  refine a_iload_n dX9_held_1 rfl rfl ?_
  refine a_aload_n dX9_held_2 rfl rfl ?_
  refine b_getI hK_8 ht1 (i := 3) rfl fl_9_96 rfl dX9_held_3 ?_
  refine a_aload_n dX9_held_6 rfl rfl ?_
  refine b_getI hK_9 kc_6 (i := 0) rfl fl_9_35 rfl dX9_held_7 ?_
  refine a_imul dX9_held_10 ?_
  refine a_aload_n dX9_held_11 rfl rfl ?_
  refine b_getI hK_8 ht1 (i := 4) rfl fl_9_99 rfl dX9_held_12 ?_
  refine a_aload_n dX9_held_15 rfl rfl ?_
  refine b_getI hK_9 kc_6 (i := 1) rfl fl_9_38 rfl dX9_held_16 ?_
  refine a_imul dX9_held_19 ?_
  refine a_iadd dX9_held_20 ?_
  refine a_aload_n dX9_held_21 rfl rfl ?_
  refine b_getI hK_8 ht1 (i := 5) rfl fl_9_102 rfl dX9_held_22 ?_
  refine a_iadd dX9_held_25 ?_
  refine a_mmin w_mmin ml_9_105 (Nat.le_of_ble_eq_true rfl) dX9_held_26 ?_
  refine a_mmax w_mmax ml_9_111 (Nat.le_of_ble_eq_true rfl) dX9_held_29 ?_
  cases h
  exact a_iret dX9_held_32
/-! CoinLoops$Walk.throwsHeads()Z -/
theorem dX9_throwsHeads_0 : decode cX9_throwsHeads 0 = .ok (.aload_n 0, 1) := by decide +kernel
theorem dX9_throwsHeads_1 : decode cX9_throwsHeads 1 = .ok (.getfield 44, 3) := by decide +kernel
theorem dX9_throwsHeads_4 : decode cX9_throwsHeads 4 = .ok (.istore_n 1, 1) := by decide +kernel
theorem dX9_throwsHeads_5 : decode cX9_throwsHeads 5 = .ok (.aload_n 0, 1) := by decide +kernel
theorem dX9_throwsHeads_6 : decode cX9_throwsHeads 6 = .ok (.dup, 1) := by decide +kernel
theorem dX9_throwsHeads_7 : decode cX9_throwsHeads 7 = .ok (.getfield 44, 3) := by decide +kernel
theorem dX9_throwsHeads_10 : decode cX9_throwsHeads 10 = .ok (.iconst 1, 1) := by decide +kernel
theorem dX9_throwsHeads_11 : decode cX9_throwsHeads 11 = .ok (.iadd, 1) := by decide +kernel
theorem dX9_throwsHeads_12 : decode cX9_throwsHeads 12 = .ok (.putfield 44, 3) := by decide +kernel
theorem dX9_throwsHeads_15 : decode cX9_throwsHeads 15 = .ok (.aload_n 0, 1) := by decide +kernel
theorem dX9_throwsHeads_16 : decode cX9_throwsHeads 16 = .ok (.getfield 15, 3) := by decide +kernel
theorem dX9_throwsHeads_19 : decode cX9_throwsHeads 19 = .ok (.ifCond .ne 20, 3) := by decide +kernel
theorem dX9_throwsHeads_22 : decode cX9_throwsHeads 22 = .ok (.aload_n 0, 1) := by decide +kernel
theorem dX9_throwsHeads_23 : decode cX9_throwsHeads 23 = .ok (.getfield 19, 3) := by decide +kernel
theorem dX9_throwsHeads_26 : decode cX9_throwsHeads 26 = .ok (.iload_n 1, 1) := by decide +kernel
theorem dX9_throwsHeads_27 : decode cX9_throwsHeads 27 = .ok (.ishr, 1) := by decide +kernel
theorem dX9_throwsHeads_28 : decode cX9_throwsHeads 28 = .ok (.iconst 1, 1) := by decide +kernel
theorem dX9_throwsHeads_29 : decode cX9_throwsHeads 29 = .ok (.iand, 1) := by decide +kernel
theorem dX9_throwsHeads_30 : decode cX9_throwsHeads 30 = .ok (.ifCond .ne 7, 3) := by decide +kernel
theorem dX9_throwsHeads_33 : decode cX9_throwsHeads 33 = .ok (.iconst 1, 1) := by decide +kernel
theorem dX9_throwsHeads_34 : decode cX9_throwsHeads 34 = .ok (.goto 4, 3) := by decide +kernel
theorem dX9_throwsHeads_37 : decode cX9_throwsHeads 37 = .ok (.iconst 0, 1) := by decide +kernel
theorem dX9_throwsHeads_38 : decode cX9_throwsHeads 38 = .ok (.ireturn, 1) := by decide +kernel
theorem dX9_throwsHeads_39 : decode cX9_throwsHeads 39 = .ok (.aload_n 0, 1) := by decide +kernel
theorem dX9_throwsHeads_40 : decode cX9_throwsHeads 40 = .ok (.aload_n 0, 1) := by decide +kernel
theorem dX9_throwsHeads_41 : decode cX9_throwsHeads 41 = .ok (.getfield 19, 3) := by decide +kernel
theorem dX9_throwsHeads_44 : decode cX9_throwsHeads 44 = .ok (.ldc 114, 2) := by decide +kernel
theorem dX9_throwsHeads_46 : decode cX9_throwsHeads 46 = .ok (.imul, 1) := by decide +kernel
theorem dX9_throwsHeads_47 : decode cX9_throwsHeads 47 = .ok (.sipush 12345, 3) := by decide +kernel
theorem dX9_throwsHeads_50 : decode cX9_throwsHeads 50 = .ok (.iadd, 1) := by decide +kernel
theorem dX9_throwsHeads_51 : decode cX9_throwsHeads 51 = .ok (.putfield 19, 3) := by decide +kernel
theorem dX9_throwsHeads_54 : decode cX9_throwsHeads 54 = .ok (.aload_n 0, 1) := by decide +kernel
theorem dX9_throwsHeads_55 : decode cX9_throwsHeads 55 = .ok (.getfield 19, 3) := by decide +kernel
theorem dX9_throwsHeads_58 : decode cX9_throwsHeads 58 = .ok (.bipush 16, 2) := by decide +kernel
theorem dX9_throwsHeads_60 : decode cX9_throwsHeads 60 = .ok (.ishr, 1) := by decide +kernel
theorem dX9_throwsHeads_61 : decode cX9_throwsHeads 61 = .ok (.iconst 1, 1) := by decide +kernel
theorem dX9_throwsHeads_62 : decode cX9_throwsHeads 62 = .ok (.iand, 1) := by decide +kernel
theorem dX9_throwsHeads_63 : decode cX9_throwsHeads 63 = .ok (.ifCond .ne 7, 3) := by decide +kernel
theorem dX9_throwsHeads_66 : decode cX9_throwsHeads 66 = .ok (.iconst 1, 1) := by decide +kernel
theorem dX9_throwsHeads_67 : decode cX9_throwsHeads 67 = .ok (.goto 4, 3) := by decide +kernel
theorem dX9_throwsHeads_70 : decode cX9_throwsHeads 70 = .ok (.iconst 0, 1) := by decide +kernel
theorem dX9_throwsHeads_71 : decode cX9_throwsHeads 71 = .ok (.ireturn, 1) := by decide +kernel
def mWk_throwsHeads   (I : hI) : Int32 × hI :=
  h_let (I 6 3) fun v1x0 =>
  h_let (h_u I 6 3 ((I 6 3) + (1 : Int32))) fun I2 =>
  if (I2 6 5) = 0 then
    (if (((I2 6 6) >>> (v1x0 &&& 31)) &&& (1 : Int32)) = 0 then
      ((1 : Int32), I2)
    else
      ((0 : Int32), I2))
  else
    (h_let (h_u I2 6 6 (((I2 6 6) * (1103515245 : Int32)) + (12345 : Int32))) fun I3 =>
    if (((I3 6 6) >>> ((16 : Int32) &&& 31)) &&& (1 : Int32)) = 0 then
      ((1 : Int32), I3)
    else
      ((0 : Int32), I3))
set_option maxHeartbeats 4000000 in
theorem sWk_throwsHeads (d : Nat) (hd : 0 ≤ d)  (I : hI) (J : hJ) (B : Bool × Bool) (q : Int32 × hI) (h : mWk_throwsHeads I = q) : HMet hFT yX9_throwsHeads cX9_throwsHeads 2 (some .boolean) kdC d [.ref 6] (I, J, RM B) (some (.int q.1)) (q.2, J, RM B) := by
  refine HMet.of (by decide) (Nat.le_of_ble_eq_true rfl) ?_
  show AW hFT cX9_throwsHeads 2 (some .boolean) RX9 kdC d [(0, .ref 6)] 0 [] (I, J, RM B) (some (.int q.1)) (q.2, J, RM B)
  unfold mWk_throwsHeads at h
  refine a_aload_n dX9_throwsHeads_0 rfl rfl ?_
  refine b_getI hK_9 kc_6 (i := 3) rfl fl_9_44 rfl dX9_throwsHeads_1 ?_
  obtain ⟨v1x0, ev1x0, h⟩ := h_letS h
  refine a_topI ev1x0 ?_
  refine a_istore_n (lv' := [(1, .int v1x0), (0, .ref 6)]) dX9_throwsHeads_4 rfl (by decide) rfl ?_
  refine a_aload_n dX9_throwsHeads_5 rfl rfl ?_
  refine a_dup dX9_throwsHeads_6 rfl ?_
  refine b_getI hK_9 kc_6 (i := 3) rfl fl_9_44 rfl dX9_throwsHeads_7 ?_
  refine a_iconst dX9_throwsHeads_10 ic_1 ?_
  refine a_iadd dX9_throwsHeads_11 ?_
  refine b_putI hK_9 kc_6 (i := 3) rfl fl_9_44 rfl rfl (h_NI _) dX9_throwsHeads_12 ?_
  obtain ⟨I2, eI2, h⟩ := h_letS h
  refine a_memI eI2 ?_
  refine a_aload_n dX9_throwsHeads_15 rfl rfl ?_
  refine b_getI hK_9 kc_6 (i := 5) rfl fl_9_15 rfl dX9_throwsHeads_16 ?_
  refine a_if_ne (tgt := 39) dX9_throwsHeads_19 (by decide) (fun c => ?_) (fun c => ?_)
  · replace h := h_iteF c h
    refine a_aload_n dX9_throwsHeads_39 rfl rfl ?_
    refine a_aload_n dX9_throwsHeads_40 rfl rfl ?_
    refine b_getI hK_9 kc_6 (i := 6) rfl fl_9_19 rfl dX9_throwsHeads_41 ?_
    refine a_ldc cn_9_114 dX9_throwsHeads_44 ?_
    refine a_imul dX9_throwsHeads_46 ?_
    refine a_sipush dX9_throwsHeads_47 sq_12345 ?_
    refine a_iadd dX9_throwsHeads_50 ?_
    refine b_putI hK_9 kc_6 (i := 6) rfl fl_9_19 rfl rfl (h_NI _) dX9_throwsHeads_51 ?_
    obtain ⟨I3, eI3, h⟩ := h_letS h
    refine a_memI eI3 ?_
    refine a_aload_n dX9_throwsHeads_54 rfl rfl ?_
    refine b_getI hK_9 kc_6 (i := 6) rfl fl_9_19 rfl dX9_throwsHeads_55 ?_
    refine a_bipush dX9_throwsHeads_58 bp_16 ?_
    refine a_ishr dX9_throwsHeads_60 ?_
    refine a_iconst dX9_throwsHeads_61 ic_1 ?_
    refine a_iand dX9_throwsHeads_62 ?_
    refine a_if_ne (tgt := 70) dX9_throwsHeads_63 (by decide) (fun c => ?_) (fun c => ?_)
    · replace h := h_iteF c h
      refine a_iconst dX9_throwsHeads_70 ic_0 ?_
      cases h
      exact a_zret (h_Z0.1) dX9_throwsHeads_71
    · replace h := h_iteT c h
      refine a_iconst dX9_throwsHeads_66 ic_1 ?_
      refine a_goto (tgt := 71) dX9_throwsHeads_67 (by decide) ?_
      cases h
      exact a_zret (h_Z1.1) dX9_throwsHeads_71
  · replace h := h_iteT c h
    refine a_aload_n dX9_throwsHeads_22 rfl rfl ?_
    refine b_getI hK_9 kc_6 (i := 6) rfl fl_9_19 rfl dX9_throwsHeads_23 ?_
    refine a_iload_n dX9_throwsHeads_26 rfl rfl ?_
    refine a_ishr dX9_throwsHeads_27 ?_
    refine a_iconst dX9_throwsHeads_28 ic_1 ?_
    refine a_iand dX9_throwsHeads_29 ?_
    refine a_if_ne (tgt := 37) dX9_throwsHeads_30 (by decide) (fun c => ?_) (fun c => ?_)
    · replace h := h_iteF c h
      refine a_iconst dX9_throwsHeads_37 ic_0 ?_
      cases h
      exact a_zret (h_Z0.1) dX9_throwsHeads_38
    · replace h := h_iteT c h
      refine a_iconst dX9_throwsHeads_33 ic_1 ?_
      refine a_goto (tgt := 38) dX9_throwsHeads_34 (by decide) ?_
      cases h
      exact a_zret (h_Z1.1) dX9_throwsHeads_38
/-! CoinLoops$Walk.goStep(LCoinLoops$LoopText;II)I -/
theorem dX9_goStep_0 : decode cX9_goStep 0 = .ok (.iload_n 2, 1) := by decide +kernel
theorem dX9_goStep_1 : decode cX9_goStep 1 = .ok (.ifCond .lt 9, 3) := by decide +kernel
theorem dX9_goStep_4 : decode cX9_goStep 4 = .ok (.iload_n 2, 1) := by decide +kernel
theorem dX9_goStep_5 : decode cX9_goStep 5 = .ok (.bipush 48, 2) := by decide +kernel
theorem dX9_goStep_7 : decode cX9_goStep 7 = .ok (.if_icmp .lt 6, 3) := by decide +kernel
theorem dX9_goStep_10 : decode cX9_goStep 10 = .ok (.bipush 48, 2) := by decide +kernel
theorem dX9_goStep_12 : decode cX9_goStep 12 = .ok (.ireturn, 1) := by decide +kernel
theorem dX9_goStep_13 : decode cX9_goStep 13 = .ok (.aload_n 1, 1) := by decide +kernel
theorem dX9_goStep_14 : decode cX9_goStep 14 = .ok (.getfield 47, 3) := by decide +kernel
theorem dX9_goStep_17 : decode cX9_goStep 17 = .ok (.iload_n 2, 1) := by decide +kernel
theorem dX9_goStep_18 : decode cX9_goStep 18 = .ok (.aaload, 1) := by decide +kernel
theorem dX9_goStep_19 : decode cX9_goStep 19 = .ok (.astore 4, 2) := by decide +kernel
theorem dX9_goStep_21 : decode cX9_goStep 21 = .ok (.aload 4, 2) := by decide +kernel
theorem dX9_goStep_23 : decode cX9_goStep 23 = .ok (.getfield 51, 3) := by decide +kernel
theorem dX9_goStep_26 : decode cX9_goStep 26 = .ok (.tableswitch 218 258 265 #[46, 64, 218, 82, 126, 145, 169, 209], 46) := by decide +kernel
theorem dX9_goStep_72 : decode cX9_goStep 72 = .ok (.aload_n 0, 1) := by decide +kernel
theorem dX9_goStep_73 : decode cX9_goStep 73 = .ok (.aload_n 0, 1) := by decide +kernel
theorem dX9_goStep_74 : decode cX9_goStep 74 = .ok (.aload 4, 2) := by decide +kernel
theorem dX9_goStep_76 : decode cX9_goStep 76 = .ok (.aload_n 1, 1) := by decide +kernel
theorem dX9_goStep_77 : decode cX9_goStep 77 = .ok (.getfield 56, 3) := by decide +kernel
theorem dX9_goStep_80 : decode cX9_goStep 80 = .ok (.invokevirtual 59, 3) := by decide +kernel
theorem dX9_goStep_83 : decode cX9_goStep 83 = .ok (.putfield 35, 3) := by decide +kernel
theorem dX9_goStep_86 : decode cX9_goStep 86 = .ok (.iload_n 2, 1) := by decide +kernel
theorem dX9_goStep_87 : decode cX9_goStep 87 = .ok (.iconst 1, 1) := by decide +kernel
theorem dX9_goStep_88 : decode cX9_goStep 88 = .ok (.iadd, 1) := by decide +kernel
theorem dX9_goStep_89 : decode cX9_goStep 89 = .ok (.ireturn, 1) := by decide +kernel
theorem dX9_goStep_90 : decode cX9_goStep 90 = .ok (.aload_n 0, 1) := by decide +kernel
theorem dX9_goStep_91 : decode cX9_goStep 91 = .ok (.aload_n 0, 1) := by decide +kernel
theorem dX9_goStep_92 : decode cX9_goStep 92 = .ok (.aload 4, 2) := by decide +kernel
theorem dX9_goStep_94 : decode cX9_goStep 94 = .ok (.aload_n 1, 1) := by decide +kernel
theorem dX9_goStep_95 : decode cX9_goStep 95 = .ok (.getfield 63, 3) := by decide +kernel
theorem dX9_goStep_98 : decode cX9_goStep 98 = .ok (.invokevirtual 59, 3) := by decide +kernel
theorem dX9_goStep_101 : decode cX9_goStep 101 = .ok (.putfield 38, 3) := by decide +kernel
theorem dX9_goStep_104 : decode cX9_goStep 104 = .ok (.iload_n 2, 1) := by decide +kernel
theorem dX9_goStep_105 : decode cX9_goStep 105 = .ok (.iconst 1, 1) := by decide +kernel
theorem dX9_goStep_106 : decode cX9_goStep 106 = .ok (.iadd, 1) := by decide +kernel
theorem dX9_goStep_107 : decode cX9_goStep 107 = .ok (.ireturn, 1) := by decide +kernel
theorem dX9_goStep_108 : decode cX9_goStep 108 = .ok (.aload 4, 2) := by decide +kernel
theorem dX9_goStep_110 : decode cX9_goStep 110 = .ok (.getfield 66, 3) := by decide +kernel
theorem dX9_goStep_113 : decode cX9_goStep 113 = .ok (.ifCond .lt 35, 3) := by decide +kernel
theorem dX9_goStep_116 : decode cX9_goStep 116 = .ok (.aload 4, 2) := by decide +kernel
theorem dX9_goStep_118 : decode cX9_goStep 118 = .ok (.getfield 66, 3) := by decide +kernel
theorem dX9_goStep_121 : decode cX9_goStep 121 = .ok (.aload_n 1, 1) := by decide +kernel
theorem dX9_goStep_122 : decode cX9_goStep 122 = .ok (.getfield 69, 3) := by decide +kernel
theorem dX9_goStep_125 : decode cX9_goStep 125 = .ok (.arraylength, 1) := by decide +kernel
theorem dX9_goStep_126 : decode cX9_goStep 126 = .ok (.if_icmp .ge 22, 3) := by decide +kernel
theorem dX9_goStep_129 : decode cX9_goStep 129 = .ok (.aload_n 0, 1) := by decide +kernel
theorem dX9_goStep_130 : decode cX9_goStep 130 = .ok (.dup, 1) := by decide +kernel
theorem dX9_goStep_131 : decode cX9_goStep 131 = .ok (.getfield 41, 3) := by decide +kernel
theorem dX9_goStep_134 : decode cX9_goStep 134 = .ok (.aload_n 1, 1) := by decide +kernel
theorem dX9_goStep_135 : decode cX9_goStep 135 = .ok (.getfield 69, 3) := by decide +kernel
theorem dX9_goStep_138 : decode cX9_goStep 138 = .ok (.aload 4, 2) := by decide +kernel
theorem dX9_goStep_140 : decode cX9_goStep 140 = .ok (.getfield 66, 3) := by decide +kernel
theorem dX9_goStep_143 : decode cX9_goStep 143 = .ok (.iaload, 1) := by decide +kernel
theorem dX9_goStep_144 : decode cX9_goStep 144 = .ok (.iadd, 1) := by decide +kernel
theorem dX9_goStep_145 : decode cX9_goStep 145 = .ok (.putfield 41, 3) := by decide +kernel
theorem dX9_goStep_148 : decode cX9_goStep 148 = .ok (.iload_n 2, 1) := by decide +kernel
theorem dX9_goStep_149 : decode cX9_goStep 149 = .ok (.iconst 1, 1) := by decide +kernel
theorem dX9_goStep_150 : decode cX9_goStep 150 = .ok (.iadd, 1) := by decide +kernel
theorem dX9_goStep_151 : decode cX9_goStep 151 = .ok (.ireturn, 1) := by decide +kernel
theorem dX9_goStep_152 : decode cX9_goStep 152 = .ok (.aload_n 0, 1) := by decide +kernel
theorem dX9_goStep_153 : decode cX9_goStep 153 = .ok (.invokevirtual 73, 3) := by decide +kernel
theorem dX9_goStep_156 : decode cX9_goStep 156 = .ok (.ifCond .eq 9, 3) := by decide +kernel
theorem dX9_goStep_159 : decode cX9_goStep 159 = .ok (.iload_n 2, 1) := by decide +kernel
theorem dX9_goStep_160 : decode cX9_goStep 160 = .ok (.iconst 1, 1) := by decide +kernel
theorem dX9_goStep_161 : decode cX9_goStep 161 = .ok (.iadd, 1) := by decide +kernel
theorem dX9_goStep_162 : decode cX9_goStep 162 = .ok (.goto 8, 3) := by decide +kernel
theorem dX9_goStep_165 : decode cX9_goStep 165 = .ok (.aload 4, 2) := by decide +kernel
theorem dX9_goStep_167 : decode cX9_goStep 167 = .ok (.getfield 77, 3) := by decide +kernel
theorem dX9_goStep_170 : decode cX9_goStep 170 = .ok (.ireturn, 1) := by decide +kernel
theorem dX9_goStep_171 : decode cX9_goStep 171 = .ok (.iload_n 3, 1) := by decide +kernel
theorem dX9_goStep_172 : decode cX9_goStep 172 = .ok (.aload 4, 2) := by decide +kernel
theorem dX9_goStep_174 : decode cX9_goStep 174 = .ok (.getfield 66, 3) := by decide +kernel
theorem dX9_goStep_177 : decode cX9_goStep 177 = .ok (.ishr, 1) := by decide +kernel
theorem dX9_goStep_178 : decode cX9_goStep 178 = .ok (.iconst 1, 1) := by decide +kernel
theorem dX9_goStep_179 : decode cX9_goStep 179 = .ok (.iand, 1) := by decide +kernel
theorem dX9_goStep_180 : decode cX9_goStep 180 = .ok (.ifCond .ne 9, 3) := by decide +kernel
theorem dX9_goStep_183 : decode cX9_goStep 183 = .ok (.iload_n 2, 1) := by decide +kernel
theorem dX9_goStep_184 : decode cX9_goStep 184 = .ok (.iconst 1, 1) := by decide +kernel
theorem dX9_goStep_185 : decode cX9_goStep 185 = .ok (.iadd, 1) := by decide +kernel
theorem dX9_goStep_186 : decode cX9_goStep 186 = .ok (.goto 8, 3) := by decide +kernel
theorem dX9_goStep_189 : decode cX9_goStep 189 = .ok (.aload 4, 2) := by decide +kernel
theorem dX9_goStep_191 : decode cX9_goStep 191 = .ok (.getfield 77, 3) := by decide +kernel
theorem dX9_goStep_194 : decode cX9_goStep 194 = .ok (.ireturn, 1) := by decide +kernel
theorem dX9_goStep_195 : decode cX9_goStep 195 = .ok (.aload_n 1, 1) := by decide +kernel
theorem dX9_goStep_196 : decode cX9_goStep 196 = .ok (.getfield 80, 3) := by decide +kernel
theorem dX9_goStep_199 : decode cX9_goStep 199 = .ok (.aload 4, 2) := by decide +kernel
theorem dX9_goStep_201 : decode cX9_goStep 201 = .ok (.getfield 84, 3) := by decide +kernel
theorem dX9_goStep_204 : decode cX9_goStep 204 = .ok (.aload 4, 2) := by decide +kernel
theorem dX9_goStep_206 : decode cX9_goStep 206 = .ok (.getfield 87, 3) := by decide +kernel
theorem dX9_goStep_209 : decode cX9_goStep 209 = .ok (.aload_n 0, 1) := by decide +kernel
theorem dX9_goStep_210 : decode cX9_goStep 210 = .ok (.getfield 35, 3) := by decide +kernel
theorem dX9_goStep_213 : decode cX9_goStep 213 = .ok (.aload_n 0, 1) := by decide +kernel
theorem dX9_goStep_214 : decode cX9_goStep 214 = .ok (.getfield 38, 3) := by decide +kernel
theorem dX9_goStep_217 : decode cX9_goStep 217 = .ok (.invokevirtual 90, 3) := by decide +kernel
theorem dX9_goStep_220 : decode cX9_goStep 220 = .ok (.ifCond .eq 9, 3) := by decide +kernel
theorem dX9_goStep_223 : decode cX9_goStep 223 = .ok (.iload_n 2, 1) := by decide +kernel
theorem dX9_goStep_224 : decode cX9_goStep 224 = .ok (.iconst 1, 1) := by decide +kernel
theorem dX9_goStep_225 : decode cX9_goStep 225 = .ok (.iadd, 1) := by decide +kernel
theorem dX9_goStep_226 : decode cX9_goStep 226 = .ok (.goto 8, 3) := by decide +kernel
theorem dX9_goStep_229 : decode cX9_goStep 229 = .ok (.aload 4, 2) := by decide +kernel
theorem dX9_goStep_231 : decode cX9_goStep 231 = .ok (.getfield 77, 3) := by decide +kernel
theorem dX9_goStep_234 : decode cX9_goStep 234 = .ok (.ireturn, 1) := by decide +kernel
theorem dX9_goStep_235 : decode cX9_goStep 235 = .ok (.aload_n 0, 1) := by decide +kernel
theorem dX9_goStep_236 : decode cX9_goStep 236 = .ok (.iconst 1, 1) := by decide +kernel
theorem dX9_goStep_237 : decode cX9_goStep 237 = .ok (.putfield 23, 3) := by decide +kernel
theorem dX9_goStep_240 : decode cX9_goStep 240 = .ok (.iload_n 2, 1) := by decide +kernel
theorem dX9_goStep_241 : decode cX9_goStep 241 = .ok (.iconst 1, 1) := by decide +kernel
theorem dX9_goStep_242 : decode cX9_goStep 242 = .ok (.iadd, 1) := by decide +kernel
theorem dX9_goStep_243 : decode cX9_goStep 243 = .ok (.ireturn, 1) := by decide +kernel
theorem dX9_goStep_244 : decode cX9_goStep 244 = .ok (.aload 4, 2) := by decide +kernel
theorem dX9_goStep_246 : decode cX9_goStep 246 = .ok (.getfield 77, 3) := by decide +kernel
theorem dX9_goStep_249 : decode cX9_goStep 249 = .ok (.ireturn, 1) := by decide +kernel
def mWk_goStep  (t1 : Nat) (v2 : Int32) (v3 : Int32) (I : hI) : Option (Int32 × hI) :=
  if v2 < 0 then
    some ((48 : Int32), I)
  else
    (if v2 < (48 : Int32) then
      (h_g (h_in v2 48) <|
      if (I (t1 + 9 + v2.toNatClampNeg) 0) = 258 then
        (h_let (h_u I 6 0 (mWk_held (t1 + 9 + v2.toNatClampNeg) (I t1 4) I)) fun I2 =>
        some ((v2 + (1 : Int32)), I2))
      else
        (if (I (t1 + 9 + v2.toNatClampNeg) 0) = 259 then
          (h_let (h_u I 6 1 (mWk_held (t1 + 9 + v2.toNatClampNeg) (I t1 5) I)) fun I2 =>
          some ((v2 + (1 : Int32)), I2))
        else
          (if (I (t1 + 9 + v2.toNatClampNeg) 0) = 260 then
            some ((I (t1 + 9 + v2.toNatClampNeg) 2), I)
          else
            (if (I (t1 + 9 + v2.toNatClampNeg) 0) = 261 then
              (if (I (t1 + 9 + v2.toNatClampNeg) 1) < 0 then
                some ((v2 + (1 : Int32)), I)
              else
                (if (24 : Int32) ≤ (I (t1 + 9 + v2.toNatClampNeg) 1) then
                  some ((v2 + (1 : Int32)), I)
                else
                  (h_g (h_in (I (t1 + 9 + v2.toNatClampNeg) 1) 24) <|
                  h_let (h_u I 6 2 ((I 6 2) + (I (t1 + 8) (I (t1 + 9 + v2.toNatClampNeg) 1).toNatClampNeg))) fun I3 =>
                  some ((v2 + (1 : Int32)), I3))))
            else
              (if (I (t1 + 9 + v2.toNatClampNeg) 0) = 262 then
                (h_let (mWk_throwsHeads I) fun q2 =>
                if q2.1 = 0 then
                  some ((q2.2 (t1 + 9 + v2.toNatClampNeg) 2), q2.2)
                else
                  some ((v2 + (1 : Int32)), q2.2))
              else
                (if (I (t1 + 9 + v2.toNatClampNeg) 0) = 263 then
                  (if ((v3 >>> ((I (t1 + 9 + v2.toNatClampNeg) 1) &&& 31)) &&& (1 : Int32)) = 0 then
                    some ((v2 + (1 : Int32)), I)
                  else
                    some ((I (t1 + 9 + v2.toNatClampNeg) 2), I))
                else
                  (if (I (t1 + 9 + v2.toNatClampNeg) 0) = 264 then
                    ((mCd_hold (t1 + 1) (I (t1 + 9 + v2.toNatClampNeg) 6) (I (t1 + 9 + v2.toNatClampNeg) 7) (I 6 0) (I 6 1) I).bind fun q2 =>
                    if q2 = 0 then
                      some ((I (t1 + 9 + v2.toNatClampNeg) 2), I)
                    else
                      some ((v2 + (1 : Int32)), I))
                  else
                    (if (I (t1 + 9 + v2.toNatClampNeg) 0) = 265 then
                      (h_let (h_u I 6 4 (1 : Int32)) fun I2 =>
                      some ((v2 + (1 : Int32)), I2))
                    else
                      some ((I (t1 + 9 + v2.toNatClampNeg) 2), I)))))))))
    else
      some ((48 : Int32), I))
set_option maxHeartbeats 4000000 in
theorem sWk_goStep (d : Nat) (hd : 1 + 1 ≤ d) (t1 : Nat) (ht1 : h_LT t1) (v2 : Int32) (v3 : Int32) (I : hI) (J : hJ) (B : Bool × Bool) (q : Int32 × hI) (h : mWk_goStep t1 v2 v3 I = some q) : HMet hFT yX9_goStep cX9_goStep 5 (some .int) kdC d [.ref 6, .ref t1, .int v2, .int v3] (I, J, RM B) (some (.int q.1)) (q.2, J, RM B) := by
  obtain ⟨d0, rfl, hd0⟩ := h_mono hd
  refine HMet.of (by decide) (Nat.le_of_ble_eq_true rfl) ?_
  show AW hFT cX9_goStep 5 (some .int) RX9 kdC (d0 + 1) [(0, .ref 6), (1, .ref t1), (2, .int v2), (3, .int v3)] 0 [] (I, J, RM B) (some (.int q.1)) (q.2, J, RM B)
  unfold mWk_goStep at h
  refine a_iload_n dX9_goStep_0 rfl rfl ?_
  refine a_if_lt (tgt := 10) dX9_goStep_1 (by decide) (fun c => ?_) (fun c => ?_)
  · replace h := h_iteT c h
    refine a_bipush dX9_goStep_10 bp_48 ?_
    cases h
    exact a_iret dX9_goStep_12
  · replace h := h_iteF c h
    refine a_iload_n dX9_goStep_4 rfl rfl ?_
    refine a_bipush dX9_goStep_5 bp_48 ?_
    refine a_icmp_lt (tgt := 13) dX9_goStep_7 (by decide) (fun c => ?_) (fun c => ?_)
    · replace h := h_iteT c h
      refine a_aload_n dX9_goStep_13 rfl rfl ?_
      refine b_getR hK_4 (k_LT ht1) (i := 1) rfl fl_9_47 rfl (rm_LT_1 B ht1) dX9_goStep_14 ?_
      refine a_iload_n dX9_goStep_17 rfl rfl ?_
      obtain ⟨g1, h⟩ := h_gS h
      refine b_aaload3 (k_LT7 ht1) (h_inV g1) (rm_SA B ht1 (h_in_lt (h_inV g1))) dX9_goStep_18 ?_
      refine a_astore (lv' := [(4, .ref (t1 + 9 + v2.toNatClampNeg)), (0, .ref 6), (1, .ref t1), (2, .int v2), (3, .int v3)]) dX9_goStep_19 (by decide) rfl ?_
      refine a_aload dX9_goStep_21 rfl ?_
      refine b_getI hK_8 (st_SA ht1 (h_in_lt (h_inV g1))) (i := 0) rfl fl_9_51 rfl dX9_goStep_23 ?_
      by_cases n258 : (I (t1 + 9 + v2.toNatClampNeg) 0) = 258
      · replace h := h_iteT n258 h
        refine a_topI n258 ?_
        refine a_tableIn (tgt := 72) (off := 46) dX9_goStep_26 (by decide) (by decide) (by decide) (by decide) ?_
        refine a_aload_n dX9_goStep_72 rfl rfl ?_
        refine a_aload_n dX9_goStep_73 rfl rfl ?_
        refine a_aload dX9_goStep_74 rfl ?_
        refine a_aload_n dX9_goStep_76 rfl rfl ?_
        refine b_getI hK_4 (k_LT ht1) (i := 4) rfl fl_9_56 rfl dX9_goStep_77 ?_
        refine a_callV1 [.ref 6] yy_X9_held ml_9_59 kc_6 rfl (sWk_held _ (by omega) (t1 + 9 + v2.toNatClampNeg) (st_SA ht1 (h_in_lt (h_inV g1))) (I t1 4) I J B _ rfl) rfl rfl (Nat.le_of_ble_eq_true rfl) dX9_goStep_80 ?_
        refine b_putI hK_9 kc_6 (i := 0) rfl fl_9_35 rfl rfl (h_NI _) dX9_goStep_83 ?_
        obtain ⟨I2, eI2, h⟩ := h_letS h
        refine a_memI eI2 ?_
        refine a_iload_n dX9_goStep_86 rfl rfl ?_
        refine a_iconst dX9_goStep_87 ic_1 ?_
        refine a_iadd dX9_goStep_88 ?_
        cases h
        exact a_iret dX9_goStep_89
      · replace h := h_iteF n258 h
        by_cases n259 : (I (t1 + 9 + v2.toNatClampNeg) 0) = 259
        · replace h := h_iteT n259 h
          refine a_topI n259 ?_
          refine a_tableIn (tgt := 90) (off := 64) dX9_goStep_26 (by decide) (by decide) (by decide) (by decide) ?_
          refine a_aload_n dX9_goStep_90 rfl rfl ?_
          refine a_aload_n dX9_goStep_91 rfl rfl ?_
          refine a_aload dX9_goStep_92 rfl ?_
          refine a_aload_n dX9_goStep_94 rfl rfl ?_
          refine b_getI hK_4 (k_LT ht1) (i := 5) rfl fl_9_63 rfl dX9_goStep_95 ?_
          refine a_callV1 [.ref 6] yy_X9_held ml_9_59 kc_6 rfl (sWk_held _ (by omega) (t1 + 9 + v2.toNatClampNeg) (st_SA ht1 (h_in_lt (h_inV g1))) (I t1 5) I J B _ rfl) rfl rfl (Nat.le_of_ble_eq_true rfl) dX9_goStep_98 ?_
          refine b_putI hK_9 kc_6 (i := 1) rfl fl_9_38 rfl rfl (h_NI _) dX9_goStep_101 ?_
          obtain ⟨I2, eI2, h⟩ := h_letS h
          refine a_memI eI2 ?_
          refine a_iload_n dX9_goStep_104 rfl rfl ?_
          refine a_iconst dX9_goStep_105 ic_1 ?_
          refine a_iadd dX9_goStep_106 ?_
          cases h
          exact a_iret dX9_goStep_107
        · replace h := h_iteF n259 h
          by_cases n260 : (I (t1 + 9 + v2.toNatClampNeg) 0) = 260
          · replace h := h_iteT n260 h
            refine a_topI n260 ?_
            refine a_tableIn (tgt := 244) (off := 218) dX9_goStep_26 (by decide) (by decide) (by decide) (by decide) ?_
            refine a_aload dX9_goStep_244 rfl ?_
            refine b_getI hK_8 (st_SA ht1 (h_in_lt (h_inV g1))) (i := 2) rfl fl_9_77 rfl dX9_goStep_246 ?_
            cases h
            exact a_iret dX9_goStep_249
          · replace h := h_iteF n260 h
            by_cases n261 : (I (t1 + 9 + v2.toNatClampNeg) 0) = 261
            · replace h := h_iteT n261 h
              refine a_topI n261 ?_
              refine a_tableIn (tgt := 108) (off := 82) dX9_goStep_26 (by decide) (by decide) (by decide) (by decide) ?_
              refine a_aload dX9_goStep_108 rfl ?_
              refine b_getI hK_8 (st_SA ht1 (h_in_lt (h_inV g1))) (i := 1) rfl fl_9_66 rfl dX9_goStep_110 ?_
              refine a_if_lt (tgt := 148) dX9_goStep_113 (by decide) (fun c => ?_) (fun c => ?_)
              · replace h := h_iteT c h
                refine a_iload_n dX9_goStep_148 rfl rfl ?_
                refine a_iconst dX9_goStep_149 ic_1 ?_
                refine a_iadd dX9_goStep_150 ?_
                cases h
                exact a_iret dX9_goStep_151
              · replace h := h_iteF c h
                refine a_aload dX9_goStep_116 rfl ?_
                refine b_getI hK_8 (st_SA ht1 (h_in_lt (h_inV g1))) (i := 1) rfl fl_9_66 rfl dX9_goStep_118 ?_
                refine a_aload_n dX9_goStep_121 rfl rfl ?_
                refine b_getR hK_4 (k_LT ht1) (i := 2) rfl fl_9_69 rfl (rm_LT_2 B ht1) dX9_goStep_122 ?_
                refine a_alen0 (k_LT8 ht1) (v := 24) (by decide) dX9_goStep_125 ?_
                refine a_icmp_ge (tgt := 148) dX9_goStep_126 (by decide) (fun c => ?_) (fun c => ?_)
                · replace h := h_iteT c h
                  refine a_iload_n dX9_goStep_148 rfl rfl ?_
                  refine a_iconst dX9_goStep_149 ic_1 ?_
                  refine a_iadd dX9_goStep_150 ?_
                  cases h
                  exact a_iret dX9_goStep_151
                · replace h := h_iteF c h
                  refine a_aload_n dX9_goStep_129 rfl rfl ?_
                  refine a_dup dX9_goStep_130 rfl ?_
                  refine b_getI hK_9 kc_6 (i := 2) rfl fl_9_41 rfl dX9_goStep_131 ?_
                  refine a_aload_n dX9_goStep_134 rfl rfl ?_
                  refine b_getR hK_4 (k_LT ht1) (i := 2) rfl fl_9_69 rfl (rm_LT_2 B ht1) dX9_goStep_135 ?_
                  refine a_aload dX9_goStep_138 rfl ?_
                  refine b_getI hK_8 (st_SA ht1 (h_in_lt (h_inV g1))) (i := 1) rfl fl_9_66 rfl dX9_goStep_140 ?_
                  obtain ⟨g2, h⟩ := h_gS h
                  refine b_iaload (k_LT8 ht1) (h_inV g2) dX9_goStep_143 ?_
                  refine a_iadd dX9_goStep_144 ?_
                  refine b_putI hK_9 kc_6 (i := 2) rfl fl_9_41 rfl rfl (h_NI _) dX9_goStep_145 ?_
                  obtain ⟨I3, eI3, h⟩ := h_letS h
                  refine a_memI eI3 ?_
                  refine a_iload_n dX9_goStep_148 rfl rfl ?_
                  refine a_iconst dX9_goStep_149 ic_1 ?_
                  refine a_iadd dX9_goStep_150 ?_
                  cases h
                  exact a_iret dX9_goStep_151
            · replace h := h_iteF n261 h
              by_cases n262 : (I (t1 + 9 + v2.toNatClampNeg) 0) = 262
              · replace h := h_iteT n262 h
                refine a_topI n262 ?_
                refine a_tableIn (tgt := 152) (off := 126) dX9_goStep_26 (by decide) (by decide) (by decide) (by decide) ?_
                refine a_aload_n dX9_goStep_152 rfl rfl ?_
                obtain ⟨q2, cq2, h⟩ := h_letS h
                refine a_callV1 [] yy_X9_throwsHeads ml_9_73 kc_6 rfl (sWk_throwsHeads _ (by omega)  I J B q2 cq2) rfl rfl (Nat.le_of_ble_eq_true rfl) dX9_goStep_153 ?_
                refine a_if_eq (tgt := 165) dX9_goStep_156 (by decide) (fun c => ?_) (fun c => ?_)
                · replace h := h_iteT c h
                  refine a_aload dX9_goStep_165 rfl ?_
                  refine b_getI hK_8 (st_SA ht1 (h_in_lt (h_inV g1))) (i := 2) rfl fl_9_77 rfl dX9_goStep_167 ?_
                  cases h
                  exact a_iret dX9_goStep_170
                · replace h := h_iteF c h
                  refine a_iload_n dX9_goStep_159 rfl rfl ?_
                  refine a_iconst dX9_goStep_160 ic_1 ?_
                  refine a_iadd dX9_goStep_161 ?_
                  refine a_goto (tgt := 170) dX9_goStep_162 (by decide) ?_
                  cases h
                  exact a_iret dX9_goStep_170
              · replace h := h_iteF n262 h
                by_cases n263 : (I (t1 + 9 + v2.toNatClampNeg) 0) = 263
                · replace h := h_iteT n263 h
                  refine a_topI n263 ?_
                  refine a_tableIn (tgt := 171) (off := 145) dX9_goStep_26 (by decide) (by decide) (by decide) (by decide) ?_
                  refine a_iload_n dX9_goStep_171 rfl rfl ?_
                  refine a_aload dX9_goStep_172 rfl ?_
                  refine b_getI hK_8 (st_SA ht1 (h_in_lt (h_inV g1))) (i := 1) rfl fl_9_66 rfl dX9_goStep_174 ?_
                  refine a_ishr dX9_goStep_177 ?_
                  refine a_iconst dX9_goStep_178 ic_1 ?_
                  refine a_iand dX9_goStep_179 ?_
                  refine a_if_ne (tgt := 189) dX9_goStep_180 (by decide) (fun c => ?_) (fun c => ?_)
                  · replace h := h_iteF c h
                    refine a_aload dX9_goStep_189 rfl ?_
                    refine b_getI hK_8 (st_SA ht1 (h_in_lt (h_inV g1))) (i := 2) rfl fl_9_77 rfl dX9_goStep_191 ?_
                    cases h
                    exact a_iret dX9_goStep_194
                  · replace h := h_iteT c h
                    refine a_iload_n dX9_goStep_183 rfl rfl ?_
                    refine a_iconst dX9_goStep_184 ic_1 ?_
                    refine a_iadd dX9_goStep_185 ?_
                    refine a_goto (tgt := 194) dX9_goStep_186 (by decide) ?_
                    cases h
                    exact a_iret dX9_goStep_194
                · replace h := h_iteF n263 h
                  by_cases n264 : (I (t1 + 9 + v2.toNatClampNeg) 0) = 264
                  · replace h := h_iteT n264 h
                    refine a_topI n264 ?_
                    refine a_tableIn (tgt := 195) (off := 169) dX9_goStep_26 (by decide) (by decide) (by decide) (by decide) ?_
                    refine a_aload_n dX9_goStep_195 rfl rfl ?_
                    refine b_getR hK_4 (k_LT ht1) (i := 0) rfl fl_9_80 rfl (rm_LT_0 B ht1) dX9_goStep_196 ?_
                    refine a_aload dX9_goStep_199 rfl ?_
                    refine b_getI hK_8 (st_SA ht1 (h_in_lt (h_inV g1))) (i := 6) rfl fl_9_84 rfl dX9_goStep_201 ?_
                    refine a_aload dX9_goStep_204 rfl ?_
                    refine b_getI hK_8 (st_SA ht1 (h_in_lt (h_inV g1))) (i := 7) rfl fl_9_87 rfl dX9_goStep_206 ?_
                    refine a_aload_n dX9_goStep_209 rfl rfl ?_
                    refine b_getI hK_9 kc_6 (i := 0) rfl fl_9_35 rfl dX9_goStep_210 ?_
                    refine a_aload_n dX9_goStep_213 rfl rfl ?_
                    refine b_getI hK_9 kc_6 (i := 1) rfl fl_9_38 rfl dX9_goStep_214 ?_
                    obtain ⟨q2, cq2, h⟩ := h_bindS h
                    refine a_callV1 [] yy_X0_hold ml_9_90 (k_CD (cd_LT ht1)) rfl (sCd_hold _ (by omega) (t1 + 1) (cd_LT ht1) (I (t1 + 9 + v2.toNatClampNeg) 6) (I (t1 + 9 + v2.toNatClampNeg) 7) (I 6 0) (I 6 1) I J B q2 cq2) rfl rfl (Nat.le_of_ble_eq_true rfl) dX9_goStep_217 ?_
                    refine a_if_eq (tgt := 229) dX9_goStep_220 (by decide) (fun c => ?_) (fun c => ?_)
                    · replace h := h_iteT c h
                      refine a_aload dX9_goStep_229 rfl ?_
                      refine b_getI hK_8 (st_SA ht1 (h_in_lt (h_inV g1))) (i := 2) rfl fl_9_77 rfl dX9_goStep_231 ?_
                      cases h
                      exact a_iret dX9_goStep_234
                    · replace h := h_iteF c h
                      refine a_iload_n dX9_goStep_223 rfl rfl ?_
                      refine a_iconst dX9_goStep_224 ic_1 ?_
                      refine a_iadd dX9_goStep_225 ?_
                      refine a_goto (tgt := 234) dX9_goStep_226 (by decide) ?_
                      cases h
                      exact a_iret dX9_goStep_234
                  · replace h := h_iteF n264 h
                    by_cases n265 : (I (t1 + 9 + v2.toNatClampNeg) 0) = 265
                    · replace h := h_iteT n265 h
                      refine a_topI n265 ?_
                      refine a_tableIn (tgt := 235) (off := 209) dX9_goStep_26 (by decide) (by decide) (by decide) (by decide) ?_
                      refine a_aload_n dX9_goStep_235 rfl rfl ?_
                      refine a_iconst dX9_goStep_236 ic_1 ?_
                      refine b_putI hK_9 kc_6 (i := 4) rfl fl_9_23 rfl rfl h_Z1 dX9_goStep_237 ?_
                      obtain ⟨I2, eI2, h⟩ := h_letS h
                      refine a_memI eI2 ?_
                      refine a_iload_n dX9_goStep_240 rfl rfl ?_
                      refine a_iconst dX9_goStep_241 ic_1 ?_
                      refine a_iadd dX9_goStep_242 ?_
                      cases h
                      exact a_iret dX9_goStep_243
                    · replace h := h_iteF n265 h
                      refine a_tableOut (tgt := 244) dX9_goStep_26 (h_tb258_8 n258 n259 n260 n261 n262 n263 n264 n265) (by decide) ?_
                      refine a_aload dX9_goStep_244 rfl ?_
                      refine b_getI hK_8 (st_SA ht1 (h_in_lt (h_inV g1))) (i := 2) rfl fl_9_77 rfl dX9_goStep_246 ?_
                      cases h
                      exact a_iret dX9_goStep_249
    · replace h := h_iteF c h
      refine a_bipush dX9_goStep_10 bp_48 ?_
      cases h
      exact a_iret dX9_goStep_12
/-! CoinLoops$Walk.goRound(LCoinLoops$LoopText;I)V -/
theorem dX9_goRound_0 : decode cX9_goRound 0 = .ok (.iconst 0, 1) := by decide +kernel
theorem dX9_goRound_1 : decode cX9_goRound 1 = .ok (.istore_n 3, 1) := by decide +kernel
theorem dX9_goRound_2 : decode cX9_goRound 2 = .ok (.iconst 0, 1) := by decide +kernel
theorem dX9_goRound_3 : decode cX9_goRound 3 = .ok (.istore 4, 2) := by decide +kernel
theorem dX9_goRound_5 : decode cX9_goRound 5 = .ok (.iload 4, 2) := by decide +kernel
theorem dX9_goRound_7 : decode cX9_goRound 7 = .ok (.bipush 48, 2) := by decide +kernel
theorem dX9_goRound_9 : decode cX9_goRound 9 = .ok (.if_icmp .ge 43, 3) := by decide +kernel
theorem dX9_goRound_12 : decode cX9_goRound 12 = .ok (.aload_n 0, 1) := by decide +kernel
theorem dX9_goRound_13 : decode cX9_goRound 13 = .ok (.getfield 23, 3) := by decide +kernel
theorem dX9_goRound_16 : decode cX9_goRound 16 = .ok (.ifCond .ne 36, 3) := by decide +kernel
theorem dX9_goRound_19 : decode cX9_goRound 19 = .ok (.iload_n 3, 1) := by decide +kernel
theorem dX9_goRound_20 : decode cX9_goRound 20 = .ok (.ifCond .lt 17, 3) := by decide +kernel
theorem dX9_goRound_23 : decode cX9_goRound 23 = .ok (.iload_n 3, 1) := by decide +kernel
theorem dX9_goRound_24 : decode cX9_goRound 24 = .ok (.aload_n 1, 1) := by decide +kernel
theorem dX9_goRound_25 : decode cX9_goRound 25 = .ok (.getfield 26, 3) := by decide +kernel
theorem dX9_goRound_28 : decode cX9_goRound 28 = .ok (.if_icmp .ge 9, 3) := by decide +kernel
theorem dX9_goRound_31 : decode cX9_goRound 31 = .ok (.iload_n 3, 1) := by decide +kernel
theorem dX9_goRound_32 : decode cX9_goRound 32 = .ok (.bipush 48, 2) := by decide +kernel
theorem dX9_goRound_34 : decode cX9_goRound 34 = .ok (.if_icmp .lt 4, 3) := by decide +kernel
theorem dX9_goRound_37 : decode cX9_goRound 37 = .ok (.return_, 1) := by decide +kernel
theorem dX9_goRound_38 : decode cX9_goRound 38 = .ok (.aload_n 0, 1) := by decide +kernel
theorem dX9_goRound_39 : decode cX9_goRound 39 = .ok (.aload_n 1, 1) := by decide +kernel
theorem dX9_goRound_40 : decode cX9_goRound 40 = .ok (.iload_n 3, 1) := by decide +kernel
theorem dX9_goRound_41 : decode cX9_goRound 41 = .ok (.iload_n 2, 1) := by decide +kernel
theorem dX9_goRound_42 : decode cX9_goRound 42 = .ok (.invokevirtual 31, 3) := by decide +kernel
theorem dX9_goRound_45 : decode cX9_goRound 45 = .ok (.istore_n 3, 1) := by decide +kernel
theorem dX9_goRound_46 : decode cX9_goRound 46 = .ok (.iinc 4 1, 3) := by decide +kernel
theorem dX9_goRound_49 : decode cX9_goRound 49 = .ok (.goto (-44), 3) := by decide +kernel
theorem dX9_goRound_52 : decode cX9_goRound 52 = .ok (.return_, 1) := by decide +kernel
def mWk_goRound_B5 (k5 : Nat → Int32 → Int32 → Int32 → hI → Option (hI)) (t1 : Nat) (v2 : Int32) (v3 : Int32) (v4 : Int32) (I : hI) : Option (hI) :=
  if (48 : Int32) ≤ v4 then
    some I
  else
    (if (I 6 4) = 0 then
      (if v3 < 0 then
        some I
      else
        (if (I t1 3) ≤ v3 then
          some I
        else
          (if v3 < (48 : Int32) then
            ((mWk_goStep t1 v3 v2 I).bind fun q1 =>
            h_let q1.1 fun v3x1 =>
            k5 t1 v2 v3x1 (v4 + (1 : Int32)) q1.2)
          else
            some I)))
    else
      some I)
set_option maxHeartbeats 4000000 in
theorem sWk_goRound_B5 (d : Nat) (hd : 2 + 1 ≤ d) (k5 : Nat → Int32 → Int32 → Int32 → hI → Option (hI)) (hk5 : ∀ (t1 : Nat) (ht1 : h_LT t1) (v2 : Int32) (v3 : Int32) (v4 : Int32) (I : hI) (J : hJ) (B : Bool × Bool) (q : hI), k5 t1 v2 v3 v4 I = some q → AW hFT cX9_goRound 5 none RX9 kdC d [(0, .ref 6), (1, .ref t1), (2, .int v2), (3, .int v3), (4, .int v4)] 5 [] (I, J, RM B) none (q, J, RM B)) (t1 : Nat) (ht1 : h_LT t1) (v2 : Int32) (v3 : Int32) (v4 : Int32) (I : hI) (J : hJ) (B : Bool × Bool) (q : hI) (h : mWk_goRound_B5 k5 t1 v2 v3 v4 I = some q) : AW hFT cX9_goRound 5 none RX9 kdC d [(0, .ref 6), (1, .ref t1), (2, .int v2), (3, .int v3), (4, .int v4)] 5 [] (I, J, RM B) none (q, J, RM B) := by
  obtain ⟨d0, rfl, hd0⟩ := h_mono hd
  unfold mWk_goRound_B5 at h
  refine a_iload dX9_goRound_5 rfl ?_
  refine a_bipush dX9_goRound_7 bp_48 ?_
  refine a_icmp_ge (tgt := 52) dX9_goRound_9 (by decide) (fun c => ?_) (fun c => ?_)
  · replace h := h_iteT c h
    cases h
    exact a_vret dX9_goRound_52
  · replace h := h_iteF c h
    refine a_aload_n dX9_goRound_12 rfl rfl ?_
    refine b_getI hK_9 kc_6 (i := 4) rfl fl_9_23 rfl dX9_goRound_13 ?_
    refine a_if_ne (tgt := 52) dX9_goRound_16 (by decide) (fun c => ?_) (fun c => ?_)
    · replace h := h_iteF c h
      cases h
      exact a_vret dX9_goRound_52
    · replace h := h_iteT c h
      refine a_iload_n dX9_goRound_19 rfl rfl ?_
      refine a_if_lt (tgt := 37) dX9_goRound_20 (by decide) (fun c => ?_) (fun c => ?_)
      · replace h := h_iteT c h
        cases h
        exact a_vret dX9_goRound_37
      · replace h := h_iteF c h
        refine a_iload_n dX9_goRound_23 rfl rfl ?_
        refine a_aload_n dX9_goRound_24 rfl rfl ?_
        refine b_getI hK_4 (k_LT ht1) (i := 3) rfl fl_9_26 rfl dX9_goRound_25 ?_
        refine a_icmp_ge (tgt := 37) dX9_goRound_28 (by decide) (fun c => ?_) (fun c => ?_)
        · replace h := h_iteT c h
          cases h
          exact a_vret dX9_goRound_37
        · replace h := h_iteF c h
          refine a_iload_n dX9_goRound_31 rfl rfl ?_
          refine a_bipush dX9_goRound_32 bp_48 ?_
          refine a_icmp_lt (tgt := 38) dX9_goRound_34 (by decide) (fun c => ?_) (fun c => ?_)
          · replace h := h_iteT c h
            refine a_aload_n dX9_goRound_38 rfl rfl ?_
            refine a_aload_n dX9_goRound_39 rfl rfl ?_
            refine a_iload_n dX9_goRound_40 rfl rfl ?_
            refine a_iload_n dX9_goRound_41 rfl rfl ?_
            obtain ⟨q1, cq1, h⟩ := h_bindS h
            refine a_callV1 [] yy_X9_goStep ml_9_31 kc_6 rfl (sWk_goStep _ (by omega) t1 ht1 v3 v2 I J B q1 cq1) rfl rfl (Nat.le_of_ble_eq_true rfl) dX9_goRound_42 ?_
            obtain ⟨v3x1, ev3x1, h⟩ := h_letS h
            refine a_topI ev3x1 ?_
            refine a_istore_n (lv' := [(3, .int v3x1), (0, .ref 6), (1, .ref t1), (2, .int v2), (4, .int v4)]) dX9_goRound_45 rfl (by decide) rfl ?_
            refine b_iinc (lv' := [(4, .int (v4 + (1 : Int32))), (3, .int v3x1), (0, .ref 6), (1, .ref t1), (2, .int v2)]) dX9_goRound_46 rfl ic_1 (by decide) rfl ?_
            refine a_goto (tgt := 5) dX9_goRound_49 (by decide) ?_
            refine a_sub (lv' := [(0, .ref 6), (1, .ref t1), (2, .int v2), (3, .int v3x1), (4, .int (v4 + (1 : Int32)))]) [2, 3, 4, 1, 0] rfl ?_
            exact hk5 t1 ht1 v2 v3x1 (v4 + (1 : Int32)) q1.2 J B _ h
          · replace h := h_iteF c h
            cases h
            exact a_vret dX9_goRound_37
def mWk_goRound_L5  : Nat → Nat → Int32 → Int32 → Int32 → hI → Option (hI)
  | 0 => fun _ _ _ _ _ => none
  | n + 1 => mWk_goRound_B5 (mWk_goRound_L5 n)
theorem sWk_goRound_L5 (d : Nat) (hd : 2 + 1 ≤ d) : ∀ (n : Nat) (t1 : Nat) (ht1 : h_LT t1) (v2 : Int32) (v3 : Int32) (v4 : Int32) (I : hI) (J : hJ) (B : Bool × Bool) (q : hI) (h : mWk_goRound_L5 n t1 v2 v3 v4 I = some q), AW hFT cX9_goRound 5 none RX9 kdC d [(0, .ref 6), (1, .ref t1), (2, .int v2), (3, .int v3), (4, .int v4)] 5 [] (I, J, RM B) none (q, J, RM B)
  | 0, _, _, _, _, _, _, _, _, q, h => by cases h
  | n + 1, t1, ht1, v2, v3, v4, I, J, B, q, h => sWk_goRound_B5 d hd (mWk_goRound_L5 n) (sWk_goRound_L5 d hd n) t1 ht1 v2 v3 v4 I J B q h
def mWk_goRound  (t1 : Nat) (v2 : Int32) (I : hI) : Option (hI) :=
  mWk_goRound_L5 hF t1 v2 (0 : Int32) (0 : Int32) I
set_option maxHeartbeats 4000000 in
theorem sWk_goRound (d : Nat) (hd : 2 + 1 ≤ d) (t1 : Nat) (ht1 : h_LT t1) (v2 : Int32) (I : hI) (J : hJ) (B : Bool × Bool) (q : hI) (h : mWk_goRound t1 v2 I = some q) : HMet hFT yX9_goRound cX9_goRound 5 none kdC d [.ref 6, .ref t1, .int v2] (I, J, RM B) none (q, J, RM B) := by
  obtain ⟨d0, rfl, hd0⟩ := h_mono hd
  refine HMet.of (by decide) (Nat.le_of_ble_eq_true rfl) ?_
  show AW hFT cX9_goRound 5 none RX9 kdC (d0 + 1) [(0, .ref 6), (1, .ref t1), (2, .int v2)] 0 [] (I, J, RM B) none (q, J, RM B)
  unfold mWk_goRound at h
  refine a_iconst dX9_goRound_0 ic_0 ?_
  refine a_istore_n (lv' := [(3, .int (0 : Int32)), (0, .ref 6), (1, .ref t1), (2, .int v2)]) dX9_goRound_1 rfl (by decide) rfl ?_
  refine a_iconst dX9_goRound_2 ic_0 ?_
  refine a_istore (lv' := [(4, .int (0 : Int32)), (3, .int (0 : Int32)), (0, .ref 6), (1, .ref t1), (2, .int v2)]) dX9_goRound_3 (by decide) rfl ?_
  refine a_sub (lv' := [(0, .ref 6), (1, .ref t1), (2, .int v2), (3, .int (0 : Int32)), (4, .int (0 : Int32))]) [2, 3, 4, 1, 0] rfl ?_
  exact sWk_goRound_L5 (d0 + 1) (by omega) hF t1 ht1 v2 (0 : Int32) (0 : Int32) I J B _ h
/-! CoinLoops$Rounds.stateOf(II)I -/
theorem dX7_stateOf_0 : decode cX7_stateOf 0 = .ok (.iload_n 1, 1) := by decide +kernel
theorem dX7_stateOf_1 : decode cX7_stateOf 1 = .ok (.iload_n 2, 1) := by decide +kernel
theorem dX7_stateOf_2 : decode cX7_stateOf 2 = .ok (.aload_n 0, 1) := by decide +kernel
theorem dX7_stateOf_3 : decode cX7_stateOf 3 = .ok (.getfield 33, 3) := by decide +kernel
theorem dX7_stateOf_6 : decode cX7_stateOf 6 = .ok (.iconst 1, 1) := by decide +kernel
theorem dX7_stateOf_7 : decode cX7_stateOf 7 = .ok (.iadd, 1) := by decide +kernel
theorem dX7_stateOf_8 : decode cX7_stateOf 8 = .ok (.imul, 1) := by decide +kernel
theorem dX7_stateOf_9 : decode cX7_stateOf 9 = .ok (.iadd, 1) := by decide +kernel
theorem dX7_stateOf_10 : decode cX7_stateOf 10 = .ok (.ireturn, 1) := by decide +kernel
def mRo_stateOf  (v1 : Int32) (v2 : Int32) (I : hI) : Int32 :=
  (v1 + (v2 * ((I 7 7) + (1 : Int32))))
set_option maxHeartbeats 4000000 in
theorem sRo_stateOf (d : Nat) (hd : 0 ≤ d) (v1 : Int32) (v2 : Int32) (I : hI) (J : hJ) (B : Bool × Bool) (q : Int32) (h : mRo_stateOf v1 v2 I = q) : HMet hFT yX7_stateOf cX7_stateOf 3 (some .int) kdC d [.ref 7, .int v1, .int v2] (I, J, RM B) (some (.int q)) (I, J, RM B) := by
  refine HMet.of (by decide) (Nat.le_of_ble_eq_true rfl) ?_
  show AW hFT cX7_stateOf 3 (some .int) RX7 kdC d [(0, .ref 7), (1, .int v1), (2, .int v2)] 0 [] (I, J, RM B) (some (.int q)) (I, J, RM B)
  unfold mRo_stateOf at h
  refine a_iload_n dX7_stateOf_0 rfl rfl ?_
  refine a_iload_n dX7_stateOf_1 rfl rfl ?_
  refine a_aload_n dX7_stateOf_2 rfl rfl ?_
  refine b_getI hK_7 kc_7 (i := 7) rfl fl_7_33 rfl dX7_stateOf_3 ?_
  refine a_iconst dX7_stateOf_6 ic_1 ?_
  refine a_iadd dX7_stateOf_7 ?_
  refine a_imul dX7_stateOf_8 ?_
  refine a_iadd dX7_stateOf_9 ?_
  cases h
  exact a_iret dX7_stateOf_10
/-! CoinLoops$Rounds.fill(LCoinLoops$LoopText;LCoinLoops$Walk;II)V -/
theorem dX7_fill_0 : decode cX7_fill 0 = .ok (.iload_n 3, 1) := by decide +kernel
theorem dX7_fill_1 : decode cX7_fill 1 = .ok (.bipush 80, 2) := by decide +kernel
theorem dX7_fill_3 : decode cX7_fill 3 = .ok (.invokestatic 100, 3) := by decide +kernel
theorem dX7_fill_6 : decode cX7_fill 6 = .ok (.ifCond .eq 4, 3) := by decide +kernel
theorem dX7_fill_9 : decode cX7_fill 9 = .ok (.return_, 1) := by decide +kernel
theorem dX7_fill_10 : decode cX7_fill 10 = .ok (.iload_n 3, 1) := by decide +kernel
theorem dX7_fill_11 : decode cX7_fill 11 = .ok (.bipush 8, 2) := by decide +kernel
theorem dX7_fill_13 : decode cX7_fill 13 = .ok (.idiv, 1) := by decide +kernel
theorem dX7_fill_14 : decode cX7_fill 14 = .ok (.istore 5, 2) := by decide +kernel
theorem dX7_fill_16 : decode cX7_fill 16 = .ok (.aload_n 0, 1) := by decide +kernel
theorem dX7_fill_17 : decode cX7_fill 17 = .ok (.getfield 15, 3) := by decide +kernel
theorem dX7_fill_20 : decode cX7_fill 20 = .ok (.iload_n 3, 1) := by decide +kernel
theorem dX7_fill_21 : decode cX7_fill 21 = .ok (.iload 4, 2) := by decide +kernel
theorem dX7_fill_23 : decode cX7_fill 23 = .ok (.iastore, 1) := by decide +kernel
theorem dX7_fill_24 : decode cX7_fill 24 = .ok (.aload_n 0, 1) := by decide +kernel
theorem dX7_fill_25 : decode cX7_fill 25 = .ok (.getfield 18, 3) := by decide +kernel
theorem dX7_fill_28 : decode cX7_fill 28 = .ok (.iload_n 3, 1) := by decide +kernel
theorem dX7_fill_29 : decode cX7_fill 29 = .ok (.iconst 0, 1) := by decide +kernel
theorem dX7_fill_30 : decode cX7_fill 30 = .ok (.iastore, 1) := by decide +kernel
theorem dX7_fill_31 : decode cX7_fill 31 = .ok (.aload_n 0, 1) := by decide +kernel
theorem dX7_fill_32 : decode cX7_fill 32 = .ok (.getfield 21, 3) := by decide +kernel
theorem dX7_fill_35 : decode cX7_fill 35 = .ok (.iload_n 3, 1) := by decide +kernel
theorem dX7_fill_36 : decode cX7_fill 36 = .ok (.iconst 0, 1) := by decide +kernel
theorem dX7_fill_37 : decode cX7_fill 37 = .ok (.iastore, 1) := by decide +kernel
theorem dX7_fill_38 : decode cX7_fill 38 = .ok (.iconst 0, 1) := by decide +kernel
theorem dX7_fill_39 : decode cX7_fill 39 = .ok (.istore 6, 2) := by decide +kernel
theorem dX7_fill_41 : decode cX7_fill 41 = .ok (.iload 6, 2) := by decide +kernel
theorem dX7_fill_43 : decode cX7_fill 43 = .ok (.bipush 10, 2) := by decide +kernel
theorem dX7_fill_45 : decode cX7_fill 45 = .ok (.if_icmp .ge 22, 3) := by decide +kernel
theorem dX7_fill_48 : decode cX7_fill 48 = .ok (.aload_n 0, 1) := by decide +kernel
theorem dX7_fill_49 : decode cX7_fill 49 = .ok (.getfield 24, 3) := by decide +kernel
theorem dX7_fill_52 : decode cX7_fill 52 = .ok (.iload_n 3, 1) := by decide +kernel
theorem dX7_fill_53 : decode cX7_fill 53 = .ok (.bipush 10, 2) := by decide +kernel
theorem dX7_fill_55 : decode cX7_fill 55 = .ok (.imul, 1) := by decide +kernel
theorem dX7_fill_56 : decode cX7_fill 56 = .ok (.iload 6, 2) := by decide +kernel
theorem dX7_fill_58 : decode cX7_fill 58 = .ok (.iadd, 1) := by decide +kernel
theorem dX7_fill_59 : decode cX7_fill 59 = .ok (.iconst 0, 1) := by decide +kernel
theorem dX7_fill_60 : decode cX7_fill 60 = .ok (.iastore, 1) := by decide +kernel
theorem dX7_fill_61 : decode cX7_fill 61 = .ok (.iinc 6 1, 3) := by decide +kernel
theorem dX7_fill_64 : decode cX7_fill 64 = .ok (.goto (-23), 3) := by decide +kernel
theorem dX7_fill_67 : decode cX7_fill 67 = .ok (.iconst 0, 1) := by decide +kernel
theorem dX7_fill_68 : decode cX7_fill 68 = .ok (.istore 6, 2) := by decide +kernel
theorem dX7_fill_70 : decode cX7_fill 70 = .ok (.iload 6, 2) := by decide +kernel
theorem dX7_fill_72 : decode cX7_fill 72 = .ok (.iconst 4, 1) := by decide +kernel
theorem dX7_fill_73 : decode cX7_fill 73 = .ok (.if_icmp .ge 107, 3) := by decide +kernel
theorem dX7_fill_76 : decode cX7_fill 76 = .ok (.aload_n 2, 1) := by decide +kernel
theorem dX7_fill_77 : decode cX7_fill 77 = .ok (.aload_n 0, 1) := by decide +kernel
theorem dX7_fill_78 : decode cX7_fill 78 = .ok (.iload 5, 2) := by decide +kernel
theorem dX7_fill_80 : decode cX7_fill 80 = .ok (.invokevirtual 57, 3) := by decide +kernel
theorem dX7_fill_83 : decode cX7_fill 83 = .ok (.aload_n 0, 1) := by decide +kernel
theorem dX7_fill_84 : decode cX7_fill 84 = .ok (.iload 5, 2) := by decide +kernel
theorem dX7_fill_86 : decode cX7_fill 86 = .ok (.invokevirtual 61, 3) := by decide +kernel
theorem dX7_fill_89 : decode cX7_fill 89 = .ok (.iload 6, 2) := by decide +kernel
theorem dX7_fill_91 : decode cX7_fill 91 = .ok (.invokevirtual 103, 3) := by decide +kernel
theorem dX7_fill_94 : decode cX7_fill 94 = .ok (.aload_n 2, 1) := by decide +kernel
theorem dX7_fill_95 : decode cX7_fill 95 = .ok (.aload_n 1, 1) := by decide +kernel
theorem dX7_fill_96 : decode cX7_fill 96 = .ok (.iload 4, 2) := by decide +kernel
theorem dX7_fill_98 : decode cX7_fill 98 = .ok (.invokevirtual 109, 3) := by decide +kernel
theorem dX7_fill_101 : decode cX7_fill 101 = .ok (.aload_n 0, 1) := by decide +kernel
theorem dX7_fill_102 : decode cX7_fill 102 = .ok (.getfield 18, 3) := by decide +kernel
theorem dX7_fill_105 : decode cX7_fill 105 = .ok (.iload_n 3, 1) := by decide +kernel
theorem dX7_fill_106 : decode cX7_fill 106 = .ok (.dup2, 1) := by decide +kernel
theorem dX7_fill_107 : decode cX7_fill 107 = .ok (.iaload, 1) := by decide +kernel
theorem dX7_fill_108 : decode cX7_fill 108 = .ok (.aload_n 2, 1) := by decide +kernel
theorem dX7_fill_109 : decode cX7_fill 109 = .ok (.getfield 113, 3) := by decide +kernel
theorem dX7_fill_112 : decode cX7_fill 112 = .ok (.iadd, 1) := by decide +kernel
theorem dX7_fill_113 : decode cX7_fill 113 = .ok (.iastore, 1) := by decide +kernel
theorem dX7_fill_114 : decode cX7_fill 114 = .ok (.aload_n 0, 1) := by decide +kernel
theorem dX7_fill_115 : decode cX7_fill 115 = .ok (.aload_n 2, 1) := by decide +kernel
theorem dX7_fill_116 : decode cX7_fill 116 = .ok (.getfield 116, 3) := by decide +kernel
theorem dX7_fill_119 : decode cX7_fill 119 = .ok (.aload_n 2, 1) := by decide +kernel
theorem dX7_fill_120 : decode cX7_fill 120 = .ok (.getfield 119, 3) := by decide +kernel
theorem dX7_fill_123 : decode cX7_fill 123 = .ok (.invokevirtual 122, 3) := by decide +kernel
theorem dX7_fill_126 : decode cX7_fill 126 = .ok (.istore 7, 2) := by decide +kernel
theorem dX7_fill_128 : decode cX7_fill 128 = .ok (.aload_n 2, 1) := by decide +kernel
theorem dX7_fill_129 : decode cX7_fill 129 = .ok (.getfield 125, 3) := by decide +kernel
theorem dX7_fill_132 : decode cX7_fill 132 = .ok (.ifCond .eq 16, 3) := by decide +kernel
theorem dX7_fill_135 : decode cX7_fill 135 = .ok (.aload_n 0, 1) := by decide +kernel
theorem dX7_fill_136 : decode cX7_fill 136 = .ok (.getfield 21, 3) := by decide +kernel
theorem dX7_fill_139 : decode cX7_fill 139 = .ok (.iload_n 3, 1) := by decide +kernel
theorem dX7_fill_140 : decode cX7_fill 140 = .ok (.dup2, 1) := by decide +kernel
theorem dX7_fill_141 : decode cX7_fill 141 = .ok (.iaload, 1) := by decide +kernel
theorem dX7_fill_142 : decode cX7_fill 142 = .ok (.iconst 1, 1) := by decide +kernel
theorem dX7_fill_143 : decode cX7_fill 143 = .ok (.iadd, 1) := by decide +kernel
theorem dX7_fill_144 : decode cX7_fill 144 = .ok (.iastore, 1) := by decide +kernel
theorem dX7_fill_145 : decode cX7_fill 145 = .ok (.goto 29, 3) := by decide +kernel
theorem dX7_fill_148 : decode cX7_fill 148 = .ok (.iload 7, 2) := by decide +kernel
theorem dX7_fill_150 : decode cX7_fill 150 = .ok (.bipush 10, 2) := by decide +kernel
theorem dX7_fill_152 : decode cX7_fill 152 = .ok (.invokestatic 100, 3) := by decide +kernel
theorem dX7_fill_155 : decode cX7_fill 155 = .ok (.ifCond .ne 19, 3) := by decide +kernel
theorem dX7_fill_158 : decode cX7_fill 158 = .ok (.aload_n 0, 1) := by decide +kernel
theorem dX7_fill_159 : decode cX7_fill 159 = .ok (.getfield 24, 3) := by decide +kernel
theorem dX7_fill_162 : decode cX7_fill 162 = .ok (.iload_n 3, 1) := by decide +kernel
theorem dX7_fill_163 : decode cX7_fill 163 = .ok (.bipush 10, 2) := by decide +kernel
theorem dX7_fill_165 : decode cX7_fill 165 = .ok (.imul, 1) := by decide +kernel
theorem dX7_fill_166 : decode cX7_fill 166 = .ok (.iload 7, 2) := by decide +kernel
theorem dX7_fill_168 : decode cX7_fill 168 = .ok (.iadd, 1) := by decide +kernel
theorem dX7_fill_169 : decode cX7_fill 169 = .ok (.dup2, 1) := by decide +kernel
theorem dX7_fill_170 : decode cX7_fill 170 = .ok (.iaload, 1) := by decide +kernel
theorem dX7_fill_171 : decode cX7_fill 171 = .ok (.iconst 1, 1) := by decide +kernel
theorem dX7_fill_172 : decode cX7_fill 172 = .ok (.iadd, 1) := by decide +kernel
theorem dX7_fill_173 : decode cX7_fill 173 = .ok (.iastore, 1) := by decide +kernel
theorem dX7_fill_174 : decode cX7_fill 174 = .ok (.iinc 6 1, 3) := by decide +kernel
theorem dX7_fill_177 : decode cX7_fill 177 = .ok (.goto (-107), 3) := by decide +kernel
theorem dX7_fill_180 : decode cX7_fill 180 = .ok (.return_, 1) := by decide +kernel
def mRo_fill_B70 (k70 : Nat → Int32 → Int32 → Int32 → Int32 → hI → Option (hI)) (t1 : Nat) (v3 : Int32) (v4 : Int32) (v5 : Int32) (v6 : Int32) (I : hI) : Option (hI) :=
  if (4 : Int32) ≤ v6 then
    some I
  else
    ((mRo_xOf v5 I).bind fun q1 =>
    (mRo_yOf v5 I).bind fun q2 =>
    h_let (mWk_startQuarter q1 q2 v6 I) fun q3 =>
    (mWk_goRound t1 v4 q3).bind fun q4 =>
    h_g (h_in v3 80) <|
    h_g (h_in v3 80) <|
    h_let (h_u q4 10 v3.toNatClampNeg ((q4 10 v3.toNatClampNeg) + (q4 6 2))) fun I7 =>
    h_let (mRo_stateOf (I7 6 0) (I7 6 1) I7) fun v7x7 =>
    if (I7 6 4) = 0 then
      (if (mC_isOutside v7x7 (10 : Int32)) = 0 then
        (h_g (h_in ((v3 * (10 : Int32)) + v7x7) 800) <|
        h_g (h_in ((v3 * (10 : Int32)) + v7x7) 800) <|
        h_let (h_u I7 12 ((v3 * (10 : Int32)) + v7x7).toNatClampNeg ((I7 12 ((v3 * (10 : Int32)) + v7x7).toNatClampNeg) + (1 : Int32))) fun I11 =>
        k70 t1 v3 v4 v5 (v6 + (1 : Int32)) I11)
      else
        k70 t1 v3 v4 v5 (v6 + (1 : Int32)) I7)
    else
      (h_g (h_in v3 80) <|
      h_g (h_in v3 80) <|
      h_let (h_u I7 11 v3.toNatClampNeg ((I7 11 v3.toNatClampNeg) + (1 : Int32))) fun I11 =>
      k70 t1 v3 v4 v5 (v6 + (1 : Int32)) I11))
set_option maxHeartbeats 4000000 in
theorem sRo_fill_B70 (d : Nat) (hd : 3 + 1 ≤ d) (k70 : Nat → Int32 → Int32 → Int32 → Int32 → hI → Option (hI)) (hk70 : ∀ (t1 : Nat) (ht1 : h_LT t1) (v3 : Int32) (v4 : Int32) (v5 : Int32) (v6 : Int32) (I : hI) (J : hJ) (B : Bool × Bool) (q : hI), k70 t1 v3 v4 v5 v6 I = some q → AW hFT cX7_fill 8 none RX7 kdC d [(0, .ref 7), (1, .ref t1), (2, .ref 6), (3, .int v3), (4, .int v4), (5, .int v5), (6, .int v6)] 70 [] (I, J, RM B) none (q, J, RM B)) (t1 : Nat) (ht1 : h_LT t1) (v3 : Int32) (v4 : Int32) (v5 : Int32) (v6 : Int32) (I : hI) (J : hJ) (B : Bool × Bool) (q : hI) (h : mRo_fill_B70 k70 t1 v3 v4 v5 v6 I = some q) : AW hFT cX7_fill 8 none RX7 kdC d [(0, .ref 7), (1, .ref t1), (2, .ref 6), (3, .int v3), (4, .int v4), (5, .int v5), (6, .int v6)] 70 [] (I, J, RM B) none (q, J, RM B) := by
  obtain ⟨d0, rfl, hd0⟩ := h_mono hd
  unfold mRo_fill_B70 at h
  refine a_iload dX7_fill_70 rfl ?_
  refine a_iconst dX7_fill_72 ic_4 ?_
  refine a_icmp_ge (tgt := 180) dX7_fill_73 (by decide) (fun c => ?_) (fun c => ?_)
  · replace h := h_iteT c h
    cases h
    exact a_vret dX7_fill_180
  · replace h := h_iteF c h
    refine a_aload_n dX7_fill_76 rfl rfl ?_
    refine a_aload_n dX7_fill_77 rfl rfl ?_
    refine a_iload dX7_fill_78 rfl ?_
    obtain ⟨q1, cq1, h⟩ := h_bindS h
    refine a_callV1 [.ref 6] yy_X7_xOf ml_7_57 kc_7 rfl (sRo_xOf _ (by omega) v5 I J B q1 cq1) rfl rfl (Nat.le_of_ble_eq_true rfl) dX7_fill_80 ?_
    refine a_aload_n dX7_fill_83 rfl rfl ?_
    refine a_iload dX7_fill_84 rfl ?_
    obtain ⟨q2, cq2, h⟩ := h_bindS h
    refine a_callV1 [.int q1, .ref 6] yy_X7_yOf ml_7_61 kc_7 rfl (sRo_yOf _ (by omega) v5 I J B q2 cq2) rfl rfl (Nat.le_of_ble_eq_true rfl) dX7_fill_86 ?_
    refine a_iload dX7_fill_89 rfl ?_
    obtain ⟨q3, cq3, h⟩ := h_letS h
    refine a_callV0 [] yy_X9_startQuarter ml_7_103 kc_6 rfl (sWk_startQuarter _ (by omega) q1 q2 v6 I J B q3 cq3) rfl rfl (Nat.le_of_ble_eq_true rfl) dX7_fill_91 ?_
    refine a_aload_n dX7_fill_94 rfl rfl ?_
    refine a_aload_n dX7_fill_95 rfl rfl ?_
    refine a_iload dX7_fill_96 rfl ?_
    obtain ⟨q4, cq4, h⟩ := h_bindS h
    refine a_callV0 [] yy_X9_goRound ml_7_109 kc_6 rfl (sWk_goRound _ (by omega) t1 ht1 v4 q3 J B q4 cq4) rfl rfl (Nat.le_of_ble_eq_true rfl) dX7_fill_98 ?_
    refine a_aload_n dX7_fill_101 rfl rfl ?_
    refine b_getR hK_7 kc_7 (i := 2) rfl fl_7_18 rfl (rm_7_2 B) dX7_fill_102 ?_
    refine a_iload_n dX7_fill_105 rfl rfl ?_
    refine a_dup2_11 dX7_fill_106 rfl rfl ?_
    obtain ⟨g5, h⟩ := h_gS h
    refine b_iaload kc_10 (h_inV g5) dX7_fill_107 ?_
    refine a_aload_n dX7_fill_108 rfl rfl ?_
    refine b_getI hK_9 kc_6 (i := 2) rfl fl_7_113 rfl dX7_fill_109 ?_
    refine a_iadd dX7_fill_112 ?_
    obtain ⟨g6, h⟩ := h_gS h
    refine b_iastore kc_10 (h_inV g6) dX7_fill_113 ?_
    obtain ⟨I7, eI7, h⟩ := h_letS h
    refine a_memI eI7 ?_
    refine a_aload_n dX7_fill_114 rfl rfl ?_
    refine a_aload_n dX7_fill_115 rfl rfl ?_
    refine b_getI hK_9 kc_6 (i := 0) rfl fl_7_116 rfl dX7_fill_116 ?_
    refine a_aload_n dX7_fill_119 rfl rfl ?_
    refine b_getI hK_9 kc_6 (i := 1) rfl fl_7_119 rfl dX7_fill_120 ?_
    refine a_callV1 [] yy_X7_stateOf ml_7_122 kc_7 rfl (sRo_stateOf _ (by omega) (I7 6 0) (I7 6 1) I7 J B _ rfl) rfl rfl (Nat.le_of_ble_eq_true rfl) dX7_fill_123 ?_
    obtain ⟨v7x7, ev7x7, h⟩ := h_letS h
    refine a_topI ev7x7 ?_
    refine a_istore (lv' := [(7, .int v7x7), (0, .ref 7), (1, .ref t1), (2, .ref 6), (3, .int v3), (4, .int v4), (5, .int v5), (6, .int v6)]) dX7_fill_126 (by decide) rfl ?_
    refine a_aload_n dX7_fill_128 rfl rfl ?_
    refine b_getI hK_9 kc_6 (i := 4) rfl fl_7_125 rfl dX7_fill_129 ?_
    refine a_if_eq (tgt := 148) dX7_fill_132 (by decide) (fun c => ?_) (fun c => ?_)
    · replace h := h_iteT c h
      refine a_iload dX7_fill_148 rfl ?_
      refine a_bipush dX7_fill_150 bp_10 ?_
      refine a_callSN1 [] yy_X10_isOutside ml_7_100 (sC_isOutside _ (by omega) v7x7 (10 : Int32) I7 J B _ rfl) rfl rfl (Nat.le_of_ble_eq_true rfl) dX7_fill_152 ?_
      refine a_if_ne (tgt := 174) dX7_fill_155 (by decide) (fun c => ?_) (fun c => ?_)
      · replace h := h_iteF c h
        refine b_iinc (lv' := [(6, .int (v6 + (1 : Int32))), (7, .int v7x7), (0, .ref 7), (1, .ref t1), (2, .ref 6), (3, .int v3), (4, .int v4), (5, .int v5)]) dX7_fill_174 rfl ic_1 (by decide) rfl ?_
        refine a_goto (tgt := 70) dX7_fill_177 (by decide) ?_
        refine a_sub (lv' := [(0, .ref 7), (1, .ref t1), (2, .ref 6), (3, .int v3), (4, .int v4), (5, .int v5), (6, .int (v6 + (1 : Int32)))]) [2, 3, 4, 5, 6, 7, 0] rfl ?_
        exact hk70 t1 ht1 v3 v4 v5 (v6 + (1 : Int32)) I7 J B _ h
      · replace h := h_iteT c h
        refine a_aload_n dX7_fill_158 rfl rfl ?_
        refine b_getR hK_7 kc_7 (i := 4) rfl fl_7_24 rfl (rm_7_4 B) dX7_fill_159 ?_
        refine a_iload_n dX7_fill_162 rfl rfl ?_
        refine a_bipush dX7_fill_163 bp_10 ?_
        refine a_imul dX7_fill_165 ?_
        refine a_iload dX7_fill_166 rfl ?_
        refine a_iadd dX7_fill_168 ?_
        refine a_dup2_11 dX7_fill_169 rfl rfl ?_
        obtain ⟨g9, h⟩ := h_gS h
        refine b_iaload kc_12 (h_inV g9) dX7_fill_170 ?_
        refine a_iconst dX7_fill_171 ic_1 ?_
        refine a_iadd dX7_fill_172 ?_
        obtain ⟨g10, h⟩ := h_gS h
        refine b_iastore kc_12 (h_inV g10) dX7_fill_173 ?_
        obtain ⟨I11, eI11, h⟩ := h_letS h
        refine a_memI eI11 ?_
        refine b_iinc (lv' := [(6, .int (v6 + (1 : Int32))), (7, .int v7x7), (0, .ref 7), (1, .ref t1), (2, .ref 6), (3, .int v3), (4, .int v4), (5, .int v5)]) dX7_fill_174 rfl ic_1 (by decide) rfl ?_
        refine a_goto (tgt := 70) dX7_fill_177 (by decide) ?_
        refine a_sub (lv' := [(0, .ref 7), (1, .ref t1), (2, .ref 6), (3, .int v3), (4, .int v4), (5, .int v5), (6, .int (v6 + (1 : Int32)))]) [2, 3, 4, 5, 6, 7, 0] rfl ?_
        exact hk70 t1 ht1 v3 v4 v5 (v6 + (1 : Int32)) I11 J B _ h
    · replace h := h_iteF c h
      refine a_aload_n dX7_fill_135 rfl rfl ?_
      refine b_getR hK_7 kc_7 (i := 3) rfl fl_7_21 rfl (rm_7_3 B) dX7_fill_136 ?_
      refine a_iload_n dX7_fill_139 rfl rfl ?_
      refine a_dup2_11 dX7_fill_140 rfl rfl ?_
      obtain ⟨g9, h⟩ := h_gS h
      refine b_iaload kc_11 (h_inV g9) dX7_fill_141 ?_
      refine a_iconst dX7_fill_142 ic_1 ?_
      refine a_iadd dX7_fill_143 ?_
      obtain ⟨g10, h⟩ := h_gS h
      refine b_iastore kc_11 (h_inV g10) dX7_fill_144 ?_
      obtain ⟨I11, eI11, h⟩ := h_letS h
      refine a_memI eI11 ?_
      refine a_goto (tgt := 174) dX7_fill_145 (by decide) ?_
      refine b_iinc (lv' := [(6, .int (v6 + (1 : Int32))), (7, .int v7x7), (0, .ref 7), (1, .ref t1), (2, .ref 6), (3, .int v3), (4, .int v4), (5, .int v5)]) dX7_fill_174 rfl ic_1 (by decide) rfl ?_
      refine a_goto (tgt := 70) dX7_fill_177 (by decide) ?_
      refine a_sub (lv' := [(0, .ref 7), (1, .ref t1), (2, .ref 6), (3, .int v3), (4, .int v4), (5, .int v5), (6, .int (v6 + (1 : Int32)))]) [2, 3, 4, 5, 6, 7, 0] rfl ?_
      exact hk70 t1 ht1 v3 v4 v5 (v6 + (1 : Int32)) I11 J B _ h
def mRo_fill_L70  : Nat → Nat → Int32 → Int32 → Int32 → Int32 → hI → Option (hI)
  | 0 => fun _ _ _ _ _ _ => none
  | n + 1 => mRo_fill_B70 (mRo_fill_L70 n)
theorem sRo_fill_L70 (d : Nat) (hd : 3 + 1 ≤ d) : ∀ (n : Nat) (t1 : Nat) (ht1 : h_LT t1) (v3 : Int32) (v4 : Int32) (v5 : Int32) (v6 : Int32) (I : hI) (J : hJ) (B : Bool × Bool) (q : hI) (h : mRo_fill_L70 n t1 v3 v4 v5 v6 I = some q), AW hFT cX7_fill 8 none RX7 kdC d [(0, .ref 7), (1, .ref t1), (2, .ref 6), (3, .int v3), (4, .int v4), (5, .int v5), (6, .int v6)] 70 [] (I, J, RM B) none (q, J, RM B)
  | 0, _, _, _, _, _, _, _, _, _, q, h => by cases h
  | n + 1, t1, ht1, v3, v4, v5, v6, I, J, B, q, h => sRo_fill_B70 d hd (mRo_fill_L70 n) (sRo_fill_L70 d hd n) t1 ht1 v3 v4 v5 v6 I J B q h
def mRo_fill_B41 (k41 : Nat → Int32 → Int32 → Int32 → Int32 → hI → Option (hI)) (t1 : Nat) (v3 : Int32) (v4 : Int32) (v5 : Int32) (v6 : Int32) (I : hI) : Option (hI) :=
  if (10 : Int32) ≤ v6 then
    mRo_fill_L70 hF t1 v3 v4 v5 (0 : Int32) I
  else
    (h_g (h_in ((v3 * (10 : Int32)) + v6) 800) <|
    h_let (h_u I 12 ((v3 * (10 : Int32)) + v6).toNatClampNeg (0 : Int32)) fun I2 =>
    k41 t1 v3 v4 v5 (v6 + (1 : Int32)) I2)
set_option maxHeartbeats 4000000 in
theorem sRo_fill_B41 (d : Nat) (hd : 3 + 1 ≤ d) (k41 : Nat → Int32 → Int32 → Int32 → Int32 → hI → Option (hI)) (hk41 : ∀ (t1 : Nat) (ht1 : h_LT t1) (v3 : Int32) (v4 : Int32) (v5 : Int32) (v6 : Int32) (I : hI) (J : hJ) (B : Bool × Bool) (q : hI), k41 t1 v3 v4 v5 v6 I = some q → AW hFT cX7_fill 8 none RX7 kdC d [(0, .ref 7), (1, .ref t1), (2, .ref 6), (3, .int v3), (4, .int v4), (5, .int v5), (6, .int v6)] 41 [] (I, J, RM B) none (q, J, RM B)) (t1 : Nat) (ht1 : h_LT t1) (v3 : Int32) (v4 : Int32) (v5 : Int32) (v6 : Int32) (I : hI) (J : hJ) (B : Bool × Bool) (q : hI) (h : mRo_fill_B41 k41 t1 v3 v4 v5 v6 I = some q) : AW hFT cX7_fill 8 none RX7 kdC d [(0, .ref 7), (1, .ref t1), (2, .ref 6), (3, .int v3), (4, .int v4), (5, .int v5), (6, .int v6)] 41 [] (I, J, RM B) none (q, J, RM B) := by
  obtain ⟨d0, rfl, hd0⟩ := h_mono hd
  unfold mRo_fill_B41 at h
  refine a_iload dX7_fill_41 rfl ?_
  refine a_bipush dX7_fill_43 bp_10 ?_
  refine a_icmp_ge (tgt := 67) dX7_fill_45 (by decide) (fun c => ?_) (fun c => ?_)
  · replace h := h_iteT c h
    refine a_iconst dX7_fill_67 ic_0 ?_
    refine a_istore (lv' := [(6, .int (0 : Int32)), (0, .ref 7), (1, .ref t1), (2, .ref 6), (3, .int v3), (4, .int v4), (5, .int v5)]) dX7_fill_68 (by decide) rfl ?_
    refine a_sub (lv' := [(0, .ref 7), (1, .ref t1), (2, .ref 6), (3, .int v3), (4, .int v4), (5, .int v5), (6, .int (0 : Int32))]) [1, 2, 3, 4, 5, 6, 0] rfl ?_
    exact sRo_fill_L70 (d0 + 1) (by omega) hF t1 ht1 v3 v4 v5 (0 : Int32) I J B _ h
  · replace h := h_iteF c h
    refine a_aload_n dX7_fill_48 rfl rfl ?_
    refine b_getR hK_7 kc_7 (i := 4) rfl fl_7_24 rfl (rm_7_4 B) dX7_fill_49 ?_
    refine a_iload_n dX7_fill_52 rfl rfl ?_
    refine a_bipush dX7_fill_53 bp_10 ?_
    refine a_imul dX7_fill_55 ?_
    refine a_iload dX7_fill_56 rfl ?_
    refine a_iadd dX7_fill_58 ?_
    refine a_iconst dX7_fill_59 ic_0 ?_
    obtain ⟨g1, h⟩ := h_gS h
    refine b_iastore kc_12 (h_inV g1) dX7_fill_60 ?_
    obtain ⟨I2, eI2, h⟩ := h_letS h
    refine a_memI eI2 ?_
    refine b_iinc (lv' := [(6, .int (v6 + (1 : Int32))), (0, .ref 7), (1, .ref t1), (2, .ref 6), (3, .int v3), (4, .int v4), (5, .int v5)]) dX7_fill_61 rfl ic_1 (by decide) rfl ?_
    refine a_goto (tgt := 41) dX7_fill_64 (by decide) ?_
    refine a_sub (lv' := [(0, .ref 7), (1, .ref t1), (2, .ref 6), (3, .int v3), (4, .int v4), (5, .int v5), (6, .int (v6 + (1 : Int32)))]) [1, 2, 3, 4, 5, 6, 0] rfl ?_
    exact hk41 t1 ht1 v3 v4 v5 (v6 + (1 : Int32)) I2 J B _ h
def mRo_fill_L41  : Nat → Nat → Int32 → Int32 → Int32 → Int32 → hI → Option (hI)
  | 0 => fun _ _ _ _ _ _ => none
  | n + 1 => mRo_fill_B41 (mRo_fill_L41 n)
theorem sRo_fill_L41 (d : Nat) (hd : 3 + 1 ≤ d) : ∀ (n : Nat) (t1 : Nat) (ht1 : h_LT t1) (v3 : Int32) (v4 : Int32) (v5 : Int32) (v6 : Int32) (I : hI) (J : hJ) (B : Bool × Bool) (q : hI) (h : mRo_fill_L41 n t1 v3 v4 v5 v6 I = some q), AW hFT cX7_fill 8 none RX7 kdC d [(0, .ref 7), (1, .ref t1), (2, .ref 6), (3, .int v3), (4, .int v4), (5, .int v5), (6, .int v6)] 41 [] (I, J, RM B) none (q, J, RM B)
  | 0, _, _, _, _, _, _, _, _, _, q, h => by cases h
  | n + 1, t1, ht1, v3, v4, v5, v6, I, J, B, q, h => sRo_fill_B41 d hd (mRo_fill_L41 n) (sRo_fill_L41 d hd n) t1 ht1 v3 v4 v5 v6 I J B q h
def mRo_fill  (t1 : Nat) (v3 : Int32) (v4 : Int32) (I : hI) : Option (hI) :=
  if (mC_isOutside v3 (80 : Int32)) = 0 then
    (h_let (v3 / (8 : Int32)) fun v5x0 =>
    h_g (h_in v3 80) <|
    h_let (h_u I 9 v3.toNatClampNeg v4) fun I3 =>
    h_g (h_in v3 80) <|
    h_let (h_u I3 10 v3.toNatClampNeg (0 : Int32)) fun I5 =>
    h_g (h_in v3 80) <|
    h_let (h_u I5 11 v3.toNatClampNeg (0 : Int32)) fun I7 =>
    mRo_fill_L41 hF t1 v3 v4 v5x0 (0 : Int32) I7)
  else
    some I
set_option maxHeartbeats 4000000 in
theorem sRo_fill (d : Nat) (hd : 3 + 1 ≤ d) (t1 : Nat) (ht1 : h_LT t1) (v3 : Int32) (v4 : Int32) (I : hI) (J : hJ) (B : Bool × Bool) (q : hI) (h : mRo_fill t1 v3 v4 I = some q) : HMet hFT yX7_fill cX7_fill 8 none kdC d [.ref 7, .ref t1, .ref 6, .int v3, .int v4] (I, J, RM B) none (q, J, RM B) := by
  obtain ⟨d0, rfl, hd0⟩ := h_mono hd
  refine HMet.of (by decide) (Nat.le_of_ble_eq_true rfl) ?_
  show AW hFT cX7_fill 8 none RX7 kdC (d0 + 1) [(0, .ref 7), (1, .ref t1), (2, .ref 6), (3, .int v3), (4, .int v4)] 0 [] (I, J, RM B) none (q, J, RM B)
  unfold mRo_fill at h
  refine a_iload_n dX7_fill_0 rfl rfl ?_
  refine a_bipush dX7_fill_1 bp_80 ?_
  refine a_callSN1 [] yy_X10_isOutside ml_7_100 (sC_isOutside _ (by omega) v3 (80 : Int32) I J B _ rfl) rfl rfl (Nat.le_of_ble_eq_true rfl) dX7_fill_3 ?_
  refine a_if_eq (tgt := 10) dX7_fill_6 (by decide) (fun c => ?_) (fun c => ?_)
  · replace h := h_iteT c h
    refine a_iload_n dX7_fill_10 rfl rfl ?_
    refine a_bipush dX7_fill_11 bp_8 ?_
    refine a_idiv dX7_fill_13 (by decide) ?_
    obtain ⟨v5x0, ev5x0, h⟩ := h_letS h
    refine a_topI ev5x0 ?_
    refine a_istore (lv' := [(5, .int v5x0), (0, .ref 7), (1, .ref t1), (2, .ref 6), (3, .int v3), (4, .int v4)]) dX7_fill_14 (by decide) rfl ?_
    refine a_aload_n dX7_fill_16 rfl rfl ?_
    refine b_getR hK_7 kc_7 (i := 1) rfl fl_7_15 rfl (rm_7_1 B) dX7_fill_17 ?_
    refine a_iload_n dX7_fill_20 rfl rfl ?_
    refine a_iload dX7_fill_21 rfl ?_
    obtain ⟨g2, h⟩ := h_gS h
    refine b_iastore kc_9 (h_inV g2) dX7_fill_23 ?_
    obtain ⟨I3, eI3, h⟩ := h_letS h
    refine a_memI eI3 ?_
    refine a_aload_n dX7_fill_24 rfl rfl ?_
    refine b_getR hK_7 kc_7 (i := 2) rfl fl_7_18 rfl (rm_7_2 B) dX7_fill_25 ?_
    refine a_iload_n dX7_fill_28 rfl rfl ?_
    refine a_iconst dX7_fill_29 ic_0 ?_
    obtain ⟨g4, h⟩ := h_gS h
    refine b_iastore kc_10 (h_inV g4) dX7_fill_30 ?_
    obtain ⟨I5, eI5, h⟩ := h_letS h
    refine a_memI eI5 ?_
    refine a_aload_n dX7_fill_31 rfl rfl ?_
    refine b_getR hK_7 kc_7 (i := 3) rfl fl_7_21 rfl (rm_7_3 B) dX7_fill_32 ?_
    refine a_iload_n dX7_fill_35 rfl rfl ?_
    refine a_iconst dX7_fill_36 ic_0 ?_
    obtain ⟨g6, h⟩ := h_gS h
    refine b_iastore kc_11 (h_inV g6) dX7_fill_37 ?_
    obtain ⟨I7, eI7, h⟩ := h_letS h
    refine a_memI eI7 ?_
    refine a_iconst dX7_fill_38 ic_0 ?_
    refine a_istore (lv' := [(6, .int (0 : Int32)), (5, .int v5x0), (0, .ref 7), (1, .ref t1), (2, .ref 6), (3, .int v3), (4, .int v4)]) dX7_fill_39 (by decide) rfl ?_
    refine a_sub (lv' := [(0, .ref 7), (1, .ref t1), (2, .ref 6), (3, .int v3), (4, .int v4), (5, .int v5x0), (6, .int (0 : Int32))]) [2, 3, 4, 5, 6, 1, 0] rfl ?_
    exact sRo_fill_L41 (d0 + 1) (by omega) hF t1 ht1 v3 v4 v5x0 (0 : Int32) I7 J B _ h
  · replace h := h_iteF c h
    cases h
    exact a_vret dX7_fill_9
/-! CoinLoops$Rounds.isAlike(II)Z -/
theorem dX7_isAlike_0 : decode cX7_isAlike 0 = .ok (.iload_n 1, 1) := by decide +kernel
theorem dX7_isAlike_1 : decode cX7_isAlike 1 = .ok (.bipush 80, 2) := by decide +kernel
theorem dX7_isAlike_3 : decode cX7_isAlike 3 = .ok (.invokestatic 100, 3) := by decide +kernel
theorem dX7_isAlike_6 : decode cX7_isAlike 6 = .ok (.ifCond .ne 42, 3) := by decide +kernel
theorem dX7_isAlike_9 : decode cX7_isAlike 9 = .ok (.iload_n 2, 1) := by decide +kernel
theorem dX7_isAlike_10 : decode cX7_isAlike 10 = .ok (.bipush 80, 2) := by decide +kernel
theorem dX7_isAlike_12 : decode cX7_isAlike 12 = .ok (.invokestatic 100, 3) := by decide +kernel
theorem dX7_isAlike_15 : decode cX7_isAlike 15 = .ok (.ifCond .ne 33, 3) := by decide +kernel
theorem dX7_isAlike_18 : decode cX7_isAlike 18 = .ok (.aload_n 0, 1) := by decide +kernel
theorem dX7_isAlike_19 : decode cX7_isAlike 19 = .ok (.getfield 18, 3) := by decide +kernel
theorem dX7_isAlike_22 : decode cX7_isAlike 22 = .ok (.iload_n 1, 1) := by decide +kernel
theorem dX7_isAlike_23 : decode cX7_isAlike 23 = .ok (.iaload, 1) := by decide +kernel
theorem dX7_isAlike_24 : decode cX7_isAlike 24 = .ok (.aload_n 0, 1) := by decide +kernel
theorem dX7_isAlike_25 : decode cX7_isAlike 25 = .ok (.getfield 18, 3) := by decide +kernel
theorem dX7_isAlike_28 : decode cX7_isAlike 28 = .ok (.iload_n 2, 1) := by decide +kernel
theorem dX7_isAlike_29 : decode cX7_isAlike 29 = .ok (.iaload, 1) := by decide +kernel
theorem dX7_isAlike_30 : decode cX7_isAlike 30 = .ok (.if_icmp .ne 18, 3) := by decide +kernel
theorem dX7_isAlike_33 : decode cX7_isAlike 33 = .ok (.aload_n 0, 1) := by decide +kernel
theorem dX7_isAlike_34 : decode cX7_isAlike 34 = .ok (.getfield 21, 3) := by decide +kernel
theorem dX7_isAlike_37 : decode cX7_isAlike 37 = .ok (.iload_n 1, 1) := by decide +kernel
theorem dX7_isAlike_38 : decode cX7_isAlike 38 = .ok (.iaload, 1) := by decide +kernel
theorem dX7_isAlike_39 : decode cX7_isAlike 39 = .ok (.aload_n 0, 1) := by decide +kernel
theorem dX7_isAlike_40 : decode cX7_isAlike 40 = .ok (.getfield 21, 3) := by decide +kernel
theorem dX7_isAlike_43 : decode cX7_isAlike 43 = .ok (.iload_n 2, 1) := by decide +kernel
theorem dX7_isAlike_44 : decode cX7_isAlike 44 = .ok (.iaload, 1) := by decide +kernel
theorem dX7_isAlike_45 : decode cX7_isAlike 45 = .ok (.if_icmp .eq 5, 3) := by decide +kernel
theorem dX7_isAlike_48 : decode cX7_isAlike 48 = .ok (.iconst 0, 1) := by decide +kernel
theorem dX7_isAlike_49 : decode cX7_isAlike 49 = .ok (.ireturn, 1) := by decide +kernel
theorem dX7_isAlike_50 : decode cX7_isAlike 50 = .ok (.iconst 0, 1) := by decide +kernel
theorem dX7_isAlike_51 : decode cX7_isAlike 51 = .ok (.istore_n 3, 1) := by decide +kernel
theorem dX7_isAlike_52 : decode cX7_isAlike 52 = .ok (.iload_n 3, 1) := by decide +kernel
theorem dX7_isAlike_53 : decode cX7_isAlike 53 = .ok (.aload_n 0, 1) := by decide +kernel
theorem dX7_isAlike_54 : decode cX7_isAlike 54 = .ok (.getfield 44, 3) := by decide +kernel
theorem dX7_isAlike_57 : decode cX7_isAlike 57 = .ok (.if_icmp .ge 26, 3) := by decide +kernel
theorem dX7_isAlike_60 : decode cX7_isAlike 60 = .ok (.aload_n 0, 1) := by decide +kernel
theorem dX7_isAlike_61 : decode cX7_isAlike 61 = .ok (.iload_n 1, 1) := by decide +kernel
theorem dX7_isAlike_62 : decode cX7_isAlike 62 = .ok (.iload_n 3, 1) := by decide +kernel
theorem dX7_isAlike_63 : decode cX7_isAlike 63 = .ok (.invokevirtual 97, 3) := by decide +kernel
theorem dX7_isAlike_66 : decode cX7_isAlike 66 = .ok (.aload_n 0, 1) := by decide +kernel
theorem dX7_isAlike_67 : decode cX7_isAlike 67 = .ok (.iload_n 2, 1) := by decide +kernel
theorem dX7_isAlike_68 : decode cX7_isAlike 68 = .ok (.iload_n 3, 1) := by decide +kernel
theorem dX7_isAlike_69 : decode cX7_isAlike 69 = .ok (.invokevirtual 97, 3) := by decide +kernel
theorem dX7_isAlike_72 : decode cX7_isAlike 72 = .ok (.if_icmp .eq 5, 3) := by decide +kernel
theorem dX7_isAlike_75 : decode cX7_isAlike 75 = .ok (.iconst 0, 1) := by decide +kernel
theorem dX7_isAlike_76 : decode cX7_isAlike 76 = .ok (.ireturn, 1) := by decide +kernel
theorem dX7_isAlike_77 : decode cX7_isAlike 77 = .ok (.iinc 3 1, 3) := by decide +kernel
theorem dX7_isAlike_80 : decode cX7_isAlike 80 = .ok (.goto (-28), 3) := by decide +kernel
theorem dX7_isAlike_83 : decode cX7_isAlike 83 = .ok (.iconst 1, 1) := by decide +kernel
theorem dX7_isAlike_84 : decode cX7_isAlike 84 = .ok (.ireturn, 1) := by decide +kernel
def mRo_isAlike_B52 (k52 : Int32 → Int32 → Int32 → hI → Option (Int32)) (v1 : Int32) (v2 : Int32) (v3 : Int32) (I : hI) : Option (Int32) :=
  if (I 7 5) ≤ v3 then
    some (1 : Int32)
  else
    ((mRo_quarters v1 v3 I).bind fun q1 =>
    (mRo_quarters v2 v3 I).bind fun q2 =>
    if q1 = q2 then
      k52 v1 v2 (v3 + (1 : Int32)) I
    else
      some (0 : Int32))
set_option maxHeartbeats 4000000 in
theorem sRo_isAlike_B52 (d : Nat) (hd : 0 + 1 ≤ d) (k52 : Int32 → Int32 → Int32 → hI → Option (Int32)) (hk52 : ∀ (v1 : Int32) (v2 : Int32) (v3 : Int32) (I : hI) (J : hJ) (B : Bool × Bool) (q : Int32), k52 v1 v2 v3 I = some q → AW hFT cX7_isAlike 4 (some .boolean) RX7 kdC d [(0, .ref 7), (1, .int v1), (2, .int v2), (3, .int v3)] 52 [] (I, J, RM B) (some (.int q)) (I, J, RM B)) (v1 : Int32) (v2 : Int32) (v3 : Int32) (I : hI) (J : hJ) (B : Bool × Bool) (q : Int32) (h : mRo_isAlike_B52 k52 v1 v2 v3 I = some q) : AW hFT cX7_isAlike 4 (some .boolean) RX7 kdC d [(0, .ref 7), (1, .int v1), (2, .int v2), (3, .int v3)] 52 [] (I, J, RM B) (some (.int q)) (I, J, RM B) := by
  obtain ⟨d0, rfl, hd0⟩ := h_mono hd
  unfold mRo_isAlike_B52 at h
  refine a_iload_n dX7_isAlike_52 rfl rfl ?_
  refine a_aload_n dX7_isAlike_53 rfl rfl ?_
  refine b_getI hK_7 kc_7 (i := 5) rfl fl_7_44 rfl dX7_isAlike_54 ?_
  refine a_icmp_ge (tgt := 83) dX7_isAlike_57 (by decide) (fun c => ?_) (fun c => ?_)
  · replace h := h_iteT c h
    refine a_iconst dX7_isAlike_83 ic_1 ?_
    cases h
    exact a_zret (h_Z1.1) dX7_isAlike_84
  · replace h := h_iteF c h
    refine a_aload_n dX7_isAlike_60 rfl rfl ?_
    refine a_iload_n dX7_isAlike_61 rfl rfl ?_
    refine a_iload_n dX7_isAlike_62 rfl rfl ?_
    obtain ⟨q1, cq1, h⟩ := h_bindS h
    refine a_callV1 [] yy_X7_quarters ml_7_97 kc_7 rfl (sRo_quarters _ (by omega) v1 v3 I J B q1 cq1) rfl rfl (Nat.le_of_ble_eq_true rfl) dX7_isAlike_63 ?_
    refine a_aload_n dX7_isAlike_66 rfl rfl ?_
    refine a_iload_n dX7_isAlike_67 rfl rfl ?_
    refine a_iload_n dX7_isAlike_68 rfl rfl ?_
    obtain ⟨q2, cq2, h⟩ := h_bindS h
    refine a_callV1 [.int q1] yy_X7_quarters ml_7_97 kc_7 rfl (sRo_quarters _ (by omega) v2 v3 I J B q2 cq2) rfl rfl (Nat.le_of_ble_eq_true rfl) dX7_isAlike_69 ?_
    refine a_icmp_eq (tgt := 77) dX7_isAlike_72 (by decide) (fun c => ?_) (fun c => ?_)
    · replace h := h_iteT c h
      refine b_iinc (lv' := [(3, .int (v3 + (1 : Int32))), (0, .ref 7), (1, .int v1), (2, .int v2)]) dX7_isAlike_77 rfl ic_1 (by decide) rfl ?_
      refine a_goto (tgt := 52) dX7_isAlike_80 (by decide) ?_
      refine a_sub (lv' := [(0, .ref 7), (1, .int v1), (2, .int v2), (3, .int (v3 + (1 : Int32)))]) [1, 2, 3, 0] rfl ?_
      exact hk52 v1 v2 (v3 + (1 : Int32)) I J B _ h
    · replace h := h_iteF c h
      refine a_iconst dX7_isAlike_75 ic_0 ?_
      cases h
      exact a_zret (h_Z0.1) dX7_isAlike_76
def mRo_isAlike_L52  : Nat → Int32 → Int32 → Int32 → hI → Option (Int32)
  | 0 => fun _ _ _ _ => none
  | n + 1 => mRo_isAlike_B52 (mRo_isAlike_L52 n)
theorem sRo_isAlike_L52 (d : Nat) (hd : 0 + 1 ≤ d) : ∀ (n : Nat) (v1 : Int32) (v2 : Int32) (v3 : Int32) (I : hI) (J : hJ) (B : Bool × Bool) (q : Int32) (h : mRo_isAlike_L52 n v1 v2 v3 I = some q), AW hFT cX7_isAlike 4 (some .boolean) RX7 kdC d [(0, .ref 7), (1, .int v1), (2, .int v2), (3, .int v3)] 52 [] (I, J, RM B) (some (.int q)) (I, J, RM B)
  | 0, _, _, _, _, _, _, q, h => by cases h
  | n + 1, v1, v2, v3, I, J, B, q, h => sRo_isAlike_B52 d hd (mRo_isAlike_L52 n) (sRo_isAlike_L52 d hd n) v1 v2 v3 I J B q h
def mRo_isAlike  (v1 : Int32) (v2 : Int32) (I : hI) : Option (Int32) :=
  if (mC_isOutside v1 (80 : Int32)) = 0 then
    (if (mC_isOutside v2 (80 : Int32)) = 0 then
      (h_g (h_in v1 80) <|
      h_g (h_in v2 80) <|
      if (I 10 v1.toNatClampNeg) = (I 10 v2.toNatClampNeg) then
        (h_g (h_in v1 80) <|
        h_g (h_in v2 80) <|
        if (I 11 v1.toNatClampNeg) = (I 11 v2.toNatClampNeg) then
          mRo_isAlike_L52 hF v1 v2 (0 : Int32) I
        else
          some (0 : Int32))
      else
        some (0 : Int32))
    else
      some (0 : Int32))
  else
    some (0 : Int32)
set_option maxHeartbeats 4000000 in
theorem sRo_isAlike (d : Nat) (hd : 0 + 1 ≤ d) (v1 : Int32) (v2 : Int32) (I : hI) (J : hJ) (B : Bool × Bool) (q : Int32) (h : mRo_isAlike v1 v2 I = some q) : HMet hFT yX7_isAlike cX7_isAlike 4 (some .boolean) kdC d [.ref 7, .int v1, .int v2] (I, J, RM B) (some (.int q)) (I, J, RM B) := by
  obtain ⟨d0, rfl, hd0⟩ := h_mono hd
  refine HMet.of (by decide) (Nat.le_of_ble_eq_true rfl) ?_
  show AW hFT cX7_isAlike 4 (some .boolean) RX7 kdC (d0 + 1) [(0, .ref 7), (1, .int v1), (2, .int v2)] 0 [] (I, J, RM B) (some (.int q)) (I, J, RM B)
  unfold mRo_isAlike at h
  refine a_iload_n dX7_isAlike_0 rfl rfl ?_
  refine a_bipush dX7_isAlike_1 bp_80 ?_
  refine a_callSN1 [] yy_X10_isOutside ml_7_100 (sC_isOutside _ (by omega) v1 (80 : Int32) I J B _ rfl) rfl rfl (Nat.le_of_ble_eq_true rfl) dX7_isAlike_3 ?_
  refine a_if_ne (tgt := 48) dX7_isAlike_6 (by decide) (fun c => ?_) (fun c => ?_)
  · replace h := h_iteF c h
    refine a_iconst dX7_isAlike_48 ic_0 ?_
    cases h
    exact a_zret (h_Z0.1) dX7_isAlike_49
  · replace h := h_iteT c h
    refine a_iload_n dX7_isAlike_9 rfl rfl ?_
    refine a_bipush dX7_isAlike_10 bp_80 ?_
    refine a_callSN1 [] yy_X10_isOutside ml_7_100 (sC_isOutside _ (by omega) v2 (80 : Int32) I J B _ rfl) rfl rfl (Nat.le_of_ble_eq_true rfl) dX7_isAlike_12 ?_
    refine a_if_ne (tgt := 48) dX7_isAlike_15 (by decide) (fun c => ?_) (fun c => ?_)
    · replace h := h_iteF c h
      refine a_iconst dX7_isAlike_48 ic_0 ?_
      cases h
      exact a_zret (h_Z0.1) dX7_isAlike_49
    · replace h := h_iteT c h
      refine a_aload_n dX7_isAlike_18 rfl rfl ?_
      refine b_getR hK_7 kc_7 (i := 2) rfl fl_7_18 rfl (rm_7_2 B) dX7_isAlike_19 ?_
      refine a_iload_n dX7_isAlike_22 rfl rfl ?_
      obtain ⟨g1, h⟩ := h_gS h
      refine b_iaload kc_10 (h_inV g1) dX7_isAlike_23 ?_
      refine a_aload_n dX7_isAlike_24 rfl rfl ?_
      refine b_getR hK_7 kc_7 (i := 2) rfl fl_7_18 rfl (rm_7_2 B) dX7_isAlike_25 ?_
      refine a_iload_n dX7_isAlike_28 rfl rfl ?_
      obtain ⟨g2, h⟩ := h_gS h
      refine b_iaload kc_10 (h_inV g2) dX7_isAlike_29 ?_
      refine a_icmp_ne (tgt := 48) dX7_isAlike_30 (by decide) (fun c => ?_) (fun c => ?_)
      · replace h := h_iteF c h
        refine a_iconst dX7_isAlike_48 ic_0 ?_
        cases h
        exact a_zret (h_Z0.1) dX7_isAlike_49
      · replace h := h_iteT c h
        refine a_aload_n dX7_isAlike_33 rfl rfl ?_
        refine b_getR hK_7 kc_7 (i := 3) rfl fl_7_21 rfl (rm_7_3 B) dX7_isAlike_34 ?_
        refine a_iload_n dX7_isAlike_37 rfl rfl ?_
        obtain ⟨g3, h⟩ := h_gS h
        refine b_iaload kc_11 (h_inV g3) dX7_isAlike_38 ?_
        refine a_aload_n dX7_isAlike_39 rfl rfl ?_
        refine b_getR hK_7 kc_7 (i := 3) rfl fl_7_21 rfl (rm_7_3 B) dX7_isAlike_40 ?_
        refine a_iload_n dX7_isAlike_43 rfl rfl ?_
        obtain ⟨g4, h⟩ := h_gS h
        refine b_iaload kc_11 (h_inV g4) dX7_isAlike_44 ?_
        refine a_icmp_eq (tgt := 50) dX7_isAlike_45 (by decide) (fun c => ?_) (fun c => ?_)
        · replace h := h_iteT c h
          refine a_iconst dX7_isAlike_50 ic_0 ?_
          refine a_istore_n (lv' := [(3, .int (0 : Int32)), (0, .ref 7), (1, .int v1), (2, .int v2)]) dX7_isAlike_51 rfl (by decide) rfl ?_
          refine a_sub (lv' := [(0, .ref 7), (1, .int v1), (2, .int v2), (3, .int (0 : Int32))]) [1, 2, 3, 0] rfl ?_
          exact sRo_isAlike_L52 (d0 + 1) (by omega) hF v1 v2 (0 : Int32) I J B _ h
        · replace h := h_iteF c h
          refine a_iconst dX7_isAlike_48 ic_0 ?_
          cases h
          exact a_zret (h_Z0.1) dX7_isAlike_49
/-! CoinLoops$Rounds.isUnlike(I)Z -/
theorem dX7_isUnlike_0 : decode cX7_isUnlike 0 = .ok (.iload_n 1, 1) := by decide +kernel
theorem dX7_isUnlike_1 : decode cX7_isUnlike 1 = .ok (.iload_n 1, 1) := by decide +kernel
theorem dX7_isUnlike_2 : decode cX7_isUnlike 2 = .ok (.bipush 8, 2) := by decide +kernel
theorem dX7_isUnlike_4 : decode cX7_isUnlike 4 = .ok (.irem, 1) := by decide +kernel
theorem dX7_isUnlike_5 : decode cX7_isUnlike 5 = .ok (.isub, 1) := by decide +kernel
theorem dX7_isUnlike_6 : decode cX7_isUnlike 6 = .ok (.istore_n 2, 1) := by decide +kernel
theorem dX7_isUnlike_7 : decode cX7_isUnlike 7 = .ok (.iload_n 2, 1) := by decide +kernel
theorem dX7_isUnlike_8 : decode cX7_isUnlike 8 = .ok (.iload_n 1, 1) := by decide +kernel
theorem dX7_isUnlike_9 : decode cX7_isUnlike 9 = .ok (.if_icmp .ge 20, 3) := by decide +kernel
theorem dX7_isUnlike_12 : decode cX7_isUnlike 12 = .ok (.aload_n 0, 1) := by decide +kernel
theorem dX7_isUnlike_13 : decode cX7_isUnlike 13 = .ok (.iload_n 2, 1) := by decide +kernel
theorem dX7_isUnlike_14 : decode cX7_isUnlike 14 = .ok (.iload_n 1, 1) := by decide +kernel
theorem dX7_isUnlike_15 : decode cX7_isUnlike 15 = .ok (.invokevirtual 129, 3) := by decide +kernel
theorem dX7_isUnlike_18 : decode cX7_isUnlike 18 = .ok (.ifCond .eq 5, 3) := by decide +kernel
theorem dX7_isUnlike_21 : decode cX7_isUnlike 21 = .ok (.iconst 0, 1) := by decide +kernel
theorem dX7_isUnlike_22 : decode cX7_isUnlike 22 = .ok (.ireturn, 1) := by decide +kernel
theorem dX7_isUnlike_23 : decode cX7_isUnlike 23 = .ok (.iinc 2 1, 3) := by decide +kernel
theorem dX7_isUnlike_26 : decode cX7_isUnlike 26 = .ok (.goto (-19), 3) := by decide +kernel
theorem dX7_isUnlike_29 : decode cX7_isUnlike 29 = .ok (.iconst 1, 1) := by decide +kernel
theorem dX7_isUnlike_30 : decode cX7_isUnlike 30 = .ok (.ireturn, 1) := by decide +kernel
def mRo_isUnlike_B7 (k7 : Int32 → Int32 → hI → Option (Int32)) (v1 : Int32) (v2 : Int32) (I : hI) : Option (Int32) :=
  if v1 ≤ v2 then
    some (1 : Int32)
  else
    ((mRo_isAlike v2 v1 I).bind fun q1 =>
    if q1 = 0 then
      k7 v1 (v2 + (1 : Int32)) I
    else
      some (0 : Int32))
set_option maxHeartbeats 4000000 in
theorem sRo_isUnlike_B7 (d : Nat) (hd : 1 + 1 ≤ d) (k7 : Int32 → Int32 → hI → Option (Int32)) (hk7 : ∀ (v1 : Int32) (v2 : Int32) (I : hI) (J : hJ) (B : Bool × Bool) (q : Int32), k7 v1 v2 I = some q → AW hFT cX7_isUnlike 3 (some .boolean) RX7 kdC d [(0, .ref 7), (1, .int v1), (2, .int v2)] 7 [] (I, J, RM B) (some (.int q)) (I, J, RM B)) (v1 : Int32) (v2 : Int32) (I : hI) (J : hJ) (B : Bool × Bool) (q : Int32) (h : mRo_isUnlike_B7 k7 v1 v2 I = some q) : AW hFT cX7_isUnlike 3 (some .boolean) RX7 kdC d [(0, .ref 7), (1, .int v1), (2, .int v2)] 7 [] (I, J, RM B) (some (.int q)) (I, J, RM B) := by
  obtain ⟨d0, rfl, hd0⟩ := h_mono hd
  unfold mRo_isUnlike_B7 at h
  refine a_iload_n dX7_isUnlike_7 rfl rfl ?_
  refine a_iload_n dX7_isUnlike_8 rfl rfl ?_
  refine a_icmp_ge (tgt := 29) dX7_isUnlike_9 (by decide) (fun c => ?_) (fun c => ?_)
  · replace h := h_iteT c h
    refine a_iconst dX7_isUnlike_29 ic_1 ?_
    cases h
    exact a_zret (h_Z1.1) dX7_isUnlike_30
  · replace h := h_iteF c h
    refine a_aload_n dX7_isUnlike_12 rfl rfl ?_
    refine a_iload_n dX7_isUnlike_13 rfl rfl ?_
    refine a_iload_n dX7_isUnlike_14 rfl rfl ?_
    obtain ⟨q1, cq1, h⟩ := h_bindS h
    refine a_callV1 [] yy_X7_isAlike ml_7_129 kc_7 rfl (sRo_isAlike _ (by omega) v2 v1 I J B q1 cq1) rfl rfl (Nat.le_of_ble_eq_true rfl) dX7_isUnlike_15 ?_
    refine a_if_eq (tgt := 23) dX7_isUnlike_18 (by decide) (fun c => ?_) (fun c => ?_)
    · replace h := h_iteT c h
      refine b_iinc (lv' := [(2, .int (v2 + (1 : Int32))), (0, .ref 7), (1, .int v1)]) dX7_isUnlike_23 rfl ic_1 (by decide) rfl ?_
      refine a_goto (tgt := 7) dX7_isUnlike_26 (by decide) ?_
      refine a_sub (lv' := [(0, .ref 7), (1, .int v1), (2, .int (v2 + (1 : Int32)))]) [1, 2, 0] rfl ?_
      exact hk7 v1 (v2 + (1 : Int32)) I J B _ h
    · replace h := h_iteF c h
      refine a_iconst dX7_isUnlike_21 ic_0 ?_
      cases h
      exact a_zret (h_Z0.1) dX7_isUnlike_22
def mRo_isUnlike_L7  : Nat → Int32 → Int32 → hI → Option (Int32)
  | 0 => fun _ _ _ => none
  | n + 1 => mRo_isUnlike_B7 (mRo_isUnlike_L7 n)
theorem sRo_isUnlike_L7 (d : Nat) (hd : 1 + 1 ≤ d) : ∀ (n : Nat) (v1 : Int32) (v2 : Int32) (I : hI) (J : hJ) (B : Bool × Bool) (q : Int32) (h : mRo_isUnlike_L7 n v1 v2 I = some q), AW hFT cX7_isUnlike 3 (some .boolean) RX7 kdC d [(0, .ref 7), (1, .int v1), (2, .int v2)] 7 [] (I, J, RM B) (some (.int q)) (I, J, RM B)
  | 0, _, _, _, _, _, q, h => by cases h
  | n + 1, v1, v2, I, J, B, q, h => sRo_isUnlike_B7 d hd (mRo_isUnlike_L7 n) (sRo_isUnlike_L7 d hd n) v1 v2 I J B q h
def mRo_isUnlike  (v1 : Int32) (I : hI) : Option (Int32) :=
  h_let (v1 - (v1 - v1 / (8 : Int32) * (8 : Int32))) fun v2x0 =>
  mRo_isUnlike_L7 hF v1 v2x0 I
set_option maxHeartbeats 4000000 in
theorem sRo_isUnlike (d : Nat) (hd : 1 + 1 ≤ d) (v1 : Int32) (I : hI) (J : hJ) (B : Bool × Bool) (q : Int32) (h : mRo_isUnlike v1 I = some q) : HMet hFT yX7_isUnlike cX7_isUnlike 3 (some .boolean) kdC d [.ref 7, .int v1] (I, J, RM B) (some (.int q)) (I, J, RM B) := by
  obtain ⟨d0, rfl, hd0⟩ := h_mono hd
  refine HMet.of (by decide) (Nat.le_of_ble_eq_true rfl) ?_
  show AW hFT cX7_isUnlike 3 (some .boolean) RX7 kdC (d0 + 1) [(0, .ref 7), (1, .int v1)] 0 [] (I, J, RM B) (some (.int q)) (I, J, RM B)
  unfold mRo_isUnlike at h
  refine a_iload_n dX7_isUnlike_0 rfl rfl ?_
  refine a_iload_n dX7_isUnlike_1 rfl rfl ?_
  refine a_bipush dX7_isUnlike_2 bp_8 ?_
  refine a_irem dX7_isUnlike_4 (by decide) ?_
  refine a_isub dX7_isUnlike_5 ?_
  obtain ⟨v2x0, ev2x0, h⟩ := h_letS h
  refine a_topI ev2x0 ?_
  refine a_istore_n (lv' := [(2, .int v2x0), (0, .ref 7), (1, .int v1)]) dX7_isUnlike_6 rfl (by decide) rfl ?_
  refine a_sub (lv' := [(0, .ref 7), (1, .int v1), (2, .int v2x0)]) [1, 2, 0] rfl ?_
  exact sRo_isUnlike_L7 (d0 + 1) (by omega) hF v1 v2x0 I J B _ h
/-! CoinLoops$Rounds.countPlans()I -/
theorem dX7_countPlans_0 : decode cX7_countPlans 0 = .ok (.iconst 1, 1) := by decide +kernel
theorem dX7_countPlans_1 : decode cX7_countPlans 1 = .ok (.istore_n 1, 1) := by decide +kernel
theorem dX7_countPlans_2 : decode cX7_countPlans 2 = .ok (.iconst 0, 1) := by decide +kernel
theorem dX7_countPlans_3 : decode cX7_countPlans 3 = .ok (.istore_n 2, 1) := by decide +kernel
theorem dX7_countPlans_4 : decode cX7_countPlans 4 = .ok (.iload_n 2, 1) := by decide +kernel
theorem dX7_countPlans_5 : decode cX7_countPlans 5 = .ok (.aload_n 0, 1) := by decide +kernel
theorem dX7_countPlans_6 : decode cX7_countPlans 6 = .ok (.getfield 44, 3) := by decide +kernel
theorem dX7_countPlans_9 : decode cX7_countPlans 9 = .ok (.if_icmp .ge 35, 3) := by decide +kernel
theorem dX7_countPlans_12 : decode cX7_countPlans 12 = .ok (.aload_n 0, 1) := by decide +kernel
theorem dX7_countPlans_13 : decode cX7_countPlans 13 = .ok (.iload_n 2, 1) := by decide +kernel
theorem dX7_countPlans_14 : decode cX7_countPlans 14 = .ok (.invokevirtual 72, 3) := by decide +kernel
theorem dX7_countPlans_17 : decode cX7_countPlans 17 = .ok (.ifCond .eq 12, 3) := by decide +kernel
theorem dX7_countPlans_20 : decode cX7_countPlans 20 = .ok (.iload_n 1, 1) := by decide +kernel
theorem dX7_countPlans_21 : decode cX7_countPlans 21 = .ok (.aload_n 0, 1) := by decide +kernel
theorem dX7_countPlans_22 : decode cX7_countPlans 22 = .ok (.getfield 9, 3) := by decide +kernel
theorem dX7_countPlans_25 : decode cX7_countPlans 25 = .ok (.iload_n 2, 1) := by decide +kernel
theorem dX7_countPlans_26 : decode cX7_countPlans 26 = .ok (.iaload, 1) := by decide +kernel
theorem dX7_countPlans_27 : decode cX7_countPlans 27 = .ok (.imul, 1) := by decide +kernel
theorem dX7_countPlans_28 : decode cX7_countPlans 28 = .ok (.istore_n 1, 1) := by decide +kernel
theorem dX7_countPlans_29 : decode cX7_countPlans 29 = .ok (.iload_n 1, 1) := by decide +kernel
theorem dX7_countPlans_30 : decode cX7_countPlans 30 = .ok (.bipush 64, 2) := by decide +kernel
theorem dX7_countPlans_32 : decode cX7_countPlans 32 = .ok (.if_icmp .le 6, 3) := by decide +kernel
theorem dX7_countPlans_35 : decode cX7_countPlans 35 = .ok (.bipush (-2), 2) := by decide +kernel
theorem dX7_countPlans_37 : decode cX7_countPlans 37 = .ok (.ireturn, 1) := by decide +kernel
theorem dX7_countPlans_38 : decode cX7_countPlans 38 = .ok (.iinc 2 1, 3) := by decide +kernel
theorem dX7_countPlans_41 : decode cX7_countPlans 41 = .ok (.goto (-37), 3) := by decide +kernel
theorem dX7_countPlans_44 : decode cX7_countPlans 44 = .ok (.iload_n 1, 1) := by decide +kernel
theorem dX7_countPlans_45 : decode cX7_countPlans 45 = .ok (.ireturn, 1) := by decide +kernel
def mRo_countPlans_29 (k4 : Int32 → Int32 → hI → Option (Int32)) (v1 : Int32) (v2 : Int32) (I : hI) : Option (Int32) :=
  if v1 ≤ (64 : Int32) then
    k4 v1 (v2 + (1 : Int32)) I
  else
    some (-2 : Int32)
set_option maxHeartbeats 4000000 in
theorem sRo_countPlans_29 (d : Nat) (hd : 0 + 1 ≤ d) (k4 : Int32 → Int32 → hI → Option (Int32)) (hk4 : ∀ (v1 : Int32) (v2 : Int32) (I : hI) (J : hJ) (B : Bool × Bool) (q : Int32), k4 v1 v2 I = some q → AW hFT cX7_countPlans 3 (some .int) RX7 kdC d [(0, .ref 7), (1, .int v1), (2, .int v2)] 4 [] (I, J, RM B) (some (.int q)) (I, J, RM B)) (v1 : Int32) (v2 : Int32) (I : hI) (J : hJ) (B : Bool × Bool) (q : Int32) (h : mRo_countPlans_29 k4 v1 v2 I = some q) : AW hFT cX7_countPlans 3 (some .int) RX7 kdC d [(0, .ref 7), (1, .int v1), (2, .int v2)] 29 [] (I, J, RM B) (some (.int q)) (I, J, RM B) := by
  obtain ⟨d0, rfl, hd0⟩ := h_mono hd
  unfold mRo_countPlans_29 at h
  refine a_iload_n dX7_countPlans_29 rfl rfl ?_
  refine a_bipush dX7_countPlans_30 bp_64 ?_
  refine a_icmp_le (tgt := 38) dX7_countPlans_32 (by decide) (fun c => ?_) (fun c => ?_)
  · replace h := h_iteT c h
    refine b_iinc (lv' := [(2, .int (v2 + (1 : Int32))), (0, .ref 7), (1, .int v1)]) dX7_countPlans_38 rfl ic_1 (by decide) rfl ?_
    refine a_goto (tgt := 4) dX7_countPlans_41 (by decide) ?_
    refine a_sub (lv' := [(0, .ref 7), (1, .int v1), (2, .int (v2 + (1 : Int32)))]) [1, 2, 0] rfl ?_
    exact hk4 v1 (v2 + (1 : Int32)) I J B _ h
  · replace h := h_iteF c h
    refine a_bipush dX7_countPlans_35 bp_m2 ?_
    cases h
    exact a_iret dX7_countPlans_37
def mRo_countPlans_B4 (k4 : Int32 → Int32 → hI → Option (Int32)) (v1 : Int32) (v2 : Int32) (I : hI) : Option (Int32) :=
  if (I 7 5) ≤ v2 then
    some v1
  else
    (if (mRo_isIn v2 I) = 0 then
      mRo_countPlans_29 k4 v1 v2 I
    else
      (h_g (h_in v2 10) <|
      h_let (v1 * (I 8 v2.toNatClampNeg)) fun v1x1 =>
      mRo_countPlans_29 k4 v1x1 v2 I))
set_option maxHeartbeats 4000000 in
theorem sRo_countPlans_B4 (d : Nat) (hd : 0 + 1 ≤ d) (k4 : Int32 → Int32 → hI → Option (Int32)) (hk4 : ∀ (v1 : Int32) (v2 : Int32) (I : hI) (J : hJ) (B : Bool × Bool) (q : Int32), k4 v1 v2 I = some q → AW hFT cX7_countPlans 3 (some .int) RX7 kdC d [(0, .ref 7), (1, .int v1), (2, .int v2)] 4 [] (I, J, RM B) (some (.int q)) (I, J, RM B)) (v1 : Int32) (v2 : Int32) (I : hI) (J : hJ) (B : Bool × Bool) (q : Int32) (h : mRo_countPlans_B4 k4 v1 v2 I = some q) : AW hFT cX7_countPlans 3 (some .int) RX7 kdC d [(0, .ref 7), (1, .int v1), (2, .int v2)] 4 [] (I, J, RM B) (some (.int q)) (I, J, RM B) := by
  obtain ⟨d0, rfl, hd0⟩ := h_mono hd
  unfold mRo_countPlans_B4 at h
  refine a_iload_n dX7_countPlans_4 rfl rfl ?_
  refine a_aload_n dX7_countPlans_5 rfl rfl ?_
  refine b_getI hK_7 kc_7 (i := 5) rfl fl_7_44 rfl dX7_countPlans_6 ?_
  refine a_icmp_ge (tgt := 44) dX7_countPlans_9 (by decide) (fun c => ?_) (fun c => ?_)
  · replace h := h_iteT c h
    refine a_iload_n dX7_countPlans_44 rfl rfl ?_
    cases h
    exact a_iret dX7_countPlans_45
  · replace h := h_iteF c h
    refine a_aload_n dX7_countPlans_12 rfl rfl ?_
    refine a_iload_n dX7_countPlans_13 rfl rfl ?_
    refine a_callV1 [] yy_X7_isIn ml_7_72 kc_7 rfl (sRo_isIn _ (by omega) v2 I J B _ rfl) rfl rfl (Nat.le_of_ble_eq_true rfl) dX7_countPlans_14 ?_
    refine a_if_eq (tgt := 29) dX7_countPlans_17 (by decide) (fun c => ?_) (fun c => ?_)
    · replace h := h_iteT c h
      exact sRo_countPlans_29 (d0 + 1) (by omega) k4 hk4 v1 v2 I J B _ h
    · replace h := h_iteF c h
      refine a_iload_n dX7_countPlans_20 rfl rfl ?_
      refine a_aload_n dX7_countPlans_21 rfl rfl ?_
      refine b_getR hK_7 kc_7 (i := 0) rfl fl_7_9 rfl (rm_7_0 B) dX7_countPlans_22 ?_
      refine a_iload_n dX7_countPlans_25 rfl rfl ?_
      obtain ⟨g1, h⟩ := h_gS h
      refine b_iaload kc_8 (h_inV g1) dX7_countPlans_26 ?_
      refine a_imul dX7_countPlans_27 ?_
      obtain ⟨v1x1, ev1x1, h⟩ := h_letS h
      refine a_topI ev1x1 ?_
      refine a_istore_n (lv' := [(1, .int v1x1), (0, .ref 7), (2, .int v2)]) dX7_countPlans_28 rfl (by decide) rfl ?_
      refine a_sub (lv' := [(0, .ref 7), (1, .int v1x1), (2, .int v2)]) [1, 0, 2] rfl ?_
      exact sRo_countPlans_29 (d0 + 1) (by omega) k4 hk4 v1x1 v2 I J B _ h
def mRo_countPlans_L4  : Nat → Int32 → Int32 → hI → Option (Int32)
  | 0 => fun _ _ _ => none
  | n + 1 => mRo_countPlans_B4 (mRo_countPlans_L4 n)
theorem sRo_countPlans_L4 (d : Nat) (hd : 0 + 1 ≤ d) : ∀ (n : Nat) (v1 : Int32) (v2 : Int32) (I : hI) (J : hJ) (B : Bool × Bool) (q : Int32) (h : mRo_countPlans_L4 n v1 v2 I = some q), AW hFT cX7_countPlans 3 (some .int) RX7 kdC d [(0, .ref 7), (1, .int v1), (2, .int v2)] 4 [] (I, J, RM B) (some (.int q)) (I, J, RM B)
  | 0, _, _, _, _, _, q, h => by cases h
  | n + 1, v1, v2, I, J, B, q, h => sRo_countPlans_B4 d hd (mRo_countPlans_L4 n) (sRo_countPlans_L4 d hd n) v1 v2 I J B q h
def mRo_countPlans   (I : hI) : Option (Int32) :=
  mRo_countPlans_L4 hF (1 : Int32) (0 : Int32) I
set_option maxHeartbeats 4000000 in
theorem sRo_countPlans (d : Nat) (hd : 0 + 1 ≤ d)  (I : hI) (J : hJ) (B : Bool × Bool) (q : Int32) (h : mRo_countPlans I = some q) : HMet hFT yX7_countPlans cX7_countPlans 3 (some .int) kdC d [.ref 7] (I, J, RM B) (some (.int q)) (I, J, RM B) := by
  obtain ⟨d0, rfl, hd0⟩ := h_mono hd
  refine HMet.of (by decide) (Nat.le_of_ble_eq_true rfl) ?_
  show AW hFT cX7_countPlans 3 (some .int) RX7 kdC (d0 + 1) [(0, .ref 7)] 0 [] (I, J, RM B) (some (.int q)) (I, J, RM B)
  unfold mRo_countPlans at h
  refine a_iconst dX7_countPlans_0 ic_1 ?_
  refine a_istore_n (lv' := [(1, .int (1 : Int32)), (0, .ref 7)]) dX7_countPlans_1 rfl (by decide) rfl ?_
  refine a_iconst dX7_countPlans_2 ic_0 ?_
  refine a_istore_n (lv' := [(2, .int (0 : Int32)), (1, .int (1 : Int32)), (0, .ref 7)]) dX7_countPlans_3 rfl (by decide) rfl ?_
  refine a_sub (lv' := [(0, .ref 7), (1, .int (1 : Int32)), (2, .int (0 : Int32))]) [2, 1, 0] rfl ?_
  exact sRo_countPlans_L4 (d0 + 1) (by omega) hF (1 : Int32) (0 : Int32) I J B _ h
/-! CoinLoops$Rounds.makeChoices(LCoinLoops$LoopText;LCoinLoops$Walk;II)V -/
theorem dX7_makeChoices_0 : decode cX7_makeChoices 0 = .ok (.iconst 0, 1) := by decide +kernel
theorem dX7_makeChoices_1 : decode cX7_makeChoices 1 = .ok (.istore 5, 2) := by decide +kernel
theorem dX7_makeChoices_3 : decode cX7_makeChoices 3 = .ok (.iload 5, 2) := by decide +kernel
theorem dX7_makeChoices_5 : decode cX7_makeChoices 5 = .ok (.aload_n 0, 1) := by decide +kernel
theorem dX7_makeChoices_6 : decode cX7_makeChoices 6 = .ok (.getfield 44, 3) := by decide +kernel
theorem dX7_makeChoices_9 : decode cX7_makeChoices 9 = .ok (.if_icmp .ge 105, 3) := by decide +kernel
theorem dX7_makeChoices_12 : decode cX7_makeChoices 12 = .ok (.iconst 0, 1) := by decide +kernel
theorem dX7_makeChoices_13 : decode cX7_makeChoices 13 = .ok (.istore 6, 2) := by decide +kernel
theorem dX7_makeChoices_15 : decode cX7_makeChoices 15 = .ok (.iconst 0, 1) := by decide +kernel
theorem dX7_makeChoices_16 : decode cX7_makeChoices 16 = .ok (.istore 7, 2) := by decide +kernel
theorem dX7_makeChoices_18 : decode cX7_makeChoices 18 = .ok (.iload 7, 2) := by decide +kernel
theorem dX7_makeChoices_20 : decode cX7_makeChoices 20 = .ok (.iconst 1, 1) := by decide +kernel
theorem dX7_makeChoices_21 : decode cX7_makeChoices 21 = .ok (.aload_n 1, 1) := by decide +kernel
theorem dX7_makeChoices_22 : decode cX7_makeChoices 22 = .ok (.getfield 70, 3) := by decide +kernel
theorem dX7_makeChoices_25 : decode cX7_makeChoices 25 = .ok (.ishl, 1) := by decide +kernel
theorem dX7_makeChoices_26 : decode cX7_makeChoices 26 = .ok (.if_icmp .ge 73, 3) := by decide +kernel
theorem dX7_makeChoices_29 : decode cX7_makeChoices 29 = .ok (.aload_n 0, 1) := by decide +kernel
theorem dX7_makeChoices_30 : decode cX7_makeChoices 30 = .ok (.iload 5, 2) := by decide +kernel
theorem dX7_makeChoices_32 : decode cX7_makeChoices 32 = .ok (.invokevirtual 72, 3) := by decide +kernel
theorem dX7_makeChoices_35 : decode cX7_makeChoices 35 = .ok (.ifCond .eq 64, 3) := by decide +kernel
theorem dX7_makeChoices_38 : decode cX7_makeChoices 38 = .ok (.iload 7, 2) := by decide +kernel
theorem dX7_makeChoices_40 : decode cX7_makeChoices 40 = .ok (.iload_n 3, 1) := by decide +kernel
theorem dX7_makeChoices_41 : decode cX7_makeChoices 41 = .ok (.iand, 1) := by decide +kernel
theorem dX7_makeChoices_42 : decode cX7_makeChoices 42 = .ok (.iload 4, 2) := by decide +kernel
theorem dX7_makeChoices_44 : decode cX7_makeChoices 44 = .ok (.if_icmp .ne 49, 3) := by decide +kernel
theorem dX7_makeChoices_47 : decode cX7_makeChoices 47 = .ok (.iload 6, 2) := by decide +kernel
theorem dX7_makeChoices_49 : decode cX7_makeChoices 49 = .ok (.bipush 8, 2) := by decide +kernel
theorem dX7_makeChoices_51 : decode cX7_makeChoices 51 = .ok (.if_icmp .ge 42, 3) := by decide +kernel
theorem dX7_makeChoices_54 : decode cX7_makeChoices 54 = .ok (.iload 5, 2) := by decide +kernel
theorem dX7_makeChoices_56 : decode cX7_makeChoices 56 = .ok (.bipush 8, 2) := by decide +kernel
theorem dX7_makeChoices_58 : decode cX7_makeChoices 58 = .ok (.imul, 1) := by decide +kernel
theorem dX7_makeChoices_59 : decode cX7_makeChoices 59 = .ok (.iload 6, 2) := by decide +kernel
theorem dX7_makeChoices_61 : decode cX7_makeChoices 61 = .ok (.iadd, 1) := by decide +kernel
theorem dX7_makeChoices_62 : decode cX7_makeChoices 62 = .ok (.istore 8, 2) := by decide +kernel
theorem dX7_makeChoices_64 : decode cX7_makeChoices 64 = .ok (.aload_n 0, 1) := by decide +kernel
theorem dX7_makeChoices_65 : decode cX7_makeChoices 65 = .ok (.aload_n 1, 1) := by decide +kernel
theorem dX7_makeChoices_66 : decode cX7_makeChoices 66 = .ok (.aload_n 2, 1) := by decide +kernel
theorem dX7_makeChoices_67 : decode cX7_makeChoices 67 = .ok (.iload 8, 2) := by decide +kernel
theorem dX7_makeChoices_69 : decode cX7_makeChoices 69 = .ok (.iload 7, 2) := by decide +kernel
theorem dX7_makeChoices_71 : decode cX7_makeChoices 71 = .ok (.invokevirtual 76, 3) := by decide +kernel
theorem dX7_makeChoices_74 : decode cX7_makeChoices 74 = .ok (.iload 6, 2) := by decide +kernel
theorem dX7_makeChoices_76 : decode cX7_makeChoices 76 = .ok (.aload_n 0, 1) := by decide +kernel
theorem dX7_makeChoices_77 : decode cX7_makeChoices 77 = .ok (.iload 8, 2) := by decide +kernel
theorem dX7_makeChoices_79 : decode cX7_makeChoices 79 = .ok (.invokevirtual 80, 3) := by decide +kernel
theorem dX7_makeChoices_82 : decode cX7_makeChoices 82 = .ok (.ifCond .eq 7, 3) := by decide +kernel
theorem dX7_makeChoices_85 : decode cX7_makeChoices 85 = .ok (.iconst 1, 1) := by decide +kernel
theorem dX7_makeChoices_86 : decode cX7_makeChoices 86 = .ok (.goto 4, 3) := by decide +kernel
theorem dX7_makeChoices_89 : decode cX7_makeChoices 89 = .ok (.iconst 0, 1) := by decide +kernel
theorem dX7_makeChoices_90 : decode cX7_makeChoices 90 = .ok (.iadd, 1) := by decide +kernel
theorem dX7_makeChoices_91 : decode cX7_makeChoices 91 = .ok (.istore 6, 2) := by decide +kernel
theorem dX7_makeChoices_93 : decode cX7_makeChoices 93 = .ok (.iinc 7 1, 3) := by decide +kernel
theorem dX7_makeChoices_96 : decode cX7_makeChoices 96 = .ok (.goto (-78), 3) := by decide +kernel
theorem dX7_makeChoices_99 : decode cX7_makeChoices 99 = .ok (.aload_n 0, 1) := by decide +kernel
theorem dX7_makeChoices_100 : decode cX7_makeChoices 100 = .ok (.getfield 9, 3) := by decide +kernel
theorem dX7_makeChoices_103 : decode cX7_makeChoices 103 = .ok (.iload 5, 2) := by decide +kernel
theorem dX7_makeChoices_105 : decode cX7_makeChoices 105 = .ok (.iload 6, 2) := by decide +kernel
theorem dX7_makeChoices_107 : decode cX7_makeChoices 107 = .ok (.iastore, 1) := by decide +kernel
theorem dX7_makeChoices_108 : decode cX7_makeChoices 108 = .ok (.iinc 5 1, 3) := by decide +kernel
theorem dX7_makeChoices_111 : decode cX7_makeChoices 111 = .ok (.goto (-108), 3) := by decide +kernel
theorem dX7_makeChoices_114 : decode cX7_makeChoices 114 = .ok (.aload_n 0, 1) := by decide +kernel
theorem dX7_makeChoices_115 : decode cX7_makeChoices 115 = .ok (.aload_n 0, 1) := by decide +kernel
theorem dX7_makeChoices_116 : decode cX7_makeChoices 116 = .ok (.invokevirtual 83, 3) := by decide +kernel
theorem dX7_makeChoices_119 : decode cX7_makeChoices 119 = .ok (.putfield 87, 3) := by decide +kernel
theorem dX7_makeChoices_122 : decode cX7_makeChoices 122 = .ok (.return_, 1) := by decide +kernel
def mRo_makeChoices_99 (k3 : Nat → Int32 → Int32 → Int32 → hI → Option (hI)) (t1 : Nat) (v3 : Int32) (v4 : Int32) (v5 : Int32) (v6 : Int32) (I : hI) : Option (hI) :=
  h_g (h_in v5 10) <|
  h_let (h_u I 8 v5.toNatClampNeg v6) fun I2 =>
  k3 t1 v3 v4 (v5 + (1 : Int32)) I2
set_option maxHeartbeats 4000000 in
theorem sRo_makeChoices_99 (d : Nat) (hd : 4 + 1 ≤ d) (k3 : Nat → Int32 → Int32 → Int32 → hI → Option (hI)) (hk3 : ∀ (t1 : Nat) (ht1 : h_LT t1) (v3 : Int32) (v4 : Int32) (v5 : Int32) (I : hI) (J : hJ) (B : Bool × Bool) (q : hI), k3 t1 v3 v4 v5 I = some q → AW hFT cX7_makeChoices 9 none RX7 kdC d [(0, .ref 7), (1, .ref t1), (2, .ref 6), (3, .int v3), (4, .int v4), (5, .int v5)] 3 [] (I, J, RM B) none (q, J, RM B)) (t1 : Nat) (ht1 : h_LT t1) (v3 : Int32) (v4 : Int32) (v5 : Int32) (v6 : Int32) (I : hI) (J : hJ) (B : Bool × Bool) (q : hI) (h : mRo_makeChoices_99 k3 t1 v3 v4 v5 v6 I = some q) : AW hFT cX7_makeChoices 9 none RX7 kdC d [(0, .ref 7), (1, .ref t1), (2, .ref 6), (3, .int v3), (4, .int v4), (5, .int v5), (6, .int v6)] 99 [] (I, J, RM B) none (q, J, RM B) := by
  obtain ⟨d0, rfl, hd0⟩ := h_mono hd
  unfold mRo_makeChoices_99 at h
  refine a_aload_n dX7_makeChoices_99 rfl rfl ?_
  refine b_getR hK_7 kc_7 (i := 0) rfl fl_7_9 rfl (rm_7_0 B) dX7_makeChoices_100 ?_
  refine a_iload dX7_makeChoices_103 rfl ?_
  refine a_iload dX7_makeChoices_105 rfl ?_
  obtain ⟨g1, h⟩ := h_gS h
  refine b_iastore kc_8 (h_inV g1) dX7_makeChoices_107 ?_
  obtain ⟨I2, eI2, h⟩ := h_letS h
  refine a_memI eI2 ?_
  refine b_iinc (lv' := [(5, .int (v5 + (1 : Int32))), (0, .ref 7), (1, .ref t1), (2, .ref 6), (3, .int v3), (4, .int v4), (6, .int v6)]) dX7_makeChoices_108 rfl ic_1 (by decide) rfl ?_
  refine a_goto (tgt := 3) dX7_makeChoices_111 (by decide) ?_
  refine a_sub (lv' := [(0, .ref 7), (1, .ref t1), (2, .ref 6), (3, .int v3), (4, .int v4), (5, .int (v5 + (1 : Int32)))]) [1, 2, 3, 4, 5, 0] rfl ?_
  exact hk3 t1 ht1 v3 v4 (v5 + (1 : Int32)) I2 J B _ h
def mRo_makeChoices_B18 (k3 : Nat → Int32 → Int32 → Int32 → hI → Option (hI)) (k18 : Nat → Int32 → Int32 → Int32 → Int32 → Int32 → hI → Option (hI)) (t1 : Nat) (v3 : Int32) (v4 : Int32) (v5 : Int32) (v6 : Int32) (v7 : Int32) (I : hI) : Option (hI) :=
  if ((1 : Int32) <<< ((I t1 8) &&& 31)) ≤ v7 then
    mRo_makeChoices_99 k3 t1 v3 v4 v5 v6 I
  else
    (if (mRo_isIn v5 I) = 0 then
      mRo_makeChoices_99 k3 t1 v3 v4 v5 v6 I
    else
      (if (v7 &&& v3) = v4 then
        (if (8 : Int32) ≤ v6 then
          k18 t1 v3 v4 v5 v6 (v7 + (1 : Int32)) I
        else
          (h_let ((v5 * (8 : Int32)) + v6) fun v8x0 =>
          (mRo_fill t1 v8x0 v7 I).bind fun q2 =>
          (mRo_isUnlike v8x0 q2).bind fun q3 =>
          if q3 = 0 then
            (h_let (v6 + (0 : Int32)) fun v6x3 =>
            k18 t1 v3 v4 v5 v6x3 (v7 + (1 : Int32)) q2)
          else
            (h_let (v6 + (1 : Int32)) fun v6x3 =>
            k18 t1 v3 v4 v5 v6x3 (v7 + (1 : Int32)) q2)))
      else
        k18 t1 v3 v4 v5 v6 (v7 + (1 : Int32)) I))
set_option maxHeartbeats 4000000 in
theorem sRo_makeChoices_B18 (d : Nat) (hd : 4 + 1 ≤ d) (k3 : Nat → Int32 → Int32 → Int32 → hI → Option (hI)) (hk3 : ∀ (t1 : Nat) (ht1 : h_LT t1) (v3 : Int32) (v4 : Int32) (v5 : Int32) (I : hI) (J : hJ) (B : Bool × Bool) (q : hI), k3 t1 v3 v4 v5 I = some q → AW hFT cX7_makeChoices 9 none RX7 kdC d [(0, .ref 7), (1, .ref t1), (2, .ref 6), (3, .int v3), (4, .int v4), (5, .int v5)] 3 [] (I, J, RM B) none (q, J, RM B)) (k18 : Nat → Int32 → Int32 → Int32 → Int32 → Int32 → hI → Option (hI)) (hk18 : ∀ (t1 : Nat) (ht1 : h_LT t1) (v3 : Int32) (v4 : Int32) (v5 : Int32) (v6 : Int32) (v7 : Int32) (I : hI) (J : hJ) (B : Bool × Bool) (q : hI), k18 t1 v3 v4 v5 v6 v7 I = some q → AW hFT cX7_makeChoices 9 none RX7 kdC d [(0, .ref 7), (1, .ref t1), (2, .ref 6), (3, .int v3), (4, .int v4), (5, .int v5), (6, .int v6), (7, .int v7)] 18 [] (I, J, RM B) none (q, J, RM B)) (t1 : Nat) (ht1 : h_LT t1) (v3 : Int32) (v4 : Int32) (v5 : Int32) (v6 : Int32) (v7 : Int32) (I : hI) (J : hJ) (B : Bool × Bool) (q : hI) (h : mRo_makeChoices_B18 k3 k18 t1 v3 v4 v5 v6 v7 I = some q) : AW hFT cX7_makeChoices 9 none RX7 kdC d [(0, .ref 7), (1, .ref t1), (2, .ref 6), (3, .int v3), (4, .int v4), (5, .int v5), (6, .int v6), (7, .int v7)] 18 [] (I, J, RM B) none (q, J, RM B) := by
  obtain ⟨d0, rfl, hd0⟩ := h_mono hd
  unfold mRo_makeChoices_B18 at h
  refine a_iload dX7_makeChoices_18 rfl ?_
  refine a_iconst dX7_makeChoices_20 ic_1 ?_
  refine a_aload_n dX7_makeChoices_21 rfl rfl ?_
  refine b_getI hK_4 (k_LT ht1) (i := 8) rfl fl_7_70 rfl dX7_makeChoices_22 ?_
  refine a_ishl dX7_makeChoices_25 ?_
  refine a_icmp_ge (tgt := 99) dX7_makeChoices_26 (by decide) (fun c => ?_) (fun c => ?_)
  · replace h := h_iteT c h
    refine a_sub (lv' := [(0, .ref 7), (1, .ref t1), (2, .ref 6), (3, .int v3), (4, .int v4), (5, .int v5), (6, .int v6)]) [0, 1, 2, 3, 4, 5, 6] rfl ?_
    exact sRo_makeChoices_99 (d0 + 1) (by omega) k3 hk3 t1 ht1 v3 v4 v5 v6 I J B _ h
  · replace h := h_iteF c h
    refine a_aload_n dX7_makeChoices_29 rfl rfl ?_
    refine a_iload dX7_makeChoices_30 rfl ?_
    refine a_callV1 [] yy_X7_isIn ml_7_72 kc_7 rfl (sRo_isIn _ (by omega) v5 I J B _ rfl) rfl rfl (Nat.le_of_ble_eq_true rfl) dX7_makeChoices_32 ?_
    refine a_if_eq (tgt := 99) dX7_makeChoices_35 (by decide) (fun c => ?_) (fun c => ?_)
    · replace h := h_iteT c h
      refine a_sub (lv' := [(0, .ref 7), (1, .ref t1), (2, .ref 6), (3, .int v3), (4, .int v4), (5, .int v5), (6, .int v6)]) [0, 1, 2, 3, 4, 5, 6] rfl ?_
      exact sRo_makeChoices_99 (d0 + 1) (by omega) k3 hk3 t1 ht1 v3 v4 v5 v6 I J B _ h
    · replace h := h_iteF c h
      refine a_iload dX7_makeChoices_38 rfl ?_
      refine a_iload_n dX7_makeChoices_40 rfl rfl ?_
      refine a_iand dX7_makeChoices_41 ?_
      refine a_iload dX7_makeChoices_42 rfl ?_
      refine a_icmp_ne (tgt := 93) dX7_makeChoices_44 (by decide) (fun c => ?_) (fun c => ?_)
      · replace h := h_iteF c h
        refine b_iinc (lv' := [(7, .int (v7 + (1 : Int32))), (0, .ref 7), (1, .ref t1), (2, .ref 6), (3, .int v3), (4, .int v4), (5, .int v5), (6, .int v6)]) dX7_makeChoices_93 rfl ic_1 (by decide) rfl ?_
        refine a_goto (tgt := 18) dX7_makeChoices_96 (by decide) ?_
        refine a_sub (lv' := [(0, .ref 7), (1, .ref t1), (2, .ref 6), (3, .int v3), (4, .int v4), (5, .int v5), (6, .int v6), (7, .int (v7 + (1 : Int32)))]) [1, 2, 3, 4, 5, 6, 7, 0] rfl ?_
        exact hk18 t1 ht1 v3 v4 v5 v6 (v7 + (1 : Int32)) I J B _ h
      · replace h := h_iteT c h
        refine a_iload dX7_makeChoices_47 rfl ?_
        refine a_bipush dX7_makeChoices_49 bp_8 ?_
        refine a_icmp_ge (tgt := 93) dX7_makeChoices_51 (by decide) (fun c => ?_) (fun c => ?_)
        · replace h := h_iteT c h
          refine b_iinc (lv' := [(7, .int (v7 + (1 : Int32))), (0, .ref 7), (1, .ref t1), (2, .ref 6), (3, .int v3), (4, .int v4), (5, .int v5), (6, .int v6)]) dX7_makeChoices_93 rfl ic_1 (by decide) rfl ?_
          refine a_goto (tgt := 18) dX7_makeChoices_96 (by decide) ?_
          refine a_sub (lv' := [(0, .ref 7), (1, .ref t1), (2, .ref 6), (3, .int v3), (4, .int v4), (5, .int v5), (6, .int v6), (7, .int (v7 + (1 : Int32)))]) [1, 2, 3, 4, 5, 6, 7, 0] rfl ?_
          exact hk18 t1 ht1 v3 v4 v5 v6 (v7 + (1 : Int32)) I J B _ h
        · replace h := h_iteF c h
          refine a_iload dX7_makeChoices_54 rfl ?_
          refine a_bipush dX7_makeChoices_56 bp_8 ?_
          refine a_imul dX7_makeChoices_58 ?_
          refine a_iload dX7_makeChoices_59 rfl ?_
          refine a_iadd dX7_makeChoices_61 ?_
          obtain ⟨v8x0, ev8x0, h⟩ := h_letS h
          refine a_topI ev8x0 ?_
          refine a_istore (lv' := [(8, .int v8x0), (0, .ref 7), (1, .ref t1), (2, .ref 6), (3, .int v3), (4, .int v4), (5, .int v5), (6, .int v6), (7, .int v7)]) dX7_makeChoices_62 (by decide) rfl ?_
          refine a_aload_n dX7_makeChoices_64 rfl rfl ?_
          refine a_aload_n dX7_makeChoices_65 rfl rfl ?_
          refine a_aload_n dX7_makeChoices_66 rfl rfl ?_
          refine a_iload dX7_makeChoices_67 rfl ?_
          refine a_iload dX7_makeChoices_69 rfl ?_
          obtain ⟨q2, cq2, h⟩ := h_bindS h
          refine a_callV0 [] yy_X7_fill ml_7_76 kc_7 rfl (sRo_fill _ (by omega) t1 ht1 v8x0 v7 I J B q2 cq2) rfl rfl (Nat.le_of_ble_eq_true rfl) dX7_makeChoices_71 ?_
          refine a_iload dX7_makeChoices_74 rfl ?_
          refine a_aload_n dX7_makeChoices_76 rfl rfl ?_
          refine a_iload dX7_makeChoices_77 rfl ?_
          obtain ⟨q3, cq3, h⟩ := h_bindS h
          refine a_callV1 [.int v6] yy_X7_isUnlike ml_7_80 kc_7 rfl (sRo_isUnlike _ (by omega) v8x0 q2 J B q3 cq3) rfl rfl (Nat.le_of_ble_eq_true rfl) dX7_makeChoices_79 ?_
          refine a_if_eq (tgt := 89) dX7_makeChoices_82 (by decide) (fun c => ?_) (fun c => ?_)
          · replace h := h_iteT c h
            refine a_iconst dX7_makeChoices_89 ic_0 ?_
            refine a_iadd dX7_makeChoices_90 ?_
            obtain ⟨v6x3, ev6x3, h⟩ := h_letS h
            refine a_topI ev6x3 ?_
            refine a_istore (lv' := [(6, .int v6x3), (8, .int v8x0), (0, .ref 7), (1, .ref t1), (2, .ref 6), (3, .int v3), (4, .int v4), (5, .int v5), (7, .int v7)]) dX7_makeChoices_91 (by decide) rfl ?_
            refine b_iinc (lv' := [(7, .int (v7 + (1 : Int32))), (6, .int v6x3), (8, .int v8x0), (0, .ref 7), (1, .ref t1), (2, .ref 6), (3, .int v3), (4, .int v4), (5, .int v5)]) dX7_makeChoices_93 rfl ic_1 (by decide) rfl ?_
            refine a_goto (tgt := 18) dX7_makeChoices_96 (by decide) ?_
            refine a_sub (lv' := [(0, .ref 7), (1, .ref t1), (2, .ref 6), (3, .int v3), (4, .int v4), (5, .int v5), (6, .int v6x3), (7, .int (v7 + (1 : Int32)))]) [3, 4, 5, 6, 7, 8, 1, 0] rfl ?_
            exact hk18 t1 ht1 v3 v4 v5 v6x3 (v7 + (1 : Int32)) q2 J B _ h
          · replace h := h_iteF c h
            refine a_iconst dX7_makeChoices_85 ic_1 ?_
            refine a_goto (tgt := 90) dX7_makeChoices_86 (by decide) ?_
            refine a_iadd dX7_makeChoices_90 ?_
            obtain ⟨v6x3, ev6x3, h⟩ := h_letS h
            refine a_topI ev6x3 ?_
            refine a_istore (lv' := [(6, .int v6x3), (8, .int v8x0), (0, .ref 7), (1, .ref t1), (2, .ref 6), (3, .int v3), (4, .int v4), (5, .int v5), (7, .int v7)]) dX7_makeChoices_91 (by decide) rfl ?_
            refine b_iinc (lv' := [(7, .int (v7 + (1 : Int32))), (6, .int v6x3), (8, .int v8x0), (0, .ref 7), (1, .ref t1), (2, .ref 6), (3, .int v3), (4, .int v4), (5, .int v5)]) dX7_makeChoices_93 rfl ic_1 (by decide) rfl ?_
            refine a_goto (tgt := 18) dX7_makeChoices_96 (by decide) ?_
            refine a_sub (lv' := [(0, .ref 7), (1, .ref t1), (2, .ref 6), (3, .int v3), (4, .int v4), (5, .int v5), (6, .int v6x3), (7, .int (v7 + (1 : Int32)))]) [3, 4, 5, 6, 7, 8, 1, 0] rfl ?_
            exact hk18 t1 ht1 v3 v4 v5 v6x3 (v7 + (1 : Int32)) q2 J B _ h
def mRo_makeChoices_L18 (k3 : Nat → Int32 → Int32 → Int32 → hI → Option (hI)) : Nat → Nat → Int32 → Int32 → Int32 → Int32 → Int32 → hI → Option (hI)
  | 0 => fun _ _ _ _ _ _ _ => none
  | n + 1 => mRo_makeChoices_B18 k3 (mRo_makeChoices_L18 k3 n)
theorem sRo_makeChoices_L18 (d : Nat) (hd : 4 + 1 ≤ d) (k3 : Nat → Int32 → Int32 → Int32 → hI → Option (hI)) (hk3 : ∀ (t1 : Nat) (ht1 : h_LT t1) (v3 : Int32) (v4 : Int32) (v5 : Int32) (I : hI) (J : hJ) (B : Bool × Bool) (q : hI), k3 t1 v3 v4 v5 I = some q → AW hFT cX7_makeChoices 9 none RX7 kdC d [(0, .ref 7), (1, .ref t1), (2, .ref 6), (3, .int v3), (4, .int v4), (5, .int v5)] 3 [] (I, J, RM B) none (q, J, RM B)) : ∀ (n : Nat) (t1 : Nat) (ht1 : h_LT t1) (v3 : Int32) (v4 : Int32) (v5 : Int32) (v6 : Int32) (v7 : Int32) (I : hI) (J : hJ) (B : Bool × Bool) (q : hI) (h : mRo_makeChoices_L18 k3 n t1 v3 v4 v5 v6 v7 I = some q), AW hFT cX7_makeChoices 9 none RX7 kdC d [(0, .ref 7), (1, .ref t1), (2, .ref 6), (3, .int v3), (4, .int v4), (5, .int v5), (6, .int v6), (7, .int v7)] 18 [] (I, J, RM B) none (q, J, RM B)
  | 0, _, _, _, _, _, _, _, _, _, _, q, h => by cases h
  | n + 1, t1, ht1, v3, v4, v5, v6, v7, I, J, B, q, h => sRo_makeChoices_B18 d hd k3 hk3 (mRo_makeChoices_L18 k3 n) (sRo_makeChoices_L18 d hd k3 hk3 n) t1 ht1 v3 v4 v5 v6 v7 I J B q h
def mRo_makeChoices_B3 (k3 : Nat → Int32 → Int32 → Int32 → hI → Option (hI)) (t1 : Nat) (v3 : Int32) (v4 : Int32) (v5 : Int32) (I : hI) : Option (hI) :=
  if (I 7 5) ≤ v5 then
    ((mRo_countPlans I).bind fun q1 =>
    h_let (h_u I 7 9 q1) fun I2 =>
    some I2)
  else
    mRo_makeChoices_L18 k3 hF t1 v3 v4 v5 (0 : Int32) (0 : Int32) I
set_option maxHeartbeats 4000000 in
theorem sRo_makeChoices_B3 (d : Nat) (hd : 4 + 1 ≤ d) (k3 : Nat → Int32 → Int32 → Int32 → hI → Option (hI)) (hk3 : ∀ (t1 : Nat) (ht1 : h_LT t1) (v3 : Int32) (v4 : Int32) (v5 : Int32) (I : hI) (J : hJ) (B : Bool × Bool) (q : hI), k3 t1 v3 v4 v5 I = some q → AW hFT cX7_makeChoices 9 none RX7 kdC d [(0, .ref 7), (1, .ref t1), (2, .ref 6), (3, .int v3), (4, .int v4), (5, .int v5)] 3 [] (I, J, RM B) none (q, J, RM B)) (t1 : Nat) (ht1 : h_LT t1) (v3 : Int32) (v4 : Int32) (v5 : Int32) (I : hI) (J : hJ) (B : Bool × Bool) (q : hI) (h : mRo_makeChoices_B3 k3 t1 v3 v4 v5 I = some q) : AW hFT cX7_makeChoices 9 none RX7 kdC d [(0, .ref 7), (1, .ref t1), (2, .ref 6), (3, .int v3), (4, .int v4), (5, .int v5)] 3 [] (I, J, RM B) none (q, J, RM B) := by
  obtain ⟨d0, rfl, hd0⟩ := h_mono hd
  unfold mRo_makeChoices_B3 at h
  refine a_iload dX7_makeChoices_3 rfl ?_
  refine a_aload_n dX7_makeChoices_5 rfl rfl ?_
  refine b_getI hK_7 kc_7 (i := 5) rfl fl_7_44 rfl dX7_makeChoices_6 ?_
  refine a_icmp_ge (tgt := 114) dX7_makeChoices_9 (by decide) (fun c => ?_) (fun c => ?_)
  · replace h := h_iteT c h
    refine a_aload_n dX7_makeChoices_114 rfl rfl ?_
    refine a_aload_n dX7_makeChoices_115 rfl rfl ?_
    obtain ⟨q1, cq1, h⟩ := h_bindS h
    refine a_callV1 [.ref 7] yy_X7_countPlans ml_7_83 kc_7 rfl (sRo_countPlans _ (by omega)  I J B q1 cq1) rfl rfl (Nat.le_of_ble_eq_true rfl) dX7_makeChoices_116 ?_
    refine b_putI hK_7 kc_7 (i := 9) rfl fl_7_87 rfl rfl (h_NI _) dX7_makeChoices_119 ?_
    obtain ⟨I2, eI2, h⟩ := h_letS h
    refine a_memI eI2 ?_
    cases h
    exact a_vret dX7_makeChoices_122
  · replace h := h_iteF c h
    refine a_iconst dX7_makeChoices_12 ic_0 ?_
    refine a_istore (lv' := [(6, .int (0 : Int32)), (0, .ref 7), (1, .ref t1), (2, .ref 6), (3, .int v3), (4, .int v4), (5, .int v5)]) dX7_makeChoices_13 (by decide) rfl ?_
    refine a_iconst dX7_makeChoices_15 ic_0 ?_
    refine a_istore (lv' := [(7, .int (0 : Int32)), (6, .int (0 : Int32)), (0, .ref 7), (1, .ref t1), (2, .ref 6), (3, .int v3), (4, .int v4), (5, .int v5)]) dX7_makeChoices_16 (by decide) rfl ?_
    refine a_sub (lv' := [(0, .ref 7), (1, .ref t1), (2, .ref 6), (3, .int v3), (4, .int v4), (5, .int v5), (6, .int (0 : Int32)), (7, .int (0 : Int32))]) [2, 3, 4, 5, 6, 7, 1, 0] rfl ?_
    exact sRo_makeChoices_L18 (d0 + 1) (by omega) k3 hk3 hF t1 ht1 v3 v4 v5 (0 : Int32) (0 : Int32) I J B _ h
def mRo_makeChoices_L3  : Nat → Nat → Int32 → Int32 → Int32 → hI → Option (hI)
  | 0 => fun _ _ _ _ _ => none
  | n + 1 => mRo_makeChoices_B3 (mRo_makeChoices_L3 n)
theorem sRo_makeChoices_L3 (d : Nat) (hd : 4 + 1 ≤ d) : ∀ (n : Nat) (t1 : Nat) (ht1 : h_LT t1) (v3 : Int32) (v4 : Int32) (v5 : Int32) (I : hI) (J : hJ) (B : Bool × Bool) (q : hI) (h : mRo_makeChoices_L3 n t1 v3 v4 v5 I = some q), AW hFT cX7_makeChoices 9 none RX7 kdC d [(0, .ref 7), (1, .ref t1), (2, .ref 6), (3, .int v3), (4, .int v4), (5, .int v5)] 3 [] (I, J, RM B) none (q, J, RM B)
  | 0, _, _, _, _, _, _, _, _, q, h => by cases h
  | n + 1, t1, ht1, v3, v4, v5, I, J, B, q, h => sRo_makeChoices_B3 d hd (mRo_makeChoices_L3 n) (sRo_makeChoices_L3 d hd n) t1 ht1 v3 v4 v5 I J B q h
def mRo_makeChoices  (t1 : Nat) (v3 : Int32) (v4 : Int32) (I : hI) : Option (hI) :=
  mRo_makeChoices_L3 hF t1 v3 v4 (0 : Int32) I
set_option maxHeartbeats 4000000 in
theorem sRo_makeChoices (d : Nat) (hd : 4 + 1 ≤ d) (t1 : Nat) (ht1 : h_LT t1) (v3 : Int32) (v4 : Int32) (I : hI) (J : hJ) (B : Bool × Bool) (q : hI) (h : mRo_makeChoices t1 v3 v4 I = some q) : HMet hFT yX7_makeChoices cX7_makeChoices 9 none kdC d [.ref 7, .ref t1, .ref 6, .int v3, .int v4] (I, J, RM B) none (q, J, RM B) := by
  obtain ⟨d0, rfl, hd0⟩ := h_mono hd
  refine HMet.of (by decide) (Nat.le_of_ble_eq_true rfl) ?_
  show AW hFT cX7_makeChoices 9 none RX7 kdC (d0 + 1) [(0, .ref 7), (1, .ref t1), (2, .ref 6), (3, .int v3), (4, .int v4)] 0 [] (I, J, RM B) none (q, J, RM B)
  unfold mRo_makeChoices at h
  refine a_iconst dX7_makeChoices_0 ic_0 ?_
  refine a_istore (lv' := [(5, .int (0 : Int32)), (0, .ref 7), (1, .ref t1), (2, .ref 6), (3, .int v3), (4, .int v4)]) dX7_makeChoices_1 (by decide) rfl ?_
  refine a_sub (lv' := [(0, .ref 7), (1, .ref t1), (2, .ref 6), (3, .int v3), (4, .int v4), (5, .int (0 : Int32))]) [1, 2, 3, 4, 5, 0] rfl ?_
  exact sRo_makeChoices_L3 (d0 + 1) (by omega) hF t1 ht1 v3 v4 (0 : Int32) I J B _ h
/-! CoinLoops$Rounds.withMostChoices()I -/
theorem dX7_withMostChoices_0 : decode cX7_withMostChoices 0 = .ok (.iconst (-1), 1) := by decide +kernel
theorem dX7_withMostChoices_1 : decode cX7_withMostChoices 1 = .ok (.istore_n 1, 1) := by decide +kernel
theorem dX7_withMostChoices_2 : decode cX7_withMostChoices 2 = .ok (.iconst 0, 1) := by decide +kernel
theorem dX7_withMostChoices_3 : decode cX7_withMostChoices 3 = .ok (.istore_n 2, 1) := by decide +kernel
theorem dX7_withMostChoices_4 : decode cX7_withMostChoices 4 = .ok (.iconst 0, 1) := by decide +kernel
theorem dX7_withMostChoices_5 : decode cX7_withMostChoices 5 = .ok (.istore_n 3, 1) := by decide +kernel
theorem dX7_withMostChoices_6 : decode cX7_withMostChoices 6 = .ok (.iload_n 3, 1) := by decide +kernel
theorem dX7_withMostChoices_7 : decode cX7_withMostChoices 7 = .ok (.aload_n 0, 1) := by decide +kernel
theorem dX7_withMostChoices_8 : decode cX7_withMostChoices 8 = .ok (.getfield 44, 3) := by decide +kernel
theorem dX7_withMostChoices_11 : decode cX7_withMostChoices 11 = .ok (.if_icmp .ge 28, 3) := by decide +kernel
theorem dX7_withMostChoices_14 : decode cX7_withMostChoices 14 = .ok (.aload_n 0, 1) := by decide +kernel
theorem dX7_withMostChoices_15 : decode cX7_withMostChoices 15 = .ok (.getfield 9, 3) := by decide +kernel
theorem dX7_withMostChoices_18 : decode cX7_withMostChoices 18 = .ok (.iload_n 3, 1) := by decide +kernel
theorem dX7_withMostChoices_19 : decode cX7_withMostChoices 19 = .ok (.iaload, 1) := by decide +kernel
theorem dX7_withMostChoices_20 : decode cX7_withMostChoices 20 = .ok (.iload_n 2, 1) := by decide +kernel
theorem dX7_withMostChoices_21 : decode cX7_withMostChoices 21 = .ok (.if_icmp .le 12, 3) := by decide +kernel
theorem dX7_withMostChoices_24 : decode cX7_withMostChoices 24 = .ok (.iload_n 3, 1) := by decide +kernel
theorem dX7_withMostChoices_25 : decode cX7_withMostChoices 25 = .ok (.istore_n 1, 1) := by decide +kernel
theorem dX7_withMostChoices_26 : decode cX7_withMostChoices 26 = .ok (.aload_n 0, 1) := by decide +kernel
theorem dX7_withMostChoices_27 : decode cX7_withMostChoices 27 = .ok (.getfield 9, 3) := by decide +kernel
theorem dX7_withMostChoices_30 : decode cX7_withMostChoices 30 = .ok (.iload_n 3, 1) := by decide +kernel
theorem dX7_withMostChoices_31 : decode cX7_withMostChoices 31 = .ok (.iaload, 1) := by decide +kernel
theorem dX7_withMostChoices_32 : decode cX7_withMostChoices 32 = .ok (.istore_n 2, 1) := by decide +kernel
theorem dX7_withMostChoices_33 : decode cX7_withMostChoices 33 = .ok (.iinc 3 1, 3) := by decide +kernel
theorem dX7_withMostChoices_36 : decode cX7_withMostChoices 36 = .ok (.goto (-30), 3) := by decide +kernel
theorem dX7_withMostChoices_39 : decode cX7_withMostChoices 39 = .ok (.iload_n 1, 1) := by decide +kernel
theorem dX7_withMostChoices_40 : decode cX7_withMostChoices 40 = .ok (.ireturn, 1) := by decide +kernel
def mRo_withMostChoices_B6 (k6 : Int32 → Int32 → Int32 → hI → Option (Int32)) (v1 : Int32) (v2 : Int32) (v3 : Int32) (I : hI) : Option (Int32) :=
  if (I 7 5) ≤ v3 then
    some v1
  else
    (h_g (h_in v3 10) <|
    if (I 8 v3.toNatClampNeg) ≤ v2 then
      k6 v1 v2 (v3 + (1 : Int32)) I
    else
      (h_g (h_in v3 10) <|
      h_let (I 8 v3.toNatClampNeg) fun v2x2 =>
      k6 v3 v2x2 (v3 + (1 : Int32)) I))
set_option maxHeartbeats 4000000 in
theorem sRo_withMostChoices_B6 (d : Nat) (hd : 0 ≤ d) (k6 : Int32 → Int32 → Int32 → hI → Option (Int32)) (hk6 : ∀ (v1 : Int32) (v2 : Int32) (v3 : Int32) (I : hI) (J : hJ) (B : Bool × Bool) (q : Int32), k6 v1 v2 v3 I = some q → AW hFT cX7_withMostChoices 4 (some .int) RX7 kdC d [(0, .ref 7), (1, .int v1), (2, .int v2), (3, .int v3)] 6 [] (I, J, RM B) (some (.int q)) (I, J, RM B)) (v1 : Int32) (v2 : Int32) (v3 : Int32) (I : hI) (J : hJ) (B : Bool × Bool) (q : Int32) (h : mRo_withMostChoices_B6 k6 v1 v2 v3 I = some q) : AW hFT cX7_withMostChoices 4 (some .int) RX7 kdC d [(0, .ref 7), (1, .int v1), (2, .int v2), (3, .int v3)] 6 [] (I, J, RM B) (some (.int q)) (I, J, RM B) := by
  unfold mRo_withMostChoices_B6 at h
  refine a_iload_n dX7_withMostChoices_6 rfl rfl ?_
  refine a_aload_n dX7_withMostChoices_7 rfl rfl ?_
  refine b_getI hK_7 kc_7 (i := 5) rfl fl_7_44 rfl dX7_withMostChoices_8 ?_
  refine a_icmp_ge (tgt := 39) dX7_withMostChoices_11 (by decide) (fun c => ?_) (fun c => ?_)
  · replace h := h_iteT c h
    refine a_iload_n dX7_withMostChoices_39 rfl rfl ?_
    cases h
    exact a_iret dX7_withMostChoices_40
  · replace h := h_iteF c h
    refine a_aload_n dX7_withMostChoices_14 rfl rfl ?_
    refine b_getR hK_7 kc_7 (i := 0) rfl fl_7_9 rfl (rm_7_0 B) dX7_withMostChoices_15 ?_
    refine a_iload_n dX7_withMostChoices_18 rfl rfl ?_
    obtain ⟨g1, h⟩ := h_gS h
    refine b_iaload kc_8 (h_inV g1) dX7_withMostChoices_19 ?_
    refine a_iload_n dX7_withMostChoices_20 rfl rfl ?_
    refine a_icmp_le (tgt := 33) dX7_withMostChoices_21 (by decide) (fun c => ?_) (fun c => ?_)
    · replace h := h_iteT c h
      refine b_iinc (lv' := [(3, .int (v3 + (1 : Int32))), (0, .ref 7), (1, .int v1), (2, .int v2)]) dX7_withMostChoices_33 rfl ic_1 (by decide) rfl ?_
      refine a_goto (tgt := 6) dX7_withMostChoices_36 (by decide) ?_
      refine a_sub (lv' := [(0, .ref 7), (1, .int v1), (2, .int v2), (3, .int (v3 + (1 : Int32)))]) [1, 2, 3, 0] rfl ?_
      exact hk6 v1 v2 (v3 + (1 : Int32)) I J B _ h
    · replace h := h_iteF c h
      refine a_iload_n dX7_withMostChoices_24 rfl rfl ?_
      refine a_istore_n (lv' := [(1, .int v3), (0, .ref 7), (2, .int v2), (3, .int v3)]) dX7_withMostChoices_25 rfl (by decide) rfl ?_
      refine a_aload_n dX7_withMostChoices_26 rfl rfl ?_
      refine b_getR hK_7 kc_7 (i := 0) rfl fl_7_9 rfl (rm_7_0 B) dX7_withMostChoices_27 ?_
      refine a_iload_n dX7_withMostChoices_30 rfl rfl ?_
      obtain ⟨g2, h⟩ := h_gS h
      refine b_iaload kc_8 (h_inV g2) dX7_withMostChoices_31 ?_
      obtain ⟨v2x2, ev2x2, h⟩ := h_letS h
      refine a_topI ev2x2 ?_
      refine a_istore_n (lv' := [(2, .int v2x2), (1, .int v3), (0, .ref 7), (3, .int v3)]) dX7_withMostChoices_32 rfl (by decide) rfl ?_
      refine b_iinc (lv' := [(3, .int (v3 + (1 : Int32))), (2, .int v2x2), (1, .int v3), (0, .ref 7)]) dX7_withMostChoices_33 rfl ic_1 (by decide) rfl ?_
      refine a_goto (tgt := 6) dX7_withMostChoices_36 (by decide) ?_
      refine a_sub (lv' := [(0, .ref 7), (1, .int v3), (2, .int v2x2), (3, .int (v3 + (1 : Int32)))]) [3, 2, 1, 0] rfl ?_
      exact hk6 v3 v2x2 (v3 + (1 : Int32)) I J B _ h
def mRo_withMostChoices_L6  : Nat → Int32 → Int32 → Int32 → hI → Option (Int32)
  | 0 => fun _ _ _ _ => none
  | n + 1 => mRo_withMostChoices_B6 (mRo_withMostChoices_L6 n)
theorem sRo_withMostChoices_L6 (d : Nat) (hd : 0 ≤ d) : ∀ (n : Nat) (v1 : Int32) (v2 : Int32) (v3 : Int32) (I : hI) (J : hJ) (B : Bool × Bool) (q : Int32) (h : mRo_withMostChoices_L6 n v1 v2 v3 I = some q), AW hFT cX7_withMostChoices 4 (some .int) RX7 kdC d [(0, .ref 7), (1, .int v1), (2, .int v2), (3, .int v3)] 6 [] (I, J, RM B) (some (.int q)) (I, J, RM B)
  | 0, _, _, _, _, _, _, q, h => by cases h
  | n + 1, v1, v2, v3, I, J, B, q, h => sRo_withMostChoices_B6 d hd (mRo_withMostChoices_L6 n) (sRo_withMostChoices_L6 d hd n) v1 v2 v3 I J B q h
def mRo_withMostChoices   (I : hI) : Option (Int32) :=
  mRo_withMostChoices_L6 hF (-1 : Int32) (0 : Int32) (0 : Int32) I
set_option maxHeartbeats 4000000 in
theorem sRo_withMostChoices (d : Nat) (hd : 0 ≤ d)  (I : hI) (J : hJ) (B : Bool × Bool) (q : Int32) (h : mRo_withMostChoices I = some q) : HMet hFT yX7_withMostChoices cX7_withMostChoices 4 (some .int) kdC d [.ref 7] (I, J, RM B) (some (.int q)) (I, J, RM B) := by
  refine HMet.of (by decide) (Nat.le_of_ble_eq_true rfl) ?_
  show AW hFT cX7_withMostChoices 4 (some .int) RX7 kdC d [(0, .ref 7)] 0 [] (I, J, RM B) (some (.int q)) (I, J, RM B)
  unfold mRo_withMostChoices at h
  refine a_iconst dX7_withMostChoices_0 ic_m1 ?_
  refine a_istore_n (lv' := [(1, .int (-1 : Int32)), (0, .ref 7)]) dX7_withMostChoices_1 rfl (by decide) rfl ?_
  refine a_iconst dX7_withMostChoices_2 ic_0 ?_
  refine a_istore_n (lv' := [(2, .int (0 : Int32)), (1, .int (-1 : Int32)), (0, .ref 7)]) dX7_withMostChoices_3 rfl (by decide) rfl ?_
  refine a_iconst dX7_withMostChoices_4 ic_0 ?_
  refine a_istore_n (lv' := [(3, .int (0 : Int32)), (2, .int (0 : Int32)), (1, .int (-1 : Int32)), (0, .ref 7)]) dX7_withMostChoices_5 rfl (by decide) rfl ?_
  refine a_sub (lv' := [(0, .ref 7), (1, .int (-1 : Int32)), (2, .int (0 : Int32)), (3, .int (0 : Int32))]) [3, 2, 1, 0] rfl ?_
  exact sRo_withMostChoices_L6 d (by omega) hF (-1 : Int32) (0 : Int32) (0 : Int32) I J B _ h
/-! CoinLoops$Rounds.nextStates(I)I -/
theorem dX7_nextStates_0 : decode cX7_nextStates 0 = .ok (.iconst 0, 1) := by decide +kernel
theorem dX7_nextStates_1 : decode cX7_nextStates 1 = .ok (.istore_n 2, 1) := by decide +kernel
theorem dX7_nextStates_2 : decode cX7_nextStates 2 = .ok (.iconst 0, 1) := by decide +kernel
theorem dX7_nextStates_3 : decode cX7_nextStates 3 = .ok (.istore_n 3, 1) := by decide +kernel
theorem dX7_nextStates_4 : decode cX7_nextStates 4 = .ok (.aload_n 0, 1) := by decide +kernel
theorem dX7_nextStates_5 : decode cX7_nextStates 5 = .ok (.iload_n 1, 1) := by decide +kernel
theorem dX7_nextStates_6 : decode cX7_nextStates 6 = .ok (.iload_n 3, 1) := by decide +kernel
theorem dX7_nextStates_7 : decode cX7_nextStates 7 = .ok (.invokevirtual 93, 3) := by decide +kernel
theorem dX7_nextStates_10 : decode cX7_nextStates 10 = .ok (.ifCond .eq 55, 3) := by decide +kernel
theorem dX7_nextStates_13 : decode cX7_nextStates 13 = .ok (.iload_n 3, 1) := by decide +kernel
theorem dX7_nextStates_14 : decode cX7_nextStates 14 = .ok (.bipush 8, 2) := by decide +kernel
theorem dX7_nextStates_16 : decode cX7_nextStates 16 = .ok (.if_icmp .ge 49, 3) := by decide +kernel
theorem dX7_nextStates_19 : decode cX7_nextStates 19 = .ok (.iconst 0, 1) := by decide +kernel
theorem dX7_nextStates_20 : decode cX7_nextStates 20 = .ok (.istore 4, 2) := by decide +kernel
theorem dX7_nextStates_22 : decode cX7_nextStates 22 = .ok (.iload 4, 2) := by decide +kernel
theorem dX7_nextStates_24 : decode cX7_nextStates 24 = .ok (.aload_n 0, 1) := by decide +kernel
theorem dX7_nextStates_25 : decode cX7_nextStates 25 = .ok (.getfield 44, 3) := by decide +kernel
theorem dX7_nextStates_28 : decode cX7_nextStates 28 = .ok (.if_icmp .ge 31, 3) := by decide +kernel
theorem dX7_nextStates_31 : decode cX7_nextStates 31 = .ok (.aload_n 0, 1) := by decide +kernel
theorem dX7_nextStates_32 : decode cX7_nextStates 32 = .ok (.iload_n 1, 1) := by decide +kernel
theorem dX7_nextStates_33 : decode cX7_nextStates 33 = .ok (.bipush 8, 2) := by decide +kernel
theorem dX7_nextStates_35 : decode cX7_nextStates 35 = .ok (.imul, 1) := by decide +kernel
theorem dX7_nextStates_36 : decode cX7_nextStates 36 = .ok (.iload_n 3, 1) := by decide +kernel
theorem dX7_nextStates_37 : decode cX7_nextStates 37 = .ok (.iadd, 1) := by decide +kernel
theorem dX7_nextStates_38 : decode cX7_nextStates 38 = .ok (.iload 4, 2) := by decide +kernel
theorem dX7_nextStates_40 : decode cX7_nextStates 40 = .ok (.invokevirtual 97, 3) := by decide +kernel
theorem dX7_nextStates_43 : decode cX7_nextStates 43 = .ok (.ifCond .le 10, 3) := by decide +kernel
theorem dX7_nextStates_46 : decode cX7_nextStates 46 = .ok (.iload_n 2, 1) := by decide +kernel
theorem dX7_nextStates_47 : decode cX7_nextStates 47 = .ok (.iconst 1, 1) := by decide +kernel
theorem dX7_nextStates_48 : decode cX7_nextStates 48 = .ok (.iload 4, 2) := by decide +kernel
theorem dX7_nextStates_50 : decode cX7_nextStates 50 = .ok (.ishl, 1) := by decide +kernel
theorem dX7_nextStates_51 : decode cX7_nextStates 51 = .ok (.ior, 1) := by decide +kernel
theorem dX7_nextStates_52 : decode cX7_nextStates 52 = .ok (.istore_n 2, 1) := by decide +kernel
theorem dX7_nextStates_53 : decode cX7_nextStates 53 = .ok (.iinc 4 1, 3) := by decide +kernel
theorem dX7_nextStates_56 : decode cX7_nextStates 56 = .ok (.goto (-34), 3) := by decide +kernel
theorem dX7_nextStates_59 : decode cX7_nextStates 59 = .ok (.iinc 3 1, 3) := by decide +kernel
theorem dX7_nextStates_62 : decode cX7_nextStates 62 = .ok (.goto (-58), 3) := by decide +kernel
theorem dX7_nextStates_65 : decode cX7_nextStates 65 = .ok (.iload_n 2, 1) := by decide +kernel
theorem dX7_nextStates_66 : decode cX7_nextStates 66 = .ok (.ireturn, 1) := by decide +kernel
def mRo_nextStates_B22 (k4 : Int32 → Int32 → Int32 → hI → Option (Int32)) (k22 : Int32 → Int32 → Int32 → Int32 → hI → Option (Int32)) (v1 : Int32) (v2 : Int32) (v3 : Int32) (v4 : Int32) (I : hI) : Option (Int32) :=
  if (I 7 5) ≤ v4 then
    k4 v1 v2 (v3 + (1 : Int32)) I
  else
    ((mRo_quarters ((v1 * (8 : Int32)) + v3) v4 I).bind fun q1 =>
    if q1 ≤ 0 then
      k22 v1 v2 v3 (v4 + (1 : Int32)) I
    else
      (h_let (v2 ||| ((1 : Int32) <<< (v4 &&& 31))) fun v2x1 =>
      k22 v1 v2x1 v3 (v4 + (1 : Int32)) I))
set_option maxHeartbeats 4000000 in
theorem sRo_nextStates_B22 (d : Nat) (hd : 0 + 1 ≤ d) (k4 : Int32 → Int32 → Int32 → hI → Option (Int32)) (hk4 : ∀ (v1 : Int32) (v2 : Int32) (v3 : Int32) (I : hI) (J : hJ) (B : Bool × Bool) (q : Int32), k4 v1 v2 v3 I = some q → AW hFT cX7_nextStates 5 (some .int) RX7 kdC d [(0, .ref 7), (1, .int v1), (2, .int v2), (3, .int v3)] 4 [] (I, J, RM B) (some (.int q)) (I, J, RM B)) (k22 : Int32 → Int32 → Int32 → Int32 → hI → Option (Int32)) (hk22 : ∀ (v1 : Int32) (v2 : Int32) (v3 : Int32) (v4 : Int32) (I : hI) (J : hJ) (B : Bool × Bool) (q : Int32), k22 v1 v2 v3 v4 I = some q → AW hFT cX7_nextStates 5 (some .int) RX7 kdC d [(0, .ref 7), (1, .int v1), (2, .int v2), (3, .int v3), (4, .int v4)] 22 [] (I, J, RM B) (some (.int q)) (I, J, RM B)) (v1 : Int32) (v2 : Int32) (v3 : Int32) (v4 : Int32) (I : hI) (J : hJ) (B : Bool × Bool) (q : Int32) (h : mRo_nextStates_B22 k4 k22 v1 v2 v3 v4 I = some q) : AW hFT cX7_nextStates 5 (some .int) RX7 kdC d [(0, .ref 7), (1, .int v1), (2, .int v2), (3, .int v3), (4, .int v4)] 22 [] (I, J, RM B) (some (.int q)) (I, J, RM B) := by
  obtain ⟨d0, rfl, hd0⟩ := h_mono hd
  unfold mRo_nextStates_B22 at h
  refine a_iload dX7_nextStates_22 rfl ?_
  refine a_aload_n dX7_nextStates_24 rfl rfl ?_
  refine b_getI hK_7 kc_7 (i := 5) rfl fl_7_44 rfl dX7_nextStates_25 ?_
  refine a_icmp_ge (tgt := 59) dX7_nextStates_28 (by decide) (fun c => ?_) (fun c => ?_)
  · replace h := h_iteT c h
    refine b_iinc (lv' := [(3, .int (v3 + (1 : Int32))), (0, .ref 7), (1, .int v1), (2, .int v2), (4, .int v4)]) dX7_nextStates_59 rfl ic_1 (by decide) rfl ?_
    refine a_goto (tgt := 4) dX7_nextStates_62 (by decide) ?_
    refine a_sub (lv' := [(0, .ref 7), (1, .int v1), (2, .int v2), (3, .int (v3 + (1 : Int32)))]) [1, 2, 3, 0] rfl ?_
    exact hk4 v1 v2 (v3 + (1 : Int32)) I J B _ h
  · replace h := h_iteF c h
    refine a_aload_n dX7_nextStates_31 rfl rfl ?_
    refine a_iload_n dX7_nextStates_32 rfl rfl ?_
    refine a_bipush dX7_nextStates_33 bp_8 ?_
    refine a_imul dX7_nextStates_35 ?_
    refine a_iload_n dX7_nextStates_36 rfl rfl ?_
    refine a_iadd dX7_nextStates_37 ?_
    refine a_iload dX7_nextStates_38 rfl ?_
    obtain ⟨q1, cq1, h⟩ := h_bindS h
    refine a_callV1 [] yy_X7_quarters ml_7_97 kc_7 rfl (sRo_quarters _ (by omega) ((v1 * (8 : Int32)) + v3) v4 I J B q1 cq1) rfl rfl (Nat.le_of_ble_eq_true rfl) dX7_nextStates_40 ?_
    refine a_if_le (tgt := 53) dX7_nextStates_43 (by decide) (fun c => ?_) (fun c => ?_)
    · replace h := h_iteT c h
      refine b_iinc (lv' := [(4, .int (v4 + (1 : Int32))), (0, .ref 7), (1, .int v1), (2, .int v2), (3, .int v3)]) dX7_nextStates_53 rfl ic_1 (by decide) rfl ?_
      refine a_goto (tgt := 22) dX7_nextStates_56 (by decide) ?_
      refine a_sub (lv' := [(0, .ref 7), (1, .int v1), (2, .int v2), (3, .int v3), (4, .int (v4 + (1 : Int32)))]) [1, 2, 3, 4, 0] rfl ?_
      exact hk22 v1 v2 v3 (v4 + (1 : Int32)) I J B _ h
    · replace h := h_iteF c h
      refine a_iload_n dX7_nextStates_46 rfl rfl ?_
      refine a_iconst dX7_nextStates_47 ic_1 ?_
      refine a_iload dX7_nextStates_48 rfl ?_
      refine a_ishl dX7_nextStates_50 ?_
      refine a_ior dX7_nextStates_51 ?_
      obtain ⟨v2x1, ev2x1, h⟩ := h_letS h
      refine a_topI ev2x1 ?_
      refine a_istore_n (lv' := [(2, .int v2x1), (0, .ref 7), (1, .int v1), (3, .int v3), (4, .int v4)]) dX7_nextStates_52 rfl (by decide) rfl ?_
      refine b_iinc (lv' := [(4, .int (v4 + (1 : Int32))), (2, .int v2x1), (0, .ref 7), (1, .int v1), (3, .int v3)]) dX7_nextStates_53 rfl ic_1 (by decide) rfl ?_
      refine a_goto (tgt := 22) dX7_nextStates_56 (by decide) ?_
      refine a_sub (lv' := [(0, .ref 7), (1, .int v1), (2, .int v2x1), (3, .int v3), (4, .int (v4 + (1 : Int32)))]) [2, 3, 1, 4, 0] rfl ?_
      exact hk22 v1 v2x1 v3 (v4 + (1 : Int32)) I J B _ h
def mRo_nextStates_L22 (k4 : Int32 → Int32 → Int32 → hI → Option (Int32)) : Nat → Int32 → Int32 → Int32 → Int32 → hI → Option (Int32)
  | 0 => fun _ _ _ _ _ => none
  | n + 1 => mRo_nextStates_B22 k4 (mRo_nextStates_L22 k4 n)
theorem sRo_nextStates_L22 (d : Nat) (hd : 0 + 1 ≤ d) (k4 : Int32 → Int32 → Int32 → hI → Option (Int32)) (hk4 : ∀ (v1 : Int32) (v2 : Int32) (v3 : Int32) (I : hI) (J : hJ) (B : Bool × Bool) (q : Int32), k4 v1 v2 v3 I = some q → AW hFT cX7_nextStates 5 (some .int) RX7 kdC d [(0, .ref 7), (1, .int v1), (2, .int v2), (3, .int v3)] 4 [] (I, J, RM B) (some (.int q)) (I, J, RM B)) : ∀ (n : Nat) (v1 : Int32) (v2 : Int32) (v3 : Int32) (v4 : Int32) (I : hI) (J : hJ) (B : Bool × Bool) (q : Int32) (h : mRo_nextStates_L22 k4 n v1 v2 v3 v4 I = some q), AW hFT cX7_nextStates 5 (some .int) RX7 kdC d [(0, .ref 7), (1, .int v1), (2, .int v2), (3, .int v3), (4, .int v4)] 22 [] (I, J, RM B) (some (.int q)) (I, J, RM B)
  | 0, _, _, _, _, _, _, _, q, h => by cases h
  | n + 1, v1, v2, v3, v4, I, J, B, q, h => sRo_nextStates_B22 d hd k4 hk4 (mRo_nextStates_L22 k4 n) (sRo_nextStates_L22 d hd k4 hk4 n) v1 v2 v3 v4 I J B q h
def mRo_nextStates_B4 (k4 : Int32 → Int32 → Int32 → hI → Option (Int32)) (v1 : Int32) (v2 : Int32) (v3 : Int32) (I : hI) : Option (Int32) :=
  (mRo_isChoice v1 v3 I).bind fun q1 =>
  if q1 = 0 then
    some v2
  else
    (if (8 : Int32) ≤ v3 then
      some v2
    else
      mRo_nextStates_L22 k4 hF v1 v2 v3 (0 : Int32) I)
set_option maxHeartbeats 4000000 in
theorem sRo_nextStates_B4 (d : Nat) (hd : 0 + 1 ≤ d) (k4 : Int32 → Int32 → Int32 → hI → Option (Int32)) (hk4 : ∀ (v1 : Int32) (v2 : Int32) (v3 : Int32) (I : hI) (J : hJ) (B : Bool × Bool) (q : Int32), k4 v1 v2 v3 I = some q → AW hFT cX7_nextStates 5 (some .int) RX7 kdC d [(0, .ref 7), (1, .int v1), (2, .int v2), (3, .int v3)] 4 [] (I, J, RM B) (some (.int q)) (I, J, RM B)) (v1 : Int32) (v2 : Int32) (v3 : Int32) (I : hI) (J : hJ) (B : Bool × Bool) (q : Int32) (h : mRo_nextStates_B4 k4 v1 v2 v3 I = some q) : AW hFT cX7_nextStates 5 (some .int) RX7 kdC d [(0, .ref 7), (1, .int v1), (2, .int v2), (3, .int v3)] 4 [] (I, J, RM B) (some (.int q)) (I, J, RM B) := by
  obtain ⟨d0, rfl, hd0⟩ := h_mono hd
  unfold mRo_nextStates_B4 at h
  refine a_aload_n dX7_nextStates_4 rfl rfl ?_
  refine a_iload_n dX7_nextStates_5 rfl rfl ?_
  refine a_iload_n dX7_nextStates_6 rfl rfl ?_
  obtain ⟨q1, cq1, h⟩ := h_bindS h
  refine a_callV1 [] yy_X7_isChoice ml_7_93 kc_7 rfl (sRo_isChoice _ (by omega) v1 v3 I J B q1 cq1) rfl rfl (Nat.le_of_ble_eq_true rfl) dX7_nextStates_7 ?_
  refine a_if_eq (tgt := 65) dX7_nextStates_10 (by decide) (fun c => ?_) (fun c => ?_)
  · replace h := h_iteT c h
    refine a_iload_n dX7_nextStates_65 rfl rfl ?_
    cases h
    exact a_iret dX7_nextStates_66
  · replace h := h_iteF c h
    refine a_iload_n dX7_nextStates_13 rfl rfl ?_
    refine a_bipush dX7_nextStates_14 bp_8 ?_
    refine a_icmp_ge (tgt := 65) dX7_nextStates_16 (by decide) (fun c => ?_) (fun c => ?_)
    · replace h := h_iteT c h
      refine a_iload_n dX7_nextStates_65 rfl rfl ?_
      cases h
      exact a_iret dX7_nextStates_66
    · replace h := h_iteF c h
      refine a_iconst dX7_nextStates_19 ic_0 ?_
      refine a_istore (lv' := [(4, .int (0 : Int32)), (0, .ref 7), (1, .int v1), (2, .int v2), (3, .int v3)]) dX7_nextStates_20 (by decide) rfl ?_
      refine a_sub (lv' := [(0, .ref 7), (1, .int v1), (2, .int v2), (3, .int v3), (4, .int (0 : Int32))]) [1, 2, 3, 4, 0] rfl ?_
      exact sRo_nextStates_L22 (d0 + 1) (by omega) k4 hk4 hF v1 v2 v3 (0 : Int32) I J B _ h
def mRo_nextStates_L4  : Nat → Int32 → Int32 → Int32 → hI → Option (Int32)
  | 0 => fun _ _ _ _ => none
  | n + 1 => mRo_nextStates_B4 (mRo_nextStates_L4 n)
theorem sRo_nextStates_L4 (d : Nat) (hd : 0 + 1 ≤ d) : ∀ (n : Nat) (v1 : Int32) (v2 : Int32) (v3 : Int32) (I : hI) (J : hJ) (B : Bool × Bool) (q : Int32) (h : mRo_nextStates_L4 n v1 v2 v3 I = some q), AW hFT cX7_nextStates 5 (some .int) RX7 kdC d [(0, .ref 7), (1, .int v1), (2, .int v2), (3, .int v3)] 4 [] (I, J, RM B) (some (.int q)) (I, J, RM B)
  | 0, _, _, _, _, _, _, q, h => by cases h
  | n + 1, v1, v2, v3, I, J, B, q, h => sRo_nextStates_B4 d hd (mRo_nextStates_L4 n) (sRo_nextStates_L4 d hd n) v1 v2 v3 I J B q h
def mRo_nextStates  (v1 : Int32) (I : hI) : Option (Int32) :=
  mRo_nextStates_L4 hF v1 (0 : Int32) (0 : Int32) I
set_option maxHeartbeats 4000000 in
theorem sRo_nextStates (d : Nat) (hd : 0 + 1 ≤ d) (v1 : Int32) (I : hI) (J : hJ) (B : Bool × Bool) (q : Int32) (h : mRo_nextStates v1 I = some q) : HMet hFT yX7_nextStates cX7_nextStates 5 (some .int) kdC d [.ref 7, .int v1] (I, J, RM B) (some (.int q)) (I, J, RM B) := by
  obtain ⟨d0, rfl, hd0⟩ := h_mono hd
  refine HMet.of (by decide) (Nat.le_of_ble_eq_true rfl) ?_
  show AW hFT cX7_nextStates 5 (some .int) RX7 kdC (d0 + 1) [(0, .ref 7), (1, .int v1)] 0 [] (I, J, RM B) (some (.int q)) (I, J, RM B)
  unfold mRo_nextStates at h
  refine a_iconst dX7_nextStates_0 ic_0 ?_
  refine a_istore_n (lv' := [(2, .int (0 : Int32)), (0, .ref 7), (1, .int v1)]) dX7_nextStates_1 rfl (by decide) rfl ?_
  refine a_iconst dX7_nextStates_2 ic_0 ?_
  refine a_istore_n (lv' := [(3, .int (0 : Int32)), (2, .int (0 : Int32)), (0, .ref 7), (1, .int v1)]) dX7_nextStates_3 rfl (by decide) rfl ?_
  refine a_sub (lv' := [(0, .ref 7), (1, .int v1), (2, .int (0 : Int32)), (3, .int (0 : Int32))]) [2, 3, 1, 0] rfl ?_
  exact sRo_nextStates_L4 (d0 + 1) (by omega) hF v1 (0 : Int32) (0 : Int32) I J B _ h
/-! CoinLoops$Rounds.reachedFrom(I)I -/
theorem dX7_reachedFrom_0 : decode cX7_reachedFrom 0 = .ok (.iconst 1, 1) := by decide +kernel
theorem dX7_reachedFrom_1 : decode cX7_reachedFrom 1 = .ok (.iload_n 1, 1) := by decide +kernel
theorem dX7_reachedFrom_2 : decode cX7_reachedFrom 2 = .ok (.ishl, 1) := by decide +kernel
theorem dX7_reachedFrom_3 : decode cX7_reachedFrom 3 = .ok (.istore_n 2, 1) := by decide +kernel
theorem dX7_reachedFrom_4 : decode cX7_reachedFrom 4 = .ok (.iconst 0, 1) := by decide +kernel
theorem dX7_reachedFrom_5 : decode cX7_reachedFrom 5 = .ok (.istore_n 3, 1) := by decide +kernel
theorem dX7_reachedFrom_6 : decode cX7_reachedFrom 6 = .ok (.iload_n 3, 1) := by decide +kernel
theorem dX7_reachedFrom_7 : decode cX7_reachedFrom 7 = .ok (.aload_n 0, 1) := by decide +kernel
theorem dX7_reachedFrom_8 : decode cX7_reachedFrom 8 = .ok (.getfield 44, 3) := by decide +kernel
theorem dX7_reachedFrom_11 : decode cX7_reachedFrom 11 = .ok (.if_icmp .ge 45, 3) := by decide +kernel
theorem dX7_reachedFrom_14 : decode cX7_reachedFrom 14 = .ok (.iconst 0, 1) := by decide +kernel
theorem dX7_reachedFrom_15 : decode cX7_reachedFrom 15 = .ok (.istore 4, 2) := by decide +kernel
theorem dX7_reachedFrom_17 : decode cX7_reachedFrom 17 = .ok (.iload 4, 2) := by decide +kernel
theorem dX7_reachedFrom_19 : decode cX7_reachedFrom 19 = .ok (.aload_n 0, 1) := by decide +kernel
theorem dX7_reachedFrom_20 : decode cX7_reachedFrom 20 = .ok (.getfield 44, 3) := by decide +kernel
theorem dX7_reachedFrom_23 : decode cX7_reachedFrom 23 = .ok (.if_icmp .ge 27, 3) := by decide +kernel
theorem dX7_reachedFrom_26 : decode cX7_reachedFrom 26 = .ok (.iload_n 2, 1) := by decide +kernel
theorem dX7_reachedFrom_27 : decode cX7_reachedFrom 27 = .ok (.iload 4, 2) := by decide +kernel
theorem dX7_reachedFrom_29 : decode cX7_reachedFrom 29 = .ok (.ishr, 1) := by decide +kernel
theorem dX7_reachedFrom_30 : decode cX7_reachedFrom 30 = .ok (.iconst 1, 1) := by decide +kernel
theorem dX7_reachedFrom_31 : decode cX7_reachedFrom 31 = .ok (.iand, 1) := by decide +kernel
theorem dX7_reachedFrom_32 : decode cX7_reachedFrom 32 = .ok (.ifCond .eq 12, 3) := by decide +kernel
theorem dX7_reachedFrom_35 : decode cX7_reachedFrom 35 = .ok (.iload_n 2, 1) := by decide +kernel
theorem dX7_reachedFrom_36 : decode cX7_reachedFrom 36 = .ok (.aload_n 0, 1) := by decide +kernel
theorem dX7_reachedFrom_37 : decode cX7_reachedFrom 37 = .ok (.iload 4, 2) := by decide +kernel
theorem dX7_reachedFrom_39 : decode cX7_reachedFrom 39 = .ok (.invokevirtual 90, 3) := by decide +kernel
theorem dX7_reachedFrom_42 : decode cX7_reachedFrom 42 = .ok (.ior, 1) := by decide +kernel
theorem dX7_reachedFrom_43 : decode cX7_reachedFrom 43 = .ok (.istore_n 2, 1) := by decide +kernel
theorem dX7_reachedFrom_44 : decode cX7_reachedFrom 44 = .ok (.iinc 4 1, 3) := by decide +kernel
theorem dX7_reachedFrom_47 : decode cX7_reachedFrom 47 = .ok (.goto (-30), 3) := by decide +kernel
theorem dX7_reachedFrom_50 : decode cX7_reachedFrom 50 = .ok (.iinc 3 1, 3) := by decide +kernel
theorem dX7_reachedFrom_53 : decode cX7_reachedFrom 53 = .ok (.goto (-47), 3) := by decide +kernel
theorem dX7_reachedFrom_56 : decode cX7_reachedFrom 56 = .ok (.iload_n 2, 1) := by decide +kernel
theorem dX7_reachedFrom_57 : decode cX7_reachedFrom 57 = .ok (.ireturn, 1) := by decide +kernel
def mRo_reachedFrom_B17 (k6 : Int32 → Int32 → hI → Option (Int32)) (k17 : Int32 → Int32 → Int32 → hI → Option (Int32)) (v2 : Int32) (v3 : Int32) (v4 : Int32) (I : hI) : Option (Int32) :=
  if (I 7 5) ≤ v4 then
    k6 v2 (v3 + (1 : Int32)) I
  else
    (if ((v2 >>> (v4 &&& 31)) &&& (1 : Int32)) = 0 then
      k17 v2 v3 (v4 + (1 : Int32)) I
    else
      ((mRo_nextStates v4 I).bind fun q1 =>
      h_let (v2 ||| q1) fun v2x1 =>
      k17 v2x1 v3 (v4 + (1 : Int32)) I))
set_option maxHeartbeats 4000000 in
theorem sRo_reachedFrom_B17 (d : Nat) (hd : 1 + 1 ≤ d) (k6 : Int32 → Int32 → hI → Option (Int32)) (hk6 : ∀ (v2 : Int32) (v3 : Int32) (I : hI) (J : hJ) (B : Bool × Bool) (q : Int32), k6 v2 v3 I = some q → AW hFT cX7_reachedFrom 5 (some .int) RX7 kdC d [(0, .ref 7), (2, .int v2), (3, .int v3)] 6 [] (I, J, RM B) (some (.int q)) (I, J, RM B)) (k17 : Int32 → Int32 → Int32 → hI → Option (Int32)) (hk17 : ∀ (v2 : Int32) (v3 : Int32) (v4 : Int32) (I : hI) (J : hJ) (B : Bool × Bool) (q : Int32), k17 v2 v3 v4 I = some q → AW hFT cX7_reachedFrom 5 (some .int) RX7 kdC d [(0, .ref 7), (2, .int v2), (3, .int v3), (4, .int v4)] 17 [] (I, J, RM B) (some (.int q)) (I, J, RM B)) (v2 : Int32) (v3 : Int32) (v4 : Int32) (I : hI) (J : hJ) (B : Bool × Bool) (q : Int32) (h : mRo_reachedFrom_B17 k6 k17 v2 v3 v4 I = some q) : AW hFT cX7_reachedFrom 5 (some .int) RX7 kdC d [(0, .ref 7), (2, .int v2), (3, .int v3), (4, .int v4)] 17 [] (I, J, RM B) (some (.int q)) (I, J, RM B) := by
  obtain ⟨d0, rfl, hd0⟩ := h_mono hd
  unfold mRo_reachedFrom_B17 at h
  refine a_iload dX7_reachedFrom_17 rfl ?_
  refine a_aload_n dX7_reachedFrom_19 rfl rfl ?_
  refine b_getI hK_7 kc_7 (i := 5) rfl fl_7_44 rfl dX7_reachedFrom_20 ?_
  refine a_icmp_ge (tgt := 50) dX7_reachedFrom_23 (by decide) (fun c => ?_) (fun c => ?_)
  · replace h := h_iteT c h
    refine b_iinc (lv' := [(3, .int (v3 + (1 : Int32))), (0, .ref 7), (2, .int v2), (4, .int v4)]) dX7_reachedFrom_50 rfl ic_1 (by decide) rfl ?_
    refine a_goto (tgt := 6) dX7_reachedFrom_53 (by decide) ?_
    refine a_sub (lv' := [(0, .ref 7), (2, .int v2), (3, .int (v3 + (1 : Int32)))]) [1, 2, 0] rfl ?_
    exact hk6 v2 (v3 + (1 : Int32)) I J B _ h
  · replace h := h_iteF c h
    refine a_iload_n dX7_reachedFrom_26 rfl rfl ?_
    refine a_iload dX7_reachedFrom_27 rfl ?_
    refine a_ishr dX7_reachedFrom_29 ?_
    refine a_iconst dX7_reachedFrom_30 ic_1 ?_
    refine a_iand dX7_reachedFrom_31 ?_
    refine a_if_eq (tgt := 44) dX7_reachedFrom_32 (by decide) (fun c => ?_) (fun c => ?_)
    · replace h := h_iteT c h
      refine b_iinc (lv' := [(4, .int (v4 + (1 : Int32))), (0, .ref 7), (2, .int v2), (3, .int v3)]) dX7_reachedFrom_44 rfl ic_1 (by decide) rfl ?_
      refine a_goto (tgt := 17) dX7_reachedFrom_47 (by decide) ?_
      refine a_sub (lv' := [(0, .ref 7), (2, .int v2), (3, .int v3), (4, .int (v4 + (1 : Int32)))]) [1, 2, 3, 0] rfl ?_
      exact hk17 v2 v3 (v4 + (1 : Int32)) I J B _ h
    · replace h := h_iteF c h
      refine a_iload_n dX7_reachedFrom_35 rfl rfl ?_
      refine a_aload_n dX7_reachedFrom_36 rfl rfl ?_
      refine a_iload dX7_reachedFrom_37 rfl ?_
      obtain ⟨q1, cq1, h⟩ := h_bindS h
      refine a_callV1 [.int v2] yy_X7_nextStates ml_7_90 kc_7 rfl (sRo_nextStates _ (by omega) v4 I J B q1 cq1) rfl rfl (Nat.le_of_ble_eq_true rfl) dX7_reachedFrom_39 ?_
      refine a_ior dX7_reachedFrom_42 ?_
      obtain ⟨v2x1, ev2x1, h⟩ := h_letS h
      refine a_topI ev2x1 ?_
      refine a_istore_n (lv' := [(2, .int v2x1), (0, .ref 7), (3, .int v3), (4, .int v4)]) dX7_reachedFrom_43 rfl (by decide) rfl ?_
      refine b_iinc (lv' := [(4, .int (v4 + (1 : Int32))), (2, .int v2x1), (0, .ref 7), (3, .int v3)]) dX7_reachedFrom_44 rfl ic_1 (by decide) rfl ?_
      refine a_goto (tgt := 17) dX7_reachedFrom_47 (by decide) ?_
      refine a_sub (lv' := [(0, .ref 7), (2, .int v2x1), (3, .int v3), (4, .int (v4 + (1 : Int32)))]) [2, 1, 3, 0] rfl ?_
      exact hk17 v2x1 v3 (v4 + (1 : Int32)) I J B _ h
def mRo_reachedFrom_L17 (k6 : Int32 → Int32 → hI → Option (Int32)) : Nat → Int32 → Int32 → Int32 → hI → Option (Int32)
  | 0 => fun _ _ _ _ => none
  | n + 1 => mRo_reachedFrom_B17 k6 (mRo_reachedFrom_L17 k6 n)
theorem sRo_reachedFrom_L17 (d : Nat) (hd : 1 + 1 ≤ d) (k6 : Int32 → Int32 → hI → Option (Int32)) (hk6 : ∀ (v2 : Int32) (v3 : Int32) (I : hI) (J : hJ) (B : Bool × Bool) (q : Int32), k6 v2 v3 I = some q → AW hFT cX7_reachedFrom 5 (some .int) RX7 kdC d [(0, .ref 7), (2, .int v2), (3, .int v3)] 6 [] (I, J, RM B) (some (.int q)) (I, J, RM B)) : ∀ (n : Nat) (v2 : Int32) (v3 : Int32) (v4 : Int32) (I : hI) (J : hJ) (B : Bool × Bool) (q : Int32) (h : mRo_reachedFrom_L17 k6 n v2 v3 v4 I = some q), AW hFT cX7_reachedFrom 5 (some .int) RX7 kdC d [(0, .ref 7), (2, .int v2), (3, .int v3), (4, .int v4)] 17 [] (I, J, RM B) (some (.int q)) (I, J, RM B)
  | 0, _, _, _, _, _, _, q, h => by cases h
  | n + 1, v2, v3, v4, I, J, B, q, h => sRo_reachedFrom_B17 d hd k6 hk6 (mRo_reachedFrom_L17 k6 n) (sRo_reachedFrom_L17 d hd k6 hk6 n) v2 v3 v4 I J B q h
def mRo_reachedFrom_B6 (k6 : Int32 → Int32 → hI → Option (Int32)) (v2 : Int32) (v3 : Int32) (I : hI) : Option (Int32) :=
  if (I 7 5) ≤ v3 then
    some v2
  else
    mRo_reachedFrom_L17 k6 hF v2 v3 (0 : Int32) I
set_option maxHeartbeats 4000000 in
theorem sRo_reachedFrom_B6 (d : Nat) (hd : 1 + 1 ≤ d) (k6 : Int32 → Int32 → hI → Option (Int32)) (hk6 : ∀ (v2 : Int32) (v3 : Int32) (I : hI) (J : hJ) (B : Bool × Bool) (q : Int32), k6 v2 v3 I = some q → AW hFT cX7_reachedFrom 5 (some .int) RX7 kdC d [(0, .ref 7), (2, .int v2), (3, .int v3)] 6 [] (I, J, RM B) (some (.int q)) (I, J, RM B)) (v2 : Int32) (v3 : Int32) (I : hI) (J : hJ) (B : Bool × Bool) (q : Int32) (h : mRo_reachedFrom_B6 k6 v2 v3 I = some q) : AW hFT cX7_reachedFrom 5 (some .int) RX7 kdC d [(0, .ref 7), (2, .int v2), (3, .int v3)] 6 [] (I, J, RM B) (some (.int q)) (I, J, RM B) := by
  obtain ⟨d0, rfl, hd0⟩ := h_mono hd
  unfold mRo_reachedFrom_B6 at h
  refine a_iload_n dX7_reachedFrom_6 rfl rfl ?_
  refine a_aload_n dX7_reachedFrom_7 rfl rfl ?_
  refine b_getI hK_7 kc_7 (i := 5) rfl fl_7_44 rfl dX7_reachedFrom_8 ?_
  refine a_icmp_ge (tgt := 56) dX7_reachedFrom_11 (by decide) (fun c => ?_) (fun c => ?_)
  · replace h := h_iteT c h
    refine a_iload_n dX7_reachedFrom_56 rfl rfl ?_
    cases h
    exact a_iret dX7_reachedFrom_57
  · replace h := h_iteF c h
    refine a_iconst dX7_reachedFrom_14 ic_0 ?_
    refine a_istore (lv' := [(4, .int (0 : Int32)), (0, .ref 7), (2, .int v2), (3, .int v3)]) dX7_reachedFrom_15 (by decide) rfl ?_
    refine a_sub (lv' := [(0, .ref 7), (2, .int v2), (3, .int v3), (4, .int (0 : Int32))]) [1, 2, 3, 0] rfl ?_
    exact sRo_reachedFrom_L17 (d0 + 1) (by omega) k6 hk6 hF v2 v3 (0 : Int32) I J B _ h
def mRo_reachedFrom_L6  : Nat → Int32 → Int32 → hI → Option (Int32)
  | 0 => fun _ _ _ => none
  | n + 1 => mRo_reachedFrom_B6 (mRo_reachedFrom_L6 n)
theorem sRo_reachedFrom_L6 (d : Nat) (hd : 1 + 1 ≤ d) : ∀ (n : Nat) (v2 : Int32) (v3 : Int32) (I : hI) (J : hJ) (B : Bool × Bool) (q : Int32) (h : mRo_reachedFrom_L6 n v2 v3 I = some q), AW hFT cX7_reachedFrom 5 (some .int) RX7 kdC d [(0, .ref 7), (2, .int v2), (3, .int v3)] 6 [] (I, J, RM B) (some (.int q)) (I, J, RM B)
  | 0, _, _, _, _, _, q, h => by cases h
  | n + 1, v2, v3, I, J, B, q, h => sRo_reachedFrom_B6 d hd (mRo_reachedFrom_L6 n) (sRo_reachedFrom_L6 d hd n) v2 v3 I J B q h
def mRo_reachedFrom  (v1 : Int32) (I : hI) : Option (Int32) :=
  h_let ((1 : Int32) <<< (v1 &&& 31)) fun v2x0 =>
  mRo_reachedFrom_L6 hF v2x0 (0 : Int32) I
set_option maxHeartbeats 4000000 in
theorem sRo_reachedFrom (d : Nat) (hd : 1 + 1 ≤ d) (v1 : Int32) (I : hI) (J : hJ) (B : Bool × Bool) (q : Int32) (h : mRo_reachedFrom v1 I = some q) : HMet hFT yX7_reachedFrom cX7_reachedFrom 5 (some .int) kdC d [.ref 7, .int v1] (I, J, RM B) (some (.int q)) (I, J, RM B) := by
  obtain ⟨d0, rfl, hd0⟩ := h_mono hd
  refine HMet.of (by decide) (Nat.le_of_ble_eq_true rfl) ?_
  show AW hFT cX7_reachedFrom 5 (some .int) RX7 kdC (d0 + 1) [(0, .ref 7), (1, .int v1)] 0 [] (I, J, RM B) (some (.int q)) (I, J, RM B)
  unfold mRo_reachedFrom at h
  refine a_iconst dX7_reachedFrom_0 ic_1 ?_
  refine a_iload_n dX7_reachedFrom_1 rfl rfl ?_
  refine a_ishl dX7_reachedFrom_2 ?_
  obtain ⟨v2x0, ev2x0, h⟩ := h_letS h
  refine a_topI ev2x0 ?_
  refine a_istore_n (lv' := [(2, .int v2x0), (0, .ref 7), (1, .int v1)]) dX7_reachedFrom_3 rfl (by decide) rfl ?_
  refine a_iconst dX7_reachedFrom_4 ic_0 ?_
  refine a_istore_n (lv' := [(3, .int (0 : Int32)), (2, .int v2x0), (0, .ref 7), (1, .int v1)]) dX7_reachedFrom_5 rfl (by decide) rfl ?_
  refine a_sub (lv' := [(0, .ref 7), (2, .int v2x0), (3, .int (0 : Int32))]) [2, 1, 0] rfl ?_
  exact sRo_reachedFrom_L6 (d0 + 1) (by omega) hF v2x0 (0 : Int32) I J B _ h
/-! CoinLoops$Walk.startDraws(III)V -/
theorem dX9_startDraws_0 : decode cX9_startDraws 0 = .ok (.aload_n 0, 1) := by decide +kernel
theorem dX9_startDraws_1 : decode cX9_startDraws 1 = .ok (.iload_n 1, 1) := by decide +kernel
theorem dX9_startDraws_2 : decode cX9_startDraws 2 = .ok (.iload_n 2, 1) := by decide +kernel
theorem dX9_startDraws_3 : decode cX9_startDraws 3 = .ok (.invokevirtual 9, 3) := by decide +kernel
theorem dX9_startDraws_6 : decode cX9_startDraws 6 = .ok (.aload_n 0, 1) := by decide +kernel
theorem dX9_startDraws_7 : decode cX9_startDraws 7 = .ok (.iconst 1, 1) := by decide +kernel
theorem dX9_startDraws_8 : decode cX9_startDraws 8 = .ok (.putfield 15, 3) := by decide +kernel
theorem dX9_startDraws_11 : decode cX9_startDraws 11 = .ok (.aload_n 0, 1) := by decide +kernel
theorem dX9_startDraws_12 : decode cX9_startDraws 12 = .ok (.iload_n 3, 1) := by decide +kernel
theorem dX9_startDraws_13 : decode cX9_startDraws 13 = .ok (.putfield 19, 3) := by decide +kernel
theorem dX9_startDraws_16 : decode cX9_startDraws 16 = .ok (.return_, 1) := by decide +kernel
def mWk_startDraws  (v1 : Int32) (v2 : Int32) (v3 : Int32) (I : hI) : hI :=
  h_let (mWk_start v1 v2 I) fun q1 =>
  h_let (h_u q1 6 5 (1 : Int32)) fun I2 =>
  h_let (h_u I2 6 6 v3) fun I3 =>
  I3
set_option maxHeartbeats 4000000 in
theorem sWk_startDraws (d : Nat) (hd : 0 + 1 ≤ d) (v1 : Int32) (v2 : Int32) (v3 : Int32) (I : hI) (J : hJ) (B : Bool × Bool) (q : hI) (h : mWk_startDraws v1 v2 v3 I = q) : HMet hFT yX9_startDraws cX9_startDraws 4 none kdC d [.ref 6, .int v1, .int v2, .int v3] (I, J, RM B) none (q, J, RM B) := by
  obtain ⟨d0, rfl, hd0⟩ := h_mono hd
  refine HMet.of (by decide) (Nat.le_of_ble_eq_true rfl) ?_
  show AW hFT cX9_startDraws 4 none RX9 kdC (d0 + 1) [(0, .ref 6), (1, .int v1), (2, .int v2), (3, .int v3)] 0 [] (I, J, RM B) none (q, J, RM B)
  unfold mWk_startDraws at h
  refine a_aload_n dX9_startDraws_0 rfl rfl ?_
  refine a_iload_n dX9_startDraws_1 rfl rfl ?_
  refine a_iload_n dX9_startDraws_2 rfl rfl ?_
  obtain ⟨q1, cq1, h⟩ := h_letS h
  refine a_callV0 [] yy_X9_start ml_9_9 kc_6 rfl (sWk_start _ (by omega) v1 v2 I J B q1 cq1) rfl rfl (Nat.le_of_ble_eq_true rfl) dX9_startDraws_3 ?_
  refine a_aload_n dX9_startDraws_6 rfl rfl ?_
  refine a_iconst dX9_startDraws_7 ic_1 ?_
  refine b_putI hK_9 kc_6 (i := 5) rfl fl_9_15 rfl rfl h_Z1 dX9_startDraws_8 ?_
  obtain ⟨I2, eI2, h⟩ := h_letS h
  refine a_memI eI2 ?_
  refine a_aload_n dX9_startDraws_11 rfl rfl ?_
  refine a_iload_n dX9_startDraws_12 rfl rfl ?_
  refine b_putI hK_9 kc_6 (i := 6) rfl fl_9_19 rfl rfl (h_NI _) dX9_startDraws_13 ?_
  obtain ⟨I3, eI3, h⟩ := h_letS h
  refine a_memI eI3 ?_
  cases h
  exact a_vret dX9_startDraws_16
/-! CoinLoops.feed(IIIII)I -/
theorem dX10_feed_0 : decode cX10_feed 0 = .ok (.aload_n 0, 1) := by decide +kernel
theorem dX10_feed_1 : decode cX10_feed 1 = .ok (.getfield 12, 3) := by decide +kernel
theorem dX10_feed_4 : decode cX10_feed 4 = .ok (.getfield 77, 3) := by decide +kernel
theorem dX10_feed_7 : decode cX10_feed 7 = .ok (.istore 6, 2) := by decide +kernel
theorem dX10_feed_9 : decode cX10_feed 9 = .ok (.aload_n 0, 1) := by decide +kernel
theorem dX10_feed_10 : decode cX10_feed 10 = .ok (.getfield 12, 3) := by decide +kernel
theorem dX10_feed_13 : decode cX10_feed 13 = .ok (.iload_n 1, 1) := by decide +kernel
theorem dX10_feed_14 : decode cX10_feed 14 = .ok (.invokevirtual 81, 3) := by decide +kernel
theorem dX10_feed_17 : decode cX10_feed 17 = .ok (.ifCond .eq 57, 3) := by decide +kernel
theorem dX10_feed_20 : decode cX10_feed 20 = .ok (.aload_n 0, 1) := by decide +kernel
theorem dX10_feed_21 : decode cX10_feed 21 = .ok (.getfield 12, 3) := by decide +kernel
theorem dX10_feed_24 : decode cX10_feed 24 = .ok (.iload_n 2, 1) := by decide +kernel
theorem dX10_feed_25 : decode cX10_feed 25 = .ok (.invokevirtual 81, 3) := by decide +kernel
theorem dX10_feed_28 : decode cX10_feed 28 = .ok (.ifCond .eq 46, 3) := by decide +kernel
theorem dX10_feed_31 : decode cX10_feed 31 = .ok (.aload_n 0, 1) := by decide +kernel
theorem dX10_feed_32 : decode cX10_feed 32 = .ok (.getfield 12, 3) := by decide +kernel
theorem dX10_feed_35 : decode cX10_feed 35 = .ok (.iload_n 3, 1) := by decide +kernel
theorem dX10_feed_36 : decode cX10_feed 36 = .ok (.invokevirtual 81, 3) := by decide +kernel
theorem dX10_feed_39 : decode cX10_feed 39 = .ok (.ifCond .eq 35, 3) := by decide +kernel
theorem dX10_feed_42 : decode cX10_feed 42 = .ok (.aload_n 0, 1) := by decide +kernel
theorem dX10_feed_43 : decode cX10_feed 43 = .ok (.getfield 12, 3) := by decide +kernel
theorem dX10_feed_46 : decode cX10_feed 46 = .ok (.iload 4, 2) := by decide +kernel
theorem dX10_feed_48 : decode cX10_feed 48 = .ok (.invokevirtual 81, 3) := by decide +kernel
theorem dX10_feed_51 : decode cX10_feed 51 = .ok (.ifCond .eq 23, 3) := by decide +kernel
theorem dX10_feed_54 : decode cX10_feed 54 = .ok (.aload_n 0, 1) := by decide +kernel
theorem dX10_feed_55 : decode cX10_feed 55 = .ok (.getfield 12, 3) := by decide +kernel
theorem dX10_feed_58 : decode cX10_feed 58 = .ok (.iload 5, 2) := by decide +kernel
theorem dX10_feed_60 : decode cX10_feed 60 = .ok (.invokevirtual 81, 3) := by decide +kernel
theorem dX10_feed_63 : decode cX10_feed 63 = .ok (.ifCond .eq 11, 3) := by decide +kernel
theorem dX10_feed_66 : decode cX10_feed 66 = .ok (.aload_n 0, 1) := by decide +kernel
theorem dX10_feed_67 : decode cX10_feed 67 = .ok (.getfield 12, 3) := by decide +kernel
theorem dX10_feed_70 : decode cX10_feed 70 = .ok (.getfield 77, 3) := by decide +kernel
theorem dX10_feed_73 : decode cX10_feed 73 = .ok (.ireturn, 1) := by decide +kernel
theorem dX10_feed_74 : decode cX10_feed 74 = .ok (.aload_n 0, 1) := by decide +kernel
theorem dX10_feed_75 : decode cX10_feed 75 = .ok (.getfield 12, 3) := by decide +kernel
theorem dX10_feed_78 : decode cX10_feed 78 = .ok (.iload 6, 2) := by decide +kernel
theorem dX10_feed_80 : decode cX10_feed 80 = .ok (.putfield 77, 3) := by decide +kernel
theorem dX10_feed_83 : decode cX10_feed 83 = .ok (.iconst (-1), 1) := by decide +kernel
theorem dX10_feed_84 : decode cX10_feed 84 = .ok (.ireturn, 1) := by decide +kernel
def mC_feed_74  (v6 : Int32) (I : hI) : Option (Int32 × hI) :=
  h_let (h_u I 1 1 v6) fun I1 =>
  some ((-1 : Int32), I1)
set_option maxHeartbeats 4000000 in
theorem sC_feed_74 (d : Nat) (hd : 1 + 1 ≤ d) (v6 : Int32) (I : hI) (J : hJ) (B : Bool × Bool) (q : Int32 × hI) (h : mC_feed_74 v6 I = some q) : AW hFT cX10_feed 7 (some .int) RX10 kdC d [(0, .ref 0), (6, .int v6)] 74 [] (I, J, RM B) (some (.int q.1)) (q.2, J, RM B) := by
  obtain ⟨d0, rfl, hd0⟩ := h_mono hd
  unfold mC_feed_74 at h
  refine a_aload_n dX10_feed_74 rfl rfl ?_
  refine b_getR hK_10 kc_0 (i := 0) rfl fl_10_12 rfl (rm_0_0 B) dX10_feed_75 ?_
  refine a_iload dX10_feed_78 rfl ?_
  refine b_putI hK_6 kc_1 (i := 1) rfl fl_10_77 rfl rfl (h_NI _) dX10_feed_80 ?_
  obtain ⟨I1, eI1, h⟩ := h_letS h
  refine a_memI eI1 ?_
  refine a_iconst dX10_feed_83 ic_m1 ?_
  cases h
  exact a_iret dX10_feed_84
def mC_feed  (v1 : Int32) (v2 : Int32) (v3 : Int32) (v4 : Int32) (v5 : Int32) (I : hI) : Option (Int32 × hI) :=
  h_let (I 1 1) fun v6x0 =>
  (mRd_append v1 I).bind fun q2 =>
  if q2.1 = 0 then
    mC_feed_74 v6x0 q2.2
  else
    ((mRd_append v2 q2.2).bind fun q3 =>
    if q3.1 = 0 then
      mC_feed_74 v6x0 q3.2
    else
      ((mRd_append v3 q3.2).bind fun q4 =>
      if q4.1 = 0 then
        mC_feed_74 v6x0 q4.2
      else
        ((mRd_append v4 q4.2).bind fun q5 =>
        if q5.1 = 0 then
          mC_feed_74 v6x0 q5.2
        else
          ((mRd_append v5 q5.2).bind fun q6 =>
          if q6.1 = 0 then
            mC_feed_74 v6x0 q6.2
          else
            some ((q6.2 1 1), q6.2)))))
set_option maxHeartbeats 4000000 in
theorem sC_feed (d : Nat) (hd : 1 + 1 ≤ d) (v1 : Int32) (v2 : Int32) (v3 : Int32) (v4 : Int32) (v5 : Int32) (I : hI) (J : hJ) (B : Bool × Bool) (q : Int32 × hI) (h : mC_feed v1 v2 v3 v4 v5 I = some q) : HMet hFT yX10_feed cX10_feed 7 (some .int) kdC d [.ref 0, .int v1, .int v2, .int v3, .int v4, .int v5] (I, J, RM B) (some (.int q.1)) (q.2, J, RM B) := by
  obtain ⟨d0, rfl, hd0⟩ := h_mono hd
  refine HMet.of (by decide) (Nat.le_of_ble_eq_true rfl) ?_
  show AW hFT cX10_feed 7 (some .int) RX10 kdC (d0 + 1) [(0, .ref 0), (1, .int v1), (2, .int v2), (3, .int v3), (4, .int v4), (5, .int v5)] 0 [] (I, J, RM B) (some (.int q.1)) (q.2, J, RM B)
  unfold mC_feed at h
  refine a_aload_n dX10_feed_0 rfl rfl ?_
  refine b_getR hK_10 kc_0 (i := 0) rfl fl_10_12 rfl (rm_0_0 B) dX10_feed_1 ?_
  refine b_getI hK_6 kc_1 (i := 1) rfl fl_10_77 rfl dX10_feed_4 ?_
  obtain ⟨v6x0, ev6x0, h⟩ := h_letS h
  refine a_topI ev6x0 ?_
  refine a_istore (lv' := [(6, .int v6x0), (0, .ref 0), (1, .int v1), (2, .int v2), (3, .int v3), (4, .int v4), (5, .int v5)]) dX10_feed_7 (by decide) rfl ?_
  refine a_aload_n dX10_feed_9 rfl rfl ?_
  refine b_getR hK_10 kc_0 (i := 0) rfl fl_10_12 rfl (rm_0_0 B) dX10_feed_10 ?_
  refine a_iload_n dX10_feed_13 rfl rfl ?_
  obtain ⟨q2, cq2, h⟩ := h_bindS h
  refine a_callV1 [] yy_X6_append ml_10_81 kc_1 rfl (sRd_append _ (by omega) v1 I J B q2 cq2) rfl rfl (Nat.le_of_ble_eq_true rfl) dX10_feed_14 ?_
  refine a_if_eq (tgt := 74) dX10_feed_17 (by decide) (fun c => ?_) (fun c => ?_)
  · replace h := h_iteT c h
    refine a_sub (lv' := [(0, .ref 0), (6, .int v6x0)]) [1, 0] rfl ?_
    exact sC_feed_74 (d0 + 1) (by omega) v6x0 q2.2 J B _ h
  · replace h := h_iteF c h
    refine a_aload_n dX10_feed_20 rfl rfl ?_
    refine b_getR hK_10 kc_0 (i := 0) rfl fl_10_12 rfl (rm_0_0 B) dX10_feed_21 ?_
    refine a_iload_n dX10_feed_24 rfl rfl ?_
    obtain ⟨q3, cq3, h⟩ := h_bindS h
    refine a_callV1 [] yy_X6_append ml_10_81 kc_1 rfl (sRd_append _ (by omega) v2 q2.2 J B q3 cq3) rfl rfl (Nat.le_of_ble_eq_true rfl) dX10_feed_25 ?_
    refine a_if_eq (tgt := 74) dX10_feed_28 (by decide) (fun c => ?_) (fun c => ?_)
    · replace h := h_iteT c h
      refine a_sub (lv' := [(0, .ref 0), (6, .int v6x0)]) [1, 0] rfl ?_
      exact sC_feed_74 (d0 + 1) (by omega) v6x0 q3.2 J B _ h
    · replace h := h_iteF c h
      refine a_aload_n dX10_feed_31 rfl rfl ?_
      refine b_getR hK_10 kc_0 (i := 0) rfl fl_10_12 rfl (rm_0_0 B) dX10_feed_32 ?_
      refine a_iload_n dX10_feed_35 rfl rfl ?_
      obtain ⟨q4, cq4, h⟩ := h_bindS h
      refine a_callV1 [] yy_X6_append ml_10_81 kc_1 rfl (sRd_append _ (by omega) v3 q3.2 J B q4 cq4) rfl rfl (Nat.le_of_ble_eq_true rfl) dX10_feed_36 ?_
      refine a_if_eq (tgt := 74) dX10_feed_39 (by decide) (fun c => ?_) (fun c => ?_)
      · replace h := h_iteT c h
        refine a_sub (lv' := [(0, .ref 0), (6, .int v6x0)]) [1, 0] rfl ?_
        exact sC_feed_74 (d0 + 1) (by omega) v6x0 q4.2 J B _ h
      · replace h := h_iteF c h
        refine a_aload_n dX10_feed_42 rfl rfl ?_
        refine b_getR hK_10 kc_0 (i := 0) rfl fl_10_12 rfl (rm_0_0 B) dX10_feed_43 ?_
        refine a_iload dX10_feed_46 rfl ?_
        obtain ⟨q5, cq5, h⟩ := h_bindS h
        refine a_callV1 [] yy_X6_append ml_10_81 kc_1 rfl (sRd_append _ (by omega) v4 q4.2 J B q5 cq5) rfl rfl (Nat.le_of_ble_eq_true rfl) dX10_feed_48 ?_
        refine a_if_eq (tgt := 74) dX10_feed_51 (by decide) (fun c => ?_) (fun c => ?_)
        · replace h := h_iteT c h
          refine a_sub (lv' := [(0, .ref 0), (6, .int v6x0)]) [1, 0] rfl ?_
          exact sC_feed_74 (d0 + 1) (by omega) v6x0 q5.2 J B _ h
        · replace h := h_iteF c h
          refine a_aload_n dX10_feed_54 rfl rfl ?_
          refine b_getR hK_10 kc_0 (i := 0) rfl fl_10_12 rfl (rm_0_0 B) dX10_feed_55 ?_
          refine a_iload dX10_feed_58 rfl ?_
          obtain ⟨q6, cq6, h⟩ := h_bindS h
          refine a_callV1 [] yy_X6_append ml_10_81 kc_1 rfl (sRd_append _ (by omega) v5 q5.2 J B q6 cq6) rfl rfl (Nat.le_of_ble_eq_true rfl) dX10_feed_60 ?_
          refine a_if_eq (tgt := 74) dX10_feed_63 (by decide) (fun c => ?_) (fun c => ?_)
          · replace h := h_iteT c h
            refine a_sub (lv' := [(0, .ref 0), (6, .int v6x0)]) [1, 0] rfl ?_
            exact sC_feed_74 (d0 + 1) (by omega) v6x0 q6.2 J B _ h
          · replace h := h_iteF c h
            refine a_aload_n dX10_feed_66 rfl rfl ?_
            refine b_getR hK_10 kc_0 (i := 0) rfl fl_10_12 rfl (rm_0_0 B) dX10_feed_67 ?_
            refine b_getI hK_6 kc_1 (i := 1) rfl fl_10_77 rfl dX10_feed_70 ?_
            cases h
            exact a_iret dX10_feed_73
/-! CoinLoops.end(I)Z -/
theorem dX10_end_0 : decode cX10_end 0 = .ok (.iload_n 1, 1) := by decide +kernel
theorem dX10_end_1 : decode cX10_end 1 = .ok (.ifCond .lt 14, 3) := by decide +kernel
theorem dX10_end_4 : decode cX10_end 4 = .ok (.iload_n 1, 1) := by decide +kernel
theorem dX10_end_5 : decode cX10_end 5 = .ok (.aload_n 0, 1) := by decide +kernel
theorem dX10_end_6 : decode cX10_end 6 = .ok (.getfield 12, 3) := by decide +kernel
theorem dX10_end_9 : decode cX10_end 9 = .ok (.getfield 77, 3) := by decide +kernel
theorem dX10_end_12 : decode cX10_end 12 = .ok (.if_icmp .le 5, 3) := by decide +kernel
theorem dX10_end_15 : decode cX10_end 15 = .ok (.iconst 0, 1) := by decide +kernel
theorem dX10_end_16 : decode cX10_end 16 = .ok (.ireturn, 1) := by decide +kernel
theorem dX10_end_17 : decode cX10_end 17 = .ok (.aload_n 0, 1) := by decide +kernel
theorem dX10_end_18 : decode cX10_end 18 = .ok (.getfield 12, 3) := by decide +kernel
theorem dX10_end_21 : decode cX10_end 21 = .ok (.iload_n 1, 1) := by decide +kernel
theorem dX10_end_22 : decode cX10_end 22 = .ok (.putfield 77, 3) := by decide +kernel
theorem dX10_end_25 : decode cX10_end 25 = .ok (.iconst 1, 1) := by decide +kernel
theorem dX10_end_26 : decode cX10_end 26 = .ok (.ireturn, 1) := by decide +kernel
def mC_end  (v1 : Int32) (I : hI) : Int32 × hI :=
  if v1 < 0 then
    ((0 : Int32), I)
  else
    (if v1 ≤ (I 1 1) then
      (h_let (h_u I 1 1 v1) fun I1 =>
      ((1 : Int32), I1))
    else
      ((0 : Int32), I))
set_option maxHeartbeats 4000000 in
theorem sC_end (d : Nat) (hd : 0 ≤ d) (v1 : Int32) (I : hI) (J : hJ) (B : Bool × Bool) (q : Int32 × hI) (h : mC_end v1 I = q) : HMet hFT yX10_end cX10_end 2 (some .boolean) kdC d [.ref 0, .int v1] (I, J, RM B) (some (.int q.1)) (q.2, J, RM B) := by
  refine HMet.of (by decide) (Nat.le_of_ble_eq_true rfl) ?_
  show AW hFT cX10_end 2 (some .boolean) RX10 kdC d [(0, .ref 0), (1, .int v1)] 0 [] (I, J, RM B) (some (.int q.1)) (q.2, J, RM B)
  unfold mC_end at h
  refine a_iload_n dX10_end_0 rfl rfl ?_
  refine a_if_lt (tgt := 15) dX10_end_1 (by decide) (fun c => ?_) (fun c => ?_)
  · replace h := h_iteT c h
    refine a_iconst dX10_end_15 ic_0 ?_
    cases h
    exact a_zret (h_Z0.1) dX10_end_16
  · replace h := h_iteF c h
    refine a_iload_n dX10_end_4 rfl rfl ?_
    refine a_aload_n dX10_end_5 rfl rfl ?_
    refine b_getR hK_10 kc_0 (i := 0) rfl fl_10_12 rfl (rm_0_0 B) dX10_end_6 ?_
    refine b_getI hK_6 kc_1 (i := 1) rfl fl_10_77 rfl dX10_end_9 ?_
    refine a_icmp_le (tgt := 17) dX10_end_12 (by decide) (fun c => ?_) (fun c => ?_)
    · replace h := h_iteT c h
      refine a_aload_n dX10_end_17 rfl rfl ?_
      refine b_getR hK_10 kc_0 (i := 0) rfl fl_10_12 rfl (rm_0_0 B) dX10_end_18 ?_
      refine a_iload_n dX10_end_21 rfl rfl ?_
      refine b_putI hK_6 kc_1 (i := 1) rfl fl_10_77 rfl rfl (h_NI _) dX10_end_22 ?_
      obtain ⟨I1, eI1, h⟩ := h_letS h
      refine a_memI eI1 ?_
      refine a_iconst dX10_end_25 ic_1 ?_
      cases h
      exact a_zret (h_Z1.1) dX10_end_26
    · replace h := h_iteF c h
      refine a_iconst dX10_end_15 ic_0 ?_
      cases h
      exact a_zret (h_Z0.1) dX10_end_16
/-! CoinLoops.fault(I)I -/
theorem dX10_fault_0 : decode cX10_fault 0 = .ok (.iload_n 1, 1) := by decide +kernel
theorem dX10_fault_1 : decode cX10_fault 1 = .ok (.ifCond .ne 15, 3) := by decide +kernel
theorem dX10_fault_4 : decode cX10_fault 4 = .ok (.aload_n 0, 1) := by decide +kernel
theorem dX10_fault_5 : decode cX10_fault 5 = .ok (.getfield 64, 3) := by decide +kernel
theorem dX10_fault_8 : decode cX10_fault 8 = .ok (.aload_n 0, 1) := by decide +kernel
theorem dX10_fault_9 : decode cX10_fault 9 = .ok (.getfield 12, 3) := by decide +kernel
theorem dX10_fault_12 : decode cX10_fault 12 = .ok (.invokevirtual 85, 3) := by decide +kernel
theorem dX10_fault_15 : decode cX10_fault 15 = .ok (.ireturn, 1) := by decide +kernel
theorem dX10_fault_16 : decode cX10_fault 16 = .ok (.iload_n 1, 1) := by decide +kernel
theorem dX10_fault_17 : decode cX10_fault 17 = .ok (.iconst 1, 1) := by decide +kernel
theorem dX10_fault_18 : decode cX10_fault 18 = .ok (.if_icmp .ne 15, 3) := by decide +kernel
theorem dX10_fault_21 : decode cX10_fault 21 = .ok (.aload_n 0, 1) := by decide +kernel
theorem dX10_fault_22 : decode cX10_fault 22 = .ok (.getfield 74, 3) := by decide +kernel
theorem dX10_fault_25 : decode cX10_fault 25 = .ok (.aload_n 0, 1) := by decide +kernel
theorem dX10_fault_26 : decode cX10_fault 26 = .ok (.getfield 12, 3) := by decide +kernel
theorem dX10_fault_29 : decode cX10_fault 29 = .ok (.invokevirtual 89, 3) := by decide +kernel
theorem dX10_fault_32 : decode cX10_fault 32 = .ok (.ireturn, 1) := by decide +kernel
theorem dX10_fault_33 : decode cX10_fault 33 = .ok (.bipush (-2), 2) := by decide +kernel
theorem dX10_fault_35 : decode cX10_fault 35 = .ok (.ireturn, 1) := by decide +kernel
def mC_fault  (v1 : Int32) (I : hI) (B : Bool × Bool) : Option (Int32 × hI) :=
  if v1 = 0 then
    ((mLt_readFrom (h_sp B) I).bind fun q1 =>
    some (q1.1, q1.2))
  else
    (if v1 = (1 : Int32) then
      ((mGt_readFrom (h_st B) I).bind fun q1 =>
      some (q1.1, q1.2))
    else
      some ((-2 : Int32), I))
set_option maxHeartbeats 4000000 in
theorem sC_fault (d : Nat) (hd : 52 + 1 ≤ d) (v1 : Int32) (I : hI) (J : hJ) (B : Bool × Bool) (q : Int32 × hI) (h : mC_fault v1 I B = some q) : HMet hFT yX10_fault cX10_fault 2 (some .int) kdC d [.ref 0, .int v1] (I, J, RM B) (some (.int q.1)) (q.2, J, RM B) := by
  obtain ⟨d0, rfl, hd0⟩ := h_mono hd
  refine HMet.of (by decide) (Nat.le_of_ble_eq_true rfl) ?_
  show AW hFT cX10_fault 2 (some .int) RX10 kdC (d0 + 1) [(0, .ref 0), (1, .int v1)] 0 [] (I, J, RM B) (some (.int q.1)) (q.2, J, RM B)
  unfold mC_fault at h
  refine a_iload_n dX10_fault_0 rfl rfl ?_
  refine a_if_ne (tgt := 16) dX10_fault_1 (by decide) (fun c => ?_) (fun c => ?_)
  · replace h := h_iteF c h
    refine a_iload_n dX10_fault_16 rfl rfl ?_
    refine a_iconst dX10_fault_17 ic_1 ?_
    refine a_icmp_ne (tgt := 33) dX10_fault_18 (by decide) (fun c => ?_) (fun c => ?_)
    · replace h := h_iteF c h
      refine a_bipush dX10_fault_33 bp_m2 ?_
      cases h
      exact a_iret dX10_fault_35
    · replace h := h_iteT c h
      refine a_aload_n dX10_fault_21 rfl rfl ?_
      refine b_getR hK_10 kc_0 (i := 10) rfl fl_10_74 rfl (rm_0_10 B) dX10_fault_22 ?_
      refine a_aload_n dX10_fault_25 rfl rfl ?_
      refine b_getR hK_10 kc_0 (i := 0) rfl fl_10_12 rfl (rm_0_0 B) dX10_fault_26 ?_
      obtain ⟨q1, cq1, h⟩ := h_bindS h
      refine a_callV1 [] yy_X2_readFrom ml_10_89 (k_GT (gt_st B)) rfl (sGt_readFrom _ (by omega) (h_st B) (gt_st B) I J B q1 cq1) rfl rfl (Nat.le_of_ble_eq_true rfl) dX10_fault_29 ?_
      cases h
      exact a_iret dX10_fault_32
  · replace h := h_iteT c h
    refine a_aload_n dX10_fault_4 rfl rfl ?_
    refine b_getR hK_10 kc_0 (i := 8) rfl fl_10_64 rfl (rm_0_8 B) dX10_fault_5 ?_
    refine a_aload_n dX10_fault_8 rfl rfl ?_
    refine b_getR hK_10 kc_0 (i := 0) rfl fl_10_12 rfl (rm_0_0 B) dX10_fault_9 ?_
    obtain ⟨q1, cq1, h⟩ := h_bindS h
    refine a_callV1 [] yy_X4_readFrom ml_10_85 (k_LT (lt_sp B)) rfl (sLt_readFrom _ (by omega) (h_sp B) (lt_sp B) I J B q1 cq1) rfl rfl (Nat.le_of_ble_eq_true rfl) dX10_fault_12 ?_
    cases h
    exact a_iret dX10_fault_15
/-! CoinLoops.renew()V -/
theorem dX10_renew_0 : decode cX10_renew 0 = .ok (.aload_n 0, 1) := by decide +kernel
theorem dX10_renew_1 : decode cX10_renew 1 = .ok (.getfield 26, 3) := by decide +kernel
theorem dX10_renew_4 : decode cX10_renew 4 = .ok (.aload_n 0, 1) := by decide +kernel
theorem dX10_renew_5 : decode cX10_renew 5 = .ok (.getfield 60, 3) := by decide +kernel
theorem dX10_renew_8 : decode cX10_renew 8 = .ok (.invokevirtual 278, 3) := by decide +kernel
theorem dX10_renew_11 : decode cX10_renew 11 = .ok (.aload_n 0, 1) := by decide +kernel
theorem dX10_renew_12 : decode cX10_renew 12 = .ok (.getfield 26, 3) := by decide +kernel
theorem dX10_renew_15 : decode cX10_renew 15 = .ok (.aload_n 0, 1) := by decide +kernel
theorem dX10_renew_16 : decode cX10_renew 16 = .ok (.getfield 60, 3) := by decide +kernel
theorem dX10_renew_19 : decode cX10_renew 19 = .ok (.aload_n 0, 1) := by decide +kernel
theorem dX10_renew_20 : decode cX10_renew 20 = .ok (.getfield 19, 3) := by decide +kernel
theorem dX10_renew_23 : decode cX10_renew 23 = .ok (.aload_n 0, 1) := by decide +kernel
theorem dX10_renew_24 : decode cX10_renew 24 = .ok (.getfield 97, 3) := by decide +kernel
theorem dX10_renew_27 : decode cX10_renew 27 = .ok (.aload_n 0, 1) := by decide +kernel
theorem dX10_renew_28 : decode cX10_renew 28 = .ok (.getfield 100, 3) := by decide +kernel
theorem dX10_renew_31 : decode cX10_renew 31 = .ok (.invokevirtual 282, 3) := by decide +kernel
theorem dX10_renew_34 : decode cX10_renew 34 = .ok (.aload_n 0, 1) := by decide +kernel
theorem dX10_renew_35 : decode cX10_renew 35 = .ok (.getfield 35, 3) := by decide +kernel
theorem dX10_renew_38 : decode cX10_renew 38 = .ok (.iconst 0, 1) := by decide +kernel
theorem dX10_renew_39 : decode cX10_renew 39 = .ok (.putfield 286, 3) := by decide +kernel
theorem dX10_renew_42 : decode cX10_renew 42 = .ok (.aload_n 0, 1) := by decide +kernel
theorem dX10_renew_43 : decode cX10_renew 43 = .ok (.getfield 42, 3) := by decide +kernel
theorem dX10_renew_46 : decode cX10_renew 46 = .ok (.invokevirtual 289, 3) := by decide +kernel
theorem dX10_renew_49 : decode cX10_renew 49 = .ok (.aload_n 0, 1) := by decide +kernel
theorem dX10_renew_50 : decode cX10_renew 50 = .ok (.getfield 49, 3) := by decide +kernel
theorem dX10_renew_53 : decode cX10_renew 53 = .ok (.iconst 0, 1) := by decide +kernel
theorem dX10_renew_54 : decode cX10_renew 54 = .ok (.putfield 292, 3) := by decide +kernel
theorem dX10_renew_57 : decode cX10_renew 57 = .ok (.return_, 1) := by decide +kernel
def mC_renew   (I : hI) (B : Bool × Bool) : Option (hI) :=
  (mRo_makeStates (h_pr B) I).bind fun q1 =>
  (mRo_makeChoices (h_pr B) (q1 0 13) (q1 0 14) q1).bind fun q2 =>
  h_let (h_u q2 13 1 (0 : Int32)) fun I3 =>
  (mHz_forget I3).bind fun q4 =>
  h_let (h_u q4 38 1 (0 : Int32)) fun I5 =>
  some I5
set_option maxHeartbeats 4000000 in
theorem sC_renew (d : Nat) (hd : 5 + 1 ≤ d)  (I : hI) (J : hJ) (B : Bool × Bool) (q : hI) (h : mC_renew I B = some q) : HMet hFT yX10_renew cX10_renew 1 none kdC d [.ref 0] (I, J, RM B) none (q, J, RM B) := by
  obtain ⟨d0, rfl, hd0⟩ := h_mono hd
  refine HMet.of (by decide) (Nat.le_of_ble_eq_true rfl) ?_
  show AW hFT cX10_renew 1 none RX10 kdC (d0 + 1) [(0, .ref 0)] 0 [] (I, J, RM B) none (q, J, RM B)
  unfold mC_renew at h
  refine a_aload_n dX10_renew_0 rfl rfl ?_
  refine b_getR hK_10 kc_0 (i := 2) rfl fl_10_26 rfl (rm_0_2 B) dX10_renew_1 ?_
  refine a_aload_n dX10_renew_4 rfl rfl ?_
  refine b_getR hK_10 kc_0 (i := 7) rfl fl_10_60 rfl (rm_0_7 B) dX10_renew_5 ?_
  obtain ⟨q1, cq1, h⟩ := h_bindS h
  refine a_callV0 [] yy_X7_makeStates ml_10_278 kc_7 rfl (sRo_makeStates _ (by omega) (h_pr B) (lt_pr B) I J B q1 cq1) rfl rfl (Nat.le_of_ble_eq_true rfl) dX10_renew_8 ?_
  refine a_aload_n dX10_renew_11 rfl rfl ?_
  refine b_getR hK_10 kc_0 (i := 2) rfl fl_10_26 rfl (rm_0_2 B) dX10_renew_12 ?_
  refine a_aload_n dX10_renew_15 rfl rfl ?_
  refine b_getR hK_10 kc_0 (i := 7) rfl fl_10_60 rfl (rm_0_7 B) dX10_renew_16 ?_
  refine a_aload_n dX10_renew_19 rfl rfl ?_
  refine b_getR hK_10 kc_0 (i := 1) rfl fl_10_19 rfl (rm_0_1 B) dX10_renew_20 ?_
  refine a_aload_n dX10_renew_23 rfl rfl ?_
  refine b_getI hK_10 kc_0 (i := 13) rfl fl_10_97 rfl dX10_renew_24 ?_
  refine a_aload_n dX10_renew_27 rfl rfl ?_
  refine b_getI hK_10 kc_0 (i := 14) rfl fl_10_100 rfl dX10_renew_28 ?_
  obtain ⟨q2, cq2, h⟩ := h_bindS h
  refine a_callV0 [] yy_X7_makeChoices ml_10_282 kc_7 rfl (sRo_makeChoices _ (by omega) (h_pr B) (lt_pr B) (q1 0 13) (q1 0 14) q1 J B q2 cq2) rfl rfl (Nat.le_of_ble_eq_true rfl) dX10_renew_31 ?_
  refine a_aload_n dX10_renew_34 rfl rfl ?_
  refine b_getR hK_10 kc_0 (i := 3) rfl fl_10_35 rfl (rm_0_3 B) dX10_renew_35 ?_
  refine a_iconst dX10_renew_38 ic_0 ?_
  refine b_putI hK_5 kc_13 (i := 1) rfl fl_10_286 rfl rfl h_Z0 dX10_renew_39 ?_
  obtain ⟨I3, eI3, h⟩ := h_letS h
  refine a_memI eI3 ?_
  refine a_aload_n dX10_renew_42 rfl rfl ?_
  refine b_getR hK_10 kc_0 (i := 4) rfl fl_10_42 rfl (rm_0_4 B) dX10_renew_43 ?_
  obtain ⟨q4, cq4, h⟩ := h_bindS h
  refine a_callV0 [] yy_X3_forget ml_10_289 kc_31 rfl (sHz_forget _ (by omega)  I3 J B q4 cq4) rfl rfl (Nat.le_of_ble_eq_true rfl) dX10_renew_46 ?_
  refine a_aload_n dX10_renew_49 rfl rfl ?_
  refine b_getR hK_10 kc_0 (i := 5) rfl fl_10_49 rfl (rm_0_5 B) dX10_renew_50 ?_
  refine a_iconst dX10_renew_53 ic_0 ?_
  refine b_putI hK_1 kc_38 (i := 1) rfl fl_10_292 rfl rfl h_Z0 dX10_renew_54 ?_
  obtain ⟨I5, eI5, h⟩ := h_letS h
  refine a_memI eI5 ?_
  cases h
  exact a_vret dX10_renew_57
