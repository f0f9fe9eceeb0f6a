/-! CoinLoops.loop()I -/
theorem dX10_loop_0 : decode cX10_loop 0 = .ok (.aload_n 0, 1) := by decide +kernel
theorem dX10_loop_1 : decode cX10_loop 1 = .ok (.getfield 64, 3) := by decide +kernel
theorem dX10_loop_4 : decode cX10_loop 4 = .ok (.aload_n 0, 1) := by decide +kernel
theorem dX10_loop_5 : decode cX10_loop 5 = .ok (.getfield 12, 3) := by decide +kernel
theorem dX10_loop_8 : decode cX10_loop 8 = .ok (.invokevirtual 85, 3) := by decide +kernel
theorem dX10_loop_11 : decode cX10_loop 11 = .ok (.iconst (-1), 1) := by decide +kernel
theorem dX10_loop_12 : decode cX10_loop 12 = .ok (.if_icmp .eq 5, 3) := by decide +kernel
theorem dX10_loop_15 : decode cX10_loop 15 = .ok (.iconst (-1), 1) := by decide +kernel
theorem dX10_loop_16 : decode cX10_loop 16 = .ok (.ireturn, 1) := by decide +kernel
theorem dX10_loop_17 : decode cX10_loop 17 = .ok (.aload_n 0, 1) := by decide +kernel
theorem dX10_loop_18 : decode cX10_loop 18 = .ok (.getfield 60, 3) := by decide +kernel
theorem dX10_loop_21 : decode cX10_loop 21 = .ok (.astore_n 1, 1) := by decide +kernel
theorem dX10_loop_22 : decode cX10_loop 22 = .ok (.aload_n 0, 1) := by decide +kernel
theorem dX10_loop_23 : decode cX10_loop 23 = .ok (.aload_n 0, 1) := by decide +kernel
theorem dX10_loop_24 : decode cX10_loop 24 = .ok (.getfield 64, 3) := by decide +kernel
theorem dX10_loop_27 : decode cX10_loop 27 = .ok (.putfield 60, 3) := by decide +kernel
theorem dX10_loop_30 : decode cX10_loop 30 = .ok (.aload_n 0, 1) := by decide +kernel
theorem dX10_loop_31 : decode cX10_loop 31 = .ok (.aload_n 1, 1) := by decide +kernel
theorem dX10_loop_32 : decode cX10_loop 32 = .ok (.putfield 64, 3) := by decide +kernel
theorem dX10_loop_35 : decode cX10_loop 35 = .ok (.aload_n 0, 1) := by decide +kernel
theorem dX10_loop_36 : decode cX10_loop 36 = .ok (.getfield 12, 3) := by decide +kernel
theorem dX10_loop_39 : decode cX10_loop 39 = .ok (.iconst 0, 1) := by decide +kernel
theorem dX10_loop_40 : decode cX10_loop 40 = .ok (.putfield 77, 3) := by decide +kernel
theorem dX10_loop_43 : decode cX10_loop 43 = .ok (.aload_n 0, 1) := by decide +kernel
theorem dX10_loop_44 : decode cX10_loop 44 = .ok (.iconst 1, 1) := by decide +kernel
theorem dX10_loop_45 : decode cX10_loop 45 = .ok (.putfield 90, 3) := by decide +kernel
theorem dX10_loop_48 : decode cX10_loop 48 = .ok (.aload_n 0, 1) := by decide +kernel
theorem dX10_loop_49 : decode cX10_loop 49 = .ok (.iconst 0, 1) := by decide +kernel
theorem dX10_loop_50 : decode cX10_loop 50 = .ok (.putfield 94, 3) := by decide +kernel
theorem dX10_loop_53 : decode cX10_loop 53 = .ok (.aload_n 0, 1) := by decide +kernel
theorem dX10_loop_54 : decode cX10_loop 54 = .ok (.iconst 0, 1) := by decide +kernel
theorem dX10_loop_55 : decode cX10_loop 55 = .ok (.putfield 97, 3) := by decide +kernel
theorem dX10_loop_58 : decode cX10_loop 58 = .ok (.aload_n 0, 1) := by decide +kernel
theorem dX10_loop_59 : decode cX10_loop 59 = .ok (.iconst 0, 1) := by decide +kernel
theorem dX10_loop_60 : decode cX10_loop 60 = .ok (.putfield 100, 3) := by decide +kernel
theorem dX10_loop_63 : decode cX10_loop 63 = .ok (.aload_n 0, 1) := by decide +kernel
theorem dX10_loop_64 : decode cX10_loop 64 = .ok (.invokevirtual 103, 3) := by decide +kernel
theorem dX10_loop_67 : decode cX10_loop 67 = .ok (.aload_n 0, 1) := by decide +kernel
theorem dX10_loop_68 : decode cX10_loop 68 = .ok (.getfield 26, 3) := by decide +kernel
theorem dX10_loop_71 : decode cX10_loop 71 = .ok (.getfield 106, 3) := by decide +kernel
theorem dX10_loop_74 : decode cX10_loop 74 = .ok (.ireturn, 1) := by decide +kernel
def mC_loop   (I : hI) (B : Bool × Bool) : Option (Int32 × hI × (Bool × Bool)) :=
  (mLt_readFrom (h_sp B) I).bind fun q1 =>
  if q1.1 = (-1 : Int32) then
    (h_let (h_u q1.2 1 1 (0 : Int32)) fun I2 =>
    h_let (h_u I2 0 11 (1 : Int32)) fun I3 =>
    h_let (h_u I3 0 12 (0 : Int32)) fun I4 =>
    h_let (h_u I4 0 13 (0 : Int32)) fun I5 =>
    h_let (h_u I5 0 14 (0 : Int32)) fun I6 =>
    (mC_renew I6 (!B.1, B.2)).bind fun q7 =>
    some ((q7 7 5), q7, (!B.1, B.2)))
  else
    some ((-1 : Int32), q1.2, B)
set_option maxHeartbeats 4000000 in
theorem sC_loop (d : Nat) (hd : 52 + 1 ≤ d)  (I : hI) (J : hJ) (B : Bool × Bool) (q : Int32 × hI × (Bool × Bool)) (h : mC_loop I B = some q) : HMet hFT yX10_loop cX10_loop 2 (some .int) kdC d [.ref 0] (I, J, RM B) (some (.int q.1)) (q.2.1, J, RM q.2.2) := by
  obtain ⟨d0, rfl, hd0⟩ := h_mono hd
  refine HMet.of (by decide) (Nat.le_of_ble_eq_true rfl) ?_
  show AW hFT cX10_loop 2 (some .int) RX10 kdC (d0 + 1) [(0, .ref 0)] 0 [] (I, J, RM B) (some (.int q.1)) (q.2.1, J, RM q.2.2)
  unfold mC_loop at h
  refine a_aload_n dX10_loop_0 rfl rfl ?_
  refine b_getR hK_10 kc_0 (i := 8) rfl fl_10_64 rfl (rm_0_8 B) dX10_loop_1 ?_
  refine a_aload_n dX10_loop_4 rfl rfl ?_
  refine b_getR hK_10 kc_0 (i := 0) rfl fl_10_12 rfl (rm_0_0 B) dX10_loop_5 ?_
  obtain ⟨q1, cq1, h⟩ := h_bindS h
  refine a_callV1 [] yy_X4_readFrom ml_10_85 (k_LT (lt_sp B)) rfl (sLt_readFrom _ (by omega) (h_sp B) (lt_sp B) I J B q1 cq1) rfl rfl (Nat.le_of_ble_eq_true rfl) dX10_loop_8 ?_
  refine a_iconst dX10_loop_11 ic_m1 ?_
  refine a_icmp_eq (tgt := 17) dX10_loop_12 (by decide) (fun c => ?_) (fun c => ?_)
  · replace h := h_iteT c h
    refine a_aload_n dX10_loop_17 rfl rfl ?_
    refine b_getR hK_10 kc_0 (i := 7) rfl fl_10_60 rfl (rm_0_7 B) dX10_loop_18 ?_
    refine a_astore_n (lv' := [(1, .ref (h_pr B)), (0, .ref 0)]) dX10_loop_21 rfl (by decide) rfl ?_
    refine a_aload_n dX10_loop_22 rfl rfl ?_
    refine a_aload_n dX10_loop_23 rfl rfl ?_
    refine b_getR hK_10 kc_0 (i := 8) rfl fl_10_64 rfl (rm_0_8 B) dX10_loop_24 ?_
    refine b_putR hK_10 kc_0 (i := 7) rfl fl_10_60 rfl rfl (fun _ => ⟨rfl, rfl⟩) dX10_loop_27 ?_
    refine a_aload_n dX10_loop_30 rfl rfl ?_
    refine a_aload_n dX10_loop_31 rfl rfl ?_
    refine b_putR hK_10 kc_0 (i := 8) rfl fl_10_64 rfl rfl (fun _ => ⟨rfl, rfl⟩) dX10_loop_32 ?_
    refine a_memR (h_sw1 B) ?_
    refine a_aload_n dX10_loop_35 rfl rfl ?_
    refine b_getR hK_10 kc_0 (i := 0) rfl fl_10_12 rfl (rm_0_0 (!B.1, B.2)) dX10_loop_36 ?_
    refine a_iconst dX10_loop_39 ic_0 ?_
    refine b_putI hK_6 kc_1 (i := 1) rfl fl_10_77 rfl rfl (h_NI _) dX10_loop_40 ?_
    obtain ⟨I2, eI2, h⟩ := h_letS h
    refine a_memI eI2 ?_
    refine a_aload_n dX10_loop_43 rfl rfl ?_
    refine a_iconst dX10_loop_44 ic_1 ?_
    refine b_putI hK_10 kc_0 (i := 11) rfl fl_10_90 rfl rfl h_Z1 dX10_loop_45 ?_
    obtain ⟨I3, eI3, h⟩ := h_letS h
    refine a_memI eI3 ?_
    refine a_aload_n dX10_loop_48 rfl rfl ?_
    refine a_iconst dX10_loop_49 ic_0 ?_
    refine b_putI hK_10 kc_0 (i := 12) rfl fl_10_94 rfl rfl h_Z0 dX10_loop_50 ?_
    obtain ⟨I4, eI4, h⟩ := h_letS h
    refine a_memI eI4 ?_
    refine a_aload_n dX10_loop_53 rfl rfl ?_
    refine a_iconst dX10_loop_54 ic_0 ?_
    refine b_putI hK_10 kc_0 (i := 13) rfl fl_10_97 rfl rfl (h_NI _) dX10_loop_55 ?_
    obtain ⟨I5, eI5, h⟩ := h_letS h
    refine a_memI eI5 ?_
    refine a_aload_n dX10_loop_58 rfl rfl ?_
    refine a_iconst dX10_loop_59 ic_0 ?_
    refine b_putI hK_10 kc_0 (i := 14) rfl fl_10_100 rfl rfl (h_NI _) dX10_loop_60 ?_
    obtain ⟨I6, eI6, h⟩ := h_letS h
    refine a_memI eI6 ?_
    refine a_aload_n dX10_loop_63 rfl rfl ?_
    obtain ⟨q7, cq7, h⟩ := h_bindS h
    refine a_callV0 [] yy_X10_renew ml_10_103 kc_0 rfl (sC_renew _ (by omega)  I6 J (!B.1, B.2) q7 cq7) rfl rfl (Nat.le_of_ble_eq_true rfl) dX10_loop_64 ?_
    refine a_aload_n dX10_loop_67 rfl rfl ?_
    refine b_getR hK_10 kc_0 (i := 2) rfl fl_10_26 rfl (rm_0_2 (!B.1, B.2)) dX10_loop_68 ?_
    refine b_getI hK_7 kc_7 (i := 5) rfl fl_10_106 rfl dX10_loop_71 ?_
    cases h
    exact a_iret dX10_loop_74
  · replace h := h_iteF c h
    refine a_iconst dX10_loop_15 ic_m1 ?_
    cases h
    exact a_iret dX10_loop_16
/-! CoinLoops.guess()I -/
theorem dX10_guess_0 : decode cX10_guess 0 = .ok (.aload_n 0, 1) := by decide +kernel
theorem dX10_guess_1 : decode cX10_guess 1 = .ok (.getfield 74, 3) := by decide +kernel
theorem dX10_guess_4 : decode cX10_guess 4 = .ok (.aload_n 0, 1) := by decide +kernel
theorem dX10_guess_5 : decode cX10_guess 5 = .ok (.getfield 12, 3) := by decide +kernel
theorem dX10_guess_8 : decode cX10_guess 8 = .ok (.invokevirtual 89, 3) := by decide +kernel
theorem dX10_guess_11 : decode cX10_guess 11 = .ok (.iconst (-1), 1) := by decide +kernel
theorem dX10_guess_12 : decode cX10_guess 12 = .ok (.if_icmp .eq 5, 3) := by decide +kernel
theorem dX10_guess_15 : decode cX10_guess 15 = .ok (.iconst (-1), 1) := by decide +kernel
theorem dX10_guess_16 : decode cX10_guess 16 = .ok (.ireturn, 1) := by decide +kernel
theorem dX10_guess_17 : decode cX10_guess 17 = .ok (.aload_n 0, 1) := by decide +kernel
theorem dX10_guess_18 : decode cX10_guess 18 = .ok (.getfield 70, 3) := by decide +kernel
theorem dX10_guess_21 : decode cX10_guess 21 = .ok (.astore_n 1, 1) := by decide +kernel
theorem dX10_guess_22 : decode cX10_guess 22 = .ok (.aload_n 0, 1) := by decide +kernel
theorem dX10_guess_23 : decode cX10_guess 23 = .ok (.aload_n 0, 1) := by decide +kernel
theorem dX10_guess_24 : decode cX10_guess 24 = .ok (.getfield 74, 3) := by decide +kernel
theorem dX10_guess_27 : decode cX10_guess 27 = .ok (.putfield 70, 3) := by decide +kernel
theorem dX10_guess_30 : decode cX10_guess 30 = .ok (.aload_n 0, 1) := by decide +kernel
theorem dX10_guess_31 : decode cX10_guess 31 = .ok (.aload_n 1, 1) := by decide +kernel
theorem dX10_guess_32 : decode cX10_guess 32 = .ok (.putfield 74, 3) := by decide +kernel
theorem dX10_guess_35 : decode cX10_guess 35 = .ok (.aload_n 0, 1) := by decide +kernel
theorem dX10_guess_36 : decode cX10_guess 36 = .ok (.getfield 12, 3) := by decide +kernel
theorem dX10_guess_39 : decode cX10_guess 39 = .ok (.iconst 0, 1) := by decide +kernel
theorem dX10_guess_40 : decode cX10_guess 40 = .ok (.putfield 77, 3) := by decide +kernel
theorem dX10_guess_43 : decode cX10_guess 43 = .ok (.aload_n 0, 1) := by decide +kernel
theorem dX10_guess_44 : decode cX10_guess 44 = .ok (.iconst 1, 1) := by decide +kernel
theorem dX10_guess_45 : decode cX10_guess 45 = .ok (.putfield 94, 3) := by decide +kernel
theorem dX10_guess_48 : decode cX10_guess 48 = .ok (.aload_n 0, 1) := by decide +kernel
theorem dX10_guess_49 : decode cX10_guess 49 = .ok (.getfield 70, 3) := by decide +kernel
theorem dX10_guess_52 : decode cX10_guess 52 = .ok (.getfield 109, 3) := by decide +kernel
theorem dX10_guess_55 : decode cX10_guess 55 = .ok (.ireturn, 1) := by decide +kernel
def mC_guess   (I : hI) (B : Bool × Bool) : Option (Int32 × hI × (Bool × Bool)) :=
  (mGt_readFrom (h_st B) I).bind fun q1 =>
  if q1.1 = (-1 : Int32) then
    (h_let (h_u q1.2 1 1 (0 : Int32)) fun I2 =>
    h_let (h_u I2 0 12 (1 : Int32)) fun I3 =>
    some ((I3 (h_td (B.1, !B.2)) 7), I3, (B.1, !B.2)))
  else
    some ((-1 : Int32), q1.2, B)
set_option maxHeartbeats 4000000 in
theorem sC_guess (d : Nat) (hd : 11 + 1 ≤ d)  (I : hI) (J : hJ) (B : Bool × Bool) (q : Int32 × hI × (Bool × Bool)) (h : mC_guess I B = some q) : HMet hFT yX10_guess cX10_guess 2 (some .int) kdC d [.ref 0] (I, J, RM B) (some (.int q.1)) (q.2.1, J, RM q.2.2) := by
  obtain ⟨d0, rfl, hd0⟩ := h_mono hd
  refine HMet.of (by decide) (Nat.le_of_ble_eq_true rfl) ?_
  show AW hFT cX10_guess 2 (some .int) RX10 kdC (d0 + 1) [(0, .ref 0)] 0 [] (I, J, RM B) (some (.int q.1)) (q.2.1, J, RM q.2.2)
  unfold mC_guess at h
  refine a_aload_n dX10_guess_0 rfl rfl ?_
  refine b_getR hK_10 kc_0 (i := 10) rfl fl_10_74 rfl (rm_0_10 B) dX10_guess_1 ?_
  refine a_aload_n dX10_guess_4 rfl rfl ?_
  refine b_getR hK_10 kc_0 (i := 0) rfl fl_10_12 rfl (rm_0_0 B) dX10_guess_5 ?_
  obtain ⟨q1, cq1, h⟩ := h_bindS h
  refine a_callV1 [] yy_X2_readFrom ml_10_89 (k_GT (gt_st B)) rfl (sGt_readFrom _ (by omega) (h_st B) (gt_st B) I J B q1 cq1) rfl rfl (Nat.le_of_ble_eq_true rfl) dX10_guess_8 ?_
  refine a_iconst dX10_guess_11 ic_m1 ?_
  refine a_icmp_eq (tgt := 17) dX10_guess_12 (by decide) (fun c => ?_) (fun c => ?_)
  · replace h := h_iteT c h
    refine a_aload_n dX10_guess_17 rfl rfl ?_
    refine b_getR hK_10 kc_0 (i := 9) rfl fl_10_70 rfl (rm_0_9 B) dX10_guess_18 ?_
    refine a_astore_n (lv' := [(1, .ref (h_td B)), (0, .ref 0)]) dX10_guess_21 rfl (by decide) rfl ?_
    refine a_aload_n dX10_guess_22 rfl rfl ?_
    refine a_aload_n dX10_guess_23 rfl rfl ?_
    refine b_getR hK_10 kc_0 (i := 10) rfl fl_10_74 rfl (rm_0_10 B) dX10_guess_24 ?_
    refine b_putR hK_10 kc_0 (i := 9) rfl fl_10_70 rfl rfl (fun _ => ⟨rfl, rfl⟩) dX10_guess_27 ?_
    refine a_aload_n dX10_guess_30 rfl rfl ?_
    refine a_aload_n dX10_guess_31 rfl rfl ?_
    refine b_putR hK_10 kc_0 (i := 10) rfl fl_10_74 rfl rfl (fun _ => ⟨rfl, rfl⟩) dX10_guess_32 ?_
    refine a_memR (h_sw2 B) ?_
    refine a_aload_n dX10_guess_35 rfl rfl ?_
    refine b_getR hK_10 kc_0 (i := 0) rfl fl_10_12 rfl (rm_0_0 (B.1, !B.2)) dX10_guess_36 ?_
    refine a_iconst dX10_guess_39 ic_0 ?_
    refine b_putI hK_6 kc_1 (i := 1) rfl fl_10_77 rfl rfl (h_NI _) dX10_guess_40 ?_
    obtain ⟨I2, eI2, h⟩ := h_letS h
    refine a_memI eI2 ?_
    refine a_aload_n dX10_guess_43 rfl rfl ?_
    refine a_iconst dX10_guess_44 ic_1 ?_
    refine b_putI hK_10 kc_0 (i := 12) rfl fl_10_94 rfl rfl h_Z1 dX10_guess_45 ?_
    obtain ⟨I3, eI3, h⟩ := h_letS h
    refine a_memI eI3 ?_
    refine a_aload_n dX10_guess_48 rfl rfl ?_
    refine b_getR hK_10 kc_0 (i := 9) rfl fl_10_70 rfl (rm_0_9 (B.1, !B.2)) dX10_guess_49 ?_
    refine b_getI hK_2 (k_GT (gt_td (B.1, !B.2))) (i := 7) rfl fl_10_109 rfl dX10_guess_52 ?_
    cases h
    exact a_iret dX10_guess_55
  · replace h := h_iteF c h
    refine a_iconst dX10_guess_15 ic_m1 ?_
    cases h
    exact a_iret dX10_guess_16
/-! CoinLoops.refuse(ZI)Z -/
theorem dX10_refuse_0 : decode cX10_refuse 0 = .ok (.iload_n 1, 1) := by decide +kernel
theorem dX10_refuse_1 : decode cX10_refuse 1 = .ok (.ifCond .eq 26, 3) := by decide +kernel
theorem dX10_refuse_4 : decode cX10_refuse 4 = .ok (.iload_n 2, 1) := by decide +kernel
theorem dX10_refuse_5 : decode cX10_refuse 5 = .ok (.ifCond .lt 22, 3) := by decide +kernel
theorem dX10_refuse_8 : decode cX10_refuse 8 = .ok (.iload_n 2, 1) := by decide +kernel
theorem dX10_refuse_9 : decode cX10_refuse 9 = .ok (.aload_n 0, 1) := by decide +kernel
theorem dX10_refuse_10 : decode cX10_refuse 10 = .ok (.getfield 53, 3) := by decide +kernel
theorem dX10_refuse_13 : decode cX10_refuse 13 = .ok (.arraylength, 1) := by decide +kernel
theorem dX10_refuse_14 : decode cX10_refuse 14 = .ok (.if_icmp .ge 13, 3) := by decide +kernel
theorem dX10_refuse_17 : decode cX10_refuse 17 = .ok (.aload_n 0, 1) := by decide +kernel
theorem dX10_refuse_18 : decode cX10_refuse 18 = .ok (.getfield 53, 3) := by decide +kernel
theorem dX10_refuse_21 : decode cX10_refuse 21 = .ok (.iload_n 2, 1) := by decide +kernel
theorem dX10_refuse_22 : decode cX10_refuse 22 = .ok (.dup2, 1) := by decide +kernel
theorem dX10_refuse_23 : decode cX10_refuse 23 = .ok (.iaload, 1) := by decide +kernel
theorem dX10_refuse_24 : decode cX10_refuse 24 = .ok (.iconst 1, 1) := by decide +kernel
theorem dX10_refuse_25 : decode cX10_refuse 25 = .ok (.iadd, 1) := by decide +kernel
theorem dX10_refuse_26 : decode cX10_refuse 26 = .ok (.iastore, 1) := by decide +kernel
theorem dX10_refuse_27 : decode cX10_refuse 27 = .ok (.iload_n 1, 1) := by decide +kernel
theorem dX10_refuse_28 : decode cX10_refuse 28 = .ok (.ireturn, 1) := by decide +kernel
def mC_refuse  (v1 : Int32) (v2 : Int32) (I : hI) : Option (Int32 × hI) :=
  if v1 = 0 then
    (h_g (h_isZ v1) <|
    some (v1, I))
  else
    (if v2 < 0 then
      (h_g (h_isZ v1) <|
      some (v1, I))
    else
      (if (3 : Int32) ≤ v2 then
        (h_g (h_isZ v1) <|
        some (v1, I))
      else
        (h_g (h_in v2 3) <|
        h_g (h_in v2 3) <|
        h_let (h_u I 60 v2.toNatClampNeg ((I 60 v2.toNatClampNeg) + (1 : Int32))) fun I3 =>
        h_g (h_isZ v1) <|
        some (v1, I3))))
set_option maxHeartbeats 4000000 in
theorem sC_refuse (d : Nat) (hd : 0 ≤ d) (v1 : Int32) (v2 : Int32) (I : hI) (J : hJ) (B : Bool × Bool) (q : Int32 × hI) (h : mC_refuse v1 v2 I = some q) : HMet hFT yX10_refuse cX10_refuse 3 (some .boolean) kdC d [.ref 0, .int v1, .int v2] (I, J, RM B) (some (.int q.1)) (q.2, J, RM B) := by
  refine HMet.of (by decide) (Nat.le_of_ble_eq_true rfl) ?_
  show AW hFT cX10_refuse 3 (some .boolean) RX10 kdC d [(0, .ref 0), (1, .int v1), (2, .int v2)] 0 [] (I, J, RM B) (some (.int q.1)) (q.2, J, RM B)
  unfold mC_refuse at h
  refine a_iload_n dX10_refuse_0 rfl rfl ?_
  refine a_if_eq (tgt := 27) dX10_refuse_1 (by decide) (fun c => ?_) (fun c => ?_)
  · replace h := h_iteT c h
    refine a_iload_n dX10_refuse_27 rfl rfl ?_
    obtain ⟨g1, h⟩ := h_gS h
    cases h
    exact a_zret ((h_isZV g1).1) dX10_refuse_28
  · replace h := h_iteF c h
    refine a_iload_n dX10_refuse_4 rfl rfl ?_
    refine a_if_lt (tgt := 27) dX10_refuse_5 (by decide) (fun c => ?_) (fun c => ?_)
    · replace h := h_iteT c h
      refine a_iload_n dX10_refuse_27 rfl rfl ?_
      obtain ⟨g1, h⟩ := h_gS h
      cases h
      exact a_zret ((h_isZV g1).1) dX10_refuse_28
    · replace h := h_iteF c h
      refine a_iload_n dX10_refuse_8 rfl rfl ?_
      refine a_aload_n dX10_refuse_9 rfl rfl ?_
      refine b_getR hK_10 kc_0 (i := 6) rfl fl_10_53 rfl (rm_0_6 B) dX10_refuse_10 ?_
      refine a_alen0 kc_60 (v := 3) (by decide) dX10_refuse_13 ?_
      refine a_icmp_ge (tgt := 27) dX10_refuse_14 (by decide) (fun c => ?_) (fun c => ?_)
      · replace h := h_iteT c h
        refine a_iload_n dX10_refuse_27 rfl rfl ?_
        obtain ⟨g1, h⟩ := h_gS h
        cases h
        exact a_zret ((h_isZV g1).1) dX10_refuse_28
      · replace h := h_iteF c h
        refine a_aload_n dX10_refuse_17 rfl rfl ?_
        refine b_getR hK_10 kc_0 (i := 6) rfl fl_10_53 rfl (rm_0_6 B) dX10_refuse_18 ?_
        refine a_iload_n dX10_refuse_21 rfl rfl ?_
        refine a_dup2_11 dX10_refuse_22 rfl rfl ?_
        obtain ⟨g1, h⟩ := h_gS h
        refine b_iaload kc_60 (h_inV g1) dX10_refuse_23 ?_
        refine a_iconst dX10_refuse_24 ic_1 ?_
        refine a_iadd dX10_refuse_25 ?_
        obtain ⟨g2, h⟩ := h_gS h
        refine b_iastore kc_60 (h_inV g2) dX10_refuse_26 ?_
        obtain ⟨I3, eI3, h⟩ := h_letS h
        refine a_memI eI3 ?_
        refine a_iload_n dX10_refuse_27 rfl rfl ?_
        obtain ⟨g4, h⟩ := h_gS h
        cases h
        exact a_zret ((h_isZV g4).1) dX10_refuse_28
/-! CoinLoops.rule(I)I -/
theorem dX10_rule_0 : decode cX10_rule 0 = .ok (.aload_n 0, 1) := by decide +kernel
theorem dX10_rule_1 : decode cX10_rule 1 = .ok (.aload_n 0, 1) := by decide +kernel
theorem dX10_rule_2 : decode cX10_rule 2 = .ok (.getfield 90, 3) := by decide +kernel
theorem dX10_rule_5 : decode cX10_rule 5 = .ok (.ifCond .ne 7, 3) := by decide +kernel
theorem dX10_rule_8 : decode cX10_rule 8 = .ok (.iconst 1, 1) := by decide +kernel
theorem dX10_rule_9 : decode cX10_rule 9 = .ok (.goto 4, 3) := by decide +kernel
theorem dX10_rule_12 : decode cX10_rule 12 = .ok (.iconst 0, 1) := by decide +kernel
theorem dX10_rule_13 : decode cX10_rule 13 = .ok (.iconst 0, 1) := by decide +kernel
theorem dX10_rule_14 : decode cX10_rule 14 = .ok (.invokevirtual 110, 3) := by decide +kernel
theorem dX10_rule_17 : decode cX10_rule 17 = .ok (.ifCond .ne 17, 3) := by decide +kernel
theorem dX10_rule_20 : decode cX10_rule 20 = .ok (.aload_n 0, 1) := by decide +kernel
theorem dX10_rule_21 : decode cX10_rule 21 = .ok (.iload_n 1, 1) := by decide +kernel
theorem dX10_rule_22 : decode cX10_rule 22 = .ok (.bipush 9, 2) := by decide +kernel
theorem dX10_rule_24 : decode cX10_rule 24 = .ok (.invokestatic 114, 3) := by decide +kernel
theorem dX10_rule_27 : decode cX10_rule 27 = .ok (.iconst 1, 1) := by decide +kernel
theorem dX10_rule_28 : decode cX10_rule 28 = .ok (.invokevirtual 110, 3) := by decide +kernel
theorem dX10_rule_31 : decode cX10_rule 31 = .ok (.ifCond .eq 6, 3) := by decide +kernel
theorem dX10_rule_34 : decode cX10_rule 34 = .ok (.bipush (-2), 2) := by decide +kernel
theorem dX10_rule_36 : decode cX10_rule 36 = .ok (.ireturn, 1) := by decide +kernel
theorem dX10_rule_37 : decode cX10_rule 37 = .ok (.iload_n 1, 1) := by decide +kernel
theorem dX10_rule_38 : decode cX10_rule 38 = .ok (.tableswitch 121 0 7 #[46, 54, 62, 70, 78, 86, 94, 102], 46) := by decide +kernel
theorem dX10_rule_84 : decode cX10_rule 84 = .ok (.aload_n 0, 1) := by decide +kernel
theorem dX10_rule_85 : decode cX10_rule 85 = .ok (.getfield 60, 3) := by decide +kernel
theorem dX10_rule_88 : decode cX10_rule 88 = .ok (.getfield 118, 3) := by decide +kernel
theorem dX10_rule_91 : decode cX10_rule 91 = .ok (.ireturn, 1) := by decide +kernel
theorem dX10_rule_92 : decode cX10_rule 92 = .ok (.aload_n 0, 1) := by decide +kernel
theorem dX10_rule_93 : decode cX10_rule 93 = .ok (.getfield 60, 3) := by decide +kernel
theorem dX10_rule_96 : decode cX10_rule 96 = .ok (.getfield 121, 3) := by decide +kernel
theorem dX10_rule_99 : decode cX10_rule 99 = .ok (.ireturn, 1) := by decide +kernel
theorem dX10_rule_100 : decode cX10_rule 100 = .ok (.aload_n 0, 1) := by decide +kernel
theorem dX10_rule_101 : decode cX10_rule 101 = .ok (.getfield 26, 3) := by decide +kernel
theorem dX10_rule_104 : decode cX10_rule 104 = .ok (.getfield 106, 3) := by decide +kernel
theorem dX10_rule_107 : decode cX10_rule 107 = .ok (.ireturn, 1) := by decide +kernel
theorem dX10_rule_108 : decode cX10_rule 108 = .ok (.aload_n 0, 1) := by decide +kernel
theorem dX10_rule_109 : decode cX10_rule 109 = .ok (.getfield 26, 3) := by decide +kernel
theorem dX10_rule_112 : decode cX10_rule 112 = .ok (.getfield 124, 3) := by decide +kernel
theorem dX10_rule_115 : decode cX10_rule 115 = .ok (.ireturn, 1) := by decide +kernel
theorem dX10_rule_116 : decode cX10_rule 116 = .ok (.aload_n 0, 1) := by decide +kernel
theorem dX10_rule_117 : decode cX10_rule 117 = .ok (.getfield 60, 3) := by decide +kernel
theorem dX10_rule_120 : decode cX10_rule 120 = .ok (.getfield 127, 3) := by decide +kernel
theorem dX10_rule_123 : decode cX10_rule 123 = .ok (.ireturn, 1) := by decide +kernel
theorem dX10_rule_124 : decode cX10_rule 124 = .ok (.aload_n 0, 1) := by decide +kernel
theorem dX10_rule_125 : decode cX10_rule 125 = .ok (.getfield 60, 3) := by decide +kernel
theorem dX10_rule_128 : decode cX10_rule 128 = .ok (.getfield 130, 3) := by decide +kernel
theorem dX10_rule_131 : decode cX10_rule 131 = .ok (.ireturn, 1) := by decide +kernel
theorem dX10_rule_132 : decode cX10_rule 132 = .ok (.aload_n 0, 1) := by decide +kernel
theorem dX10_rule_133 : decode cX10_rule 133 = .ok (.getfield 26, 3) := by decide +kernel
theorem dX10_rule_136 : decode cX10_rule 136 = .ok (.getfield 133, 3) := by decide +kernel
theorem dX10_rule_139 : decode cX10_rule 139 = .ok (.ireturn, 1) := by decide +kernel
theorem dX10_rule_140 : decode cX10_rule 140 = .ok (.aload_n 0, 1) := by decide +kernel
theorem dX10_rule_141 : decode cX10_rule 141 = .ok (.getfield 94, 3) := by decide +kernel
theorem dX10_rule_144 : decode cX10_rule 144 = .ok (.ifCond .eq 13, 3) := by decide +kernel
theorem dX10_rule_147 : decode cX10_rule 147 = .ok (.aload_n 0, 1) := by decide +kernel
theorem dX10_rule_148 : decode cX10_rule 148 = .ok (.getfield 70, 3) := by decide +kernel
theorem dX10_rule_151 : decode cX10_rule 151 = .ok (.getfield 109, 3) := by decide +kernel
theorem dX10_rule_154 : decode cX10_rule 154 = .ok (.goto 4, 3) := by decide +kernel
theorem dX10_rule_157 : decode cX10_rule 157 = .ok (.iconst 0, 1) := by decide +kernel
theorem dX10_rule_158 : decode cX10_rule 158 = .ok (.ireturn, 1) := by decide +kernel
theorem dX10_rule_159 : decode cX10_rule 159 = .ok (.aload_n 0, 1) := by decide +kernel
theorem dX10_rule_160 : decode cX10_rule 160 = .ok (.getfield 97, 3) := by decide +kernel
theorem dX10_rule_163 : decode cX10_rule 163 = .ok (.ireturn, 1) := by decide +kernel
def mC_rule_13  (v1 : Int32) (vs1 : Int32) (I : hI) (B : Bool × Bool) : Option (Int32 × hI) :=
  (mC_refuse vs1 (0 : Int32) I).bind fun q1 =>
  if q1.1 = 0 then
    ((mC_refuse (mC_isOutside v1 (9 : Int32)) (1 : Int32) q1.2).bind fun q2 =>
    if q2.1 = 0 then
      (if v1 = 0 then
        some ((q2.2 (h_pr B) 4), q2.2)
      else
        (if v1 = 1 then
          some ((q2.2 (h_pr B) 5), q2.2)
        else
          (if v1 = 2 then
            some ((q2.2 7 5), q2.2)
          else
            (if v1 = 3 then
              some ((q2.2 7 6), q2.2)
            else
              (if v1 = 4 then
                some ((q2.2 (h_pr B) 7), q2.2)
              else
                (if v1 = 5 then
                  some ((q2.2 (h_pr B) 8), q2.2)
                else
                  (if v1 = 6 then
                    some ((q2.2 7 9), q2.2)
                  else
                    (if v1 = 7 then
                      (if (q2.2 0 12) = 0 then
                        some ((0 : Int32), q2.2)
                      else
                        some ((q2.2 (h_td B) 7), q2.2))
                    else
                      some ((q2.2 0 13), q2.2)))))))))
    else
      some ((-2 : Int32), q2.2))
  else
    some ((-2 : Int32), q1.2)
set_option maxHeartbeats 4000000 in
theorem sC_rule_13 (d : Nat) (hd : 0 + 1 ≤ d) (v1 : Int32) (vs1 : Int32) (I : hI) (J : hJ) (B : Bool × Bool) (q : Int32 × hI) (h : mC_rule_13 v1 vs1 I B = some q) : AW hFT cX10_rule 2 (some .int) RX10 kdC d [(0, .ref 0), (1, .int v1)] 13 [.int vs1, .ref 0] (I, J, RM B) (some (.int q.1)) (q.2, J, RM B) := by
  obtain ⟨d0, rfl, hd0⟩ := h_mono hd
  unfold mC_rule_13 at h
  refine a_iconst dX10_rule_13 ic_0 ?_
  obtain ⟨q1, cq1, h⟩ := h_bindS h
  refine a_callV1 [] yy_X10_refuse ml_10_110 kc_0 rfl (sC_refuse _ (by omega) vs1 (0 : Int32) I J B q1 cq1) rfl rfl (Nat.le_of_ble_eq_true rfl) dX10_rule_14 ?_
  refine a_if_ne (tgt := 34) dX10_rule_17 (by decide) (fun c => ?_) (fun c => ?_)
  · replace h := h_iteF c h
    refine a_bipush dX10_rule_34 bp_m2 ?_
    cases h
    exact a_iret dX10_rule_36
  · replace h := h_iteT c h
    refine a_aload_n dX10_rule_20 rfl rfl ?_
    refine a_iload_n dX10_rule_21 rfl rfl ?_
    refine a_bipush dX10_rule_22 bp_9 ?_
    refine a_callS1 [.ref 0] yy_X10_isOutside ml_10_114 (sC_isOutside _ (by omega) v1 (9 : Int32) q1.2 J B _ rfl) rfl rfl (Nat.le_of_ble_eq_true rfl) dX10_rule_24 ?_
    refine a_iconst dX10_rule_27 ic_1 ?_
    obtain ⟨q2, cq2, h⟩ := h_bindS h
    refine a_callV1 [] yy_X10_refuse ml_10_110 kc_0 rfl (sC_refuse _ (by omega) (mC_isOutside v1 (9 : Int32)) (1 : Int32) q1.2 J B q2 cq2) rfl rfl (Nat.le_of_ble_eq_true rfl) dX10_rule_28 ?_
    refine a_if_eq (tgt := 37) dX10_rule_31 (by decide) (fun c => ?_) (fun c => ?_)
    · replace h := h_iteT c h
      refine a_iload_n dX10_rule_37 rfl rfl ?_
      by_cases n0 : v1 = 0
      · replace h := h_iteT n0 h
        refine a_topI n0 ?_
        refine a_tableIn (tgt := 84) (off := 46) dX10_rule_38 (by decide) (by decide) (by decide) (by decide) ?_
        refine a_aload_n dX10_rule_84 rfl rfl ?_
        refine b_getR hK_10 kc_0 (i := 7) rfl fl_10_60 rfl (rm_0_7 B) dX10_rule_85 ?_
        refine b_getI hK_4 (k_LT (lt_pr B)) (i := 4) rfl fl_10_118 rfl dX10_rule_88 ?_
        cases h
        exact a_iret dX10_rule_91
      · replace h := h_iteF n0 h
        by_cases n1 : v1 = 1
        · replace h := h_iteT n1 h
          refine a_topI n1 ?_
          refine a_tableIn (tgt := 92) (off := 54) dX10_rule_38 (by decide) (by decide) (by decide) (by decide) ?_
          refine a_aload_n dX10_rule_92 rfl rfl ?_
          refine b_getR hK_10 kc_0 (i := 7) rfl fl_10_60 rfl (rm_0_7 B) dX10_rule_93 ?_
          refine b_getI hK_4 (k_LT (lt_pr B)) (i := 5) rfl fl_10_121 rfl dX10_rule_96 ?_
          cases h
          exact a_iret dX10_rule_99
        · replace h := h_iteF n1 h
          by_cases n2 : v1 = 2
          · replace h := h_iteT n2 h
            refine a_topI n2 ?_
            refine a_tableIn (tgt := 100) (off := 62) dX10_rule_38 (by decide) (by decide) (by decide) (by decide) ?_
            refine a_aload_n dX10_rule_100 rfl rfl ?_
            refine b_getR hK_10 kc_0 (i := 2) rfl fl_10_26 rfl (rm_0_2 B) dX10_rule_101 ?_
            refine b_getI hK_7 kc_7 (i := 5) rfl fl_10_106 rfl dX10_rule_104 ?_
            cases h
            exact a_iret dX10_rule_107
          · replace h := h_iteF n2 h
            by_cases n3 : v1 = 3
            · replace h := h_iteT n3 h
              refine a_topI n3 ?_
              refine a_tableIn (tgt := 108) (off := 70) dX10_rule_38 (by decide) (by decide) (by decide) (by decide) ?_
              refine a_aload_n dX10_rule_108 rfl rfl ?_
              refine b_getR hK_10 kc_0 (i := 2) rfl fl_10_26 rfl (rm_0_2 B) dX10_rule_109 ?_
              refine b_getI hK_7 kc_7 (i := 6) rfl fl_10_124 rfl dX10_rule_112 ?_
              cases h
              exact a_iret dX10_rule_115
            · replace h := h_iteF n3 h
              by_cases n4 : v1 = 4
              · replace h := h_iteT n4 h
                refine a_topI n4 ?_
                refine a_tableIn (tgt := 116) (off := 78) dX10_rule_38 (by decide) (by decide) (by decide) (by decide) ?_
                refine a_aload_n dX10_rule_116 rfl rfl ?_
                refine b_getR hK_10 kc_0 (i := 7) rfl fl_10_60 rfl (rm_0_7 B) dX10_rule_117 ?_
                refine b_getI hK_4 (k_LT (lt_pr B)) (i := 7) rfl fl_10_127 rfl dX10_rule_120 ?_
                cases h
                exact a_iret dX10_rule_123
              · replace h := h_iteF n4 h
                by_cases n5 : v1 = 5
                · replace h := h_iteT n5 h
                  refine a_topI n5 ?_
                  refine a_tableIn (tgt := 124) (off := 86) dX10_rule_38 (by decide) (by decide) (by decide) (by decide) ?_
                  refine a_aload_n dX10_rule_124 rfl rfl ?_
                  refine b_getR hK_10 kc_0 (i := 7) rfl fl_10_60 rfl (rm_0_7 B) dX10_rule_125 ?_
                  refine b_getI hK_4 (k_LT (lt_pr B)) (i := 8) rfl fl_10_130 rfl dX10_rule_128 ?_
                  cases h
                  exact a_iret dX10_rule_131
                · replace h := h_iteF n5 h
                  by_cases n6 : v1 = 6
                  · replace h := h_iteT n6 h
                    refine a_topI n6 ?_
                    refine a_tableIn (tgt := 132) (off := 94) dX10_rule_38 (by decide) (by decide) (by decide) (by decide) ?_
                    refine a_aload_n dX10_rule_132 rfl rfl ?_
                    refine b_getR hK_10 kc_0 (i := 2) rfl fl_10_26 rfl (rm_0_2 B) dX10_rule_133 ?_
                    refine b_getI hK_7 kc_7 (i := 9) rfl fl_10_133 rfl dX10_rule_136 ?_
                    cases h
                    exact a_iret dX10_rule_139
                  · replace h := h_iteF n6 h
                    by_cases n7 : v1 = 7
                    · replace h := h_iteT n7 h
                      refine a_topI n7 ?_
                      refine a_tableIn (tgt := 140) (off := 102) dX10_rule_38 (by decide) (by decide) (by decide) (by decide) ?_
                      refine a_aload_n dX10_rule_140 rfl rfl ?_
                      refine b_getI hK_10 kc_0 (i := 12) rfl fl_10_94 rfl dX10_rule_141 ?_
                      refine a_if_eq (tgt := 157) dX10_rule_144 (by decide) (fun c => ?_) (fun c => ?_)
                      · replace h := h_iteT c h
                        refine a_iconst dX10_rule_157 ic_0 ?_
                        cases h
                        exact a_iret dX10_rule_158
                      · replace h := h_iteF c h
                        refine a_aload_n dX10_rule_147 rfl rfl ?_
                        refine b_getR hK_10 kc_0 (i := 9) rfl fl_10_70 rfl (rm_0_9 B) dX10_rule_148 ?_
                        refine b_getI hK_2 (k_GT (gt_td B)) (i := 7) rfl fl_10_109 rfl dX10_rule_151 ?_
                        refine a_goto (tgt := 158) dX10_rule_154 (by decide) ?_
                        cases h
                        exact a_iret dX10_rule_158
                    · replace h := h_iteF n7 h
                      refine a_tableOut (tgt := 159) dX10_rule_38 (h_tb8 n0 n1 n2 n3 n4 n5 n6 n7) (by decide) ?_
                      refine a_aload_n dX10_rule_159 rfl rfl ?_
                      refine b_getI hK_10 kc_0 (i := 13) rfl fl_10_97 rfl dX10_rule_160 ?_
                      cases h
                      exact a_iret dX10_rule_163
    · replace h := h_iteF c h
      refine a_bipush dX10_rule_34 bp_m2 ?_
      cases h
      exact a_iret dX10_rule_36
def mC_rule  (v1 : Int32) (I : hI) (B : Bool × Bool) : Option (Int32 × hI) :=
  if (I 0 11) = 0 then
    mC_rule_13 v1 (1 : Int32) I B
  else
    mC_rule_13 v1 (0 : Int32) I B
set_option maxHeartbeats 4000000 in
theorem sC_rule (d : Nat) (hd : 0 + 1 ≤ d) (v1 : Int32) (I : hI) (J : hJ) (B : Bool × Bool) (q : Int32 × hI) (h : mC_rule v1 I B = some q) : HMet hFT yX10_rule cX10_rule 2 (some .int) kdC d [.ref 0, .int v1] (I, J, RM B) (some (.int q.1)) (q.2, J, RM B) := by
  obtain ⟨d0, rfl, hd0⟩ := h_mono hd
  refine HMet.of (by decide) (Nat.le_of_ble_eq_true rfl) ?_
  show AW hFT cX10_rule 2 (some .int) RX10 kdC (d0 + 1) [(0, .ref 0), (1, .int v1)] 0 [] (I, J, RM B) (some (.int q.1)) (q.2, J, RM B)
  unfold mC_rule at h
  refine a_aload_n dX10_rule_0 rfl rfl ?_
  refine a_aload_n dX10_rule_1 rfl rfl ?_
  refine b_getI hK_10 kc_0 (i := 11) rfl fl_10_90 rfl dX10_rule_2 ?_
  refine a_if_ne (tgt := 12) dX10_rule_5 (by decide) (fun c => ?_) (fun c => ?_)
  · replace h := h_iteF c h
    refine a_iconst dX10_rule_12 ic_0 ?_
    exact sC_rule_13 (d0 + 1) (by omega) v1 (0 : Int32) I J B _ h
  · replace h := h_iteT c h
    refine a_iconst dX10_rule_8 ic_1 ?_
    refine a_goto (tgt := 13) dX10_rule_9 (by decide) ?_
    exact sC_rule_13 (d0 + 1) (by omega) v1 (1 : Int32) I J B _ h
/-! CoinLoops.choices(I)I -/
theorem dX10_choices_0 : decode cX10_choices 0 = .ok (.aload_n 0, 1) := by decide +kernel
theorem dX10_choices_1 : decode cX10_choices 1 = .ok (.aload_n 0, 1) := by decide +kernel
theorem dX10_choices_2 : decode cX10_choices 2 = .ok (.getfield 90, 3) := by decide +kernel
theorem dX10_choices_5 : decode cX10_choices 5 = .ok (.ifCond .ne 7, 3) := by decide +kernel
theorem dX10_choices_8 : decode cX10_choices 8 = .ok (.iconst 1, 1) := by decide +kernel
theorem dX10_choices_9 : decode cX10_choices 9 = .ok (.goto 4, 3) := by decide +kernel
theorem dX10_choices_12 : decode cX10_choices 12 = .ok (.iconst 0, 1) := by decide +kernel
theorem dX10_choices_13 : decode cX10_choices 13 = .ok (.iconst 0, 1) := by decide +kernel
theorem dX10_choices_14 : decode cX10_choices 14 = .ok (.invokevirtual 110, 3) := by decide +kernel
theorem dX10_choices_17 : decode cX10_choices 17 = .ok (.ifCond .ne 22, 3) := by decide +kernel
theorem dX10_choices_20 : decode cX10_choices 20 = .ok (.aload_n 0, 1) := by decide +kernel
theorem dX10_choices_21 : decode cX10_choices 21 = .ok (.iload_n 1, 1) := by decide +kernel
theorem dX10_choices_22 : decode cX10_choices 22 = .ok (.aload_n 0, 1) := by decide +kernel
theorem dX10_choices_23 : decode cX10_choices 23 = .ok (.getfield 26, 3) := by decide +kernel
theorem dX10_choices_26 : decode cX10_choices 26 = .ok (.getfield 106, 3) := by decide +kernel
theorem dX10_choices_29 : decode cX10_choices 29 = .ok (.invokestatic 114, 3) := by decide +kernel
theorem dX10_choices_32 : decode cX10_choices 32 = .ok (.iconst 1, 1) := by decide +kernel
theorem dX10_choices_33 : decode cX10_choices 33 = .ok (.invokevirtual 110, 3) := by decide +kernel
theorem dX10_choices_36 : decode cX10_choices 36 = .ok (.ifCond .eq 5, 3) := by decide +kernel
theorem dX10_choices_39 : decode cX10_choices 39 = .ok (.iconst (-1), 1) := by decide +kernel
theorem dX10_choices_40 : decode cX10_choices 40 = .ok (.ireturn, 1) := by decide +kernel
theorem dX10_choices_41 : decode cX10_choices 41 = .ok (.aload_n 0, 1) := by decide +kernel
theorem dX10_choices_42 : decode cX10_choices 42 = .ok (.getfield 26, 3) := by decide +kernel
theorem dX10_choices_45 : decode cX10_choices 45 = .ok (.getfield 135, 3) := by decide +kernel
theorem dX10_choices_48 : decode cX10_choices 48 = .ok (.iload_n 1, 1) := by decide +kernel
theorem dX10_choices_49 : decode cX10_choices 49 = .ok (.iaload, 1) := by decide +kernel
theorem dX10_choices_50 : decode cX10_choices 50 = .ok (.ireturn, 1) := by decide +kernel
def mC_choices_13  (v1 : Int32) (vs1 : Int32) (I : hI) : Option (Int32 × hI) :=
  (mC_refuse vs1 (0 : Int32) I).bind fun q1 =>
  if q1.1 = 0 then
    ((mC_refuse (mC_isOutside v1 (q1.2 7 5)) (1 : Int32) q1.2).bind fun q2 =>
    if q2.1 = 0 then
      (h_g (h_in v1 10) <|
      some ((q2.2 8 v1.toNatClampNeg), q2.2))
    else
      some ((-1 : Int32), q2.2))
  else
    some ((-1 : Int32), q1.2)
set_option maxHeartbeats 4000000 in
theorem sC_choices_13 (d : Nat) (hd : 0 + 1 ≤ d) (v1 : Int32) (vs1 : Int32) (I : hI) (J : hJ) (B : Bool × Bool) (q : Int32 × hI) (h : mC_choices_13 v1 vs1 I = some q) : AW hFT cX10_choices 2 (some .int) RX10 kdC d [(0, .ref 0), (1, .int v1)] 13 [.int vs1, .ref 0] (I, J, RM B) (some (.int q.1)) (q.2, J, RM B) := by
  obtain ⟨d0, rfl, hd0⟩ := h_mono hd
  unfold mC_choices_13 at h
  refine a_iconst dX10_choices_13 ic_0 ?_
  obtain ⟨q1, cq1, h⟩ := h_bindS h
  refine a_callV1 [] yy_X10_refuse ml_10_110 kc_0 rfl (sC_refuse _ (by omega) vs1 (0 : Int32) I J B q1 cq1) rfl rfl (Nat.le_of_ble_eq_true rfl) dX10_choices_14 ?_
  refine a_if_ne (tgt := 39) dX10_choices_17 (by decide) (fun c => ?_) (fun c => ?_)
  · replace h := h_iteF c h
    refine a_iconst dX10_choices_39 ic_m1 ?_
    cases h
    exact a_iret dX10_choices_40
  · replace h := h_iteT c h
    refine a_aload_n dX10_choices_20 rfl rfl ?_
    refine a_iload_n dX10_choices_21 rfl rfl ?_
    refine a_aload_n dX10_choices_22 rfl rfl ?_
    refine b_getR hK_10 kc_0 (i := 2) rfl fl_10_26 rfl (rm_0_2 B) dX10_choices_23 ?_
    refine b_getI hK_7 kc_7 (i := 5) rfl fl_10_106 rfl dX10_choices_26 ?_
    refine a_callS1 [.ref 0] yy_X10_isOutside ml_10_114 (sC_isOutside _ (by omega) v1 (q1.2 7 5) q1.2 J B _ rfl) rfl rfl (Nat.le_of_ble_eq_true rfl) dX10_choices_29 ?_
    refine a_iconst dX10_choices_32 ic_1 ?_
    obtain ⟨q2, cq2, h⟩ := h_bindS h
    refine a_callV1 [] yy_X10_refuse ml_10_110 kc_0 rfl (sC_refuse _ (by omega) (mC_isOutside v1 (q1.2 7 5)) (1 : Int32) q1.2 J B q2 cq2) rfl rfl (Nat.le_of_ble_eq_true rfl) dX10_choices_33 ?_
    refine a_if_eq (tgt := 41) dX10_choices_36 (by decide) (fun c => ?_) (fun c => ?_)
    · replace h := h_iteT c h
      refine a_aload_n dX10_choices_41 rfl rfl ?_
      refine b_getR hK_10 kc_0 (i := 2) rfl fl_10_26 rfl (rm_0_2 B) dX10_choices_42 ?_
      refine b_getR hK_7 kc_7 (i := 0) rfl fl_10_135 rfl (rm_7_0 B) dX10_choices_45 ?_
      refine a_iload_n dX10_choices_48 rfl rfl ?_
      obtain ⟨g3, h⟩ := h_gS h
      refine b_iaload kc_8 (h_inV g3) dX10_choices_49 ?_
      cases h
      exact a_iret dX10_choices_50
    · replace h := h_iteF c h
      refine a_iconst dX10_choices_39 ic_m1 ?_
      cases h
      exact a_iret dX10_choices_40
def mC_choices  (v1 : Int32) (I : hI) : Option (Int32 × hI) :=
  if (I 0 11) = 0 then
    mC_choices_13 v1 (1 : Int32) I
  else
    mC_choices_13 v1 (0 : Int32) I
set_option maxHeartbeats 4000000 in
theorem sC_choices (d : Nat) (hd : 0 + 1 ≤ d) (v1 : Int32) (I : hI) (J : hJ) (B : Bool × Bool) (q : Int32 × hI) (h : mC_choices v1 I = some q) : HMet hFT yX10_choices cX10_choices 2 (some .int) kdC d [.ref 0, .int v1] (I, J, RM B) (some (.int q.1)) (q.2, J, RM B) := by
  obtain ⟨d0, rfl, hd0⟩ := h_mono hd
  refine HMet.of (by decide) (Nat.le_of_ble_eq_true rfl) ?_
  show AW hFT cX10_choices 2 (some .int) RX10 kdC (d0 + 1) [(0, .ref 0), (1, .int v1)] 0 [] (I, J, RM B) (some (.int q.1)) (q.2, J, RM B)
  unfold mC_choices at h
  refine a_aload_n dX10_choices_0 rfl rfl ?_
  refine a_aload_n dX10_choices_1 rfl rfl ?_
  refine b_getI hK_10 kc_0 (i := 11) rfl fl_10_90 rfl dX10_choices_2 ?_
  refine a_if_ne (tgt := 12) dX10_choices_5 (by decide) (fun c => ?_) (fun c => ?_)
  · replace h := h_iteF c h
    refine a_iconst dX10_choices_12 ic_0 ?_
    exact sC_choices_13 (d0 + 1) (by omega) v1 (0 : Int32) I J B _ h
  · replace h := h_iteT c h
    refine a_iconst dX10_choices_8 ic_1 ?_
    refine a_goto (tgt := 13) dX10_choices_9 (by decide) ?_
    exact sC_choices_13 (d0 + 1) (by omega) v1 (1 : Int32) I J B _ h
/-! CoinLoops.leads(III)I -/
theorem dX10_leads_0 : decode cX10_leads 0 = .ok (.aload_n 0, 1) := by decide +kernel
theorem dX10_leads_1 : decode cX10_leads 1 = .ok (.aload_n 0, 1) := by decide +kernel
theorem dX10_leads_2 : decode cX10_leads 2 = .ok (.getfield 90, 3) := by decide +kernel
theorem dX10_leads_5 : decode cX10_leads 5 = .ok (.ifCond .ne 7, 3) := by decide +kernel
theorem dX10_leads_8 : decode cX10_leads 8 = .ok (.iconst 1, 1) := by decide +kernel
theorem dX10_leads_9 : decode cX10_leads 9 = .ok (.goto 4, 3) := by decide +kernel
theorem dX10_leads_12 : decode cX10_leads 12 = .ok (.iconst 0, 1) := by decide +kernel
theorem dX10_leads_13 : decode cX10_leads 13 = .ok (.iconst 0, 1) := by decide +kernel
theorem dX10_leads_14 : decode cX10_leads 14 = .ok (.invokevirtual 110, 3) := by decide +kernel
theorem dX10_leads_17 : decode cX10_leads 17 = .ok (.ifCond .ne 42, 3) := by decide +kernel
theorem dX10_leads_20 : decode cX10_leads 20 = .ok (.aload_n 0, 1) := by decide +kernel
theorem dX10_leads_21 : decode cX10_leads 21 = .ok (.aload_n 0, 1) := by decide +kernel
theorem dX10_leads_22 : decode cX10_leads 22 = .ok (.getfield 26, 3) := by decide +kernel
theorem dX10_leads_25 : decode cX10_leads 25 = .ok (.iload_n 1, 1) := by decide +kernel
theorem dX10_leads_26 : decode cX10_leads 26 = .ok (.iload_n 2, 1) := by decide +kernel
theorem dX10_leads_27 : decode cX10_leads 27 = .ok (.invokevirtual 138, 3) := by decide +kernel
theorem dX10_leads_30 : decode cX10_leads 30 = .ok (.ifCond .eq 17, 3) := by decide +kernel
theorem dX10_leads_33 : decode cX10_leads 33 = .ok (.iload_n 3, 1) := by decide +kernel
theorem dX10_leads_34 : decode cX10_leads 34 = .ok (.aload_n 0, 1) := by decide +kernel
theorem dX10_leads_35 : decode cX10_leads 35 = .ok (.getfield 26, 3) := by decide +kernel
theorem dX10_leads_38 : decode cX10_leads 38 = .ok (.getfield 106, 3) := by decide +kernel
theorem dX10_leads_41 : decode cX10_leads 41 = .ok (.invokestatic 114, 3) := by decide +kernel
theorem dX10_leads_44 : decode cX10_leads 44 = .ok (.ifCond .eq 7, 3) := by decide +kernel
theorem dX10_leads_47 : decode cX10_leads 47 = .ok (.iconst 1, 1) := by decide +kernel
theorem dX10_leads_48 : decode cX10_leads 48 = .ok (.goto 4, 3) := by decide +kernel
theorem dX10_leads_51 : decode cX10_leads 51 = .ok (.iconst 0, 1) := by decide +kernel
theorem dX10_leads_52 : decode cX10_leads 52 = .ok (.iconst 1, 1) := by decide +kernel
theorem dX10_leads_53 : decode cX10_leads 53 = .ok (.invokevirtual 110, 3) := by decide +kernel
theorem dX10_leads_56 : decode cX10_leads 56 = .ok (.ifCond .eq 5, 3) := by decide +kernel
theorem dX10_leads_59 : decode cX10_leads 59 = .ok (.iconst (-1), 1) := by decide +kernel
theorem dX10_leads_60 : decode cX10_leads 60 = .ok (.ireturn, 1) := by decide +kernel
theorem dX10_leads_61 : decode cX10_leads 61 = .ok (.aload_n 0, 1) := by decide +kernel
theorem dX10_leads_62 : decode cX10_leads 62 = .ok (.getfield 26, 3) := by decide +kernel
theorem dX10_leads_65 : decode cX10_leads 65 = .ok (.iload_n 1, 1) := by decide +kernel
theorem dX10_leads_66 : decode cX10_leads 66 = .ok (.bipush 8, 2) := by decide +kernel
theorem dX10_leads_68 : decode cX10_leads 68 = .ok (.imul, 1) := by decide +kernel
theorem dX10_leads_69 : decode cX10_leads 69 = .ok (.iload_n 2, 1) := by decide +kernel
theorem dX10_leads_70 : decode cX10_leads 70 = .ok (.iadd, 1) := by decide +kernel
theorem dX10_leads_71 : decode cX10_leads 71 = .ok (.iload_n 3, 1) := by decide +kernel
theorem dX10_leads_72 : decode cX10_leads 72 = .ok (.invokevirtual 152, 3) := by decide +kernel
theorem dX10_leads_75 : decode cX10_leads 75 = .ok (.ireturn, 1) := by decide +kernel
def mC_leads_52  (v1 : Int32) (v2 : Int32) (v3 : Int32) (vs1 : Int32) (I : hI) : Option (Int32 × hI) :=
  (mC_refuse vs1 (1 : Int32) I).bind fun q1 =>
  if q1.1 = 0 then
    ((mRo_quarters ((v1 * (8 : Int32)) + v2) v3 q1.2).bind fun q2 =>
    some (q2, q1.2))
  else
    some ((-1 : Int32), q1.2)
set_option maxHeartbeats 4000000 in
theorem sC_leads_52 (d : Nat) (hd : 0 + 1 ≤ d) (v1 : Int32) (v2 : Int32) (v3 : Int32) (vs1 : Int32) (I : hI) (J : hJ) (B : Bool × Bool) (q : Int32 × hI) (h : mC_leads_52 v1 v2 v3 vs1 I = some q) : AW hFT cX10_leads 4 (some .int) RX10 kdC d [(0, .ref 0), (1, .int v1), (2, .int v2), (3, .int v3)] 52 [.int vs1, .ref 0] (I, J, RM B) (some (.int q.1)) (q.2, J, RM B) := by
  obtain ⟨d0, rfl, hd0⟩ := h_mono hd
  unfold mC_leads_52 at h
  refine a_iconst dX10_leads_52 ic_1 ?_
  obtain ⟨q1, cq1, h⟩ := h_bindS h
  refine a_callV1 [] yy_X10_refuse ml_10_110 kc_0 rfl (sC_refuse _ (by omega) vs1 (1 : Int32) I J B q1 cq1) rfl rfl (Nat.le_of_ble_eq_true rfl) dX10_leads_53 ?_
  refine a_if_eq (tgt := 61) dX10_leads_56 (by decide) (fun c => ?_) (fun c => ?_)
  · replace h := h_iteT c h
    refine a_aload_n dX10_leads_61 rfl rfl ?_
    refine b_getR hK_10 kc_0 (i := 2) rfl fl_10_26 rfl (rm_0_2 B) dX10_leads_62 ?_
    refine a_iload_n dX10_leads_65 rfl rfl ?_
    refine a_bipush dX10_leads_66 bp_8 ?_
    refine a_imul dX10_leads_68 ?_
    refine a_iload_n dX10_leads_69 rfl rfl ?_
    refine a_iadd dX10_leads_70 ?_
    refine a_iload_n dX10_leads_71 rfl rfl ?_
    obtain ⟨q2, cq2, h⟩ := h_bindS h
    refine a_callV1 [] yy_X7_quarters ml_10_152 kc_7 rfl (sRo_quarters _ (by omega) ((v1 * (8 : Int32)) + v2) v3 q1.2 J B q2 cq2) rfl rfl (Nat.le_of_ble_eq_true rfl) dX10_leads_72 ?_
    cases h
    exact a_iret dX10_leads_75
  · replace h := h_iteF c h
    refine a_iconst dX10_leads_59 ic_m1 ?_
    cases h
    exact a_iret dX10_leads_60
def mC_leads_13  (v1 : Int32) (v2 : Int32) (v3 : Int32) (vs1 : Int32) (I : hI) : Option (Int32 × hI) :=
  (mC_refuse vs1 (0 : Int32) I).bind fun q1 =>
  if q1.1 = 0 then
    ((mRo_isChoice v1 v2 q1.2).bind fun q2 =>
    if q2 = 0 then
      mC_leads_52 v1 v2 v3 (1 : Int32) q1.2
    else
      (if (mC_isOutside v3 (q1.2 7 5)) = 0 then
        mC_leads_52 v1 v2 v3 (0 : Int32) q1.2
      else
        mC_leads_52 v1 v2 v3 (1 : Int32) q1.2))
  else
    some ((-1 : Int32), q1.2)
set_option maxHeartbeats 4000000 in
theorem sC_leads_13 (d : Nat) (hd : 0 + 1 ≤ d) (v1 : Int32) (v2 : Int32) (v3 : Int32) (vs1 : Int32) (I : hI) (J : hJ) (B : Bool × Bool) (q : Int32 × hI) (h : mC_leads_13 v1 v2 v3 vs1 I = some q) : AW hFT cX10_leads 4 (some .int) RX10 kdC d [(0, .ref 0), (1, .int v1), (2, .int v2), (3, .int v3)] 13 [.int vs1, .ref 0] (I, J, RM B) (some (.int q.1)) (q.2, J, RM B) := by
  obtain ⟨d0, rfl, hd0⟩ := h_mono hd
  unfold mC_leads_13 at h
  refine a_iconst dX10_leads_13 ic_0 ?_
  obtain ⟨q1, cq1, h⟩ := h_bindS h
  refine a_callV1 [] yy_X10_refuse ml_10_110 kc_0 rfl (sC_refuse _ (by omega) vs1 (0 : Int32) I J B q1 cq1) rfl rfl (Nat.le_of_ble_eq_true rfl) dX10_leads_14 ?_
  refine a_if_ne (tgt := 59) dX10_leads_17 (by decide) (fun c => ?_) (fun c => ?_)
  · replace h := h_iteF c h
    refine a_iconst dX10_leads_59 ic_m1 ?_
    cases h
    exact a_iret dX10_leads_60
  · replace h := h_iteT c h
    refine a_aload_n dX10_leads_20 rfl rfl ?_
    refine a_aload_n dX10_leads_21 rfl rfl ?_
    refine b_getR hK_10 kc_0 (i := 2) rfl fl_10_26 rfl (rm_0_2 B) dX10_leads_22 ?_
    refine a_iload_n dX10_leads_25 rfl rfl ?_
    refine a_iload_n dX10_leads_26 rfl rfl ?_
    obtain ⟨q2, cq2, h⟩ := h_bindS h
    refine a_callV1 [.ref 0] yy_X7_isChoice ml_10_138 kc_7 rfl (sRo_isChoice _ (by omega) v1 v2 q1.2 J B q2 cq2) rfl rfl (Nat.le_of_ble_eq_true rfl) dX10_leads_27 ?_
    refine a_if_eq (tgt := 47) dX10_leads_30 (by decide) (fun c => ?_) (fun c => ?_)
    · replace h := h_iteT c h
      refine a_iconst dX10_leads_47 ic_1 ?_
      refine a_goto (tgt := 52) dX10_leads_48 (by decide) ?_
      exact sC_leads_52 (d0 + 1) (by omega) v1 v2 v3 (1 : Int32) q1.2 J B _ h
    · replace h := h_iteF c h
      refine a_iload_n dX10_leads_33 rfl rfl ?_
      refine a_aload_n dX10_leads_34 rfl rfl ?_
      refine b_getR hK_10 kc_0 (i := 2) rfl fl_10_26 rfl (rm_0_2 B) dX10_leads_35 ?_
      refine b_getI hK_7 kc_7 (i := 5) rfl fl_10_106 rfl dX10_leads_38 ?_
      refine a_callS1 [.ref 0] yy_X10_isOutside ml_10_114 (sC_isOutside _ (by omega) v3 (q1.2 7 5) q1.2 J B _ rfl) rfl rfl (Nat.le_of_ble_eq_true rfl) dX10_leads_41 ?_
      refine a_if_eq (tgt := 51) dX10_leads_44 (by decide) (fun c => ?_) (fun c => ?_)
      · replace h := h_iteT c h
        refine a_iconst dX10_leads_51 ic_0 ?_
        exact sC_leads_52 (d0 + 1) (by omega) v1 v2 v3 (0 : Int32) q1.2 J B _ h
      · replace h := h_iteF c h
        refine a_iconst dX10_leads_47 ic_1 ?_
        refine a_goto (tgt := 52) dX10_leads_48 (by decide) ?_
        exact sC_leads_52 (d0 + 1) (by omega) v1 v2 v3 (1 : Int32) q1.2 J B _ h
def mC_leads  (v1 : Int32) (v2 : Int32) (v3 : Int32) (I : hI) : Option (Int32 × hI) :=
  if (I 0 11) = 0 then
    mC_leads_13 v1 v2 v3 (1 : Int32) I
  else
    mC_leads_13 v1 v2 v3 (0 : Int32) I
set_option maxHeartbeats 4000000 in
theorem sC_leads (d : Nat) (hd : 0 + 1 ≤ d) (v1 : Int32) (v2 : Int32) (v3 : Int32) (I : hI) (J : hJ) (B : Bool × Bool) (q : Int32 × hI) (h : mC_leads v1 v2 v3 I = some q) : HMet hFT yX10_leads cX10_leads 4 (some .int) kdC d [.ref 0, .int v1, .int v2, .int v3] (I, J, RM B) (some (.int q.1)) (q.2, J, RM B) := by
  obtain ⟨d0, rfl, hd0⟩ := h_mono hd
  refine HMet.of (by decide) (Nat.le_of_ble_eq_true rfl) ?_
  show AW hFT cX10_leads 4 (some .int) RX10 kdC (d0 + 1) [(0, .ref 0), (1, .int v1), (2, .int v2), (3, .int v3)] 0 [] (I, J, RM B) (some (.int q.1)) (q.2, J, RM B)
  unfold mC_leads at h
  refine a_aload_n dX10_leads_0 rfl rfl ?_
  refine a_aload_n dX10_leads_1 rfl rfl ?_
  refine b_getI hK_10 kc_0 (i := 11) rfl fl_10_90 rfl dX10_leads_2 ?_
  refine a_if_ne (tgt := 12) dX10_leads_5 (by decide) (fun c => ?_) (fun c => ?_)
  · replace h := h_iteF c h
    refine a_iconst dX10_leads_12 ic_0 ?_
    exact sC_leads_13 (d0 + 1) (by omega) v1 v2 v3 (0 : Int32) I J B _ h
  · replace h := h_iteT c h
    refine a_iconst dX10_leads_8 ic_1 ?_
    refine a_goto (tgt := 13) dX10_leads_9 (by decide) ?_
    exact sC_leads_13 (d0 + 1) (by omega) v1 v2 v3 (1 : Int32) I J B _ h
/-! CoinLoops.refusePlanned(Z)Z -/
theorem dX10_refusePlanned_0 : decode cX10_refusePlanned 0 = .ok (.aload_n 0, 1) := by decide +kernel
theorem dX10_refusePlanned_1 : decode cX10_refusePlanned 1 = .ok (.aload_n 0, 1) := by decide +kernel
theorem dX10_refusePlanned_2 : decode cX10_refusePlanned 2 = .ok (.getfield 90, 3) := by decide +kernel
theorem dX10_refusePlanned_5 : decode cX10_refusePlanned 5 = .ok (.ifCond .ne 7, 3) := by decide +kernel
theorem dX10_refusePlanned_8 : decode cX10_refusePlanned 8 = .ok (.iconst 1, 1) := by decide +kernel
theorem dX10_refusePlanned_9 : decode cX10_refusePlanned 9 = .ok (.goto 4, 3) := by decide +kernel
theorem dX10_refusePlanned_12 : decode cX10_refusePlanned 12 = .ok (.iconst 0, 1) := by decide +kernel
theorem dX10_refusePlanned_13 : decode cX10_refusePlanned 13 = .ok (.iconst 0, 1) := by decide +kernel
theorem dX10_refusePlanned_14 : decode cX10_refusePlanned 14 = .ok (.invokevirtual 110, 3) := by decide +kernel
theorem dX10_refusePlanned_17 : decode cX10_refusePlanned 17 = .ok (.ifCond .ne 37, 3) := by decide +kernel
theorem dX10_refusePlanned_20 : decode cX10_refusePlanned 20 = .ok (.aload_n 0, 1) := by decide +kernel
theorem dX10_refusePlanned_21 : decode cX10_refusePlanned 21 = .ok (.iload_n 1, 1) := by decide +kernel
theorem dX10_refusePlanned_22 : decode cX10_refusePlanned 22 = .ok (.iconst 1, 1) := by decide +kernel
theorem dX10_refusePlanned_23 : decode cX10_refusePlanned 23 = .ok (.invokevirtual 110, 3) := by decide +kernel
theorem dX10_refusePlanned_26 : decode cX10_refusePlanned 26 = .ok (.ifCond .ne 28, 3) := by decide +kernel
theorem dX10_refusePlanned_29 : decode cX10_refusePlanned 29 = .ok (.aload_n 0, 1) := by decide +kernel
theorem dX10_refusePlanned_30 : decode cX10_refusePlanned 30 = .ok (.aload_n 0, 1) := by decide +kernel
theorem dX10_refusePlanned_31 : decode cX10_refusePlanned 31 = .ok (.getfield 26, 3) := by decide +kernel
theorem dX10_refusePlanned_34 : decode cX10_refusePlanned 34 = .ok (.getfield 133, 3) := by decide +kernel
theorem dX10_refusePlanned_37 : decode cX10_refusePlanned 37 = .ok (.bipush (-2), 2) := by decide +kernel
theorem dX10_refusePlanned_39 : decode cX10_refusePlanned 39 = .ok (.if_icmp .ne 7, 3) := by decide +kernel
theorem dX10_refusePlanned_42 : decode cX10_refusePlanned 42 = .ok (.iconst 1, 1) := by decide +kernel
theorem dX10_refusePlanned_43 : decode cX10_refusePlanned 43 = .ok (.goto 4, 3) := by decide +kernel
theorem dX10_refusePlanned_46 : decode cX10_refusePlanned 46 = .ok (.iconst 0, 1) := by decide +kernel
theorem dX10_refusePlanned_47 : decode cX10_refusePlanned 47 = .ok (.iconst 2, 1) := by decide +kernel
theorem dX10_refusePlanned_48 : decode cX10_refusePlanned 48 = .ok (.invokevirtual 110, 3) := by decide +kernel
theorem dX10_refusePlanned_51 : decode cX10_refusePlanned 51 = .ok (.ifCond .eq 5, 3) := by decide +kernel
theorem dX10_refusePlanned_54 : decode cX10_refusePlanned 54 = .ok (.iconst 1, 1) := by decide +kernel
theorem dX10_refusePlanned_55 : decode cX10_refusePlanned 55 = .ok (.ireturn, 1) := by decide +kernel
theorem dX10_refusePlanned_56 : decode cX10_refusePlanned 56 = .ok (.aload_n 0, 1) := by decide +kernel
theorem dX10_refusePlanned_57 : decode cX10_refusePlanned 57 = .ok (.getfield 35, 3) := by decide +kernel
theorem dX10_refusePlanned_60 : decode cX10_refusePlanned 60 = .ok (.invokevirtual 277, 3) := by decide +kernel
theorem dX10_refusePlanned_63 : decode cX10_refusePlanned 63 = .ok (.iconst 0, 1) := by decide +kernel
theorem dX10_refusePlanned_64 : decode cX10_refusePlanned 64 = .ok (.ireturn, 1) := by decide +kernel
def mC_refusePlanned_47  (vs1 : Int32) (I : hI) (J : hJ) : Option (Int32 × hI × hJ) :=
  (mC_refuse vs1 (2 : Int32) I).bind fun q1 =>
  if q1.1 = 0 then
    ((mPl_prepare q1.2 J).bind fun q2 =>
    some ((0 : Int32), q2.1, q2.2))
  else
    some ((1 : Int32), q1.2, J)
set_option maxHeartbeats 4000000 in
theorem sC_refusePlanned_47 (d : Nat) (hd : 4 + 1 ≤ d) (vs1 : Int32) (I : hI) (J : hJ) (B : Bool × Bool) (q : Int32 × hI × hJ) (h : mC_refusePlanned_47 vs1 I J = some q) : AW hFT cX10_refusePlanned 2 (some .boolean) RX10 kdC d [(0, .ref 0)] 47 [.int vs1, .ref 0] (I, J, RM B) (some (.int q.1)) (q.2.1, q.2.2, RM B) := by
  obtain ⟨d0, rfl, hd0⟩ := h_mono hd
  unfold mC_refusePlanned_47 at h
  refine a_iconst dX10_refusePlanned_47 ic_2 ?_
  obtain ⟨q1, cq1, h⟩ := h_bindS h
  refine a_callV1 [] yy_X10_refuse ml_10_110 kc_0 rfl (sC_refuse _ (by omega) vs1 (2 : Int32) I J B q1 cq1) rfl rfl (Nat.le_of_ble_eq_true rfl) dX10_refusePlanned_48 ?_
  refine a_if_eq (tgt := 56) dX10_refusePlanned_51 (by decide) (fun c => ?_) (fun c => ?_)
  · replace h := h_iteT c h
    refine a_aload_n dX10_refusePlanned_56 rfl rfl ?_
    refine b_getR hK_10 kc_0 (i := 3) rfl fl_10_35 rfl (rm_0_3 B) dX10_refusePlanned_57 ?_
    obtain ⟨q2, cq2, h⟩ := h_bindS h
    refine a_callV0 [] yy_X5_prepare ml_10_277 kc_13 rfl (sPl_prepare _ (by omega)  q1.2 J B q2 cq2) rfl rfl (Nat.le_of_ble_eq_true rfl) dX10_refusePlanned_60 ?_
    refine a_iconst dX10_refusePlanned_63 ic_0 ?_
    cases h
    exact a_zret (h_Z0.1) dX10_refusePlanned_64
  · replace h := h_iteF c h
    refine a_iconst dX10_refusePlanned_54 ic_1 ?_
    cases h
    exact a_zret (h_Z1.1) dX10_refusePlanned_55
def mC_refusePlanned_13  (v1 : Int32) (vs1 : Int32) (I : hI) (J : hJ) : Option (Int32 × hI × hJ) :=
  (mC_refuse vs1 (0 : Int32) I).bind fun q1 =>
  if q1.1 = 0 then
    ((mC_refuse v1 (1 : Int32) q1.2).bind fun q2 =>
    if q2.1 = 0 then
      (if (q2.2 7 9) = (-2 : Int32) then
        mC_refusePlanned_47 (1 : Int32) q2.2 J
      else
        mC_refusePlanned_47 (0 : Int32) q2.2 J)
    else
      some ((1 : Int32), q2.2, J))
  else
    some ((1 : Int32), q1.2, J)
set_option maxHeartbeats 4000000 in
theorem sC_refusePlanned_13 (d : Nat) (hd : 4 + 1 ≤ d) (v1 : Int32) (vs1 : Int32) (I : hI) (J : hJ) (B : Bool × Bool) (q : Int32 × hI × hJ) (h : mC_refusePlanned_13 v1 vs1 I J = some q) : AW hFT cX10_refusePlanned 2 (some .boolean) RX10 kdC d [(0, .ref 0), (1, .int v1)] 13 [.int vs1, .ref 0] (I, J, RM B) (some (.int q.1)) (q.2.1, q.2.2, RM B) := by
  obtain ⟨d0, rfl, hd0⟩ := h_mono hd
  unfold mC_refusePlanned_13 at h
  refine a_iconst dX10_refusePlanned_13 ic_0 ?_
  obtain ⟨q1, cq1, h⟩ := h_bindS h
  refine a_callV1 [] yy_X10_refuse ml_10_110 kc_0 rfl (sC_refuse _ (by omega) vs1 (0 : Int32) I J B q1 cq1) rfl rfl (Nat.le_of_ble_eq_true rfl) dX10_refusePlanned_14 ?_
  refine a_if_ne (tgt := 54) dX10_refusePlanned_17 (by decide) (fun c => ?_) (fun c => ?_)
  · replace h := h_iteF c h
    refine a_iconst dX10_refusePlanned_54 ic_1 ?_
    cases h
    exact a_zret (h_Z1.1) dX10_refusePlanned_55
  · replace h := h_iteT c h
    refine a_aload_n dX10_refusePlanned_20 rfl rfl ?_
    refine a_iload_n dX10_refusePlanned_21 rfl rfl ?_
    refine a_iconst dX10_refusePlanned_22 ic_1 ?_
    obtain ⟨q2, cq2, h⟩ := h_bindS h
    refine a_callV1 [] yy_X10_refuse ml_10_110 kc_0 rfl (sC_refuse _ (by omega) v1 (1 : Int32) q1.2 J B q2 cq2) rfl rfl (Nat.le_of_ble_eq_true rfl) dX10_refusePlanned_23 ?_
    refine a_if_ne (tgt := 54) dX10_refusePlanned_26 (by decide) (fun c => ?_) (fun c => ?_)
    · replace h := h_iteF c h
      refine a_iconst dX10_refusePlanned_54 ic_1 ?_
      cases h
      exact a_zret (h_Z1.1) dX10_refusePlanned_55
    · replace h := h_iteT c h
      refine a_aload_n dX10_refusePlanned_29 rfl rfl ?_
      refine a_aload_n dX10_refusePlanned_30 rfl rfl ?_
      refine b_getR hK_10 kc_0 (i := 2) rfl fl_10_26 rfl (rm_0_2 B) dX10_refusePlanned_31 ?_
      refine b_getI hK_7 kc_7 (i := 9) rfl fl_10_133 rfl dX10_refusePlanned_34 ?_
      refine a_bipush dX10_refusePlanned_37 bp_m2 ?_
      refine a_icmp_ne (tgt := 46) dX10_refusePlanned_39 (by decide) (fun c => ?_) (fun c => ?_)
      · replace h := h_iteF c h
        refine a_iconst dX10_refusePlanned_46 ic_0 ?_
        refine a_sub (lv' := [(0, .ref 0)]) [0] rfl ?_
        exact sC_refusePlanned_47 (d0 + 1) (by omega) (0 : Int32) q2.2 J B _ h
      · replace h := h_iteT c h
        refine a_iconst dX10_refusePlanned_42 ic_1 ?_
        refine a_goto (tgt := 47) dX10_refusePlanned_43 (by decide) ?_
        refine a_sub (lv' := [(0, .ref 0)]) [0] rfl ?_
        exact sC_refusePlanned_47 (d0 + 1) (by omega) (1 : Int32) q2.2 J B _ h
def mC_refusePlanned  (v1 : Int32) (I : hI) (J : hJ) : Option (Int32 × hI × hJ) :=
  if (I 0 11) = 0 then
    mC_refusePlanned_13 v1 (1 : Int32) I J
  else
    mC_refusePlanned_13 v1 (0 : Int32) I J
set_option maxHeartbeats 4000000 in
theorem sC_refusePlanned (d : Nat) (hd : 4 + 1 ≤ d) (v1 : Int32) (I : hI) (J : hJ) (B : Bool × Bool) (q : Int32 × hI × hJ) (h : mC_refusePlanned v1 I J = some q) : HMet hFT yX10_refusePlanned cX10_refusePlanned 2 (some .boolean) kdC d [.ref 0, .int v1] (I, J, RM B) (some (.int q.1)) (q.2.1, q.2.2, RM B) := by
  obtain ⟨d0, rfl, hd0⟩ := h_mono hd
  refine HMet.of (by decide) (Nat.le_of_ble_eq_true rfl) ?_
  show AW hFT cX10_refusePlanned 2 (some .boolean) RX10 kdC (d0 + 1) [(0, .ref 0), (1, .int v1)] 0 [] (I, J, RM B) (some (.int q.1)) (q.2.1, q.2.2, RM B)
  unfold mC_refusePlanned at h
  refine a_aload_n dX10_refusePlanned_0 rfl rfl ?_
  refine a_aload_n dX10_refusePlanned_1 rfl rfl ?_
  refine b_getI hK_10 kc_0 (i := 11) rfl fl_10_90 rfl dX10_refusePlanned_2 ?_
  refine a_if_ne (tgt := 12) dX10_refusePlanned_5 (by decide) (fun c => ?_) (fun c => ?_)
  · replace h := h_iteF c h
    refine a_iconst dX10_refusePlanned_12 ic_0 ?_
    exact sC_refusePlanned_13 (d0 + 1) (by omega) v1 (0 : Int32) I J B _ h
  · replace h := h_iteT c h
    refine a_iconst dX10_refusePlanned_8 ic_1 ?_
    refine a_goto (tgt := 13) dX10_refusePlanned_9 (by decide) ?_
    exact sC_refusePlanned_13 (d0 + 1) (by omega) v1 (1 : Int32) I J B _ h
/-! CoinLoops.paid(IZI)J -/
theorem dX10_paid_0 : decode cX10_paid 0 = .ok (.aload_n 0, 1) := by decide +kernel
theorem dX10_paid_1 : decode cX10_paid 1 = .ok (.iload_n 1, 1) := by decide +kernel
theorem dX10_paid_2 : decode cX10_paid 2 = .ok (.aload_n 0, 1) := by decide +kernel
theorem dX10_paid_3 : decode cX10_paid 3 = .ok (.getfield 26, 3) := by decide +kernel
theorem dX10_paid_6 : decode cX10_paid 6 = .ok (.getfield 106, 3) := by decide +kernel
theorem dX10_paid_9 : decode cX10_paid 9 = .ok (.invokestatic 114, 3) := by decide +kernel
theorem dX10_paid_12 : decode cX10_paid 12 = .ok (.ifCond .ne 11, 3) := by decide +kernel
theorem dX10_paid_15 : decode cX10_paid 15 = .ok (.iload_n 3, 1) := by decide +kernel
theorem dX10_paid_16 : decode cX10_paid 16 = .ok (.iconst 2, 1) := by decide +kernel
theorem dX10_paid_17 : decode cX10_paid 17 = .ok (.invokestatic 114, 3) := by decide +kernel
theorem dX10_paid_20 : decode cX10_paid 20 = .ok (.ifCond .eq 7, 3) := by decide +kernel
theorem dX10_paid_23 : decode cX10_paid 23 = .ok (.iconst 1, 1) := by decide +kernel
theorem dX10_paid_24 : decode cX10_paid 24 = .ok (.goto 4, 3) := by decide +kernel
theorem dX10_paid_27 : decode cX10_paid 27 = .ok (.iconst 0, 1) := by decide +kernel
theorem dX10_paid_28 : decode cX10_paid 28 = .ok (.invokevirtual 156, 3) := by decide +kernel
theorem dX10_paid_31 : decode cX10_paid 31 = .ok (.ifCond .eq 7, 3) := by decide +kernel
theorem dX10_paid_34 : decode cX10_paid 34 = .ok (.ldc2_w 160, 3) := by decide +kernel
theorem dX10_paid_37 : decode cX10_paid 37 = .ok (.lreturn, 1) := by decide +kernel
theorem dX10_paid_38 : decode cX10_paid 38 = .ok (.aload_n 0, 1) := by decide +kernel
theorem dX10_paid_39 : decode cX10_paid 39 = .ok (.getfield 35, 3) := by decide +kernel
theorem dX10_paid_42 : decode cX10_paid 42 = .ok (.iconst 0, 1) := by decide +kernel
theorem dX10_paid_43 : decode cX10_paid 43 = .ok (.iload_n 2, 1) := by decide +kernel
theorem dX10_paid_44 : decode cX10_paid 44 = .ok (.ifCond .eq 7, 3) := by decide +kernel
theorem dX10_paid_47 : decode cX10_paid 47 = .ok (.iconst 1, 1) := by decide +kernel
theorem dX10_paid_48 : decode cX10_paid 48 = .ok (.goto 4, 3) := by decide +kernel
theorem dX10_paid_51 : decode cX10_paid 51 = .ok (.iconst 0, 1) := by decide +kernel
theorem dX10_paid_52 : decode cX10_paid 52 = .ok (.iadd, 1) := by decide +kernel
theorem dX10_paid_53 : decode cX10_paid 53 = .ok (.iload_n 1, 1) := by decide +kernel
theorem dX10_paid_54 : decode cX10_paid 54 = .ok (.iload_n 3, 1) := by decide +kernel
theorem dX10_paid_55 : decode cX10_paid 55 = .ok (.invokevirtual 162, 3) := by decide +kernel
theorem dX10_paid_58 : decode cX10_paid 58 = .ok (.lreturn, 1) := by decide +kernel
def mC_paid_52  (v1 : Int32) (v3 : Int32) (vs1 : Int32) (vs2 : Int32) (I : hI) (J : hJ) : Option (Int64 × hI × hJ) :=
  (mPl_told (vs1 + vs2) v1 v3 J).bind fun q1 =>
  some (q1, I, J)
set_option maxHeartbeats 4000000 in
theorem sC_paid_52 (d : Nat) (hd : 5 + 1 ≤ d) (v1 : Int32) (v3 : Int32) (vs1 : Int32) (vs2 : Int32) (I : hI) (J : hJ) (B : Bool × Bool) (q : Int64 × hI × hJ) (h : mC_paid_52 v1 v3 vs1 vs2 I J = some q) : AW hFT cX10_paid 4 (some .long) RX10 kdC d [(1, .int v1), (3, .int v3)] 52 [.int vs2, .int vs1, .ref 13] (I, J, RM B) (some (.long q.1)) (q.2.1, q.2.2, RM B) := by
  obtain ⟨d0, rfl, hd0⟩ := h_mono hd
  unfold mC_paid_52 at h
  refine a_iadd dX10_paid_52 ?_
  refine a_iload_n dX10_paid_53 rfl rfl ?_
  refine a_iload_n dX10_paid_54 rfl rfl ?_
  obtain ⟨q1, cq1, h⟩ := h_bindS h
  refine a_callV1 [] yy_X5_told ml_10_162 kc_13 rfl (sPl_told _ (by omega) (vs1 + vs2) v1 v3 I J B q1 cq1) rfl rfl (Nat.le_of_ble_eq_true rfl) dX10_paid_55 ?_
  cases h
  exact a_lret dX10_paid_58
def mC_paid_28  (v1 : Int32) (v2 : Int32) (v3 : Int32) (vs1 : Int32) (I : hI) (J : hJ) : Option (Int64 × hI × hJ) :=
  (mC_refusePlanned vs1 I J).bind fun q1 =>
  if q1.1 = 0 then
    (if v2 = 0 then
      mC_paid_52 v1 v3 (0 : Int32) (0 : Int32) q1.2.1 q1.2.2
    else
      mC_paid_52 v1 v3 (0 : Int32) (1 : Int32) q1.2.1 q1.2.2)
  else
    some ((-1 : Int64), q1.2.1, q1.2.2)
set_option maxHeartbeats 4000000 in
theorem sC_paid_28 (d : Nat) (hd : 5 + 1 ≤ d) (v1 : Int32) (v2 : Int32) (v3 : Int32) (vs1 : Int32) (I : hI) (J : hJ) (B : Bool × Bool) (q : Int64 × hI × hJ) (h : mC_paid_28 v1 v2 v3 vs1 I J = some q) : AW hFT cX10_paid 4 (some .long) RX10 kdC d [(0, .ref 0), (1, .int v1), (2, .int v2), (3, .int v3)] 28 [.int vs1, .ref 0] (I, J, RM B) (some (.long q.1)) (q.2.1, q.2.2, RM B) := by
  obtain ⟨d0, rfl, hd0⟩ := h_mono hd
  unfold mC_paid_28 at h
  obtain ⟨q1, cq1, h⟩ := h_bindS h
  refine a_callV1 [] yy_X10_refusePlanned ml_10_156 kc_0 rfl (sC_refusePlanned _ (by omega) vs1 I J B q1 cq1) rfl rfl (Nat.le_of_ble_eq_true rfl) dX10_paid_28 ?_
  refine a_if_eq (tgt := 38) dX10_paid_31 (by decide) (fun c => ?_) (fun c => ?_)
  · replace h := h_iteT c h
    refine a_aload_n dX10_paid_38 rfl rfl ?_
    refine b_getR hK_10 kc_0 (i := 3) rfl fl_10_35 rfl (rm_0_3 B) dX10_paid_39 ?_
    refine a_iconst dX10_paid_42 ic_0 ?_
    refine a_iload_n dX10_paid_43 rfl rfl ?_
    refine a_if_eq (tgt := 51) dX10_paid_44 (by decide) (fun c => ?_) (fun c => ?_)
    · replace h := h_iteT c h
      refine a_iconst dX10_paid_51 ic_0 ?_
      refine a_sub (lv' := [(1, .int v1), (3, .int v3)]) [1, 3] rfl ?_
      exact sC_paid_52 (d0 + 1) (by omega) v1 v3 (0 : Int32) (0 : Int32) q1.2.1 q1.2.2 B _ h
    · replace h := h_iteF c h
      refine a_iconst dX10_paid_47 ic_1 ?_
      refine a_goto (tgt := 52) dX10_paid_48 (by decide) ?_
      refine a_sub (lv' := [(1, .int v1), (3, .int v3)]) [1, 3] rfl ?_
      exact sC_paid_52 (d0 + 1) (by omega) v1 v3 (0 : Int32) (1 : Int32) q1.2.1 q1.2.2 B _ h
  · replace h := h_iteF c h
    refine a_ldc2_w cn_10_160 dX10_paid_34 ?_
    cases h
    exact a_lret dX10_paid_37
def mC_paid  (v1 : Int32) (v2 : Int32) (v3 : Int32) (I : hI) (J : hJ) : Option (Int64 × hI × hJ) :=
  if (mC_isOutside v1 (I 7 5)) = 0 then
    (if (mC_isOutside v3 (2 : Int32)) = 0 then
      mC_paid_28 v1 v2 v3 (0 : Int32) I J
    else
      mC_paid_28 v1 v2 v3 (1 : Int32) I J)
  else
    mC_paid_28 v1 v2 v3 (1 : Int32) I J
set_option maxHeartbeats 4000000 in
theorem sC_paid (d : Nat) (hd : 5 + 1 ≤ d) (v1 : Int32) (v2 : Int32) (v3 : Int32) (I : hI) (J : hJ) (B : Bool × Bool) (q : Int64 × hI × hJ) (h : mC_paid v1 v2 v3 I J = some q) : HMet hFT yX10_paid cX10_paid 4 (some .long) kdC d [.ref 0, .int v1, .int v2, .int v3] (I, J, RM B) (some (.long q.1)) (q.2.1, q.2.2, RM B) := by
  obtain ⟨d0, rfl, hd0⟩ := h_mono hd
  refine HMet.of (by decide) (Nat.le_of_ble_eq_true rfl) ?_
  show AW hFT cX10_paid 4 (some .long) RX10 kdC (d0 + 1) [(0, .ref 0), (1, .int v1), (2, .int v2), (3, .int v3)] 0 [] (I, J, RM B) (some (.long q.1)) (q.2.1, q.2.2, RM B)
  unfold mC_paid at h
  refine a_aload_n dX10_paid_0 rfl rfl ?_
  refine a_iload_n dX10_paid_1 rfl rfl ?_
  refine a_aload_n dX10_paid_2 rfl rfl ?_
  refine b_getR hK_10 kc_0 (i := 2) rfl fl_10_26 rfl (rm_0_2 B) dX10_paid_3 ?_
  refine b_getI hK_7 kc_7 (i := 5) rfl fl_10_106 rfl dX10_paid_6 ?_
  refine a_callS1 [.ref 0] yy_X10_isOutside ml_10_114 (sC_isOutside _ (by omega) v1 (I 7 5) I J B _ rfl) rfl rfl (Nat.le_of_ble_eq_true rfl) dX10_paid_9 ?_
  refine a_if_ne (tgt := 23) dX10_paid_12 (by decide) (fun c => ?_) (fun c => ?_)
  · replace h := h_iteF c h
    refine a_iconst dX10_paid_23 ic_1 ?_
    refine a_goto (tgt := 28) dX10_paid_24 (by decide) ?_
    exact sC_paid_28 (d0 + 1) (by omega) v1 v2 v3 (1 : Int32) I J B _ h
  · replace h := h_iteT c h
    refine a_iload_n dX10_paid_15 rfl rfl ?_
    refine a_iconst dX10_paid_16 ic_2 ?_
    refine a_callS1 [.ref 0] yy_X10_isOutside ml_10_114 (sC_isOutside _ (by omega) v3 (2 : Int32) I J B _ rfl) rfl rfl (Nat.le_of_ble_eq_true rfl) dX10_paid_17 ?_
    refine a_if_eq (tgt := 27) dX10_paid_20 (by decide) (fun c => ?_) (fun c => ?_)
    · replace h := h_iteT c h
      refine a_iconst dX10_paid_27 ic_0 ?_
      exact sC_paid_28 (d0 + 1) (by omega) v1 v2 v3 (0 : Int32) I J B _ h
    · replace h := h_iteF c h
      refine a_iconst dX10_paid_23 ic_1 ?_
      refine a_goto (tgt := 28) dX10_paid_24 (by decide) ?_
      exact sC_paid_28 (d0 + 1) (by omega) v1 v2 v3 (1 : Int32) I J B _ h
/-! CoinLoops.ends(IZI)J -/
theorem dX10_ends_0 : decode cX10_ends 0 = .ok (.aload_n 0, 1) := by decide +kernel
theorem dX10_ends_1 : decode cX10_ends 1 = .ok (.iload_n 1, 1) := by decide +kernel
theorem dX10_ends_2 : decode cX10_ends 2 = .ok (.aload_n 0, 1) := by decide +kernel
theorem dX10_ends_3 : decode cX10_ends 3 = .ok (.getfield 26, 3) := by decide +kernel
theorem dX10_ends_6 : decode cX10_ends 6 = .ok (.getfield 106, 3) := by decide +kernel
theorem dX10_ends_9 : decode cX10_ends 9 = .ok (.invokestatic 114, 3) := by decide +kernel
theorem dX10_ends_12 : decode cX10_ends 12 = .ok (.ifCond .ne 11, 3) := by decide +kernel
theorem dX10_ends_15 : decode cX10_ends 15 = .ok (.iload_n 3, 1) := by decide +kernel
theorem dX10_ends_16 : decode cX10_ends 16 = .ok (.iconst 2, 1) := by decide +kernel
theorem dX10_ends_17 : decode cX10_ends 17 = .ok (.invokestatic 114, 3) := by decide +kernel
theorem dX10_ends_20 : decode cX10_ends 20 = .ok (.ifCond .eq 7, 3) := by decide +kernel
theorem dX10_ends_23 : decode cX10_ends 23 = .ok (.iconst 1, 1) := by decide +kernel
theorem dX10_ends_24 : decode cX10_ends 24 = .ok (.goto 4, 3) := by decide +kernel
theorem dX10_ends_27 : decode cX10_ends 27 = .ok (.iconst 0, 1) := by decide +kernel
theorem dX10_ends_28 : decode cX10_ends 28 = .ok (.invokevirtual 156, 3) := by decide +kernel
theorem dX10_ends_31 : decode cX10_ends 31 = .ok (.ifCond .eq 7, 3) := by decide +kernel
theorem dX10_ends_34 : decode cX10_ends 34 = .ok (.ldc2_w 160, 3) := by decide +kernel
theorem dX10_ends_37 : decode cX10_ends 37 = .ok (.lreturn, 1) := by decide +kernel
theorem dX10_ends_38 : decode cX10_ends 38 = .ok (.aload_n 0, 1) := by decide +kernel
theorem dX10_ends_39 : decode cX10_ends 39 = .ok (.getfield 35, 3) := by decide +kernel
theorem dX10_ends_42 : decode cX10_ends 42 = .ok (.iconst 2, 1) := by decide +kernel
theorem dX10_ends_43 : decode cX10_ends 43 = .ok (.iload_n 2, 1) := by decide +kernel
theorem dX10_ends_44 : decode cX10_ends 44 = .ok (.ifCond .eq 7, 3) := by decide +kernel
theorem dX10_ends_47 : decode cX10_ends 47 = .ok (.iconst 1, 1) := by decide +kernel
theorem dX10_ends_48 : decode cX10_ends 48 = .ok (.goto 4, 3) := by decide +kernel
theorem dX10_ends_51 : decode cX10_ends 51 = .ok (.iconst 0, 1) := by decide +kernel
theorem dX10_ends_52 : decode cX10_ends 52 = .ok (.iadd, 1) := by decide +kernel
theorem dX10_ends_53 : decode cX10_ends 53 = .ok (.iload_n 1, 1) := by decide +kernel
theorem dX10_ends_54 : decode cX10_ends 54 = .ok (.iload_n 3, 1) := by decide +kernel
theorem dX10_ends_55 : decode cX10_ends 55 = .ok (.invokevirtual 162, 3) := by decide +kernel
theorem dX10_ends_58 : decode cX10_ends 58 = .ok (.lreturn, 1) := by decide +kernel
def mC_ends_52  (v1 : Int32) (v3 : Int32) (vs1 : Int32) (vs2 : Int32) (I : hI) (J : hJ) : Option (Int64 × hI × hJ) :=
  (mPl_told (vs1 + vs2) v1 v3 J).bind fun q1 =>
  some (q1, I, J)
set_option maxHeartbeats 4000000 in
theorem sC_ends_52 (d : Nat) (hd : 5 + 1 ≤ d) (v1 : Int32) (v3 : Int32) (vs1 : Int32) (vs2 : Int32) (I : hI) (J : hJ) (B : Bool × Bool) (q : Int64 × hI × hJ) (h : mC_ends_52 v1 v3 vs1 vs2 I J = some q) : AW hFT cX10_ends 4 (some .long) RX10 kdC d [(1, .int v1), (3, .int v3)] 52 [.int vs2, .int vs1, .ref 13] (I, J, RM B) (some (.long q.1)) (q.2.1, q.2.2, RM B) := by
  obtain ⟨d0, rfl, hd0⟩ := h_mono hd
  unfold mC_ends_52 at h
  refine a_iadd dX10_ends_52 ?_
  refine a_iload_n dX10_ends_53 rfl rfl ?_
  refine a_iload_n dX10_ends_54 rfl rfl ?_
  obtain ⟨q1, cq1, h⟩ := h_bindS h
  refine a_callV1 [] yy_X5_told ml_10_162 kc_13 rfl (sPl_told _ (by omega) (vs1 + vs2) v1 v3 I J B q1 cq1) rfl rfl (Nat.le_of_ble_eq_true rfl) dX10_ends_55 ?_
  cases h
  exact a_lret dX10_ends_58
def mC_ends_28  (v1 : Int32) (v2 : Int32) (v3 : Int32) (vs1 : Int32) (I : hI) (J : hJ) : Option (Int64 × hI × hJ) :=
  (mC_refusePlanned vs1 I J).bind fun q1 =>
  if q1.1 = 0 then
    (if v2 = 0 then
      mC_ends_52 v1 v3 (2 : Int32) (0 : Int32) q1.2.1 q1.2.2
    else
      mC_ends_52 v1 v3 (2 : Int32) (1 : Int32) q1.2.1 q1.2.2)
  else
    some ((-1 : Int64), q1.2.1, q1.2.2)
set_option maxHeartbeats 4000000 in
theorem sC_ends_28 (d : Nat) (hd : 5 + 1 ≤ d) (v1 : Int32) (v2 : Int32) (v3 : Int32) (vs1 : Int32) (I : hI) (J : hJ) (B : Bool × Bool) (q : Int64 × hI × hJ) (h : mC_ends_28 v1 v2 v3 vs1 I J = some q) : AW hFT cX10_ends 4 (some .long) RX10 kdC d [(0, .ref 0), (1, .int v1), (2, .int v2), (3, .int v3)] 28 [.int vs1, .ref 0] (I, J, RM B) (some (.long q.1)) (q.2.1, q.2.2, RM B) := by
  obtain ⟨d0, rfl, hd0⟩ := h_mono hd
  unfold mC_ends_28 at h
  obtain ⟨q1, cq1, h⟩ := h_bindS h
  refine a_callV1 [] yy_X10_refusePlanned ml_10_156 kc_0 rfl (sC_refusePlanned _ (by omega) vs1 I J B q1 cq1) rfl rfl (Nat.le_of_ble_eq_true rfl) dX10_ends_28 ?_
  refine a_if_eq (tgt := 38) dX10_ends_31 (by decide) (fun c => ?_) (fun c => ?_)
  · replace h := h_iteT c h
    refine a_aload_n dX10_ends_38 rfl rfl ?_
    refine b_getR hK_10 kc_0 (i := 3) rfl fl_10_35 rfl (rm_0_3 B) dX10_ends_39 ?_
    refine a_iconst dX10_ends_42 ic_2 ?_
    refine a_iload_n dX10_ends_43 rfl rfl ?_
    refine a_if_eq (tgt := 51) dX10_ends_44 (by decide) (fun c => ?_) (fun c => ?_)
    · replace h := h_iteT c h
      refine a_iconst dX10_ends_51 ic_0 ?_
      refine a_sub (lv' := [(1, .int v1), (3, .int v3)]) [1, 3] rfl ?_
      exact sC_ends_52 (d0 + 1) (by omega) v1 v3 (2 : Int32) (0 : Int32) q1.2.1 q1.2.2 B _ h
    · replace h := h_iteF c h
      refine a_iconst dX10_ends_47 ic_1 ?_
      refine a_goto (tgt := 52) dX10_ends_48 (by decide) ?_
      refine a_sub (lv' := [(1, .int v1), (3, .int v3)]) [1, 3] rfl ?_
      exact sC_ends_52 (d0 + 1) (by omega) v1 v3 (2 : Int32) (1 : Int32) q1.2.1 q1.2.2 B _ h
  · replace h := h_iteF c h
    refine a_ldc2_w cn_10_160 dX10_ends_34 ?_
    cases h
    exact a_lret dX10_ends_37
def mC_ends  (v1 : Int32) (v2 : Int32) (v3 : Int32) (I : hI) (J : hJ) : Option (Int64 × hI × hJ) :=
  if (mC_isOutside v1 (I 7 5)) = 0 then
    (if (mC_isOutside v3 (2 : Int32)) = 0 then
      mC_ends_28 v1 v2 v3 (0 : Int32) I J
    else
      mC_ends_28 v1 v2 v3 (1 : Int32) I J)
  else
    mC_ends_28 v1 v2 v3 (1 : Int32) I J
set_option maxHeartbeats 4000000 in
theorem sC_ends (d : Nat) (hd : 5 + 1 ≤ d) (v1 : Int32) (v2 : Int32) (v3 : Int32) (I : hI) (J : hJ) (B : Bool × Bool) (q : Int64 × hI × hJ) (h : mC_ends v1 v2 v3 I J = some q) : HMet hFT yX10_ends cX10_ends 4 (some .long) kdC d [.ref 0, .int v1, .int v2, .int v3] (I, J, RM B) (some (.long q.1)) (q.2.1, q.2.2, RM B) := by
  obtain ⟨d0, rfl, hd0⟩ := h_mono hd
  refine HMet.of (by decide) (Nat.le_of_ble_eq_true rfl) ?_
  show AW hFT cX10_ends 4 (some .long) RX10 kdC (d0 + 1) [(0, .ref 0), (1, .int v1), (2, .int v2), (3, .int v3)] 0 [] (I, J, RM B) (some (.long q.1)) (q.2.1, q.2.2, RM B)
  unfold mC_ends at h
  refine a_aload_n dX10_ends_0 rfl rfl ?_
  refine a_iload_n dX10_ends_1 rfl rfl ?_
  refine a_aload_n dX10_ends_2 rfl rfl ?_
  refine b_getR hK_10 kc_0 (i := 2) rfl fl_10_26 rfl (rm_0_2 B) dX10_ends_3 ?_
  refine b_getI hK_7 kc_7 (i := 5) rfl fl_10_106 rfl dX10_ends_6 ?_
  refine a_callS1 [.ref 0] yy_X10_isOutside ml_10_114 (sC_isOutside _ (by omega) v1 (I 7 5) I J B _ rfl) rfl rfl (Nat.le_of_ble_eq_true rfl) dX10_ends_9 ?_
  refine a_if_ne (tgt := 23) dX10_ends_12 (by decide) (fun c => ?_) (fun c => ?_)
  · replace h := h_iteF c h
    refine a_iconst dX10_ends_23 ic_1 ?_
    refine a_goto (tgt := 28) dX10_ends_24 (by decide) ?_
    exact sC_ends_28 (d0 + 1) (by omega) v1 v2 v3 (1 : Int32) I J B _ h
  · replace h := h_iteT c h
    refine a_iload_n dX10_ends_15 rfl rfl ?_
    refine a_iconst dX10_ends_16 ic_2 ?_
    refine a_callS1 [.ref 0] yy_X10_isOutside ml_10_114 (sC_isOutside _ (by omega) v3 (2 : Int32) I J B _ rfl) rfl rfl (Nat.le_of_ble_eq_true rfl) dX10_ends_17 ?_
    refine a_if_eq (tgt := 27) dX10_ends_20 (by decide) (fun c => ?_) (fun c => ?_)
    · replace h := h_iteT c h
      refine a_iconst dX10_ends_27 ic_0 ?_
      exact sC_ends_28 (d0 + 1) (by omega) v1 v2 v3 (0 : Int32) I J B _ h
    · replace h := h_iteF c h
      refine a_iconst dX10_ends_23 ic_1 ?_
      refine a_goto (tgt := 28) dX10_ends_24 (by decide) ?_
      exact sC_ends_28 (d0 + 1) (by omega) v1 v2 v3 (1 : Int32) I J B _ h
/-! CoinLoops.unsure()I -/
theorem dX10_unsure_0 : decode cX10_unsure 0 = .ok (.aload_n 0, 1) := by decide +kernel
theorem dX10_unsure_1 : decode cX10_unsure 1 = .ok (.iconst 0, 1) := by decide +kernel
theorem dX10_unsure_2 : decode cX10_unsure 2 = .ok (.invokevirtual 156, 3) := by decide +kernel
theorem dX10_unsure_5 : decode cX10_unsure 5 = .ok (.ifCond .eq 5, 3) := by decide +kernel
theorem dX10_unsure_8 : decode cX10_unsure 8 = .ok (.iconst (-1), 1) := by decide +kernel
theorem dX10_unsure_9 : decode cX10_unsure 9 = .ok (.ireturn, 1) := by decide +kernel
theorem dX10_unsure_10 : decode cX10_unsure 10 = .ok (.iconst 0, 1) := by decide +kernel
theorem dX10_unsure_11 : decode cX10_unsure 11 = .ok (.istore_n 1, 1) := by decide +kernel
theorem dX10_unsure_12 : decode cX10_unsure 12 = .ok (.iload_n 1, 1) := by decide +kernel
theorem dX10_unsure_13 : decode cX10_unsure 13 = .ok (.aload_n 0, 1) := by decide +kernel
theorem dX10_unsure_14 : decode cX10_unsure 14 = .ok (.getfield 26, 3) := by decide +kernel
theorem dX10_unsure_17 : decode cX10_unsure 17 = .ok (.getfield 106, 3) := by decide +kernel
theorem dX10_unsure_20 : decode cX10_unsure 20 = .ok (.if_icmp .ge 23, 3) := by decide +kernel
theorem dX10_unsure_23 : decode cX10_unsure 23 = .ok (.aload_n 0, 1) := by decide +kernel
theorem dX10_unsure_24 : decode cX10_unsure 24 = .ok (.getfield 35, 3) := by decide +kernel
theorem dX10_unsure_27 : decode cX10_unsure 27 = .ok (.iconst 2, 1) := by decide +kernel
theorem dX10_unsure_28 : decode cX10_unsure 28 = .ok (.iload_n 1, 1) := by decide +kernel
theorem dX10_unsure_29 : decode cX10_unsure 29 = .ok (.invokevirtual 165, 3) := by decide +kernel
theorem dX10_unsure_32 : decode cX10_unsure 32 = .ok (.ifCond .ne 5, 3) := by decide +kernel
theorem dX10_unsure_35 : decode cX10_unsure 35 = .ok (.iload_n 1, 1) := by decide +kernel
theorem dX10_unsure_36 : decode cX10_unsure 36 = .ok (.ireturn, 1) := by decide +kernel
theorem dX10_unsure_37 : decode cX10_unsure 37 = .ok (.iinc 1 1, 3) := by decide +kernel
theorem dX10_unsure_40 : decode cX10_unsure 40 = .ok (.goto (-28), 3) := by decide +kernel
theorem dX10_unsure_43 : decode cX10_unsure 43 = .ok (.iconst (-1), 1) := by decide +kernel
theorem dX10_unsure_44 : decode cX10_unsure 44 = .ok (.ireturn, 1) := by decide +kernel
def mC_unsure_B12 (k12 : Int32 → hI → hJ → Option (Int32 × hI × hJ)) (v1 : Int32) (I : hI) (J : hJ) : Option (Int32 × hI × hJ) :=
  if (I 7 5) ≤ v1 then
    some ((-1 : Int32), I, J)
  else
    ((mPl_isSure (2 : Int32) v1 J).bind fun q1 =>
    if q1 = 0 then
      some (v1, I, J)
    else
      k12 (v1 + (1 : Int32)) I J)
set_option maxHeartbeats 4000000 in
theorem sC_unsure_B12 (d : Nat) (hd : 5 + 1 ≤ d) (k12 : Int32 → hI → hJ → Option (Int32 × hI × hJ)) (hk12 : ∀ (v1 : Int32) (I : hI) (J : hJ) (B : Bool × Bool) (q : Int32 × hI × hJ), k12 v1 I J = some q → AW hFT cX10_unsure 2 (some .int) RX10 kdC d [(0, .ref 0), (1, .int v1)] 12 [] (I, J, RM B) (some (.int q.1)) (q.2.1, q.2.2, RM B)) (v1 : Int32) (I : hI) (J : hJ) (B : Bool × Bool) (q : Int32 × hI × hJ) (h : mC_unsure_B12 k12 v1 I J = some q) : AW hFT cX10_unsure 2 (some .int) RX10 kdC d [(0, .ref 0), (1, .int v1)] 12 [] (I, J, RM B) (some (.int q.1)) (q.2.1, q.2.2, RM B) := by
  obtain ⟨d0, rfl, hd0⟩ := h_mono hd
  unfold mC_unsure_B12 at h
  refine a_iload_n dX10_unsure_12 rfl rfl ?_
  refine a_aload_n dX10_unsure_13 rfl rfl ?_
  refine b_getR hK_10 kc_0 (i := 2) rfl fl_10_26 rfl (rm_0_2 B) dX10_unsure_14 ?_
  refine b_getI hK_7 kc_7 (i := 5) rfl fl_10_106 rfl dX10_unsure_17 ?_
  refine a_icmp_ge (tgt := 43) dX10_unsure_20 (by decide) (fun c => ?_) (fun c => ?_)
  · replace h := h_iteT c h
    refine a_iconst dX10_unsure_43 ic_m1 ?_
    cases h
    exact a_iret dX10_unsure_44
  · replace h := h_iteF c h
    refine a_aload_n dX10_unsure_23 rfl rfl ?_
    refine b_getR hK_10 kc_0 (i := 3) rfl fl_10_35 rfl (rm_0_3 B) dX10_unsure_24 ?_
    refine a_iconst dX10_unsure_27 ic_2 ?_
    refine a_iload_n dX10_unsure_28 rfl rfl ?_
    obtain ⟨q1, cq1, h⟩ := h_bindS h
    refine a_callV1 [] yy_X5_isSure ml_10_165 kc_13 rfl (sPl_isSure _ (by omega) (2 : Int32) v1 I J B q1 cq1) rfl rfl (Nat.le_of_ble_eq_true rfl) dX10_unsure_29 ?_
    refine a_if_ne (tgt := 37) dX10_unsure_32 (by decide) (fun c => ?_) (fun c => ?_)
    · replace h := h_iteF c h
      refine b_iinc (lv' := [(1, .int (v1 + (1 : Int32))), (0, .ref 0)]) dX10_unsure_37 rfl ic_1 (by decide) rfl ?_
      refine a_goto (tgt := 12) dX10_unsure_40 (by decide) ?_
      refine a_sub (lv' := [(0, .ref 0), (1, .int (v1 + (1 : Int32)))]) [1, 0] rfl ?_
      exact hk12 (v1 + (1 : Int32)) I J B _ h
    · replace h := h_iteT c h
      refine a_iload_n dX10_unsure_35 rfl rfl ?_
      cases h
      exact a_iret dX10_unsure_36
def mC_unsure_L12  : Nat → Int32 → hI → hJ → Option (Int32 × hI × hJ)
  | 0 => fun _ _ _ => none
  | n + 1 => mC_unsure_B12 (mC_unsure_L12 n)
theorem sC_unsure_L12 (d : Nat) (hd : 5 + 1 ≤ d) : ∀ (n : Nat) (v1 : Int32) (I : hI) (J : hJ) (B : Bool × Bool) (q : Int32 × hI × hJ) (h : mC_unsure_L12 n v1 I J = some q), AW hFT cX10_unsure 2 (some .int) RX10 kdC d [(0, .ref 0), (1, .int v1)] 12 [] (I, J, RM B) (some (.int q.1)) (q.2.1, q.2.2, RM B)
  | 0, _, _, _, _, q, h => by cases h
  | n + 1, v1, I, J, B, q, h => sC_unsure_B12 d hd (mC_unsure_L12 n) (sC_unsure_L12 d hd n) v1 I J B q h
def mC_unsure   (I : hI) (J : hJ) : Option (Int32 × hI × hJ) :=
  (mC_refusePlanned (0 : Int32) I J).bind fun q1 =>
  if q1.1 = 0 then
    mC_unsure_L12 hF (0 : Int32) q1.2.1 q1.2.2
  else
    some ((-1 : Int32), q1.2.1, q1.2.2)
set_option maxHeartbeats 4000000 in
theorem sC_unsure (d : Nat) (hd : 5 + 1 ≤ d)  (I : hI) (J : hJ) (B : Bool × Bool) (q : Int32 × hI × hJ) (h : mC_unsure I J = some q) : HMet hFT yX10_unsure cX10_unsure 2 (some .int) kdC d [.ref 0] (I, J, RM B) (some (.int q.1)) (q.2.1, q.2.2, RM B) := by
  obtain ⟨d0, rfl, hd0⟩ := h_mono hd
  refine HMet.of (by decide) (Nat.le_of_ble_eq_true rfl) ?_
  show AW hFT cX10_unsure 2 (some .int) RX10 kdC (d0 + 1) [(0, .ref 0)] 0 [] (I, J, RM B) (some (.int q.1)) (q.2.1, q.2.2, RM B)
  unfold mC_unsure at h
  refine a_aload_n dX10_unsure_0 rfl rfl ?_
  refine a_iconst dX10_unsure_1 ic_0 ?_
  obtain ⟨q1, cq1, h⟩ := h_bindS h
  refine a_callV1 [] yy_X10_refusePlanned ml_10_156 kc_0 rfl (sC_refusePlanned _ (by omega) (0 : Int32) I J B q1 cq1) rfl rfl (Nat.le_of_ble_eq_true rfl) dX10_unsure_2 ?_
  refine a_if_eq (tgt := 10) dX10_unsure_5 (by decide) (fun c => ?_) (fun c => ?_)
  · replace h := h_iteT c h
    refine a_iconst dX10_unsure_10 ic_0 ?_
    refine a_istore_n (lv' := [(1, .int (0 : Int32)), (0, .ref 0)]) dX10_unsure_11 rfl (by decide) rfl ?_
    refine a_sub (lv' := [(0, .ref 0), (1, .int (0 : Int32))]) [1, 0] rfl ?_
    exact sC_unsure_L12 (d0 + 1) (by omega) hF (0 : Int32) q1.2.1 q1.2.2 B _ h
  · replace h := h_iteF c h
    refine a_iconst dX10_unsure_8 ic_m1 ?_
    cases h
    exact a_iret dX10_unsure_9
/-! CoinLoops.plan(IZI)I -/
theorem dX10_plan_0 : decode cX10_plan 0 = .ok (.aload_n 0, 1) := by decide +kernel
theorem dX10_plan_1 : decode cX10_plan 1 = .ok (.iload_n 1, 1) := by decide +kernel
theorem dX10_plan_2 : decode cX10_plan 2 = .ok (.aload_n 0, 1) := by decide +kernel
theorem dX10_plan_3 : decode cX10_plan 3 = .ok (.getfield 26, 3) := by decide +kernel
theorem dX10_plan_6 : decode cX10_plan 6 = .ok (.getfield 106, 3) := by decide +kernel
theorem dX10_plan_9 : decode cX10_plan 9 = .ok (.invokestatic 114, 3) := by decide +kernel
theorem dX10_plan_12 : decode cX10_plan 12 = .ok (.ifCond .ne 17, 3) := by decide +kernel
theorem dX10_plan_15 : decode cX10_plan 15 = .ok (.iload_n 3, 1) := by decide +kernel
theorem dX10_plan_16 : decode cX10_plan 16 = .ok (.aload_n 0, 1) := by decide +kernel
theorem dX10_plan_17 : decode cX10_plan 17 = .ok (.getfield 26, 3) := by decide +kernel
theorem dX10_plan_20 : decode cX10_plan 20 = .ok (.getfield 106, 3) := by decide +kernel
theorem dX10_plan_23 : decode cX10_plan 23 = .ok (.invokestatic 114, 3) := by decide +kernel
theorem dX10_plan_26 : decode cX10_plan 26 = .ok (.ifCond .eq 7, 3) := by decide +kernel
theorem dX10_plan_29 : decode cX10_plan 29 = .ok (.iconst 1, 1) := by decide +kernel
theorem dX10_plan_30 : decode cX10_plan 30 = .ok (.goto 4, 3) := by decide +kernel
theorem dX10_plan_33 : decode cX10_plan 33 = .ok (.iconst 0, 1) := by decide +kernel
theorem dX10_plan_34 : decode cX10_plan 34 = .ok (.invokevirtual 156, 3) := by decide +kernel
theorem dX10_plan_37 : decode cX10_plan 37 = .ok (.ifCond .eq 5, 3) := by decide +kernel
theorem dX10_plan_40 : decode cX10_plan 40 = .ok (.iconst (-1), 1) := by decide +kernel
theorem dX10_plan_41 : decode cX10_plan 41 = .ok (.ireturn, 1) := by decide +kernel
theorem dX10_plan_42 : decode cX10_plan 42 = .ok (.aload_n 0, 1) := by decide +kernel
theorem dX10_plan_43 : decode cX10_plan 43 = .ok (.getfield 26, 3) := by decide +kernel
theorem dX10_plan_46 : decode cX10_plan 46 = .ok (.iload_n 3, 1) := by decide +kernel
theorem dX10_plan_47 : decode cX10_plan 47 = .ok (.invokevirtual 168, 3) := by decide +kernel
theorem dX10_plan_50 : decode cX10_plan 50 = .ok (.ifCond .ne 5, 3) := by decide +kernel
theorem dX10_plan_53 : decode cX10_plan 53 = .ok (.iconst (-1), 1) := by decide +kernel
theorem dX10_plan_54 : decode cX10_plan 54 = .ok (.ireturn, 1) := by decide +kernel
theorem dX10_plan_55 : decode cX10_plan 55 = .ok (.aload_n 0, 1) := by decide +kernel
theorem dX10_plan_56 : decode cX10_plan 56 = .ok (.getfield 35, 3) := by decide +kernel
theorem dX10_plan_59 : decode cX10_plan 59 = .ok (.aload_n 0, 1) := by decide +kernel
theorem dX10_plan_60 : decode cX10_plan 60 = .ok (.getfield 35, 3) := by decide +kernel
theorem dX10_plan_63 : decode cX10_plan 63 = .ok (.iload_n 2, 1) := by decide +kernel
theorem dX10_plan_64 : decode cX10_plan 64 = .ok (.iload_n 1, 1) := by decide +kernel
theorem dX10_plan_65 : decode cX10_plan 65 = .ok (.invokevirtual 171, 3) := by decide +kernel
theorem dX10_plan_68 : decode cX10_plan 68 = .ok (.iload_n 3, 1) := by decide +kernel
theorem dX10_plan_69 : decode cX10_plan 69 = .ok (.invokevirtual 175, 3) := by decide +kernel
theorem dX10_plan_72 : decode cX10_plan 72 = .ok (.ireturn, 1) := by decide +kernel
def mC_plan_34  (v1 : Int32) (v2 : Int32) (v3 : Int32) (vs1 : Int32) (I : hI) (J : hJ) : Option (Int32 × hI × hJ) :=
  (mC_refusePlanned vs1 I J).bind fun q1 =>
  if q1.1 = 0 then
    (if (mRo_isIn v3 q1.2.1) = 0 then
      some ((-1 : Int32), q1.2.1, q1.2.2)
    else
      ((mPl_firstPlan v2 v1 q1.2.1).bind fun q2 =>
      (mPl_choiceOf q2 v3 q1.2.1).bind fun q3 =>
      some (q3, q1.2.1, q1.2.2)))
  else
    some ((-1 : Int32), q1.2.1, q1.2.2)
set_option maxHeartbeats 4000000 in
theorem sC_plan_34 (d : Nat) (hd : 5 + 1 ≤ d) (v1 : Int32) (v2 : Int32) (v3 : Int32) (vs1 : Int32) (I : hI) (J : hJ) (B : Bool × Bool) (q : Int32 × hI × hJ) (h : mC_plan_34 v1 v2 v3 vs1 I J = some q) : AW hFT cX10_plan 4 (some .int) RX10 kdC d [(0, .ref 0), (1, .int v1), (2, .int v2), (3, .int v3)] 34 [.int vs1, .ref 0] (I, J, RM B) (some (.int q.1)) (q.2.1, q.2.2, RM B) := by
  obtain ⟨d0, rfl, hd0⟩ := h_mono hd
  unfold mC_plan_34 at h
  obtain ⟨q1, cq1, h⟩ := h_bindS h
  refine a_callV1 [] yy_X10_refusePlanned ml_10_156 kc_0 rfl (sC_refusePlanned _ (by omega) vs1 I J B q1 cq1) rfl rfl (Nat.le_of_ble_eq_true rfl) dX10_plan_34 ?_
  refine a_if_eq (tgt := 42) dX10_plan_37 (by decide) (fun c => ?_) (fun c => ?_)
  · replace h := h_iteT c h
    refine a_aload_n dX10_plan_42 rfl rfl ?_
    refine b_getR hK_10 kc_0 (i := 2) rfl fl_10_26 rfl (rm_0_2 B) dX10_plan_43 ?_
    refine a_iload_n dX10_plan_46 rfl rfl ?_
    refine a_callV1 [] yy_X7_isIn ml_10_168 kc_7 rfl (sRo_isIn _ (by omega) v3 q1.2.1 q1.2.2 B _ rfl) rfl rfl (Nat.le_of_ble_eq_true rfl) dX10_plan_47 ?_
    refine a_if_ne (tgt := 55) dX10_plan_50 (by decide) (fun c => ?_) (fun c => ?_)
    · replace h := h_iteF c h
      refine a_aload_n dX10_plan_55 rfl rfl ?_
      refine b_getR hK_10 kc_0 (i := 3) rfl fl_10_35 rfl (rm_0_3 B) dX10_plan_56 ?_
      refine a_aload_n dX10_plan_59 rfl rfl ?_
      refine b_getR hK_10 kc_0 (i := 3) rfl fl_10_35 rfl (rm_0_3 B) dX10_plan_60 ?_
      refine a_iload_n dX10_plan_63 rfl rfl ?_
      refine a_iload_n dX10_plan_64 rfl rfl ?_
      obtain ⟨q2, cq2, h⟩ := h_bindS h
      refine a_callV1 [.ref 13] yy_X5_firstPlan ml_10_171 kc_13 rfl (sPl_firstPlan _ (by omega) v2 v1 q1.2.1 q1.2.2 B q2 cq2) rfl rfl (Nat.le_of_ble_eq_true rfl) dX10_plan_65 ?_
      refine a_iload_n dX10_plan_68 rfl rfl ?_
      obtain ⟨q3, cq3, h⟩ := h_bindS h
      refine a_callV1 [] yy_X5_choiceOf ml_10_175 kc_13 rfl (sPl_choiceOf _ (by omega) q2 v3 q1.2.1 q1.2.2 B q3 cq3) rfl rfl (Nat.le_of_ble_eq_true rfl) dX10_plan_69 ?_
      cases h
      exact a_iret dX10_plan_72
    · replace h := h_iteT c h
      refine a_iconst dX10_plan_53 ic_m1 ?_
      cases h
      exact a_iret dX10_plan_54
  · replace h := h_iteF c h
    refine a_iconst dX10_plan_40 ic_m1 ?_
    cases h
    exact a_iret dX10_plan_41
def mC_plan  (v1 : Int32) (v2 : Int32) (v3 : Int32) (I : hI) (J : hJ) : Option (Int32 × hI × hJ) :=
  if (mC_isOutside v1 (I 7 5)) = 0 then
    (if (mC_isOutside v3 (I 7 5)) = 0 then
      mC_plan_34 v1 v2 v3 (0 : Int32) I J
    else
      mC_plan_34 v1 v2 v3 (1 : Int32) I J)
  else
    mC_plan_34 v1 v2 v3 (1 : Int32) I J
set_option maxHeartbeats 4000000 in
theorem sC_plan (d : Nat) (hd : 5 + 1 ≤ d) (v1 : Int32) (v2 : Int32) (v3 : Int32) (I : hI) (J : hJ) (B : Bool × Bool) (q : Int32 × hI × hJ) (h : mC_plan v1 v2 v3 I J = some q) : HMet hFT yX10_plan cX10_plan 4 (some .int) kdC d [.ref 0, .int v1, .int v2, .int v3] (I, J, RM B) (some (.int q.1)) (q.2.1, q.2.2, RM B) := by
  obtain ⟨d0, rfl, hd0⟩ := h_mono hd
  refine HMet.of (by decide) (Nat.le_of_ble_eq_true rfl) ?_
  show AW hFT cX10_plan 4 (some .int) RX10 kdC (d0 + 1) [(0, .ref 0), (1, .int v1), (2, .int v2), (3, .int v3)] 0 [] (I, J, RM B) (some (.int q.1)) (q.2.1, q.2.2, RM B)
  unfold mC_plan at h
  refine a_aload_n dX10_plan_0 rfl rfl ?_
  refine a_iload_n dX10_plan_1 rfl rfl ?_
  refine a_aload_n dX10_plan_2 rfl rfl ?_
  refine b_getR hK_10 kc_0 (i := 2) rfl fl_10_26 rfl (rm_0_2 B) dX10_plan_3 ?_
  refine b_getI hK_7 kc_7 (i := 5) rfl fl_10_106 rfl dX10_plan_6 ?_
  refine a_callS1 [.ref 0] yy_X10_isOutside ml_10_114 (sC_isOutside _ (by omega) v1 (I 7 5) I J B _ rfl) rfl rfl (Nat.le_of_ble_eq_true rfl) dX10_plan_9 ?_
  refine a_if_ne (tgt := 29) dX10_plan_12 (by decide) (fun c => ?_) (fun c => ?_)
  · replace h := h_iteF c h
    refine a_iconst dX10_plan_29 ic_1 ?_
    refine a_goto (tgt := 34) dX10_plan_30 (by decide) ?_
    exact sC_plan_34 (d0 + 1) (by omega) v1 v2 v3 (1 : Int32) I J B _ h
  · replace h := h_iteT c h
    refine a_iload_n dX10_plan_15 rfl rfl ?_
    refine a_aload_n dX10_plan_16 rfl rfl ?_
    refine b_getR hK_10 kc_0 (i := 2) rfl fl_10_26 rfl (rm_0_2 B) dX10_plan_17 ?_
    refine b_getI hK_7 kc_7 (i := 5) rfl fl_10_106 rfl dX10_plan_20 ?_
    refine a_callS1 [.ref 0] yy_X10_isOutside ml_10_114 (sC_isOutside _ (by omega) v3 (I 7 5) I J B _ rfl) rfl rfl (Nat.le_of_ble_eq_true rfl) dX10_plan_23 ?_
    refine a_if_eq (tgt := 33) dX10_plan_26 (by decide) (fun c => ?_) (fun c => ?_)
    · replace h := h_iteT c h
      refine a_iconst dX10_plan_33 ic_0 ?_
      exact sC_plan_34 (d0 + 1) (by omega) v1 v2 v3 (0 : Int32) I J B _ h
    · replace h := h_iteF c h
      refine a_iconst dX10_plan_29 ic_1 ?_
      refine a_goto (tgt := 34) dX10_plan_30 (by decide) ?_
      exact sC_plan_34 (d0 + 1) (by omega) v1 v2 v3 (1 : Int32) I J B _ h
/-! CoinLoops.within(IIZI)J -/
theorem dX10_within_0 : decode cX10_within 0 = .ok (.aload_n 0, 1) := by decide +kernel
theorem dX10_within_1 : decode cX10_within 1 = .ok (.aload_n 0, 1) := by decide +kernel
theorem dX10_within_2 : decode cX10_within 2 = .ok (.getfield 90, 3) := by decide +kernel
theorem dX10_within_5 : decode cX10_within 5 = .ok (.ifCond .ne 7, 3) := by decide +kernel
theorem dX10_within_8 : decode cX10_within 8 = .ok (.iconst 1, 1) := by decide +kernel
theorem dX10_within_9 : decode cX10_within 9 = .ok (.goto 4, 3) := by decide +kernel
theorem dX10_within_12 : decode cX10_within 12 = .ok (.iconst 0, 1) := by decide +kernel
theorem dX10_within_13 : decode cX10_within 13 = .ok (.iconst 0, 1) := by decide +kernel
theorem dX10_within_14 : decode cX10_within 14 = .ok (.invokevirtual 110, 3) := by decide +kernel
theorem dX10_within_17 : decode cX10_within 17 = .ok (.ifCond .ne 48, 3) := by decide +kernel
theorem dX10_within_20 : decode cX10_within 20 = .ok (.aload_n 0, 1) := by decide +kernel
theorem dX10_within_21 : decode cX10_within 21 = .ok (.iload_n 1, 1) := by decide +kernel
theorem dX10_within_22 : decode cX10_within 22 = .ok (.aload_n 0, 1) := by decide +kernel
theorem dX10_within_23 : decode cX10_within 23 = .ok (.getfield 26, 3) := by decide +kernel
theorem dX10_within_26 : decode cX10_within 26 = .ok (.getfield 106, 3) := by decide +kernel
theorem dX10_within_29 : decode cX10_within 29 = .ok (.invokestatic 114, 3) := by decide +kernel
theorem dX10_within_32 : decode cX10_within 32 = .ok (.ifCond .ne 21, 3) := by decide +kernel
theorem dX10_within_35 : decode cX10_within 35 = .ok (.iload_n 2, 1) := by decide +kernel
theorem dX10_within_36 : decode cX10_within 36 = .ok (.bipush 21, 2) := by decide +kernel
theorem dX10_within_38 : decode cX10_within 38 = .ok (.invokestatic 114, 3) := by decide +kernel
theorem dX10_within_41 : decode cX10_within 41 = .ok (.ifCond .ne 12, 3) := by decide +kernel
theorem dX10_within_44 : decode cX10_within 44 = .ok (.iload 4, 2) := by decide +kernel
theorem dX10_within_46 : decode cX10_within 46 = .ok (.iconst 2, 1) := by decide +kernel
theorem dX10_within_47 : decode cX10_within 47 = .ok (.invokestatic 114, 3) := by decide +kernel
theorem dX10_within_50 : decode cX10_within 50 = .ok (.ifCond .eq 7, 3) := by decide +kernel
theorem dX10_within_53 : decode cX10_within 53 = .ok (.iconst 1, 1) := by decide +kernel
theorem dX10_within_54 : decode cX10_within 54 = .ok (.goto 4, 3) := by decide +kernel
theorem dX10_within_57 : decode cX10_within 57 = .ok (.iconst 0, 1) := by decide +kernel
theorem dX10_within_58 : decode cX10_within 58 = .ok (.iconst 1, 1) := by decide +kernel
theorem dX10_within_59 : decode cX10_within 59 = .ok (.invokevirtual 110, 3) := by decide +kernel
theorem dX10_within_62 : decode cX10_within 62 = .ok (.ifCond .eq 7, 3) := by decide +kernel
theorem dX10_within_65 : decode cX10_within 65 = .ok (.ldc2_w 160, 3) := by decide +kernel
theorem dX10_within_68 : decode cX10_within 68 = .ok (.lreturn, 1) := by decide +kernel
theorem dX10_within_69 : decode cX10_within 69 = .ok (.aload_n 0, 1) := by decide +kernel
theorem dX10_within_70 : decode cX10_within 70 = .ok (.getfield 42, 3) := by decide +kernel
theorem dX10_within_73 : decode cX10_within 73 = .ok (.iload_n 3, 1) := by decide +kernel
theorem dX10_within_74 : decode cX10_within 74 = .ok (.iload 4, 2) := by decide +kernel
theorem dX10_within_76 : decode cX10_within 76 = .ok (.iload_n 2, 1) := by decide +kernel
theorem dX10_within_77 : decode cX10_within 77 = .ok (.iload_n 1, 1) := by decide +kernel
theorem dX10_within_78 : decode cX10_within 78 = .ok (.invokevirtual 178, 3) := by decide +kernel
theorem dX10_within_81 : decode cX10_within 81 = .ok (.lreturn, 1) := by decide +kernel
def mC_within_58  (v1 : Int32) (v2 : Int32) (v3 : Int32) (v4 : Int32) (vs1 : Int32) (I : hI) (J : hJ) : Option (Int64 × hI × hJ) :=
  (mC_refuse vs1 (1 : Int32) I).bind fun q1 =>
  if q1.1 = 0 then
    ((mHz_told v3 v4 v2 v1 q1.2 J).bind fun q2 =>
    some (q2.1, q2.2.1, q2.2.2))
  else
    some ((-1 : Int64), q1.2, J)
set_option maxHeartbeats 4000000 in
theorem sC_within_58 (d : Nat) (hd : 3 + 1 ≤ d) (v1 : Int32) (v2 : Int32) (v3 : Int32) (v4 : Int32) (vs1 : Int32) (I : hI) (J : hJ) (B : Bool × Bool) (q : Int64 × hI × hJ) (h : mC_within_58 v1 v2 v3 v4 vs1 I J = some q) : AW hFT cX10_within 5 (some .long) RX10 kdC d [(0, .ref 0), (1, .int v1), (2, .int v2), (3, .int v3), (4, .int v4)] 58 [.int vs1, .ref 0] (I, J, RM B) (some (.long q.1)) (q.2.1, q.2.2, RM B) := by
  obtain ⟨d0, rfl, hd0⟩ := h_mono hd
  unfold mC_within_58 at h
  refine a_iconst dX10_within_58 ic_1 ?_
  obtain ⟨q1, cq1, h⟩ := h_bindS h
  refine a_callV1 [] yy_X10_refuse ml_10_110 kc_0 rfl (sC_refuse _ (by omega) vs1 (1 : Int32) I J B q1 cq1) rfl rfl (Nat.le_of_ble_eq_true rfl) dX10_within_59 ?_
  refine a_if_eq (tgt := 69) dX10_within_62 (by decide) (fun c => ?_) (fun c => ?_)
  · replace h := h_iteT c h
    refine a_aload_n dX10_within_69 rfl rfl ?_
    refine b_getR hK_10 kc_0 (i := 4) rfl fl_10_42 rfl (rm_0_4 B) dX10_within_70 ?_
    refine a_iload_n dX10_within_73 rfl rfl ?_
    refine a_iload dX10_within_74 rfl ?_
    refine a_iload_n dX10_within_76 rfl rfl ?_
    refine a_iload_n dX10_within_77 rfl rfl ?_
    obtain ⟨q2, cq2, h⟩ := h_bindS h
    refine a_callV1 [] yy_X3_told ml_10_178 kc_31 rfl (sHz_told _ (by omega) v3 v4 v2 v1 q1.2 J B q2 cq2) rfl rfl (Nat.le_of_ble_eq_true rfl) dX10_within_78 ?_
    cases h
    exact a_lret dX10_within_81
  · replace h := h_iteF c h
    refine a_ldc2_w cn_10_160 dX10_within_65 ?_
    cases h
    exact a_lret dX10_within_68
def mC_within_13  (v1 : Int32) (v2 : Int32) (v3 : Int32) (v4 : Int32) (vs1 : Int32) (I : hI) (J : hJ) : Option (Int64 × hI × hJ) :=
  (mC_refuse vs1 (0 : Int32) I).bind fun q1 =>
  if q1.1 = 0 then
    (if (mC_isOutside v1 (q1.2 7 5)) = 0 then
      (if (mC_isOutside v2 (21 : Int32)) = 0 then
        (if (mC_isOutside v4 (2 : Int32)) = 0 then
          mC_within_58 v1 v2 v3 v4 (0 : Int32) q1.2 J
        else
          mC_within_58 v1 v2 v3 v4 (1 : Int32) q1.2 J)
      else
        mC_within_58 v1 v2 v3 v4 (1 : Int32) q1.2 J)
    else
      mC_within_58 v1 v2 v3 v4 (1 : Int32) q1.2 J)
  else
    some ((-1 : Int64), q1.2, J)
set_option maxHeartbeats 4000000 in
theorem sC_within_13 (d : Nat) (hd : 3 + 1 ≤ d) (v1 : Int32) (v2 : Int32) (v3 : Int32) (v4 : Int32) (vs1 : Int32) (I : hI) (J : hJ) (B : Bool × Bool) (q : Int64 × hI × hJ) (h : mC_within_13 v1 v2 v3 v4 vs1 I J = some q) : AW hFT cX10_within 5 (some .long) RX10 kdC d [(0, .ref 0), (1, .int v1), (2, .int v2), (3, .int v3), (4, .int v4)] 13 [.int vs1, .ref 0] (I, J, RM B) (some (.long q.1)) (q.2.1, q.2.2, RM B) := by
  obtain ⟨d0, rfl, hd0⟩ := h_mono hd
  unfold mC_within_13 at h
  refine a_iconst dX10_within_13 ic_0 ?_
  obtain ⟨q1, cq1, h⟩ := h_bindS h
  refine a_callV1 [] yy_X10_refuse ml_10_110 kc_0 rfl (sC_refuse _ (by omega) vs1 (0 : Int32) I J B q1 cq1) rfl rfl (Nat.le_of_ble_eq_true rfl) dX10_within_14 ?_
  refine a_if_ne (tgt := 65) dX10_within_17 (by decide) (fun c => ?_) (fun c => ?_)
  · replace h := h_iteF c h
    refine a_ldc2_w cn_10_160 dX10_within_65 ?_
    cases h
    exact a_lret dX10_within_68
  · replace h := h_iteT c h
    refine a_aload_n dX10_within_20 rfl rfl ?_
    refine a_iload_n dX10_within_21 rfl rfl ?_
    refine a_aload_n dX10_within_22 rfl rfl ?_
    refine b_getR hK_10 kc_0 (i := 2) rfl fl_10_26 rfl (rm_0_2 B) dX10_within_23 ?_
    refine b_getI hK_7 kc_7 (i := 5) rfl fl_10_106 rfl dX10_within_26 ?_
    refine a_callS1 [.ref 0] yy_X10_isOutside ml_10_114 (sC_isOutside _ (by omega) v1 (q1.2 7 5) q1.2 J B _ rfl) rfl rfl (Nat.le_of_ble_eq_true rfl) dX10_within_29 ?_
    refine a_if_ne (tgt := 53) dX10_within_32 (by decide) (fun c => ?_) (fun c => ?_)
    · replace h := h_iteF c h
      refine a_iconst dX10_within_53 ic_1 ?_
      refine a_goto (tgt := 58) dX10_within_54 (by decide) ?_
      exact sC_within_58 (d0 + 1) (by omega) v1 v2 v3 v4 (1 : Int32) q1.2 J B _ h
    · replace h := h_iteT c h
      refine a_iload_n dX10_within_35 rfl rfl ?_
      refine a_bipush dX10_within_36 bp_21 ?_
      refine a_callS1 [.ref 0] yy_X10_isOutside ml_10_114 (sC_isOutside _ (by omega) v2 (21 : Int32) q1.2 J B _ rfl) rfl rfl (Nat.le_of_ble_eq_true rfl) dX10_within_38 ?_
      refine a_if_ne (tgt := 53) dX10_within_41 (by decide) (fun c => ?_) (fun c => ?_)
      · replace h := h_iteF c h
        refine a_iconst dX10_within_53 ic_1 ?_
        refine a_goto (tgt := 58) dX10_within_54 (by decide) ?_
        exact sC_within_58 (d0 + 1) (by omega) v1 v2 v3 v4 (1 : Int32) q1.2 J B _ h
      · replace h := h_iteT c h
        refine a_iload dX10_within_44 rfl ?_
        refine a_iconst dX10_within_46 ic_2 ?_
        refine a_callS1 [.ref 0] yy_X10_isOutside ml_10_114 (sC_isOutside _ (by omega) v4 (2 : Int32) q1.2 J B _ rfl) rfl rfl (Nat.le_of_ble_eq_true rfl) dX10_within_47 ?_
        refine a_if_eq (tgt := 57) dX10_within_50 (by decide) (fun c => ?_) (fun c => ?_)
        · replace h := h_iteT c h
          refine a_iconst dX10_within_57 ic_0 ?_
          exact sC_within_58 (d0 + 1) (by omega) v1 v2 v3 v4 (0 : Int32) q1.2 J B _ h
        · replace h := h_iteF c h
          refine a_iconst dX10_within_53 ic_1 ?_
          refine a_goto (tgt := 58) dX10_within_54 (by decide) ?_
          exact sC_within_58 (d0 + 1) (by omega) v1 v2 v3 v4 (1 : Int32) q1.2 J B _ h
def mC_within  (v1 : Int32) (v2 : Int32) (v3 : Int32) (v4 : Int32) (I : hI) (J : hJ) : Option (Int64 × hI × hJ) :=
  if (I 0 11) = 0 then
    mC_within_13 v1 v2 v3 v4 (1 : Int32) I J
  else
    mC_within_13 v1 v2 v3 v4 (0 : Int32) I J
set_option maxHeartbeats 4000000 in
theorem sC_within (d : Nat) (hd : 3 + 1 ≤ d) (v1 : Int32) (v2 : Int32) (v3 : Int32) (v4 : Int32) (I : hI) (J : hJ) (B : Bool × Bool) (q : Int64 × hI × hJ) (h : mC_within v1 v2 v3 v4 I J = some q) : HMet hFT yX10_within cX10_within 5 (some .long) kdC d [.ref 0, .int v1, .int v2, .int v3, .int v4] (I, J, RM B) (some (.long q.1)) (q.2.1, q.2.2, RM B) := by
  obtain ⟨d0, rfl, hd0⟩ := h_mono hd
  refine HMet.of (by decide) (Nat.le_of_ble_eq_true rfl) ?_
  show AW hFT cX10_within 5 (some .long) RX10 kdC (d0 + 1) [(0, .ref 0), (1, .int v1), (2, .int v2), (3, .int v3), (4, .int v4)] 0 [] (I, J, RM B) (some (.long q.1)) (q.2.1, q.2.2, RM B)
  unfold mC_within at h
  refine a_aload_n dX10_within_0 rfl rfl ?_
  refine a_aload_n dX10_within_1 rfl rfl ?_
  refine b_getI hK_10 kc_0 (i := 11) rfl fl_10_90 rfl dX10_within_2 ?_
  refine a_if_ne (tgt := 12) dX10_within_5 (by decide) (fun c => ?_) (fun c => ?_)
  · replace h := h_iteF c h
    refine a_iconst dX10_within_12 ic_0 ?_
    exact sC_within_13 (d0 + 1) (by omega) v1 v2 v3 v4 (0 : Int32) I J B _ h
  · replace h := h_iteT c h
    refine a_iconst dX10_within_8 ic_1 ?_
    refine a_goto (tgt := 13) dX10_within_9 (by decide) ?_
    exact sC_within_13 (d0 + 1) (by omega) v1 v2 v3 v4 (1 : Int32) I J B _ h
/-! CoinLoops.half(I)I -/
theorem dX10_half_0 : decode cX10_half 0 = .ok (.aload_n 0, 1) := by decide +kernel
theorem dX10_half_1 : decode cX10_half 1 = .ok (.aload_n 0, 1) := by decide +kernel
theorem dX10_half_2 : decode cX10_half 2 = .ok (.getfield 90, 3) := by decide +kernel
theorem dX10_half_5 : decode cX10_half 5 = .ok (.ifCond .ne 7, 3) := by decide +kernel
theorem dX10_half_8 : decode cX10_half 8 = .ok (.iconst 1, 1) := by decide +kernel
theorem dX10_half_9 : decode cX10_half 9 = .ok (.goto 4, 3) := by decide +kernel
theorem dX10_half_12 : decode cX10_half 12 = .ok (.iconst 0, 1) := by decide +kernel
theorem dX10_half_13 : decode cX10_half 13 = .ok (.iconst 0, 1) := by decide +kernel
theorem dX10_half_14 : decode cX10_half 14 = .ok (.invokevirtual 110, 3) := by decide +kernel
theorem dX10_half_17 : decode cX10_half 17 = .ok (.ifCond .ne 22, 3) := by decide +kernel
theorem dX10_half_20 : decode cX10_half 20 = .ok (.aload_n 0, 1) := by decide +kernel
theorem dX10_half_21 : decode cX10_half 21 = .ok (.iload_n 1, 1) := by decide +kernel
theorem dX10_half_22 : decode cX10_half 22 = .ok (.aload_n 0, 1) := by decide +kernel
theorem dX10_half_23 : decode cX10_half 23 = .ok (.getfield 26, 3) := by decide +kernel
theorem dX10_half_26 : decode cX10_half 26 = .ok (.getfield 106, 3) := by decide +kernel
theorem dX10_half_29 : decode cX10_half 29 = .ok (.invokestatic 114, 3) := by decide +kernel
theorem dX10_half_32 : decode cX10_half 32 = .ok (.iconst 1, 1) := by decide +kernel
theorem dX10_half_33 : decode cX10_half 33 = .ok (.invokevirtual 110, 3) := by decide +kernel
theorem dX10_half_36 : decode cX10_half 36 = .ok (.ifCond .eq 5, 3) := by decide +kernel
theorem dX10_half_39 : decode cX10_half 39 = .ok (.iconst (-1), 1) := by decide +kernel
theorem dX10_half_40 : decode cX10_half 40 = .ok (.ireturn, 1) := by decide +kernel
theorem dX10_half_41 : decode cX10_half 41 = .ok (.iconst 0, 1) := by decide +kernel
theorem dX10_half_42 : decode cX10_half 42 = .ok (.istore_n 2, 1) := by decide +kernel
theorem dX10_half_43 : decode cX10_half 43 = .ok (.iload_n 2, 1) := by decide +kernel
theorem dX10_half_44 : decode cX10_half 44 = .ok (.bipush 20, 2) := by decide +kernel
theorem dX10_half_46 : decode cX10_half 46 = .ok (.if_icmp .gt 35, 3) := by decide +kernel
theorem dX10_half_49 : decode cX10_half 49 = .ok (.ldc2_w 181, 3) := by decide +kernel
theorem dX10_half_52 : decode cX10_half 52 = .ok (.aload_n 0, 1) := by decide +kernel
theorem dX10_half_53 : decode cX10_half 53 = .ok (.getfield 42, 3) := by decide +kernel
theorem dX10_half_56 : decode cX10_half 56 = .ok (.iconst 0, 1) := by decide +kernel
theorem dX10_half_57 : decode cX10_half 57 = .ok (.iconst 0, 1) := by decide +kernel
theorem dX10_half_58 : decode cX10_half 58 = .ok (.iload_n 2, 1) := by decide +kernel
theorem dX10_half_59 : decode cX10_half 59 = .ok (.iload_n 1, 1) := by decide +kernel
theorem dX10_half_60 : decode cX10_half 60 = .ok (.invokevirtual 178, 3) := by decide +kernel
theorem dX10_half_63 : decode cX10_half 63 = .ok (.lmul, 1) := by decide +kernel
theorem dX10_half_64 : decode cX10_half 64 = .ok (.lconst 1, 1) := by decide +kernel
theorem dX10_half_65 : decode cX10_half 65 = .ok (.iconst 2, 1) := by decide +kernel
theorem dX10_half_66 : decode cX10_half 66 = .ok (.iload_n 2, 1) := by decide +kernel
theorem dX10_half_67 : decode cX10_half 67 = .ok (.imul, 1) := by decide +kernel
theorem dX10_half_68 : decode cX10_half 68 = .ok (.lshl, 1) := by decide +kernel
theorem dX10_half_69 : decode cX10_half 69 = .ok (.lcmp, 1) := by decide +kernel
theorem dX10_half_70 : decode cX10_half 70 = .ok (.ifCond .lt 5, 3) := by decide +kernel
theorem dX10_half_73 : decode cX10_half 73 = .ok (.iload_n 2, 1) := by decide +kernel
theorem dX10_half_74 : decode cX10_half 74 = .ok (.ireturn, 1) := by decide +kernel
theorem dX10_half_75 : decode cX10_half 75 = .ok (.iinc 2 1, 3) := by decide +kernel
theorem dX10_half_78 : decode cX10_half 78 = .ok (.goto (-35), 3) := by decide +kernel
theorem dX10_half_81 : decode cX10_half 81 = .ok (.iconst (-1), 1) := by decide +kernel
theorem dX10_half_82 : decode cX10_half 82 = .ok (.ireturn, 1) := by decide +kernel
def mC_half_B43 (k43 : Int32 → Int32 → hI → hJ → Option (Int32 × hI × hJ)) (v1 : Int32) (v2 : Int32) (I : hI) (J : hJ) : Option (Int32 × hI × hJ) :=
  if (20 : Int32) < v2 then
    some ((-1 : Int32), I, J)
  else
    ((mHz_told (0 : Int32) (0 : Int32) v2 v1 I J).bind fun q1 =>
    if ((2 : Int64) * q1.1) < ((1 : Int64) <<< (((2 : Int32) * v2).toInt64 &&& 63)) then
      k43 v1 (v2 + (1 : Int32)) q1.2.1 q1.2.2
    else
      some (v2, q1.2.1, q1.2.2))
set_option maxHeartbeats 4000000 in
theorem sC_half_B43 (d : Nat) (hd : 3 + 1 ≤ d) (k43 : Int32 → Int32 → hI → hJ → Option (Int32 × hI × hJ)) (hk43 : ∀ (v1 : Int32) (v2 : Int32) (I : hI) (J : hJ) (B : Bool × Bool) (q : Int32 × hI × hJ), k43 v1 v2 I J = some q → AW hFT cX10_half 3 (some .int) RX10 kdC d [(0, .ref 0), (1, .int v1), (2, .int v2)] 43 [] (I, J, RM B) (some (.int q.1)) (q.2.1, q.2.2, RM B)) (v1 : Int32) (v2 : Int32) (I : hI) (J : hJ) (B : Bool × Bool) (q : Int32 × hI × hJ) (h : mC_half_B43 k43 v1 v2 I J = some q) : AW hFT cX10_half 3 (some .int) RX10 kdC d [(0, .ref 0), (1, .int v1), (2, .int v2)] 43 [] (I, J, RM B) (some (.int q.1)) (q.2.1, q.2.2, RM B) := by
  obtain ⟨d0, rfl, hd0⟩ := h_mono hd
  unfold mC_half_B43 at h
  refine a_iload_n dX10_half_43 rfl rfl ?_
  refine a_bipush dX10_half_44 bp_20 ?_
  refine a_icmp_gt (tgt := 81) dX10_half_46 (by decide) (fun c => ?_) (fun c => ?_)
  · replace h := h_iteT c h
    refine a_iconst dX10_half_81 ic_m1 ?_
    cases h
    exact a_iret dX10_half_82
  · replace h := h_iteF c h
    refine a_ldc2_w cn_10_181 dX10_half_49 ?_
    refine a_aload_n dX10_half_52 rfl rfl ?_
    refine b_getR hK_10 kc_0 (i := 4) rfl fl_10_42 rfl (rm_0_4 B) dX10_half_53 ?_
    refine a_iconst dX10_half_56 ic_0 ?_
    refine a_iconst dX10_half_57 ic_0 ?_
    refine a_iload_n dX10_half_58 rfl rfl ?_
    refine a_iload_n dX10_half_59 rfl rfl ?_
    obtain ⟨q1, cq1, h⟩ := h_bindS h
    refine a_callV1 [.long (2 : Int64)] yy_X3_told ml_10_178 kc_31 rfl (sHz_told _ (by omega) (0 : Int32) (0 : Int32) v2 v1 I J B q1 cq1) rfl rfl (Nat.le_of_ble_eq_true rfl) dX10_half_60 ?_
    refine a_lmul dX10_half_63 ?_
    refine a_lconst dX10_half_64 lc_1 ?_
    refine a_iconst dX10_half_65 ic_2 ?_
    refine a_iload_n dX10_half_66 rfl rfl ?_
    refine a_imul dX10_half_67 ?_
    refine a_lshl dX10_half_68 ?_
    refine a_lcmp_lt (tgt := 75) dX10_half_69 dX10_half_70 (by decide) (fun c => ?_) (fun c => ?_)
    · replace h := h_iteT c h
      refine b_iinc (lv' := [(2, .int (v2 + (1 : Int32))), (0, .ref 0), (1, .int v1)]) dX10_half_75 rfl ic_1 (by decide) rfl ?_
      refine a_goto (tgt := 43) dX10_half_78 (by decide) ?_
      refine a_sub (lv' := [(0, .ref 0), (1, .int v1), (2, .int (v2 + (1 : Int32)))]) [1, 2, 0] rfl ?_
      exact hk43 v1 (v2 + (1 : Int32)) q1.2.1 q1.2.2 B _ h
    · replace h := h_iteF c h
      refine a_iload_n dX10_half_73 rfl rfl ?_
      cases h
      exact a_iret dX10_half_74
def mC_half_L43  : Nat → Int32 → Int32 → hI → hJ → Option (Int32 × hI × hJ)
  | 0 => fun _ _ _ _ => none
  | n + 1 => mC_half_B43 (mC_half_L43 n)
theorem sC_half_L43 (d : Nat) (hd : 3 + 1 ≤ d) : ∀ (n : Nat) (v1 : Int32) (v2 : Int32) (I : hI) (J : hJ) (B : Bool × Bool) (q : Int32 × hI × hJ) (h : mC_half_L43 n v1 v2 I J = some q), AW hFT cX10_half 3 (some .int) RX10 kdC d [(0, .ref 0), (1, .int v1), (2, .int v2)] 43 [] (I, J, RM B) (some (.int q.1)) (q.2.1, q.2.2, RM B)
  | 0, _, _, _, _, _, q, h => by cases h
  | n + 1, v1, v2, I, J, B, q, h => sC_half_B43 d hd (mC_half_L43 n) (sC_half_L43 d hd n) v1 v2 I J B q h
def mC_half_13  (v1 : Int32) (vs1 : Int32) (I : hI) (J : hJ) : Option (Int32 × hI × hJ) :=
  (mC_refuse vs1 (0 : Int32) I).bind fun q1 =>
  if q1.1 = 0 then
    ((mC_refuse (mC_isOutside v1 (q1.2 7 5)) (1 : Int32) q1.2).bind fun q2 =>
    if q2.1 = 0 then
      mC_half_L43 hF v1 (0 : Int32) q2.2 J
    else
      some ((-1 : Int32), q2.2, J))
  else
    some ((-1 : Int32), q1.2, J)
set_option maxHeartbeats 4000000 in
theorem sC_half_13 (d : Nat) (hd : 3 + 1 ≤ d) (v1 : Int32) (vs1 : Int32) (I : hI) (J : hJ) (B : Bool × Bool) (q : Int32 × hI × hJ) (h : mC_half_13 v1 vs1 I J = some q) : AW hFT cX10_half 3 (some .int) RX10 kdC d [(0, .ref 0), (1, .int v1)] 13 [.int vs1, .ref 0] (I, J, RM B) (some (.int q.1)) (q.2.1, q.2.2, RM B) := by
  obtain ⟨d0, rfl, hd0⟩ := h_mono hd
  unfold mC_half_13 at h
  refine a_iconst dX10_half_13 ic_0 ?_
  obtain ⟨q1, cq1, h⟩ := h_bindS h
  refine a_callV1 [] yy_X10_refuse ml_10_110 kc_0 rfl (sC_refuse _ (by omega) vs1 (0 : Int32) I J B q1 cq1) rfl rfl (Nat.le_of_ble_eq_true rfl) dX10_half_14 ?_
  refine a_if_ne (tgt := 39) dX10_half_17 (by decide) (fun c => ?_) (fun c => ?_)
  · replace h := h_iteF c h
    refine a_iconst dX10_half_39 ic_m1 ?_
    cases h
    exact a_iret dX10_half_40
  · replace h := h_iteT c h
    refine a_aload_n dX10_half_20 rfl rfl ?_
    refine a_iload_n dX10_half_21 rfl rfl ?_
    refine a_aload_n dX10_half_22 rfl rfl ?_
    refine b_getR hK_10 kc_0 (i := 2) rfl fl_10_26 rfl (rm_0_2 B) dX10_half_23 ?_
    refine b_getI hK_7 kc_7 (i := 5) rfl fl_10_106 rfl dX10_half_26 ?_
    refine a_callS1 [.ref 0] yy_X10_isOutside ml_10_114 (sC_isOutside _ (by omega) v1 (q1.2 7 5) q1.2 J B _ rfl) rfl rfl (Nat.le_of_ble_eq_true rfl) dX10_half_29 ?_
    refine a_iconst dX10_half_32 ic_1 ?_
    obtain ⟨q2, cq2, h⟩ := h_bindS h
    refine a_callV1 [] yy_X10_refuse ml_10_110 kc_0 rfl (sC_refuse _ (by omega) (mC_isOutside v1 (q1.2 7 5)) (1 : Int32) q1.2 J B q2 cq2) rfl rfl (Nat.le_of_ble_eq_true rfl) dX10_half_33 ?_
    refine a_if_eq (tgt := 41) dX10_half_36 (by decide) (fun c => ?_) (fun c => ?_)
    · replace h := h_iteT c h
      refine a_iconst dX10_half_41 ic_0 ?_
      refine a_istore_n (lv' := [(2, .int (0 : Int32)), (0, .ref 0), (1, .int v1)]) dX10_half_42 rfl (by decide) rfl ?_
      refine a_sub (lv' := [(0, .ref 0), (1, .int v1), (2, .int (0 : Int32))]) [1, 2, 0] rfl ?_
      exact sC_half_L43 (d0 + 1) (by omega) hF v1 (0 : Int32) q2.2 J B _ h
    · replace h := h_iteF c h
      refine a_iconst dX10_half_39 ic_m1 ?_
      cases h
      exact a_iret dX10_half_40
def mC_half  (v1 : Int32) (I : hI) (J : hJ) : Option (Int32 × hI × hJ) :=
  if (I 0 11) = 0 then
    mC_half_13 v1 (1 : Int32) I J
  else
    mC_half_13 v1 (0 : Int32) I J
set_option maxHeartbeats 4000000 in
theorem sC_half (d : Nat) (hd : 3 + 1 ≤ d) (v1 : Int32) (I : hI) (J : hJ) (B : Bool × Bool) (q : Int32 × hI × hJ) (h : mC_half v1 I J = some q) : HMet hFT yX10_half cX10_half 3 (some .int) kdC d [.ref 0, .int v1] (I, J, RM B) (some (.int q.1)) (q.2.1, q.2.2, RM B) := by
  obtain ⟨d0, rfl, hd0⟩ := h_mono hd
  refine HMet.of (by decide) (Nat.le_of_ble_eq_true rfl) ?_
  show AW hFT cX10_half 3 (some .int) RX10 kdC (d0 + 1) [(0, .ref 0), (1, .int v1)] 0 [] (I, J, RM B) (some (.int q.1)) (q.2.1, q.2.2, RM B)
  unfold mC_half at h
  refine a_aload_n dX10_half_0 rfl rfl ?_
  refine a_aload_n dX10_half_1 rfl rfl ?_
  refine b_getI hK_10 kc_0 (i := 11) rfl fl_10_90 rfl dX10_half_2 ?_
  refine a_if_ne (tgt := 12) dX10_half_5 (by decide) (fun c => ?_) (fun c => ?_)
  · replace h := h_iteF c h
    refine a_iconst dX10_half_12 ic_0 ?_
    exact sC_half_13 (d0 + 1) (by omega) v1 (0 : Int32) I J B _ h
  · replace h := h_iteT c h
    refine a_iconst dX10_half_8 ic_1 ?_
    refine a_goto (tgt := 13) dX10_half_9 (by decide) ?_
    exact sC_half_13 (d0 + 1) (by omega) v1 (1 : Int32) I J B _ h
/-! CoinLoops.guessTimesWhole(I)J -/
theorem dX10_guessTimesWhole_0 : decode cX10_guessTimesWhole 0 = .ok (.aload_n 0, 1) := by decide +kernel
theorem dX10_guessTimesWhole_1 : decode cX10_guessTimesWhole 1 = .ok (.getfield 26, 3) := by decide +kernel
theorem dX10_guessTimesWhole_4 : decode cX10_guessTimesWhole 4 = .ok (.iload_n 1, 1) := by decide +kernel
theorem dX10_guessTimesWhole_5 : decode cX10_guessTimesWhole 5 = .ok (.invokevirtual 168, 3) := by decide +kernel
theorem dX10_guessTimesWhole_8 : decode cX10_guessTimesWhole 8 = .ok (.ifCond .ne 5, 3) := by decide +kernel
theorem dX10_guessTimesWhole_11 : decode cX10_guessTimesWhole 11 = .ok (.lconst 0, 1) := by decide +kernel
theorem dX10_guessTimesWhole_12 : decode cX10_guessTimesWhole 12 = .ok (.lreturn, 1) := by decide +kernel
theorem dX10_guessTimesWhole_13 : decode cX10_guessTimesWhole 13 = .ok (.aload_n 0, 1) := by decide +kernel
theorem dX10_guessTimesWhole_14 : decode cX10_guessTimesWhole 14 = .ok (.getfield 70, 3) := by decide +kernel
theorem dX10_guessTimesWhole_17 : decode cX10_guessTimesWhole 17 = .ok (.aload_n 0, 1) := by decide +kernel
theorem dX10_guessTimesWhole_18 : decode cX10_guessTimesWhole 18 = .ok (.getfield 26, 3) := by decide +kernel
theorem dX10_guessTimesWhole_21 : decode cX10_guessTimesWhole 21 = .ok (.iload_n 1, 1) := by decide +kernel
theorem dX10_guessTimesWhole_22 : decode cX10_guessTimesWhole 22 = .ok (.invokevirtual 213, 3) := by decide +kernel
theorem dX10_guessTimesWhole_25 : decode cX10_guessTimesWhole 25 = .ok (.aload_n 0, 1) := by decide +kernel
theorem dX10_guessTimesWhole_26 : decode cX10_guessTimesWhole 26 = .ok (.getfield 26, 3) := by decide +kernel
theorem dX10_guessTimesWhole_29 : decode cX10_guessTimesWhole 29 = .ok (.iload_n 1, 1) := by decide +kernel
theorem dX10_guessTimesWhole_30 : decode cX10_guessTimesWhole 30 = .ok (.invokevirtual 217, 3) := by decide +kernel
theorem dX10_guessTimesWhole_33 : decode cX10_guessTimesWhole 33 = .ok (.invokevirtual 293, 3) := by decide +kernel
theorem dX10_guessTimesWhole_36 : decode cX10_guessTimesWhole 36 = .ok (.lreturn, 1) := by decide +kernel
def mC_guessTimesWhole  (v1 : Int32) (I : hI) (B : Bool × Bool) : Option (Int64) :=
  if (mRo_isIn v1 I) = 0 then
    some (0 : Int64)
  else
    ((mRo_xOf v1 I).bind fun q1 =>
    (mRo_yOf v1 I).bind fun q2 =>
    (mGt_timesWhole (h_td B) q1 q2 I).bind fun q3 =>
    some q3)
set_option maxHeartbeats 4000000 in
theorem sC_guessTimesWhole (d : Nat) (hd : 2 + 1 ≤ d) (v1 : Int32) (I : hI) (J : hJ) (B : Bool × Bool) (q : Int64) (h : mC_guessTimesWhole v1 I B = some q) : HMet hFT yX10_guessTimesWhole cX10_guessTimesWhole 2 (some .long) kdC d [.ref 0, .int v1] (I, J, RM B) (some (.long q)) (I, J, RM B) := by
  obtain ⟨d0, rfl, hd0⟩ := h_mono hd
  refine HMet.of (by decide) (Nat.le_of_ble_eq_true rfl) ?_
  show AW hFT cX10_guessTimesWhole 2 (some .long) RX10 kdC (d0 + 1) [(0, .ref 0), (1, .int v1)] 0 [] (I, J, RM B) (some (.long q)) (I, J, RM B)
  unfold mC_guessTimesWhole at h
  refine a_aload_n dX10_guessTimesWhole_0 rfl rfl ?_
  refine b_getR hK_10 kc_0 (i := 2) rfl fl_10_26 rfl (rm_0_2 B) dX10_guessTimesWhole_1 ?_
  refine a_iload_n dX10_guessTimesWhole_4 rfl rfl ?_
  refine a_callV1 [] yy_X7_isIn ml_10_168 kc_7 rfl (sRo_isIn _ (by omega) v1 I J B _ rfl) rfl rfl (Nat.le_of_ble_eq_true rfl) dX10_guessTimesWhole_5 ?_
  refine a_if_ne (tgt := 13) dX10_guessTimesWhole_8 (by decide) (fun c => ?_) (fun c => ?_)
  · replace h := h_iteF c h
    refine a_aload_n dX10_guessTimesWhole_13 rfl rfl ?_
    refine b_getR hK_10 kc_0 (i := 9) rfl fl_10_70 rfl (rm_0_9 B) dX10_guessTimesWhole_14 ?_
    refine a_aload_n dX10_guessTimesWhole_17 rfl rfl ?_
    refine b_getR hK_10 kc_0 (i := 2) rfl fl_10_26 rfl (rm_0_2 B) dX10_guessTimesWhole_18 ?_
    refine a_iload_n dX10_guessTimesWhole_21 rfl rfl ?_
    obtain ⟨q1, cq1, h⟩ := h_bindS h
    refine a_callV1 [.ref (h_td B)] yy_X7_xOf ml_10_213 kc_7 rfl (sRo_xOf _ (by omega) v1 I J B q1 cq1) rfl rfl (Nat.le_of_ble_eq_true rfl) dX10_guessTimesWhole_22 ?_
    refine a_aload_n dX10_guessTimesWhole_25 rfl rfl ?_
    refine b_getR hK_10 kc_0 (i := 2) rfl fl_10_26 rfl (rm_0_2 B) dX10_guessTimesWhole_26 ?_
    refine a_iload_n dX10_guessTimesWhole_29 rfl rfl ?_
    obtain ⟨q2, cq2, h⟩ := h_bindS h
    refine a_callV1 [.int q1, .ref (h_td B)] yy_X7_yOf ml_10_217 kc_7 rfl (sRo_yOf _ (by omega) v1 I J B q2 cq2) rfl rfl (Nat.le_of_ble_eq_true rfl) dX10_guessTimesWhole_30 ?_
    obtain ⟨q3, cq3, h⟩ := h_bindS h
    refine a_callV1 [] yy_X2_timesWhole ml_10_293 (k_GT (gt_td B)) rfl (sGt_timesWhole _ (by omega) (h_td B) (gt_td B) q1 q2 I J B q3 cq3) rfl rfl (Nat.le_of_ble_eq_true rfl) dX10_guessTimesWhole_33 ?_
    cases h
    exact a_lret dX10_guessTimesWhole_36
  · replace h := h_iteT c h
    refine a_lconst dX10_guessTimesWhole_11 lc_0 ?_
    cases h
    exact a_lret dX10_guessTimesWhole_12
/-! CoinLoops.guessed(II)J -/
theorem dX10_guessed_0 : decode cX10_guessed 0 = .ok (.aload_n 0, 1) := by decide +kernel
theorem dX10_guessed_1 : decode cX10_guessed 1 = .ok (.aload_n 0, 1) := by decide +kernel
theorem dX10_guessed_2 : decode cX10_guessed 2 = .ok (.getfield 90, 3) := by decide +kernel
theorem dX10_guessed_5 : decode cX10_guessed 5 = .ok (.ifCond .eq 10, 3) := by decide +kernel
theorem dX10_guessed_8 : decode cX10_guessed 8 = .ok (.aload_n 0, 1) := by decide +kernel
theorem dX10_guessed_9 : decode cX10_guessed 9 = .ok (.getfield 94, 3) := by decide +kernel
theorem dX10_guessed_12 : decode cX10_guessed 12 = .ok (.ifCond .ne 7, 3) := by decide +kernel
theorem dX10_guessed_15 : decode cX10_guessed 15 = .ok (.iconst 1, 1) := by decide +kernel
theorem dX10_guessed_16 : decode cX10_guessed 16 = .ok (.goto 4, 3) := by decide +kernel
theorem dX10_guessed_19 : decode cX10_guessed 19 = .ok (.iconst 0, 1) := by decide +kernel
theorem dX10_guessed_20 : decode cX10_guessed 20 = .ok (.iconst 0, 1) := by decide +kernel
theorem dX10_guessed_21 : decode cX10_guessed 21 = .ok (.invokevirtual 110, 3) := by decide +kernel
theorem dX10_guessed_24 : decode cX10_guessed 24 = .ok (.ifCond .ne 38, 3) := by decide +kernel
theorem dX10_guessed_27 : decode cX10_guessed 27 = .ok (.aload_n 0, 1) := by decide +kernel
theorem dX10_guessed_28 : decode cX10_guessed 28 = .ok (.iload_n 1, 1) := by decide +kernel
theorem dX10_guessed_29 : decode cX10_guessed 29 = .ok (.aload_n 0, 1) := by decide +kernel
theorem dX10_guessed_30 : decode cX10_guessed 30 = .ok (.getfield 26, 3) := by decide +kernel
theorem dX10_guessed_33 : decode cX10_guessed 33 = .ok (.getfield 106, 3) := by decide +kernel
theorem dX10_guessed_36 : decode cX10_guessed 36 = .ok (.invokestatic 114, 3) := by decide +kernel
theorem dX10_guessed_39 : decode cX10_guessed 39 = .ok (.ifCond .ne 11, 3) := by decide +kernel
theorem dX10_guessed_42 : decode cX10_guessed 42 = .ok (.iload_n 2, 1) := by decide +kernel
theorem dX10_guessed_43 : decode cX10_guessed 43 = .ok (.iconst 2, 1) := by decide +kernel
theorem dX10_guessed_44 : decode cX10_guessed 44 = .ok (.invokestatic 114, 3) := by decide +kernel
theorem dX10_guessed_47 : decode cX10_guessed 47 = .ok (.ifCond .eq 7, 3) := by decide +kernel
theorem dX10_guessed_50 : decode cX10_guessed 50 = .ok (.iconst 1, 1) := by decide +kernel
theorem dX10_guessed_51 : decode cX10_guessed 51 = .ok (.goto 4, 3) := by decide +kernel
theorem dX10_guessed_54 : decode cX10_guessed 54 = .ok (.iconst 0, 1) := by decide +kernel
theorem dX10_guessed_55 : decode cX10_guessed 55 = .ok (.iconst 1, 1) := by decide +kernel
theorem dX10_guessed_56 : decode cX10_guessed 56 = .ok (.invokevirtual 110, 3) := by decide +kernel
theorem dX10_guessed_59 : decode cX10_guessed 59 = .ok (.ifCond .eq 7, 3) := by decide +kernel
theorem dX10_guessed_62 : decode cX10_guessed 62 = .ok (.ldc2_w 183, 3) := by decide +kernel
theorem dX10_guessed_65 : decode cX10_guessed 65 = .ok (.lreturn, 1) := by decide +kernel
theorem dX10_guessed_66 : decode cX10_guessed 66 = .ok (.aload_n 0, 1) := by decide +kernel
theorem dX10_guessed_67 : decode cX10_guessed 67 = .ok (.iload_n 1, 1) := by decide +kernel
theorem dX10_guessed_68 : decode cX10_guessed 68 = .ok (.invokevirtual 185, 3) := by decide +kernel
theorem dX10_guessed_71 : decode cX10_guessed 71 = .ok (.ldc2_w 189, 3) := by decide +kernel
theorem dX10_guessed_74 : decode cX10_guessed 74 = .ok (.iload_n 2, 1) := by decide +kernel
theorem dX10_guessed_75 : decode cX10_guessed 75 = .ok (.invokestatic 191, 3) := by decide +kernel
theorem dX10_guessed_78 : decode cX10_guessed 78 = .ok (.lreturn, 1) := by decide +kernel
def mC_guessed_55  (v1 : Int32) (v2 : Int32) (vs1 : Int32) (I : hI) (B : Bool × Bool) : Option (Int64 × hI) :=
  (mC_refuse vs1 (1 : Int32) I).bind fun q1 =>
  if q1.1 = 0 then
    ((mC_guessTimesWhole v1 q1.2 B).bind fun q2 =>
    (mC_lowest q2 (27720 : Int64) v2).bind fun q3 =>
    some (q3, q1.2))
  else
    some ((-1000001 : Int64), q1.2)
set_option maxHeartbeats 4000000 in
theorem sC_guessed_55 (d : Nat) (hd : 3 + 1 ≤ d) (v1 : Int32) (v2 : Int32) (vs1 : Int32) (I : hI) (J : hJ) (B : Bool × Bool) (q : Int64 × hI) (h : mC_guessed_55 v1 v2 vs1 I B = some q) : AW hFT cX10_guessed 3 (some .long) RX10 kdC d [(0, .ref 0), (1, .int v1), (2, .int v2)] 55 [.int vs1, .ref 0] (I, J, RM B) (some (.long q.1)) (q.2, J, RM B) := by
  obtain ⟨d0, rfl, hd0⟩ := h_mono hd
  unfold mC_guessed_55 at h
  refine a_iconst dX10_guessed_55 ic_1 ?_
  obtain ⟨q1, cq1, h⟩ := h_bindS h
  refine a_callV1 [] yy_X10_refuse ml_10_110 kc_0 rfl (sC_refuse _ (by omega) vs1 (1 : Int32) I J B q1 cq1) rfl rfl (Nat.le_of_ble_eq_true rfl) dX10_guessed_56 ?_
  refine a_if_eq (tgt := 66) dX10_guessed_59 (by decide) (fun c => ?_) (fun c => ?_)
  · replace h := h_iteT c h
    refine a_aload_n dX10_guessed_66 rfl rfl ?_
    refine a_iload_n dX10_guessed_67 rfl rfl ?_
    obtain ⟨q2, cq2, h⟩ := h_bindS h
    refine a_callV1 [] yy_X10_guessTimesWhole ml_10_185 kc_0 rfl (sC_guessTimesWhole _ (by omega) v1 q1.2 J B q2 cq2) rfl rfl (Nat.le_of_ble_eq_true rfl) dX10_guessed_68 ?_
    refine a_ldc2_w cn_10_189 dX10_guessed_71 ?_
    refine a_iload_n dX10_guessed_74 rfl rfl ?_
    obtain ⟨q3, cq3, h⟩ := h_bindS h
    refine a_callS1 [] yy_X10_lowest ml_10_191 (sC_lowest _ (by omega) q2 (27720 : Int64) v2 q1.2 J B q3 cq3) rfl rfl (Nat.le_of_ble_eq_true rfl) dX10_guessed_75 ?_
    cases h
    exact a_lret dX10_guessed_78
  · replace h := h_iteF c h
    refine a_ldc2_w cn_10_183 dX10_guessed_62 ?_
    cases h
    exact a_lret dX10_guessed_65
def mC_guessed_20  (v1 : Int32) (v2 : Int32) (vs1 : Int32) (I : hI) (B : Bool × Bool) : Option (Int64 × hI) :=
  (mC_refuse vs1 (0 : Int32) I).bind fun q1 =>
  if q1.1 = 0 then
    (if (mC_isOutside v1 (q1.2 7 5)) = 0 then
      (if (mC_isOutside v2 (2 : Int32)) = 0 then
        mC_guessed_55 v1 v2 (0 : Int32) q1.2 B
      else
        mC_guessed_55 v1 v2 (1 : Int32) q1.2 B)
    else
      mC_guessed_55 v1 v2 (1 : Int32) q1.2 B)
  else
    some ((-1000001 : Int64), q1.2)
set_option maxHeartbeats 4000000 in
theorem sC_guessed_20 (d : Nat) (hd : 3 + 1 ≤ d) (v1 : Int32) (v2 : Int32) (vs1 : Int32) (I : hI) (J : hJ) (B : Bool × Bool) (q : Int64 × hI) (h : mC_guessed_20 v1 v2 vs1 I B = some q) : AW hFT cX10_guessed 3 (some .long) RX10 kdC d [(0, .ref 0), (1, .int v1), (2, .int v2)] 20 [.int vs1, .ref 0] (I, J, RM B) (some (.long q.1)) (q.2, J, RM B) := by
  obtain ⟨d0, rfl, hd0⟩ := h_mono hd
  unfold mC_guessed_20 at h
  refine a_iconst dX10_guessed_20 ic_0 ?_
  obtain ⟨q1, cq1, h⟩ := h_bindS h
  refine a_callV1 [] yy_X10_refuse ml_10_110 kc_0 rfl (sC_refuse _ (by omega) vs1 (0 : Int32) I J B q1 cq1) rfl rfl (Nat.le_of_ble_eq_true rfl) dX10_guessed_21 ?_
  refine a_if_ne (tgt := 62) dX10_guessed_24 (by decide) (fun c => ?_) (fun c => ?_)
  · replace h := h_iteF c h
    refine a_ldc2_w cn_10_183 dX10_guessed_62 ?_
    cases h
    exact a_lret dX10_guessed_65
  · replace h := h_iteT c h
    refine a_aload_n dX10_guessed_27 rfl rfl ?_
    refine a_iload_n dX10_guessed_28 rfl rfl ?_
    refine a_aload_n dX10_guessed_29 rfl rfl ?_
    refine b_getR hK_10 kc_0 (i := 2) rfl fl_10_26 rfl (rm_0_2 B) dX10_guessed_30 ?_
    refine b_getI hK_7 kc_7 (i := 5) rfl fl_10_106 rfl dX10_guessed_33 ?_
    refine a_callS1 [.ref 0] yy_X10_isOutside ml_10_114 (sC_isOutside _ (by omega) v1 (q1.2 7 5) q1.2 J B _ rfl) rfl rfl (Nat.le_of_ble_eq_true rfl) dX10_guessed_36 ?_
    refine a_if_ne (tgt := 50) dX10_guessed_39 (by decide) (fun c => ?_) (fun c => ?_)
    · replace h := h_iteF c h
      refine a_iconst dX10_guessed_50 ic_1 ?_
      refine a_goto (tgt := 55) dX10_guessed_51 (by decide) ?_
      exact sC_guessed_55 (d0 + 1) (by omega) v1 v2 (1 : Int32) q1.2 J B _ h
    · replace h := h_iteT c h
      refine a_iload_n dX10_guessed_42 rfl rfl ?_
      refine a_iconst dX10_guessed_43 ic_2 ?_
      refine a_callS1 [.ref 0] yy_X10_isOutside ml_10_114 (sC_isOutside _ (by omega) v2 (2 : Int32) q1.2 J B _ rfl) rfl rfl (Nat.le_of_ble_eq_true rfl) dX10_guessed_44 ?_
      refine a_if_eq (tgt := 54) dX10_guessed_47 (by decide) (fun c => ?_) (fun c => ?_)
      · replace h := h_iteT c h
        refine a_iconst dX10_guessed_54 ic_0 ?_
        exact sC_guessed_55 (d0 + 1) (by omega) v1 v2 (0 : Int32) q1.2 J B _ h
      · replace h := h_iteF c h
        refine a_iconst dX10_guessed_50 ic_1 ?_
        refine a_goto (tgt := 55) dX10_guessed_51 (by decide) ?_
        exact sC_guessed_55 (d0 + 1) (by omega) v1 v2 (1 : Int32) q1.2 J B _ h
def mC_guessed  (v1 : Int32) (v2 : Int32) (I : hI) (B : Bool × Bool) : Option (Int64 × hI) :=
  if (I 0 11) = 0 then
    mC_guessed_20 v1 v2 (1 : Int32) I B
  else
    (if (I 0 12) = 0 then
      mC_guessed_20 v1 v2 (1 : Int32) I B
    else
      mC_guessed_20 v1 v2 (0 : Int32) I B)
set_option maxHeartbeats 4000000 in
theorem sC_guessed (d : Nat) (hd : 3 + 1 ≤ d) (v1 : Int32) (v2 : Int32) (I : hI) (J : hJ) (B : Bool × Bool) (q : Int64 × hI) (h : mC_guessed v1 v2 I B = some q) : HMet hFT yX10_guessed cX10_guessed 3 (some .long) kdC d [.ref 0, .int v1, .int v2] (I, J, RM B) (some (.long q.1)) (q.2, J, RM B) := by
  obtain ⟨d0, rfl, hd0⟩ := h_mono hd
  refine HMet.of (by decide) (Nat.le_of_ble_eq_true rfl) ?_
  show AW hFT cX10_guessed 3 (some .long) RX10 kdC (d0 + 1) [(0, .ref 0), (1, .int v1), (2, .int v2)] 0 [] (I, J, RM B) (some (.long q.1)) (q.2, J, RM B)
  unfold mC_guessed at h
  refine a_aload_n dX10_guessed_0 rfl rfl ?_
  refine a_aload_n dX10_guessed_1 rfl rfl ?_
  refine b_getI hK_10 kc_0 (i := 11) rfl fl_10_90 rfl dX10_guessed_2 ?_
  refine a_if_eq (tgt := 15) dX10_guessed_5 (by decide) (fun c => ?_) (fun c => ?_)
  · replace h := h_iteT c h
    refine a_iconst dX10_guessed_15 ic_1 ?_
    refine a_goto (tgt := 20) dX10_guessed_16 (by decide) ?_
    exact sC_guessed_20 (d0 + 1) (by omega) v1 v2 (1 : Int32) I J B _ h
  · replace h := h_iteF c h
    refine a_aload_n dX10_guessed_8 rfl rfl ?_
    refine b_getI hK_10 kc_0 (i := 12) rfl fl_10_94 rfl dX10_guessed_9 ?_
    refine a_if_ne (tgt := 19) dX10_guessed_12 (by decide) (fun c => ?_) (fun c => ?_)
    · replace h := h_iteF c h
      refine a_iconst dX10_guessed_19 ic_0 ?_
      exact sC_guessed_20 (d0 + 1) (by omega) v1 v2 (0 : Int32) I J B _ h
    · replace h := h_iteT c h
      refine a_iconst dX10_guessed_15 ic_1 ?_
      refine a_goto (tgt := 20) dX10_guessed_16 (by decide) ?_
      exact sC_guessed_20 (d0 + 1) (by omega) v1 v2 (1 : Int32) I J B _ h
/-! CoinLoops.aheadTimesWhole(IIZ)J -/
theorem dX10_aheadTimesWhole_0 : decode cX10_aheadTimesWhole 0 = .ok (.iload_n 1, 1) := by decide +kernel
theorem dX10_aheadTimesWhole_1 : decode cX10_aheadTimesWhole 1 = .ok (.bipush 8, 2) := by decide +kernel
theorem dX10_aheadTimesWhole_3 : decode cX10_aheadTimesWhole 3 = .ok (.imul, 1) := by decide +kernel
theorem dX10_aheadTimesWhole_4 : decode cX10_aheadTimesWhole 4 = .ok (.iload_n 2, 1) := by decide +kernel
theorem dX10_aheadTimesWhole_5 : decode cX10_aheadTimesWhole 5 = .ok (.iadd, 1) := by decide +kernel
theorem dX10_aheadTimesWhole_6 : decode cX10_aheadTimesWhole 6 = .ok (.istore 4, 2) := by decide +kernel
theorem dX10_aheadTimesWhole_8 : decode cX10_aheadTimesWhole 8 = .ok (.iload 4, 2) := by decide +kernel
theorem dX10_aheadTimesWhole_10 : decode cX10_aheadTimesWhole 10 = .ok (.ifCond .lt 10, 3) := by decide +kernel
theorem dX10_aheadTimesWhole_13 : decode cX10_aheadTimesWhole 13 = .ok (.iload 4, 2) := by decide +kernel
theorem dX10_aheadTimesWhole_15 : decode cX10_aheadTimesWhole 15 = .ok (.bipush 80, 2) := by decide +kernel
theorem dX10_aheadTimesWhole_17 : decode cX10_aheadTimesWhole 17 = .ok (.if_icmp .lt 5, 3) := by decide +kernel
theorem dX10_aheadTimesWhole_20 : decode cX10_aheadTimesWhole 20 = .ok (.lconst 0, 1) := by decide +kernel
theorem dX10_aheadTimesWhole_21 : decode cX10_aheadTimesWhole 21 = .ok (.lreturn, 1) := by decide +kernel
theorem dX10_aheadTimesWhole_22 : decode cX10_aheadTimesWhole 22 = .ok (.iload_n 3, 1) := by decide +kernel
theorem dX10_aheadTimesWhole_23 : decode cX10_aheadTimesWhole 23 = .ok (.ifCond .eq 21, 3) := by decide +kernel
theorem dX10_aheadTimesWhole_26 : decode cX10_aheadTimesWhole 26 = .ok (.aload_n 0, 1) := by decide +kernel
theorem dX10_aheadTimesWhole_27 : decode cX10_aheadTimesWhole 27 = .ok (.getfield 26, 3) := by decide +kernel
theorem dX10_aheadTimesWhole_30 : decode cX10_aheadTimesWhole 30 = .ok (.getfield 146, 3) := by decide +kernel
theorem dX10_aheadTimesWhole_33 : decode cX10_aheadTimesWhole 33 = .ok (.iload 4, 2) := by decide +kernel
theorem dX10_aheadTimesWhole_35 : decode cX10_aheadTimesWhole 35 = .ok (.iaload, 1) := by decide +kernel
theorem dX10_aheadTimesWhole_36 : decode cX10_aheadTimesWhole 36 = .ok (.i2l, 1) := by decide +kernel
theorem dX10_aheadTimesWhole_37 : decode cX10_aheadTimesWhole 37 = .ok (.ldc2_w 189, 3) := by decide +kernel
theorem dX10_aheadTimesWhole_40 : decode cX10_aheadTimesWhole 40 = .ok (.lmul, 1) := by decide +kernel
theorem dX10_aheadTimesWhole_41 : decode cX10_aheadTimesWhole 41 = .ok (.goto 4, 3) := by decide +kernel
theorem dX10_aheadTimesWhole_44 : decode cX10_aheadTimesWhole 44 = .ok (.lconst 0, 1) := by decide +kernel
theorem dX10_aheadTimesWhole_45 : decode cX10_aheadTimesWhole 45 = .ok (.lstore 5, 2) := by decide +kernel
theorem dX10_aheadTimesWhole_47 : decode cX10_aheadTimesWhole 47 = .ok (.iconst 0, 1) := by decide +kernel
theorem dX10_aheadTimesWhole_48 : decode cX10_aheadTimesWhole 48 = .ok (.istore 7, 2) := by decide +kernel
theorem dX10_aheadTimesWhole_50 : decode cX10_aheadTimesWhole 50 = .ok (.iload 7, 2) := by decide +kernel
theorem dX10_aheadTimesWhole_52 : decode cX10_aheadTimesWhole 52 = .ok (.aload_n 0, 1) := by decide +kernel
theorem dX10_aheadTimesWhole_53 : decode cX10_aheadTimesWhole 53 = .ok (.getfield 26, 3) := by decide +kernel
theorem dX10_aheadTimesWhole_56 : decode cX10_aheadTimesWhole 56 = .ok (.getfield 106, 3) := by decide +kernel
theorem dX10_aheadTimesWhole_59 : decode cX10_aheadTimesWhole 59 = .ok (.if_icmp .ge 42, 3) := by decide +kernel
theorem dX10_aheadTimesWhole_62 : decode cX10_aheadTimesWhole 62 = .ok (.aload_n 0, 1) := by decide +kernel
theorem dX10_aheadTimesWhole_63 : decode cX10_aheadTimesWhole 63 = .ok (.getfield 26, 3) := by decide +kernel
theorem dX10_aheadTimesWhole_66 : decode cX10_aheadTimesWhole 66 = .ok (.iload 4, 2) := by decide +kernel
theorem dX10_aheadTimesWhole_68 : decode cX10_aheadTimesWhole 68 = .ok (.iload 7, 2) := by decide +kernel
theorem dX10_aheadTimesWhole_70 : decode cX10_aheadTimesWhole 70 = .ok (.invokevirtual 152, 3) := by decide +kernel
theorem dX10_aheadTimesWhole_73 : decode cX10_aheadTimesWhole 73 = .ok (.istore 8, 2) := by decide +kernel
theorem dX10_aheadTimesWhole_75 : decode cX10_aheadTimesWhole 75 = .ok (.iload 8, 2) := by decide +kernel
theorem dX10_aheadTimesWhole_77 : decode cX10_aheadTimesWhole 77 = .ok (.ifCond .le 18, 3) := by decide +kernel
theorem dX10_aheadTimesWhole_80 : decode cX10_aheadTimesWhole 80 = .ok (.lload 5, 2) := by decide +kernel
theorem dX10_aheadTimesWhole_82 : decode cX10_aheadTimesWhole 82 = .ok (.iload 8, 2) := by decide +kernel
theorem dX10_aheadTimesWhole_84 : decode cX10_aheadTimesWhole 84 = .ok (.i2l, 1) := by decide +kernel
theorem dX10_aheadTimesWhole_85 : decode cX10_aheadTimesWhole 85 = .ok (.aload_n 0, 1) := by decide +kernel
theorem dX10_aheadTimesWhole_86 : decode cX10_aheadTimesWhole 86 = .ok (.iload 7, 2) := by decide +kernel
theorem dX10_aheadTimesWhole_88 : decode cX10_aheadTimesWhole 88 = .ok (.invokevirtual 185, 3) := by decide +kernel
theorem dX10_aheadTimesWhole_91 : decode cX10_aheadTimesWhole 91 = .ok (.lmul, 1) := by decide +kernel
theorem dX10_aheadTimesWhole_92 : decode cX10_aheadTimesWhole 92 = .ok (.ladd, 1) := by decide +kernel
theorem dX10_aheadTimesWhole_93 : decode cX10_aheadTimesWhole 93 = .ok (.lstore 5, 2) := by decide +kernel
theorem dX10_aheadTimesWhole_95 : decode cX10_aheadTimesWhole 95 = .ok (.iinc 7 1, 3) := by decide +kernel
theorem dX10_aheadTimesWhole_98 : decode cX10_aheadTimesWhole 98 = .ok (.goto (-48), 3) := by decide +kernel
theorem dX10_aheadTimesWhole_101 : decode cX10_aheadTimesWhole 101 = .ok (.lload 5, 2) := by decide +kernel
theorem dX10_aheadTimesWhole_103 : decode cX10_aheadTimesWhole 103 = .ok (.lreturn, 1) := by decide +kernel
def mC_aheadTimesWhole_B50 (k50 : Int32 → Int64 → Int32 → hI → (Bool × Bool) → Option (Int64)) (v4 : Int32) (v5 : Int64) (v7 : Int32) (I : hI) (B : Bool × Bool) : Option (Int64) :=
  if (I 7 5) ≤ v7 then
    some v5
  else
    ((mRo_quarters v4 v7 I).bind fun q1 =>
    if q1 ≤ 0 then
      k50 v4 v5 (v7 + (1 : Int32)) I B
    else
      ((mC_guessTimesWhole v7 I B).bind fun q2 =>
      h_let (v5 + (q1.toInt64 * q2)) fun v5x2 =>
      k50 v4 v5x2 (v7 + (1 : Int32)) I B))
set_option maxHeartbeats 4000000 in
theorem sC_aheadTimesWhole_B50 (d : Nat) (hd : 3 + 1 ≤ d) (k50 : Int32 → Int64 → Int32 → hI → (Bool × Bool) → Option (Int64)) (hk50 : ∀ (v4 : Int32) (v5 : Int64) (v7 : Int32) (I : hI) (J : hJ) (B : Bool × Bool) (q : Int64), k50 v4 v5 v7 I B = some q → AW hFT cX10_aheadTimesWhole 9 (some .long) RX10 kdC d [(0, .ref 0), (4, .int v4), (5, .long v5), (7, .int v7)] 50 [] (I, J, RM B) (some (.long q)) (I, J, RM B)) (v4 : Int32) (v5 : Int64) (v7 : Int32) (I : hI) (J : hJ) (B : Bool × Bool) (q : Int64) (h : mC_aheadTimesWhole_B50 k50 v4 v5 v7 I B = some q) : AW hFT cX10_aheadTimesWhole 9 (some .long) RX10 kdC d [(0, .ref 0), (4, .int v4), (5, .long v5), (7, .int v7)] 50 [] (I, J, RM B) (some (.long q)) (I, J, RM B) := by
  obtain ⟨d0, rfl, hd0⟩ := h_mono hd
  unfold mC_aheadTimesWhole_B50 at h
  refine a_iload dX10_aheadTimesWhole_50 rfl ?_
  refine a_aload_n dX10_aheadTimesWhole_52 rfl rfl ?_
  refine b_getR hK_10 kc_0 (i := 2) rfl fl_10_26 rfl (rm_0_2 B) dX10_aheadTimesWhole_53 ?_
  refine b_getI hK_7 kc_7 (i := 5) rfl fl_10_106 rfl dX10_aheadTimesWhole_56 ?_
  refine a_icmp_ge (tgt := 101) dX10_aheadTimesWhole_59 (by decide) (fun c => ?_) (fun c => ?_)
  · replace h := h_iteT c h
    refine a_lload dX10_aheadTimesWhole_101 rfl ?_
    cases h
    exact a_lret dX10_aheadTimesWhole_103
  · replace h := h_iteF c h
    refine a_aload_n dX10_aheadTimesWhole_62 rfl rfl ?_
    refine b_getR hK_10 kc_0 (i := 2) rfl fl_10_26 rfl (rm_0_2 B) dX10_aheadTimesWhole_63 ?_
    refine a_iload dX10_aheadTimesWhole_66 rfl ?_
    refine a_iload dX10_aheadTimesWhole_68 rfl ?_
    obtain ⟨q1, cq1, h⟩ := h_bindS h
    refine a_callV1 [] yy_X7_quarters ml_10_152 kc_7 rfl (sRo_quarters _ (by omega) v4 v7 I J B q1 cq1) rfl rfl (Nat.le_of_ble_eq_true rfl) dX10_aheadTimesWhole_70 ?_
    refine a_istore (lv' := [(8, .int q1), (0, .ref 0), (4, .int v4), (5, .long v5), (7, .int v7)]) dX10_aheadTimesWhole_73 (by decide) rfl ?_
    refine a_iload dX10_aheadTimesWhole_75 rfl ?_
    refine a_if_le (tgt := 95) dX10_aheadTimesWhole_77 (by decide) (fun c => ?_) (fun c => ?_)
    · replace h := h_iteT c h
      refine b_iinc (lv' := [(7, .int (v7 + (1 : Int32))), (8, .int q1), (0, .ref 0), (4, .int v4), (5, .long v5)]) dX10_aheadTimesWhole_95 rfl ic_1 (by decide) rfl ?_
      refine a_goto (tgt := 50) dX10_aheadTimesWhole_98 (by decide) ?_
      refine a_sub (lv' := [(0, .ref 0), (4, .int v4), (5, .long v5), (7, .int (v7 + (1 : Int32)))]) [2, 3, 4, 0] rfl ?_
      exact hk50 v4 v5 (v7 + (1 : Int32)) I J B _ h
    · replace h := h_iteF c h
      refine a_lload dX10_aheadTimesWhole_80 rfl ?_
      refine a_iload dX10_aheadTimesWhole_82 rfl ?_
      refine a_i2l dX10_aheadTimesWhole_84 ?_
      refine a_aload_n dX10_aheadTimesWhole_85 rfl rfl ?_
      refine a_iload dX10_aheadTimesWhole_86 rfl ?_
      obtain ⟨q2, cq2, h⟩ := h_bindS h
      refine a_callV1 [.long q1.toInt64, .long v5] yy_X10_guessTimesWhole ml_10_185 kc_0 rfl (sC_guessTimesWhole _ (by omega) v7 I J B q2 cq2) rfl rfl (Nat.le_of_ble_eq_true rfl) dX10_aheadTimesWhole_88 ?_
      refine a_lmul dX10_aheadTimesWhole_91 ?_
      refine a_ladd dX10_aheadTimesWhole_92 ?_
      obtain ⟨v5x2, ev5x2, h⟩ := h_letS h
      refine a_topJ ev5x2 ?_
      refine a_lstore (lv' := [(5, .long v5x2), (8, .int q1), (0, .ref 0), (4, .int v4), (7, .int v7)]) dX10_aheadTimesWhole_93 (by decide) rfl ?_
      refine b_iinc (lv' := [(7, .int (v7 + (1 : Int32))), (5, .long v5x2), (8, .int q1), (0, .ref 0), (4, .int v4)]) dX10_aheadTimesWhole_95 rfl ic_1 (by decide) rfl ?_
      refine a_goto (tgt := 50) dX10_aheadTimesWhole_98 (by decide) ?_
      refine a_sub (lv' := [(0, .ref 0), (4, .int v4), (5, .long v5x2), (7, .int (v7 + (1 : Int32)))]) [3, 4, 1, 0] rfl ?_
      exact hk50 v4 v5x2 (v7 + (1 : Int32)) I J B _ h
def mC_aheadTimesWhole_L50  : Nat → Int32 → Int64 → Int32 → hI → (Bool × Bool) → Option (Int64)
  | 0 => fun _ _ _ _ _ => none
  | n + 1 => mC_aheadTimesWhole_B50 (mC_aheadTimesWhole_L50 n)
theorem sC_aheadTimesWhole_L50 (d : Nat) (hd : 3 + 1 ≤ d) : ∀ (n : Nat) (v4 : Int32) (v5 : Int64) (v7 : Int32) (I : hI) (J : hJ) (B : Bool × Bool) (q : Int64) (h : mC_aheadTimesWhole_L50 n v4 v5 v7 I B = some q), AW hFT cX10_aheadTimesWhole 9 (some .long) RX10 kdC d [(0, .ref 0), (4, .int v4), (5, .long v5), (7, .int v7)] 50 [] (I, J, RM B) (some (.long q)) (I, J, RM B)
  | 0, _, _, _, _, _, _, q, h => by cases h
  | n + 1, v4, v5, v7, I, J, B, q, h => sC_aheadTimesWhole_B50 d hd (mC_aheadTimesWhole_L50 n) (sC_aheadTimesWhole_L50 d hd n) v4 v5 v7 I J B q h
def mC_aheadTimesWhole  (v1 : Int32) (v2 : Int32) (v3 : Int32) (I : hI) (B : Bool × Bool) : Option (Int64) :=
  h_let ((v1 * (8 : Int32)) + v2) fun v4x0 =>
  if v4x0 < 0 then
    some (0 : Int64)
  else
    (if v4x0 < (80 : Int32) then
      (if v3 = 0 then
        mC_aheadTimesWhole_L50 hF v4x0 (0 : Int64) (0 : Int32) I B
      else
        (h_g (h_in v4x0 80) <|
        h_let (((I 10 v4x0.toNatClampNeg).toInt64) * (27720 : Int64)) fun v5x2 =>
        mC_aheadTimesWhole_L50 hF v4x0 v5x2 (0 : Int32) I B))
    else
      some (0 : Int64))
set_option maxHeartbeats 4000000 in
theorem sC_aheadTimesWhole (d : Nat) (hd : 3 + 1 ≤ d) (v1 : Int32) (v2 : Int32) (v3 : Int32) (I : hI) (J : hJ) (B : Bool × Bool) (q : Int64) (h : mC_aheadTimesWhole v1 v2 v3 I B = some q) : HMet hFT yX10_aheadTimesWhole cX10_aheadTimesWhole 9 (some .long) kdC d [.ref 0, .int v1, .int v2, .int v3] (I, J, RM B) (some (.long q)) (I, J, RM B) := by
  obtain ⟨d0, rfl, hd0⟩ := h_mono hd
  refine HMet.of (by decide) (Nat.le_of_ble_eq_true rfl) ?_
  show AW hFT cX10_aheadTimesWhole 9 (some .long) RX10 kdC (d0 + 1) [(0, .ref 0), (1, .int v1), (2, .int v2), (3, .int v3)] 0 [] (I, J, RM B) (some (.long q)) (I, J, RM B)
  unfold mC_aheadTimesWhole at h
  refine a_iload_n dX10_aheadTimesWhole_0 rfl rfl ?_
  refine a_bipush dX10_aheadTimesWhole_1 bp_8 ?_
  refine a_imul dX10_aheadTimesWhole_3 ?_
  refine a_iload_n dX10_aheadTimesWhole_4 rfl rfl ?_
  refine a_iadd dX10_aheadTimesWhole_5 ?_
  obtain ⟨v4x0, ev4x0, h⟩ := h_letS h
  refine a_topI ev4x0 ?_
  refine a_istore (lv' := [(4, .int v4x0), (0, .ref 0), (1, .int v1), (2, .int v2), (3, .int v3)]) dX10_aheadTimesWhole_6 (by decide) rfl ?_
  refine a_iload dX10_aheadTimesWhole_8 rfl ?_
  refine a_if_lt (tgt := 20) dX10_aheadTimesWhole_10 (by decide) (fun c => ?_) (fun c => ?_)
  · replace h := h_iteT c h
    refine a_lconst dX10_aheadTimesWhole_20 lc_0 ?_
    cases h
    exact a_lret dX10_aheadTimesWhole_21
  · replace h := h_iteF c h
    refine a_iload dX10_aheadTimesWhole_13 rfl ?_
    refine a_bipush dX10_aheadTimesWhole_15 bp_80 ?_
    refine a_icmp_lt (tgt := 22) dX10_aheadTimesWhole_17 (by decide) (fun c => ?_) (fun c => ?_)
    · replace h := h_iteT c h
      refine a_iload_n dX10_aheadTimesWhole_22 rfl rfl ?_
      refine a_if_eq (tgt := 44) dX10_aheadTimesWhole_23 (by decide) (fun c => ?_) (fun c => ?_)
      · replace h := h_iteT c h
        refine a_lconst dX10_aheadTimesWhole_44 lc_0 ?_
        refine a_lstore (lv' := [(5, .long (0 : Int64)), (4, .int v4x0), (0, .ref 0), (1, .int v1), (2, .int v2), (3, .int v3)]) dX10_aheadTimesWhole_45 (by decide) rfl ?_
        refine a_iconst dX10_aheadTimesWhole_47 ic_0 ?_
        refine a_istore (lv' := [(7, .int (0 : Int32)), (5, .long (0 : Int64)), (4, .int v4x0), (0, .ref 0), (1, .int v1), (2, .int v2), (3, .int v3)]) dX10_aheadTimesWhole_48 (by decide) rfl ?_
        refine a_sub (lv' := [(0, .ref 0), (4, .int v4x0), (5, .long (0 : Int64)), (7, .int (0 : Int32))]) [3, 2, 1, 0] rfl ?_
        exact sC_aheadTimesWhole_L50 (d0 + 1) (by omega) hF v4x0 (0 : Int64) (0 : Int32) I J B _ h
      · replace h := h_iteF c h
        refine a_aload_n dX10_aheadTimesWhole_26 rfl rfl ?_
        refine b_getR hK_10 kc_0 (i := 2) rfl fl_10_26 rfl (rm_0_2 B) dX10_aheadTimesWhole_27 ?_
        refine b_getR hK_7 kc_7 (i := 2) rfl fl_10_146 rfl (rm_7_2 B) dX10_aheadTimesWhole_30 ?_
        refine a_iload dX10_aheadTimesWhole_33 rfl ?_
        obtain ⟨g2, h⟩ := h_gS h
        refine b_iaload kc_10 (h_inV g2) dX10_aheadTimesWhole_35 ?_
        refine a_i2l dX10_aheadTimesWhole_36 ?_
        refine a_ldc2_w cn_10_189 dX10_aheadTimesWhole_37 ?_
        refine a_lmul dX10_aheadTimesWhole_40 ?_
        refine a_goto (tgt := 45) dX10_aheadTimesWhole_41 (by decide) ?_
        obtain ⟨v5x2, ev5x2, h⟩ := h_letS h
        refine a_topJ ev5x2 ?_
        refine a_lstore (lv' := [(5, .long v5x2), (4, .int v4x0), (0, .ref 0), (1, .int v1), (2, .int v2), (3, .int v3)]) dX10_aheadTimesWhole_45 (by decide) rfl ?_
        refine a_iconst dX10_aheadTimesWhole_47 ic_0 ?_
        refine a_istore (lv' := [(7, .int (0 : Int32)), (5, .long v5x2), (4, .int v4x0), (0, .ref 0), (1, .int v1), (2, .int v2), (3, .int v3)]) dX10_aheadTimesWhole_48 (by decide) rfl ?_
        refine a_sub (lv' := [(0, .ref 0), (4, .int v4x0), (5, .long v5x2), (7, .int (0 : Int32))]) [3, 2, 1, 0] rfl ?_
        exact sC_aheadTimesWhole_L50 (d0 + 1) (by omega) hF v4x0 v5x2 (0 : Int32) I J B _ h
    · replace h := h_iteF c h
      refine a_lconst dX10_aheadTimesWhole_20 lc_0 ?_
      cases h
      exact a_lret dX10_aheadTimesWhole_21
/-! CoinLoops.ahead(III)J -/
theorem dX10_ahead_0 : decode cX10_ahead 0 = .ok (.aload_n 0, 1) := by decide +kernel
theorem dX10_ahead_1 : decode cX10_ahead 1 = .ok (.aload_n 0, 1) := by decide +kernel
theorem dX10_ahead_2 : decode cX10_ahead 2 = .ok (.getfield 90, 3) := by decide +kernel
theorem dX10_ahead_5 : decode cX10_ahead 5 = .ok (.ifCond .eq 10, 3) := by decide +kernel
theorem dX10_ahead_8 : decode cX10_ahead 8 = .ok (.aload_n 0, 1) := by decide +kernel
theorem dX10_ahead_9 : decode cX10_ahead 9 = .ok (.getfield 94, 3) := by decide +kernel
theorem dX10_ahead_12 : decode cX10_ahead 12 = .ok (.ifCond .ne 7, 3) := by decide +kernel
theorem dX10_ahead_15 : decode cX10_ahead 15 = .ok (.iconst 1, 1) := by decide +kernel
theorem dX10_ahead_16 : decode cX10_ahead 16 = .ok (.goto 4, 3) := by decide +kernel
theorem dX10_ahead_19 : decode cX10_ahead 19 = .ok (.iconst 0, 1) := by decide +kernel
theorem dX10_ahead_20 : decode cX10_ahead 20 = .ok (.iconst 0, 1) := by decide +kernel
theorem dX10_ahead_21 : decode cX10_ahead 21 = .ok (.invokevirtual 110, 3) := by decide +kernel
theorem dX10_ahead_24 : decode cX10_ahead 24 = .ok (.ifCond .ne 36, 3) := by decide +kernel
theorem dX10_ahead_27 : decode cX10_ahead 27 = .ok (.aload_n 0, 1) := by decide +kernel
theorem dX10_ahead_28 : decode cX10_ahead 28 = .ok (.aload_n 0, 1) := by decide +kernel
theorem dX10_ahead_29 : decode cX10_ahead 29 = .ok (.getfield 26, 3) := by decide +kernel
theorem dX10_ahead_32 : decode cX10_ahead 32 = .ok (.iload_n 1, 1) := by decide +kernel
theorem dX10_ahead_33 : decode cX10_ahead 33 = .ok (.iload_n 2, 1) := by decide +kernel
theorem dX10_ahead_34 : decode cX10_ahead 34 = .ok (.invokevirtual 138, 3) := by decide +kernel
theorem dX10_ahead_37 : decode cX10_ahead 37 = .ok (.ifCond .eq 11, 3) := by decide +kernel
theorem dX10_ahead_40 : decode cX10_ahead 40 = .ok (.iload_n 3, 1) := by decide +kernel
theorem dX10_ahead_41 : decode cX10_ahead 41 = .ok (.iconst 2, 1) := by decide +kernel
theorem dX10_ahead_42 : decode cX10_ahead 42 = .ok (.invokestatic 114, 3) := by decide +kernel
theorem dX10_ahead_45 : decode cX10_ahead 45 = .ok (.ifCond .eq 7, 3) := by decide +kernel
theorem dX10_ahead_48 : decode cX10_ahead 48 = .ok (.iconst 1, 1) := by decide +kernel
theorem dX10_ahead_49 : decode cX10_ahead 49 = .ok (.goto 4, 3) := by decide +kernel
theorem dX10_ahead_52 : decode cX10_ahead 52 = .ok (.iconst 0, 1) := by decide +kernel
theorem dX10_ahead_53 : decode cX10_ahead 53 = .ok (.iconst 1, 1) := by decide +kernel
theorem dX10_ahead_54 : decode cX10_ahead 54 = .ok (.invokevirtual 110, 3) := by decide +kernel
theorem dX10_ahead_57 : decode cX10_ahead 57 = .ok (.ifCond .eq 7, 3) := by decide +kernel
theorem dX10_ahead_60 : decode cX10_ahead 60 = .ok (.ldc2_w 183, 3) := by decide +kernel
theorem dX10_ahead_63 : decode cX10_ahead 63 = .ok (.lreturn, 1) := by decide +kernel
theorem dX10_ahead_64 : decode cX10_ahead 64 = .ok (.aload_n 0, 1) := by decide +kernel
theorem dX10_ahead_65 : decode cX10_ahead 65 = .ok (.iload_n 1, 1) := by decide +kernel
theorem dX10_ahead_66 : decode cX10_ahead 66 = .ok (.iload_n 2, 1) := by decide +kernel
theorem dX10_ahead_67 : decode cX10_ahead 67 = .ok (.iconst 1, 1) := by decide +kernel
theorem dX10_ahead_68 : decode cX10_ahead 68 = .ok (.invokevirtual 195, 3) := by decide +kernel
theorem dX10_ahead_71 : decode cX10_ahead 71 = .ok (.ldc2_w 199, 3) := by decide +kernel
theorem dX10_ahead_74 : decode cX10_ahead 74 = .ok (.iload_n 3, 1) := by decide +kernel
theorem dX10_ahead_75 : decode cX10_ahead 75 = .ok (.invokestatic 191, 3) := by decide +kernel
theorem dX10_ahead_78 : decode cX10_ahead 78 = .ok (.lreturn, 1) := by decide +kernel
def mC_ahead_53  (v1 : Int32) (v2 : Int32) (v3 : Int32) (vs1 : Int32) (I : hI) (B : Bool × Bool) : Option (Int64 × hI) :=
  (mC_refuse vs1 (1 : Int32) I).bind fun q1 =>
  if q1.1 = 0 then
    ((mC_aheadTimesWhole v1 v2 (1 : Int32) q1.2 B).bind fun q2 =>
    (mC_lowest q2 (110880 : Int64) v3).bind fun q3 =>
    some (q3, q1.2))
  else
    some ((-1000001 : Int64), q1.2)
set_option maxHeartbeats 4000000 in
theorem sC_ahead_53 (d : Nat) (hd : 4 + 1 ≤ d) (v1 : Int32) (v2 : Int32) (v3 : Int32) (vs1 : Int32) (I : hI) (J : hJ) (B : Bool × Bool) (q : Int64 × hI) (h : mC_ahead_53 v1 v2 v3 vs1 I B = some q) : AW hFT cX10_ahead 4 (some .long) RX10 kdC d [(0, .ref 0), (1, .int v1), (2, .int v2), (3, .int v3)] 53 [.int vs1, .ref 0] (I, J, RM B) (some (.long q.1)) (q.2, J, RM B) := by
  obtain ⟨d0, rfl, hd0⟩ := h_mono hd
  unfold mC_ahead_53 at h
  refine a_iconst dX10_ahead_53 ic_1 ?_
  obtain ⟨q1, cq1, h⟩ := h_bindS h
  refine a_callV1 [] yy_X10_refuse ml_10_110 kc_0 rfl (sC_refuse _ (by omega) vs1 (1 : Int32) I J B q1 cq1) rfl rfl (Nat.le_of_ble_eq_true rfl) dX10_ahead_54 ?_
  refine a_if_eq (tgt := 64) dX10_ahead_57 (by decide) (fun c => ?_) (fun c => ?_)
  · replace h := h_iteT c h
    refine a_aload_n dX10_ahead_64 rfl rfl ?_
    refine a_iload_n dX10_ahead_65 rfl rfl ?_
    refine a_iload_n dX10_ahead_66 rfl rfl ?_
    refine a_iconst dX10_ahead_67 ic_1 ?_
    obtain ⟨q2, cq2, h⟩ := h_bindS h
    refine a_callV1 [] yy_X10_aheadTimesWhole ml_10_195 kc_0 rfl (sC_aheadTimesWhole _ (by omega) v1 v2 (1 : Int32) q1.2 J B q2 cq2) rfl rfl (Nat.le_of_ble_eq_true rfl) dX10_ahead_68 ?_
    refine a_ldc2_w cn_10_199 dX10_ahead_71 ?_
    refine a_iload_n dX10_ahead_74 rfl rfl ?_
    obtain ⟨q3, cq3, h⟩ := h_bindS h
    refine a_callS1 [] yy_X10_lowest ml_10_191 (sC_lowest _ (by omega) q2 (110880 : Int64) v3 q1.2 J B q3 cq3) rfl rfl (Nat.le_of_ble_eq_true rfl) dX10_ahead_75 ?_
    cases h
    exact a_lret dX10_ahead_78
  · replace h := h_iteF c h
    refine a_ldc2_w cn_10_183 dX10_ahead_60 ?_
    cases h
    exact a_lret dX10_ahead_63
def mC_ahead_20  (v1 : Int32) (v2 : Int32) (v3 : Int32) (vs1 : Int32) (I : hI) (B : Bool × Bool) : Option (Int64 × hI) :=
  (mC_refuse vs1 (0 : Int32) I).bind fun q1 =>
  if q1.1 = 0 then
    ((mRo_isChoice v1 v2 q1.2).bind fun q2 =>
    if q2 = 0 then
      mC_ahead_53 v1 v2 v3 (1 : Int32) q1.2 B
    else
      (if (mC_isOutside v3 (2 : Int32)) = 0 then
        mC_ahead_53 v1 v2 v3 (0 : Int32) q1.2 B
      else
        mC_ahead_53 v1 v2 v3 (1 : Int32) q1.2 B))
  else
    some ((-1000001 : Int64), q1.2)
set_option maxHeartbeats 4000000 in
theorem sC_ahead_20 (d : Nat) (hd : 4 + 1 ≤ d) (v1 : Int32) (v2 : Int32) (v3 : Int32) (vs1 : Int32) (I : hI) (J : hJ) (B : Bool × Bool) (q : Int64 × hI) (h : mC_ahead_20 v1 v2 v3 vs1 I B = some q) : AW hFT cX10_ahead 4 (some .long) RX10 kdC d [(0, .ref 0), (1, .int v1), (2, .int v2), (3, .int v3)] 20 [.int vs1, .ref 0] (I, J, RM B) (some (.long q.1)) (q.2, J, RM B) := by
  obtain ⟨d0, rfl, hd0⟩ := h_mono hd
  unfold mC_ahead_20 at h
  refine a_iconst dX10_ahead_20 ic_0 ?_
  obtain ⟨q1, cq1, h⟩ := h_bindS h
  refine a_callV1 [] yy_X10_refuse ml_10_110 kc_0 rfl (sC_refuse _ (by omega) vs1 (0 : Int32) I J B q1 cq1) rfl rfl (Nat.le_of_ble_eq_true rfl) dX10_ahead_21 ?_
  refine a_if_ne (tgt := 60) dX10_ahead_24 (by decide) (fun c => ?_) (fun c => ?_)
  · replace h := h_iteF c h
    refine a_ldc2_w cn_10_183 dX10_ahead_60 ?_
    cases h
    exact a_lret dX10_ahead_63
  · replace h := h_iteT c h
    refine a_aload_n dX10_ahead_27 rfl rfl ?_
    refine a_aload_n dX10_ahead_28 rfl rfl ?_
    refine b_getR hK_10 kc_0 (i := 2) rfl fl_10_26 rfl (rm_0_2 B) dX10_ahead_29 ?_
    refine a_iload_n dX10_ahead_32 rfl rfl ?_
    refine a_iload_n dX10_ahead_33 rfl rfl ?_
    obtain ⟨q2, cq2, h⟩ := h_bindS h
    refine a_callV1 [.ref 0] yy_X7_isChoice ml_10_138 kc_7 rfl (sRo_isChoice _ (by omega) v1 v2 q1.2 J B q2 cq2) rfl rfl (Nat.le_of_ble_eq_true rfl) dX10_ahead_34 ?_
    refine a_if_eq (tgt := 48) dX10_ahead_37 (by decide) (fun c => ?_) (fun c => ?_)
    · replace h := h_iteT c h
      refine a_iconst dX10_ahead_48 ic_1 ?_
      refine a_goto (tgt := 53) dX10_ahead_49 (by decide) ?_
      exact sC_ahead_53 (d0 + 1) (by omega) v1 v2 v3 (1 : Int32) q1.2 J B _ h
    · replace h := h_iteF c h
      refine a_iload_n dX10_ahead_40 rfl rfl ?_
      refine a_iconst dX10_ahead_41 ic_2 ?_
      refine a_callS1 [.ref 0] yy_X10_isOutside ml_10_114 (sC_isOutside _ (by omega) v3 (2 : Int32) q1.2 J B _ rfl) rfl rfl (Nat.le_of_ble_eq_true rfl) dX10_ahead_42 ?_
      refine a_if_eq (tgt := 52) dX10_ahead_45 (by decide) (fun c => ?_) (fun c => ?_)
      · replace h := h_iteT c h
        refine a_iconst dX10_ahead_52 ic_0 ?_
        exact sC_ahead_53 (d0 + 1) (by omega) v1 v2 v3 (0 : Int32) q1.2 J B _ h
      · replace h := h_iteF c h
        refine a_iconst dX10_ahead_48 ic_1 ?_
        refine a_goto (tgt := 53) dX10_ahead_49 (by decide) ?_
        exact sC_ahead_53 (d0 + 1) (by omega) v1 v2 v3 (1 : Int32) q1.2 J B _ h
def mC_ahead  (v1 : Int32) (v2 : Int32) (v3 : Int32) (I : hI) (B : Bool × Bool) : Option (Int64 × hI) :=
  if (I 0 11) = 0 then
    mC_ahead_20 v1 v2 v3 (1 : Int32) I B
  else
    (if (I 0 12) = 0 then
      mC_ahead_20 v1 v2 v3 (1 : Int32) I B
    else
      mC_ahead_20 v1 v2 v3 (0 : Int32) I B)
set_option maxHeartbeats 4000000 in
theorem sC_ahead (d : Nat) (hd : 4 + 1 ≤ d) (v1 : Int32) (v2 : Int32) (v3 : Int32) (I : hI) (J : hJ) (B : Bool × Bool) (q : Int64 × hI) (h : mC_ahead v1 v2 v3 I B = some q) : HMet hFT yX10_ahead cX10_ahead 4 (some .long) kdC d [.ref 0, .int v1, .int v2, .int v3] (I, J, RM B) (some (.long q.1)) (q.2, J, RM B) := by
  obtain ⟨d0, rfl, hd0⟩ := h_mono hd
  refine HMet.of (by decide) (Nat.le_of_ble_eq_true rfl) ?_
  show AW hFT cX10_ahead 4 (some .long) RX10 kdC (d0 + 1) [(0, .ref 0), (1, .int v1), (2, .int v2), (3, .int v3)] 0 [] (I, J, RM B) (some (.long q.1)) (q.2, J, RM B)
  unfold mC_ahead at h
  refine a_aload_n dX10_ahead_0 rfl rfl ?_
  refine a_aload_n dX10_ahead_1 rfl rfl ?_
  refine b_getI hK_10 kc_0 (i := 11) rfl fl_10_90 rfl dX10_ahead_2 ?_
  refine a_if_eq (tgt := 15) dX10_ahead_5 (by decide) (fun c => ?_) (fun c => ?_)
  · replace h := h_iteT c h
    refine a_iconst dX10_ahead_15 ic_1 ?_
    refine a_goto (tgt := 20) dX10_ahead_16 (by decide) ?_
    exact sC_ahead_20 (d0 + 1) (by omega) v1 v2 v3 (1 : Int32) I J B _ h
  · replace h := h_iteF c h
    refine a_aload_n dX10_ahead_8 rfl rfl ?_
    refine b_getI hK_10 kc_0 (i := 12) rfl fl_10_94 rfl dX10_ahead_9 ?_
    refine a_if_ne (tgt := 19) dX10_ahead_12 (by decide) (fun c => ?_) (fun c => ?_)
    · replace h := h_iteF c h
      refine a_iconst dX10_ahead_19 ic_0 ?_
      exact sC_ahead_20 (d0 + 1) (by omega) v1 v2 v3 (0 : Int32) I J B _ h
    · replace h := h_iteT c h
      refine a_iconst dX10_ahead_15 ic_1 ?_
      refine a_goto (tgt := 20) dX10_ahead_16 (by decide) ?_
      exact sC_ahead_20 (d0 + 1) (by omega) v1 v2 v3 (1 : Int32) I J B _ h
/-! CoinLoops.canFall(IIJ)Z -/
theorem dX10_canFall_0 : decode cX10_canFall 0 = .ok (.iload_n 1, 1) := by decide +kernel
theorem dX10_canFall_1 : decode cX10_canFall 1 = .ok (.bipush 8, 2) := by decide +kernel
theorem dX10_canFall_3 : decode cX10_canFall 3 = .ok (.imul, 1) := by decide +kernel
theorem dX10_canFall_4 : decode cX10_canFall 4 = .ok (.iload_n 2, 1) := by decide +kernel
theorem dX10_canFall_5 : decode cX10_canFall 5 = .ok (.iadd, 1) := by decide +kernel
theorem dX10_canFall_6 : decode cX10_canFall 6 = .ok (.istore 5, 2) := by decide +kernel
theorem dX10_canFall_8 : decode cX10_canFall 8 = .ok (.iload 5, 2) := by decide +kernel
theorem dX10_canFall_10 : decode cX10_canFall 10 = .ok (.ifCond .lt 10, 3) := by decide +kernel
theorem dX10_canFall_13 : decode cX10_canFall 13 = .ok (.iload 5, 2) := by decide +kernel
theorem dX10_canFall_15 : decode cX10_canFall 15 = .ok (.bipush 80, 2) := by decide +kernel
theorem dX10_canFall_17 : decode cX10_canFall 17 = .ok (.if_icmp .lt 5, 3) := by decide +kernel
theorem dX10_canFall_20 : decode cX10_canFall 20 = .ok (.iconst 0, 1) := by decide +kernel
theorem dX10_canFall_21 : decode cX10_canFall 21 = .ok (.ireturn, 1) := by decide +kernel
theorem dX10_canFall_22 : decode cX10_canFall 22 = .ok (.aload_n 0, 1) := by decide +kernel
theorem dX10_canFall_23 : decode cX10_canFall 23 = .ok (.getfield 26, 3) := by decide +kernel
theorem dX10_canFall_26 : decode cX10_canFall 26 = .ok (.getfield 149, 3) := by decide +kernel
theorem dX10_canFall_29 : decode cX10_canFall 29 = .ok (.iload 5, 2) := by decide +kernel
theorem dX10_canFall_31 : decode cX10_canFall 31 = .ok (.iaload, 1) := by decide +kernel
theorem dX10_canFall_32 : decode cX10_canFall 32 = .ok (.ifCond .le 5, 3) := by decide +kernel
theorem dX10_canFall_35 : decode cX10_canFall 35 = .ok (.iconst 1, 1) := by decide +kernel
theorem dX10_canFall_36 : decode cX10_canFall 36 = .ok (.ireturn, 1) := by decide +kernel
theorem dX10_canFall_37 : decode cX10_canFall 37 = .ok (.iconst 0, 1) := by decide +kernel
theorem dX10_canFall_38 : decode cX10_canFall 38 = .ok (.istore 6, 2) := by decide +kernel
theorem dX10_canFall_40 : decode cX10_canFall 40 = .ok (.iload 6, 2) := by decide +kernel
theorem dX10_canFall_42 : decode cX10_canFall 42 = .ok (.aload_n 0, 1) := by decide +kernel
theorem dX10_canFall_43 : decode cX10_canFall 43 = .ok (.getfield 26, 3) := by decide +kernel
theorem dX10_canFall_46 : decode cX10_canFall 46 = .ok (.getfield 106, 3) := by decide +kernel
theorem dX10_canFall_49 : decode cX10_canFall 49 = .ok (.if_icmp .ge 52, 3) := by decide +kernel
theorem dX10_canFall_52 : decode cX10_canFall 52 = .ok (.aload_n 0, 1) := by decide +kernel
theorem dX10_canFall_53 : decode cX10_canFall 53 = .ok (.getfield 26, 3) := by decide +kernel
theorem dX10_canFall_56 : decode cX10_canFall 56 = .ok (.iload 5, 2) := by decide +kernel
theorem dX10_canFall_58 : decode cX10_canFall 58 = .ok (.iload 6, 2) := by decide +kernel
theorem dX10_canFall_60 : decode cX10_canFall 60 = .ok (.invokevirtual 152, 3) := by decide +kernel
theorem dX10_canFall_63 : decode cX10_canFall 63 = .ok (.ifCond .le 32, 3) := by decide +kernel
theorem dX10_canFall_66 : decode cX10_canFall 66 = .ok (.aload_n 0, 1) := by decide +kernel
theorem dX10_canFall_67 : decode cX10_canFall 67 = .ok (.getfield 26, 3) := by decide +kernel
theorem dX10_canFall_70 : decode cX10_canFall 70 = .ok (.iload 6, 2) := by decide +kernel
theorem dX10_canFall_72 : decode cX10_canFall 72 = .ok (.invokevirtual 168, 3) := by decide +kernel
theorem dX10_canFall_75 : decode cX10_canFall 75 = .ok (.ifCond .eq 18, 3) := by decide +kernel
theorem dX10_canFall_78 : decode cX10_canFall 78 = .ok (.aload_n 0, 1) := by decide +kernel
theorem dX10_canFall_79 : decode cX10_canFall 79 = .ok (.iload 6, 2) := by decide +kernel
theorem dX10_canFall_81 : decode cX10_canFall 81 = .ok (.invokevirtual 185, 3) := by decide +kernel
theorem dX10_canFall_84 : decode cX10_canFall 84 = .ok (.lload_n 3, 1) := by decide +kernel
theorem dX10_canFall_85 : decode cX10_canFall 85 = .ok (.ldc2_w 189, 3) := by decide +kernel
theorem dX10_canFall_88 : decode cX10_canFall 88 = .ok (.lsub, 1) := by decide +kernel
theorem dX10_canFall_89 : decode cX10_canFall 89 = .ok (.lcmp, 1) := by decide +kernel
theorem dX10_canFall_90 : decode cX10_canFall 90 = .ok (.ifCond .gt 5, 3) := by decide +kernel
theorem dX10_canFall_93 : decode cX10_canFall 93 = .ok (.iconst 1, 1) := by decide +kernel
theorem dX10_canFall_94 : decode cX10_canFall 94 = .ok (.ireturn, 1) := by decide +kernel
theorem dX10_canFall_95 : decode cX10_canFall 95 = .ok (.iinc 6 1, 3) := by decide +kernel
theorem dX10_canFall_98 : decode cX10_canFall 98 = .ok (.goto (-58), 3) := by decide +kernel
theorem dX10_canFall_101 : decode cX10_canFall 101 = .ok (.iconst 0, 1) := by decide +kernel
theorem dX10_canFall_102 : decode cX10_canFall 102 = .ok (.ireturn, 1) := by decide +kernel
def mC_canFall_B40 (k40 : Int64 → Int32 → Int32 → hI → (Bool × Bool) → Option (Int32)) (v3 : Int64) (v5 : Int32) (v6 : Int32) (I : hI) (B : Bool × Bool) : Option (Int32) :=
  if (I 7 5) ≤ v6 then
    some (0 : Int32)
  else
    ((mRo_quarters v5 v6 I).bind fun q1 =>
    if q1 ≤ 0 then
      k40 v3 v5 (v6 + (1 : Int32)) I B
    else
      (if (mRo_isIn v6 I) = 0 then
        some (1 : Int32)
      else
        ((mC_guessTimesWhole v6 I B).bind fun q2 =>
        if (v3 - (27720 : Int64)) < q2 then
          k40 v3 v5 (v6 + (1 : Int32)) I B
        else
          some (1 : Int32))))
set_option maxHeartbeats 4000000 in
theorem sC_canFall_B40 (d : Nat) (hd : 3 + 1 ≤ d) (k40 : Int64 → Int32 → Int32 → hI → (Bool × Bool) → Option (Int32)) (hk40 : ∀ (v3 : Int64) (v5 : Int32) (v6 : Int32) (I : hI) (J : hJ) (B : Bool × Bool) (q : Int32), k40 v3 v5 v6 I B = some q → AW hFT cX10_canFall 7 (some .boolean) RX10 kdC d [(0, .ref 0), (3, .long v3), (5, .int v5), (6, .int v6)] 40 [] (I, J, RM B) (some (.int q)) (I, J, RM B)) (v3 : Int64) (v5 : Int32) (v6 : Int32) (I : hI) (J : hJ) (B : Bool × Bool) (q : Int32) (h : mC_canFall_B40 k40 v3 v5 v6 I B = some q) : AW hFT cX10_canFall 7 (some .boolean) RX10 kdC d [(0, .ref 0), (3, .long v3), (5, .int v5), (6, .int v6)] 40 [] (I, J, RM B) (some (.int q)) (I, J, RM B) := by
  obtain ⟨d0, rfl, hd0⟩ := h_mono hd
  unfold mC_canFall_B40 at h
  refine a_iload dX10_canFall_40 rfl ?_
  refine a_aload_n dX10_canFall_42 rfl rfl ?_
  refine b_getR hK_10 kc_0 (i := 2) rfl fl_10_26 rfl (rm_0_2 B) dX10_canFall_43 ?_
  refine b_getI hK_7 kc_7 (i := 5) rfl fl_10_106 rfl dX10_canFall_46 ?_
  refine a_icmp_ge (tgt := 101) dX10_canFall_49 (by decide) (fun c => ?_) (fun c => ?_)
  · replace h := h_iteT c h
    refine a_iconst dX10_canFall_101 ic_0 ?_
    cases h
    exact a_zret (h_Z0.1) dX10_canFall_102
  · replace h := h_iteF c h
    refine a_aload_n dX10_canFall_52 rfl rfl ?_
    refine b_getR hK_10 kc_0 (i := 2) rfl fl_10_26 rfl (rm_0_2 B) dX10_canFall_53 ?_
    refine a_iload dX10_canFall_56 rfl ?_
    refine a_iload dX10_canFall_58 rfl ?_
    obtain ⟨q1, cq1, h⟩ := h_bindS h
    refine a_callV1 [] yy_X7_quarters ml_10_152 kc_7 rfl (sRo_quarters _ (by omega) v5 v6 I J B q1 cq1) rfl rfl (Nat.le_of_ble_eq_true rfl) dX10_canFall_60 ?_
    refine a_if_le (tgt := 95) dX10_canFall_63 (by decide) (fun c => ?_) (fun c => ?_)
    · replace h := h_iteT c h
      refine b_iinc (lv' := [(6, .int (v6 + (1 : Int32))), (0, .ref 0), (3, .long v3), (5, .int v5)]) dX10_canFall_95 rfl ic_1 (by decide) rfl ?_
      refine a_goto (tgt := 40) dX10_canFall_98 (by decide) ?_
      refine a_sub (lv' := [(0, .ref 0), (3, .long v3), (5, .int v5), (6, .int (v6 + (1 : Int32)))]) [1, 2, 3, 0] rfl ?_
      exact hk40 v3 v5 (v6 + (1 : Int32)) I J B _ h
    · replace h := h_iteF c h
      refine a_aload_n dX10_canFall_66 rfl rfl ?_
      refine b_getR hK_10 kc_0 (i := 2) rfl fl_10_26 rfl (rm_0_2 B) dX10_canFall_67 ?_
      refine a_iload dX10_canFall_70 rfl ?_
      refine a_callV1 [] yy_X7_isIn ml_10_168 kc_7 rfl (sRo_isIn _ (by omega) v6 I J B _ rfl) rfl rfl (Nat.le_of_ble_eq_true rfl) dX10_canFall_72 ?_
      refine a_if_eq (tgt := 93) dX10_canFall_75 (by decide) (fun c => ?_) (fun c => ?_)
      · replace h := h_iteT c h
        refine a_iconst dX10_canFall_93 ic_1 ?_
        cases h
        exact a_zret (h_Z1.1) dX10_canFall_94
      · replace h := h_iteF c h
        refine a_aload_n dX10_canFall_78 rfl rfl ?_
        refine a_iload dX10_canFall_79 rfl ?_
        obtain ⟨q2, cq2, h⟩ := h_bindS h
        refine a_callV1 [] yy_X10_guessTimesWhole ml_10_185 kc_0 rfl (sC_guessTimesWhole _ (by omega) v6 I J B q2 cq2) rfl rfl (Nat.le_of_ble_eq_true rfl) dX10_canFall_81 ?_
        refine a_lload_n dX10_canFall_84 rfl rfl ?_
        refine a_ldc2_w cn_10_189 dX10_canFall_85 ?_
        refine a_lsub dX10_canFall_88 ?_
        refine a_lcmp_gt (tgt := 95) dX10_canFall_89 dX10_canFall_90 (by decide) (fun c => ?_) (fun c => ?_)
        · replace h := h_iteT c h
          refine b_iinc (lv' := [(6, .int (v6 + (1 : Int32))), (0, .ref 0), (3, .long v3), (5, .int v5)]) dX10_canFall_95 rfl ic_1 (by decide) rfl ?_
          refine a_goto (tgt := 40) dX10_canFall_98 (by decide) ?_
          refine a_sub (lv' := [(0, .ref 0), (3, .long v3), (5, .int v5), (6, .int (v6 + (1 : Int32)))]) [1, 2, 3, 0] rfl ?_
          exact hk40 v3 v5 (v6 + (1 : Int32)) I J B _ h
        · replace h := h_iteF c h
          refine a_iconst dX10_canFall_93 ic_1 ?_
          cases h
          exact a_zret (h_Z1.1) dX10_canFall_94
def mC_canFall_L40  : Nat → Int64 → Int32 → Int32 → hI → (Bool × Bool) → Option (Int32)
  | 0 => fun _ _ _ _ _ => none
  | n + 1 => mC_canFall_B40 (mC_canFall_L40 n)
theorem sC_canFall_L40 (d : Nat) (hd : 3 + 1 ≤ d) : ∀ (n : Nat) (v3 : Int64) (v5 : Int32) (v6 : Int32) (I : hI) (J : hJ) (B : Bool × Bool) (q : Int32) (h : mC_canFall_L40 n v3 v5 v6 I B = some q), AW hFT cX10_canFall 7 (some .boolean) RX10 kdC d [(0, .ref 0), (3, .long v3), (5, .int v5), (6, .int v6)] 40 [] (I, J, RM B) (some (.int q)) (I, J, RM B)
  | 0, _, _, _, _, _, _, q, h => by cases h
  | n + 1, v3, v5, v6, I, J, B, q, h => sC_canFall_B40 d hd (mC_canFall_L40 n) (sC_canFall_L40 d hd n) v3 v5 v6 I J B q h
def mC_canFall  (v1 : Int32) (v2 : Int32) (v3 : Int64) (I : hI) (B : Bool × Bool) : Option (Int32) :=
  h_let ((v1 * (8 : Int32)) + v2) fun v5x0 =>
  if v5x0 < 0 then
    some (0 : Int32)
  else
    (if v5x0 < (80 : Int32) then
      (h_g (h_in v5x0 80) <|
      if (I 11 v5x0.toNatClampNeg) ≤ 0 then
        mC_canFall_L40 hF v3 v5x0 (0 : Int32) I B
      else
        some (1 : Int32))
    else
      some (0 : Int32))
set_option maxHeartbeats 4000000 in
theorem sC_canFall (d : Nat) (hd : 3 + 1 ≤ d) (v1 : Int32) (v2 : Int32) (v3 : Int64) (I : hI) (J : hJ) (B : Bool × Bool) (q : Int32) (h : mC_canFall v1 v2 v3 I B = some q) : HMet hFT yX10_canFall cX10_canFall 7 (some .boolean) kdC d [.ref 0, .int v1, .int v2, .long v3] (I, J, RM B) (some (.int q)) (I, J, RM B) := by
  obtain ⟨d0, rfl, hd0⟩ := h_mono hd
  refine HMet.of (by decide) (Nat.le_of_ble_eq_true rfl) ?_
  show AW hFT cX10_canFall 7 (some .boolean) RX10 kdC (d0 + 1) [(0, .ref 0), (1, .int v1), (2, .int v2), (3, .long v3)] 0 [] (I, J, RM B) (some (.int q)) (I, J, RM B)
  unfold mC_canFall at h
  refine a_iload_n dX10_canFall_0 rfl rfl ?_
  refine a_bipush dX10_canFall_1 bp_8 ?_
  refine a_imul dX10_canFall_3 ?_
  refine a_iload_n dX10_canFall_4 rfl rfl ?_
  refine a_iadd dX10_canFall_5 ?_
  obtain ⟨v5x0, ev5x0, h⟩ := h_letS h
  refine a_topI ev5x0 ?_
  refine a_istore (lv' := [(5, .int v5x0), (0, .ref 0), (1, .int v1), (2, .int v2), (3, .long v3)]) dX10_canFall_6 (by decide) rfl ?_
  refine a_iload dX10_canFall_8 rfl ?_
  refine a_if_lt (tgt := 20) dX10_canFall_10 (by decide) (fun c => ?_) (fun c => ?_)
  · replace h := h_iteT c h
    refine a_iconst dX10_canFall_20 ic_0 ?_
    cases h
    exact a_zret (h_Z0.1) dX10_canFall_21
  · replace h := h_iteF c h
    refine a_iload dX10_canFall_13 rfl ?_
    refine a_bipush dX10_canFall_15 bp_80 ?_
    refine a_icmp_lt (tgt := 22) dX10_canFall_17 (by decide) (fun c => ?_) (fun c => ?_)
    · replace h := h_iteT c h
      refine a_aload_n dX10_canFall_22 rfl rfl ?_
      refine b_getR hK_10 kc_0 (i := 2) rfl fl_10_26 rfl (rm_0_2 B) dX10_canFall_23 ?_
      refine b_getR hK_7 kc_7 (i := 3) rfl fl_10_149 rfl (rm_7_3 B) dX10_canFall_26 ?_
      refine a_iload dX10_canFall_29 rfl ?_
      obtain ⟨g2, h⟩ := h_gS h
      refine b_iaload kc_11 (h_inV g2) dX10_canFall_31 ?_
      refine a_if_le (tgt := 37) dX10_canFall_32 (by decide) (fun c => ?_) (fun c => ?_)
      · replace h := h_iteT c h
        refine a_iconst dX10_canFall_37 ic_0 ?_
        refine a_istore (lv' := [(6, .int (0 : Int32)), (5, .int v5x0), (0, .ref 0), (1, .int v1), (2, .int v2), (3, .long v3)]) dX10_canFall_38 (by decide) rfl ?_
        refine a_sub (lv' := [(0, .ref 0), (3, .long v3), (5, .int v5x0), (6, .int (0 : Int32))]) [2, 5, 1, 0] rfl ?_
        exact sC_canFall_L40 (d0 + 1) (by omega) hF v3 v5x0 (0 : Int32) I J B _ h
      · replace h := h_iteF c h
        refine a_iconst dX10_canFall_35 ic_1 ?_
        cases h
        exact a_zret (h_Z1.1) dX10_canFall_36
    · replace h := h_iteF c h
      refine a_iconst dX10_canFall_20 ic_0 ?_
      cases h
      exact a_zret (h_Z0.1) dX10_canFall_21
/-! CoinLoops.isChoiceAgainst(IIIJ)Z -/
theorem dX10_isChoiceAgainst_0 : decode cX10_isChoiceAgainst 0 = .ok (.iload_n 3, 1) := by decide +kernel
theorem dX10_isChoiceAgainst_1 : decode cX10_isChoiceAgainst 1 = .ok (.tableswitch 104 0 3 #[31, 31, 54, 81], 31) := by decide +kernel
theorem dX10_isChoiceAgainst_32 : decode cX10_isChoiceAgainst 32 = .ok (.ldc2_w 300, 3) := by decide +kernel
theorem dX10_isChoiceAgainst_35 : decode cX10_isChoiceAgainst 35 = .ok (.lload 4, 2) := by decide +kernel
theorem dX10_isChoiceAgainst_37 : decode cX10_isChoiceAgainst 37 = .ok (.lmul, 1) := by decide +kernel
theorem dX10_isChoiceAgainst_38 : decode cX10_isChoiceAgainst 38 = .ok (.aload_n 0, 1) := by decide +kernel
theorem dX10_isChoiceAgainst_39 : decode cX10_isChoiceAgainst 39 = .ok (.iload_n 1, 1) := by decide +kernel
theorem dX10_isChoiceAgainst_40 : decode cX10_isChoiceAgainst 40 = .ok (.iload_n 2, 1) := by decide +kernel
theorem dX10_isChoiceAgainst_41 : decode cX10_isChoiceAgainst 41 = .ok (.iconst 1, 1) := by decide +kernel
theorem dX10_isChoiceAgainst_42 : decode cX10_isChoiceAgainst 42 = .ok (.invokevirtual 195, 3) := by decide +kernel
theorem dX10_isChoiceAgainst_45 : decode cX10_isChoiceAgainst 45 = .ok (.lcmp, 1) := by decide +kernel
theorem dX10_isChoiceAgainst_46 : decode cX10_isChoiceAgainst 46 = .ok (.ifCond .ge 7, 3) := by decide +kernel
theorem dX10_isChoiceAgainst_49 : decode cX10_isChoiceAgainst 49 = .ok (.iconst 1, 1) := by decide +kernel
theorem dX10_isChoiceAgainst_50 : decode cX10_isChoiceAgainst 50 = .ok (.goto 4, 3) := by decide +kernel
theorem dX10_isChoiceAgainst_53 : decode cX10_isChoiceAgainst 53 = .ok (.iconst 0, 1) := by decide +kernel
theorem dX10_isChoiceAgainst_54 : decode cX10_isChoiceAgainst 54 = .ok (.ireturn, 1) := by decide +kernel
theorem dX10_isChoiceAgainst_55 : decode cX10_isChoiceAgainst 55 = .ok (.ldc2_w 300, 3) := by decide +kernel
theorem dX10_isChoiceAgainst_58 : decode cX10_isChoiceAgainst 58 = .ok (.lload 4, 2) := by decide +kernel
theorem dX10_isChoiceAgainst_60 : decode cX10_isChoiceAgainst 60 = .ok (.ldc2_w 189, 3) := by decide +kernel
theorem dX10_isChoiceAgainst_63 : decode cX10_isChoiceAgainst 63 = .ok (.lsub, 1) := by decide +kernel
theorem dX10_isChoiceAgainst_64 : decode cX10_isChoiceAgainst 64 = .ok (.lmul, 1) := by decide +kernel
theorem dX10_isChoiceAgainst_65 : decode cX10_isChoiceAgainst 65 = .ok (.aload_n 0, 1) := by decide +kernel
theorem dX10_isChoiceAgainst_66 : decode cX10_isChoiceAgainst 66 = .ok (.iload_n 1, 1) := by decide +kernel
theorem dX10_isChoiceAgainst_67 : decode cX10_isChoiceAgainst 67 = .ok (.iload_n 2, 1) := by decide +kernel
theorem dX10_isChoiceAgainst_68 : decode cX10_isChoiceAgainst 68 = .ok (.iconst 0, 1) := by decide +kernel
theorem dX10_isChoiceAgainst_69 : decode cX10_isChoiceAgainst 69 = .ok (.invokevirtual 195, 3) := by decide +kernel
theorem dX10_isChoiceAgainst_72 : decode cX10_isChoiceAgainst 72 = .ok (.lcmp, 1) := by decide +kernel
theorem dX10_isChoiceAgainst_73 : decode cX10_isChoiceAgainst 73 = .ok (.ifCond .ge 7, 3) := by decide +kernel
theorem dX10_isChoiceAgainst_76 : decode cX10_isChoiceAgainst 76 = .ok (.iconst 1, 1) := by decide +kernel
theorem dX10_isChoiceAgainst_77 : decode cX10_isChoiceAgainst 77 = .ok (.goto 4, 3) := by decide +kernel
theorem dX10_isChoiceAgainst_80 : decode cX10_isChoiceAgainst 80 = .ok (.iconst 0, 1) := by decide +kernel
theorem dX10_isChoiceAgainst_81 : decode cX10_isChoiceAgainst 81 = .ok (.ireturn, 1) := by decide +kernel
theorem dX10_isChoiceAgainst_82 : decode cX10_isChoiceAgainst 82 = .ok (.ldc2_w 300, 3) := by decide +kernel
theorem dX10_isChoiceAgainst_85 : decode cX10_isChoiceAgainst 85 = .ok (.lload 4, 2) := by decide +kernel
theorem dX10_isChoiceAgainst_87 : decode cX10_isChoiceAgainst 87 = .ok (.lmul, 1) := by decide +kernel
theorem dX10_isChoiceAgainst_88 : decode cX10_isChoiceAgainst 88 = .ok (.aload_n 0, 1) := by decide +kernel
theorem dX10_isChoiceAgainst_89 : decode cX10_isChoiceAgainst 89 = .ok (.iload_n 1, 1) := by decide +kernel
theorem dX10_isChoiceAgainst_90 : decode cX10_isChoiceAgainst 90 = .ok (.iload_n 2, 1) := by decide +kernel
theorem dX10_isChoiceAgainst_91 : decode cX10_isChoiceAgainst 91 = .ok (.iconst 1, 1) := by decide +kernel
theorem dX10_isChoiceAgainst_92 : decode cX10_isChoiceAgainst 92 = .ok (.invokevirtual 195, 3) := by decide +kernel
theorem dX10_isChoiceAgainst_95 : decode cX10_isChoiceAgainst 95 = .ok (.lcmp, 1) := by decide +kernel
theorem dX10_isChoiceAgainst_96 : decode cX10_isChoiceAgainst 96 = .ok (.ifCond .le 7, 3) := by decide +kernel
theorem dX10_isChoiceAgainst_99 : decode cX10_isChoiceAgainst 99 = .ok (.iconst 1, 1) := by decide +kernel
theorem dX10_isChoiceAgainst_100 : decode cX10_isChoiceAgainst 100 = .ok (.goto 4, 3) := by decide +kernel
theorem dX10_isChoiceAgainst_103 : decode cX10_isChoiceAgainst 103 = .ok (.iconst 0, 1) := by decide +kernel
theorem dX10_isChoiceAgainst_104 : decode cX10_isChoiceAgainst 104 = .ok (.ireturn, 1) := by decide +kernel
theorem dX10_isChoiceAgainst_105 : decode cX10_isChoiceAgainst 105 = .ok (.aload_n 0, 1) := by decide +kernel
theorem dX10_isChoiceAgainst_106 : decode cX10_isChoiceAgainst 106 = .ok (.iload_n 1, 1) := by decide +kernel
theorem dX10_isChoiceAgainst_107 : decode cX10_isChoiceAgainst 107 = .ok (.iload_n 2, 1) := by decide +kernel
theorem dX10_isChoiceAgainst_108 : decode cX10_isChoiceAgainst 108 = .ok (.lload 4, 2) := by decide +kernel
theorem dX10_isChoiceAgainst_110 : decode cX10_isChoiceAgainst 110 = .ok (.invokevirtual 302, 3) := by decide +kernel
theorem dX10_isChoiceAgainst_113 : decode cX10_isChoiceAgainst 113 = .ok (.ifCond .ne 7, 3) := by decide +kernel
theorem dX10_isChoiceAgainst_116 : decode cX10_isChoiceAgainst 116 = .ok (.iconst 1, 1) := by decide +kernel
theorem dX10_isChoiceAgainst_117 : decode cX10_isChoiceAgainst 117 = .ok (.goto 4, 3) := by decide +kernel
theorem dX10_isChoiceAgainst_120 : decode cX10_isChoiceAgainst 120 = .ok (.iconst 0, 1) := by decide +kernel
theorem dX10_isChoiceAgainst_121 : decode cX10_isChoiceAgainst 121 = .ok (.ireturn, 1) := by decide +kernel
def mC_isChoiceAgainst  (v1 : Int32) (v2 : Int32) (v3 : Int32) (v4 : Int64) (I : hI) (B : Bool × Bool) : Option (Int32) :=
  if v3 = 0 then
    ((mC_aheadTimesWhole v1 v2 (1 : Int32) I B).bind fun q1 =>
    if q1 ≤ ((4 : Int64) * v4) then
      some (0 : Int32)
    else
      some (1 : Int32))
  else
    (if v3 = 1 then
      ((mC_aheadTimesWhole v1 v2 (1 : Int32) I B).bind fun q1 =>
      if q1 ≤ ((4 : Int64) * v4) then
        some (0 : Int32)
      else
        some (1 : Int32))
    else
      (if v3 = 2 then
        ((mC_aheadTimesWhole v1 v2 (0 : Int32) I B).bind fun q1 =>
        if q1 ≤ ((4 : Int64) * (v4 - (27720 : Int64))) then
          some (0 : Int32)
        else
          some (1 : Int32))
      else
        (if v3 = 3 then
          ((mC_aheadTimesWhole v1 v2 (1 : Int32) I B).bind fun q1 =>
          if ((4 : Int64) * v4) ≤ q1 then
            some (0 : Int32)
          else
            some (1 : Int32))
        else
          ((mC_canFall v1 v2 v4 I B).bind fun q1 =>
          if q1 = 0 then
            some (1 : Int32)
          else
            some (0 : Int32)))))
set_option maxHeartbeats 4000000 in
theorem sC_isChoiceAgainst (d : Nat) (hd : 4 + 1 ≤ d) (v1 : Int32) (v2 : Int32) (v3 : Int32) (v4 : Int64) (I : hI) (J : hJ) (B : Bool × Bool) (q : Int32) (h : mC_isChoiceAgainst v1 v2 v3 v4 I B = some q) : HMet hFT yX10_isChoiceAgainst cX10_isChoiceAgainst 6 (some .boolean) kdC d [.ref 0, .int v1, .int v2, .int v3, .long v4] (I, J, RM B) (some (.int q)) (I, J, RM B) := by
  obtain ⟨d0, rfl, hd0⟩ := h_mono hd
  refine HMet.of (by decide) (Nat.le_of_ble_eq_true rfl) ?_
  show AW hFT cX10_isChoiceAgainst 6 (some .boolean) RX10 kdC (d0 + 1) [(0, .ref 0), (1, .int v1), (2, .int v2), (3, .int v3), (4, .long v4)] 0 [] (I, J, RM B) (some (.int q)) (I, J, RM B)
  unfold mC_isChoiceAgainst at h
  refine a_iload_n dX10_isChoiceAgainst_0 rfl rfl ?_
  by_cases n0 : v3 = 0
  · replace h := h_iteT n0 h
    refine a_topI n0 ?_
    refine a_tableIn (tgt := 32) (off := 31) dX10_isChoiceAgainst_1 (by decide) (by decide) (by decide) (by decide) ?_
    refine a_ldc2_w cn_10_300 dX10_isChoiceAgainst_32 ?_
    refine a_lload dX10_isChoiceAgainst_35 rfl ?_
    refine a_lmul dX10_isChoiceAgainst_37 ?_
    refine a_aload_n dX10_isChoiceAgainst_38 rfl rfl ?_
    refine a_iload_n dX10_isChoiceAgainst_39 rfl rfl ?_
    refine a_iload_n dX10_isChoiceAgainst_40 rfl rfl ?_
    refine a_iconst dX10_isChoiceAgainst_41 ic_1 ?_
    obtain ⟨q1, cq1, h⟩ := h_bindS h
    refine a_callV1 [.long ((4 : Int64) * v4)] yy_X10_aheadTimesWhole ml_10_195 kc_0 rfl (sC_aheadTimesWhole _ (by omega) v1 v2 (1 : Int32) I J B q1 cq1) rfl rfl (Nat.le_of_ble_eq_true rfl) dX10_isChoiceAgainst_42 ?_
    refine a_lcmp_ge (tgt := 53) dX10_isChoiceAgainst_45 dX10_isChoiceAgainst_46 (by decide) (fun c => ?_) (fun c => ?_)
    · replace h := h_iteT c h
      refine a_iconst dX10_isChoiceAgainst_53 ic_0 ?_
      cases h
      exact a_zret (h_Z0.1) dX10_isChoiceAgainst_54
    · replace h := h_iteF c h
      refine a_iconst dX10_isChoiceAgainst_49 ic_1 ?_
      refine a_goto (tgt := 54) dX10_isChoiceAgainst_50 (by decide) ?_
      cases h
      exact a_zret (h_Z1.1) dX10_isChoiceAgainst_54
  · replace h := h_iteF n0 h
    by_cases n1 : v3 = 1
    · replace h := h_iteT n1 h
      refine a_topI n1 ?_
      refine a_tableIn (tgt := 32) (off := 31) dX10_isChoiceAgainst_1 (by decide) (by decide) (by decide) (by decide) ?_
      refine a_ldc2_w cn_10_300 dX10_isChoiceAgainst_32 ?_
      refine a_lload dX10_isChoiceAgainst_35 rfl ?_
      refine a_lmul dX10_isChoiceAgainst_37 ?_
      refine a_aload_n dX10_isChoiceAgainst_38 rfl rfl ?_
      refine a_iload_n dX10_isChoiceAgainst_39 rfl rfl ?_
      refine a_iload_n dX10_isChoiceAgainst_40 rfl rfl ?_
      refine a_iconst dX10_isChoiceAgainst_41 ic_1 ?_
      obtain ⟨q1, cq1, h⟩ := h_bindS h
      refine a_callV1 [.long ((4 : Int64) * v4)] yy_X10_aheadTimesWhole ml_10_195 kc_0 rfl (sC_aheadTimesWhole _ (by omega) v1 v2 (1 : Int32) I J B q1 cq1) rfl rfl (Nat.le_of_ble_eq_true rfl) dX10_isChoiceAgainst_42 ?_
      refine a_lcmp_ge (tgt := 53) dX10_isChoiceAgainst_45 dX10_isChoiceAgainst_46 (by decide) (fun c => ?_) (fun c => ?_)
      · replace h := h_iteT c h
        refine a_iconst dX10_isChoiceAgainst_53 ic_0 ?_
        cases h
        exact a_zret (h_Z0.1) dX10_isChoiceAgainst_54
      · replace h := h_iteF c h
        refine a_iconst dX10_isChoiceAgainst_49 ic_1 ?_
        refine a_goto (tgt := 54) dX10_isChoiceAgainst_50 (by decide) ?_
        cases h
        exact a_zret (h_Z1.1) dX10_isChoiceAgainst_54
    · replace h := h_iteF n1 h
      by_cases n2 : v3 = 2
      · replace h := h_iteT n2 h
        refine a_topI n2 ?_
        refine a_tableIn (tgt := 55) (off := 54) dX10_isChoiceAgainst_1 (by decide) (by decide) (by decide) (by decide) ?_
        refine a_ldc2_w cn_10_300 dX10_isChoiceAgainst_55 ?_
        refine a_lload dX10_isChoiceAgainst_58 rfl ?_
        refine a_ldc2_w cn_10_189 dX10_isChoiceAgainst_60 ?_
        refine a_lsub dX10_isChoiceAgainst_63 ?_
        refine a_lmul dX10_isChoiceAgainst_64 ?_
        refine a_aload_n dX10_isChoiceAgainst_65 rfl rfl ?_
        refine a_iload_n dX10_isChoiceAgainst_66 rfl rfl ?_
        refine a_iload_n dX10_isChoiceAgainst_67 rfl rfl ?_
        refine a_iconst dX10_isChoiceAgainst_68 ic_0 ?_
        obtain ⟨q1, cq1, h⟩ := h_bindS h
        refine a_callV1 [.long ((4 : Int64) * (v4 - (27720 : Int64)))] yy_X10_aheadTimesWhole ml_10_195 kc_0 rfl (sC_aheadTimesWhole _ (by omega) v1 v2 (0 : Int32) I J B q1 cq1) rfl rfl (Nat.le_of_ble_eq_true rfl) dX10_isChoiceAgainst_69 ?_
        refine a_lcmp_ge (tgt := 80) dX10_isChoiceAgainst_72 dX10_isChoiceAgainst_73 (by decide) (fun c => ?_) (fun c => ?_)
        · replace h := h_iteT c h
          refine a_iconst dX10_isChoiceAgainst_80 ic_0 ?_
          cases h
          exact a_zret (h_Z0.1) dX10_isChoiceAgainst_81
        · replace h := h_iteF c h
          refine a_iconst dX10_isChoiceAgainst_76 ic_1 ?_
          refine a_goto (tgt := 81) dX10_isChoiceAgainst_77 (by decide) ?_
          cases h
          exact a_zret (h_Z1.1) dX10_isChoiceAgainst_81
      · replace h := h_iteF n2 h
        by_cases n3 : v3 = 3
        · replace h := h_iteT n3 h
          refine a_topI n3 ?_
          refine a_tableIn (tgt := 82) (off := 81) dX10_isChoiceAgainst_1 (by decide) (by decide) (by decide) (by decide) ?_
          refine a_ldc2_w cn_10_300 dX10_isChoiceAgainst_82 ?_
          refine a_lload dX10_isChoiceAgainst_85 rfl ?_
          refine a_lmul dX10_isChoiceAgainst_87 ?_
          refine a_aload_n dX10_isChoiceAgainst_88 rfl rfl ?_
          refine a_iload_n dX10_isChoiceAgainst_89 rfl rfl ?_
          refine a_iload_n dX10_isChoiceAgainst_90 rfl rfl ?_
          refine a_iconst dX10_isChoiceAgainst_91 ic_1 ?_
          obtain ⟨q1, cq1, h⟩ := h_bindS h
          refine a_callV1 [.long ((4 : Int64) * v4)] yy_X10_aheadTimesWhole ml_10_195 kc_0 rfl (sC_aheadTimesWhole _ (by omega) v1 v2 (1 : Int32) I J B q1 cq1) rfl rfl (Nat.le_of_ble_eq_true rfl) dX10_isChoiceAgainst_92 ?_
          refine a_lcmp_le (tgt := 103) dX10_isChoiceAgainst_95 dX10_isChoiceAgainst_96 (by decide) (fun c => ?_) (fun c => ?_)
          · replace h := h_iteT c h
            refine a_iconst dX10_isChoiceAgainst_103 ic_0 ?_
            cases h
            exact a_zret (h_Z0.1) dX10_isChoiceAgainst_104
          · replace h := h_iteF c h
            refine a_iconst dX10_isChoiceAgainst_99 ic_1 ?_
            refine a_goto (tgt := 104) dX10_isChoiceAgainst_100 (by decide) ?_
            cases h
            exact a_zret (h_Z1.1) dX10_isChoiceAgainst_104
        · replace h := h_iteF n3 h
          refine a_tableOut (tgt := 105) dX10_isChoiceAgainst_1 (h_tb4 n0 n1 n2 n3) (by decide) ?_
          refine a_aload_n dX10_isChoiceAgainst_105 rfl rfl ?_
          refine a_iload_n dX10_isChoiceAgainst_106 rfl rfl ?_
          refine a_iload_n dX10_isChoiceAgainst_107 rfl rfl ?_
          refine a_lload dX10_isChoiceAgainst_108 rfl ?_
          obtain ⟨q1, cq1, h⟩ := h_bindS h
          refine a_callV1 [] yy_X10_canFall ml_10_302 kc_0 rfl (sC_canFall _ (by omega) v1 v2 v4 I J B q1 cq1) rfl rfl (Nat.le_of_ble_eq_true rfl) dX10_isChoiceAgainst_110 ?_
          refine a_if_ne (tgt := 120) dX10_isChoiceAgainst_113 (by decide) (fun c => ?_) (fun c => ?_)
          · replace h := h_iteF c h
            refine a_iconst dX10_isChoiceAgainst_120 ic_0 ?_
            cases h
            exact a_zret (h_Z0.1) dX10_isChoiceAgainst_121
          · replace h := h_iteT c h
            refine a_iconst dX10_isChoiceAgainst_116 ic_1 ?_
            refine a_goto (tgt := 121) dX10_isChoiceAgainst_117 (by decide) ?_
            cases h
            exact a_zret (h_Z1.1) dX10_isChoiceAgainst_121
