/-! CoinLoops$Reader.fail()V -/
theorem dX6_fail_0 : decode cX6_fail 0 = .ok (.aload_n 0, 1) := by decide +kernel
theorem dX6_fail_1 : decode cX6_fail 1 = .ok (.getfield 45, 3) := by decide +kernel
theorem dX6_fail_4 : decode cX6_fail 4 = .ok (.iconst (-1), 1) := by decide +kernel
theorem dX6_fail_5 : decode cX6_fail 5 = .ok (.if_icmp .eq 21, 3) := by decide +kernel
theorem dX6_fail_8 : decode cX6_fail 8 = .ok (.aload_n 0, 1) := by decide +kernel
theorem dX6_fail_9 : decode cX6_fail 9 = .ok (.aload_n 0, 1) := by decide +kernel
theorem dX6_fail_10 : decode cX6_fail 10 = .ok (.getfield 18, 3) := by decide +kernel
theorem dX6_fail_13 : decode cX6_fail 13 = .ok (.aload_n 0, 1) := by decide +kernel
theorem dX6_fail_14 : decode cX6_fail 14 = .ok (.getfield 42, 3) := by decide +kernel
theorem dX6_fail_17 : decode cX6_fail 17 = .ok (.iaload, 1) := by decide +kernel
theorem dX6_fail_18 : decode cX6_fail 18 = .ok (.putfield 48, 3) := by decide +kernel
theorem dX6_fail_21 : decode cX6_fail 21 = .ok (.aload_n 0, 1) := by decide +kernel
theorem dX6_fail_22 : decode cX6_fail 22 = .ok (.iconst (-1), 1) := by decide +kernel
theorem dX6_fail_23 : decode cX6_fail 23 = .ok (.putfield 45, 3) := by decide +kernel
theorem dX6_fail_26 : decode cX6_fail 26 = .ok (.return_, 1) := by decide +kernel
def mRd_fail   (I : hI) : Option (hI) :=
  if (I 1 7) = (-1 : Int32) then
    some I
  else
    (h_g (h_in (I 1 6) 501) <|
    h_let (h_u I 1 8 (I 4 (I 1 6).toNatClampNeg)) fun I2 =>
    h_let (h_u I2 1 7 (-1 : Int32)) fun I3 =>
    some I3)
set_option maxHeartbeats 4000000 in
theorem sRd_fail (d : Nat) (hd : 0 ≤ d)  (I : hI) (J : hJ) (B : Bool × Bool) (q : hI) (h : mRd_fail I = some q) : HMet hFT yX6_fail cX6_fail 1 none kdC d [.ref 1] (I, J, RM B) none (q, J, RM B) := by
  refine HMet.of (by decide) (Nat.le_of_ble_eq_true rfl) ?_
  show AW hFT cX6_fail 1 none RX6 kdC d [(0, .ref 1)] 0 [] (I, J, RM B) none (q, J, RM B)
  unfold mRd_fail at h
  refine a_aload_n dX6_fail_0 rfl rfl ?_
  refine b_getI hK_6 kc_1 (i := 7) rfl fl_6_45 rfl dX6_fail_1 ?_
  refine a_iconst dX6_fail_4 ic_m1 ?_
  refine a_icmp_eq (tgt := 26) dX6_fail_5 (by decide) (fun c => ?_) (fun c => ?_)
  · replace h := h_iteT c h
    cases h
    exact a_vret dX6_fail_26
  · replace h := h_iteF c h
    refine a_aload_n dX6_fail_8 rfl rfl ?_
    refine a_aload_n dX6_fail_9 rfl rfl ?_
    refine b_getR hK_6 kc_1 (i := 3) rfl fl_6_18 rfl (rm_1_3 B) dX6_fail_10 ?_
    refine a_aload_n dX6_fail_13 rfl rfl ?_
    refine b_getI hK_6 kc_1 (i := 6) rfl fl_6_42 rfl dX6_fail_14 ?_
    obtain ⟨g1, h⟩ := h_gS h
    refine b_iaload kc_4 (h_inV g1) dX6_fail_17 ?_
    refine b_putI hK_6 kc_1 (i := 8) rfl fl_6_48 rfl rfl (h_NI _) dX6_fail_18 ?_
    obtain ⟨I2, eI2, h⟩ := h_letS h
    refine a_memI eI2 ?_
    refine a_aload_n dX6_fail_21 rfl rfl ?_
    refine a_iconst dX6_fail_22 ic_m1 ?_
    refine b_putI hK_6 kc_1 (i := 7) rfl fl_6_45 rfl rfl (h_NI _) dX6_fail_23 ?_
    obtain ⟨I3, eI3, h⟩ := h_letS h
    refine a_memI eI3 ?_
    cases h
    exact a_vret dX6_fail_26
/-! CoinLoops$Reader.next()V -/
theorem dX6_next_0 : decode cX6_next 0 = .ok (.aload_n 0, 1) := by decide +kernel
theorem dX6_next_1 : decode cX6_next 1 = .ok (.getfield 45, 3) := by decide +kernel
theorem dX6_next_4 : decode cX6_next 4 = .ok (.iconst (-1), 1) := by decide +kernel
theorem dX6_next_5 : decode cX6_next 5 = .ok (.if_icmp .eq 37, 3) := by decide +kernel
theorem dX6_next_8 : decode cX6_next 8 = .ok (.aload_n 0, 1) := by decide +kernel
theorem dX6_next_9 : decode cX6_next 9 = .ok (.getfield 42, 3) := by decide +kernel
theorem dX6_next_12 : decode cX6_next 12 = .ok (.aload_n 0, 1) := by decide +kernel
theorem dX6_next_13 : decode cX6_next 13 = .ok (.getfield 32, 3) := by decide +kernel
theorem dX6_next_16 : decode cX6_next 16 = .ok (.if_icmp .ge 26, 3) := by decide +kernel
theorem dX6_next_19 : decode cX6_next 19 = .ok (.aload_n 0, 1) := by decide +kernel
theorem dX6_next_20 : decode cX6_next 20 = .ok (.dup, 1) := by decide +kernel
theorem dX6_next_21 : decode cX6_next 21 = .ok (.getfield 42, 3) := by decide +kernel
theorem dX6_next_24 : decode cX6_next 24 = .ok (.iconst 1, 1) := by decide +kernel
theorem dX6_next_25 : decode cX6_next 25 = .ok (.iadd, 1) := by decide +kernel
theorem dX6_next_26 : decode cX6_next 26 = .ok (.putfield 42, 3) := by decide +kernel
theorem dX6_next_29 : decode cX6_next 29 = .ok (.aload_n 0, 1) := by decide +kernel
theorem dX6_next_30 : decode cX6_next 30 = .ok (.aload_n 0, 1) := by decide +kernel
theorem dX6_next_31 : decode cX6_next 31 = .ok (.getfield 15, 3) := by decide +kernel
theorem dX6_next_34 : decode cX6_next 34 = .ok (.aload_n 0, 1) := by decide +kernel
theorem dX6_next_35 : decode cX6_next 35 = .ok (.getfield 42, 3) := by decide +kernel
theorem dX6_next_38 : decode cX6_next 38 = .ok (.iaload, 1) := by decide +kernel
theorem dX6_next_39 : decode cX6_next 39 = .ok (.putfield 45, 3) := by decide +kernel
theorem dX6_next_42 : decode cX6_next 42 = .ok (.return_, 1) := by decide +kernel
def mRd_next   (I : hI) : Option (hI) :=
  if (I 1 7) = (-1 : Int32) then
    some I
  else
    (if (I 1 5) ≤ (I 1 6) then
      some I
    else
      (h_let (h_u I 1 6 ((I 1 6) + (1 : Int32))) fun I1 =>
      h_g (h_in (I1 1 6) 501) <|
      h_let (h_u I1 1 7 (I1 3 (I1 1 6).toNatClampNeg)) fun I3 =>
      some I3))
set_option maxHeartbeats 4000000 in
theorem sRd_next (d : Nat) (hd : 0 ≤ d)  (I : hI) (J : hJ) (B : Bool × Bool) (q : hI) (h : mRd_next I = some q) : HMet hFT yX6_next cX6_next 1 none kdC d [.ref 1] (I, J, RM B) none (q, J, RM B) := by
  refine HMet.of (by decide) (Nat.le_of_ble_eq_true rfl) ?_
  show AW hFT cX6_next 1 none RX6 kdC d [(0, .ref 1)] 0 [] (I, J, RM B) none (q, J, RM B)
  unfold mRd_next at h
  refine a_aload_n dX6_next_0 rfl rfl ?_
  refine b_getI hK_6 kc_1 (i := 7) rfl fl_6_45 rfl dX6_next_1 ?_
  refine a_iconst dX6_next_4 ic_m1 ?_
  refine a_icmp_eq (tgt := 42) dX6_next_5 (by decide) (fun c => ?_) (fun c => ?_)
  · replace h := h_iteT c h
    cases h
    exact a_vret dX6_next_42
  · replace h := h_iteF c h
    refine a_aload_n dX6_next_8 rfl rfl ?_
    refine b_getI hK_6 kc_1 (i := 6) rfl fl_6_42 rfl dX6_next_9 ?_
    refine a_aload_n dX6_next_12 rfl rfl ?_
    refine b_getI hK_6 kc_1 (i := 5) rfl fl_6_32 rfl dX6_next_13 ?_
    refine a_icmp_ge (tgt := 42) dX6_next_16 (by decide) (fun c => ?_) (fun c => ?_)
    · replace h := h_iteT c h
      cases h
      exact a_vret dX6_next_42
    · replace h := h_iteF c h
      refine a_aload_n dX6_next_19 rfl rfl ?_
      refine a_dup dX6_next_20 rfl ?_
      refine b_getI hK_6 kc_1 (i := 6) rfl fl_6_42 rfl dX6_next_21 ?_
      refine a_iconst dX6_next_24 ic_1 ?_
      refine a_iadd dX6_next_25 ?_
      refine b_putI hK_6 kc_1 (i := 6) rfl fl_6_42 rfl rfl (h_NI _) dX6_next_26 ?_
      obtain ⟨I1, eI1, h⟩ := h_letS h
      refine a_memI eI1 ?_
      refine a_aload_n dX6_next_29 rfl rfl ?_
      refine a_aload_n dX6_next_30 rfl rfl ?_
      refine b_getR hK_6 kc_1 (i := 2) rfl fl_6_15 rfl (rm_1_2 B) dX6_next_31 ?_
      refine a_aload_n dX6_next_34 rfl rfl ?_
      refine b_getI hK_6 kc_1 (i := 6) rfl fl_6_42 rfl dX6_next_35 ?_
      obtain ⟨g2, h⟩ := h_gS h
      refine b_iaload kc_3 (h_inV g2) dX6_next_38 ?_
      refine b_putI hK_6 kc_1 (i := 7) rfl fl_6_45 rfl rfl (h_NI _) dX6_next_39 ?_
      obtain ⟨I3, eI3, h⟩ := h_letS h
      refine a_memI eI3 ?_
      cases h
      exact a_vret dX6_next_42
/-! CoinLoops$Reader.readSumPart(I)V -/
theorem dX6_readSumPart_0 : decode cX6_readSumPart 0 = .ok (.aload_n 0, 1) := by decide +kernel
theorem dX6_readSumPart_1 : decode cX6_readSumPart 1 = .ok (.getfield 45, 3) := by decide +kernel
theorem dX6_readSumPart_4 : decode cX6_readSumPart 4 = .ok (.sipush 256, 3) := by decide +kernel
theorem dX6_readSumPart_7 : decode cX6_readSumPart 7 = .ok (.if_icmp .ne 21, 3) := by decide +kernel
theorem dX6_readSumPart_10 : decode cX6_readSumPart 10 = .ok (.aload_n 0, 1) := by decide +kernel
theorem dX6_readSumPart_11 : decode cX6_readSumPart 11 = .ok (.getfield 21, 3) := by decide +kernel
theorem dX6_readSumPart_14 : decode cX6_readSumPart 14 = .ok (.aload_n 0, 1) := by decide +kernel
theorem dX6_readSumPart_15 : decode cX6_readSumPart 15 = .ok (.getfield 42, 3) := by decide +kernel
theorem dX6_readSumPart_18 : decode cX6_readSumPart 18 = .ok (.iaload, 1) := by decide +kernel
theorem dX6_readSumPart_19 : decode cX6_readSumPart 19 = .ok (.bipush 99, 2) := by decide +kernel
theorem dX6_readSumPart_21 : decode cX6_readSumPart 21 = .ok (.if_icmp .gt 7, 3) := by decide +kernel
theorem dX6_readSumPart_24 : decode cX6_readSumPart 24 = .ok (.iconst 1, 1) := by decide +kernel
theorem dX6_readSumPart_25 : decode cX6_readSumPart 25 = .ok (.goto 4, 3) := by decide +kernel
theorem dX6_readSumPart_28 : decode cX6_readSumPart 28 = .ok (.iconst 0, 1) := by decide +kernel
theorem dX6_readSumPart_29 : decode cX6_readSumPart 29 = .ok (.istore_n 2, 1) := by decide +kernel
theorem dX6_readSumPart_30 : decode cX6_readSumPart 30 = .ok (.iload_n 2, 1) := by decide +kernel
theorem dX6_readSumPart_31 : decode cX6_readSumPart 31 = .ok (.ifCond .eq 17, 3) := by decide +kernel
theorem dX6_readSumPart_34 : decode cX6_readSumPart 34 = .ok (.iload_n 1, 1) := by decide +kernel
theorem dX6_readSumPart_35 : decode cX6_readSumPart 35 = .ok (.aload_n 0, 1) := by decide +kernel
theorem dX6_readSumPart_36 : decode cX6_readSumPart 36 = .ok (.getfield 21, 3) := by decide +kernel
theorem dX6_readSumPart_39 : decode cX6_readSumPart 39 = .ok (.aload_n 0, 1) := by decide +kernel
theorem dX6_readSumPart_40 : decode cX6_readSumPart 40 = .ok (.getfield 42, 3) := by decide +kernel
theorem dX6_readSumPart_43 : decode cX6_readSumPart 43 = .ok (.iaload, 1) := by decide +kernel
theorem dX6_readSumPart_44 : decode cX6_readSumPart 44 = .ok (.imul, 1) := by decide +kernel
theorem dX6_readSumPart_45 : decode cX6_readSumPart 45 = .ok (.goto 4, 3) := by decide +kernel
theorem dX6_readSumPart_48 : decode cX6_readSumPart 48 = .ok (.iload_n 1, 1) := by decide +kernel
theorem dX6_readSumPart_49 : decode cX6_readSumPart 49 = .ok (.istore_n 3, 1) := by decide +kernel
theorem dX6_readSumPart_50 : decode cX6_readSumPart 50 = .ok (.iload_n 2, 1) := by decide +kernel
theorem dX6_readSumPart_51 : decode cX6_readSumPart 51 = .ok (.ifCond .eq 7, 3) := by decide +kernel
theorem dX6_readSumPart_54 : decode cX6_readSumPart 54 = .ok (.aload_n 0, 1) := by decide +kernel
theorem dX6_readSumPart_55 : decode cX6_readSumPart 55 = .ok (.invokevirtual 54, 3) := by decide +kernel
theorem dX6_readSumPart_58 : decode cX6_readSumPart 58 = .ok (.aload_n 0, 1) := by decide +kernel
theorem dX6_readSumPart_59 : decode cX6_readSumPart 59 = .ok (.getfield 45, 3) := by decide +kernel
theorem dX6_readSumPart_62 : decode cX6_readSumPart 62 = .ok (.sipush 258, 3) := by decide +kernel
theorem dX6_readSumPart_65 : decode cX6_readSumPart 65 = .ok (.if_icmp .ne 20, 3) := by decide +kernel
theorem dX6_readSumPart_68 : decode cX6_readSumPart 68 = .ok (.aload_n 0, 1) := by decide +kernel
theorem dX6_readSumPart_69 : decode cX6_readSumPart 69 = .ok (.dup, 1) := by decide +kernel
theorem dX6_readSumPart_70 : decode cX6_readSumPart 70 = .ok (.getfield 61, 3) := by decide +kernel
theorem dX6_readSumPart_73 : decode cX6_readSumPart 73 = .ok (.iload_n 3, 1) := by decide +kernel
theorem dX6_readSumPart_74 : decode cX6_readSumPart 74 = .ok (.iadd, 1) := by decide +kernel
theorem dX6_readSumPart_75 : decode cX6_readSumPart 75 = .ok (.putfield 61, 3) := by decide +kernel
theorem dX6_readSumPart_78 : decode cX6_readSumPart 78 = .ok (.aload_n 0, 1) := by decide +kernel
theorem dX6_readSumPart_79 : decode cX6_readSumPart 79 = .ok (.invokevirtual 54, 3) := by decide +kernel
theorem dX6_readSumPart_82 : decode cX6_readSumPart 82 = .ok (.goto 51, 3) := by decide +kernel
theorem dX6_readSumPart_85 : decode cX6_readSumPart 85 = .ok (.aload_n 0, 1) := by decide +kernel
theorem dX6_readSumPart_86 : decode cX6_readSumPart 86 = .ok (.getfield 45, 3) := by decide +kernel
theorem dX6_readSumPart_89 : decode cX6_readSumPart 89 = .ok (.sipush 259, 3) := by decide +kernel
theorem dX6_readSumPart_92 : decode cX6_readSumPart 92 = .ok (.if_icmp .ne 20, 3) := by decide +kernel
theorem dX6_readSumPart_95 : decode cX6_readSumPart 95 = .ok (.aload_n 0, 1) := by decide +kernel
theorem dX6_readSumPart_96 : decode cX6_readSumPart 96 = .ok (.dup, 1) := by decide +kernel
theorem dX6_readSumPart_97 : decode cX6_readSumPart 97 = .ok (.getfield 64, 3) := by decide +kernel
theorem dX6_readSumPart_100 : decode cX6_readSumPart 100 = .ok (.iload_n 3, 1) := by decide +kernel
theorem dX6_readSumPart_101 : decode cX6_readSumPart 101 = .ok (.iadd, 1) := by decide +kernel
theorem dX6_readSumPart_102 : decode cX6_readSumPart 102 = .ok (.putfield 64, 3) := by decide +kernel
theorem dX6_readSumPart_105 : decode cX6_readSumPart 105 = .ok (.aload_n 0, 1) := by decide +kernel
theorem dX6_readSumPart_106 : decode cX6_readSumPart 106 = .ok (.invokevirtual 54, 3) := by decide +kernel
theorem dX6_readSumPart_109 : decode cX6_readSumPart 109 = .ok (.goto 24, 3) := by decide +kernel
theorem dX6_readSumPart_112 : decode cX6_readSumPart 112 = .ok (.iload_n 2, 1) := by decide +kernel
theorem dX6_readSumPart_113 : decode cX6_readSumPart 113 = .ok (.ifCond .eq 16, 3) := by decide +kernel
theorem dX6_readSumPart_116 : decode cX6_readSumPart 116 = .ok (.aload_n 0, 1) := by decide +kernel
theorem dX6_readSumPart_117 : decode cX6_readSumPart 117 = .ok (.dup, 1) := by decide +kernel
theorem dX6_readSumPart_118 : decode cX6_readSumPart 118 = .ok (.getfield 67, 3) := by decide +kernel
theorem dX6_readSumPart_121 : decode cX6_readSumPart 121 = .ok (.iload_n 3, 1) := by decide +kernel
theorem dX6_readSumPart_122 : decode cX6_readSumPart 122 = .ok (.iadd, 1) := by decide +kernel
theorem dX6_readSumPart_123 : decode cX6_readSumPart 123 = .ok (.putfield 67, 3) := by decide +kernel
theorem dX6_readSumPart_126 : decode cX6_readSumPart 126 = .ok (.goto 7, 3) := by decide +kernel
theorem dX6_readSumPart_129 : decode cX6_readSumPart 129 = .ok (.aload_n 0, 1) := by decide +kernel
theorem dX6_readSumPart_130 : decode cX6_readSumPart 130 = .ok (.invokevirtual 51, 3) := by decide +kernel
theorem dX6_readSumPart_133 : decode cX6_readSumPart 133 = .ok (.return_, 1) := by decide +kernel
def mRd_readSumPart_58  (v2 : Int32) (v3 : Int32) (I : hI) : Option (hI) :=
  if (I 1 7) = (258 : Int32) then
    (h_let (h_u I 1 9 ((I 1 9) + v3)) fun I1 =>
    (mRd_next I1).bind fun q2 =>
    some q2)
  else
    (if (I 1 7) = (259 : Int32) then
      (h_let (h_u I 1 10 ((I 1 10) + v3)) fun I1 =>
      (mRd_next I1).bind fun q2 =>
      some q2)
    else
      (if v2 = 0 then
        ((mRd_fail I).bind fun q1 =>
        some q1)
      else
        (h_let (h_u I 1 11 ((I 1 11) + v3)) fun I1 =>
        some I1)))
set_option maxHeartbeats 4000000 in
theorem sRd_readSumPart_58 (d : Nat) (hd : 0 + 1 ≤ d) (v2 : Int32) (v3 : Int32) (I : hI) (J : hJ) (B : Bool × Bool) (q : hI) (h : mRd_readSumPart_58 v2 v3 I = some q) : AW hFT cX6_readSumPart 4 none RX6 kdC d [(0, .ref 1), (2, .int v2), (3, .int v3)] 58 [] (I, J, RM B) none (q, J, RM B) := by
  obtain ⟨d0, rfl, hd0⟩ := h_mono hd
  unfold mRd_readSumPart_58 at h
  refine a_aload_n dX6_readSumPart_58 rfl rfl ?_
  refine b_getI hK_6 kc_1 (i := 7) rfl fl_6_45 rfl dX6_readSumPart_59 ?_
  refine a_sipush dX6_readSumPart_62 sq_258 ?_
  refine a_icmp_ne (tgt := 85) dX6_readSumPart_65 (by decide) (fun c => ?_) (fun c => ?_)
  · replace h := h_iteF c h
    refine a_aload_n dX6_readSumPart_85 rfl rfl ?_
    refine b_getI hK_6 kc_1 (i := 7) rfl fl_6_45 rfl dX6_readSumPart_86 ?_
    refine a_sipush dX6_readSumPart_89 sq_259 ?_
    refine a_icmp_ne (tgt := 112) dX6_readSumPart_92 (by decide) (fun c => ?_) (fun c => ?_)
    · replace h := h_iteF c h
      refine a_iload_n dX6_readSumPart_112 rfl rfl ?_
      refine a_if_eq (tgt := 129) dX6_readSumPart_113 (by decide) (fun c => ?_) (fun c => ?_)
      · replace h := h_iteT c h
        refine a_aload_n dX6_readSumPart_129 rfl rfl ?_
        obtain ⟨q1, cq1, h⟩ := h_bindS h
        refine a_callV0 [] yy_X6_fail ml_6_51 kc_1 rfl (sRd_fail _ (by omega)  I J B q1 cq1) rfl rfl (Nat.le_of_ble_eq_true rfl) dX6_readSumPart_130 ?_
        cases h
        exact a_vret dX6_readSumPart_133
      · replace h := h_iteF c h
        refine a_aload_n dX6_readSumPart_116 rfl rfl ?_
        refine a_dup dX6_readSumPart_117 rfl ?_
        refine b_getI hK_6 kc_1 (i := 11) rfl fl_6_67 rfl dX6_readSumPart_118 ?_
        refine a_iload_n dX6_readSumPart_121 rfl rfl ?_
        refine a_iadd dX6_readSumPart_122 ?_
        refine b_putI hK_6 kc_1 (i := 11) rfl fl_6_67 rfl rfl (h_NI _) dX6_readSumPart_123 ?_
        obtain ⟨I1, eI1, h⟩ := h_letS h
        refine a_memI eI1 ?_
        refine a_goto (tgt := 133) dX6_readSumPart_126 (by decide) ?_
        cases h
        exact a_vret dX6_readSumPart_133
    · replace h := h_iteT c h
      refine a_aload_n dX6_readSumPart_95 rfl rfl ?_
      refine a_dup dX6_readSumPart_96 rfl ?_
      refine b_getI hK_6 kc_1 (i := 10) rfl fl_6_64 rfl dX6_readSumPart_97 ?_
      refine a_iload_n dX6_readSumPart_100 rfl rfl ?_
      refine a_iadd dX6_readSumPart_101 ?_
      refine b_putI hK_6 kc_1 (i := 10) rfl fl_6_64 rfl rfl (h_NI _) dX6_readSumPart_102 ?_
      obtain ⟨I1, eI1, h⟩ := h_letS h
      refine a_memI eI1 ?_
      refine a_aload_n dX6_readSumPart_105 rfl rfl ?_
      obtain ⟨q2, cq2, h⟩ := h_bindS h
      refine a_callV0 [] yy_X6_next ml_6_54 kc_1 rfl (sRd_next _ (by omega)  I1 J B q2 cq2) rfl rfl (Nat.le_of_ble_eq_true rfl) dX6_readSumPart_106 ?_
      refine a_goto (tgt := 133) dX6_readSumPart_109 (by decide) ?_
      cases h
      exact a_vret dX6_readSumPart_133
  · replace h := h_iteT c h
    refine a_aload_n dX6_readSumPart_68 rfl rfl ?_
    refine a_dup dX6_readSumPart_69 rfl ?_
    refine b_getI hK_6 kc_1 (i := 9) rfl fl_6_61 rfl dX6_readSumPart_70 ?_
    refine a_iload_n dX6_readSumPart_73 rfl rfl ?_
    refine a_iadd dX6_readSumPart_74 ?_
    refine b_putI hK_6 kc_1 (i := 9) rfl fl_6_61 rfl rfl (h_NI _) dX6_readSumPart_75 ?_
    obtain ⟨I1, eI1, h⟩ := h_letS h
    refine a_memI eI1 ?_
    refine a_aload_n dX6_readSumPart_78 rfl rfl ?_
    obtain ⟨q2, cq2, h⟩ := h_bindS h
    refine a_callV0 [] yy_X6_next ml_6_54 kc_1 rfl (sRd_next _ (by omega)  I1 J B q2 cq2) rfl rfl (Nat.le_of_ble_eq_true rfl) dX6_readSumPart_79 ?_
    refine a_goto (tgt := 133) dX6_readSumPart_82 (by decide) ?_
    cases h
    exact a_vret dX6_readSumPart_133
def mRd_readSumPart_49  (v2 : Int32) (vs0 : Int32) (I : hI) : Option (hI) :=
  if v2 = 0 then
    mRd_readSumPart_58 v2 vs0 I
  else
    ((mRd_next I).bind fun q1 =>
    mRd_readSumPart_58 v2 vs0 q1)
set_option maxHeartbeats 4000000 in
theorem sRd_readSumPart_49 (d : Nat) (hd : 0 + 1 ≤ d) (v2 : Int32) (vs0 : Int32) (I : hI) (J : hJ) (B : Bool × Bool) (q : hI) (h : mRd_readSumPart_49 v2 vs0 I = some q) : AW hFT cX6_readSumPart 4 none RX6 kdC d [(0, .ref 1), (2, .int v2)] 49 [.int vs0] (I, J, RM B) none (q, J, RM B) := by
  obtain ⟨d0, rfl, hd0⟩ := h_mono hd
  unfold mRd_readSumPart_49 at h
  refine a_istore_n (lv' := [(3, .int vs0), (0, .ref 1), (2, .int v2)]) dX6_readSumPart_49 rfl (by decide) rfl ?_
  refine a_iload_n dX6_readSumPart_50 rfl rfl ?_
  refine a_if_eq (tgt := 58) dX6_readSumPart_51 (by decide) (fun c => ?_) (fun c => ?_)
  · replace h := h_iteT c h
    refine a_sub (lv' := [(0, .ref 1), (2, .int v2), (3, .int vs0)]) [1, 2, 0] rfl ?_
    exact sRd_readSumPart_58 (d0 + 1) (by omega) v2 vs0 I J B _ h
  · replace h := h_iteF c h
    refine a_aload_n dX6_readSumPart_54 rfl rfl ?_
    obtain ⟨q1, cq1, h⟩ := h_bindS h
    refine a_callV0 [] yy_X6_next ml_6_54 kc_1 rfl (sRd_next _ (by omega)  I J B q1 cq1) rfl rfl (Nat.le_of_ble_eq_true rfl) dX6_readSumPart_55 ?_
    refine a_sub (lv' := [(0, .ref 1), (2, .int v2), (3, .int vs0)]) [1, 2, 0] rfl ?_
    exact sRd_readSumPart_58 (d0 + 1) (by omega) v2 vs0 q1 J B _ h
def mRd_readSumPart_29  (v1 : Int32) (vs0 : Int32) (I : hI) : Option (hI) :=
  if vs0 = 0 then
    mRd_readSumPart_49 vs0 v1 I
  else
    (h_g (h_in (I 1 6) 501) <|
    mRd_readSumPart_49 vs0 (v1 * (I 5 (I 1 6).toNatClampNeg)) I)
set_option maxHeartbeats 4000000 in
theorem sRd_readSumPart_29 (d : Nat) (hd : 0 + 1 ≤ d) (v1 : Int32) (vs0 : Int32) (I : hI) (J : hJ) (B : Bool × Bool) (q : hI) (h : mRd_readSumPart_29 v1 vs0 I = some q) : AW hFT cX6_readSumPart 4 none RX6 kdC d [(0, .ref 1), (1, .int v1)] 29 [.int vs0] (I, J, RM B) none (q, J, RM B) := by
  obtain ⟨d0, rfl, hd0⟩ := h_mono hd
  unfold mRd_readSumPart_29 at h
  refine a_istore_n (lv' := [(2, .int vs0), (0, .ref 1), (1, .int v1)]) dX6_readSumPart_29 rfl (by decide) rfl ?_
  refine a_iload_n dX6_readSumPart_30 rfl rfl ?_
  refine a_if_eq (tgt := 48) dX6_readSumPart_31 (by decide) (fun c => ?_) (fun c => ?_)
  · replace h := h_iteT c h
    refine a_iload_n dX6_readSumPart_48 rfl rfl ?_
    refine a_sub (lv' := [(0, .ref 1), (2, .int vs0)]) [1, 0] rfl ?_
    exact sRd_readSumPart_49 (d0 + 1) (by omega) vs0 v1 I J B _ h
  · replace h := h_iteF c h
    refine a_iload_n dX6_readSumPart_34 rfl rfl ?_
    refine a_aload_n dX6_readSumPart_35 rfl rfl ?_
    refine b_getR hK_6 kc_1 (i := 4) rfl fl_6_21 rfl (rm_1_4 B) dX6_readSumPart_36 ?_
    refine a_aload_n dX6_readSumPart_39 rfl rfl ?_
    refine b_getI hK_6 kc_1 (i := 6) rfl fl_6_42 rfl dX6_readSumPart_40 ?_
    obtain ⟨g1, h⟩ := h_gS h
    refine b_iaload kc_5 (h_inV g1) dX6_readSumPart_43 ?_
    refine a_imul dX6_readSumPart_44 ?_
    refine a_goto (tgt := 49) dX6_readSumPart_45 (by decide) ?_
    refine a_sub (lv' := [(0, .ref 1), (2, .int vs0)]) [1, 0] rfl ?_
    exact sRd_readSumPart_49 (d0 + 1) (by omega) vs0 (v1 * (I 5 (I 1 6).toNatClampNeg)) I J B _ h
def mRd_readSumPart_28  (v1 : Int32) (I : hI) : Option (hI) :=
  mRd_readSumPart_29 v1 (0 : Int32) I
set_option maxHeartbeats 4000000 in
theorem sRd_readSumPart_28 (d : Nat) (hd : 0 + 1 ≤ d) (v1 : Int32) (I : hI) (J : hJ) (B : Bool × Bool) (q : hI) (h : mRd_readSumPart_28 v1 I = some q) : AW hFT cX6_readSumPart 4 none RX6 kdC d [(0, .ref 1), (1, .int v1)] 28 [] (I, J, RM B) none (q, J, RM B) := by
  obtain ⟨d0, rfl, hd0⟩ := h_mono hd
  unfold mRd_readSumPart_28 at h
  refine a_iconst dX6_readSumPart_28 ic_0 ?_
  exact sRd_readSumPart_29 (d0 + 1) (by omega) v1 (0 : Int32) I J B _ h
def mRd_readSumPart  (v1 : Int32) (I : hI) : Option (hI) :=
  if (I 1 7) = (256 : Int32) then
    (h_g (h_in (I 1 6) 501) <|
    if (99 : Int32) < (I 5 (I 1 6).toNatClampNeg) then
      mRd_readSumPart_28 v1 I
    else
      mRd_readSumPart_29 v1 (1 : Int32) I)
  else
    mRd_readSumPart_28 v1 I
set_option maxHeartbeats 4000000 in
theorem sRd_readSumPart (d : Nat) (hd : 0 + 1 ≤ d) (v1 : Int32) (I : hI) (J : hJ) (B : Bool × Bool) (q : hI) (h : mRd_readSumPart v1 I = some q) : HMet hFT yX6_readSumPart cX6_readSumPart 4 none kdC d [.ref 1, .int v1] (I, J, RM B) none (q, J, RM B) := by
  obtain ⟨d0, rfl, hd0⟩ := h_mono hd
  refine HMet.of (by decide) (Nat.le_of_ble_eq_true rfl) ?_
  show AW hFT cX6_readSumPart 4 none RX6 kdC (d0 + 1) [(0, .ref 1), (1, .int v1)] 0 [] (I, J, RM B) none (q, J, RM B)
  unfold mRd_readSumPart at h
  refine a_aload_n dX6_readSumPart_0 rfl rfl ?_
  refine b_getI hK_6 kc_1 (i := 7) rfl fl_6_45 rfl dX6_readSumPart_1 ?_
  refine a_sipush dX6_readSumPart_4 sq_256 ?_
  refine a_icmp_ne (tgt := 28) dX6_readSumPart_7 (by decide) (fun c => ?_) (fun c => ?_)
  · replace h := h_iteF c h
    exact sRd_readSumPart_28 (d0 + 1) (by omega) v1 I J B _ h
  · replace h := h_iteT c h
    refine a_aload_n dX6_readSumPart_10 rfl rfl ?_
    refine b_getR hK_6 kc_1 (i := 4) rfl fl_6_21 rfl (rm_1_4 B) dX6_readSumPart_11 ?_
    refine a_aload_n dX6_readSumPart_14 rfl rfl ?_
    refine b_getI hK_6 kc_1 (i := 6) rfl fl_6_42 rfl dX6_readSumPart_15 ?_
    obtain ⟨g1, h⟩ := h_gS h
    refine b_iaload kc_5 (h_inV g1) dX6_readSumPart_18 ?_
    refine a_bipush dX6_readSumPart_19 bp_99 ?_
    refine a_icmp_gt (tgt := 28) dX6_readSumPart_21 (by decide) (fun c => ?_) (fun c => ?_)
    · replace h := h_iteT c h
      exact sRd_readSumPart_28 (d0 + 1) (by omega) v1 I J B _ h
    · replace h := h_iteF c h
      refine a_iconst dX6_readSumPart_24 ic_1 ?_
      refine a_goto (tgt := 29) dX6_readSumPart_25 (by decide) ?_
      exact sRd_readSumPart_29 (d0 + 1) (by omega) v1 (1 : Int32) I J B _ h
/-! CoinLoops$Reader.readSum()V -/
theorem dX6_readSum_0 : decode cX6_readSum 0 = .ok (.aload_n 0, 1) := by decide +kernel
theorem dX6_readSum_1 : decode cX6_readSum 1 = .ok (.iconst 0, 1) := by decide +kernel
theorem dX6_readSum_2 : decode cX6_readSum 2 = .ok (.putfield 61, 3) := by decide +kernel
theorem dX6_readSum_5 : decode cX6_readSum 5 = .ok (.aload_n 0, 1) := by decide +kernel
theorem dX6_readSum_6 : decode cX6_readSum 6 = .ok (.iconst 0, 1) := by decide +kernel
theorem dX6_readSum_7 : decode cX6_readSum 7 = .ok (.putfield 64, 3) := by decide +kernel
theorem dX6_readSum_10 : decode cX6_readSum 10 = .ok (.aload_n 0, 1) := by decide +kernel
theorem dX6_readSum_11 : decode cX6_readSum 11 = .ok (.iconst 0, 1) := by decide +kernel
theorem dX6_readSum_12 : decode cX6_readSum 12 = .ok (.putfield 67, 3) := by decide +kernel
theorem dX6_readSum_15 : decode cX6_readSum 15 = .ok (.iconst 1, 1) := by decide +kernel
theorem dX6_readSum_16 : decode cX6_readSum 16 = .ok (.istore_n 1, 1) := by decide +kernel
theorem dX6_readSum_17 : decode cX6_readSum 17 = .ok (.iconst 0, 1) := by decide +kernel
theorem dX6_readSum_18 : decode cX6_readSum 18 = .ok (.istore_n 2, 1) := by decide +kernel
theorem dX6_readSum_19 : decode cX6_readSum 19 = .ok (.iload_n 2, 1) := by decide +kernel
theorem dX6_readSum_20 : decode cX6_readSum 20 = .ok (.sipush 500, 3) := by decide +kernel
theorem dX6_readSum_23 : decode cX6_readSum 23 = .ok (.if_icmp .ge 52, 3) := by decide +kernel
theorem dX6_readSum_26 : decode cX6_readSum 26 = .ok (.aload_n 0, 1) := by decide +kernel
theorem dX6_readSum_27 : decode cX6_readSum 27 = .ok (.iload_n 1, 1) := by decide +kernel
theorem dX6_readSum_28 : decode cX6_readSum 28 = .ok (.invokevirtual 70, 3) := by decide +kernel
theorem dX6_readSum_31 : decode cX6_readSum 31 = .ok (.aload_n 0, 1) := by decide +kernel
theorem dX6_readSum_32 : decode cX6_readSum 32 = .ok (.getfield 45, 3) := by decide +kernel
theorem dX6_readSum_35 : decode cX6_readSum 35 = .ok (.bipush 43, 2) := by decide +kernel
theorem dX6_readSum_37 : decode cX6_readSum 37 = .ok (.if_icmp .eq 13, 3) := by decide +kernel
theorem dX6_readSum_40 : decode cX6_readSum 40 = .ok (.aload_n 0, 1) := by decide +kernel
theorem dX6_readSum_41 : decode cX6_readSum 41 = .ok (.getfield 45, 3) := by decide +kernel
theorem dX6_readSum_44 : decode cX6_readSum 44 = .ok (.bipush 45, 2) := by decide +kernel
theorem dX6_readSum_46 : decode cX6_readSum 46 = .ok (.if_icmp .eq 4, 3) := by decide +kernel
theorem dX6_readSum_49 : decode cX6_readSum 49 = .ok (.return_, 1) := by decide +kernel
theorem dX6_readSum_50 : decode cX6_readSum 50 = .ok (.aload_n 0, 1) := by decide +kernel
theorem dX6_readSum_51 : decode cX6_readSum 51 = .ok (.getfield 45, 3) := by decide +kernel
theorem dX6_readSum_54 : decode cX6_readSum 54 = .ok (.bipush 43, 2) := by decide +kernel
theorem dX6_readSum_56 : decode cX6_readSum 56 = .ok (.if_icmp .ne 7, 3) := by decide +kernel
theorem dX6_readSum_59 : decode cX6_readSum 59 = .ok (.iconst 1, 1) := by decide +kernel
theorem dX6_readSum_60 : decode cX6_readSum 60 = .ok (.goto 4, 3) := by decide +kernel
theorem dX6_readSum_63 : decode cX6_readSum 63 = .ok (.iconst (-1), 1) := by decide +kernel
theorem dX6_readSum_64 : decode cX6_readSum 64 = .ok (.istore_n 1, 1) := by decide +kernel
theorem dX6_readSum_65 : decode cX6_readSum 65 = .ok (.aload_n 0, 1) := by decide +kernel
theorem dX6_readSum_66 : decode cX6_readSum 66 = .ok (.invokevirtual 54, 3) := by decide +kernel
theorem dX6_readSum_69 : decode cX6_readSum 69 = .ok (.iinc 2 1, 3) := by decide +kernel
theorem dX6_readSum_72 : decode cX6_readSum 72 = .ok (.goto (-53), 3) := by decide +kernel
theorem dX6_readSum_75 : decode cX6_readSum 75 = .ok (.return_, 1) := by decide +kernel
def mRd_readSum_64 (k19 : Int32 → Int32 → hI → Option (hI)) (v2 : Int32) (vs0 : Int32) (I : hI) : Option (hI) :=
  (mRd_next I).bind fun q1 =>
  k19 vs0 (v2 + (1 : Int32)) q1
set_option maxHeartbeats 4000000 in
theorem sRd_readSum_64 (d : Nat) (hd : 1 + 1 ≤ d) (k19 : Int32 → Int32 → hI → Option (hI)) (hk19 : ∀ (v1 : Int32) (v2 : Int32) (I : hI) (J : hJ) (B : Bool × Bool) (q : hI), k19 v1 v2 I = some q → AW hFT cX6_readSum 3 none RX6 kdC d [(0, .ref 1), (1, .int v1), (2, .int v2)] 19 [] (I, J, RM B) none (q, J, RM B)) (v2 : Int32) (vs0 : Int32) (I : hI) (J : hJ) (B : Bool × Bool) (q : hI) (h : mRd_readSum_64 k19 v2 vs0 I = some q) : AW hFT cX6_readSum 3 none RX6 kdC d [(0, .ref 1), (2, .int v2)] 64 [.int vs0] (I, J, RM B) none (q, J, RM B) := by
  obtain ⟨d0, rfl, hd0⟩ := h_mono hd
  unfold mRd_readSum_64 at h
  refine a_istore_n (lv' := [(1, .int vs0), (0, .ref 1), (2, .int v2)]) dX6_readSum_64 rfl (by decide) rfl ?_
  refine a_aload_n dX6_readSum_65 rfl rfl ?_
  obtain ⟨q1, cq1, h⟩ := h_bindS h
  refine a_callV0 [] yy_X6_next ml_6_54 kc_1 rfl (sRd_next _ (by omega)  I J B q1 cq1) rfl rfl (Nat.le_of_ble_eq_true rfl) dX6_readSum_66 ?_
  refine b_iinc (lv' := [(2, .int (v2 + (1 : Int32))), (1, .int vs0), (0, .ref 1)]) dX6_readSum_69 rfl ic_1 (by decide) rfl ?_
  refine a_goto (tgt := 19) dX6_readSum_72 (by decide) ?_
  refine a_sub (lv' := [(0, .ref 1), (1, .int vs0), (2, .int (v2 + (1 : Int32)))]) [2, 1, 0] rfl ?_
  exact hk19 vs0 (v2 + (1 : Int32)) q1 J B _ h
def mRd_readSum_50 (k19 : Int32 → Int32 → hI → Option (hI)) (v2 : Int32) (I : hI) : Option (hI) :=
  if (I 1 7) = (43 : Int32) then
    mRd_readSum_64 k19 v2 (1 : Int32) I
  else
    mRd_readSum_64 k19 v2 (-1 : Int32) I
set_option maxHeartbeats 4000000 in
theorem sRd_readSum_50 (d : Nat) (hd : 1 + 1 ≤ d) (k19 : Int32 → Int32 → hI → Option (hI)) (hk19 : ∀ (v1 : Int32) (v2 : Int32) (I : hI) (J : hJ) (B : Bool × Bool) (q : hI), k19 v1 v2 I = some q → AW hFT cX6_readSum 3 none RX6 kdC d [(0, .ref 1), (1, .int v1), (2, .int v2)] 19 [] (I, J, RM B) none (q, J, RM B)) (v2 : Int32) (I : hI) (J : hJ) (B : Bool × Bool) (q : hI) (h : mRd_readSum_50 k19 v2 I = some q) : AW hFT cX6_readSum 3 none RX6 kdC d [(0, .ref 1), (2, .int v2)] 50 [] (I, J, RM B) none (q, J, RM B) := by
  obtain ⟨d0, rfl, hd0⟩ := h_mono hd
  unfold mRd_readSum_50 at h
  refine a_aload_n dX6_readSum_50 rfl rfl ?_
  refine b_getI hK_6 kc_1 (i := 7) rfl fl_6_45 rfl dX6_readSum_51 ?_
  refine a_bipush dX6_readSum_54 bp_43 ?_
  refine a_icmp_ne (tgt := 63) dX6_readSum_56 (by decide) (fun c => ?_) (fun c => ?_)
  · replace h := h_iteF c h
    refine a_iconst dX6_readSum_63 ic_m1 ?_
    exact sRd_readSum_64 (d0 + 1) (by omega) k19 hk19 v2 (-1 : Int32) I J B _ h
  · replace h := h_iteT c h
    refine a_iconst dX6_readSum_59 ic_1 ?_
    refine a_goto (tgt := 64) dX6_readSum_60 (by decide) ?_
    exact sRd_readSum_64 (d0 + 1) (by omega) k19 hk19 v2 (1 : Int32) I J B _ h
def mRd_readSum_B19 (k19 : Int32 → Int32 → hI → Option (hI)) (v1 : Int32) (v2 : Int32) (I : hI) : Option (hI) :=
  if (500 : Int32) ≤ v2 then
    some I
  else
    ((mRd_readSumPart v1 I).bind fun q1 =>
    if (q1 1 7) = (43 : Int32) then
      mRd_readSum_50 k19 v2 q1
    else
      (if (q1 1 7) = (45 : Int32) then
        mRd_readSum_50 k19 v2 q1
      else
        some q1))
set_option maxHeartbeats 4000000 in
theorem sRd_readSum_B19 (d : Nat) (hd : 1 + 1 ≤ d) (k19 : Int32 → Int32 → hI → Option (hI)) (hk19 : ∀ (v1 : Int32) (v2 : Int32) (I : hI) (J : hJ) (B : Bool × Bool) (q : hI), k19 v1 v2 I = some q → AW hFT cX6_readSum 3 none RX6 kdC d [(0, .ref 1), (1, .int v1), (2, .int v2)] 19 [] (I, J, RM B) none (q, J, RM B)) (v1 : Int32) (v2 : Int32) (I : hI) (J : hJ) (B : Bool × Bool) (q : hI) (h : mRd_readSum_B19 k19 v1 v2 I = some q) : AW hFT cX6_readSum 3 none RX6 kdC d [(0, .ref 1), (1, .int v1), (2, .int v2)] 19 [] (I, J, RM B) none (q, J, RM B) := by
  obtain ⟨d0, rfl, hd0⟩ := h_mono hd
  unfold mRd_readSum_B19 at h
  refine a_iload_n dX6_readSum_19 rfl rfl ?_
  refine a_sipush dX6_readSum_20 sq_500 ?_
  refine a_icmp_ge (tgt := 75) dX6_readSum_23 (by decide) (fun c => ?_) (fun c => ?_)
  · replace h := h_iteT c h
    cases h
    exact a_vret dX6_readSum_75
  · replace h := h_iteF c h
    refine a_aload_n dX6_readSum_26 rfl rfl ?_
    refine a_iload_n dX6_readSum_27 rfl rfl ?_
    obtain ⟨q1, cq1, h⟩ := h_bindS h
    refine a_callV0 [] yy_X6_readSumPart ml_6_70 kc_1 rfl (sRd_readSumPart _ (by omega) v1 I J B q1 cq1) rfl rfl (Nat.le_of_ble_eq_true rfl) dX6_readSum_28 ?_
    refine a_aload_n dX6_readSum_31 rfl rfl ?_
    refine b_getI hK_6 kc_1 (i := 7) rfl fl_6_45 rfl dX6_readSum_32 ?_
    refine a_bipush dX6_readSum_35 bp_43 ?_
    refine a_icmp_eq (tgt := 50) dX6_readSum_37 (by decide) (fun c => ?_) (fun c => ?_)
    · replace h := h_iteT c h
      refine a_sub (lv' := [(0, .ref 1), (2, .int v2)]) [0, 2] rfl ?_
      exact sRd_readSum_50 (d0 + 1) (by omega) k19 hk19 v2 q1 J B _ h
    · replace h := h_iteF c h
      refine a_aload_n dX6_readSum_40 rfl rfl ?_
      refine b_getI hK_6 kc_1 (i := 7) rfl fl_6_45 rfl dX6_readSum_41 ?_
      refine a_bipush dX6_readSum_44 bp_45 ?_
      refine a_icmp_eq (tgt := 50) dX6_readSum_46 (by decide) (fun c => ?_) (fun c => ?_)
      · replace h := h_iteT c h
        refine a_sub (lv' := [(0, .ref 1), (2, .int v2)]) [0, 2] rfl ?_
        exact sRd_readSum_50 (d0 + 1) (by omega) k19 hk19 v2 q1 J B _ h
      · replace h := h_iteF c h
        cases h
        exact a_vret dX6_readSum_49
def mRd_readSum_L19  : Nat → Int32 → Int32 → hI → Option (hI)
  | 0 => fun _ _ _ => none
  | n + 1 => mRd_readSum_B19 (mRd_readSum_L19 n)
theorem sRd_readSum_L19 (d : Nat) (hd : 1 + 1 ≤ d) : ∀ (n : Nat) (v1 : Int32) (v2 : Int32) (I : hI) (J : hJ) (B : Bool × Bool) (q : hI) (h : mRd_readSum_L19 n v1 v2 I = some q), AW hFT cX6_readSum 3 none RX6 kdC d [(0, .ref 1), (1, .int v1), (2, .int v2)] 19 [] (I, J, RM B) none (q, J, RM B)
  | 0, _, _, _, _, _, q, h => by cases h
  | n + 1, v1, v2, I, J, B, q, h => sRd_readSum_B19 d hd (mRd_readSum_L19 n) (sRd_readSum_L19 d hd n) v1 v2 I J B q h
def mRd_readSum   (I : hI) : Option (hI) :=
  h_let (h_u I 1 9 (0 : Int32)) fun I1 =>
  h_let (h_u I1 1 10 (0 : Int32)) fun I2 =>
  h_let (h_u I2 1 11 (0 : Int32)) fun I3 =>
  mRd_readSum_L19 hF (1 : Int32) (0 : Int32) I3
set_option maxHeartbeats 4000000 in
theorem sRd_readSum (d : Nat) (hd : 1 + 1 ≤ d)  (I : hI) (J : hJ) (B : Bool × Bool) (q : hI) (h : mRd_readSum I = some q) : HMet hFT yX6_readSum cX6_readSum 3 none kdC d [.ref 1] (I, J, RM B) none (q, J, RM B) := by
  obtain ⟨d0, rfl, hd0⟩ := h_mono hd
  refine HMet.of (by decide) (Nat.le_of_ble_eq_true rfl) ?_
  show AW hFT cX6_readSum 3 none RX6 kdC (d0 + 1) [(0, .ref 1)] 0 [] (I, J, RM B) none (q, J, RM B)
  unfold mRd_readSum at h
  refine a_aload_n dX6_readSum_0 rfl rfl ?_
  refine a_iconst dX6_readSum_1 ic_0 ?_
  refine b_putI hK_6 kc_1 (i := 9) rfl fl_6_61 rfl rfl (h_NI _) dX6_readSum_2 ?_
  obtain ⟨I1, eI1, h⟩ := h_letS h
  refine a_memI eI1 ?_
  refine a_aload_n dX6_readSum_5 rfl rfl ?_
  refine a_iconst dX6_readSum_6 ic_0 ?_
  refine b_putI hK_6 kc_1 (i := 10) rfl fl_6_64 rfl rfl (h_NI _) dX6_readSum_7 ?_
  obtain ⟨I2, eI2, h⟩ := h_letS h
  refine a_memI eI2 ?_
  refine a_aload_n dX6_readSum_10 rfl rfl ?_
  refine a_iconst dX6_readSum_11 ic_0 ?_
  refine b_putI hK_6 kc_1 (i := 11) rfl fl_6_67 rfl rfl (h_NI _) dX6_readSum_12 ?_
  obtain ⟨I3, eI3, h⟩ := h_letS h
  refine a_memI eI3 ?_
  refine a_iconst dX6_readSum_15 ic_1 ?_
  refine a_istore_n (lv' := [(1, .int (1 : Int32)), (0, .ref 1)]) dX6_readSum_16 rfl (by decide) rfl ?_
  refine a_iconst dX6_readSum_17 ic_0 ?_
  refine a_istore_n (lv' := [(2, .int (0 : Int32)), (1, .int (1 : Int32)), (0, .ref 1)]) dX6_readSum_18 rfl (by decide) rfl ?_
  refine a_sub (lv' := [(0, .ref 1), (1, .int (1 : Int32)), (2, .int (0 : Int32))]) [2, 1, 0] rfl ?_
  exact sRd_readSum_L19 (d0 + 1) (by omega) hF (1 : Int32) (0 : Int32) I3 J B _ h
/-! CoinLoops$Reader.isAtRelation()Z -/
theorem dX6_isAtRelation_0 : decode cX6_isAtRelation 0 = .ok (.aload_n 0, 1) := by decide +kernel
theorem dX6_isAtRelation_1 : decode cX6_isAtRelation 1 = .ok (.getfield 45, 3) := by decide +kernel
theorem dX6_isAtRelation_4 : decode cX6_isAtRelation 4 = .ok (.bipush 60, 2) := by decide +kernel
theorem dX6_isAtRelation_6 : decode cX6_isAtRelation 6 = .ok (.if_icmp .eq 21, 3) := by decide +kernel
theorem dX6_isAtRelation_9 : decode cX6_isAtRelation 9 = .ok (.aload_n 0, 1) := by decide +kernel
theorem dX6_isAtRelation_10 : decode cX6_isAtRelation 10 = .ok (.getfield 45, 3) := by decide +kernel
theorem dX6_isAtRelation_13 : decode cX6_isAtRelation 13 = .ok (.bipush 61, 2) := by decide +kernel
theorem dX6_isAtRelation_15 : decode cX6_isAtRelation 15 = .ok (.if_icmp .eq 12, 3) := by decide +kernel
theorem dX6_isAtRelation_18 : decode cX6_isAtRelation 18 = .ok (.aload_n 0, 1) := by decide +kernel
theorem dX6_isAtRelation_19 : decode cX6_isAtRelation 19 = .ok (.getfield 45, 3) := by decide +kernel
theorem dX6_isAtRelation_22 : decode cX6_isAtRelation 22 = .ok (.bipush 62, 2) := by decide +kernel
theorem dX6_isAtRelation_24 : decode cX6_isAtRelation 24 = .ok (.if_icmp .ne 7, 3) := by decide +kernel
theorem dX6_isAtRelation_27 : decode cX6_isAtRelation 27 = .ok (.iconst 1, 1) := by decide +kernel
theorem dX6_isAtRelation_28 : decode cX6_isAtRelation 28 = .ok (.goto 4, 3) := by decide +kernel
theorem dX6_isAtRelation_31 : decode cX6_isAtRelation 31 = .ok (.iconst 0, 1) := by decide +kernel
theorem dX6_isAtRelation_32 : decode cX6_isAtRelation 32 = .ok (.ireturn, 1) := by decide +kernel
def mRd_isAtRelation   (I : hI) : Int32 :=
  if (I 1 7) = (60 : Int32) then
    (1 : Int32)
  else
    (if (I 1 7) = (61 : Int32) then
      (1 : Int32)
    else
      (if (I 1 7) = (62 : Int32) then
        (1 : Int32)
      else
        (0 : Int32)))
set_option maxHeartbeats 4000000 in
theorem sRd_isAtRelation (d : Nat) (hd : 0 ≤ d)  (I : hI) (J : hJ) (B : Bool × Bool) (q : Int32) (h : mRd_isAtRelation I = q) : HMet hFT yX6_isAtRelation cX6_isAtRelation 1 (some .boolean) kdC d [.ref 1] (I, J, RM B) (some (.int q)) (I, J, RM B) := by
  refine HMet.of (by decide) (Nat.le_of_ble_eq_true rfl) ?_
  show AW hFT cX6_isAtRelation 1 (some .boolean) RX6 kdC d [(0, .ref 1)] 0 [] (I, J, RM B) (some (.int q)) (I, J, RM B)
  unfold mRd_isAtRelation at h
  refine a_aload_n dX6_isAtRelation_0 rfl rfl ?_
  refine b_getI hK_6 kc_1 (i := 7) rfl fl_6_45 rfl dX6_isAtRelation_1 ?_
  refine a_bipush dX6_isAtRelation_4 bp_60 ?_
  refine a_icmp_eq (tgt := 27) dX6_isAtRelation_6 (by decide) (fun c => ?_) (fun c => ?_)
  · replace h := h_iteT c h
    refine a_iconst dX6_isAtRelation_27 ic_1 ?_
    refine a_goto (tgt := 32) dX6_isAtRelation_28 (by decide) ?_
    cases h
    exact a_zret (h_Z1.1) dX6_isAtRelation_32
  · replace h := h_iteF c h
    refine a_aload_n dX6_isAtRelation_9 rfl rfl ?_
    refine b_getI hK_6 kc_1 (i := 7) rfl fl_6_45 rfl dX6_isAtRelation_10 ?_
    refine a_bipush dX6_isAtRelation_13 bp_61 ?_
    refine a_icmp_eq (tgt := 27) dX6_isAtRelation_15 (by decide) (fun c => ?_) (fun c => ?_)
    · replace h := h_iteT c h
      refine a_iconst dX6_isAtRelation_27 ic_1 ?_
      refine a_goto (tgt := 32) dX6_isAtRelation_28 (by decide) ?_
      cases h
      exact a_zret (h_Z1.1) dX6_isAtRelation_32
    · replace h := h_iteF c h
      refine a_aload_n dX6_isAtRelation_18 rfl rfl ?_
      refine b_getI hK_6 kc_1 (i := 7) rfl fl_6_45 rfl dX6_isAtRelation_19 ?_
      refine a_bipush dX6_isAtRelation_22 bp_62 ?_
      refine a_icmp_ne (tgt := 31) dX6_isAtRelation_24 (by decide) (fun c => ?_) (fun c => ?_)
      · replace h := h_iteF c h
        refine a_iconst dX6_isAtRelation_31 ic_0 ?_
        cases h
        exact a_zret (h_Z0.1) dX6_isAtRelation_32
      · replace h := h_iteT c h
        refine a_iconst dX6_isAtRelation_27 ic_1 ?_
        refine a_goto (tgt := 32) dX6_isAtRelation_28 (by decide) ?_
        cases h
        exact a_zret (h_Z1.1) dX6_isAtRelation_32
/-! CoinLoops$Reader.readCondition(LCoinLoops$Conditions;)V -/
theorem dX6_readCondition_0 : decode cX6_readCondition 0 = .ok (.iconst 1, 1) := by decide +kernel
theorem dX6_readCondition_1 : decode cX6_readCondition 1 = .ok (.istore_n 2, 1) := by decide +kernel
theorem dX6_readCondition_2 : decode cX6_readCondition 2 = .ok (.iconst 0, 1) := by decide +kernel
theorem dX6_readCondition_3 : decode cX6_readCondition 3 = .ok (.istore_n 3, 1) := by decide +kernel
theorem dX6_readCondition_4 : decode cX6_readCondition 4 = .ok (.iload_n 3, 1) := by decide +kernel
theorem dX6_readCondition_5 : decode cX6_readCondition 5 = .ok (.sipush 500, 3) := by decide +kernel
theorem dX6_readCondition_8 : decode cX6_readCondition 8 = .ok (.if_icmp .ge 126, 3) := by decide +kernel
theorem dX6_readCondition_11 : decode cX6_readCondition 11 = .ok (.aload_n 0, 1) := by decide +kernel
theorem dX6_readCondition_12 : decode cX6_readCondition 12 = .ok (.getfield 61, 3) := by decide +kernel
theorem dX6_readCondition_15 : decode cX6_readCondition 15 = .ok (.istore 4, 2) := by decide +kernel
theorem dX6_readCondition_17 : decode cX6_readCondition 17 = .ok (.aload_n 0, 1) := by decide +kernel
theorem dX6_readCondition_18 : decode cX6_readCondition 18 = .ok (.getfield 64, 3) := by decide +kernel
theorem dX6_readCondition_21 : decode cX6_readCondition 21 = .ok (.istore 5, 2) := by decide +kernel
theorem dX6_readCondition_23 : decode cX6_readCondition 23 = .ok (.aload_n 0, 1) := by decide +kernel
theorem dX6_readCondition_24 : decode cX6_readCondition 24 = .ok (.getfield 67, 3) := by decide +kernel
theorem dX6_readCondition_27 : decode cX6_readCondition 27 = .ok (.istore 6, 2) := by decide +kernel
theorem dX6_readCondition_29 : decode cX6_readCondition 29 = .ok (.aload_n 0, 1) := by decide +kernel
theorem dX6_readCondition_30 : decode cX6_readCondition 30 = .ok (.getfield 45, 3) := by decide +kernel
theorem dX6_readCondition_33 : decode cX6_readCondition 33 = .ok (.istore 7, 2) := by decide +kernel
theorem dX6_readCondition_35 : decode cX6_readCondition 35 = .ok (.aload_n 0, 1) := by decide +kernel
theorem dX6_readCondition_36 : decode cX6_readCondition 36 = .ok (.invokevirtual 74, 3) := by decide +kernel
theorem dX6_readCondition_39 : decode cX6_readCondition 39 = .ok (.ifCond .ne 8, 3) := by decide +kernel
theorem dX6_readCondition_42 : decode cX6_readCondition 42 = .ok (.aload_n 0, 1) := by decide +kernel
theorem dX6_readCondition_43 : decode cX6_readCondition 43 = .ok (.invokevirtual 51, 3) := by decide +kernel
theorem dX6_readCondition_46 : decode cX6_readCondition 46 = .ok (.return_, 1) := by decide +kernel
theorem dX6_readCondition_47 : decode cX6_readCondition 47 = .ok (.aload_n 0, 1) := by decide +kernel
theorem dX6_readCondition_48 : decode cX6_readCondition 48 = .ok (.invokevirtual 54, 3) := by decide +kernel
theorem dX6_readCondition_51 : decode cX6_readCondition 51 = .ok (.aload_n 0, 1) := by decide +kernel
theorem dX6_readCondition_52 : decode cX6_readCondition 52 = .ok (.invokevirtual 78, 3) := by decide +kernel
theorem dX6_readCondition_55 : decode cX6_readCondition 55 = .ok (.aload_n 1, 1) := by decide +kernel
theorem dX6_readCondition_56 : decode cX6_readCondition 56 = .ok (.iload 4, 2) := by decide +kernel
theorem dX6_readCondition_58 : decode cX6_readCondition 58 = .ok (.aload_n 0, 1) := by decide +kernel
theorem dX6_readCondition_59 : decode cX6_readCondition 59 = .ok (.getfield 61, 3) := by decide +kernel
theorem dX6_readCondition_62 : decode cX6_readCondition 62 = .ok (.isub, 1) := by decide +kernel
theorem dX6_readCondition_63 : decode cX6_readCondition 63 = .ok (.iload 5, 2) := by decide +kernel
theorem dX6_readCondition_65 : decode cX6_readCondition 65 = .ok (.aload_n 0, 1) := by decide +kernel
theorem dX6_readCondition_66 : decode cX6_readCondition 66 = .ok (.getfield 64, 3) := by decide +kernel
theorem dX6_readCondition_69 : decode cX6_readCondition 69 = .ok (.isub, 1) := by decide +kernel
theorem dX6_readCondition_70 : decode cX6_readCondition 70 = .ok (.iload 6, 2) := by decide +kernel
theorem dX6_readCondition_72 : decode cX6_readCondition 72 = .ok (.aload_n 0, 1) := by decide +kernel
theorem dX6_readCondition_73 : decode cX6_readCondition 73 = .ok (.getfield 67, 3) := by decide +kernel
theorem dX6_readCondition_76 : decode cX6_readCondition 76 = .ok (.isub, 1) := by decide +kernel
theorem dX6_readCondition_77 : decode cX6_readCondition 77 = .ok (.iload 7, 2) := by decide +kernel
theorem dX6_readCondition_79 : decode cX6_readCondition 79 = .ok (.iload_n 2, 1) := by decide +kernel
theorem dX6_readCondition_80 : decode cX6_readCondition 80 = .ok (.invokevirtual 81, 3) := by decide +kernel
theorem dX6_readCondition_83 : decode cX6_readCondition 83 = .ok (.aload_n 0, 1) := by decide +kernel
theorem dX6_readCondition_84 : decode cX6_readCondition 84 = .ok (.getfield 45, 3) := by decide +kernel
theorem dX6_readCondition_87 : decode cX6_readCondition 87 = .ok (.sipush 266, 3) := by decide +kernel
theorem dX6_readCondition_90 : decode cX6_readCondition 90 = .ok (.if_icmp .eq 14, 3) := by decide +kernel
theorem dX6_readCondition_93 : decode cX6_readCondition 93 = .ok (.aload_n 0, 1) := by decide +kernel
theorem dX6_readCondition_94 : decode cX6_readCondition 94 = .ok (.getfield 45, 3) := by decide +kernel
theorem dX6_readCondition_97 : decode cX6_readCondition 97 = .ok (.sipush 267, 3) := by decide +kernel
theorem dX6_readCondition_100 : decode cX6_readCondition 100 = .ok (.if_icmp .eq 4, 3) := by decide +kernel
theorem dX6_readCondition_103 : decode cX6_readCondition 103 = .ok (.return_, 1) := by decide +kernel
theorem dX6_readCondition_104 : decode cX6_readCondition 104 = .ok (.aload_n 0, 1) := by decide +kernel
theorem dX6_readCondition_105 : decode cX6_readCondition 105 = .ok (.getfield 45, 3) := by decide +kernel
theorem dX6_readCondition_108 : decode cX6_readCondition 108 = .ok (.sipush 267, 3) := by decide +kernel
theorem dX6_readCondition_111 : decode cX6_readCondition 111 = .ok (.if_icmp .ne 7, 3) := by decide +kernel
theorem dX6_readCondition_114 : decode cX6_readCondition 114 = .ok (.iconst 1, 1) := by decide +kernel
theorem dX6_readCondition_115 : decode cX6_readCondition 115 = .ok (.goto 4, 3) := by decide +kernel
theorem dX6_readCondition_118 : decode cX6_readCondition 118 = .ok (.iconst 0, 1) := by decide +kernel
theorem dX6_readCondition_119 : decode cX6_readCondition 119 = .ok (.istore_n 2, 1) := by decide +kernel
theorem dX6_readCondition_120 : decode cX6_readCondition 120 = .ok (.aload_n 0, 1) := by decide +kernel
theorem dX6_readCondition_121 : decode cX6_readCondition 121 = .ok (.invokevirtual 54, 3) := by decide +kernel
theorem dX6_readCondition_124 : decode cX6_readCondition 124 = .ok (.aload_n 0, 1) := by decide +kernel
theorem dX6_readCondition_125 : decode cX6_readCondition 125 = .ok (.invokevirtual 78, 3) := by decide +kernel
theorem dX6_readCondition_128 : decode cX6_readCondition 128 = .ok (.iinc 3 1, 3) := by decide +kernel
theorem dX6_readCondition_131 : decode cX6_readCondition 131 = .ok (.goto (-127), 3) := by decide +kernel
theorem dX6_readCondition_134 : decode cX6_readCondition 134 = .ok (.return_, 1) := by decide +kernel
def mRd_readCondition_119 (k4 : Nat → Int32 → Int32 → hI → Option (hI)) (t1 : Nat) (v3 : Int32) (vs0 : Int32) (I : hI) : Option (hI) :=
  (mRd_next I).bind fun q1 =>
  (mRd_readSum q1).bind fun q2 =>
  k4 t1 vs0 (v3 + (1 : Int32)) q2
set_option maxHeartbeats 4000000 in
theorem sRd_readCondition_119 (d : Nat) (hd : 2 + 1 ≤ d) (k4 : Nat → Int32 → Int32 → hI → Option (hI)) (hk4 : ∀ (t1 : Nat) (ht1 : h_CD t1) (v2 : Int32) (v3 : Int32) (I : hI) (J : hJ) (B : Bool × Bool) (q : hI), k4 t1 v2 v3 I = some q → AW hFT cX6_readCondition 8 none RX6 kdC d [(0, .ref 1), (1, .ref t1), (2, .int v2), (3, .int v3)] 4 [] (I, J, RM B) none (q, J, RM B)) (t1 : Nat) (ht1 : h_CD t1) (v3 : Int32) (vs0 : Int32) (I : hI) (J : hJ) (B : Bool × Bool) (q : hI) (h : mRd_readCondition_119 k4 t1 v3 vs0 I = some q) : AW hFT cX6_readCondition 8 none RX6 kdC d [(0, .ref 1), (1, .ref t1), (3, .int v3)] 119 [.int vs0] (I, J, RM B) none (q, J, RM B) := by
  obtain ⟨d0, rfl, hd0⟩ := h_mono hd
  unfold mRd_readCondition_119 at h
  refine a_istore_n (lv' := [(2, .int vs0), (0, .ref 1), (1, .ref t1), (3, .int v3)]) dX6_readCondition_119 rfl (by decide) rfl ?_
  refine a_aload_n dX6_readCondition_120 rfl rfl ?_
  obtain ⟨q1, cq1, h⟩ := h_bindS h
  refine a_callV0 [] yy_X6_next ml_6_54 kc_1 rfl (sRd_next _ (by omega)  I J B q1 cq1) rfl rfl (Nat.le_of_ble_eq_true rfl) dX6_readCondition_121 ?_
  refine a_aload_n dX6_readCondition_124 rfl rfl ?_
  obtain ⟨q2, cq2, h⟩ := h_bindS h
  refine a_callV0 [] yy_X6_readSum ml_6_78 kc_1 rfl (sRd_readSum _ (by omega)  q1 J B q2 cq2) rfl rfl (Nat.le_of_ble_eq_true rfl) dX6_readCondition_125 ?_
  refine b_iinc (lv' := [(3, .int (v3 + (1 : Int32))), (2, .int vs0), (0, .ref 1), (1, .ref t1)]) dX6_readCondition_128 rfl ic_1 (by decide) rfl ?_
  refine a_goto (tgt := 4) dX6_readCondition_131 (by decide) ?_
  refine a_sub (lv' := [(0, .ref 1), (1, .ref t1), (2, .int vs0), (3, .int (v3 + (1 : Int32)))]) [2, 3, 1, 0] rfl ?_
  exact hk4 t1 ht1 vs0 (v3 + (1 : Int32)) q2 J B _ h
def mRd_readCondition_104 (k4 : Nat → Int32 → Int32 → hI → Option (hI)) (t1 : Nat) (v3 : Int32) (I : hI) : Option (hI) :=
  if (I 1 7) = (267 : Int32) then
    mRd_readCondition_119 k4 t1 v3 (1 : Int32) I
  else
    mRd_readCondition_119 k4 t1 v3 (0 : Int32) I
set_option maxHeartbeats 4000000 in
theorem sRd_readCondition_104 (d : Nat) (hd : 2 + 1 ≤ d) (k4 : Nat → Int32 → Int32 → hI → Option (hI)) (hk4 : ∀ (t1 : Nat) (ht1 : h_CD t1) (v2 : Int32) (v3 : Int32) (I : hI) (J : hJ) (B : Bool × Bool) (q : hI), k4 t1 v2 v3 I = some q → AW hFT cX6_readCondition 8 none RX6 kdC d [(0, .ref 1), (1, .ref t1), (2, .int v2), (3, .int v3)] 4 [] (I, J, RM B) none (q, J, RM B)) (t1 : Nat) (ht1 : h_CD t1) (v3 : Int32) (I : hI) (J : hJ) (B : Bool × Bool) (q : hI) (h : mRd_readCondition_104 k4 t1 v3 I = some q) : AW hFT cX6_readCondition 8 none RX6 kdC d [(0, .ref 1), (1, .ref t1), (3, .int v3)] 104 [] (I, J, RM B) none (q, J, RM B) := by
  obtain ⟨d0, rfl, hd0⟩ := h_mono hd
  unfold mRd_readCondition_104 at h
  refine a_aload_n dX6_readCondition_104 rfl rfl ?_
  refine b_getI hK_6 kc_1 (i := 7) rfl fl_6_45 rfl dX6_readCondition_105 ?_
  refine a_sipush dX6_readCondition_108 sq_267 ?_
  refine a_icmp_ne (tgt := 118) dX6_readCondition_111 (by decide) (fun c => ?_) (fun c => ?_)
  · replace h := h_iteF c h
    refine a_iconst dX6_readCondition_118 ic_0 ?_
    exact sRd_readCondition_119 (d0 + 1) (by omega) k4 hk4 t1 ht1 v3 (0 : Int32) I J B _ h
  · replace h := h_iteT c h
    refine a_iconst dX6_readCondition_114 ic_1 ?_
    refine a_goto (tgt := 119) dX6_readCondition_115 (by decide) ?_
    exact sRd_readCondition_119 (d0 + 1) (by omega) k4 hk4 t1 ht1 v3 (1 : Int32) I J B _ h
def mRd_readCondition_B4 (k4 : Nat → Int32 → Int32 → hI → Option (hI)) (t1 : Nat) (v2 : Int32) (v3 : Int32) (I : hI) : Option (hI) :=
  if (500 : Int32) ≤ v3 then
    some I
  else
    (h_let (I 1 9) fun v4x0 =>
    h_let (I 1 10) fun v5x1 =>
    h_let (I 1 11) fun v6x2 =>
    h_let (I 1 7) fun v7x3 =>
    if (mRd_isAtRelation I) = 0 then
      ((mRd_fail I).bind fun q5 =>
      some q5)
    else
      ((mRd_next I).bind fun q5 =>
      (mRd_readSum q5).bind fun q6 =>
      (mCd_add t1 (v4x0 - (q6 1 9)) (v5x1 - (q6 1 10)) (v6x2 - (q6 1 11)) v7x3 v2 q6).bind fun q7 =>
      if (q7 1 7) = (266 : Int32) then
        mRd_readCondition_104 k4 t1 v3 q7
      else
        (if (q7 1 7) = (267 : Int32) then
          mRd_readCondition_104 k4 t1 v3 q7
        else
          some q7)))
set_option maxHeartbeats 4000000 in
theorem sRd_readCondition_B4 (d : Nat) (hd : 2 + 1 ≤ d) (k4 : Nat → Int32 → Int32 → hI → Option (hI)) (hk4 : ∀ (t1 : Nat) (ht1 : h_CD t1) (v2 : Int32) (v3 : Int32) (I : hI) (J : hJ) (B : Bool × Bool) (q : hI), k4 t1 v2 v3 I = some q → AW hFT cX6_readCondition 8 none RX6 kdC d [(0, .ref 1), (1, .ref t1), (2, .int v2), (3, .int v3)] 4 [] (I, J, RM B) none (q, J, RM B)) (t1 : Nat) (ht1 : h_CD t1) (v2 : Int32) (v3 : Int32) (I : hI) (J : hJ) (B : Bool × Bool) (q : hI) (h : mRd_readCondition_B4 k4 t1 v2 v3 I = some q) : AW hFT cX6_readCondition 8 none RX6 kdC d [(0, .ref 1), (1, .ref t1), (2, .int v2), (3, .int v3)] 4 [] (I, J, RM B) none (q, J, RM B) := by
  obtain ⟨d0, rfl, hd0⟩ := h_mono hd
  unfold mRd_readCondition_B4 at h
  refine a_iload_n dX6_readCondition_4 rfl rfl ?_
  refine a_sipush dX6_readCondition_5 sq_500 ?_
  refine a_icmp_ge (tgt := 134) dX6_readCondition_8 (by decide) (fun c => ?_) (fun c => ?_)
  · replace h := h_iteT c h
    cases h
    exact a_vret dX6_readCondition_134
  · replace h := h_iteF c h
    refine a_aload_n dX6_readCondition_11 rfl rfl ?_
    refine b_getI hK_6 kc_1 (i := 9) rfl fl_6_61 rfl dX6_readCondition_12 ?_
    obtain ⟨v4x0, ev4x0, h⟩ := h_letS h
    refine a_topI ev4x0 ?_
    refine a_istore (lv' := [(4, .int v4x0), (0, .ref 1), (1, .ref t1), (2, .int v2), (3, .int v3)]) dX6_readCondition_15 (by decide) rfl ?_
    refine a_aload_n dX6_readCondition_17 rfl rfl ?_
    refine b_getI hK_6 kc_1 (i := 10) rfl fl_6_64 rfl dX6_readCondition_18 ?_
    obtain ⟨v5x1, ev5x1, h⟩ := h_letS h
    refine a_topI ev5x1 ?_
    refine a_istore (lv' := [(5, .int v5x1), (4, .int v4x0), (0, .ref 1), (1, .ref t1), (2, .int v2), (3, .int v3)]) dX6_readCondition_21 (by decide) rfl ?_
    refine a_aload_n dX6_readCondition_23 rfl rfl ?_
    refine b_getI hK_6 kc_1 (i := 11) rfl fl_6_67 rfl dX6_readCondition_24 ?_
    obtain ⟨v6x2, ev6x2, h⟩ := h_letS h
    refine a_topI ev6x2 ?_
    refine a_istore (lv' := [(6, .int v6x2), (5, .int v5x1), (4, .int v4x0), (0, .ref 1), (1, .ref t1), (2, .int v2), (3, .int v3)]) dX6_readCondition_27 (by decide) rfl ?_
    refine a_aload_n dX6_readCondition_29 rfl rfl ?_
    refine b_getI hK_6 kc_1 (i := 7) rfl fl_6_45 rfl dX6_readCondition_30 ?_
    obtain ⟨v7x3, ev7x3, h⟩ := h_letS h
    refine a_topI ev7x3 ?_
    refine a_istore (lv' := [(7, .int v7x3), (6, .int v6x2), (5, .int v5x1), (4, .int v4x0), (0, .ref 1), (1, .ref t1), (2, .int v2), (3, .int v3)]) dX6_readCondition_33 (by decide) rfl ?_
    refine a_aload_n dX6_readCondition_35 rfl rfl ?_
    refine a_callV1 [] yy_X6_isAtRelation ml_6_74 kc_1 rfl (sRd_isAtRelation _ (by omega)  I J B _ rfl) rfl rfl (Nat.le_of_ble_eq_true rfl) dX6_readCondition_36 ?_
    refine a_if_ne (tgt := 47) dX6_readCondition_39 (by decide) (fun c => ?_) (fun c => ?_)
    · replace h := h_iteF c h
      refine a_aload_n dX6_readCondition_47 rfl rfl ?_
      obtain ⟨q5, cq5, h⟩ := h_bindS h
      refine a_callV0 [] yy_X6_next ml_6_54 kc_1 rfl (sRd_next _ (by omega)  I J B q5 cq5) rfl rfl (Nat.le_of_ble_eq_true rfl) dX6_readCondition_48 ?_
      refine a_aload_n dX6_readCondition_51 rfl rfl ?_
      obtain ⟨q6, cq6, h⟩ := h_bindS h
      refine a_callV0 [] yy_X6_readSum ml_6_78 kc_1 rfl (sRd_readSum _ (by omega)  q5 J B q6 cq6) rfl rfl (Nat.le_of_ble_eq_true rfl) dX6_readCondition_52 ?_
      refine a_aload_n dX6_readCondition_55 rfl rfl ?_
      refine a_iload dX6_readCondition_56 rfl ?_
      refine a_aload_n dX6_readCondition_58 rfl rfl ?_
      refine b_getI hK_6 kc_1 (i := 9) rfl fl_6_61 rfl dX6_readCondition_59 ?_
      refine a_isub dX6_readCondition_62 ?_
      refine a_iload dX6_readCondition_63 rfl ?_
      refine a_aload_n dX6_readCondition_65 rfl rfl ?_
      refine b_getI hK_6 kc_1 (i := 10) rfl fl_6_64 rfl dX6_readCondition_66 ?_
      refine a_isub dX6_readCondition_69 ?_
      refine a_iload dX6_readCondition_70 rfl ?_
      refine a_aload_n dX6_readCondition_72 rfl rfl ?_
      refine b_getI hK_6 kc_1 (i := 11) rfl fl_6_67 rfl dX6_readCondition_73 ?_
      refine a_isub dX6_readCondition_76 ?_
      refine a_iload dX6_readCondition_77 rfl ?_
      refine a_iload_n dX6_readCondition_79 rfl rfl ?_
      obtain ⟨q7, cq7, h⟩ := h_bindS h
      refine a_callV0 [] yy_X0_add ml_6_81 (k_CD ht1) rfl (sCd_add _ (by omega) t1 ht1 (v4x0 - (q6 1 9)) (v5x1 - (q6 1 10)) (v6x2 - (q6 1 11)) v7x3 v2 q6 J B q7 cq7) rfl rfl (Nat.le_of_ble_eq_true rfl) dX6_readCondition_80 ?_
      refine a_aload_n dX6_readCondition_83 rfl rfl ?_
      refine b_getI hK_6 kc_1 (i := 7) rfl fl_6_45 rfl dX6_readCondition_84 ?_
      refine a_sipush dX6_readCondition_87 sq_266 ?_
      refine a_icmp_eq (tgt := 104) dX6_readCondition_90 (by decide) (fun c => ?_) (fun c => ?_)
      · replace h := h_iteT c h
        refine a_sub (lv' := [(0, .ref 1), (1, .ref t1), (3, .int v3)]) [4, 5, 7] rfl ?_
        exact sRd_readCondition_104 (d0 + 1) (by omega) k4 hk4 t1 ht1 v3 q7 J B _ h
      · replace h := h_iteF c h
        refine a_aload_n dX6_readCondition_93 rfl rfl ?_
        refine b_getI hK_6 kc_1 (i := 7) rfl fl_6_45 rfl dX6_readCondition_94 ?_
        refine a_sipush dX6_readCondition_97 sq_267 ?_
        refine a_icmp_eq (tgt := 104) dX6_readCondition_100 (by decide) (fun c => ?_) (fun c => ?_)
        · replace h := h_iteT c h
          refine a_sub (lv' := [(0, .ref 1), (1, .ref t1), (3, .int v3)]) [4, 5, 7] rfl ?_
          exact sRd_readCondition_104 (d0 + 1) (by omega) k4 hk4 t1 ht1 v3 q7 J B _ h
        · replace h := h_iteF c h
          cases h
          exact a_vret dX6_readCondition_103
    · replace h := h_iteT c h
      refine a_aload_n dX6_readCondition_42 rfl rfl ?_
      obtain ⟨q5, cq5, h⟩ := h_bindS h
      refine a_callV0 [] yy_X6_fail ml_6_51 kc_1 rfl (sRd_fail _ (by omega)  I J B q5 cq5) rfl rfl (Nat.le_of_ble_eq_true rfl) dX6_readCondition_43 ?_
      cases h
      exact a_vret dX6_readCondition_46
def mRd_readCondition_L4  : Nat → Nat → Int32 → Int32 → hI → Option (hI)
  | 0 => fun _ _ _ _ => none
  | n + 1 => mRd_readCondition_B4 (mRd_readCondition_L4 n)
theorem sRd_readCondition_L4 (d : Nat) (hd : 2 + 1 ≤ d) : ∀ (n : Nat) (t1 : Nat) (ht1 : h_CD t1) (v2 : Int32) (v3 : Int32) (I : hI) (J : hJ) (B : Bool × Bool) (q : hI) (h : mRd_readCondition_L4 n t1 v2 v3 I = some q), AW hFT cX6_readCondition 8 none RX6 kdC d [(0, .ref 1), (1, .ref t1), (2, .int v2), (3, .int v3)] 4 [] (I, J, RM B) none (q, J, RM B)
  | 0, _, _, _, _, _, _, _, q, h => by cases h
  | n + 1, t1, ht1, v2, v3, I, J, B, q, h => sRd_readCondition_B4 d hd (mRd_readCondition_L4 n) (sRd_readCondition_L4 d hd n) t1 ht1 v2 v3 I J B q h
def mRd_readCondition  (t1 : Nat) (I : hI) : Option (hI) :=
  mRd_readCondition_L4 hF t1 (1 : Int32) (0 : Int32) I
set_option maxHeartbeats 4000000 in
theorem sRd_readCondition (d : Nat) (hd : 2 + 1 ≤ d) (t1 : Nat) (ht1 : h_CD t1) (I : hI) (J : hJ) (B : Bool × Bool) (q : hI) (h : mRd_readCondition t1 I = some q) : HMet hFT yX6_readCondition cX6_readCondition 8 none kdC d [.ref 1, .ref t1] (I, J, RM B) none (q, J, RM B) := by
  obtain ⟨d0, rfl, hd0⟩ := h_mono hd
  refine HMet.of (by decide) (Nat.le_of_ble_eq_true rfl) ?_
  show AW hFT cX6_readCondition 8 none RX6 kdC (d0 + 1) [(0, .ref 1), (1, .ref t1)] 0 [] (I, J, RM B) none (q, J, RM B)
  unfold mRd_readCondition at h
  refine a_iconst dX6_readCondition_0 ic_1 ?_
  refine a_istore_n (lv' := [(2, .int (1 : Int32)), (0, .ref 1), (1, .ref t1)]) dX6_readCondition_1 rfl (by decide) rfl ?_
  refine a_iconst dX6_readCondition_2 ic_0 ?_
  refine a_istore_n (lv' := [(3, .int (0 : Int32)), (2, .int (1 : Int32)), (0, .ref 1), (1, .ref t1)]) dX6_readCondition_3 rfl (by decide) rfl ?_
  refine a_sub (lv' := [(0, .ref 1), (1, .ref t1), (2, .int (1 : Int32)), (3, .int (0 : Int32))]) [2, 3, 1, 0] rfl ?_
  exact sRd_readCondition_L4 (d0 + 1) (by omega) hF t1 ht1 (1 : Int32) (0 : Int32) I J B _ h
/-! CoinLoops$Reader.skip(I)Z -/
theorem dX6_skip_0 : decode cX6_skip 0 = .ok (.aload_n 0, 1) := by decide +kernel
theorem dX6_skip_1 : decode cX6_skip 1 = .ok (.getfield 45, 3) := by decide +kernel
theorem dX6_skip_4 : decode cX6_skip 4 = .ok (.iload_n 1, 1) := by decide +kernel
theorem dX6_skip_5 : decode cX6_skip 5 = .ok (.if_icmp .eq 5, 3) := by decide +kernel
theorem dX6_skip_8 : decode cX6_skip 8 = .ok (.iconst 0, 1) := by decide +kernel
theorem dX6_skip_9 : decode cX6_skip 9 = .ok (.ireturn, 1) := by decide +kernel
theorem dX6_skip_10 : decode cX6_skip 10 = .ok (.aload_n 0, 1) := by decide +kernel
theorem dX6_skip_11 : decode cX6_skip 11 = .ok (.invokevirtual 54, 3) := by decide +kernel
theorem dX6_skip_14 : decode cX6_skip 14 = .ok (.iconst 1, 1) := by decide +kernel
theorem dX6_skip_15 : decode cX6_skip 15 = .ok (.ireturn, 1) := by decide +kernel
def mRd_skip  (v1 : Int32) (I : hI) : Option (Int32 × hI) :=
  if (I 1 7) = v1 then
    ((mRd_next I).bind fun q1 =>
    some ((1 : Int32), q1))
  else
    some ((0 : Int32), I)
set_option maxHeartbeats 4000000 in
theorem sRd_skip (d : Nat) (hd : 0 + 1 ≤ d) (v1 : Int32) (I : hI) (J : hJ) (B : Bool × Bool) (q : Int32 × hI) (h : mRd_skip v1 I = some q) : HMet hFT yX6_skip cX6_skip 2 (some .boolean) kdC d [.ref 1, .int v1] (I, J, RM B) (some (.int q.1)) (q.2, J, RM B) := by
  obtain ⟨d0, rfl, hd0⟩ := h_mono hd
  refine HMet.of (by decide) (Nat.le_of_ble_eq_true rfl) ?_
  show AW hFT cX6_skip 2 (some .boolean) RX6 kdC (d0 + 1) [(0, .ref 1), (1, .int v1)] 0 [] (I, J, RM B) (some (.int q.1)) (q.2, J, RM B)
  unfold mRd_skip at h
  refine a_aload_n dX6_skip_0 rfl rfl ?_
  refine b_getI hK_6 kc_1 (i := 7) rfl fl_6_45 rfl dX6_skip_1 ?_
  refine a_iload_n dX6_skip_4 rfl rfl ?_
  refine a_icmp_eq (tgt := 10) dX6_skip_5 (by decide) (fun c => ?_) (fun c => ?_)
  · replace h := h_iteT c h
    refine a_aload_n dX6_skip_10 rfl rfl ?_
    obtain ⟨q1, cq1, h⟩ := h_bindS h
    refine a_callV0 [] yy_X6_next ml_6_54 kc_1 rfl (sRd_next _ (by omega)  I J B q1 cq1) rfl rfl (Nat.le_of_ble_eq_true rfl) dX6_skip_11 ?_
    refine a_iconst dX6_skip_14 ic_1 ?_
    cases h
    exact a_zret (h_Z1.1) dX6_skip_15
  · replace h := h_iteF c h
    refine a_iconst dX6_skip_8 ic_0 ?_
    cases h
    exact a_zret (h_Z0.1) dX6_skip_9
/-! CoinLoops$Reader.take(I)V -/
theorem dX6_take_0 : decode cX6_take 0 = .ok (.aload_n 0, 1) := by decide +kernel
theorem dX6_take_1 : decode cX6_take 1 = .ok (.iload_n 1, 1) := by decide +kernel
theorem dX6_take_2 : decode cX6_take 2 = .ok (.invokevirtual 57, 3) := by decide +kernel
theorem dX6_take_5 : decode cX6_take 5 = .ok (.ifCond .ne 7, 3) := by decide +kernel
theorem dX6_take_8 : decode cX6_take 8 = .ok (.aload_n 0, 1) := by decide +kernel
theorem dX6_take_9 : decode cX6_take 9 = .ok (.invokevirtual 51, 3) := by decide +kernel
theorem dX6_take_12 : decode cX6_take 12 = .ok (.return_, 1) := by decide +kernel
def mRd_take  (v1 : Int32) (I : hI) : Option (hI) :=
  (mRd_skip v1 I).bind fun q1 =>
  if q1.1 = 0 then
    ((mRd_fail q1.2).bind fun q2 =>
    some q2)
  else
    some q1.2
set_option maxHeartbeats 4000000 in
theorem sRd_take (d : Nat) (hd : 1 + 1 ≤ d) (v1 : Int32) (I : hI) (J : hJ) (B : Bool × Bool) (q : hI) (h : mRd_take v1 I = some q) : HMet hFT yX6_take cX6_take 2 none kdC d [.ref 1, .int v1] (I, J, RM B) none (q, J, RM B) := by
  obtain ⟨d0, rfl, hd0⟩ := h_mono hd
  refine HMet.of (by decide) (Nat.le_of_ble_eq_true rfl) ?_
  show AW hFT cX6_take 2 none RX6 kdC (d0 + 1) [(0, .ref 1), (1, .int v1)] 0 [] (I, J, RM B) none (q, J, RM B)
  unfold mRd_take at h
  refine a_aload_n dX6_take_0 rfl rfl ?_
  refine a_iload_n dX6_take_1 rfl rfl ?_
  obtain ⟨q1, cq1, h⟩ := h_bindS h
  refine a_callV1 [] yy_X6_skip ml_6_57 kc_1 rfl (sRd_skip _ (by omega) v1 I J B q1 cq1) rfl rfl (Nat.le_of_ble_eq_true rfl) dX6_take_2 ?_
  refine a_if_ne (tgt := 12) dX6_take_5 (by decide) (fun c => ?_) (fun c => ?_)
  · replace h := h_iteF c h
    cases h
    exact a_vret dX6_take_12
  · replace h := h_iteT c h
    refine a_aload_n dX6_take_8 rfl rfl ?_
    obtain ⟨q2, cq2, h⟩ := h_bindS h
    refine a_callV0 [] yy_X6_fail ml_6_51 kc_1 rfl (sRd_fail _ (by omega)  q1.2 J B q2 cq2) rfl rfl (Nat.le_of_ble_eq_true rfl) dX6_take_9 ?_
    cases h
    exact a_vret dX6_take_12
/-! CoinLoops$Reader.takeNumber(II)I -/
theorem dX6_takeNumber_0 : decode cX6_takeNumber 0 = .ok (.aload_n 0, 1) := by decide +kernel
theorem dX6_takeNumber_1 : decode cX6_takeNumber 1 = .ok (.getfield 21, 3) := by decide +kernel
theorem dX6_takeNumber_4 : decode cX6_takeNumber 4 = .ok (.aload_n 0, 1) := by decide +kernel
theorem dX6_takeNumber_5 : decode cX6_takeNumber 5 = .ok (.getfield 42, 3) := by decide +kernel
theorem dX6_takeNumber_8 : decode cX6_takeNumber 8 = .ok (.iaload, 1) := by decide +kernel
theorem dX6_takeNumber_9 : decode cX6_takeNumber 9 = .ok (.istore_n 3, 1) := by decide +kernel
theorem dX6_takeNumber_10 : decode cX6_takeNumber 10 = .ok (.aload_n 0, 1) := by decide +kernel
theorem dX6_takeNumber_11 : decode cX6_takeNumber 11 = .ok (.getfield 45, 3) := by decide +kernel
theorem dX6_takeNumber_14 : decode cX6_takeNumber 14 = .ok (.sipush 256, 3) := by decide +kernel
theorem dX6_takeNumber_17 : decode cX6_takeNumber 17 = .ok (.if_icmp .ne 13, 3) := by decide +kernel
theorem dX6_takeNumber_20 : decode cX6_takeNumber 20 = .ok (.iload_n 3, 1) := by decide +kernel
theorem dX6_takeNumber_21 : decode cX6_takeNumber 21 = .ok (.iload_n 1, 1) := by decide +kernel
theorem dX6_takeNumber_22 : decode cX6_takeNumber 22 = .ok (.if_icmp .lt 8, 3) := by decide +kernel
theorem dX6_takeNumber_25 : decode cX6_takeNumber 25 = .ok (.iload_n 3, 1) := by decide +kernel
theorem dX6_takeNumber_26 : decode cX6_takeNumber 26 = .ok (.iload_n 2, 1) := by decide +kernel
theorem dX6_takeNumber_27 : decode cX6_takeNumber 27 = .ok (.if_icmp .le 9, 3) := by decide +kernel
theorem dX6_takeNumber_30 : decode cX6_takeNumber 30 = .ok (.aload_n 0, 1) := by decide +kernel
theorem dX6_takeNumber_31 : decode cX6_takeNumber 31 = .ok (.invokevirtual 51, 3) := by decide +kernel
theorem dX6_takeNumber_34 : decode cX6_takeNumber 34 = .ok (.iload_n 1, 1) := by decide +kernel
theorem dX6_takeNumber_35 : decode cX6_takeNumber 35 = .ok (.ireturn, 1) := by decide +kernel
theorem dX6_takeNumber_36 : decode cX6_takeNumber 36 = .ok (.aload_n 0, 1) := by decide +kernel
theorem dX6_takeNumber_37 : decode cX6_takeNumber 37 = .ok (.invokevirtual 54, 3) := by decide +kernel
theorem dX6_takeNumber_40 : decode cX6_takeNumber 40 = .ok (.iload_n 3, 1) := by decide +kernel
theorem dX6_takeNumber_41 : decode cX6_takeNumber 41 = .ok (.ireturn, 1) := by decide +kernel
def mRd_takeNumber_30  (v1 : Int32) (I : hI) : Option (Int32 × hI) :=
  (mRd_fail I).bind fun q1 =>
  some (v1, q1)
set_option maxHeartbeats 4000000 in
theorem sRd_takeNumber_30 (d : Nat) (hd : 0 + 1 ≤ d) (v1 : Int32) (I : hI) (J : hJ) (B : Bool × Bool) (q : Int32 × hI) (h : mRd_takeNumber_30 v1 I = some q) : AW hFT cX6_takeNumber 4 (some .int) RX6 kdC d [(0, .ref 1), (1, .int v1)] 30 [] (I, J, RM B) (some (.int q.1)) (q.2, J, RM B) := by
  obtain ⟨d0, rfl, hd0⟩ := h_mono hd
  unfold mRd_takeNumber_30 at h
  refine a_aload_n dX6_takeNumber_30 rfl rfl ?_
  obtain ⟨q1, cq1, h⟩ := h_bindS h
  refine a_callV0 [] yy_X6_fail ml_6_51 kc_1 rfl (sRd_fail _ (by omega)  I J B q1 cq1) rfl rfl (Nat.le_of_ble_eq_true rfl) dX6_takeNumber_31 ?_
  refine a_iload_n dX6_takeNumber_34 rfl rfl ?_
  cases h
  exact a_iret dX6_takeNumber_35
def mRd_takeNumber  (v1 : Int32) (v2 : Int32) (I : hI) : Option (Int32 × hI) :=
  h_g (h_in (I 1 6) 501) <|
  h_let (I 5 (I 1 6).toNatClampNeg) fun v3x1 =>
  if (I 1 7) = (256 : Int32) then
    (if v3x1 < v1 then
      mRd_takeNumber_30 v1 I
    else
      (if v3x1 ≤ v2 then
        ((mRd_next I).bind fun q3 =>
        some (v3x1, q3))
      else
        mRd_takeNumber_30 v1 I))
  else
    mRd_takeNumber_30 v1 I
set_option maxHeartbeats 4000000 in
theorem sRd_takeNumber (d : Nat) (hd : 0 + 1 ≤ d) (v1 : Int32) (v2 : Int32) (I : hI) (J : hJ) (B : Bool × Bool) (q : Int32 × hI) (h : mRd_takeNumber v1 v2 I = some q) : HMet hFT yX6_takeNumber cX6_takeNumber 4 (some .int) kdC d [.ref 1, .int v1, .int v2] (I, J, RM B) (some (.int q.1)) (q.2, J, RM B) := by
  obtain ⟨d0, rfl, hd0⟩ := h_mono hd
  refine HMet.of (by decide) (Nat.le_of_ble_eq_true rfl) ?_
  show AW hFT cX6_takeNumber 4 (some .int) RX6 kdC (d0 + 1) [(0, .ref 1), (1, .int v1), (2, .int v2)] 0 [] (I, J, RM B) (some (.int q.1)) (q.2, J, RM B)
  unfold mRd_takeNumber at h
  refine a_aload_n dX6_takeNumber_0 rfl rfl ?_
  refine b_getR hK_6 kc_1 (i := 4) rfl fl_6_21 rfl (rm_1_4 B) dX6_takeNumber_1 ?_
  refine a_aload_n dX6_takeNumber_4 rfl rfl ?_
  refine b_getI hK_6 kc_1 (i := 6) rfl fl_6_42 rfl dX6_takeNumber_5 ?_
  obtain ⟨g1, h⟩ := h_gS h
  refine b_iaload kc_5 (h_inV g1) dX6_takeNumber_8 ?_
  obtain ⟨v3x1, ev3x1, h⟩ := h_letS h
  refine a_topI ev3x1 ?_
  refine a_istore_n (lv' := [(3, .int v3x1), (0, .ref 1), (1, .int v1), (2, .int v2)]) dX6_takeNumber_9 rfl (by decide) rfl ?_
  refine a_aload_n dX6_takeNumber_10 rfl rfl ?_
  refine b_getI hK_6 kc_1 (i := 7) rfl fl_6_45 rfl dX6_takeNumber_11 ?_
  refine a_sipush dX6_takeNumber_14 sq_256 ?_
  refine a_icmp_ne (tgt := 30) dX6_takeNumber_17 (by decide) (fun c => ?_) (fun c => ?_)
  · replace h := h_iteF c h
    refine a_sub (lv' := [(0, .ref 1), (1, .int v1)]) [1, 2] rfl ?_
    exact sRd_takeNumber_30 (d0 + 1) (by omega) v1 I J B _ h
  · replace h := h_iteT c h
    refine a_iload_n dX6_takeNumber_20 rfl rfl ?_
    refine a_iload_n dX6_takeNumber_21 rfl rfl ?_
    refine a_icmp_lt (tgt := 30) dX6_takeNumber_22 (by decide) (fun c => ?_) (fun c => ?_)
    · replace h := h_iteT c h
      refine a_sub (lv' := [(0, .ref 1), (1, .int v1)]) [1, 2] rfl ?_
      exact sRd_takeNumber_30 (d0 + 1) (by omega) v1 I J B _ h
    · replace h := h_iteF c h
      refine a_iload_n dX6_takeNumber_25 rfl rfl ?_
      refine a_iload_n dX6_takeNumber_26 rfl rfl ?_
      refine a_icmp_le (tgt := 36) dX6_takeNumber_27 (by decide) (fun c => ?_) (fun c => ?_)
      · replace h := h_iteT c h
        refine a_aload_n dX6_takeNumber_36 rfl rfl ?_
        obtain ⟨q3, cq3, h⟩ := h_bindS h
        refine a_callV0 [] yy_X6_next ml_6_54 kc_1 rfl (sRd_next _ (by omega)  I J B q3 cq3) rfl rfl (Nat.le_of_ble_eq_true rfl) dX6_takeNumber_37 ?_
        refine a_iload_n dX6_takeNumber_40 rfl rfl ?_
        cases h
        exact a_iret dX6_takeNumber_41
      · replace h := h_iteF c h
        refine a_sub (lv' := [(0, .ref 1), (1, .int v1)]) [1, 2] rfl ?_
        exact sRd_takeNumber_30 (d0 + 1) (by omega) v1 I J B _ h
/-! CoinLoops$GuessText.readPiece(LCoinLoops$Reader;)Z -/
theorem dX2_readPiece_0 : decode cX2_readPiece 0 = .ok (.aload_n 0, 1) := by decide +kernel
theorem dX2_readPiece_1 : decode cX2_readPiece 1 = .ok (.getfield 41, 3) := by decide +kernel
theorem dX2_readPiece_4 : decode cX2_readPiece 4 = .ok (.bipush 8, 2) := by decide +kernel
theorem dX2_readPiece_6 : decode cX2_readPiece 6 = .ok (.if_icmp .lt 9, 3) := by decide +kernel
theorem dX2_readPiece_9 : decode cX2_readPiece 9 = .ok (.aload_n 1, 1) := by decide +kernel
theorem dX2_readPiece_10 : decode cX2_readPiece 10 = .ok (.invokevirtual 55, 3) := by decide +kernel
theorem dX2_readPiece_13 : decode cX2_readPiece 13 = .ok (.iconst 0, 1) := by decide +kernel
theorem dX2_readPiece_14 : decode cX2_readPiece 14 = .ok (.ireturn, 1) := by decide +kernel
theorem dX2_readPiece_15 : decode cX2_readPiece 15 = .ok (.aload_n 0, 1) := by decide +kernel
theorem dX2_readPiece_16 : decode cX2_readPiece 16 = .ok (.getfield 31, 3) := by decide +kernel
theorem dX2_readPiece_19 : decode cX2_readPiece 19 = .ok (.aload_n 0, 1) := by decide +kernel
theorem dX2_readPiece_20 : decode cX2_readPiece 20 = .ok (.getfield 41, 3) := by decide +kernel
theorem dX2_readPiece_23 : decode cX2_readPiece 23 = .ok (.aload_n 0, 1) := by decide +kernel
theorem dX2_readPiece_24 : decode cX2_readPiece 24 = .ok (.getfield 12, 3) := by decide +kernel
theorem dX2_readPiece_27 : decode cX2_readPiece 27 = .ok (.getfield 37, 3) := by decide +kernel
theorem dX2_readPiece_30 : decode cX2_readPiece 30 = .ok (.iastore, 1) := by decide +kernel
theorem dX2_readPiece_31 : decode cX2_readPiece 31 = .ok (.aload_n 1, 1) := by decide +kernel
theorem dX2_readPiece_32 : decode cX2_readPiece 32 = .ok (.invokevirtual 58, 3) := by decide +kernel
theorem dX2_readPiece_35 : decode cX2_readPiece 35 = .ok (.aload_n 1, 1) := by decide +kernel
theorem dX2_readPiece_36 : decode cX2_readPiece 36 = .ok (.invokevirtual 61, 3) := by decide +kernel
theorem dX2_readPiece_39 : decode cX2_readPiece 39 = .ok (.istore_n 2, 1) := by decide +kernel
theorem dX2_readPiece_40 : decode cX2_readPiece 40 = .ok (.iload_n 2, 1) := by decide +kernel
theorem dX2_readPiece_41 : decode cX2_readPiece 41 = .ok (.ifCond .eq 21, 3) := by decide +kernel
theorem dX2_readPiece_44 : decode cX2_readPiece 44 = .ok (.aload_n 1, 1) := by decide +kernel
theorem dX2_readPiece_45 : decode cX2_readPiece 45 = .ok (.aload_n 0, 1) := by decide +kernel
theorem dX2_readPiece_46 : decode cX2_readPiece 46 = .ok (.getfield 12, 3) := by decide +kernel
theorem dX2_readPiece_49 : decode cX2_readPiece 49 = .ok (.invokevirtual 65, 3) := by decide +kernel
theorem dX2_readPiece_52 : decode cX2_readPiece 52 = .ok (.aload_n 1, 1) := by decide +kernel
theorem dX2_readPiece_53 : decode cX2_readPiece 53 = .ok (.bipush 63, 2) := by decide +kernel
theorem dX2_readPiece_55 : decode cX2_readPiece 55 = .ok (.invokevirtual 69, 3) := by decide +kernel
theorem dX2_readPiece_58 : decode cX2_readPiece 58 = .ok (.aload_n 1, 1) := by decide +kernel
theorem dX2_readPiece_59 : decode cX2_readPiece 59 = .ok (.invokevirtual 58, 3) := by decide +kernel
theorem dX2_readPiece_62 : decode cX2_readPiece 62 = .ok (.aload_n 0, 1) := by decide +kernel
theorem dX2_readPiece_63 : decode cX2_readPiece 63 = .ok (.getfield 34, 3) := by decide +kernel
theorem dX2_readPiece_66 : decode cX2_readPiece 66 = .ok (.aload_n 0, 1) := by decide +kernel
theorem dX2_readPiece_67 : decode cX2_readPiece 67 = .ok (.getfield 41, 3) := by decide +kernel
theorem dX2_readPiece_70 : decode cX2_readPiece 70 = .ok (.aload_n 0, 1) := by decide +kernel
theorem dX2_readPiece_71 : decode cX2_readPiece 71 = .ok (.getfield 12, 3) := by decide +kernel
theorem dX2_readPiece_74 : decode cX2_readPiece 74 = .ok (.getfield 37, 3) := by decide +kernel
theorem dX2_readPiece_77 : decode cX2_readPiece 77 = .ok (.iastore, 1) := by decide +kernel
theorem dX2_readPiece_78 : decode cX2_readPiece 78 = .ok (.aload_n 0, 1) := by decide +kernel
theorem dX2_readPiece_79 : decode cX2_readPiece 79 = .ok (.getfield 18, 3) := by decide +kernel
theorem dX2_readPiece_82 : decode cX2_readPiece 82 = .ok (.aload_n 0, 1) := by decide +kernel
theorem dX2_readPiece_83 : decode cX2_readPiece 83 = .ok (.getfield 41, 3) := by decide +kernel
theorem dX2_readPiece_86 : decode cX2_readPiece 86 = .ok (.aload_n 1, 1) := by decide +kernel
theorem dX2_readPiece_87 : decode cX2_readPiece 87 = .ok (.getfield 73, 3) := by decide +kernel
theorem dX2_readPiece_90 : decode cX2_readPiece 90 = .ok (.iastore, 1) := by decide +kernel
theorem dX2_readPiece_91 : decode cX2_readPiece 91 = .ok (.aload_n 0, 1) := by decide +kernel
theorem dX2_readPiece_92 : decode cX2_readPiece 92 = .ok (.getfield 22, 3) := by decide +kernel
theorem dX2_readPiece_95 : decode cX2_readPiece 95 = .ok (.aload_n 0, 1) := by decide +kernel
theorem dX2_readPiece_96 : decode cX2_readPiece 96 = .ok (.getfield 41, 3) := by decide +kernel
theorem dX2_readPiece_99 : decode cX2_readPiece 99 = .ok (.aload_n 1, 1) := by decide +kernel
theorem dX2_readPiece_100 : decode cX2_readPiece 100 = .ok (.getfield 75, 3) := by decide +kernel
theorem dX2_readPiece_103 : decode cX2_readPiece 103 = .ok (.iastore, 1) := by decide +kernel
theorem dX2_readPiece_104 : decode cX2_readPiece 104 = .ok (.aload_n 0, 1) := by decide +kernel
theorem dX2_readPiece_105 : decode cX2_readPiece 105 = .ok (.getfield 25, 3) := by decide +kernel
theorem dX2_readPiece_108 : decode cX2_readPiece 108 = .ok (.aload_n 0, 1) := by decide +kernel
theorem dX2_readPiece_109 : decode cX2_readPiece 109 = .ok (.getfield 41, 3) := by decide +kernel
theorem dX2_readPiece_112 : decode cX2_readPiece 112 = .ok (.aload_n 1, 1) := by decide +kernel
theorem dX2_readPiece_113 : decode cX2_readPiece 113 = .ok (.getfield 77, 3) := by decide +kernel
theorem dX2_readPiece_116 : decode cX2_readPiece 116 = .ok (.iastore, 1) := by decide +kernel
theorem dX2_readPiece_117 : decode cX2_readPiece 117 = .ok (.aload_n 0, 1) := by decide +kernel
theorem dX2_readPiece_118 : decode cX2_readPiece 118 = .ok (.getfield 28, 3) := by decide +kernel
theorem dX2_readPiece_121 : decode cX2_readPiece 121 = .ok (.aload_n 0, 1) := by decide +kernel
theorem dX2_readPiece_122 : decode cX2_readPiece 122 = .ok (.getfield 41, 3) := by decide +kernel
theorem dX2_readPiece_125 : decode cX2_readPiece 125 = .ok (.aload_n 1, 1) := by decide +kernel
theorem dX2_readPiece_126 : decode cX2_readPiece 126 = .ok (.sipush 268, 3) := by decide +kernel
theorem dX2_readPiece_129 : decode cX2_readPiece 129 = .ok (.invokevirtual 79, 3) := by decide +kernel
theorem dX2_readPiece_132 : decode cX2_readPiece 132 = .ok (.ifCond .eq 13, 3) := by decide +kernel
theorem dX2_readPiece_135 : decode cX2_readPiece 135 = .ok (.aload_n 1, 1) := by decide +kernel
theorem dX2_readPiece_136 : decode cX2_readPiece 136 = .ok (.iconst 1, 1) := by decide +kernel
theorem dX2_readPiece_137 : decode cX2_readPiece 137 = .ok (.bipush 12, 2) := by decide +kernel
theorem dX2_readPiece_139 : decode cX2_readPiece 139 = .ok (.invokevirtual 83, 3) := by decide +kernel
theorem dX2_readPiece_142 : decode cX2_readPiece 142 = .ok (.goto 4, 3) := by decide +kernel
theorem dX2_readPiece_145 : decode cX2_readPiece 145 = .ok (.iconst 1, 1) := by decide +kernel
theorem dX2_readPiece_146 : decode cX2_readPiece 146 = .ok (.iastore, 1) := by decide +kernel
theorem dX2_readPiece_147 : decode cX2_readPiece 147 = .ok (.aload_n 0, 1) := by decide +kernel
theorem dX2_readPiece_148 : decode cX2_readPiece 148 = .ok (.dup, 1) := by decide +kernel
theorem dX2_readPiece_149 : decode cX2_readPiece 149 = .ok (.getfield 41, 3) := by decide +kernel
theorem dX2_readPiece_152 : decode cX2_readPiece 152 = .ok (.iconst 1, 1) := by decide +kernel
theorem dX2_readPiece_153 : decode cX2_readPiece 153 = .ok (.iadd, 1) := by decide +kernel
theorem dX2_readPiece_154 : decode cX2_readPiece 154 = .ok (.putfield 41, 3) := by decide +kernel
theorem dX2_readPiece_157 : decode cX2_readPiece 157 = .ok (.iload_n 2, 1) := by decide +kernel
theorem dX2_readPiece_158 : decode cX2_readPiece 158 = .ok (.ifCond .eq 9, 3) := by decide +kernel
theorem dX2_readPiece_161 : decode cX2_readPiece 161 = .ok (.aload_n 1, 1) := by decide +kernel
theorem dX2_readPiece_162 : decode cX2_readPiece 162 = .ok (.bipush 59, 2) := by decide +kernel
theorem dX2_readPiece_164 : decode cX2_readPiece 164 = .ok (.invokevirtual 69, 3) := by decide +kernel
theorem dX2_readPiece_167 : decode cX2_readPiece 167 = .ok (.iload_n 2, 1) := by decide +kernel
theorem dX2_readPiece_168 : decode cX2_readPiece 168 = .ok (.ifCond .eq 15, 3) := by decide +kernel
theorem dX2_readPiece_171 : decode cX2_readPiece 171 = .ok (.aload_n 1, 1) := by decide +kernel
theorem dX2_readPiece_172 : decode cX2_readPiece 172 = .ok (.getfield 87, 3) := by decide +kernel
theorem dX2_readPiece_175 : decode cX2_readPiece 175 = .ok (.iconst (-1), 1) := by decide +kernel
theorem dX2_readPiece_176 : decode cX2_readPiece 176 = .ok (.if_icmp .eq 7, 3) := by decide +kernel
theorem dX2_readPiece_179 : decode cX2_readPiece 179 = .ok (.iconst 1, 1) := by decide +kernel
theorem dX2_readPiece_180 : decode cX2_readPiece 180 = .ok (.goto 4, 3) := by decide +kernel
theorem dX2_readPiece_183 : decode cX2_readPiece 183 = .ok (.iconst 0, 1) := by decide +kernel
theorem dX2_readPiece_184 : decode cX2_readPiece 184 = .ok (.ireturn, 1) := by decide +kernel
def mGt_readPiece_167  (v2 : Int32) (I : hI) : Option (Int32 × hI) :=
  if v2 = 0 then
    some ((0 : Int32), I)
  else
    (if (I 1 7) = (-1 : Int32) then
      some ((0 : Int32), I)
    else
      some ((1 : Int32), I))
set_option maxHeartbeats 4000000 in
theorem sGt_readPiece_167 (d : Nat) (hd : 3 + 1 ≤ d) (v2 : Int32) (I : hI) (J : hJ) (B : Bool × Bool) (q : Int32 × hI) (h : mGt_readPiece_167 v2 I = some q) : AW hFT cX2_readPiece 3 (some .boolean) RX2 kdC d [(1, .ref 1), (2, .int v2)] 167 [] (I, J, RM B) (some (.int q.1)) (q.2, J, RM B) := by
  obtain ⟨d0, rfl, hd0⟩ := h_mono hd
  unfold mGt_readPiece_167 at h
  refine a_iload_n dX2_readPiece_167 rfl rfl ?_
  refine a_if_eq (tgt := 183) dX2_readPiece_168 (by decide) (fun c => ?_) (fun c => ?_)
  · replace h := h_iteT c h
    refine a_iconst dX2_readPiece_183 ic_0 ?_
    cases h
    exact a_zret (h_Z0.1) dX2_readPiece_184
  · replace h := h_iteF c h
    refine a_aload_n dX2_readPiece_171 rfl rfl ?_
    refine b_getI hK_6 kc_1 (i := 7) rfl fl_2_87 rfl dX2_readPiece_172 ?_
    refine a_iconst dX2_readPiece_175 ic_m1 ?_
    refine a_icmp_eq (tgt := 183) dX2_readPiece_176 (by decide) (fun c => ?_) (fun c => ?_)
    · replace h := h_iteT c h
      refine a_iconst dX2_readPiece_183 ic_0 ?_
      cases h
      exact a_zret (h_Z0.1) dX2_readPiece_184
    · replace h := h_iteF c h
      refine a_iconst dX2_readPiece_179 ic_1 ?_
      refine a_goto (tgt := 184) dX2_readPiece_180 (by decide) ?_
      cases h
      exact a_zret (h_Z1.1) dX2_readPiece_184
def mGt_readPiece_146  (t0 : Nat) (v2 : Int32) (as0 : Nat) (vs1 : Int32) (vs2 : Int32) (I : hI) : Option (Int32 × hI) :=
  h_g (h_in vs1 8) <|
  h_let (h_u I as0 vs1.toNatClampNeg vs2) fun I2 =>
  h_let (h_u I2 t0 7 ((I2 t0 7) + (1 : Int32))) fun I3 =>
  if v2 = 0 then
    mGt_readPiece_167 v2 I3
  else
    ((mRd_take (59 : Int32) I3).bind fun q4 =>
    mGt_readPiece_167 v2 q4)
set_option maxHeartbeats 4000000 in
theorem sGt_readPiece_146 (d : Nat) (hd : 3 + 1 ≤ d) (t0 : Nat) (ht0 : h_GT t0) (v2 : Int32) (as0 : Nat) (has0 : kdC[as0]? = some (0, 8)) (vs1 : Int32) (vs2 : Int32) (I : hI) (J : hJ) (B : Bool × Bool) (q : Int32 × hI) (h : mGt_readPiece_146 t0 v2 as0 vs1 vs2 I = some q) : AW hFT cX2_readPiece 3 (some .boolean) RX2 kdC d [(0, .ref t0), (1, .ref 1), (2, .int v2)] 146 [.int vs2, .int vs1, .ref as0] (I, J, RM B) (some (.int q.1)) (q.2, J, RM B) := by
  obtain ⟨d0, rfl, hd0⟩ := h_mono hd
  unfold mGt_readPiece_146 at h
  obtain ⟨g1, h⟩ := h_gS h
  refine b_iastore has0 (h_inV g1) dX2_readPiece_146 ?_
  obtain ⟨I2, eI2, h⟩ := h_letS h
  refine a_memI eI2 ?_
  refine a_aload_n dX2_readPiece_147 rfl rfl ?_
  refine a_dup dX2_readPiece_148 rfl ?_
  refine b_getI hK_2 (k_GT ht0) (i := 7) rfl fl_2_41 rfl dX2_readPiece_149 ?_
  refine a_iconst dX2_readPiece_152 ic_1 ?_
  refine a_iadd dX2_readPiece_153 ?_
  refine b_putI hK_2 (k_GT ht0) (i := 7) rfl fl_2_41 rfl rfl (h_NI _) dX2_readPiece_154 ?_
  obtain ⟨I3, eI3, h⟩ := h_letS h
  refine a_memI eI3 ?_
  refine a_iload_n dX2_readPiece_157 rfl rfl ?_
  refine a_if_eq (tgt := 167) dX2_readPiece_158 (by decide) (fun c => ?_) (fun c => ?_)
  · replace h := h_iteT c h
    refine a_sub (lv' := [(1, .ref 1), (2, .int v2)]) [1, 2] rfl ?_
    exact sGt_readPiece_167 (d0 + 1) (by omega) v2 I3 J B _ h
  · replace h := h_iteF c h
    refine a_aload_n dX2_readPiece_161 rfl rfl ?_
    refine a_bipush dX2_readPiece_162 bp_59 ?_
    obtain ⟨q4, cq4, h⟩ := h_bindS h
    refine a_callV0 [] yy_X6_take ml_2_69 kc_1 rfl (sRd_take _ (by omega) (59 : Int32) I3 J B q4 cq4) rfl rfl (Nat.le_of_ble_eq_true rfl) dX2_readPiece_164 ?_
    refine a_sub (lv' := [(1, .ref 1), (2, .int v2)]) [1, 2] rfl ?_
    exact sGt_readPiece_167 (d0 + 1) (by omega) v2 q4 J B _ h
def mGt_readPiece_62  (t0 : Nat) (v2 : Int32) (I : hI) : Option (Int32 × hI) :=
  h_g (h_in (I t0 7) 8) <|
  h_let (h_u I (t0 + 12) (I t0 7).toNatClampNeg (I (t0 + 1) 5)) fun I2 =>
  h_g (h_in (I2 t0 7) 8) <|
  h_let (h_u I2 (t0 + 7) (I2 t0 7).toNatClampNeg (I2 1 9)) fun I4 =>
  h_g (h_in (I4 t0 7) 8) <|
  h_let (h_u I4 (t0 + 8) (I4 t0 7).toNatClampNeg (I4 1 10)) fun I6 =>
  h_g (h_in (I6 t0 7) 8) <|
  h_let (h_u I6 (t0 + 9) (I6 t0 7).toNatClampNeg (I6 1 11)) fun I8 =>
  (mRd_skip (268 : Int32) I8).bind fun q9 =>
  if q9.1 = 0 then
    mGt_readPiece_146 t0 v2 (t0 + 10) (I8 t0 7) (1 : Int32) q9.2
  else
    ((mRd_takeNumber (1 : Int32) (12 : Int32) q9.2).bind fun q10 =>
    mGt_readPiece_146 t0 v2 (t0 + 10) (I8 t0 7) q10.1 q10.2)
set_option maxHeartbeats 4000000 in
theorem sGt_readPiece_62 (d : Nat) (hd : 3 + 1 ≤ d) (t0 : Nat) (ht0 : h_GT t0) (v2 : Int32) (I : hI) (J : hJ) (B : Bool × Bool) (q : Int32 × hI) (h : mGt_readPiece_62 t0 v2 I = some q) : AW hFT cX2_readPiece 3 (some .boolean) RX2 kdC d [(0, .ref t0), (1, .ref 1), (2, .int v2)] 62 [] (I, J, RM B) (some (.int q.1)) (q.2, J, RM B) := by
  obtain ⟨d0, rfl, hd0⟩ := h_mono hd
  unfold mGt_readPiece_62 at h
  refine a_aload_n dX2_readPiece_62 rfl rfl ?_
  refine b_getR hK_2 (k_GT ht0) (i := 6) rfl fl_2_34 rfl (rm_GT_6 B ht0) dX2_readPiece_63 ?_
  refine a_aload_n dX2_readPiece_66 rfl rfl ?_
  refine b_getI hK_2 (k_GT ht0) (i := 7) rfl fl_2_41 rfl dX2_readPiece_67 ?_
  refine a_aload_n dX2_readPiece_70 rfl rfl ?_
  refine b_getR hK_2 (k_GT ht0) (i := 0) rfl fl_2_12 rfl (rm_GT_0 B ht0) dX2_readPiece_71 ?_
  refine b_getI hK_0 (k_CD (cd_GT ht0)) (i := 5) rfl fl_2_37 rfl dX2_readPiece_74 ?_
  obtain ⟨g1, h⟩ := h_gS h
  refine b_iastore (k_GT12 ht0) (h_inV g1) dX2_readPiece_77 ?_
  obtain ⟨I2, eI2, h⟩ := h_letS h
  refine a_memI eI2 ?_
  refine a_aload_n dX2_readPiece_78 rfl rfl ?_
  refine b_getR hK_2 (k_GT ht0) (i := 1) rfl fl_2_18 rfl (rm_GT_1 B ht0) dX2_readPiece_79 ?_
  refine a_aload_n dX2_readPiece_82 rfl rfl ?_
  refine b_getI hK_2 (k_GT ht0) (i := 7) rfl fl_2_41 rfl dX2_readPiece_83 ?_
  refine a_aload_n dX2_readPiece_86 rfl rfl ?_
  refine b_getI hK_6 kc_1 (i := 9) rfl fl_2_73 rfl dX2_readPiece_87 ?_
  obtain ⟨g3, h⟩ := h_gS h
  refine b_iastore (k_GT7 ht0) (h_inV g3) dX2_readPiece_90 ?_
  obtain ⟨I4, eI4, h⟩ := h_letS h
  refine a_memI eI4 ?_
  refine a_aload_n dX2_readPiece_91 rfl rfl ?_
  refine b_getR hK_2 (k_GT ht0) (i := 2) rfl fl_2_22 rfl (rm_GT_2 B ht0) dX2_readPiece_92 ?_
  refine a_aload_n dX2_readPiece_95 rfl rfl ?_
  refine b_getI hK_2 (k_GT ht0) (i := 7) rfl fl_2_41 rfl dX2_readPiece_96 ?_
  refine a_aload_n dX2_readPiece_99 rfl rfl ?_
  refine b_getI hK_6 kc_1 (i := 10) rfl fl_2_75 rfl dX2_readPiece_100 ?_
  obtain ⟨g5, h⟩ := h_gS h
  refine b_iastore (k_GT8 ht0) (h_inV g5) dX2_readPiece_103 ?_
  obtain ⟨I6, eI6, h⟩ := h_letS h
  refine a_memI eI6 ?_
  refine a_aload_n dX2_readPiece_104 rfl rfl ?_
  refine b_getR hK_2 (k_GT ht0) (i := 3) rfl fl_2_25 rfl (rm_GT_3 B ht0) dX2_readPiece_105 ?_
  refine a_aload_n dX2_readPiece_108 rfl rfl ?_
  refine b_getI hK_2 (k_GT ht0) (i := 7) rfl fl_2_41 rfl dX2_readPiece_109 ?_
  refine a_aload_n dX2_readPiece_112 rfl rfl ?_
  refine b_getI hK_6 kc_1 (i := 11) rfl fl_2_77 rfl dX2_readPiece_113 ?_
  obtain ⟨g7, h⟩ := h_gS h
  refine b_iastore (k_GT9 ht0) (h_inV g7) dX2_readPiece_116 ?_
  obtain ⟨I8, eI8, h⟩ := h_letS h
  refine a_memI eI8 ?_
  refine a_aload_n dX2_readPiece_117 rfl rfl ?_
  refine b_getR hK_2 (k_GT ht0) (i := 4) rfl fl_2_28 rfl (rm_GT_4 B ht0) dX2_readPiece_118 ?_
  refine a_aload_n dX2_readPiece_121 rfl rfl ?_
  refine b_getI hK_2 (k_GT ht0) (i := 7) rfl fl_2_41 rfl dX2_readPiece_122 ?_
  refine a_aload_n dX2_readPiece_125 rfl rfl ?_
  refine a_sipush dX2_readPiece_126 sq_268 ?_
  obtain ⟨q9, cq9, h⟩ := h_bindS h
  refine a_callV1 [.int (I8 t0 7), .ref (t0 + 10)] yy_X6_skip ml_2_79 kc_1 rfl (sRd_skip _ (by omega) (268 : Int32) I8 J B q9 cq9) rfl rfl (Nat.le_of_ble_eq_true rfl) dX2_readPiece_129 ?_
  refine a_if_eq (tgt := 145) dX2_readPiece_132 (by decide) (fun c => ?_) (fun c => ?_)
  · replace h := h_iteT c h
    refine a_iconst dX2_readPiece_145 ic_1 ?_
    exact sGt_readPiece_146 (d0 + 1) (by omega) t0 ht0 v2 (t0 + 10) (k_GT10 ht0) (I8 t0 7) (1 : Int32) q9.2 J B _ h
  · replace h := h_iteF c h
    refine a_aload_n dX2_readPiece_135 rfl rfl ?_
    refine a_iconst dX2_readPiece_136 ic_1 ?_
    refine a_bipush dX2_readPiece_137 bp_12 ?_
    obtain ⟨q10, cq10, h⟩ := h_bindS h
    refine a_callV1 [.int (I8 t0 7), .ref (t0 + 10)] yy_X6_takeNumber ml_2_83 kc_1 rfl (sRd_takeNumber _ (by omega) (1 : Int32) (12 : Int32) q9.2 J B q10 cq10) rfl rfl (Nat.le_of_ble_eq_true rfl) dX2_readPiece_139 ?_
    refine a_goto (tgt := 146) dX2_readPiece_142 (by decide) ?_
    exact sGt_readPiece_146 (d0 + 1) (by omega) t0 ht0 v2 (t0 + 10) (k_GT10 ht0) (I8 t0 7) q10.1 q10.2 J B _ h
def mGt_readPiece  (t0 : Nat) (I : hI) : Option (Int32 × hI) :=
  if (I t0 7) < (8 : Int32) then
    (h_g (h_in (I t0 7) 8) <|
    h_let (h_u I (t0 + 11) (I t0 7).toNatClampNeg (I (t0 + 1) 5)) fun I2 =>
    (mRd_readSum I2).bind fun q3 =>
    h_let (mRd_isAtRelation q3) fun v2x3 =>
    if v2x3 = 0 then
      mGt_readPiece_62 t0 v2x3 q3
    else
      ((mRd_readCondition (t0 + 1) q3).bind fun q5 =>
      (mRd_take (63 : Int32) q5).bind fun q6 =>
      (mRd_readSum q6).bind fun q7 =>
      mGt_readPiece_62 t0 v2x3 q7))
  else
    ((mRd_fail I).bind fun q1 =>
    some ((0 : Int32), q1))
set_option maxHeartbeats 4000000 in
theorem sGt_readPiece (d : Nat) (hd : 3 + 1 ≤ d) (t0 : Nat) (ht0 : h_GT t0) (I : hI) (J : hJ) (B : Bool × Bool) (q : Int32 × hI) (h : mGt_readPiece t0 I = some q) : HMet hFT yX2_readPiece cX2_readPiece 3 (some .boolean) kdC d [.ref t0, .ref 1] (I, J, RM B) (some (.int q.1)) (q.2, J, RM B) := by
  obtain ⟨d0, rfl, hd0⟩ := h_mono hd
  refine HMet.of (by decide) (Nat.le_of_ble_eq_true rfl) ?_
  show AW hFT cX2_readPiece 3 (some .boolean) RX2 kdC (d0 + 1) [(0, .ref t0), (1, .ref 1)] 0 [] (I, J, RM B) (some (.int q.1)) (q.2, J, RM B)
  unfold mGt_readPiece at h
  refine a_aload_n dX2_readPiece_0 rfl rfl ?_
  refine b_getI hK_2 (k_GT ht0) (i := 7) rfl fl_2_41 rfl dX2_readPiece_1 ?_
  refine a_bipush dX2_readPiece_4 bp_8 ?_
  refine a_icmp_lt (tgt := 15) dX2_readPiece_6 (by decide) (fun c => ?_) (fun c => ?_)
  · replace h := h_iteT c h
    refine a_aload_n dX2_readPiece_15 rfl rfl ?_
    refine b_getR hK_2 (k_GT ht0) (i := 5) rfl fl_2_31 rfl (rm_GT_5 B ht0) dX2_readPiece_16 ?_
    refine a_aload_n dX2_readPiece_19 rfl rfl ?_
    refine b_getI hK_2 (k_GT ht0) (i := 7) rfl fl_2_41 rfl dX2_readPiece_20 ?_
    refine a_aload_n dX2_readPiece_23 rfl rfl ?_
    refine b_getR hK_2 (k_GT ht0) (i := 0) rfl fl_2_12 rfl (rm_GT_0 B ht0) dX2_readPiece_24 ?_
    refine b_getI hK_0 (k_CD (cd_GT ht0)) (i := 5) rfl fl_2_37 rfl dX2_readPiece_27 ?_
    obtain ⟨g1, h⟩ := h_gS h
    refine b_iastore (k_GT11 ht0) (h_inV g1) dX2_readPiece_30 ?_
    obtain ⟨I2, eI2, h⟩ := h_letS h
    refine a_memI eI2 ?_
    refine a_aload_n dX2_readPiece_31 rfl rfl ?_
    obtain ⟨q3, cq3, h⟩ := h_bindS h
    refine a_callV0 [] yy_X6_readSum ml_2_58 kc_1 rfl (sRd_readSum _ (by omega)  I2 J B q3 cq3) rfl rfl (Nat.le_of_ble_eq_true rfl) dX2_readPiece_32 ?_
    refine a_aload_n dX2_readPiece_35 rfl rfl ?_
    refine a_callV1 [] yy_X6_isAtRelation ml_2_61 kc_1 rfl (sRd_isAtRelation _ (by omega)  q3 J B _ rfl) rfl rfl (Nat.le_of_ble_eq_true rfl) dX2_readPiece_36 ?_
    obtain ⟨v2x3, ev2x3, h⟩ := h_letS h
    refine a_topI ev2x3 ?_
    refine a_istore_n (lv' := [(2, .int v2x3), (0, .ref t0), (1, .ref 1)]) dX2_readPiece_39 rfl (by decide) rfl ?_
    refine a_iload_n dX2_readPiece_40 rfl rfl ?_
    refine a_if_eq (tgt := 62) dX2_readPiece_41 (by decide) (fun c => ?_) (fun c => ?_)
    · replace h := h_iteT c h
      refine a_sub (lv' := [(0, .ref t0), (1, .ref 1), (2, .int v2x3)]) [1, 2, 0] rfl ?_
      exact sGt_readPiece_62 (d0 + 1) (by omega) t0 ht0 v2x3 q3 J B _ h
    · replace h := h_iteF c h
      refine a_aload_n dX2_readPiece_44 rfl rfl ?_
      refine a_aload_n dX2_readPiece_45 rfl rfl ?_
      refine b_getR hK_2 (k_GT ht0) (i := 0) rfl fl_2_12 rfl (rm_GT_0 B ht0) dX2_readPiece_46 ?_
      obtain ⟨q5, cq5, h⟩ := h_bindS h
      refine a_callV0 [] yy_X6_readCondition ml_2_65 kc_1 rfl (sRd_readCondition _ (by omega) (t0 + 1) (cd_GT ht0) q3 J B q5 cq5) rfl rfl (Nat.le_of_ble_eq_true rfl) dX2_readPiece_49 ?_
      refine a_aload_n dX2_readPiece_52 rfl rfl ?_
      refine a_bipush dX2_readPiece_53 bp_63 ?_
      obtain ⟨q6, cq6, h⟩ := h_bindS h
      refine a_callV0 [] yy_X6_take ml_2_69 kc_1 rfl (sRd_take _ (by omega) (63 : Int32) q5 J B q6 cq6) rfl rfl (Nat.le_of_ble_eq_true rfl) dX2_readPiece_55 ?_
      refine a_aload_n dX2_readPiece_58 rfl rfl ?_
      obtain ⟨q7, cq7, h⟩ := h_bindS h
      refine a_callV0 [] yy_X6_readSum ml_2_58 kc_1 rfl (sRd_readSum _ (by omega)  q6 J B q7 cq7) rfl rfl (Nat.le_of_ble_eq_true rfl) dX2_readPiece_59 ?_
      refine a_sub (lv' := [(0, .ref t0), (1, .ref 1), (2, .int v2x3)]) [1, 2, 0] rfl ?_
      exact sGt_readPiece_62 (d0 + 1) (by omega) t0 ht0 v2x3 q7 J B _ h
  · replace h := h_iteF c h
    refine a_aload_n dX2_readPiece_9 rfl rfl ?_
    obtain ⟨q1, cq1, h⟩ := h_bindS h
    refine a_callV0 [] yy_X6_fail ml_2_55 kc_1 rfl (sRd_fail _ (by omega)  I J B q1 cq1) rfl rfl (Nat.le_of_ble_eq_true rfl) dX2_readPiece_10 ?_
    refine a_iconst dX2_readPiece_13 ic_0 ?_
    cases h
    exact a_zret (h_Z0.1) dX2_readPiece_14
/-! CoinLoops$Reader.close()I -/
theorem dX6_close_0 : decode cX6_close 0 = .ok (.aload_n 0, 1) := by decide +kernel
theorem dX6_close_1 : decode cX6_close 1 = .ok (.getfield 45, 3) := by decide +kernel
theorem dX6_close_4 : decode cX6_close 4 = .ok (.ifCond .eq 7, 3) := by decide +kernel
theorem dX6_close_7 : decode cX6_close 7 = .ok (.aload_n 0, 1) := by decide +kernel
theorem dX6_close_8 : decode cX6_close 8 = .ok (.invokevirtual 51, 3) := by decide +kernel
theorem dX6_close_11 : decode cX6_close 11 = .ok (.aload_n 0, 1) := by decide +kernel
theorem dX6_close_12 : decode cX6_close 12 = .ok (.getfield 48, 3) := by decide +kernel
theorem dX6_close_15 : decode cX6_close 15 = .ok (.ireturn, 1) := by decide +kernel
def mRd_close   (I : hI) : Option (Int32 × hI) :=
  if (I 1 7) = 0 then
    some ((I 1 8), I)
  else
    ((mRd_fail I).bind fun q1 =>
    some ((q1 1 8), q1))
set_option maxHeartbeats 4000000 in
theorem sRd_close (d : Nat) (hd : 0 + 1 ≤ d)  (I : hI) (J : hJ) (B : Bool × Bool) (q : Int32 × hI) (h : mRd_close I = some q) : HMet hFT yX6_close cX6_close 1 (some .int) kdC d [.ref 1] (I, J, RM B) (some (.int q.1)) (q.2, J, RM B) := by
  obtain ⟨d0, rfl, hd0⟩ := h_mono hd
  refine HMet.of (by decide) (Nat.le_of_ble_eq_true rfl) ?_
  show AW hFT cX6_close 1 (some .int) RX6 kdC (d0 + 1) [(0, .ref 1)] 0 [] (I, J, RM B) (some (.int q.1)) (q.2, J, RM B)
  unfold mRd_close at h
  refine a_aload_n dX6_close_0 rfl rfl ?_
  refine b_getI hK_6 kc_1 (i := 7) rfl fl_6_45 rfl dX6_close_1 ?_
  refine a_if_eq (tgt := 11) dX6_close_4 (by decide) (fun c => ?_) (fun c => ?_)
  · replace h := h_iteT c h
    refine a_aload_n dX6_close_11 rfl rfl ?_
    refine b_getI hK_6 kc_1 (i := 8) rfl fl_6_48 rfl dX6_close_12 ?_
    cases h
    exact a_iret dX6_close_15
  · replace h := h_iteF c h
    refine a_aload_n dX6_close_7 rfl rfl ?_
    obtain ⟨q1, cq1, h⟩ := h_bindS h
    refine a_callV0 [] yy_X6_fail ml_6_51 kc_1 rfl (sRd_fail _ (by omega)  I J B q1 cq1) rfl rfl (Nat.le_of_ble_eq_true rfl) dX6_close_8 ?_
    refine a_aload_n dX6_close_11 rfl rfl ?_
    refine b_getI hK_6 kc_1 (i := 8) rfl fl_6_48 rfl dX6_close_12 ?_
    cases h
    exact a_iret dX6_close_15
/-! CoinLoops$GuessText.readFrom(LCoinLoops$Reader;)I -/
theorem dX2_readFrom_0 : decode cX2_readFrom 0 = .ok (.aload_n 0, 1) := by decide +kernel
theorem dX2_readFrom_1 : decode cX2_readFrom 1 = .ok (.getfield 12, 3) := by decide +kernel
theorem dX2_readFrom_4 : decode cX2_readFrom 4 = .ok (.iconst 0, 1) := by decide +kernel
theorem dX2_readFrom_5 : decode cX2_readFrom 5 = .ok (.putfield 37, 3) := by decide +kernel
theorem dX2_readFrom_8 : decode cX2_readFrom 8 = .ok (.aload_n 0, 1) := by decide +kernel
theorem dX2_readFrom_9 : decode cX2_readFrom 9 = .ok (.iconst 0, 1) := by decide +kernel
theorem dX2_readFrom_10 : decode cX2_readFrom 10 = .ok (.putfield 41, 3) := by decide +kernel
theorem dX2_readFrom_13 : decode cX2_readFrom 13 = .ok (.aload_n 1, 1) := by decide +kernel
theorem dX2_readFrom_14 : decode cX2_readFrom 14 = .ok (.invokevirtual 42, 3) := by decide +kernel
theorem dX2_readFrom_17 : decode cX2_readFrom 17 = .ok (.iconst 1, 1) := by decide +kernel
theorem dX2_readFrom_18 : decode cX2_readFrom 18 = .ok (.istore_n 2, 1) := by decide +kernel
theorem dX2_readFrom_19 : decode cX2_readFrom 19 = .ok (.iconst 0, 1) := by decide +kernel
theorem dX2_readFrom_20 : decode cX2_readFrom 20 = .ok (.istore_n 3, 1) := by decide +kernel
theorem dX2_readFrom_21 : decode cX2_readFrom 21 = .ok (.iload_n 3, 1) := by decide +kernel
theorem dX2_readFrom_22 : decode cX2_readFrom 22 = .ok (.bipush 8, 2) := by decide +kernel
theorem dX2_readFrom_24 : decode cX2_readFrom 24 = .ok (.if_icmp .gt 19, 3) := by decide +kernel
theorem dX2_readFrom_27 : decode cX2_readFrom 27 = .ok (.iload_n 2, 1) := by decide +kernel
theorem dX2_readFrom_28 : decode cX2_readFrom 28 = .ok (.ifCond .eq 15, 3) := by decide +kernel
theorem dX2_readFrom_31 : decode cX2_readFrom 31 = .ok (.aload_n 0, 1) := by decide +kernel
theorem dX2_readFrom_32 : decode cX2_readFrom 32 = .ok (.aload_n 1, 1) := by decide +kernel
theorem dX2_readFrom_33 : decode cX2_readFrom 33 = .ok (.invokevirtual 47, 3) := by decide +kernel
theorem dX2_readFrom_36 : decode cX2_readFrom 36 = .ok (.istore_n 2, 1) := by decide +kernel
theorem dX2_readFrom_37 : decode cX2_readFrom 37 = .ok (.iinc 3 1, 3) := by decide +kernel
theorem dX2_readFrom_40 : decode cX2_readFrom 40 = .ok (.goto (-19), 3) := by decide +kernel
theorem dX2_readFrom_43 : decode cX2_readFrom 43 = .ok (.aload_n 1, 1) := by decide +kernel
theorem dX2_readFrom_44 : decode cX2_readFrom 44 = .ok (.invokevirtual 51, 3) := by decide +kernel
theorem dX2_readFrom_47 : decode cX2_readFrom 47 = .ok (.ireturn, 1) := by decide +kernel
def mGt_readFrom_43   (I : hI) : Option (Int32 × hI) :=
  (mRd_close I).bind fun q1 =>
  some (q1.1, q1.2)
set_option maxHeartbeats 4000000 in
theorem sGt_readFrom_43 (d : Nat) (hd : 10 + 1 ≤ d)  (I : hI) (J : hJ) (B : Bool × Bool) (q : Int32 × hI) (h : mGt_readFrom_43 I = some q) : AW hFT cX2_readFrom 4 (some .int) RX2 kdC d [(1, .ref 1)] 43 [] (I, J, RM B) (some (.int q.1)) (q.2, J, RM B) := by
  obtain ⟨d0, rfl, hd0⟩ := h_mono hd
  unfold mGt_readFrom_43 at h
  refine a_aload_n dX2_readFrom_43 rfl rfl ?_
  obtain ⟨q1, cq1, h⟩ := h_bindS h
  refine a_callV1 [] yy_X6_close ml_2_51 kc_1 rfl (sRd_close _ (by omega)  I J B q1 cq1) rfl rfl (Nat.le_of_ble_eq_true rfl) dX2_readFrom_44 ?_
  cases h
  exact a_iret dX2_readFrom_47
def mGt_readFrom_B21 (k21 : Nat → Int32 → Int32 → hI → Option (Int32 × hI)) (t0 : Nat) (v2 : Int32) (v3 : Int32) (I : hI) : Option (Int32 × hI) :=
  if (8 : Int32) < v3 then
    mGt_readFrom_43 I
  else
    (if v2 = 0 then
      mGt_readFrom_43 I
    else
      ((mGt_readPiece t0 I).bind fun q1 =>
      h_let q1.1 fun v2x1 =>
      k21 t0 v2x1 (v3 + (1 : Int32)) q1.2))
set_option maxHeartbeats 4000000 in
theorem sGt_readFrom_B21 (d : Nat) (hd : 10 + 1 ≤ d) (k21 : Nat → Int32 → Int32 → hI → Option (Int32 × hI)) (hk21 : ∀ (t0 : Nat) (ht0 : h_GT t0) (v2 : Int32) (v3 : Int32) (I : hI) (J : hJ) (B : Bool × Bool) (q : Int32 × hI), k21 t0 v2 v3 I = some q → AW hFT cX2_readFrom 4 (some .int) RX2 kdC d [(0, .ref t0), (1, .ref 1), (2, .int v2), (3, .int v3)] 21 [] (I, J, RM B) (some (.int q.1)) (q.2, J, RM B)) (t0 : Nat) (ht0 : h_GT t0) (v2 : Int32) (v3 : Int32) (I : hI) (J : hJ) (B : Bool × Bool) (q : Int32 × hI) (h : mGt_readFrom_B21 k21 t0 v2 v3 I = some q) : AW hFT cX2_readFrom 4 (some .int) RX2 kdC d [(0, .ref t0), (1, .ref 1), (2, .int v2), (3, .int v3)] 21 [] (I, J, RM B) (some (.int q.1)) (q.2, J, RM B) := by
  obtain ⟨d0, rfl, hd0⟩ := h_mono hd
  unfold mGt_readFrom_B21 at h
  refine a_iload_n dX2_readFrom_21 rfl rfl ?_
  refine a_bipush dX2_readFrom_22 bp_8 ?_
  refine a_icmp_gt (tgt := 43) dX2_readFrom_24 (by decide) (fun c => ?_) (fun c => ?_)
  · replace h := h_iteT c h
    refine a_sub (lv' := [(1, .ref 1)]) [1] rfl ?_
    exact sGt_readFrom_43 (d0 + 1) (by omega)  I J B _ h
  · replace h := h_iteF c h
    refine a_iload_n dX2_readFrom_27 rfl rfl ?_
    refine a_if_eq (tgt := 43) dX2_readFrom_28 (by decide) (fun c => ?_) (fun c => ?_)
    · replace h := h_iteT c h
      refine a_sub (lv' := [(1, .ref 1)]) [1] rfl ?_
      exact sGt_readFrom_43 (d0 + 1) (by omega)  I J B _ h
    · replace h := h_iteF c h
      refine a_aload_n dX2_readFrom_31 rfl rfl ?_
      refine a_aload_n dX2_readFrom_32 rfl rfl ?_
      obtain ⟨q1, cq1, h⟩ := h_bindS h
      refine a_callV1 [] yy_X2_readPiece ml_2_47 (k_GT ht0) rfl (sGt_readPiece _ (by omega) t0 ht0 I J B q1 cq1) rfl rfl (Nat.le_of_ble_eq_true rfl) dX2_readFrom_33 ?_
      obtain ⟨v2x1, ev2x1, h⟩ := h_letS h
      refine a_topI ev2x1 ?_
      refine a_istore_n (lv' := [(2, .int v2x1), (0, .ref t0), (1, .ref 1), (3, .int v3)]) dX2_readFrom_36 rfl (by decide) rfl ?_
      refine b_iinc (lv' := [(3, .int (v3 + (1 : Int32))), (2, .int v2x1), (0, .ref t0), (1, .ref 1)]) dX2_readFrom_37 rfl ic_1 (by decide) rfl ?_
      refine a_goto (tgt := 21) dX2_readFrom_40 (by decide) ?_
      refine a_sub (lv' := [(0, .ref t0), (1, .ref 1), (2, .int v2x1), (3, .int (v3 + (1 : Int32)))]) [2, 3, 1, 0] rfl ?_
      exact hk21 t0 ht0 v2x1 (v3 + (1 : Int32)) q1.2 J B _ h
def mGt_readFrom_L21  : Nat → Nat → Int32 → Int32 → hI → Option (Int32 × hI)
  | 0 => fun _ _ _ _ => none
  | n + 1 => mGt_readFrom_B21 (mGt_readFrom_L21 n)
theorem sGt_readFrom_L21 (d : Nat) (hd : 10 + 1 ≤ d) : ∀ (n : Nat) (t0 : Nat) (ht0 : h_GT t0) (v2 : Int32) (v3 : Int32) (I : hI) (J : hJ) (B : Bool × Bool) (q : Int32 × hI) (h : mGt_readFrom_L21 n t0 v2 v3 I = some q), AW hFT cX2_readFrom 4 (some .int) RX2 kdC d [(0, .ref t0), (1, .ref 1), (2, .int v2), (3, .int v3)] 21 [] (I, J, RM B) (some (.int q.1)) (q.2, J, RM B)
  | 0, _, _, _, _, _, _, _, q, h => by cases h
  | n + 1, t0, ht0, v2, v3, I, J, B, q, h => sGt_readFrom_B21 d hd (mGt_readFrom_L21 n) (sGt_readFrom_L21 d hd n) t0 ht0 v2 v3 I J B q h
def mGt_readFrom  (t0 : Nat) (I : hI) : Option (Int32 × hI) :=
  h_let (h_u I (t0 + 1) 5 (0 : Int32)) fun I1 =>
  h_let (h_u I1 t0 7 (0 : Int32)) fun I2 =>
  (mRd_open I2).bind fun q3 =>
  mGt_readFrom_L21 hF t0 (1 : Int32) (0 : Int32) q3
set_option maxHeartbeats 4000000 in
theorem sGt_readFrom (d : Nat) (hd : 10 + 1 ≤ d) (t0 : Nat) (ht0 : h_GT t0) (I : hI) (J : hJ) (B : Bool × Bool) (q : Int32 × hI) (h : mGt_readFrom t0 I = some q) : HMet hFT yX2_readFrom cX2_readFrom 4 (some .int) kdC d [.ref t0, .ref 1] (I, J, RM B) (some (.int q.1)) (q.2, J, RM B) := by
  obtain ⟨d0, rfl, hd0⟩ := h_mono hd
  refine HMet.of (by decide) (Nat.le_of_ble_eq_true rfl) ?_
  show AW hFT cX2_readFrom 4 (some .int) RX2 kdC (d0 + 1) [(0, .ref t0), (1, .ref 1)] 0 [] (I, J, RM B) (some (.int q.1)) (q.2, J, RM B)
  unfold mGt_readFrom at h
  refine a_aload_n dX2_readFrom_0 rfl rfl ?_
  refine b_getR hK_2 (k_GT ht0) (i := 0) rfl fl_2_12 rfl (rm_GT_0 B ht0) dX2_readFrom_1 ?_
  refine a_iconst dX2_readFrom_4 ic_0 ?_
  refine b_putI hK_0 (k_CD (cd_GT ht0)) (i := 5) rfl fl_2_37 rfl rfl (h_NI _) dX2_readFrom_5 ?_
  obtain ⟨I1, eI1, h⟩ := h_letS h
  refine a_memI eI1 ?_
  refine a_aload_n dX2_readFrom_8 rfl rfl ?_
  refine a_iconst dX2_readFrom_9 ic_0 ?_
  refine b_putI hK_2 (k_GT ht0) (i := 7) rfl fl_2_41 rfl rfl (h_NI _) dX2_readFrom_10 ?_
  obtain ⟨I2, eI2, h⟩ := h_letS h
  refine a_memI eI2 ?_
  refine a_aload_n dX2_readFrom_13 rfl rfl ?_
  obtain ⟨q3, cq3, h⟩ := h_bindS h
  refine a_callV0 [] yy_X6_open ml_2_42 kc_1 rfl (sRd_open _ (by omega)  I2 J B q3 cq3) rfl rfl (Nat.le_of_ble_eq_true rfl) dX2_readFrom_14 ?_
  refine a_iconst dX2_readFrom_17 ic_1 ?_
  refine a_istore_n (lv' := [(2, .int (1 : Int32)), (0, .ref t0), (1, .ref 1)]) dX2_readFrom_18 rfl (by decide) rfl ?_
  refine a_iconst dX2_readFrom_19 ic_0 ?_
  refine a_istore_n (lv' := [(3, .int (0 : Int32)), (2, .int (1 : Int32)), (0, .ref t0), (1, .ref 1)]) dX2_readFrom_20 rfl (by decide) rfl ?_
  refine a_sub (lv' := [(0, .ref t0), (1, .ref 1), (2, .int (1 : Int32)), (3, .int (0 : Int32))]) [2, 3, 1, 0] rfl ?_
  exact sGt_readFrom_L21 (d0 + 1) (by omega) hF t0 ht0 (1 : Int32) (0 : Int32) q3 J B _ h
/-! CoinLoops$GuessText.timesWhole(II)J -/
theorem dX2_timesWhole_0 : decode cX2_timesWhole 0 = .ok (.iconst 0, 1) := by decide +kernel
theorem dX2_timesWhole_1 : decode cX2_timesWhole 1 = .ok (.istore_n 3, 1) := by decide +kernel
theorem dX2_timesWhole_2 : decode cX2_timesWhole 2 = .ok (.iload_n 3, 1) := by decide +kernel
theorem dX2_timesWhole_3 : decode cX2_timesWhole 3 = .ok (.aload_n 0, 1) := by decide +kernel
theorem dX2_timesWhole_4 : decode cX2_timesWhole 4 = .ok (.getfield 41, 3) := by decide +kernel
theorem dX2_timesWhole_7 : decode cX2_timesWhole 7 = .ok (.if_icmp .ge 116, 3) := by decide +kernel
theorem dX2_timesWhole_10 : decode cX2_timesWhole 10 = .ok (.iload_n 3, 1) := by decide +kernel
theorem dX2_timesWhole_11 : decode cX2_timesWhole 11 = .ok (.bipush 8, 2) := by decide +kernel
theorem dX2_timesWhole_13 : decode cX2_timesWhole 13 = .ok (.if_icmp .ge 110, 3) := by decide +kernel
theorem dX2_timesWhole_16 : decode cX2_timesWhole 16 = .ok (.iload_n 3, 1) := by decide +kernel
theorem dX2_timesWhole_17 : decode cX2_timesWhole 17 = .ok (.aload_n 0, 1) := by decide +kernel
theorem dX2_timesWhole_18 : decode cX2_timesWhole 18 = .ok (.getfield 41, 3) := by decide +kernel
theorem dX2_timesWhole_21 : decode cX2_timesWhole 21 = .ok (.iconst 1, 1) := by decide +kernel
theorem dX2_timesWhole_22 : decode cX2_timesWhole 22 = .ok (.isub, 1) := by decide +kernel
theorem dX2_timesWhole_23 : decode cX2_timesWhole 23 = .ok (.if_icmp .ne 7, 3) := by decide +kernel
theorem dX2_timesWhole_26 : decode cX2_timesWhole 26 = .ok (.iconst 1, 1) := by decide +kernel
theorem dX2_timesWhole_27 : decode cX2_timesWhole 27 = .ok (.goto 4, 3) := by decide +kernel
theorem dX2_timesWhole_30 : decode cX2_timesWhole 30 = .ok (.iconst 0, 1) := by decide +kernel
theorem dX2_timesWhole_31 : decode cX2_timesWhole 31 = .ok (.istore 4, 2) := by decide +kernel
theorem dX2_timesWhole_33 : decode cX2_timesWhole 33 = .ok (.iload 4, 2) := by decide +kernel
theorem dX2_timesWhole_35 : decode cX2_timesWhole 35 = .ok (.ifCond .ne 27, 3) := by decide +kernel
theorem dX2_timesWhole_38 : decode cX2_timesWhole 38 = .ok (.aload_n 0, 1) := by decide +kernel
theorem dX2_timesWhole_39 : decode cX2_timesWhole 39 = .ok (.getfield 12, 3) := by decide +kernel
theorem dX2_timesWhole_42 : decode cX2_timesWhole 42 = .ok (.aload_n 0, 1) := by decide +kernel
theorem dX2_timesWhole_43 : decode cX2_timesWhole 43 = .ok (.getfield 31, 3) := by decide +kernel
theorem dX2_timesWhole_46 : decode cX2_timesWhole 46 = .ok (.iload_n 3, 1) := by decide +kernel
theorem dX2_timesWhole_47 : decode cX2_timesWhole 47 = .ok (.iaload, 1) := by decide +kernel
theorem dX2_timesWhole_48 : decode cX2_timesWhole 48 = .ok (.aload_n 0, 1) := by decide +kernel
theorem dX2_timesWhole_49 : decode cX2_timesWhole 49 = .ok (.getfield 34, 3) := by decide +kernel
theorem dX2_timesWhole_52 : decode cX2_timesWhole 52 = .ok (.iload_n 3, 1) := by decide +kernel
theorem dX2_timesWhole_53 : decode cX2_timesWhole 53 = .ok (.iaload, 1) := by decide +kernel
theorem dX2_timesWhole_54 : decode cX2_timesWhole 54 = .ok (.iload_n 1, 1) := by decide +kernel
theorem dX2_timesWhole_55 : decode cX2_timesWhole 55 = .ok (.iload_n 2, 1) := by decide +kernel
theorem dX2_timesWhole_56 : decode cX2_timesWhole 56 = .ok (.invokevirtual 90, 3) := by decide +kernel
theorem dX2_timesWhole_59 : decode cX2_timesWhole 59 = .ok (.ifCond .eq 58, 3) := by decide +kernel
theorem dX2_timesWhole_62 : decode cX2_timesWhole 62 = .ok (.aload_n 0, 1) := by decide +kernel
theorem dX2_timesWhole_63 : decode cX2_timesWhole 63 = .ok (.getfield 18, 3) := by decide +kernel
theorem dX2_timesWhole_66 : decode cX2_timesWhole 66 = .ok (.iload_n 3, 1) := by decide +kernel
theorem dX2_timesWhole_67 : decode cX2_timesWhole 67 = .ok (.iaload, 1) := by decide +kernel
theorem dX2_timesWhole_68 : decode cX2_timesWhole 68 = .ok (.iload_n 1, 1) := by decide +kernel
theorem dX2_timesWhole_69 : decode cX2_timesWhole 69 = .ok (.imul, 1) := by decide +kernel
theorem dX2_timesWhole_70 : decode cX2_timesWhole 70 = .ok (.aload_n 0, 1) := by decide +kernel
theorem dX2_timesWhole_71 : decode cX2_timesWhole 71 = .ok (.getfield 22, 3) := by decide +kernel
theorem dX2_timesWhole_74 : decode cX2_timesWhole 74 = .ok (.iload_n 3, 1) := by decide +kernel
theorem dX2_timesWhole_75 : decode cX2_timesWhole 75 = .ok (.iaload, 1) := by decide +kernel
theorem dX2_timesWhole_76 : decode cX2_timesWhole 76 = .ok (.iload_n 2, 1) := by decide +kernel
theorem dX2_timesWhole_77 : decode cX2_timesWhole 77 = .ok (.imul, 1) := by decide +kernel
theorem dX2_timesWhole_78 : decode cX2_timesWhole 78 = .ok (.iadd, 1) := by decide +kernel
theorem dX2_timesWhole_79 : decode cX2_timesWhole 79 = .ok (.aload_n 0, 1) := by decide +kernel
theorem dX2_timesWhole_80 : decode cX2_timesWhole 80 = .ok (.getfield 25, 3) := by decide +kernel
theorem dX2_timesWhole_83 : decode cX2_timesWhole 83 = .ok (.iload_n 3, 1) := by decide +kernel
theorem dX2_timesWhole_84 : decode cX2_timesWhole 84 = .ok (.iaload, 1) := by decide +kernel
theorem dX2_timesWhole_85 : decode cX2_timesWhole 85 = .ok (.iadd, 1) := by decide +kernel
theorem dX2_timesWhole_86 : decode cX2_timesWhole 86 = .ok (.i2l, 1) := by decide +kernel
theorem dX2_timesWhole_87 : decode cX2_timesWhole 87 = .ok (.lstore 5, 2) := by decide +kernel
theorem dX2_timesWhole_89 : decode cX2_timesWhole 89 = .ok (.aload_n 0, 1) := by decide +kernel
theorem dX2_timesWhole_90 : decode cX2_timesWhole 90 = .ok (.getfield 28, 3) := by decide +kernel
theorem dX2_timesWhole_93 : decode cX2_timesWhole 93 = .ok (.iload_n 3, 1) := by decide +kernel
theorem dX2_timesWhole_94 : decode cX2_timesWhole 94 = .ok (.iaload, 1) := by decide +kernel
theorem dX2_timesWhole_95 : decode cX2_timesWhole 95 = .ok (.ifCond .le 20, 3) := by decide +kernel
theorem dX2_timesWhole_98 : decode cX2_timesWhole 98 = .ok (.lload 5, 2) := by decide +kernel
theorem dX2_timesWhole_100 : decode cX2_timesWhole 100 = .ok (.sipush 27720, 3) := by decide +kernel
theorem dX2_timesWhole_103 : decode cX2_timesWhole 103 = .ok (.aload_n 0, 1) := by decide +kernel
theorem dX2_timesWhole_104 : decode cX2_timesWhole 104 = .ok (.getfield 28, 3) := by decide +kernel
theorem dX2_timesWhole_107 : decode cX2_timesWhole 107 = .ok (.iload_n 3, 1) := by decide +kernel
theorem dX2_timesWhole_108 : decode cX2_timesWhole 108 = .ok (.iaload, 1) := by decide +kernel
theorem dX2_timesWhole_109 : decode cX2_timesWhole 109 = .ok (.idiv, 1) := by decide +kernel
theorem dX2_timesWhole_110 : decode cX2_timesWhole 110 = .ok (.i2l, 1) := by decide +kernel
theorem dX2_timesWhole_111 : decode cX2_timesWhole 111 = .ok (.lmul, 1) := by decide +kernel
theorem dX2_timesWhole_112 : decode cX2_timesWhole 112 = .ok (.goto 4, 3) := by decide +kernel
theorem dX2_timesWhole_115 : decode cX2_timesWhole 115 = .ok (.lconst 0, 1) := by decide +kernel
theorem dX2_timesWhole_116 : decode cX2_timesWhole 116 = .ok (.lreturn, 1) := by decide +kernel
theorem dX2_timesWhole_117 : decode cX2_timesWhole 117 = .ok (.iinc 3 1, 3) := by decide +kernel
theorem dX2_timesWhole_120 : decode cX2_timesWhole 120 = .ok (.goto (-118), 3) := by decide +kernel
theorem dX2_timesWhole_123 : decode cX2_timesWhole 123 = .ok (.lconst 0, 1) := by decide +kernel
theorem dX2_timesWhole_124 : decode cX2_timesWhole 124 = .ok (.lreturn, 1) := by decide +kernel
def mGt_timesWhole_62 (k2 : Nat → Int32 → Int32 → Int32 → hI → Option (Int64)) (t0 : Nat) (v1 : Int32) (v2 : Int32) (v3 : Int32) (I : hI) : Option (Int64) :=
  h_g (h_in v3 8) <|
  h_g (h_in v3 8) <|
  h_g (h_in v3 8) <|
  h_let (((((I (t0 + 7) v3.toNatClampNeg) * v1) + ((I (t0 + 8) v3.toNatClampNeg) * v2)) + (I (t0 + 9) v3.toNatClampNeg)).toInt64) fun v5x3 =>
  h_g (h_in v3 8) <|
  if (I (t0 + 10) v3.toNatClampNeg) ≤ 0 then
    some (0 : Int64)
  else
    (h_g (h_in v3 8) <|
    h_g (h_nz (I (t0 + 10) v3.toNatClampNeg)) <|
    some (v5x3 * (((27720 : Int32) / (I (t0 + 10) v3.toNatClampNeg)).toInt64)))
set_option maxHeartbeats 4000000 in
theorem sGt_timesWhole_62 (d : Nat) (hd : 1 + 1 ≤ d) (k2 : Nat → Int32 → Int32 → Int32 → hI → Option (Int64)) (hk2 : ∀ (t0 : Nat) (ht0 : h_GT t0) (v1 : Int32) (v2 : Int32) (v3 : Int32) (I : hI) (J : hJ) (B : Bool × Bool) (q : Int64), k2 t0 v1 v2 v3 I = some q → AW hFT cX2_timesWhole 7 (some .long) RX2 kdC d [(0, .ref t0), (1, .int v1), (2, .int v2), (3, .int v3)] 2 [] (I, J, RM B) (some (.long q)) (I, J, RM B)) (t0 : Nat) (ht0 : h_GT t0) (v1 : Int32) (v2 : Int32) (v3 : Int32) (I : hI) (J : hJ) (B : Bool × Bool) (q : Int64) (h : mGt_timesWhole_62 k2 t0 v1 v2 v3 I = some q) : AW hFT cX2_timesWhole 7 (some .long) RX2 kdC d [(0, .ref t0), (1, .int v1), (2, .int v2), (3, .int v3)] 62 [] (I, J, RM B) (some (.long q)) (I, J, RM B) := by
  obtain ⟨d0, rfl, hd0⟩ := h_mono hd
  unfold mGt_timesWhole_62 at h
  refine a_aload_n dX2_timesWhole_62 rfl rfl ?_
  refine b_getR hK_2 (k_GT ht0) (i := 1) rfl fl_2_18 rfl (rm_GT_1 B ht0) dX2_timesWhole_63 ?_
  refine a_iload_n dX2_timesWhole_66 rfl rfl ?_
  obtain ⟨g1, h⟩ := h_gS h
  refine b_iaload (k_GT7 ht0) (h_inV g1) dX2_timesWhole_67 ?_
  refine a_iload_n dX2_timesWhole_68 rfl rfl ?_
  refine a_imul dX2_timesWhole_69 ?_
  refine a_aload_n dX2_timesWhole_70 rfl rfl ?_
  refine b_getR hK_2 (k_GT ht0) (i := 2) rfl fl_2_22 rfl (rm_GT_2 B ht0) dX2_timesWhole_71 ?_
  refine a_iload_n dX2_timesWhole_74 rfl rfl ?_
  obtain ⟨g2, h⟩ := h_gS h
  refine b_iaload (k_GT8 ht0) (h_inV g2) dX2_timesWhole_75 ?_
  refine a_iload_n dX2_timesWhole_76 rfl rfl ?_
  refine a_imul dX2_timesWhole_77 ?_
  refine a_iadd dX2_timesWhole_78 ?_
  refine a_aload_n dX2_timesWhole_79 rfl rfl ?_
  refine b_getR hK_2 (k_GT ht0) (i := 3) rfl fl_2_25 rfl (rm_GT_3 B ht0) dX2_timesWhole_80 ?_
  refine a_iload_n dX2_timesWhole_83 rfl rfl ?_
  obtain ⟨g3, h⟩ := h_gS h
  refine b_iaload (k_GT9 ht0) (h_inV g3) dX2_timesWhole_84 ?_
  refine a_iadd dX2_timesWhole_85 ?_
  refine a_i2l dX2_timesWhole_86 ?_
  obtain ⟨v5x3, ev5x3, h⟩ := h_letS h
  refine a_topJ ev5x3 ?_
  refine a_lstore (lv' := [(5, .long v5x3), (0, .ref t0), (1, .int v1), (2, .int v2), (3, .int v3)]) dX2_timesWhole_87 (by decide) rfl ?_
  refine a_aload_n dX2_timesWhole_89 rfl rfl ?_
  refine b_getR hK_2 (k_GT ht0) (i := 4) rfl fl_2_28 rfl (rm_GT_4 B ht0) dX2_timesWhole_90 ?_
  refine a_iload_n dX2_timesWhole_93 rfl rfl ?_
  obtain ⟨g5, h⟩ := h_gS h
  refine b_iaload (k_GT10 ht0) (h_inV g5) dX2_timesWhole_94 ?_
  refine a_if_le (tgt := 115) dX2_timesWhole_95 (by decide) (fun c => ?_) (fun c => ?_)
  · replace h := h_iteT c h
    refine a_lconst dX2_timesWhole_115 lc_0 ?_
    cases h
    exact a_lret dX2_timesWhole_116
  · replace h := h_iteF c h
    refine a_lload dX2_timesWhole_98 rfl ?_
    refine a_sipush dX2_timesWhole_100 sq_27720 ?_
    refine a_aload_n dX2_timesWhole_103 rfl rfl ?_
    refine b_getR hK_2 (k_GT ht0) (i := 4) rfl fl_2_28 rfl (rm_GT_4 B ht0) dX2_timesWhole_104 ?_
    refine a_iload_n dX2_timesWhole_107 rfl rfl ?_
    obtain ⟨g6, h⟩ := h_gS h
    refine b_iaload (k_GT10 ht0) (h_inV g6) dX2_timesWhole_108 ?_
    obtain ⟨g7, h⟩ := h_gS h
    refine a_idiv dX2_timesWhole_109 (h_nzV g7) ?_
    refine a_i2l dX2_timesWhole_110 ?_
    refine a_lmul dX2_timesWhole_111 ?_
    refine a_goto (tgt := 116) dX2_timesWhole_112 (by decide) ?_
    cases h
    exact a_lret dX2_timesWhole_116
def mGt_timesWhole_31 (k2 : Nat → Int32 → Int32 → Int32 → hI → Option (Int64)) (t0 : Nat) (v1 : Int32) (v2 : Int32) (v3 : Int32) (vs0 : Int32) (I : hI) : Option (Int64) :=
  if vs0 = 0 then
    (h_g (h_in v3 8) <|
    h_g (h_in v3 8) <|
    (mCd_hold (t0 + 1) (I (t0 + 11) v3.toNatClampNeg) (I (t0 + 12) v3.toNatClampNeg) v1 v2 I).bind fun q3 =>
    if q3 = 0 then
      k2 t0 v1 v2 (v3 + (1 : Int32)) I
    else
      mGt_timesWhole_62 k2 t0 v1 v2 v3 I)
  else
    mGt_timesWhole_62 k2 t0 v1 v2 v3 I
set_option maxHeartbeats 4000000 in
theorem sGt_timesWhole_31 (d : Nat) (hd : 1 + 1 ≤ d) (k2 : Nat → Int32 → Int32 → Int32 → hI → Option (Int64)) (hk2 : ∀ (t0 : Nat) (ht0 : h_GT t0) (v1 : Int32) (v2 : Int32) (v3 : Int32) (I : hI) (J : hJ) (B : Bool × Bool) (q : Int64), k2 t0 v1 v2 v3 I = some q → AW hFT cX2_timesWhole 7 (some .long) RX2 kdC d [(0, .ref t0), (1, .int v1), (2, .int v2), (3, .int v3)] 2 [] (I, J, RM B) (some (.long q)) (I, J, RM B)) (t0 : Nat) (ht0 : h_GT t0) (v1 : Int32) (v2 : Int32) (v3 : Int32) (vs0 : Int32) (I : hI) (J : hJ) (B : Bool × Bool) (q : Int64) (h : mGt_timesWhole_31 k2 t0 v1 v2 v3 vs0 I = some q) : AW hFT cX2_timesWhole 7 (some .long) RX2 kdC d [(0, .ref t0), (1, .int v1), (2, .int v2), (3, .int v3)] 31 [.int vs0] (I, J, RM B) (some (.long q)) (I, J, RM B) := by
  obtain ⟨d0, rfl, hd0⟩ := h_mono hd
  unfold mGt_timesWhole_31 at h
  refine a_istore (lv' := [(4, .int vs0), (0, .ref t0), (1, .int v1), (2, .int v2), (3, .int v3)]) dX2_timesWhole_31 (by decide) rfl ?_
  refine a_iload dX2_timesWhole_33 rfl ?_
  refine a_if_ne (tgt := 62) dX2_timesWhole_35 (by decide) (fun c => ?_) (fun c => ?_)
  · replace h := h_iteF c h
    refine a_sub (lv' := [(0, .ref t0), (1, .int v1), (2, .int v2), (3, .int v3)]) [1, 2, 3, 4] rfl ?_
    exact sGt_timesWhole_62 (d0 + 1) (by omega) k2 hk2 t0 ht0 v1 v2 v3 I J B _ h
  · replace h := h_iteT c h
    refine a_aload_n dX2_timesWhole_38 rfl rfl ?_
    refine b_getR hK_2 (k_GT ht0) (i := 0) rfl fl_2_12 rfl (rm_GT_0 B ht0) dX2_timesWhole_39 ?_
    refine a_aload_n dX2_timesWhole_42 rfl rfl ?_
    refine b_getR hK_2 (k_GT ht0) (i := 5) rfl fl_2_31 rfl (rm_GT_5 B ht0) dX2_timesWhole_43 ?_
    refine a_iload_n dX2_timesWhole_46 rfl rfl ?_
    obtain ⟨g1, h⟩ := h_gS h
    refine b_iaload (k_GT11 ht0) (h_inV g1) dX2_timesWhole_47 ?_
    refine a_aload_n dX2_timesWhole_48 rfl rfl ?_
    refine b_getR hK_2 (k_GT ht0) (i := 6) rfl fl_2_34 rfl (rm_GT_6 B ht0) dX2_timesWhole_49 ?_
    refine a_iload_n dX2_timesWhole_52 rfl rfl ?_
    obtain ⟨g2, h⟩ := h_gS h
    refine b_iaload (k_GT12 ht0) (h_inV g2) dX2_timesWhole_53 ?_
    refine a_iload_n dX2_timesWhole_54 rfl rfl ?_
    refine a_iload_n dX2_timesWhole_55 rfl rfl ?_
    obtain ⟨q3, cq3, h⟩ := h_bindS h
    refine a_callV1 [] yy_X0_hold ml_2_90 (k_CD (cd_GT ht0)) rfl (sCd_hold _ (by omega) (t0 + 1) (cd_GT ht0) (I (t0 + 11) v3.toNatClampNeg) (I (t0 + 12) v3.toNatClampNeg) v1 v2 I J B q3 cq3) rfl rfl (Nat.le_of_ble_eq_true rfl) dX2_timesWhole_56 ?_
    refine a_if_eq (tgt := 117) dX2_timesWhole_59 (by decide) (fun c => ?_) (fun c => ?_)
    · replace h := h_iteT c h
      refine b_iinc (lv' := [(3, .int (v3 + (1 : Int32))), (4, .int vs0), (0, .ref t0), (1, .int v1), (2, .int v2)]) dX2_timesWhole_117 rfl ic_1 (by decide) rfl ?_
      refine a_goto (tgt := 2) dX2_timesWhole_120 (by decide) ?_
      refine a_sub (lv' := [(0, .ref t0), (1, .int v1), (2, .int v2), (3, .int (v3 + (1 : Int32)))]) [2, 3, 4, 0] rfl ?_
      exact hk2 t0 ht0 v1 v2 (v3 + (1 : Int32)) I J B _ h
    · replace h := h_iteF c h
      refine a_sub (lv' := [(0, .ref t0), (1, .int v1), (2, .int v2), (3, .int v3)]) [1, 2, 3, 4] rfl ?_
      exact sGt_timesWhole_62 (d0 + 1) (by omega) k2 hk2 t0 ht0 v1 v2 v3 I J B _ h
def mGt_timesWhole_B2 (k2 : Nat → Int32 → Int32 → Int32 → hI → Option (Int64)) (t0 : Nat) (v1 : Int32) (v2 : Int32) (v3 : Int32) (I : hI) : Option (Int64) :=
  if (I t0 7) ≤ v3 then
    some (0 : Int64)
  else
    (if (8 : Int32) ≤ v3 then
      some (0 : Int64)
    else
      (if v3 = ((I t0 7) - (1 : Int32)) then
        mGt_timesWhole_31 k2 t0 v1 v2 v3 (1 : Int32) I
      else
        mGt_timesWhole_31 k2 t0 v1 v2 v3 (0 : Int32) I))
set_option maxHeartbeats 4000000 in
theorem sGt_timesWhole_B2 (d : Nat) (hd : 1 + 1 ≤ d) (k2 : Nat → Int32 → Int32 → Int32 → hI → Option (Int64)) (hk2 : ∀ (t0 : Nat) (ht0 : h_GT t0) (v1 : Int32) (v2 : Int32) (v3 : Int32) (I : hI) (J : hJ) (B : Bool × Bool) (q : Int64), k2 t0 v1 v2 v3 I = some q → AW hFT cX2_timesWhole 7 (some .long) RX2 kdC d [(0, .ref t0), (1, .int v1), (2, .int v2), (3, .int v3)] 2 [] (I, J, RM B) (some (.long q)) (I, J, RM B)) (t0 : Nat) (ht0 : h_GT t0) (v1 : Int32) (v2 : Int32) (v3 : Int32) (I : hI) (J : hJ) (B : Bool × Bool) (q : Int64) (h : mGt_timesWhole_B2 k2 t0 v1 v2 v3 I = some q) : AW hFT cX2_timesWhole 7 (some .long) RX2 kdC d [(0, .ref t0), (1, .int v1), (2, .int v2), (3, .int v3)] 2 [] (I, J, RM B) (some (.long q)) (I, J, RM B) := by
  obtain ⟨d0, rfl, hd0⟩ := h_mono hd
  unfold mGt_timesWhole_B2 at h
  refine a_iload_n dX2_timesWhole_2 rfl rfl ?_
  refine a_aload_n dX2_timesWhole_3 rfl rfl ?_
  refine b_getI hK_2 (k_GT ht0) (i := 7) rfl fl_2_41 rfl dX2_timesWhole_4 ?_
  refine a_icmp_ge (tgt := 123) dX2_timesWhole_7 (by decide) (fun c => ?_) (fun c => ?_)
  · replace h := h_iteT c h
    refine a_lconst dX2_timesWhole_123 lc_0 ?_
    cases h
    exact a_lret dX2_timesWhole_124
  · replace h := h_iteF c h
    refine a_iload_n dX2_timesWhole_10 rfl rfl ?_
    refine a_bipush dX2_timesWhole_11 bp_8 ?_
    refine a_icmp_ge (tgt := 123) dX2_timesWhole_13 (by decide) (fun c => ?_) (fun c => ?_)
    · replace h := h_iteT c h
      refine a_lconst dX2_timesWhole_123 lc_0 ?_
      cases h
      exact a_lret dX2_timesWhole_124
    · replace h := h_iteF c h
      refine a_iload_n dX2_timesWhole_16 rfl rfl ?_
      refine a_aload_n dX2_timesWhole_17 rfl rfl ?_
      refine b_getI hK_2 (k_GT ht0) (i := 7) rfl fl_2_41 rfl dX2_timesWhole_18 ?_
      refine a_iconst dX2_timesWhole_21 ic_1 ?_
      refine a_isub dX2_timesWhole_22 ?_
      refine a_icmp_ne (tgt := 30) dX2_timesWhole_23 (by decide) (fun c => ?_) (fun c => ?_)
      · replace h := h_iteF c h
        refine a_iconst dX2_timesWhole_30 ic_0 ?_
        exact sGt_timesWhole_31 (d0 + 1) (by omega) k2 hk2 t0 ht0 v1 v2 v3 (0 : Int32) I J B _ h
      · replace h := h_iteT c h
        refine a_iconst dX2_timesWhole_26 ic_1 ?_
        refine a_goto (tgt := 31) dX2_timesWhole_27 (by decide) ?_
        exact sGt_timesWhole_31 (d0 + 1) (by omega) k2 hk2 t0 ht0 v1 v2 v3 (1 : Int32) I J B _ h
def mGt_timesWhole_L2  : Nat → Nat → Int32 → Int32 → Int32 → hI → Option (Int64)
  | 0 => fun _ _ _ _ _ => none
  | n + 1 => mGt_timesWhole_B2 (mGt_timesWhole_L2 n)
theorem sGt_timesWhole_L2 (d : Nat) (hd : 1 + 1 ≤ d) : ∀ (n : Nat) (t0 : Nat) (ht0 : h_GT t0) (v1 : Int32) (v2 : Int32) (v3 : Int32) (I : hI) (J : hJ) (B : Bool × Bool) (q : Int64) (h : mGt_timesWhole_L2 n t0 v1 v2 v3 I = some q), AW hFT cX2_timesWhole 7 (some .long) RX2 kdC d [(0, .ref t0), (1, .int v1), (2, .int v2), (3, .int v3)] 2 [] (I, J, RM B) (some (.long q)) (I, J, RM B)
  | 0, _, _, _, _, _, _, _, _, q, h => by cases h
  | n + 1, t0, ht0, v1, v2, v3, I, J, B, q, h => sGt_timesWhole_B2 d hd (mGt_timesWhole_L2 n) (sGt_timesWhole_L2 d hd n) t0 ht0 v1 v2 v3 I J B q h
def mGt_timesWhole  (t0 : Nat) (v1 : Int32) (v2 : Int32) (I : hI) : Option (Int64) :=
  mGt_timesWhole_L2 hF t0 v1 v2 (0 : Int32) I
set_option maxHeartbeats 4000000 in
theorem sGt_timesWhole (d : Nat) (hd : 1 + 1 ≤ d) (t0 : Nat) (ht0 : h_GT t0) (v1 : Int32) (v2 : Int32) (I : hI) (J : hJ) (B : Bool × Bool) (q : Int64) (h : mGt_timesWhole t0 v1 v2 I = some q) : HMet hFT yX2_timesWhole cX2_timesWhole 7 (some .long) kdC d [.ref t0, .int v1, .int v2] (I, J, RM B) (some (.long q)) (I, J, RM B) := by
  obtain ⟨d0, rfl, hd0⟩ := h_mono hd
  refine HMet.of (by decide) (Nat.le_of_ble_eq_true rfl) ?_
  show AW hFT cX2_timesWhole 7 (some .long) RX2 kdC (d0 + 1) [(0, .ref t0), (1, .int v1), (2, .int v2)] 0 [] (I, J, RM B) (some (.long q)) (I, J, RM B)
  unfold mGt_timesWhole at h
  refine a_iconst dX2_timesWhole_0 ic_0 ?_
  refine a_istore_n (lv' := [(3, .int (0 : Int32)), (0, .ref t0), (1, .int v1), (2, .int v2)]) dX2_timesWhole_1 rfl (by decide) rfl ?_
  refine a_sub (lv' := [(0, .ref t0), (1, .int v1), (2, .int v2), (3, .int (0 : Int32))]) [1, 2, 3, 0] rfl ?_
  exact sGt_timesWhole_L2 (d0 + 1) (by omega) hF t0 ht0 v1 v2 (0 : Int32) I J B _ h
/-! CoinLoops$Horizon.forget()V -/
theorem dX3_forget_0 : decode cX3_forget 0 = .ok (.iconst 0, 1) := by decide +kernel
theorem dX3_forget_1 : decode cX3_forget 1 = .ok (.istore_n 1, 1) := by decide +kernel
theorem dX3_forget_2 : decode cX3_forget 2 = .ok (.iload_n 1, 1) := by decide +kernel
theorem dX3_forget_3 : decode cX3_forget 3 = .ok (.aload_n 0, 1) := by decide +kernel
theorem dX3_forget_4 : decode cX3_forget 4 = .ok (.getfield 16, 3) := by decide +kernel
theorem dX3_forget_7 : decode cX3_forget 7 = .ok (.arraylength, 1) := by decide +kernel
theorem dX3_forget_8 : decode cX3_forget 8 = .ok (.if_icmp .ge 16, 3) := by decide +kernel
theorem dX3_forget_11 : decode cX3_forget 11 = .ok (.aload_n 0, 1) := by decide +kernel
theorem dX3_forget_12 : decode cX3_forget 12 = .ok (.getfield 16, 3) := by decide +kernel
theorem dX3_forget_15 : decode cX3_forget 15 = .ok (.iload_n 1, 1) := by decide +kernel
theorem dX3_forget_16 : decode cX3_forget 16 = .ok (.iconst 0, 1) := by decide +kernel
theorem dX3_forget_17 : decode cX3_forget 17 = .ok (.iastore, 1) := by decide +kernel
theorem dX3_forget_18 : decode cX3_forget 18 = .ok (.iinc 1 1, 3) := by decide +kernel
theorem dX3_forget_21 : decode cX3_forget 21 = .ok (.goto (-19), 3) := by decide +kernel
theorem dX3_forget_24 : decode cX3_forget 24 = .ok (.return_, 1) := by decide +kernel
def mHz_forget_B2 (k2 : Int32 → hI → Option (hI)) (v1 : Int32) (I : hI) : Option (hI) :=
  if (4 : Int32) ≤ v1 then
    some I
  else
    (h_g (h_in v1 4) <|
    h_let (h_u I 37 v1.toNatClampNeg (0 : Int32)) fun I2 =>
    k2 (v1 + (1 : Int32)) I2)
set_option maxHeartbeats 4000000 in
theorem sHz_forget_B2 (d : Nat) (hd : 0 ≤ d) (k2 : Int32 → hI → Option (hI)) (hk2 : ∀ (v1 : Int32) (I : hI) (J : hJ) (B : Bool × Bool) (q : hI), k2 v1 I = some q → AW hFT cX3_forget 2 none RX3 kdC d [(0, .ref 31), (1, .int v1)] 2 [] (I, J, RM B) none (q, J, RM B)) (v1 : Int32) (I : hI) (J : hJ) (B : Bool × Bool) (q : hI) (h : mHz_forget_B2 k2 v1 I = some q) : AW hFT cX3_forget 2 none RX3 kdC d [(0, .ref 31), (1, .int v1)] 2 [] (I, J, RM B) none (q, J, RM B) := by
  unfold mHz_forget_B2 at h
  refine a_iload_n dX3_forget_2 rfl rfl ?_
  refine a_aload_n dX3_forget_3 rfl rfl ?_
  refine b_getR hK_3 kc_31 (i := 2) rfl fl_3_16 rfl (rm_31_2 B) dX3_forget_4 ?_
  refine a_alen0 kc_37 (v := 4) (by decide) dX3_forget_7 ?_
  refine a_icmp_ge (tgt := 24) dX3_forget_8 (by decide) (fun c => ?_) (fun c => ?_)
  · replace h := h_iteT c h
    cases h
    exact a_vret dX3_forget_24
  · replace h := h_iteF c h
    refine a_aload_n dX3_forget_11 rfl rfl ?_
    refine b_getR hK_3 kc_31 (i := 2) rfl fl_3_16 rfl (rm_31_2 B) dX3_forget_12 ?_
    refine a_iload_n dX3_forget_15 rfl rfl ?_
    refine a_iconst dX3_forget_16 ic_0 ?_
    obtain ⟨g1, h⟩ := h_gS h
    refine b_iastore kc_37 (h_inV g1) dX3_forget_17 ?_
    obtain ⟨I2, eI2, h⟩ := h_letS h
    refine a_memI eI2 ?_
    refine b_iinc (lv' := [(1, .int (v1 + (1 : Int32))), (0, .ref 31)]) dX3_forget_18 rfl ic_1 (by decide) rfl ?_
    refine a_goto (tgt := 2) dX3_forget_21 (by decide) ?_
    refine a_sub (lv' := [(0, .ref 31), (1, .int (v1 + (1 : Int32)))]) [1, 0] rfl ?_
    exact hk2 (v1 + (1 : Int32)) I2 J B _ h
def mHz_forget_L2  : Nat → Int32 → hI → Option (hI)
  | 0 => fun _ _ => none
  | n + 1 => mHz_forget_B2 (mHz_forget_L2 n)
theorem sHz_forget_L2 (d : Nat) (hd : 0 ≤ d) : ∀ (n : Nat) (v1 : Int32) (I : hI) (J : hJ) (B : Bool × Bool) (q : hI) (h : mHz_forget_L2 n v1 I = some q), AW hFT cX3_forget 2 none RX3 kdC d [(0, .ref 31), (1, .int v1)] 2 [] (I, J, RM B) none (q, J, RM B)
  | 0, _, _, _, _, q, h => by cases h
  | n + 1, v1, I, J, B, q, h => sHz_forget_B2 d hd (mHz_forget_L2 n) (sHz_forget_L2 d hd n) v1 I J B q h
def mHz_forget   (I : hI) : Option (hI) :=
  mHz_forget_L2 hF (0 : Int32) I
set_option maxHeartbeats 4000000 in
theorem sHz_forget (d : Nat) (hd : 0 ≤ d)  (I : hI) (J : hJ) (B : Bool × Bool) (q : hI) (h : mHz_forget I = some q) : HMet hFT yX3_forget cX3_forget 2 none kdC d [.ref 31] (I, J, RM B) none (q, J, RM B) := by
  refine HMet.of (by decide) (Nat.le_of_ble_eq_true rfl) ?_
  show AW hFT cX3_forget 2 none RX3 kdC d [(0, .ref 31)] 0 [] (I, J, RM B) none (q, J, RM B)
  unfold mHz_forget at h
  refine a_iconst dX3_forget_0 ic_0 ?_
  refine a_istore_n (lv' := [(1, .int (0 : Int32)), (0, .ref 31)]) dX3_forget_1 rfl (by decide) rfl ?_
  refine a_sub (lv' := [(0, .ref 31), (1, .int (0 : Int32))]) [1, 0] rfl ?_
  exact sHz_forget_L2 d (by omega) hF (0 : Int32) I J B _ h
/-! CoinLoops$Horizon.valueBy(III)J -/
theorem dX3_valueBy_0 : decode cX3_valueBy 0 = .ok (.iload_n 3, 1) := by decide +kernel
theorem dX3_valueBy_1 : decode cX3_valueBy 1 = .ok (.bipush 80, 2) := by decide +kernel
theorem dX3_valueBy_3 : decode cX3_valueBy 3 = .ok (.invokestatic 24, 3) := by decide +kernel
theorem dX3_valueBy_6 : decode cX3_valueBy 6 = .ok (.ifCond .ne 25, 3) := by decide +kernel
theorem dX3_valueBy_9 : decode cX3_valueBy 9 = .ok (.iload_n 2, 1) := by decide +kernel
theorem dX3_valueBy_10 : decode cX3_valueBy 10 = .ok (.ifCond .le 21, 3) := by decide +kernel
theorem dX3_valueBy_13 : decode cX3_valueBy 13 = .ok (.iload_n 2, 1) := by decide +kernel
theorem dX3_valueBy_14 : decode cX3_valueBy 14 = .ok (.bipush 20, 2) := by decide +kernel
theorem dX3_valueBy_16 : decode cX3_valueBy 16 = .ok (.if_icmp .gt 15, 3) := by decide +kernel
theorem dX3_valueBy_19 : decode cX3_valueBy 19 = .ok (.iload_n 1, 1) := by decide +kernel
theorem dX3_valueBy_20 : decode cX3_valueBy 20 = .ok (.aload_n 0, 1) := by decide +kernel
theorem dX3_valueBy_21 : decode cX3_valueBy 21 = .ok (.getfield 11, 3) := by decide +kernel
theorem dX3_valueBy_24 : decode cX3_valueBy 24 = .ok (.arraylength, 1) := by decide +kernel
theorem dX3_valueBy_25 : decode cX3_valueBy 25 = .ok (.invokestatic 24, 3) := by decide +kernel
theorem dX3_valueBy_28 : decode cX3_valueBy 28 = .ok (.ifCond .eq 5, 3) := by decide +kernel
theorem dX3_valueBy_31 : decode cX3_valueBy 31 = .ok (.lconst 0, 1) := by decide +kernel
theorem dX3_valueBy_32 : decode cX3_valueBy 32 = .ok (.lreturn, 1) := by decide +kernel
theorem dX3_valueBy_33 : decode cX3_valueBy 33 = .ok (.iload_n 1, 1) := by decide +kernel
theorem dX3_valueBy_34 : decode cX3_valueBy 34 = .ok (.iconst 1, 1) := by decide +kernel
theorem dX3_valueBy_35 : decode cX3_valueBy 35 = .ok (.iand, 1) := by decide +kernel
theorem dX3_valueBy_36 : decode cX3_valueBy 36 = .ok (.ifCond .ne 7, 3) := by decide +kernel
theorem dX3_valueBy_39 : decode cX3_valueBy 39 = .ok (.iconst 1, 1) := by decide +kernel
theorem dX3_valueBy_40 : decode cX3_valueBy 40 = .ok (.goto 4, 3) := by decide +kernel
theorem dX3_valueBy_43 : decode cX3_valueBy 43 = .ok (.iconst 0, 1) := by decide +kernel
theorem dX3_valueBy_44 : decode cX3_valueBy 44 = .ok (.istore 4, 2) := by decide +kernel
theorem dX3_valueBy_46 : decode cX3_valueBy 46 = .ok (.iload 4, 2) := by decide +kernel
theorem dX3_valueBy_48 : decode cX3_valueBy 48 = .ok (.ifCond .eq 16, 3) := by decide +kernel
theorem dX3_valueBy_51 : decode cX3_valueBy 51 = .ok (.aload_n 0, 1) := by decide +kernel
theorem dX3_valueBy_52 : decode cX3_valueBy 52 = .ok (.getfield 20, 3) := by decide +kernel
theorem dX3_valueBy_55 : decode cX3_valueBy 55 = .ok (.getfield 50, 3) := by decide +kernel
theorem dX3_valueBy_58 : decode cX3_valueBy 58 = .ok (.iload_n 3, 1) := by decide +kernel
theorem dX3_valueBy_59 : decode cX3_valueBy 59 = .ok (.iaload, 1) := by decide +kernel
theorem dX3_valueBy_60 : decode cX3_valueBy 60 = .ok (.i2l, 1) := by decide +kernel
theorem dX3_valueBy_61 : decode cX3_valueBy 61 = .ok (.goto 13, 3) := by decide +kernel
theorem dX3_valueBy_64 : decode cX3_valueBy 64 = .ok (.aload_n 0, 1) := by decide +kernel
theorem dX3_valueBy_65 : decode cX3_valueBy 65 = .ok (.getfield 20, 3) := by decide +kernel
theorem dX3_valueBy_68 : decode cX3_valueBy 68 = .ok (.getfield 53, 3) := by decide +kernel
theorem dX3_valueBy_71 : decode cX3_valueBy 71 = .ok (.iload_n 3, 1) := by decide +kernel
theorem dX3_valueBy_72 : decode cX3_valueBy 72 = .ok (.iaload, 1) := by decide +kernel
theorem dX3_valueBy_73 : decode cX3_valueBy 73 = .ok (.i2l, 1) := by decide +kernel
theorem dX3_valueBy_74 : decode cX3_valueBy 74 = .ok (.lstore 5, 2) := by decide +kernel
theorem dX3_valueBy_76 : decode cX3_valueBy 76 = .ok (.lload 5, 2) := by decide +kernel
theorem dX3_valueBy_78 : decode cX3_valueBy 78 = .ok (.iconst 2, 1) := by decide +kernel
theorem dX3_valueBy_79 : decode cX3_valueBy 79 = .ok (.iload_n 2, 1) := by decide +kernel
theorem dX3_valueBy_80 : decode cX3_valueBy 80 = .ok (.iconst 1, 1) := by decide +kernel
theorem dX3_valueBy_81 : decode cX3_valueBy 81 = .ok (.isub, 1) := by decide +kernel
theorem dX3_valueBy_82 : decode cX3_valueBy 82 = .ok (.imul, 1) := by decide +kernel
theorem dX3_valueBy_83 : decode cX3_valueBy 83 = .ok (.lshl, 1) := by decide +kernel
theorem dX3_valueBy_84 : decode cX3_valueBy 84 = .ok (.lstore 7, 2) := by decide +kernel
theorem dX3_valueBy_86 : decode cX3_valueBy 86 = .ok (.iconst 0, 1) := by decide +kernel
theorem dX3_valueBy_87 : decode cX3_valueBy 87 = .ok (.istore 9, 2) := by decide +kernel
theorem dX3_valueBy_89 : decode cX3_valueBy 89 = .ok (.iload 9, 2) := by decide +kernel
theorem dX3_valueBy_91 : decode cX3_valueBy 91 = .ok (.aload_n 0, 1) := by decide +kernel
theorem dX3_valueBy_92 : decode cX3_valueBy 92 = .ok (.getfield 20, 3) := by decide +kernel
theorem dX3_valueBy_95 : decode cX3_valueBy 95 = .ok (.getfield 30, 3) := by decide +kernel
theorem dX3_valueBy_98 : decode cX3_valueBy 98 = .ok (.if_icmp .ge 42, 3) := by decide +kernel
theorem dX3_valueBy_101 : decode cX3_valueBy 101 = .ok (.lload 7, 2) := by decide +kernel
theorem dX3_valueBy_103 : decode cX3_valueBy 103 = .ok (.aload_n 0, 1) := by decide +kernel
theorem dX3_valueBy_104 : decode cX3_valueBy 104 = .ok (.getfield 20, 3) := by decide +kernel
theorem dX3_valueBy_107 : decode cX3_valueBy 107 = .ok (.iload_n 3, 1) := by decide +kernel
theorem dX3_valueBy_108 : decode cX3_valueBy 108 = .ok (.iload 9, 2) := by decide +kernel
theorem dX3_valueBy_110 : decode cX3_valueBy 110 = .ok (.invokevirtual 56, 3) := by decide +kernel
theorem dX3_valueBy_113 : decode cX3_valueBy 113 = .ok (.i2l, 1) := by decide +kernel
theorem dX3_valueBy_114 : decode cX3_valueBy 114 = .ok (.aload_n 0, 1) := by decide +kernel
theorem dX3_valueBy_115 : decode cX3_valueBy 115 = .ok (.getfield 11, 3) := by decide +kernel
theorem dX3_valueBy_118 : decode cX3_valueBy 118 = .ok (.iload_n 1, 1) := by decide +kernel
theorem dX3_valueBy_119 : decode cX3_valueBy 119 = .ok (.aaload, 1) := by decide +kernel
theorem dX3_valueBy_120 : decode cX3_valueBy 120 = .ok (.iload_n 2, 1) := by decide +kernel
theorem dX3_valueBy_121 : decode cX3_valueBy 121 = .ok (.iconst 1, 1) := by decide +kernel
theorem dX3_valueBy_122 : decode cX3_valueBy 122 = .ok (.isub, 1) := by decide +kernel
theorem dX3_valueBy_123 : decode cX3_valueBy 123 = .ok (.bipush 10, 2) := by decide +kernel
theorem dX3_valueBy_125 : decode cX3_valueBy 125 = .ok (.imul, 1) := by decide +kernel
theorem dX3_valueBy_126 : decode cX3_valueBy 126 = .ok (.iload 9, 2) := by decide +kernel
theorem dX3_valueBy_128 : decode cX3_valueBy 128 = .ok (.iadd, 1) := by decide +kernel
theorem dX3_valueBy_129 : decode cX3_valueBy 129 = .ok (.laload, 1) := by decide +kernel
theorem dX3_valueBy_130 : decode cX3_valueBy 130 = .ok (.lmul, 1) := by decide +kernel
theorem dX3_valueBy_131 : decode cX3_valueBy 131 = .ok (.ladd, 1) := by decide +kernel
theorem dX3_valueBy_132 : decode cX3_valueBy 132 = .ok (.lstore 7, 2) := by decide +kernel
theorem dX3_valueBy_134 : decode cX3_valueBy 134 = .ok (.iinc 9 1, 3) := by decide +kernel
theorem dX3_valueBy_137 : decode cX3_valueBy 137 = .ok (.goto (-48), 3) := by decide +kernel
theorem dX3_valueBy_140 : decode cX3_valueBy 140 = .ok (.lload 7, 2) := by decide +kernel
theorem dX3_valueBy_142 : decode cX3_valueBy 142 = .ok (.lreturn, 1) := by decide +kernel
def mHz_valueBy_B89 (k89 : Int32 → Int32 → Int32 → Int64 → Int32 → hI → hJ → Option (Int64)) (v1 : Int32) (v2 : Int32) (v3 : Int32) (v7 : Int64) (v9 : Int32) (I : hI) (J : hJ) : Option (Int64) :=
  if (I 7 5) ≤ v9 then
    some v7
  else
    ((mRo_quarters v3 v9 I).bind fun q1 =>
    h_g (h_in v1 4) <|
    h_g (h_in (((v2 - (1 : Int32)) * (10 : Int32)) + v9) 210) <|
    h_let (v7 + (q1.toInt64 * (J (33 + v1.toNatClampNeg) (((v2 - (1 : Int32)) * (10 : Int32)) + v9).toNatClampNeg))) fun v7x3 =>
    k89 v1 v2 v3 v7x3 (v9 + (1 : Int32)) I J)
set_option maxHeartbeats 4000000 in
theorem sHz_valueBy_B89 (d : Nat) (hd : 0 + 1 ≤ d) (k89 : Int32 → Int32 → Int32 → Int64 → Int32 → hI → hJ → Option (Int64)) (hk89 : ∀ (v1 : Int32) (v2 : Int32) (v3 : Int32) (v7 : Int64) (v9 : Int32) (I : hI) (J : hJ) (B : Bool × Bool) (q : Int64), k89 v1 v2 v3 v7 v9 I J = some q → AW hFT cX3_valueBy 10 (some .long) RX3 kdC d [(0, .ref 31), (1, .int v1), (2, .int v2), (3, .int v3), (7, .long v7), (9, .int v9)] 89 [] (I, J, RM B) (some (.long q)) (I, J, RM B)) (v1 : Int32) (v2 : Int32) (v3 : Int32) (v7 : Int64) (v9 : Int32) (I : hI) (J : hJ) (B : Bool × Bool) (q : Int64) (h : mHz_valueBy_B89 k89 v1 v2 v3 v7 v9 I J = some q) : AW hFT cX3_valueBy 10 (some .long) RX3 kdC d [(0, .ref 31), (1, .int v1), (2, .int v2), (3, .int v3), (7, .long v7), (9, .int v9)] 89 [] (I, J, RM B) (some (.long q)) (I, J, RM B) := by
  obtain ⟨d0, rfl, hd0⟩ := h_mono hd
  unfold mHz_valueBy_B89 at h
  refine a_iload dX3_valueBy_89 rfl ?_
  refine a_aload_n dX3_valueBy_91 rfl rfl ?_
  refine b_getR hK_3 kc_31 (i := 0) rfl fl_3_20 rfl (rm_31_0 B) dX3_valueBy_92 ?_
  refine b_getI hK_7 kc_7 (i := 5) rfl fl_3_30 rfl dX3_valueBy_95 ?_
  refine a_icmp_ge (tgt := 140) dX3_valueBy_98 (by decide) (fun c => ?_) (fun c => ?_)
  · replace h := h_iteT c h
    refine a_lload dX3_valueBy_140 rfl ?_
    cases h
    exact a_lret dX3_valueBy_142
  · replace h := h_iteF c h
    refine a_lload dX3_valueBy_101 rfl ?_
    refine a_aload_n dX3_valueBy_103 rfl rfl ?_
    refine b_getR hK_3 kc_31 (i := 0) rfl fl_3_20 rfl (rm_31_0 B) dX3_valueBy_104 ?_
    refine a_iload_n dX3_valueBy_107 rfl rfl ?_
    refine a_iload dX3_valueBy_108 rfl ?_
    obtain ⟨q1, cq1, h⟩ := h_bindS h
    refine a_callV1 [.long v7] yy_X7_quarters ml_3_56 kc_7 rfl (sRo_quarters _ (by omega) v3 v9 I J B q1 cq1) rfl rfl (Nat.le_of_ble_eq_true rfl) dX3_valueBy_110 ?_
    refine a_i2l dX3_valueBy_113 ?_
    refine a_aload_n dX3_valueBy_114 rfl rfl ?_
    refine b_getR hK_3 kc_31 (i := 1) rfl fl_3_11 rfl (rm_31_1 B) dX3_valueBy_115 ?_
    refine a_iload_n dX3_valueBy_118 rfl rfl ?_
    obtain ⟨g2, h⟩ := h_gS h
    refine b_aaload4 kc_32 (h_inV g2) (rm_JJ_32 B _ (h_in_lt (h_inV g2))) dX3_valueBy_119 ?_
    refine a_iload_n dX3_valueBy_120 rfl rfl ?_
    refine a_iconst dX3_valueBy_121 ic_1 ?_
    refine a_isub dX3_valueBy_122 ?_
    refine a_bipush dX3_valueBy_123 bp_10 ?_
    refine a_imul dX3_valueBy_125 ?_
    refine a_iload dX3_valueBy_126 rfl ?_
    refine a_iadd dX3_valueBy_128 ?_
    obtain ⟨g3, h⟩ := h_gS h
    refine b_laload (k_JJ_32 _ (h_in_lt (h_inV g2))) (h_inV g3) dX3_valueBy_129 ?_
    refine a_lmul dX3_valueBy_130 ?_
    refine a_ladd dX3_valueBy_131 ?_
    obtain ⟨v7x3, ev7x3, h⟩ := h_letS h
    refine a_topJ ev7x3 ?_
    refine a_lstore (lv' := [(7, .long v7x3), (0, .ref 31), (1, .int v1), (2, .int v2), (3, .int v3), (9, .int v9)]) dX3_valueBy_132 (by decide) rfl ?_
    refine b_iinc (lv' := [(9, .int (v9 + (1 : Int32))), (7, .long v7x3), (0, .ref 31), (1, .int v1), (2, .int v2), (3, .int v3)]) dX3_valueBy_134 rfl ic_1 (by decide) rfl ?_
    refine a_goto (tgt := 89) dX3_valueBy_137 (by decide) ?_
    refine a_sub (lv' := [(0, .ref 31), (1, .int v1), (2, .int v2), (3, .int v3), (7, .long v7x3), (9, .int (v9 + (1 : Int32)))]) [2, 3, 4, 5, 1, 0] rfl ?_
    exact hk89 v1 v2 v3 v7x3 (v9 + (1 : Int32)) I J B _ h
def mHz_valueBy_L89  : Nat → Int32 → Int32 → Int32 → Int64 → Int32 → hI → hJ → Option (Int64)
  | 0 => fun _ _ _ _ _ _ _ => none
  | n + 1 => mHz_valueBy_B89 (mHz_valueBy_L89 n)
theorem sHz_valueBy_L89 (d : Nat) (hd : 0 + 1 ≤ d) : ∀ (n : Nat) (v1 : Int32) (v2 : Int32) (v3 : Int32) (v7 : Int64) (v9 : Int32) (I : hI) (J : hJ) (B : Bool × Bool) (q : Int64) (h : mHz_valueBy_L89 n v1 v2 v3 v7 v9 I J = some q), AW hFT cX3_valueBy 10 (some .long) RX3 kdC d [(0, .ref 31), (1, .int v1), (2, .int v2), (3, .int v3), (7, .long v7), (9, .int v9)] 89 [] (I, J, RM B) (some (.long q)) (I, J, RM B)
  | 0, _, _, _, _, _, _, _, _, q, h => by cases h
  | n + 1, v1, v2, v3, v7, v9, I, J, B, q, h => sHz_valueBy_B89 d hd (mHz_valueBy_L89 n) (sHz_valueBy_L89 d hd n) v1 v2 v3 v7 v9 I J B q h
def mHz_valueBy_74  (v1 : Int32) (v2 : Int32) (v3 : Int32) (vs0 : Int64) (I : hI) (J : hJ) : Option (Int64) :=
  h_let (vs0 <<< (((2 : Int32) * (v2 - (1 : Int32))).toInt64 &&& 63)) fun v7x0 =>
  mHz_valueBy_L89 hF v1 v2 v3 v7x0 (0 : Int32) I J
set_option maxHeartbeats 4000000 in
theorem sHz_valueBy_74 (d : Nat) (hd : 0 + 1 ≤ d) (v1 : Int32) (v2 : Int32) (v3 : Int32) (vs0 : Int64) (I : hI) (J : hJ) (B : Bool × Bool) (q : Int64) (h : mHz_valueBy_74 v1 v2 v3 vs0 I J = some q) : AW hFT cX3_valueBy 10 (some .long) RX3 kdC d [(0, .ref 31), (1, .int v1), (2, .int v2), (3, .int v3)] 74 [.long vs0] (I, J, RM B) (some (.long q)) (I, J, RM B) := by
  obtain ⟨d0, rfl, hd0⟩ := h_mono hd
  unfold mHz_valueBy_74 at h
  refine a_lstore (lv' := [(5, .long vs0), (0, .ref 31), (1, .int v1), (2, .int v2), (3, .int v3)]) dX3_valueBy_74 (by decide) rfl ?_
  refine a_lload dX3_valueBy_76 rfl ?_
  refine a_iconst dX3_valueBy_78 ic_2 ?_
  refine a_iload_n dX3_valueBy_79 rfl rfl ?_
  refine a_iconst dX3_valueBy_80 ic_1 ?_
  refine a_isub dX3_valueBy_81 ?_
  refine a_imul dX3_valueBy_82 ?_
  refine a_lshl dX3_valueBy_83 ?_
  obtain ⟨v7x0, ev7x0, h⟩ := h_letS h
  refine a_topJ ev7x0 ?_
  refine a_lstore (lv' := [(7, .long v7x0), (5, .long vs0), (0, .ref 31), (1, .int v1), (2, .int v2), (3, .int v3)]) dX3_valueBy_84 (by decide) rfl ?_
  refine a_iconst dX3_valueBy_86 ic_0 ?_
  refine a_istore (lv' := [(9, .int (0 : Int32)), (7, .long v7x0), (5, .long vs0), (0, .ref 31), (1, .int v1), (2, .int v2), (3, .int v3)]) dX3_valueBy_87 (by decide) rfl ?_
  refine a_sub (lv' := [(0, .ref 31), (1, .int v1), (2, .int v2), (3, .int v3), (7, .long v7x0), (9, .int (0 : Int32))]) [3, 4, 5, 6, 1, 0] rfl ?_
  exact sHz_valueBy_L89 (d0 + 1) (by omega) hF v1 v2 v3 v7x0 (0 : Int32) I J B _ h
def mHz_valueBy_44  (v1 : Int32) (v2 : Int32) (v3 : Int32) (vs0 : Int32) (I : hI) (J : hJ) : Option (Int64) :=
  if vs0 = 0 then
    (h_g (h_in v3 80) <|
    mHz_valueBy_74 v1 v2 v3 ((I 10 v3.toNatClampNeg).toInt64) I J)
  else
    (h_g (h_in v3 80) <|
    mHz_valueBy_74 v1 v2 v3 ((I 11 v3.toNatClampNeg).toInt64) I J)
set_option maxHeartbeats 4000000 in
theorem sHz_valueBy_44 (d : Nat) (hd : 0 + 1 ≤ d) (v1 : Int32) (v2 : Int32) (v3 : Int32) (vs0 : Int32) (I : hI) (J : hJ) (B : Bool × Bool) (q : Int64) (h : mHz_valueBy_44 v1 v2 v3 vs0 I J = some q) : AW hFT cX3_valueBy 10 (some .long) RX3 kdC d [(0, .ref 31), (1, .int v1), (2, .int v2), (3, .int v3)] 44 [.int vs0] (I, J, RM B) (some (.long q)) (I, J, RM B) := by
  obtain ⟨d0, rfl, hd0⟩ := h_mono hd
  unfold mHz_valueBy_44 at h
  refine a_istore (lv' := [(4, .int vs0), (0, .ref 31), (1, .int v1), (2, .int v2), (3, .int v3)]) dX3_valueBy_44 (by decide) rfl ?_
  refine a_iload dX3_valueBy_46 rfl ?_
  refine a_if_eq (tgt := 64) dX3_valueBy_48 (by decide) (fun c => ?_) (fun c => ?_)
  · replace h := h_iteT c h
    refine a_aload_n dX3_valueBy_64 rfl rfl ?_
    refine b_getR hK_3 kc_31 (i := 0) rfl fl_3_20 rfl (rm_31_0 B) dX3_valueBy_65 ?_
    refine b_getR hK_7 kc_7 (i := 2) rfl fl_3_53 rfl (rm_7_2 B) dX3_valueBy_68 ?_
    refine a_iload_n dX3_valueBy_71 rfl rfl ?_
    obtain ⟨g1, h⟩ := h_gS h
    refine b_iaload kc_10 (h_inV g1) dX3_valueBy_72 ?_
    refine a_i2l dX3_valueBy_73 ?_
    refine a_sub (lv' := [(0, .ref 31), (1, .int v1), (2, .int v2), (3, .int v3)]) [1, 2, 3, 4] rfl ?_
    exact sHz_valueBy_74 (d0 + 1) (by omega) v1 v2 v3 ((I 10 v3.toNatClampNeg).toInt64) I J B _ h
  · replace h := h_iteF c h
    refine a_aload_n dX3_valueBy_51 rfl rfl ?_
    refine b_getR hK_3 kc_31 (i := 0) rfl fl_3_20 rfl (rm_31_0 B) dX3_valueBy_52 ?_
    refine b_getR hK_7 kc_7 (i := 3) rfl fl_3_50 rfl (rm_7_3 B) dX3_valueBy_55 ?_
    refine a_iload_n dX3_valueBy_58 rfl rfl ?_
    obtain ⟨g1, h⟩ := h_gS h
    refine b_iaload kc_11 (h_inV g1) dX3_valueBy_59 ?_
    refine a_i2l dX3_valueBy_60 ?_
    refine a_goto (tgt := 74) dX3_valueBy_61 (by decide) ?_
    refine a_sub (lv' := [(0, .ref 31), (1, .int v1), (2, .int v2), (3, .int v3)]) [1, 2, 3, 4] rfl ?_
    exact sHz_valueBy_74 (d0 + 1) (by omega) v1 v2 v3 ((I 11 v3.toNatClampNeg).toInt64) I J B _ h
def mHz_valueBy  (v1 : Int32) (v2 : Int32) (v3 : Int32) (I : hI) (J : hJ) : Option (Int64) :=
  if (mC_isOutside v3 (80 : Int32)) = 0 then
    (if v2 ≤ 0 then
      some (0 : Int64)
    else
      (if (20 : Int32) < v2 then
        some (0 : Int64)
      else
        (if (mC_isOutside v1 (4 : Int32)) = 0 then
          (if (v1 &&& (1 : Int32)) = 0 then
            mHz_valueBy_44 v1 v2 v3 (1 : Int32) I J
          else
            mHz_valueBy_44 v1 v2 v3 (0 : Int32) I J)
        else
          some (0 : Int64))))
  else
    some (0 : Int64)
set_option maxHeartbeats 4000000 in
theorem sHz_valueBy (d : Nat) (hd : 0 + 1 ≤ d) (v1 : Int32) (v2 : Int32) (v3 : Int32) (I : hI) (J : hJ) (B : Bool × Bool) (q : Int64) (h : mHz_valueBy v1 v2 v3 I J = some q) : HMet hFT yX3_valueBy cX3_valueBy 10 (some .long) kdC d [.ref 31, .int v1, .int v2, .int v3] (I, J, RM B) (some (.long q)) (I, J, RM B) := by
  obtain ⟨d0, rfl, hd0⟩ := h_mono hd
  refine HMet.of (by decide) (Nat.le_of_ble_eq_true rfl) ?_
  show AW hFT cX3_valueBy 10 (some .long) RX3 kdC (d0 + 1) [(0, .ref 31), (1, .int v1), (2, .int v2), (3, .int v3)] 0 [] (I, J, RM B) (some (.long q)) (I, J, RM B)
  unfold mHz_valueBy at h
  refine a_iload_n dX3_valueBy_0 rfl rfl ?_
  refine a_bipush dX3_valueBy_1 bp_80 ?_
  refine a_callSN1 [] yy_X10_isOutside ml_3_24 (sC_isOutside _ (by omega) v3 (80 : Int32) I J B _ rfl) rfl rfl (Nat.le_of_ble_eq_true rfl) dX3_valueBy_3 ?_
  refine a_if_ne (tgt := 31) dX3_valueBy_6 (by decide) (fun c => ?_) (fun c => ?_)
  · replace h := h_iteF c h
    refine a_lconst dX3_valueBy_31 lc_0 ?_
    cases h
    exact a_lret dX3_valueBy_32
  · replace h := h_iteT c h
    refine a_iload_n dX3_valueBy_9 rfl rfl ?_
    refine a_if_le (tgt := 31) dX3_valueBy_10 (by decide) (fun c => ?_) (fun c => ?_)
    · replace h := h_iteT c h
      refine a_lconst dX3_valueBy_31 lc_0 ?_
      cases h
      exact a_lret dX3_valueBy_32
    · replace h := h_iteF c h
      refine a_iload_n dX3_valueBy_13 rfl rfl ?_
      refine a_bipush dX3_valueBy_14 bp_20 ?_
      refine a_icmp_gt (tgt := 31) dX3_valueBy_16 (by decide) (fun c => ?_) (fun c => ?_)
      · replace h := h_iteT c h
        refine a_lconst dX3_valueBy_31 lc_0 ?_
        cases h
        exact a_lret dX3_valueBy_32
      · replace h := h_iteF c h
        refine a_iload_n dX3_valueBy_19 rfl rfl ?_
        refine a_aload_n dX3_valueBy_20 rfl rfl ?_
        refine b_getR hK_3 kc_31 (i := 1) rfl fl_3_11 rfl (rm_31_1 B) dX3_valueBy_21 ?_
        refine a_alen4 kc_32 (v := 4) (by decide) dX3_valueBy_24 ?_
        refine a_callSN1 [] yy_X10_isOutside ml_3_24 (sC_isOutside _ (by omega) v1 (4 : Int32) I J B _ rfl) rfl rfl (Nat.le_of_ble_eq_true rfl) dX3_valueBy_25 ?_
        refine a_if_eq (tgt := 33) dX3_valueBy_28 (by decide) (fun c => ?_) (fun c => ?_)
        · replace h := h_iteT c h
          refine a_iload_n dX3_valueBy_33 rfl rfl ?_
          refine a_iconst dX3_valueBy_34 ic_1 ?_
          refine a_iand dX3_valueBy_35 ?_
          refine a_if_ne (tgt := 43) dX3_valueBy_36 (by decide) (fun c => ?_) (fun c => ?_)
          · replace h := h_iteF c h
            refine a_iconst dX3_valueBy_43 ic_0 ?_
            exact sHz_valueBy_44 (d0 + 1) (by omega) v1 v2 v3 (0 : Int32) I J B _ h
          · replace h := h_iteT c h
            refine a_iconst dX3_valueBy_39 ic_1 ?_
            refine a_goto (tgt := 44) dX3_valueBy_40 (by decide) ?_
            exact sHz_valueBy_44 (d0 + 1) (by omega) v1 v2 v3 (1 : Int32) I J B _ h
        · replace h := h_iteF c h
          refine a_lconst dX3_valueBy_31 lc_0 ?_
          cases h
          exact a_lret dX3_valueBy_32
/-! CoinLoops$Horizon.value(III)J -/
theorem dX3_value_0 : decode cX3_value 0 = .ok (.iload_n 1, 1) := by decide +kernel
theorem dX3_value_1 : decode cX3_value 1 = .ok (.iconst 1, 1) := by decide +kernel
theorem dX3_value_2 : decode cX3_value 2 = .ok (.iand, 1) := by decide +kernel
theorem dX3_value_3 : decode cX3_value 3 = .ok (.ifCond .ne 7, 3) := by decide +kernel
theorem dX3_value_6 : decode cX3_value 6 = .ok (.iconst 1, 1) := by decide +kernel
theorem dX3_value_7 : decode cX3_value 7 = .ok (.goto 4, 3) := by decide +kernel
theorem dX3_value_10 : decode cX3_value 10 = .ok (.iconst 0, 1) := by decide +kernel
theorem dX3_value_11 : decode cX3_value 11 = .ok (.istore 4, 2) := by decide +kernel
theorem dX3_value_13 : decode cX3_value 13 = .ok (.aload_n 0, 1) := by decide +kernel
theorem dX3_value_14 : decode cX3_value 14 = .ok (.getfield 20, 3) := by decide +kernel
theorem dX3_value_17 : decode cX3_value 17 = .ok (.iload_n 3, 1) := by decide +kernel
theorem dX3_value_18 : decode cX3_value 18 = .ok (.invokevirtual 40, 3) := by decide +kernel
theorem dX3_value_21 : decode cX3_value 21 = .ok (.ifCond .ne 18, 3) := by decide +kernel
theorem dX3_value_24 : decode cX3_value 24 = .ok (.iload 4, 2) := by decide +kernel
theorem dX3_value_26 : decode cX3_value 26 = .ok (.ifCond .eq 11, 3) := by decide +kernel
theorem dX3_value_29 : decode cX3_value 29 = .ok (.lconst 1, 1) := by decide +kernel
theorem dX3_value_30 : decode cX3_value 30 = .ok (.iconst 2, 1) := by decide +kernel
theorem dX3_value_31 : decode cX3_value 31 = .ok (.iload_n 2, 1) := by decide +kernel
theorem dX3_value_32 : decode cX3_value 32 = .ok (.imul, 1) := by decide +kernel
theorem dX3_value_33 : decode cX3_value 33 = .ok (.lshl, 1) := by decide +kernel
theorem dX3_value_34 : decode cX3_value 34 = .ok (.goto 4, 3) := by decide +kernel
theorem dX3_value_37 : decode cX3_value 37 = .ok (.lconst 0, 1) := by decide +kernel
theorem dX3_value_38 : decode cX3_value 38 = .ok (.lreturn, 1) := by decide +kernel
theorem dX3_value_39 : decode cX3_value 39 = .ok (.lconst 0, 1) := by decide +kernel
theorem dX3_value_40 : decode cX3_value 40 = .ok (.lstore 5, 2) := by decide +kernel
theorem dX3_value_42 : decode cX3_value 42 = .ok (.iconst 0, 1) := by decide +kernel
theorem dX3_value_43 : decode cX3_value 43 = .ok (.istore 7, 2) := by decide +kernel
theorem dX3_value_45 : decode cX3_value 45 = .ok (.iload_n 2, 1) := by decide +kernel
theorem dX3_value_46 : decode cX3_value 46 = .ok (.ifCond .le 94, 3) := by decide +kernel
theorem dX3_value_49 : decode cX3_value 49 = .ok (.aload_n 0, 1) := by decide +kernel
theorem dX3_value_50 : decode cX3_value 50 = .ok (.getfield 20, 3) := by decide +kernel
theorem dX3_value_53 : decode cX3_value 53 = .ok (.iload_n 3, 1) := by decide +kernel
theorem dX3_value_54 : decode cX3_value 54 = .ok (.iload 7, 2) := by decide +kernel
theorem dX3_value_56 : decode cX3_value 56 = .ok (.invokevirtual 44, 3) := by decide +kernel
theorem dX3_value_59 : decode cX3_value 59 = .ok (.ifCond .eq 81, 3) := by decide +kernel
theorem dX3_value_62 : decode cX3_value 62 = .ok (.iload 7, 2) := by decide +kernel
theorem dX3_value_64 : decode cX3_value 64 = .ok (.bipush 8, 2) := by decide +kernel
theorem dX3_value_66 : decode cX3_value 66 = .ok (.if_icmp .ge 74, 3) := by decide +kernel
theorem dX3_value_69 : decode cX3_value 69 = .ok (.aload_n 0, 1) := by decide +kernel
theorem dX3_value_70 : decode cX3_value 70 = .ok (.iload_n 1, 1) := by decide +kernel
theorem dX3_value_71 : decode cX3_value 71 = .ok (.iload_n 2, 1) := by decide +kernel
theorem dX3_value_72 : decode cX3_value 72 = .ok (.iload_n 3, 1) := by decide +kernel
theorem dX3_value_73 : decode cX3_value 73 = .ok (.bipush 8, 2) := by decide +kernel
theorem dX3_value_75 : decode cX3_value 75 = .ok (.imul, 1) := by decide +kernel
theorem dX3_value_76 : decode cX3_value 76 = .ok (.iload 7, 2) := by decide +kernel
theorem dX3_value_78 : decode cX3_value 78 = .ok (.iadd, 1) := by decide +kernel
theorem dX3_value_79 : decode cX3_value 79 = .ok (.invokevirtual 47, 3) := by decide +kernel
theorem dX3_value_82 : decode cX3_value 82 = .ok (.lstore 8, 2) := by decide +kernel
theorem dX3_value_84 : decode cX3_value 84 = .ok (.iload_n 1, 1) := by decide +kernel
theorem dX3_value_85 : decode cX3_value 85 = .ok (.iconst 2, 1) := by decide +kernel
theorem dX3_value_86 : decode cX3_value 86 = .ok (.if_icmp .lt 19, 3) := by decide +kernel
theorem dX3_value_89 : decode cX3_value 89 = .ok (.lload 8, 2) := by decide +kernel
theorem dX3_value_91 : decode cX3_value 91 = .ok (.lload 5, 2) := by decide +kernel
theorem dX3_value_93 : decode cX3_value 93 = .ok (.lcmp, 1) := by decide +kernel
theorem dX3_value_94 : decode cX3_value 94 = .ok (.ifCond .le 7, 3) := by decide +kernel
theorem dX3_value_97 : decode cX3_value 97 = .ok (.iconst 1, 1) := by decide +kernel
theorem dX3_value_98 : decode cX3_value 98 = .ok (.goto 20, 3) := by decide +kernel
theorem dX3_value_101 : decode cX3_value 101 = .ok (.iconst 0, 1) := by decide +kernel
theorem dX3_value_102 : decode cX3_value 102 = .ok (.goto 16, 3) := by decide +kernel
theorem dX3_value_105 : decode cX3_value 105 = .ok (.lload 8, 2) := by decide +kernel
theorem dX3_value_107 : decode cX3_value 107 = .ok (.lload 5, 2) := by decide +kernel
theorem dX3_value_109 : decode cX3_value 109 = .ok (.lcmp, 1) := by decide +kernel
theorem dX3_value_110 : decode cX3_value 110 = .ok (.ifCond .ge 7, 3) := by decide +kernel
theorem dX3_value_113 : decode cX3_value 113 = .ok (.iconst 1, 1) := by decide +kernel
theorem dX3_value_114 : decode cX3_value 114 = .ok (.goto 4, 3) := by decide +kernel
theorem dX3_value_117 : decode cX3_value 117 = .ok (.iconst 0, 1) := by decide +kernel
theorem dX3_value_118 : decode cX3_value 118 = .ok (.istore 10, 2) := by decide +kernel
theorem dX3_value_120 : decode cX3_value 120 = .ok (.iload 7, 2) := by decide +kernel
theorem dX3_value_122 : decode cX3_value 122 = .ok (.ifCond .eq 8, 3) := by decide +kernel
theorem dX3_value_125 : decode cX3_value 125 = .ok (.iload 10, 2) := by decide +kernel
theorem dX3_value_127 : decode cX3_value 127 = .ok (.ifCond .eq 7, 3) := by decide +kernel
theorem dX3_value_130 : decode cX3_value 130 = .ok (.lload 8, 2) := by decide +kernel
theorem dX3_value_132 : decode cX3_value 132 = .ok (.lstore 5, 2) := by decide +kernel
theorem dX3_value_134 : decode cX3_value 134 = .ok (.iinc 7 1, 3) := by decide +kernel
theorem dX3_value_137 : decode cX3_value 137 = .ok (.goto (-92), 3) := by decide +kernel
theorem dX3_value_140 : decode cX3_value 140 = .ok (.lload 5, 2) := by decide +kernel
theorem dX3_value_142 : decode cX3_value 142 = .ok (.lreturn, 1) := by decide +kernel
def mHz_value_118 (k45 : Int32 → Int32 → Int32 → Int64 → Int32 → hI → hJ → Option (Int64)) (v1 : Int32) (v2 : Int32) (v3 : Int32) (v5 : Int64) (v7 : Int32) (v8 : Int64) (vs0 : Int32) (I : hI) (J : hJ) : Option (Int64) :=
  if v7 = 0 then
    k45 v1 v2 v3 v8 (v7 + (1 : Int32)) I J
  else
    (if vs0 = 0 then
      k45 v1 v2 v3 v5 (v7 + (1 : Int32)) I J
    else
      k45 v1 v2 v3 v8 (v7 + (1 : Int32)) I J)
set_option maxHeartbeats 4000000 in
theorem sHz_value_118 (d : Nat) (hd : 1 + 1 ≤ d) (k45 : Int32 → Int32 → Int32 → Int64 → Int32 → hI → hJ → Option (Int64)) (hk45 : ∀ (v1 : Int32) (v2 : Int32) (v3 : Int32) (v5 : Int64) (v7 : Int32) (I : hI) (J : hJ) (B : Bool × Bool) (q : Int64), k45 v1 v2 v3 v5 v7 I J = some q → AW hFT cX3_value 11 (some .long) RX3 kdC d [(0, .ref 31), (1, .int v1), (2, .int v2), (3, .int v3), (5, .long v5), (7, .int v7)] 45 [] (I, J, RM B) (some (.long q)) (I, J, RM B)) (v1 : Int32) (v2 : Int32) (v3 : Int32) (v5 : Int64) (v7 : Int32) (v8 : Int64) (vs0 : Int32) (I : hI) (J : hJ) (B : Bool × Bool) (q : Int64) (h : mHz_value_118 k45 v1 v2 v3 v5 v7 v8 vs0 I J = some q) : AW hFT cX3_value 11 (some .long) RX3 kdC d [(0, .ref 31), (1, .int v1), (2, .int v2), (3, .int v3), (5, .long v5), (7, .int v7), (8, .long v8)] 118 [.int vs0] (I, J, RM B) (some (.long q)) (I, J, RM B) := by
  obtain ⟨d0, rfl, hd0⟩ := h_mono hd
  unfold mHz_value_118 at h
  refine a_istore (lv' := [(10, .int vs0), (0, .ref 31), (1, .int v1), (2, .int v2), (3, .int v3), (5, .long v5), (7, .int v7), (8, .long v8)]) dX3_value_118 (by decide) rfl ?_
  refine a_iload dX3_value_120 rfl ?_
  refine a_if_eq (tgt := 130) dX3_value_122 (by decide) (fun c => ?_) (fun c => ?_)
  · replace h := h_iteT c h
    refine a_lload dX3_value_130 rfl ?_
    refine a_lstore (lv' := [(5, .long v8), (10, .int vs0), (0, .ref 31), (1, .int v1), (2, .int v2), (3, .int v3), (7, .int v7), (8, .long v8)]) dX3_value_132 (by decide) rfl ?_
    refine b_iinc (lv' := [(7, .int (v7 + (1 : Int32))), (5, .long v8), (10, .int vs0), (0, .ref 31), (1, .int v1), (2, .int v2), (3, .int v3), (8, .long v8)]) dX3_value_134 rfl ic_1 (by decide) rfl ?_
    refine a_goto (tgt := 45) dX3_value_137 (by decide) ?_
    refine a_sub (lv' := [(0, .ref 31), (1, .int v1), (2, .int v2), (3, .int v3), (5, .long v8), (7, .int (v7 + (1 : Int32)))]) [3, 4, 5, 6, 1, 0] rfl ?_
    exact hk45 v1 v2 v3 v8 (v7 + (1 : Int32)) I J B _ h
  · replace h := h_iteF c h
    refine a_iload dX3_value_125 rfl ?_
    refine a_if_eq (tgt := 134) dX3_value_127 (by decide) (fun c => ?_) (fun c => ?_)
    · replace h := h_iteT c h
      refine b_iinc (lv' := [(7, .int (v7 + (1 : Int32))), (10, .int vs0), (0, .ref 31), (1, .int v1), (2, .int v2), (3, .int v3), (5, .long v5), (8, .long v8)]) dX3_value_134 rfl ic_1 (by decide) rfl ?_
      refine a_goto (tgt := 45) dX3_value_137 (by decide) ?_
      refine a_sub (lv' := [(0, .ref 31), (1, .int v1), (2, .int v2), (3, .int v3), (5, .long v5), (7, .int (v7 + (1 : Int32)))]) [2, 3, 4, 5, 6, 0] rfl ?_
      exact hk45 v1 v2 v3 v5 (v7 + (1 : Int32)) I J B _ h
    · replace h := h_iteF c h
      refine a_lload dX3_value_130 rfl ?_
      refine a_lstore (lv' := [(5, .long v8), (10, .int vs0), (0, .ref 31), (1, .int v1), (2, .int v2), (3, .int v3), (7, .int v7), (8, .long v8)]) dX3_value_132 (by decide) rfl ?_
      refine b_iinc (lv' := [(7, .int (v7 + (1 : Int32))), (5, .long v8), (10, .int vs0), (0, .ref 31), (1, .int v1), (2, .int v2), (3, .int v3), (8, .long v8)]) dX3_value_134 rfl ic_1 (by decide) rfl ?_
      refine a_goto (tgt := 45) dX3_value_137 (by decide) ?_
      refine a_sub (lv' := [(0, .ref 31), (1, .int v1), (2, .int v2), (3, .int v3), (5, .long v8), (7, .int (v7 + (1 : Int32)))]) [3, 4, 5, 6, 1, 0] rfl ?_
      exact hk45 v1 v2 v3 v8 (v7 + (1 : Int32)) I J B _ h
def mHz_value_B45 (k45 : Int32 → Int32 → Int32 → Int64 → Int32 → hI → hJ → Option (Int64)) (v1 : Int32) (v2 : Int32) (v3 : Int32) (v5 : Int64) (v7 : Int32) (I : hI) (J : hJ) : Option (Int64) :=
  if v2 ≤ 0 then
    some v5
  else
    ((mRo_isChoice v3 v7 I).bind fun q1 =>
    if q1 = 0 then
      some v5
    else
      (if (8 : Int32) ≤ v7 then
        some v5
      else
        ((mHz_valueBy v1 v2 ((v3 * (8 : Int32)) + v7) I J).bind fun q2 =>
        if v1 < (2 : Int32) then
          (if v5 ≤ q2 then
            mHz_value_118 k45 v1 v2 v3 v5 v7 q2 (0 : Int32) I J
          else
            mHz_value_118 k45 v1 v2 v3 v5 v7 q2 (1 : Int32) I J)
        else
          (if q2 ≤ v5 then
            mHz_value_118 k45 v1 v2 v3 v5 v7 q2 (0 : Int32) I J
          else
            mHz_value_118 k45 v1 v2 v3 v5 v7 q2 (1 : Int32) I J))))
set_option maxHeartbeats 4000000 in
theorem sHz_value_B45 (d : Nat) (hd : 1 + 1 ≤ d) (k45 : Int32 → Int32 → Int32 → Int64 → Int32 → hI → hJ → Option (Int64)) (hk45 : ∀ (v1 : Int32) (v2 : Int32) (v3 : Int32) (v5 : Int64) (v7 : Int32) (I : hI) (J : hJ) (B : Bool × Bool) (q : Int64), k45 v1 v2 v3 v5 v7 I J = some q → AW hFT cX3_value 11 (some .long) RX3 kdC d [(0, .ref 31), (1, .int v1), (2, .int v2), (3, .int v3), (5, .long v5), (7, .int v7)] 45 [] (I, J, RM B) (some (.long q)) (I, J, RM B)) (v1 : Int32) (v2 : Int32) (v3 : Int32) (v5 : Int64) (v7 : Int32) (I : hI) (J : hJ) (B : Bool × Bool) (q : Int64) (h : mHz_value_B45 k45 v1 v2 v3 v5 v7 I J = some q) : AW hFT cX3_value 11 (some .long) RX3 kdC d [(0, .ref 31), (1, .int v1), (2, .int v2), (3, .int v3), (5, .long v5), (7, .int v7)] 45 [] (I, J, RM B) (some (.long q)) (I, J, RM B) := by
  obtain ⟨d0, rfl, hd0⟩ := h_mono hd
  unfold mHz_value_B45 at h
  refine a_iload_n dX3_value_45 rfl rfl ?_
  refine a_if_le (tgt := 140) dX3_value_46 (by decide) (fun c => ?_) (fun c => ?_)
  · replace h := h_iteT c h
    refine a_lload dX3_value_140 rfl ?_
    cases h
    exact a_lret dX3_value_142
  · replace h := h_iteF c h
    refine a_aload_n dX3_value_49 rfl rfl ?_
    refine b_getR hK_3 kc_31 (i := 0) rfl fl_3_20 rfl (rm_31_0 B) dX3_value_50 ?_
    refine a_iload_n dX3_value_53 rfl rfl ?_
    refine a_iload dX3_value_54 rfl ?_
    obtain ⟨q1, cq1, h⟩ := h_bindS h
    refine a_callV1 [] yy_X7_isChoice ml_3_44 kc_7 rfl (sRo_isChoice _ (by omega) v3 v7 I J B q1 cq1) rfl rfl (Nat.le_of_ble_eq_true rfl) dX3_value_56 ?_
    refine a_if_eq (tgt := 140) dX3_value_59 (by decide) (fun c => ?_) (fun c => ?_)
    · replace h := h_iteT c h
      refine a_lload dX3_value_140 rfl ?_
      cases h
      exact a_lret dX3_value_142
    · replace h := h_iteF c h
      refine a_iload dX3_value_62 rfl ?_
      refine a_bipush dX3_value_64 bp_8 ?_
      refine a_icmp_ge (tgt := 140) dX3_value_66 (by decide) (fun c => ?_) (fun c => ?_)
      · replace h := h_iteT c h
        refine a_lload dX3_value_140 rfl ?_
        cases h
        exact a_lret dX3_value_142
      · replace h := h_iteF c h
        refine a_aload_n dX3_value_69 rfl rfl ?_
        refine a_iload_n dX3_value_70 rfl rfl ?_
        refine a_iload_n dX3_value_71 rfl rfl ?_
        refine a_iload_n dX3_value_72 rfl rfl ?_
        refine a_bipush dX3_value_73 bp_8 ?_
        refine a_imul dX3_value_75 ?_
        refine a_iload dX3_value_76 rfl ?_
        refine a_iadd dX3_value_78 ?_
        obtain ⟨q2, cq2, h⟩ := h_bindS h
        refine a_callV1 [] yy_X3_valueBy ml_3_47 kc_31 rfl (sHz_valueBy _ (by omega) v1 v2 ((v3 * (8 : Int32)) + v7) I J B q2 cq2) rfl rfl (Nat.le_of_ble_eq_true rfl) dX3_value_79 ?_
        refine a_lstore (lv' := [(8, .long q2), (0, .ref 31), (1, .int v1), (2, .int v2), (3, .int v3), (5, .long v5), (7, .int v7)]) dX3_value_82 (by decide) rfl ?_
        refine a_iload_n dX3_value_84 rfl rfl ?_
        refine a_iconst dX3_value_85 ic_2 ?_
        refine a_icmp_lt (tgt := 105) dX3_value_86 (by decide) (fun c => ?_) (fun c => ?_)
        · replace h := h_iteT c h
          refine a_lload dX3_value_105 rfl ?_
          refine a_lload dX3_value_107 rfl ?_
          refine a_lcmp_ge (tgt := 117) dX3_value_109 dX3_value_110 (by decide) (fun c => ?_) (fun c => ?_)
          · replace h := h_iteT c h
            refine a_iconst dX3_value_117 ic_0 ?_
            refine a_sub (lv' := [(0, .ref 31), (1, .int v1), (2, .int v2), (3, .int v3), (5, .long v5), (7, .int v7), (8, .long q2)]) [1, 2, 3, 4, 5, 6, 0] rfl ?_
            exact sHz_value_118 (d0 + 1) (by omega) k45 hk45 v1 v2 v3 v5 v7 q2 (0 : Int32) I J B _ h
          · replace h := h_iteF c h
            refine a_iconst dX3_value_113 ic_1 ?_
            refine a_goto (tgt := 118) dX3_value_114 (by decide) ?_
            refine a_sub (lv' := [(0, .ref 31), (1, .int v1), (2, .int v2), (3, .int v3), (5, .long v5), (7, .int v7), (8, .long q2)]) [1, 2, 3, 4, 5, 6, 0] rfl ?_
            exact sHz_value_118 (d0 + 1) (by omega) k45 hk45 v1 v2 v3 v5 v7 q2 (1 : Int32) I J B _ h
        · replace h := h_iteF c h
          refine a_lload dX3_value_89 rfl ?_
          refine a_lload dX3_value_91 rfl ?_
          refine a_lcmp_le (tgt := 101) dX3_value_93 dX3_value_94 (by decide) (fun c => ?_) (fun c => ?_)
          · replace h := h_iteT c h
            refine a_iconst dX3_value_101 ic_0 ?_
            refine a_goto (tgt := 118) dX3_value_102 (by decide) ?_
            refine a_sub (lv' := [(0, .ref 31), (1, .int v1), (2, .int v2), (3, .int v3), (5, .long v5), (7, .int v7), (8, .long q2)]) [1, 2, 3, 4, 5, 6, 0] rfl ?_
            exact sHz_value_118 (d0 + 1) (by omega) k45 hk45 v1 v2 v3 v5 v7 q2 (0 : Int32) I J B _ h
          · replace h := h_iteF c h
            refine a_iconst dX3_value_97 ic_1 ?_
            refine a_goto (tgt := 118) dX3_value_98 (by decide) ?_
            refine a_sub (lv' := [(0, .ref 31), (1, .int v1), (2, .int v2), (3, .int v3), (5, .long v5), (7, .int v7), (8, .long q2)]) [1, 2, 3, 4, 5, 6, 0] rfl ?_
            exact sHz_value_118 (d0 + 1) (by omega) k45 hk45 v1 v2 v3 v5 v7 q2 (1 : Int32) I J B _ h
def mHz_value_L45  : Nat → Int32 → Int32 → Int32 → Int64 → Int32 → hI → hJ → Option (Int64)
  | 0 => fun _ _ _ _ _ _ _ => none
  | n + 1 => mHz_value_B45 (mHz_value_L45 n)
theorem sHz_value_L45 (d : Nat) (hd : 1 + 1 ≤ d) : ∀ (n : Nat) (v1 : Int32) (v2 : Int32) (v3 : Int32) (v5 : Int64) (v7 : Int32) (I : hI) (J : hJ) (B : Bool × Bool) (q : Int64) (h : mHz_value_L45 n v1 v2 v3 v5 v7 I J = some q), AW hFT cX3_value 11 (some .long) RX3 kdC d [(0, .ref 31), (1, .int v1), (2, .int v2), (3, .int v3), (5, .long v5), (7, .int v7)] 45 [] (I, J, RM B) (some (.long q)) (I, J, RM B)
  | 0, _, _, _, _, _, _, _, _, q, h => by cases h
  | n + 1, v1, v2, v3, v5, v7, I, J, B, q, h => sHz_value_B45 d hd (mHz_value_L45 n) (sHz_value_L45 d hd n) v1 v2 v3 v5 v7 I J B q h
def mHz_value_11  (v1 : Int32) (v2 : Int32) (v3 : Int32) (vs0 : Int32) (I : hI) (J : hJ) : Option (Int64) :=
  if (mRo_isIn v3 I) = 0 then
    (if vs0 = 0 then
      some (0 : Int64)
    else
      some ((1 : Int64) <<< (((2 : Int32) * v2).toInt64 &&& 63)))
  else
    mHz_value_L45 hF v1 v2 v3 (0 : Int64) (0 : Int32) I J
set_option maxHeartbeats 4000000 in
theorem sHz_value_11 (d : Nat) (hd : 1 + 1 ≤ d) (v1 : Int32) (v2 : Int32) (v3 : Int32) (vs0 : Int32) (I : hI) (J : hJ) (B : Bool × Bool) (q : Int64) (h : mHz_value_11 v1 v2 v3 vs0 I J = some q) : AW hFT cX3_value 11 (some .long) RX3 kdC d [(0, .ref 31), (1, .int v1), (2, .int v2), (3, .int v3)] 11 [.int vs0] (I, J, RM B) (some (.long q)) (I, J, RM B) := by
  obtain ⟨d0, rfl, hd0⟩ := h_mono hd
  unfold mHz_value_11 at h
  refine a_istore (lv' := [(4, .int vs0), (0, .ref 31), (1, .int v1), (2, .int v2), (3, .int v3)]) dX3_value_11 (by decide) rfl ?_
  refine a_aload_n dX3_value_13 rfl rfl ?_
  refine b_getR hK_3 kc_31 (i := 0) rfl fl_3_20 rfl (rm_31_0 B) dX3_value_14 ?_
  refine a_iload_n dX3_value_17 rfl rfl ?_
  refine a_callV1 [] yy_X7_isIn ml_3_40 kc_7 rfl (sRo_isIn _ (by omega) v3 I J B _ rfl) rfl rfl (Nat.le_of_ble_eq_true rfl) dX3_value_18 ?_
  refine a_if_ne (tgt := 39) dX3_value_21 (by decide) (fun c => ?_) (fun c => ?_)
  · replace h := h_iteF c h
    refine a_lconst dX3_value_39 lc_0 ?_
    refine a_lstore (lv' := [(5, .long (0 : Int64)), (4, .int vs0), (0, .ref 31), (1, .int v1), (2, .int v2), (3, .int v3)]) dX3_value_40 (by decide) rfl ?_
    refine a_iconst dX3_value_42 ic_0 ?_
    refine a_istore (lv' := [(7, .int (0 : Int32)), (5, .long (0 : Int64)), (4, .int vs0), (0, .ref 31), (1, .int v1), (2, .int v2), (3, .int v3)]) dX3_value_43 (by decide) rfl ?_
    refine a_sub (lv' := [(0, .ref 31), (1, .int v1), (2, .int v2), (3, .int v3), (5, .long (0 : Int64)), (7, .int (0 : Int32))]) [3, 4, 5, 6, 1, 0] rfl ?_
    exact sHz_value_L45 (d0 + 1) (by omega) hF v1 v2 v3 (0 : Int64) (0 : Int32) I J B _ h
  · replace h := h_iteT c h
    refine a_iload dX3_value_24 rfl ?_
    refine a_if_eq (tgt := 37) dX3_value_26 (by decide) (fun c => ?_) (fun c => ?_)
    · replace h := h_iteT c h
      refine a_lconst dX3_value_37 lc_0 ?_
      cases h
      exact a_lret dX3_value_38
    · replace h := h_iteF c h
      refine a_lconst dX3_value_29 lc_1 ?_
      refine a_iconst dX3_value_30 ic_2 ?_
      refine a_iload_n dX3_value_31 rfl rfl ?_
      refine a_imul dX3_value_32 ?_
      refine a_lshl dX3_value_33 ?_
      refine a_goto (tgt := 38) dX3_value_34 (by decide) ?_
      cases h
      exact a_lret dX3_value_38
def mHz_value  (v1 : Int32) (v2 : Int32) (v3 : Int32) (I : hI) (J : hJ) : Option (Int64) :=
  if (v1 &&& (1 : Int32)) = 0 then
    mHz_value_11 v1 v2 v3 (1 : Int32) I J
  else
    mHz_value_11 v1 v2 v3 (0 : Int32) I J
set_option maxHeartbeats 4000000 in
theorem sHz_value (d : Nat) (hd : 1 + 1 ≤ d) (v1 : Int32) (v2 : Int32) (v3 : Int32) (I : hI) (J : hJ) (B : Bool × Bool) (q : Int64) (h : mHz_value v1 v2 v3 I J = some q) : HMet hFT yX3_value cX3_value 11 (some .long) kdC d [.ref 31, .int v1, .int v2, .int v3] (I, J, RM B) (some (.long q)) (I, J, RM B) := by
  obtain ⟨d0, rfl, hd0⟩ := h_mono hd
  refine HMet.of (by decide) (Nat.le_of_ble_eq_true rfl) ?_
  show AW hFT cX3_value 11 (some .long) RX3 kdC (d0 + 1) [(0, .ref 31), (1, .int v1), (2, .int v2), (3, .int v3)] 0 [] (I, J, RM B) (some (.long q)) (I, J, RM B)
  unfold mHz_value at h
  refine a_iload_n dX3_value_0 rfl rfl ?_
  refine a_iconst dX3_value_1 ic_1 ?_
  refine a_iand dX3_value_2 ?_
  refine a_if_ne (tgt := 10) dX3_value_3 (by decide) (fun c => ?_) (fun c => ?_)
  · replace h := h_iteF c h
    refine a_iconst dX3_value_10 ic_0 ?_
    exact sHz_value_11 (d0 + 1) (by omega) v1 v2 v3 (0 : Int32) I J B _ h
  · replace h := h_iteT c h
    refine a_iconst dX3_value_6 ic_1 ?_
    refine a_goto (tgt := 11) dX3_value_7 (by decide) ?_
    exact sHz_value_11 (d0 + 1) (by omega) v1 v2 v3 (1 : Int32) I J B _ h
/-! CoinLoops$Horizon.told(ZIII)J -/
theorem dX3_told_0 : decode cX3_told 0 = .ok (.iload_n 1, 1) := by decide +kernel
theorem dX3_told_1 : decode cX3_told 1 = .ok (.ifCond .eq 7, 3) := by decide +kernel
theorem dX3_told_4 : decode cX3_told 4 = .ok (.iconst 2, 1) := by decide +kernel
theorem dX3_told_5 : decode cX3_told 5 = .ok (.goto 4, 3) := by decide +kernel
theorem dX3_told_8 : decode cX3_told 8 = .ok (.iconst 0, 1) := by decide +kernel
theorem dX3_told_9 : decode cX3_told 9 = .ok (.iload_n 2, 1) := by decide +kernel
theorem dX3_told_10 : decode cX3_told 10 = .ok (.iadd, 1) := by decide +kernel
theorem dX3_told_11 : decode cX3_told 11 = .ok (.istore 5, 2) := by decide +kernel
theorem dX3_told_13 : decode cX3_told 13 = .ok (.iload_n 3, 1) := by decide +kernel
theorem dX3_told_14 : decode cX3_told 14 = .ok (.bipush 10, 2) := by decide +kernel
theorem dX3_told_16 : decode cX3_told 16 = .ok (.imul, 1) := by decide +kernel
theorem dX3_told_17 : decode cX3_told 17 = .ok (.iload 4, 2) := by decide +kernel
theorem dX3_told_19 : decode cX3_told 19 = .ok (.iadd, 1) := by decide +kernel
theorem dX3_told_20 : decode cX3_told 20 = .ok (.istore 6, 2) := by decide +kernel
theorem dX3_told_22 : decode cX3_told 22 = .ok (.iload 5, 2) := by decide +kernel
theorem dX3_told_24 : decode cX3_told 24 = .ok (.aload_n 0, 1) := by decide +kernel
theorem dX3_told_25 : decode cX3_told 25 = .ok (.getfield 16, 3) := by decide +kernel
theorem dX3_told_28 : decode cX3_told 28 = .ok (.arraylength, 1) := by decide +kernel
theorem dX3_told_29 : decode cX3_told 29 = .ok (.invokestatic 24, 3) := by decide +kernel
theorem dX3_told_32 : decode cX3_told 32 = .ok (.ifCond .ne 28, 3) := by decide +kernel
theorem dX3_told_35 : decode cX3_told 35 = .ok (.iload_n 3, 1) := by decide +kernel
theorem dX3_told_36 : decode cX3_told 36 = .ok (.bipush 21, 2) := by decide +kernel
theorem dX3_told_38 : decode cX3_told 38 = .ok (.invokestatic 24, 3) := by decide +kernel
theorem dX3_told_41 : decode cX3_told 41 = .ok (.ifCond .ne 19, 3) := by decide +kernel
theorem dX3_told_44 : decode cX3_told 44 = .ok (.iload 6, 2) := by decide +kernel
theorem dX3_told_46 : decode cX3_told 46 = .ok (.aload_n 0, 1) := by decide +kernel
theorem dX3_told_47 : decode cX3_told 47 = .ok (.getfield 11, 3) := by decide +kernel
theorem dX3_told_50 : decode cX3_told 50 = .ok (.iload 5, 2) := by decide +kernel
theorem dX3_told_52 : decode cX3_told 52 = .ok (.aaload, 1) := by decide +kernel
theorem dX3_told_53 : decode cX3_told 53 = .ok (.arraylength, 1) := by decide +kernel
theorem dX3_told_54 : decode cX3_told 54 = .ok (.invokestatic 24, 3) := by decide +kernel
theorem dX3_told_57 : decode cX3_told 57 = .ok (.ifCond .eq 7, 3) := by decide +kernel
theorem dX3_told_60 : decode cX3_told 60 = .ok (.ldc2_w 28, 3) := by decide +kernel
theorem dX3_told_63 : decode cX3_told 63 = .ok (.lreturn, 1) := by decide +kernel
theorem dX3_told_64 : decode cX3_told 64 = .ok (.aload_n 0, 1) := by decide +kernel
theorem dX3_told_65 : decode cX3_told 65 = .ok (.getfield 16, 3) := by decide +kernel
theorem dX3_told_68 : decode cX3_told 68 = .ok (.iload 5, 2) := by decide +kernel
theorem dX3_told_70 : decode cX3_told 70 = .ok (.iaload, 1) := by decide +kernel
theorem dX3_told_71 : decode cX3_told 71 = .ok (.istore 7, 2) := by decide +kernel
theorem dX3_told_73 : decode cX3_told 73 = .ok (.iload 7, 2) := by decide +kernel
theorem dX3_told_75 : decode cX3_told 75 = .ok (.iload_n 3, 1) := by decide +kernel
theorem dX3_told_76 : decode cX3_told 76 = .ok (.if_icmp .gt 67, 3) := by decide +kernel
theorem dX3_told_79 : decode cX3_told 79 = .ok (.iconst 0, 1) := by decide +kernel
theorem dX3_told_80 : decode cX3_told 80 = .ok (.istore 8, 2) := by decide +kernel
theorem dX3_told_82 : decode cX3_told 82 = .ok (.iload 8, 2) := by decide +kernel
theorem dX3_told_84 : decode cX3_told 84 = .ok (.aload_n 0, 1) := by decide +kernel
theorem dX3_told_85 : decode cX3_told 85 = .ok (.getfield 20, 3) := by decide +kernel
theorem dX3_told_88 : decode cX3_told 88 = .ok (.getfield 30, 3) := by decide +kernel
theorem dX3_told_91 : decode cX3_told 91 = .ok (.if_icmp .ge 35, 3) := by decide +kernel
theorem dX3_told_94 : decode cX3_told 94 = .ok (.aload_n 0, 1) := by decide +kernel
theorem dX3_told_95 : decode cX3_told 95 = .ok (.getfield 11, 3) := by decide +kernel
theorem dX3_told_98 : decode cX3_told 98 = .ok (.iload 5, 2) := by decide +kernel
theorem dX3_told_100 : decode cX3_told 100 = .ok (.aaload, 1) := by decide +kernel
theorem dX3_told_101 : decode cX3_told 101 = .ok (.iload 7, 2) := by decide +kernel
theorem dX3_told_103 : decode cX3_told 103 = .ok (.bipush 10, 2) := by decide +kernel
theorem dX3_told_105 : decode cX3_told 105 = .ok (.imul, 1) := by decide +kernel
theorem dX3_told_106 : decode cX3_told 106 = .ok (.iload 8, 2) := by decide +kernel
theorem dX3_told_108 : decode cX3_told 108 = .ok (.iadd, 1) := by decide +kernel
theorem dX3_told_109 : decode cX3_told 109 = .ok (.aload_n 0, 1) := by decide +kernel
theorem dX3_told_110 : decode cX3_told 110 = .ok (.iload 5, 2) := by decide +kernel
theorem dX3_told_112 : decode cX3_told 112 = .ok (.iload 7, 2) := by decide +kernel
theorem dX3_told_114 : decode cX3_told 114 = .ok (.iload 8, 2) := by decide +kernel
theorem dX3_told_116 : decode cX3_told 116 = .ok (.invokevirtual 36, 3) := by decide +kernel
theorem dX3_told_119 : decode cX3_told 119 = .ok (.lastore, 1) := by decide +kernel
theorem dX3_told_120 : decode cX3_told 120 = .ok (.iinc 8 1, 3) := by decide +kernel
theorem dX3_told_123 : decode cX3_told 123 = .ok (.goto (-41), 3) := by decide +kernel
theorem dX3_told_126 : decode cX3_told 126 = .ok (.aload_n 0, 1) := by decide +kernel
theorem dX3_told_127 : decode cX3_told 127 = .ok (.getfield 16, 3) := by decide +kernel
theorem dX3_told_130 : decode cX3_told 130 = .ok (.iload 5, 2) := by decide +kernel
theorem dX3_told_132 : decode cX3_told 132 = .ok (.iload 7, 2) := by decide +kernel
theorem dX3_told_134 : decode cX3_told 134 = .ok (.iconst 1, 1) := by decide +kernel
theorem dX3_told_135 : decode cX3_told 135 = .ok (.iadd, 1) := by decide +kernel
theorem dX3_told_136 : decode cX3_told 136 = .ok (.iastore, 1) := by decide +kernel
theorem dX3_told_137 : decode cX3_told 137 = .ok (.iinc 7 1, 3) := by decide +kernel
theorem dX3_told_140 : decode cX3_told 140 = .ok (.goto (-67), 3) := by decide +kernel
theorem dX3_told_143 : decode cX3_told 143 = .ok (.aload_n 0, 1) := by decide +kernel
theorem dX3_told_144 : decode cX3_told 144 = .ok (.getfield 11, 3) := by decide +kernel
theorem dX3_told_147 : decode cX3_told 147 = .ok (.iload 5, 2) := by decide +kernel
theorem dX3_told_149 : decode cX3_told 149 = .ok (.aaload, 1) := by decide +kernel
theorem dX3_told_150 : decode cX3_told 150 = .ok (.iload 6, 2) := by decide +kernel
theorem dX3_told_152 : decode cX3_told 152 = .ok (.laload, 1) := by decide +kernel
theorem dX3_told_153 : decode cX3_told 153 = .ok (.lreturn, 1) := by decide +kernel
def mHz_told_B82 (k73 : Int32 → Int32 → Int32 → Int32 → hI → hJ → Option (Int64 × hI × hJ)) (k82 : Int32 → Int32 → Int32 → Int32 → Int32 → hI → hJ → Option (Int64 × hI × hJ)) (v3 : Int32) (v5 : Int32) (v6 : Int32) (v7 : Int32) (v8 : Int32) (I : hI) (J : hJ) : Option (Int64 × hI × hJ) :=
  if (I 7 5) ≤ v8 then
    (h_g (h_in v5 4) <|
    h_let (h_u I 37 v5.toNatClampNeg (v7 + (1 : Int32))) fun I2 =>
    k73 v3 v5 v6 (v7 + (1 : Int32)) I2 J)
  else
    (h_g (h_in v5 4) <|
    (mHz_value v5 v7 v8 I J).bind fun q2 =>
    h_g (h_in ((v7 * (10 : Int32)) + v8) 210) <|
    h_let (h_u J (33 + v5.toNatClampNeg) ((v7 * (10 : Int32)) + v8).toNatClampNeg q2) fun J4 =>
    k82 v3 v5 v6 v7 (v8 + (1 : Int32)) I J4)
set_option maxHeartbeats 4000000 in
theorem sHz_told_B82 (d : Nat) (hd : 2 + 1 ≤ d) (k73 : Int32 → Int32 → Int32 → Int32 → hI → hJ → Option (Int64 × hI × hJ)) (hk73 : ∀ (v3 : Int32) (v5 : Int32) (v6 : Int32) (v7 : Int32) (I : hI) (J : hJ) (B : Bool × Bool) (q : Int64 × hI × hJ), k73 v3 v5 v6 v7 I J = some q → AW hFT cX3_told 9 (some .long) RX3 kdC d [(0, .ref 31), (3, .int v3), (5, .int v5), (6, .int v6), (7, .int v7)] 73 [] (I, J, RM B) (some (.long q.1)) (q.2.1, q.2.2, RM B)) (k82 : Int32 → Int32 → Int32 → Int32 → Int32 → hI → hJ → Option (Int64 × hI × hJ)) (hk82 : ∀ (v3 : Int32) (v5 : Int32) (v6 : Int32) (v7 : Int32) (v8 : Int32) (I : hI) (J : hJ) (B : Bool × Bool) (q : Int64 × hI × hJ), k82 v3 v5 v6 v7 v8 I J = some q → AW hFT cX3_told 9 (some .long) RX3 kdC d [(0, .ref 31), (3, .int v3), (5, .int v5), (6, .int v6), (7, .int v7), (8, .int v8)] 82 [] (I, J, RM B) (some (.long q.1)) (q.2.1, q.2.2, RM B)) (v3 : Int32) (v5 : Int32) (v6 : Int32) (v7 : Int32) (v8 : Int32) (I : hI) (J : hJ) (B : Bool × Bool) (q : Int64 × hI × hJ) (h : mHz_told_B82 k73 k82 v3 v5 v6 v7 v8 I J = some q) : AW hFT cX3_told 9 (some .long) RX3 kdC d [(0, .ref 31), (3, .int v3), (5, .int v5), (6, .int v6), (7, .int v7), (8, .int v8)] 82 [] (I, J, RM B) (some (.long q.1)) (q.2.1, q.2.2, RM B) := by
  obtain ⟨d0, rfl, hd0⟩ := h_mono hd
  unfold mHz_told_B82 at h
  refine a_iload dX3_told_82 rfl ?_
  refine a_aload_n dX3_told_84 rfl rfl ?_
  refine b_getR hK_3 kc_31 (i := 0) rfl fl_3_20 rfl (rm_31_0 B) dX3_told_85 ?_
  refine b_getI hK_7 kc_7 (i := 5) rfl fl_3_30 rfl dX3_told_88 ?_
  refine a_icmp_ge (tgt := 126) dX3_told_91 (by decide) (fun c => ?_) (fun c => ?_)
  · replace h := h_iteT c h
    refine a_aload_n dX3_told_126 rfl rfl ?_
    refine b_getR hK_3 kc_31 (i := 2) rfl fl_3_16 rfl (rm_31_2 B) dX3_told_127 ?_
    refine a_iload dX3_told_130 rfl ?_
    refine a_iload dX3_told_132 rfl ?_
    refine a_iconst dX3_told_134 ic_1 ?_
    refine a_iadd dX3_told_135 ?_
    obtain ⟨g1, h⟩ := h_gS h
    refine b_iastore kc_37 (h_inV g1) dX3_told_136 ?_
    obtain ⟨I2, eI2, h⟩ := h_letS h
    refine a_memI eI2 ?_
    refine b_iinc (lv' := [(7, .int (v7 + (1 : Int32))), (0, .ref 31), (3, .int v3), (5, .int v5), (6, .int v6), (8, .int v8)]) dX3_told_137 rfl ic_1 (by decide) rfl ?_
    refine a_goto (tgt := 73) dX3_told_140 (by decide) ?_
    refine a_sub (lv' := [(0, .ref 31), (3, .int v3), (5, .int v5), (6, .int v6), (7, .int (v7 + (1 : Int32)))]) [1, 2, 3, 4, 0] rfl ?_
    exact hk73 v3 v5 v6 (v7 + (1 : Int32)) I2 J B _ h
  · replace h := h_iteF c h
    refine a_aload_n dX3_told_94 rfl rfl ?_
    refine b_getR hK_3 kc_31 (i := 1) rfl fl_3_11 rfl (rm_31_1 B) dX3_told_95 ?_
    refine a_iload dX3_told_98 rfl ?_
    obtain ⟨g1, h⟩ := h_gS h
    refine b_aaload4 kc_32 (h_inV g1) (rm_JJ_32 B _ (h_in_lt (h_inV g1))) dX3_told_100 ?_
    refine a_iload dX3_told_101 rfl ?_
    refine a_bipush dX3_told_103 bp_10 ?_
    refine a_imul dX3_told_105 ?_
    refine a_iload dX3_told_106 rfl ?_
    refine a_iadd dX3_told_108 ?_
    refine a_aload_n dX3_told_109 rfl rfl ?_
    refine a_iload dX3_told_110 rfl ?_
    refine a_iload dX3_told_112 rfl ?_
    refine a_iload dX3_told_114 rfl ?_
    obtain ⟨q2, cq2, h⟩ := h_bindS h
    refine a_callV1 [.int ((v7 * (10 : Int32)) + v8), .ref (33 + v5.toNatClampNeg)] yy_X3_value ml_3_36 kc_31 rfl (sHz_value _ (by omega) v5 v7 v8 I J B q2 cq2) rfl rfl (Nat.le_of_ble_eq_true rfl) dX3_told_116 ?_
    obtain ⟨g3, h⟩ := h_gS h
    refine b_lastore (k_JJ_32 _ (h_in_lt (h_inV g1))) (h_inV g3) dX3_told_119 ?_
    obtain ⟨J4, eJ4, h⟩ := h_letS h
    refine a_memJ eJ4 ?_
    refine b_iinc (lv' := [(8, .int (v8 + (1 : Int32))), (0, .ref 31), (3, .int v3), (5, .int v5), (6, .int v6), (7, .int v7)]) dX3_told_120 rfl ic_1 (by decide) rfl ?_
    refine a_goto (tgt := 82) dX3_told_123 (by decide) ?_
    refine a_sub (lv' := [(0, .ref 31), (3, .int v3), (5, .int v5), (6, .int v6), (7, .int v7), (8, .int (v8 + (1 : Int32)))]) [1, 2, 3, 4, 5, 0] rfl ?_
    exact hk82 v3 v5 v6 v7 (v8 + (1 : Int32)) I J4 B _ h
def mHz_told_L82 (k73 : Int32 → Int32 → Int32 → Int32 → hI → hJ → Option (Int64 × hI × hJ)) : Nat → Int32 → Int32 → Int32 → Int32 → Int32 → hI → hJ → Option (Int64 × hI × hJ)
  | 0 => fun _ _ _ _ _ _ _ => none
  | n + 1 => mHz_told_B82 k73 (mHz_told_L82 k73 n)
theorem sHz_told_L82 (d : Nat) (hd : 2 + 1 ≤ d) (k73 : Int32 → Int32 → Int32 → Int32 → hI → hJ → Option (Int64 × hI × hJ)) (hk73 : ∀ (v3 : Int32) (v5 : Int32) (v6 : Int32) (v7 : Int32) (I : hI) (J : hJ) (B : Bool × Bool) (q : Int64 × hI × hJ), k73 v3 v5 v6 v7 I J = some q → AW hFT cX3_told 9 (some .long) RX3 kdC d [(0, .ref 31), (3, .int v3), (5, .int v5), (6, .int v6), (7, .int v7)] 73 [] (I, J, RM B) (some (.long q.1)) (q.2.1, q.2.2, RM B)) : ∀ (n : Nat) (v3 : Int32) (v5 : Int32) (v6 : Int32) (v7 : Int32) (v8 : Int32) (I : hI) (J : hJ) (B : Bool × Bool) (q : Int64 × hI × hJ) (h : mHz_told_L82 k73 n v3 v5 v6 v7 v8 I J = some q), AW hFT cX3_told 9 (some .long) RX3 kdC d [(0, .ref 31), (3, .int v3), (5, .int v5), (6, .int v6), (7, .int v7), (8, .int v8)] 82 [] (I, J, RM B) (some (.long q.1)) (q.2.1, q.2.2, RM B)
  | 0, _, _, _, _, _, _, _, _, q, h => by cases h
  | n + 1, v3, v5, v6, v7, v8, I, J, B, q, h => sHz_told_B82 d hd k73 hk73 (mHz_told_L82 k73 n) (sHz_told_L82 d hd k73 hk73 n) v3 v5 v6 v7 v8 I J B q h
def mHz_told_B73 (k73 : Int32 → Int32 → Int32 → Int32 → hI → hJ → Option (Int64 × hI × hJ)) (v3 : Int32) (v5 : Int32) (v6 : Int32) (v7 : Int32) (I : hI) (J : hJ) : Option (Int64 × hI × hJ) :=
  if v3 < v7 then
    (h_g (h_in v5 4) <|
    h_g (h_in v6 210) <|
    some ((J (33 + v5.toNatClampNeg) v6.toNatClampNeg), I, J))
  else
    mHz_told_L82 k73 hF v3 v5 v6 v7 (0 : Int32) I J
set_option maxHeartbeats 4000000 in
theorem sHz_told_B73 (d : Nat) (hd : 2 + 1 ≤ d) (k73 : Int32 → Int32 → Int32 → Int32 → hI → hJ → Option (Int64 × hI × hJ)) (hk73 : ∀ (v3 : Int32) (v5 : Int32) (v6 : Int32) (v7 : Int32) (I : hI) (J : hJ) (B : Bool × Bool) (q : Int64 × hI × hJ), k73 v3 v5 v6 v7 I J = some q → AW hFT cX3_told 9 (some .long) RX3 kdC d [(0, .ref 31), (3, .int v3), (5, .int v5), (6, .int v6), (7, .int v7)] 73 [] (I, J, RM B) (some (.long q.1)) (q.2.1, q.2.2, RM B)) (v3 : Int32) (v5 : Int32) (v6 : Int32) (v7 : Int32) (I : hI) (J : hJ) (B : Bool × Bool) (q : Int64 × hI × hJ) (h : mHz_told_B73 k73 v3 v5 v6 v7 I J = some q) : AW hFT cX3_told 9 (some .long) RX3 kdC d [(0, .ref 31), (3, .int v3), (5, .int v5), (6, .int v6), (7, .int v7)] 73 [] (I, J, RM B) (some (.long q.1)) (q.2.1, q.2.2, RM B) := by
  obtain ⟨d0, rfl, hd0⟩ := h_mono hd
  unfold mHz_told_B73 at h
  refine a_iload dX3_told_73 rfl ?_
  refine a_iload_n dX3_told_75 rfl rfl ?_
  refine a_icmp_gt (tgt := 143) dX3_told_76 (by decide) (fun c => ?_) (fun c => ?_)
  · replace h := h_iteT c h
    refine a_aload_n dX3_told_143 rfl rfl ?_
    refine b_getR hK_3 kc_31 (i := 1) rfl fl_3_11 rfl (rm_31_1 B) dX3_told_144 ?_
    refine a_iload dX3_told_147 rfl ?_
    obtain ⟨g1, h⟩ := h_gS h
    refine b_aaload4 kc_32 (h_inV g1) (rm_JJ_32 B _ (h_in_lt (h_inV g1))) dX3_told_149 ?_
    refine a_iload dX3_told_150 rfl ?_
    obtain ⟨g2, h⟩ := h_gS h
    refine b_laload (k_JJ_32 _ (h_in_lt (h_inV g1))) (h_inV g2) dX3_told_152 ?_
    cases h
    exact a_lret dX3_told_153
  · replace h := h_iteF c h
    refine a_iconst dX3_told_79 ic_0 ?_
    refine a_istore (lv' := [(8, .int (0 : Int32)), (0, .ref 31), (3, .int v3), (5, .int v5), (6, .int v6), (7, .int v7)]) dX3_told_80 (by decide) rfl ?_
    refine a_sub (lv' := [(0, .ref 31), (3, .int v3), (5, .int v5), (6, .int v6), (7, .int v7), (8, .int (0 : Int32))]) [1, 2, 3, 4, 5, 0] rfl ?_
    exact sHz_told_L82 (d0 + 1) (by omega) k73 hk73 hF v3 v5 v6 v7 (0 : Int32) I J B _ h
def mHz_told_L73  : Nat → Int32 → Int32 → Int32 → Int32 → hI → hJ → Option (Int64 × hI × hJ)
  | 0 => fun _ _ _ _ _ _ => none
  | n + 1 => mHz_told_B73 (mHz_told_L73 n)
theorem sHz_told_L73 (d : Nat) (hd : 2 + 1 ≤ d) : ∀ (n : Nat) (v3 : Int32) (v5 : Int32) (v6 : Int32) (v7 : Int32) (I : hI) (J : hJ) (B : Bool × Bool) (q : Int64 × hI × hJ) (h : mHz_told_L73 n v3 v5 v6 v7 I J = some q), AW hFT cX3_told 9 (some .long) RX3 kdC d [(0, .ref 31), (3, .int v3), (5, .int v5), (6, .int v6), (7, .int v7)] 73 [] (I, J, RM B) (some (.long q.1)) (q.2.1, q.2.2, RM B)
  | 0, _, _, _, _, _, _, _, q, h => by cases h
  | n + 1, v3, v5, v6, v7, I, J, B, q, h => sHz_told_B73 d hd (mHz_told_L73 n) (sHz_told_L73 d hd n) v3 v5 v6 v7 I J B q h
def mHz_told_9  (v2 : Int32) (v3 : Int32) (v4 : Int32) (vs0 : Int32) (I : hI) (J : hJ) : Option (Int64 × hI × hJ) :=
  h_let (vs0 + v2) fun v5x0 =>
  h_let ((v3 * (10 : Int32)) + v4) fun v6x1 =>
  if (mC_isOutside v5x0 (4 : Int32)) = 0 then
    (if (mC_isOutside v3 (21 : Int32)) = 0 then
      (h_g (h_in v5x0 4) <|
      if (mC_isOutside v6x1 (210 : Int32)) = 0 then
        (h_g (h_in v5x0 4) <|
        h_let (I 37 v5x0.toNatClampNeg) fun v7x4 =>
        mHz_told_L73 hF v3 v5x0 v6x1 v7x4 I J)
      else
        some ((-1 : Int64), I, J))
    else
      some ((-1 : Int64), I, J))
  else
    some ((-1 : Int64), I, J)
set_option maxHeartbeats 4000000 in
theorem sHz_told_9 (d : Nat) (hd : 2 + 1 ≤ d) (v2 : Int32) (v3 : Int32) (v4 : Int32) (vs0 : Int32) (I : hI) (J : hJ) (B : Bool × Bool) (q : Int64 × hI × hJ) (h : mHz_told_9 v2 v3 v4 vs0 I J = some q) : AW hFT cX3_told 9 (some .long) RX3 kdC d [(0, .ref 31), (2, .int v2), (3, .int v3), (4, .int v4)] 9 [.int vs0] (I, J, RM B) (some (.long q.1)) (q.2.1, q.2.2, RM B) := by
  obtain ⟨d0, rfl, hd0⟩ := h_mono hd
  unfold mHz_told_9 at h
  refine a_iload_n dX3_told_9 rfl rfl ?_
  refine a_iadd dX3_told_10 ?_
  obtain ⟨v5x0, ev5x0, h⟩ := h_letS h
  refine a_topI ev5x0 ?_
  refine a_istore (lv' := [(5, .int v5x0), (0, .ref 31), (2, .int v2), (3, .int v3), (4, .int v4)]) dX3_told_11 (by decide) rfl ?_
  refine a_iload_n dX3_told_13 rfl rfl ?_
  refine a_bipush dX3_told_14 bp_10 ?_
  refine a_imul dX3_told_16 ?_
  refine a_iload dX3_told_17 rfl ?_
  refine a_iadd dX3_told_19 ?_
  obtain ⟨v6x1, ev6x1, h⟩ := h_letS h
  refine a_topI ev6x1 ?_
  refine a_istore (lv' := [(6, .int v6x1), (5, .int v5x0), (0, .ref 31), (2, .int v2), (3, .int v3), (4, .int v4)]) dX3_told_20 (by decide) rfl ?_
  refine a_iload dX3_told_22 rfl ?_
  refine a_aload_n dX3_told_24 rfl rfl ?_
  refine b_getR hK_3 kc_31 (i := 2) rfl fl_3_16 rfl (rm_31_2 B) dX3_told_25 ?_
  refine a_alen0 kc_37 (v := 4) (by decide) dX3_told_28 ?_
  refine a_callSN1 [] yy_X10_isOutside ml_3_24 (sC_isOutside _ (by omega) v5x0 (4 : Int32) I J B _ rfl) rfl rfl (Nat.le_of_ble_eq_true rfl) dX3_told_29 ?_
  refine a_if_ne (tgt := 60) dX3_told_32 (by decide) (fun c => ?_) (fun c => ?_)
  · replace h := h_iteF c h
    refine a_ldc2_w cn_3_28 dX3_told_60 ?_
    cases h
    exact a_lret dX3_told_63
  · replace h := h_iteT c h
    refine a_iload_n dX3_told_35 rfl rfl ?_
    refine a_bipush dX3_told_36 bp_21 ?_
    refine a_callSN1 [] yy_X10_isOutside ml_3_24 (sC_isOutside _ (by omega) v3 (21 : Int32) I J B _ rfl) rfl rfl (Nat.le_of_ble_eq_true rfl) dX3_told_38 ?_
    refine a_if_ne (tgt := 60) dX3_told_41 (by decide) (fun c => ?_) (fun c => ?_)
    · replace h := h_iteF c h
      refine a_ldc2_w cn_3_28 dX3_told_60 ?_
      cases h
      exact a_lret dX3_told_63
    · replace h := h_iteT c h
      refine a_iload dX3_told_44 rfl ?_
      refine a_aload_n dX3_told_46 rfl rfl ?_
      refine b_getR hK_3 kc_31 (i := 1) rfl fl_3_11 rfl (rm_31_1 B) dX3_told_47 ?_
      refine a_iload dX3_told_50 rfl ?_
      obtain ⟨g3, h⟩ := h_gS h
      refine b_aaload4 kc_32 (h_inV g3) (rm_JJ_32 B _ (h_in_lt (h_inV g3))) dX3_told_52 ?_
      refine a_alen1 (k_JJ_32 _ (h_in_lt (h_inV g3))) (v := 210) (by decide) dX3_told_53 ?_
      refine a_callSN1 [] yy_X10_isOutside ml_3_24 (sC_isOutside _ (by omega) v6x1 (210 : Int32) I J B _ rfl) rfl rfl (Nat.le_of_ble_eq_true rfl) dX3_told_54 ?_
      refine a_if_eq (tgt := 64) dX3_told_57 (by decide) (fun c => ?_) (fun c => ?_)
      · replace h := h_iteT c h
        refine a_aload_n dX3_told_64 rfl rfl ?_
        refine b_getR hK_3 kc_31 (i := 2) rfl fl_3_16 rfl (rm_31_2 B) dX3_told_65 ?_
        refine a_iload dX3_told_68 rfl ?_
        obtain ⟨g4, h⟩ := h_gS h
        refine b_iaload kc_37 (h_inV g4) dX3_told_70 ?_
        obtain ⟨v7x4, ev7x4, h⟩ := h_letS h
        refine a_topI ev7x4 ?_
        refine a_istore (lv' := [(7, .int v7x4), (6, .int v6x1), (5, .int v5x0), (0, .ref 31), (2, .int v2), (3, .int v3), (4, .int v4)]) dX3_told_71 (by decide) rfl ?_
        refine a_sub (lv' := [(0, .ref 31), (3, .int v3), (5, .int v5x0), (6, .int v6x1), (7, .int v7x4)]) [3, 5, 2, 1, 0] rfl ?_
        exact sHz_told_L73 (d0 + 1) (by omega) hF v3 v5x0 v6x1 v7x4 I J B _ h
      · replace h := h_iteF c h
        refine a_ldc2_w cn_3_28 dX3_told_60 ?_
        cases h
        exact a_lret dX3_told_63
def mHz_told  (v1 : Int32) (v2 : Int32) (v3 : Int32) (v4 : Int32) (I : hI) (J : hJ) : Option (Int64 × hI × hJ) :=
  if v1 = 0 then
    mHz_told_9 v2 v3 v4 (0 : Int32) I J
  else
    mHz_told_9 v2 v3 v4 (2 : Int32) I J
set_option maxHeartbeats 4000000 in
theorem sHz_told (d : Nat) (hd : 2 + 1 ≤ d) (v1 : Int32) (v2 : Int32) (v3 : Int32) (v4 : Int32) (I : hI) (J : hJ) (B : Bool × Bool) (q : Int64 × hI × hJ) (h : mHz_told v1 v2 v3 v4 I J = some q) : HMet hFT yX3_told cX3_told 9 (some .long) kdC d [.ref 31, .int v1, .int v2, .int v3, .int v4] (I, J, RM B) (some (.long q.1)) (q.2.1, q.2.2, RM B) := by
  obtain ⟨d0, rfl, hd0⟩ := h_mono hd
  refine HMet.of (by decide) (Nat.le_of_ble_eq_true rfl) ?_
  show AW hFT cX3_told 9 (some .long) RX3 kdC (d0 + 1) [(0, .ref 31), (1, .int v1), (2, .int v2), (3, .int v3), (4, .int v4)] 0 [] (I, J, RM B) (some (.long q.1)) (q.2.1, q.2.2, RM B)
  unfold mHz_told at h
  refine a_iload_n dX3_told_0 rfl rfl ?_
  refine a_if_eq (tgt := 8) dX3_told_1 (by decide) (fun c => ?_) (fun c => ?_)
  · replace h := h_iteT c h
    refine a_iconst dX3_told_8 ic_0 ?_
    refine a_sub (lv' := [(0, .ref 31), (2, .int v2), (3, .int v3), (4, .int v4)]) [0, 2, 3, 4] rfl ?_
    exact sHz_told_9 (d0 + 1) (by omega) v2 v3 v4 (0 : Int32) I J B _ h
  · replace h := h_iteF c h
    refine a_iconst dX3_told_4 ic_2 ?_
    refine a_goto (tgt := 9) dX3_told_5 (by decide) ?_
    refine a_sub (lv' := [(0, .ref 31), (2, .int v2), (3, .int v3), (4, .int v4)]) [0, 2, 3, 4] rfl ?_
    exact sHz_told_9 (d0 + 1) (by omega) v2 v3 v4 (2 : Int32) I J B _ h
