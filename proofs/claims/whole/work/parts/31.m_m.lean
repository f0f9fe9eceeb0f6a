/-! CoinLoopsModel.in(JJJ)Z -/
theorem dX11_in_0 : decode cX11_in 0 = .ok (.lload_n 0, 1) := by decide +kernel
theorem dX11_in_1 : decode cX11_in 1 = .ok (.lload_n 2, 1) := by decide +kernel
theorem dX11_in_2 : decode cX11_in 2 = .ok (.lcmp, 1) := by decide +kernel
theorem dX11_in_3 : decode cX11_in 3 = .ok (.ifCond .lt 14, 3) := by decide +kernel
theorem dX11_in_6 : decode cX11_in 6 = .ok (.lload_n 0, 1) := by decide +kernel
theorem dX11_in_7 : decode cX11_in 7 = .ok (.lload 4, 2) := by decide +kernel
theorem dX11_in_9 : decode cX11_in 9 = .ok (.lcmp, 1) := by decide +kernel
theorem dX11_in_10 : decode cX11_in 10 = .ok (.ifCond .gt 7, 3) := by decide +kernel
theorem dX11_in_13 : decode cX11_in 13 = .ok (.iconst 1, 1) := by decide +kernel
theorem dX11_in_14 : decode cX11_in 14 = .ok (.goto 4, 3) := by decide +kernel
theorem dX11_in_17 : decode cX11_in 17 = .ok (.iconst 0, 1) := by decide +kernel
theorem dX11_in_18 : decode cX11_in 18 = .ok (.ireturn, 1) := by decide +kernel
def mM_in  (v0 : Int64) (v2 : Int64) (v4 : Int64)  : Int32 :=
  if v0 < v2 then
    (0 : Int32)
  else
    (if v4 < v0 then
      (0 : Int32)
    else
      (1 : Int32))
set_option maxHeartbeats 4000000 in
theorem sM_in (d : Nat) (hd : 0 ≤ d) (v0 : Int64) (v2 : Int64) (v4 : Int64) (I : hI) (J : hJ) (q : Int32) (h : mM_in v0 v2 v4 = q) : HMet hFT yX11_in cX11_in 6 (some .boolean) kdM d [.long v0, .long v2, .long v4] (I, J, RMm) (some (.int q)) (I, J, RMm) := by
  refine HMet.of (by decide) (Nat.le_of_ble_eq_true rfl) ?_
  show AW hFT cX11_in 6 (some .boolean) RX11 kdM d [(0, .long v0), (2, .long v2), (4, .long v4)] 0 [] (I, J, RMm) (some (.int q)) (I, J, RMm)
  unfold mM_in at h
  refine a_lload_n dX11_in_0 rfl rfl ?_
  refine a_lload_n dX11_in_1 rfl rfl ?_
  refine a_lcmp_lt (tgt := 17) dX11_in_2 dX11_in_3 (by decide) (fun c => ?_) (fun c => ?_)
  · replace h := h_iteT c h
    refine a_iconst dX11_in_17 ic_0 ?_
    cases h
    exact a_zret (h_Z0.1) dX11_in_18
  · replace h := h_iteF c h
    refine a_lload_n dX11_in_6 rfl rfl ?_
    refine a_lload dX11_in_7 rfl ?_
    refine a_lcmp_gt (tgt := 17) dX11_in_9 dX11_in_10 (by decide) (fun c => ?_) (fun c => ?_)
    · replace h := h_iteT c h
      refine a_iconst dX11_in_17 ic_0 ?_
      cases h
      exact a_zret (h_Z0.1) dX11_in_18
    · replace h := h_iteF c h
      refine a_iconst dX11_in_13 ic_1 ?_
      refine a_goto (tgt := 18) dX11_in_14 (by decide) ?_
      cases h
      exact a_zret (h_Z1.1) dX11_in_18
/-! CoinLoopsModel.thrown()I -/
theorem dX11_thrown_0 : decode cX11_thrown 0 = .ok (.aload_n 0, 1) := by decide +kernel
theorem dX11_thrown_1 : decode cX11_thrown 1 = .ok (.getfield 156, 3) := by decide +kernel
theorem dX11_thrown_4 : decode cX11_thrown 4 = .ok (.ireturn, 1) := by decide +kernel
def mM_thrown   (I : hI) : Int32 :=
  (I 0 0)
set_option maxHeartbeats 4000000 in
theorem sM_thrown (d : Nat) (hd : 0 ≤ d)  (I : hI) (J : hJ) (q : Int32) (h : mM_thrown I = q) : HMet hFT yX11_thrown cX11_thrown 1 (some .int) kdM d [.ref 0] (I, J, RMm) (some (.int q)) (I, J, RMm) := by
  refine HMet.of (by decide) (Nat.le_of_ble_eq_true rfl) ?_
  show AW hFT cX11_thrown 1 (some .int) RX11 kdM d [(0, .ref 0)] 0 [] (I, J, RMm) (some (.int q)) (I, J, RMm)
  unfold mM_thrown at h
  refine a_aload_n dX11_thrown_0 rfl rfl ?_
  refine b_getI hK_11 km_0 (i := 0) rfl fl_11_156 rfl dX11_thrown_1 ?_
  cases h
  exact a_iret dX11_thrown_4
/-! CoinLoopsModel.byteOf(IIIIII)I -/
theorem dX11_byteOf_0 : decode cX11_byteOf 0 = .ok (.iload 5, 2) := by decide +kernel
theorem dX11_byteOf_2 : decode cX11_byteOf 2 = .ok (.iconst 4, 1) := by decide +kernel
theorem dX11_byteOf_3 : decode cX11_byteOf 3 = .ok (.if_icmp .ge 7, 3) := by decide +kernel
theorem dX11_byteOf_6 : decode cX11_byteOf 6 = .ok (.iload_n 0, 1) := by decide +kernel
theorem dX11_byteOf_7 : decode cX11_byteOf 7 = .ok (.goto 38, 3) := by decide +kernel
theorem dX11_byteOf_10 : decode cX11_byteOf 10 = .ok (.iload 5, 2) := by decide +kernel
theorem dX11_byteOf_12 : decode cX11_byteOf 12 = .ok (.bipush 8, 2) := by decide +kernel
theorem dX11_byteOf_14 : decode cX11_byteOf 14 = .ok (.if_icmp .ge 7, 3) := by decide +kernel
theorem dX11_byteOf_17 : decode cX11_byteOf 17 = .ok (.iload_n 1, 1) := by decide +kernel
theorem dX11_byteOf_18 : decode cX11_byteOf 18 = .ok (.goto 27, 3) := by decide +kernel
theorem dX11_byteOf_21 : decode cX11_byteOf 21 = .ok (.iload 5, 2) := by decide +kernel
theorem dX11_byteOf_23 : decode cX11_byteOf 23 = .ok (.bipush 12, 2) := by decide +kernel
theorem dX11_byteOf_25 : decode cX11_byteOf 25 = .ok (.if_icmp .ge 7, 3) := by decide +kernel
theorem dX11_byteOf_28 : decode cX11_byteOf 28 = .ok (.iload_n 2, 1) := by decide +kernel
theorem dX11_byteOf_29 : decode cX11_byteOf 29 = .ok (.goto 16, 3) := by decide +kernel
theorem dX11_byteOf_32 : decode cX11_byteOf 32 = .ok (.iload 5, 2) := by decide +kernel
theorem dX11_byteOf_34 : decode cX11_byteOf 34 = .ok (.bipush 16, 2) := by decide +kernel
theorem dX11_byteOf_36 : decode cX11_byteOf 36 = .ok (.if_icmp .ge 7, 3) := by decide +kernel
theorem dX11_byteOf_39 : decode cX11_byteOf 39 = .ok (.iload_n 3, 1) := by decide +kernel
theorem dX11_byteOf_40 : decode cX11_byteOf 40 = .ok (.goto 5, 3) := by decide +kernel
theorem dX11_byteOf_43 : decode cX11_byteOf 43 = .ok (.iload 4, 2) := by decide +kernel
theorem dX11_byteOf_45 : decode cX11_byteOf 45 = .ok (.istore 6, 2) := by decide +kernel
theorem dX11_byteOf_47 : decode cX11_byteOf 47 = .ok (.iload 6, 2) := by decide +kernel
theorem dX11_byteOf_49 : decode cX11_byteOf 49 = .ok (.bipush 24, 2) := by decide +kernel
theorem dX11_byteOf_51 : decode cX11_byteOf 51 = .ok (.bipush 8, 2) := by decide +kernel
theorem dX11_byteOf_53 : decode cX11_byteOf 53 = .ok (.iload 5, 2) := by decide +kernel
theorem dX11_byteOf_55 : decode cX11_byteOf 55 = .ok (.iconst 4, 1) := by decide +kernel
theorem dX11_byteOf_56 : decode cX11_byteOf 56 = .ok (.irem, 1) := by decide +kernel
theorem dX11_byteOf_57 : decode cX11_byteOf 57 = .ok (.imul, 1) := by decide +kernel
theorem dX11_byteOf_58 : decode cX11_byteOf 58 = .ok (.isub, 1) := by decide +kernel
theorem dX11_byteOf_59 : decode cX11_byteOf 59 = .ok (.ishr, 1) := by decide +kernel
theorem dX11_byteOf_60 : decode cX11_byteOf 60 = .ok (.sipush 255, 3) := by decide +kernel
theorem dX11_byteOf_63 : decode cX11_byteOf 63 = .ok (.iand, 1) := by decide +kernel
theorem dX11_byteOf_64 : decode cX11_byteOf 64 = .ok (.ireturn, 1) := by decide +kernel
def mM_byteOf_45  (v5 : Int32) (vs0 : Int32)  : Option (Int32) :=
  some ((vs0 >>> (((24 : Int32) - ((8 : Int32) * (v5 - v5 / (4 : Int32) * (4 : Int32)))) &&& 31)) &&& (255 : Int32))
set_option maxHeartbeats 4000000 in
theorem sM_byteOf_45 (d : Nat) (hd : 0 ≤ d) (v5 : Int32) (vs0 : Int32) (I : hI) (J : hJ) (q : Int32) (h : mM_byteOf_45 v5 vs0 = some q) : AW hFT cX11_byteOf 7 (some .int) RX11 kdM d [(5, .int v5)] 45 [.int vs0] (I, J, RMm) (some (.int q)) (I, J, RMm) := by
  unfold mM_byteOf_45 at h
  refine a_istore (lv' := [(6, .int vs0), (5, .int v5)]) dX11_byteOf_45 (by decide) rfl ?_
  refine a_iload dX11_byteOf_47 rfl ?_
  refine a_bipush dX11_byteOf_49 bp_24 ?_
  refine a_bipush dX11_byteOf_51 bp_8 ?_
  refine a_iload dX11_byteOf_53 rfl ?_
  refine a_iconst dX11_byteOf_55 ic_4 ?_
  refine a_irem dX11_byteOf_56 (by decide) ?_
  refine a_imul dX11_byteOf_57 ?_
  refine a_isub dX11_byteOf_58 ?_
  refine a_ishr dX11_byteOf_59 ?_
  refine a_sipush dX11_byteOf_60 sq_255 ?_
  refine a_iand dX11_byteOf_63 ?_
  cases h
  exact a_iret dX11_byteOf_64
def mM_byteOf  (v0 : Int32) (v1 : Int32) (v2 : Int32) (v3 : Int32) (v4 : Int32) (v5 : Int32)  : Option (Int32) :=
  if (4 : Int32) ≤ v5 then
    (if (8 : Int32) ≤ v5 then
      (if (12 : Int32) ≤ v5 then
        (if (16 : Int32) ≤ v5 then
          mM_byteOf_45 v5 v4
        else
          mM_byteOf_45 v5 v3)
      else
        mM_byteOf_45 v5 v2)
    else
      mM_byteOf_45 v5 v1)
  else
    mM_byteOf_45 v5 v0
set_option maxHeartbeats 4000000 in
theorem sM_byteOf (d : Nat) (hd : 0 ≤ d) (v0 : Int32) (v1 : Int32) (v2 : Int32) (v3 : Int32) (v4 : Int32) (v5 : Int32) (I : hI) (J : hJ) (q : Int32) (h : mM_byteOf v0 v1 v2 v3 v4 v5 = some q) : HMet hFT yX11_byteOf cX11_byteOf 7 (some .int) kdM d [.int v0, .int v1, .int v2, .int v3, .int v4, .int v5] (I, J, RMm) (some (.int q)) (I, J, RMm) := by
  refine HMet.of (by decide) (Nat.le_of_ble_eq_true rfl) ?_
  show AW hFT cX11_byteOf 7 (some .int) RX11 kdM d [(0, .int v0), (1, .int v1), (2, .int v2), (3, .int v3), (4, .int v4), (5, .int v5)] 0 [] (I, J, RMm) (some (.int q)) (I, J, RMm)
  unfold mM_byteOf at h
  refine a_iload dX11_byteOf_0 rfl ?_
  refine a_iconst dX11_byteOf_2 ic_4 ?_
  refine a_icmp_ge (tgt := 10) dX11_byteOf_3 (by decide) (fun c => ?_) (fun c => ?_)
  · replace h := h_iteT c h
    refine a_iload dX11_byteOf_10 rfl ?_
    refine a_bipush dX11_byteOf_12 bp_8 ?_
    refine a_icmp_ge (tgt := 21) dX11_byteOf_14 (by decide) (fun c => ?_) (fun c => ?_)
    · replace h := h_iteT c h
      refine a_iload dX11_byteOf_21 rfl ?_
      refine a_bipush dX11_byteOf_23 bp_12 ?_
      refine a_icmp_ge (tgt := 32) dX11_byteOf_25 (by decide) (fun c => ?_) (fun c => ?_)
      · replace h := h_iteT c h
        refine a_iload dX11_byteOf_32 rfl ?_
        refine a_bipush dX11_byteOf_34 bp_16 ?_
        refine a_icmp_ge (tgt := 43) dX11_byteOf_36 (by decide) (fun c => ?_) (fun c => ?_)
        · replace h := h_iteT c h
          refine a_iload dX11_byteOf_43 rfl ?_
          refine a_sub (lv' := [(5, .int v5)]) [5] rfl ?_
          exact sM_byteOf_45 d (by omega) v5 v4 I J _ h
        · replace h := h_iteF c h
          refine a_iload_n dX11_byteOf_39 rfl rfl ?_
          refine a_goto (tgt := 45) dX11_byteOf_40 (by decide) ?_
          refine a_sub (lv' := [(5, .int v5)]) [5] rfl ?_
          exact sM_byteOf_45 d (by omega) v5 v3 I J _ h
      · replace h := h_iteF c h
        refine a_iload_n dX11_byteOf_28 rfl rfl ?_
        refine a_goto (tgt := 45) dX11_byteOf_29 (by decide) ?_
        refine a_sub (lv' := [(5, .int v5)]) [5] rfl ?_
        exact sM_byteOf_45 d (by omega) v5 v2 I J _ h
    · replace h := h_iteF c h
      refine a_iload_n dX11_byteOf_17 rfl rfl ?_
      refine a_goto (tgt := 45) dX11_byteOf_18 (by decide) ?_
      refine a_sub (lv' := [(5, .int v5)]) [5] rfl ?_
      exact sM_byteOf_45 d (by omega) v5 v1 I J _ h
  · replace h := h_iteF c h
    refine a_iload_n dX11_byteOf_6 rfl rfl ?_
    refine a_goto (tgt := 45) dX11_byteOf_7 (by decide) ?_
    refine a_sub (lv' := [(5, .int v5)]) [5] rfl ?_
    exact sM_byteOf_45 d (by omega) v5 v0 I J _ h
/-! CoinLoopsModel.feed(IIIII)I -/
theorem dX11_feed_0 : decode cX11_feed 0 = .ok (.aload_n 0, 1) := by decide +kernel
theorem dX11_feed_1 : decode cX11_feed 1 = .ok (.iconst 0, 1) := by decide +kernel
theorem dX11_feed_2 : decode cX11_feed 2 = .ok (.putfield 156, 3) := by decide +kernel
theorem dX11_feed_5 : decode cX11_feed 5 = .ok (.iconst 0, 1) := by decide +kernel
theorem dX11_feed_6 : decode cX11_feed 6 = .ok (.istore 6, 2) := by decide +kernel
theorem dX11_feed_8 : decode cX11_feed 8 = .ok (.iconst 0, 1) := by decide +kernel
theorem dX11_feed_9 : decode cX11_feed 9 = .ok (.istore 7, 2) := by decide +kernel
theorem dX11_feed_11 : decode cX11_feed 11 = .ok (.iload 7, 2) := by decide +kernel
theorem dX11_feed_13 : decode cX11_feed 13 = .ok (.bipush 20, 2) := by decide +kernel
theorem dX11_feed_15 : decode cX11_feed 15 = .ok (.if_icmp .ge 34, 3) := by decide +kernel
theorem dX11_feed_18 : decode cX11_feed 18 = .ok (.iload 6, 2) := by decide +kernel
theorem dX11_feed_20 : decode cX11_feed 20 = .ok (.iload_n 1, 1) := by decide +kernel
theorem dX11_feed_21 : decode cX11_feed 21 = .ok (.iload_n 2, 1) := by decide +kernel
theorem dX11_feed_22 : decode cX11_feed 22 = .ok (.iload_n 3, 1) := by decide +kernel
theorem dX11_feed_23 : decode cX11_feed 23 = .ok (.iload 4, 2) := by decide +kernel
theorem dX11_feed_25 : decode cX11_feed 25 = .ok (.iload 5, 2) := by decide +kernel
theorem dX11_feed_27 : decode cX11_feed 27 = .ok (.iload 7, 2) := by decide +kernel
theorem dX11_feed_29 : decode cX11_feed 29 = .ok (.invokestatic 160, 3) := by decide +kernel
theorem dX11_feed_32 : decode cX11_feed 32 = .ok (.ifCond .eq 7, 3) := by decide +kernel
theorem dX11_feed_35 : decode cX11_feed 35 = .ok (.iconst 1, 1) := by decide +kernel
theorem dX11_feed_36 : decode cX11_feed 36 = .ok (.goto 4, 3) := by decide +kernel
theorem dX11_feed_39 : decode cX11_feed 39 = .ok (.iconst 0, 1) := by decide +kernel
theorem dX11_feed_40 : decode cX11_feed 40 = .ok (.iadd, 1) := by decide +kernel
theorem dX11_feed_41 : decode cX11_feed 41 = .ok (.istore 6, 2) := by decide +kernel
theorem dX11_feed_43 : decode cX11_feed 43 = .ok (.iinc 7 1, 3) := by decide +kernel
theorem dX11_feed_46 : decode cX11_feed 46 = .ok (.goto (-35), 3) := by decide +kernel
theorem dX11_feed_49 : decode cX11_feed 49 = .ok (.aload_n 0, 1) := by decide +kernel
theorem dX11_feed_50 : decode cX11_feed 50 = .ok (.getfield 164, 3) := by decide +kernel
theorem dX11_feed_53 : decode cX11_feed 53 = .ok (.iload 6, 2) := by decide +kernel
theorem dX11_feed_55 : decode cX11_feed 55 = .ok (.iadd, 1) := by decide +kernel
theorem dX11_feed_56 : decode cX11_feed 56 = .ok (.sipush 500, 3) := by decide +kernel
theorem dX11_feed_59 : decode cX11_feed 59 = .ok (.if_icmp .le 5, 3) := by decide +kernel
theorem dX11_feed_62 : decode cX11_feed 62 = .ok (.iconst (-1), 1) := by decide +kernel
theorem dX11_feed_63 : decode cX11_feed 63 = .ok (.ireturn, 1) := by decide +kernel
theorem dX11_feed_64 : decode cX11_feed 64 = .ok (.iconst 0, 1) := by decide +kernel
theorem dX11_feed_65 : decode cX11_feed 65 = .ok (.istore 7, 2) := by decide +kernel
theorem dX11_feed_67 : decode cX11_feed 67 = .ok (.iload 7, 2) := by decide +kernel
theorem dX11_feed_69 : decode cX11_feed 69 = .ok (.bipush 20, 2) := by decide +kernel
theorem dX11_feed_71 : decode cX11_feed 71 = .ok (.if_icmp .ge 49, 3) := by decide +kernel
theorem dX11_feed_74 : decode cX11_feed 74 = .ok (.iload_n 1, 1) := by decide +kernel
theorem dX11_feed_75 : decode cX11_feed 75 = .ok (.iload_n 2, 1) := by decide +kernel
theorem dX11_feed_76 : decode cX11_feed 76 = .ok (.iload_n 3, 1) := by decide +kernel
theorem dX11_feed_77 : decode cX11_feed 77 = .ok (.iload 4, 2) := by decide +kernel
theorem dX11_feed_79 : decode cX11_feed 79 = .ok (.iload 5, 2) := by decide +kernel
theorem dX11_feed_81 : decode cX11_feed 81 = .ok (.iload 7, 2) := by decide +kernel
theorem dX11_feed_83 : decode cX11_feed 83 = .ok (.invokestatic 160, 3) := by decide +kernel
theorem dX11_feed_86 : decode cX11_feed 86 = .ok (.istore 8, 2) := by decide +kernel
theorem dX11_feed_88 : decode cX11_feed 88 = .ok (.iload 8, 2) := by decide +kernel
theorem dX11_feed_90 : decode cX11_feed 90 = .ok (.ifCond .eq 24, 3) := by decide +kernel
theorem dX11_feed_93 : decode cX11_feed 93 = .ok (.aload_n 0, 1) := by decide +kernel
theorem dX11_feed_94 : decode cX11_feed 94 = .ok (.getfield 9, 3) := by decide +kernel
theorem dX11_feed_97 : decode cX11_feed 97 = .ok (.aload_n 0, 1) := by decide +kernel
theorem dX11_feed_98 : decode cX11_feed 98 = .ok (.getfield 164, 3) := by decide +kernel
theorem dX11_feed_101 : decode cX11_feed 101 = .ok (.iload 8, 2) := by decide +kernel
theorem dX11_feed_103 : decode cX11_feed 103 = .ok (.iastore, 1) := by decide +kernel
theorem dX11_feed_104 : decode cX11_feed 104 = .ok (.aload_n 0, 1) := by decide +kernel
theorem dX11_feed_105 : decode cX11_feed 105 = .ok (.dup, 1) := by decide +kernel
theorem dX11_feed_106 : decode cX11_feed 106 = .ok (.getfield 164, 3) := by decide +kernel
theorem dX11_feed_109 : decode cX11_feed 109 = .ok (.iconst 1, 1) := by decide +kernel
theorem dX11_feed_110 : decode cX11_feed 110 = .ok (.iadd, 1) := by decide +kernel
theorem dX11_feed_111 : decode cX11_feed 111 = .ok (.putfield 164, 3) := by decide +kernel
theorem dX11_feed_114 : decode cX11_feed 114 = .ok (.iinc 7 1, 3) := by decide +kernel
theorem dX11_feed_117 : decode cX11_feed 117 = .ok (.goto (-50), 3) := by decide +kernel
theorem dX11_feed_120 : decode cX11_feed 120 = .ok (.aload_n 0, 1) := by decide +kernel
theorem dX11_feed_121 : decode cX11_feed 121 = .ok (.getfield 164, 3) := by decide +kernel
theorem dX11_feed_124 : decode cX11_feed 124 = .ok (.ireturn, 1) := by decide +kernel
def mM_feed_B67 (k67 : Int32 → Int32 → Int32 → Int32 → Int32 → Int32 → hI → Option (Int32 × hI)) (v1 : Int32) (v2 : Int32) (v3 : Int32) (v4 : Int32) (v5 : Int32) (v7 : Int32) (I : hI) : Option (Int32 × hI) :=
  if (20 : Int32) ≤ v7 then
    some ((I 0 2), I)
  else
    ((mM_byteOf v1 v2 v3 v4 v5 v7).bind fun q1 =>
    if q1 = 0 then
      k67 v1 v2 v3 v4 v5 (v7 + (1 : Int32)) I
    else
      (h_g (h_in (I 0 2) 500) <|
      h_let (h_u I 1 (I 0 2).toNatClampNeg q1) fun I3 =>
      h_let (h_u I3 0 2 ((I3 0 2) + (1 : Int32))) fun I4 =>
      k67 v1 v2 v3 v4 v5 (v7 + (1 : Int32)) I4))
set_option maxHeartbeats 4000000 in
theorem sM_feed_B67 (d : Nat) (hd : 0 + 1 ≤ d) (k67 : Int32 → Int32 → Int32 → Int32 → Int32 → Int32 → hI → Option (Int32 × hI)) (hk67 : ∀ (v1 : Int32) (v2 : Int32) (v3 : Int32) (v4 : Int32) (v5 : Int32) (v7 : Int32) (I : hI) (J : hJ) (q : Int32 × hI), k67 v1 v2 v3 v4 v5 v7 I = some q → AW hFT cX11_feed 9 (some .int) RX11 kdM d [(0, .ref 0), (1, .int v1), (2, .int v2), (3, .int v3), (4, .int v4), (5, .int v5), (7, .int v7)] 67 [] (I, J, RMm) (some (.int q.1)) (q.2, J, RMm)) (v1 : Int32) (v2 : Int32) (v3 : Int32) (v4 : Int32) (v5 : Int32) (v7 : Int32) (I : hI) (J : hJ) (q : Int32 × hI) (h : mM_feed_B67 k67 v1 v2 v3 v4 v5 v7 I = some q) : AW hFT cX11_feed 9 (some .int) RX11 kdM d [(0, .ref 0), (1, .int v1), (2, .int v2), (3, .int v3), (4, .int v4), (5, .int v5), (7, .int v7)] 67 [] (I, J, RMm) (some (.int q.1)) (q.2, J, RMm) := by
  obtain ⟨d0, rfl, hd0⟩ := h_mono hd
  unfold mM_feed_B67 at h
  refine a_iload dX11_feed_67 rfl ?_
  refine a_bipush dX11_feed_69 bp_20 ?_
  refine a_icmp_ge (tgt := 120) dX11_feed_71 (by decide) (fun c => ?_) (fun c => ?_)
  · replace h := h_iteT c h
    refine a_aload_n dX11_feed_120 rfl rfl ?_
    refine b_getI hK_11 km_0 (i := 2) rfl fl_11_164 rfl dX11_feed_121 ?_
    cases h
    exact a_iret dX11_feed_124
  · replace h := h_iteF c h
    refine a_iload_n dX11_feed_74 rfl rfl ?_
    refine a_iload_n dX11_feed_75 rfl rfl ?_
    refine a_iload_n dX11_feed_76 rfl rfl ?_
    refine a_iload dX11_feed_77 rfl ?_
    refine a_iload dX11_feed_79 rfl ?_
    refine a_iload dX11_feed_81 rfl ?_
    obtain ⟨q1, cq1, h⟩ := h_bindS h
    refine a_callS1 [] yy_X11_byteOf ml_11_160 (sM_byteOf _ (by omega) v1 v2 v3 v4 v5 v7 I J q1 cq1) rfl rfl (Nat.le_of_ble_eq_true rfl) dX11_feed_83 ?_
    refine a_istore (lv' := [(8, .int q1), (0, .ref 0), (1, .int v1), (2, .int v2), (3, .int v3), (4, .int v4), (5, .int v5), (7, .int v7)]) dX11_feed_86 (by decide) rfl ?_
    refine a_iload dX11_feed_88 rfl ?_
    refine a_if_eq (tgt := 114) dX11_feed_90 (by decide) (fun c => ?_) (fun c => ?_)
    · replace h := h_iteT c h
      refine b_iinc (lv' := [(7, .int (v7 + (1 : Int32))), (8, .int q1), (0, .ref 0), (1, .int v1), (2, .int v2), (3, .int v3), (4, .int v4), (5, .int v5)]) dX11_feed_114 rfl ic_1 (by decide) rfl ?_
      refine a_goto (tgt := 67) dX11_feed_117 (by decide) ?_
      refine a_sub (lv' := [(0, .ref 0), (1, .int v1), (2, .int v2), (3, .int v3), (4, .int v4), (5, .int v5), (7, .int (v7 + (1 : Int32)))]) [2, 3, 4, 5, 6, 7, 0] rfl ?_
      exact hk67 v1 v2 v3 v4 v5 (v7 + (1 : Int32)) I J _ h
    · replace h := h_iteF c h
      refine a_aload_n dX11_feed_93 rfl rfl ?_
      refine b_getR hK_11 km_0 (i := 1) rfl fl_11_9 rfl rmm_1 dX11_feed_94 ?_
      refine a_aload_n dX11_feed_97 rfl rfl ?_
      refine b_getI hK_11 km_0 (i := 2) rfl fl_11_164 rfl dX11_feed_98 ?_
      refine a_iload dX11_feed_101 rfl ?_
      obtain ⟨g2, h⟩ := h_gS h
      refine b_iastore km_1 (h_inV g2) dX11_feed_103 ?_
      obtain ⟨I3, eI3, h⟩ := h_letS h
      refine a_memI eI3 ?_
      refine a_aload_n dX11_feed_104 rfl rfl ?_
      refine a_dup dX11_feed_105 rfl ?_
      refine b_getI hK_11 km_0 (i := 2) rfl fl_11_164 rfl dX11_feed_106 ?_
      refine a_iconst dX11_feed_109 ic_1 ?_
      refine a_iadd dX11_feed_110 ?_
      refine b_putI hK_11 km_0 (i := 2) rfl fl_11_164 rfl rfl (h_NI _) dX11_feed_111 ?_
      obtain ⟨I4, eI4, h⟩ := h_letS h
      refine a_memI eI4 ?_
      refine b_iinc (lv' := [(7, .int (v7 + (1 : Int32))), (8, .int q1), (0, .ref 0), (1, .int v1), (2, .int v2), (3, .int v3), (4, .int v4), (5, .int v5)]) dX11_feed_114 rfl ic_1 (by decide) rfl ?_
      refine a_goto (tgt := 67) dX11_feed_117 (by decide) ?_
      refine a_sub (lv' := [(0, .ref 0), (1, .int v1), (2, .int v2), (3, .int v3), (4, .int v4), (5, .int v5), (7, .int (v7 + (1 : Int32)))]) [2, 3, 4, 5, 6, 7, 0] rfl ?_
      exact hk67 v1 v2 v3 v4 v5 (v7 + (1 : Int32)) I4 J _ h
def mM_feed_L67  : Nat → Int32 → Int32 → Int32 → Int32 → Int32 → Int32 → hI → Option (Int32 × hI)
  | 0 => fun _ _ _ _ _ _ _ => none
  | n + 1 => mM_feed_B67 (mM_feed_L67 n)
theorem sM_feed_L67 (d : Nat) (hd : 0 + 1 ≤ d) : ∀ (n : Nat) (v1 : Int32) (v2 : Int32) (v3 : Int32) (v4 : Int32) (v5 : Int32) (v7 : Int32) (I : hI) (J : hJ) (q : Int32 × hI) (h : mM_feed_L67 n v1 v2 v3 v4 v5 v7 I = some q), AW hFT cX11_feed 9 (some .int) RX11 kdM d [(0, .ref 0), (1, .int v1), (2, .int v2), (3, .int v3), (4, .int v4), (5, .int v5), (7, .int v7)] 67 [] (I, J, RMm) (some (.int q.1)) (q.2, J, RMm)
  | 0, _, _, _, _, _, _, _, _, q, h => by cases h
  | n + 1, v1, v2, v3, v4, v5, v7, I, J, q, h => sM_feed_B67 d hd (mM_feed_L67 n) (sM_feed_L67 d hd n) v1 v2 v3 v4 v5 v7 I J q h
def mM_feed_B11 (k11 : Int32 → Int32 → Int32 → Int32 → Int32 → Int32 → Int32 → hI → Option (Int32 × hI)) (v1 : Int32) (v2 : Int32) (v3 : Int32) (v4 : Int32) (v5 : Int32) (v6 : Int32) (v7 : Int32) (I : hI) : Option (Int32 × hI) :=
  if (20 : Int32) ≤ v7 then
    (if ((I 0 2) + v6) ≤ (500 : Int32) then
      mM_feed_L67 hF v1 v2 v3 v4 v5 (0 : Int32) I
    else
      some ((-1 : Int32), I))
  else
    ((mM_byteOf v1 v2 v3 v4 v5 v7).bind fun q1 =>
    if q1 = 0 then
      (h_let (v6 + (0 : Int32)) fun v6x1 =>
      k11 v1 v2 v3 v4 v5 v6x1 (v7 + (1 : Int32)) I)
    else
      (h_let (v6 + (1 : Int32)) fun v6x1 =>
      k11 v1 v2 v3 v4 v5 v6x1 (v7 + (1 : Int32)) I))
set_option maxHeartbeats 4000000 in
theorem sM_feed_B11 (d : Nat) (hd : 0 + 1 ≤ d) (k11 : Int32 → Int32 → Int32 → Int32 → Int32 → Int32 → Int32 → hI → Option (Int32 × hI)) (hk11 : ∀ (v1 : Int32) (v2 : Int32) (v3 : Int32) (v4 : Int32) (v5 : Int32) (v6 : Int32) (v7 : Int32) (I : hI) (J : hJ) (q : Int32 × hI), k11 v1 v2 v3 v4 v5 v6 v7 I = some q → AW hFT cX11_feed 9 (some .int) RX11 kdM d [(0, .ref 0), (1, .int v1), (2, .int v2), (3, .int v3), (4, .int v4), (5, .int v5), (6, .int v6), (7, .int v7)] 11 [] (I, J, RMm) (some (.int q.1)) (q.2, J, RMm)) (v1 : Int32) (v2 : Int32) (v3 : Int32) (v4 : Int32) (v5 : Int32) (v6 : Int32) (v7 : Int32) (I : hI) (J : hJ) (q : Int32 × hI) (h : mM_feed_B11 k11 v1 v2 v3 v4 v5 v6 v7 I = some q) : AW hFT cX11_feed 9 (some .int) RX11 kdM d [(0, .ref 0), (1, .int v1), (2, .int v2), (3, .int v3), (4, .int v4), (5, .int v5), (6, .int v6), (7, .int v7)] 11 [] (I, J, RMm) (some (.int q.1)) (q.2, J, RMm) := by
  obtain ⟨d0, rfl, hd0⟩ := h_mono hd
  unfold mM_feed_B11 at h
  refine a_iload dX11_feed_11 rfl ?_
  refine a_bipush dX11_feed_13 bp_20 ?_
  refine a_icmp_ge (tgt := 49) dX11_feed_15 (by decide) (fun c => ?_) (fun c => ?_)
  · replace h := h_iteT c h
    refine a_aload_n dX11_feed_49 rfl rfl ?_
    refine b_getI hK_11 km_0 (i := 2) rfl fl_11_164 rfl dX11_feed_50 ?_
    refine a_iload dX11_feed_53 rfl ?_
    refine a_iadd dX11_feed_55 ?_
    refine a_sipush dX11_feed_56 sq_500 ?_
    refine a_icmp_le (tgt := 64) dX11_feed_59 (by decide) (fun c => ?_) (fun c => ?_)
    · replace h := h_iteT c h
      refine a_iconst dX11_feed_64 ic_0 ?_
      refine a_istore (lv' := [(7, .int (0 : Int32)), (0, .ref 0), (1, .int v1), (2, .int v2), (3, .int v3), (4, .int v4), (5, .int v5), (6, .int v6)]) dX11_feed_65 (by decide) rfl ?_
      refine a_sub (lv' := [(0, .ref 0), (1, .int v1), (2, .int v2), (3, .int v3), (4, .int v4), (5, .int v5), (7, .int (0 : Int32))]) [1, 2, 3, 4, 5, 6, 0] rfl ?_
      exact sM_feed_L67 (d0 + 1) (by omega) hF v1 v2 v3 v4 v5 (0 : Int32) I J _ h
    · replace h := h_iteF c h
      refine a_iconst dX11_feed_62 ic_m1 ?_
      cases h
      exact a_iret dX11_feed_63
  · replace h := h_iteF c h
    refine a_iload dX11_feed_18 rfl ?_
    refine a_iload_n dX11_feed_20 rfl rfl ?_
    refine a_iload_n dX11_feed_21 rfl rfl ?_
    refine a_iload_n dX11_feed_22 rfl rfl ?_
    refine a_iload dX11_feed_23 rfl ?_
    refine a_iload dX11_feed_25 rfl ?_
    refine a_iload dX11_feed_27 rfl ?_
    obtain ⟨q1, cq1, h⟩ := h_bindS h
    refine a_callS1 [.int v6] yy_X11_byteOf ml_11_160 (sM_byteOf _ (by omega) v1 v2 v3 v4 v5 v7 I J q1 cq1) rfl rfl (Nat.le_of_ble_eq_true rfl) dX11_feed_29 ?_
    refine a_if_eq (tgt := 39) dX11_feed_32 (by decide) (fun c => ?_) (fun c => ?_)
    · replace h := h_iteT c h
      refine a_iconst dX11_feed_39 ic_0 ?_
      refine a_iadd dX11_feed_40 ?_
      obtain ⟨v6x1, ev6x1, h⟩ := h_letS h
      refine a_topI ev6x1 ?_
      refine a_istore (lv' := [(6, .int v6x1), (0, .ref 0), (1, .int v1), (2, .int v2), (3, .int v3), (4, .int v4), (5, .int v5), (7, .int v7)]) dX11_feed_41 (by decide) rfl ?_
      refine b_iinc (lv' := [(7, .int (v7 + (1 : Int32))), (6, .int v6x1), (0, .ref 0), (1, .int v1), (2, .int v2), (3, .int v3), (4, .int v4), (5, .int v5)]) dX11_feed_43 rfl ic_1 (by decide) rfl ?_
      refine a_goto (tgt := 11) dX11_feed_46 (by decide) ?_
      refine a_sub (lv' := [(0, .ref 0), (1, .int v1), (2, .int v2), (3, .int v3), (4, .int v4), (5, .int v5), (6, .int v6x1), (7, .int (v7 + (1 : Int32)))]) [2, 3, 4, 5, 6, 7, 1, 0] rfl ?_
      exact hk11 v1 v2 v3 v4 v5 v6x1 (v7 + (1 : Int32)) I J _ h
    · replace h := h_iteF c h
      refine a_iconst dX11_feed_35 ic_1 ?_
      refine a_goto (tgt := 40) dX11_feed_36 (by decide) ?_
      refine a_iadd dX11_feed_40 ?_
      obtain ⟨v6x1, ev6x1, h⟩ := h_letS h
      refine a_topI ev6x1 ?_
      refine a_istore (lv' := [(6, .int v6x1), (0, .ref 0), (1, .int v1), (2, .int v2), (3, .int v3), (4, .int v4), (5, .int v5), (7, .int v7)]) dX11_feed_41 (by decide) rfl ?_
      refine b_iinc (lv' := [(7, .int (v7 + (1 : Int32))), (6, .int v6x1), (0, .ref 0), (1, .int v1), (2, .int v2), (3, .int v3), (4, .int v4), (5, .int v5)]) dX11_feed_43 rfl ic_1 (by decide) rfl ?_
      refine a_goto (tgt := 11) dX11_feed_46 (by decide) ?_
      refine a_sub (lv' := [(0, .ref 0), (1, .int v1), (2, .int v2), (3, .int v3), (4, .int v4), (5, .int v5), (6, .int v6x1), (7, .int (v7 + (1 : Int32)))]) [2, 3, 4, 5, 6, 7, 1, 0] rfl ?_
      exact hk11 v1 v2 v3 v4 v5 v6x1 (v7 + (1 : Int32)) I J _ h
def mM_feed_L11  : Nat → Int32 → Int32 → Int32 → Int32 → Int32 → Int32 → Int32 → hI → Option (Int32 × hI)
  | 0 => fun _ _ _ _ _ _ _ _ => none
  | n + 1 => mM_feed_B11 (mM_feed_L11 n)
theorem sM_feed_L11 (d : Nat) (hd : 0 + 1 ≤ d) : ∀ (n : Nat) (v1 : Int32) (v2 : Int32) (v3 : Int32) (v4 : Int32) (v5 : Int32) (v6 : Int32) (v7 : Int32) (I : hI) (J : hJ) (q : Int32 × hI) (h : mM_feed_L11 n v1 v2 v3 v4 v5 v6 v7 I = some q), AW hFT cX11_feed 9 (some .int) RX11 kdM d [(0, .ref 0), (1, .int v1), (2, .int v2), (3, .int v3), (4, .int v4), (5, .int v5), (6, .int v6), (7, .int v7)] 11 [] (I, J, RMm) (some (.int q.1)) (q.2, J, RMm)
  | 0, _, _, _, _, _, _, _, _, _, q, h => by cases h
  | n + 1, v1, v2, v3, v4, v5, v6, v7, I, J, q, h => sM_feed_B11 d hd (mM_feed_L11 n) (sM_feed_L11 d hd n) v1 v2 v3 v4 v5 v6 v7 I J q h
def mM_feed  (v1 : Int32) (v2 : Int32) (v3 : Int32) (v4 : Int32) (v5 : Int32) (I : hI) : Option (Int32 × hI) :=
  h_let (h_u I 0 0 (0 : Int32)) fun I1 =>
  mM_feed_L11 hF v1 v2 v3 v4 v5 (0 : Int32) (0 : Int32) I1
set_option maxHeartbeats 4000000 in
theorem sM_feed (d : Nat) (hd : 0 + 1 ≤ d) (v1 : Int32) (v2 : Int32) (v3 : Int32) (v4 : Int32) (v5 : Int32) (I : hI) (J : hJ) (q : Int32 × hI) (h : mM_feed v1 v2 v3 v4 v5 I = some q) : HMet hFT yX11_feed cX11_feed 9 (some .int) kdM d [.ref 0, .int v1, .int v2, .int v3, .int v4, .int v5] (I, J, RMm) (some (.int q.1)) (q.2, J, RMm) := by
  obtain ⟨d0, rfl, hd0⟩ := h_mono hd
  refine HMet.of (by decide) (Nat.le_of_ble_eq_true rfl) ?_
  show AW hFT cX11_feed 9 (some .int) RX11 kdM (d0 + 1) [(0, .ref 0), (1, .int v1), (2, .int v2), (3, .int v3), (4, .int v4), (5, .int v5)] 0 [] (I, J, RMm) (some (.int q.1)) (q.2, J, RMm)
  unfold mM_feed at h
  refine a_aload_n dX11_feed_0 rfl rfl ?_
  refine a_iconst dX11_feed_1 ic_0 ?_
  refine b_putI hK_11 km_0 (i := 0) rfl fl_11_156 rfl rfl (h_NI _) dX11_feed_2 ?_
  obtain ⟨I1, eI1, h⟩ := h_letS h
  refine a_memI eI1 ?_
  refine a_iconst dX11_feed_5 ic_0 ?_
  refine a_istore (lv' := [(6, .int (0 : Int32)), (0, .ref 0), (1, .int v1), (2, .int v2), (3, .int v3), (4, .int v4), (5, .int v5)]) dX11_feed_6 (by decide) rfl ?_
  refine a_iconst dX11_feed_8 ic_0 ?_
  refine a_istore (lv' := [(7, .int (0 : Int32)), (6, .int (0 : Int32)), (0, .ref 0), (1, .int v1), (2, .int v2), (3, .int v3), (4, .int v4), (5, .int v5)]) dX11_feed_9 (by decide) rfl ?_
  refine a_sub (lv' := [(0, .ref 0), (1, .int v1), (2, .int v2), (3, .int v3), (4, .int v4), (5, .int v5), (6, .int (0 : Int32)), (7, .int (0 : Int32))]) [2, 3, 4, 5, 6, 7, 1, 0] rfl ?_
  exact sM_feed_L11 (d0 + 1) (by omega) hF v1 v2 v3 v4 v5 (0 : Int32) (0 : Int32) I1 J _ h
/-! CoinLoopsModel.end(I)Z -/
theorem dX11_end_0 : decode cX11_end 0 = .ok (.aload_n 0, 1) := by decide +kernel
theorem dX11_end_1 : decode cX11_end 1 = .ok (.iconst 0, 1) := by decide +kernel
theorem dX11_end_2 : decode cX11_end 2 = .ok (.putfield 156, 3) := by decide +kernel
theorem dX11_end_5 : decode cX11_end 5 = .ok (.iload_n 1, 1) := by decide +kernel
theorem dX11_end_6 : decode cX11_end 6 = .ok (.i2l, 1) := by decide +kernel
theorem dX11_end_7 : decode cX11_end 7 = .ok (.lconst 0, 1) := by decide +kernel
theorem dX11_end_8 : decode cX11_end 8 = .ok (.aload_n 0, 1) := by decide +kernel
theorem dX11_end_9 : decode cX11_end 9 = .ok (.getfield 164, 3) := by decide +kernel
theorem dX11_end_12 : decode cX11_end 12 = .ok (.i2l, 1) := by decide +kernel
theorem dX11_end_13 : decode cX11_end 13 = .ok (.invokestatic 167, 3) := by decide +kernel
theorem dX11_end_16 : decode cX11_end 16 = .ok (.ifCond .ne 5, 3) := by decide +kernel
theorem dX11_end_19 : decode cX11_end 19 = .ok (.iconst 0, 1) := by decide +kernel
theorem dX11_end_20 : decode cX11_end 20 = .ok (.ireturn, 1) := by decide +kernel
theorem dX11_end_21 : decode cX11_end 21 = .ok (.aload_n 0, 1) := by decide +kernel
theorem dX11_end_22 : decode cX11_end 22 = .ok (.iload_n 1, 1) := by decide +kernel
theorem dX11_end_23 : decode cX11_end 23 = .ok (.putfield 164, 3) := by decide +kernel
theorem dX11_end_26 : decode cX11_end 26 = .ok (.iconst 1, 1) := by decide +kernel
theorem dX11_end_27 : decode cX11_end 27 = .ok (.ireturn, 1) := by decide +kernel
def mM_end  (v1 : Int32) (I : hI) : Int32 × hI :=
  h_let (h_u I 0 0 (0 : Int32)) fun I1 =>
  if (mM_in v1.toInt64 (0 : Int64) ((I1 0 2).toInt64)) = 0 then
    ((0 : Int32), I1)
  else
    (h_let (h_u I1 0 2 v1) fun I2 =>
    ((1 : Int32), I2))
set_option maxHeartbeats 4000000 in
theorem sM_end (d : Nat) (hd : 0 + 1 ≤ d) (v1 : Int32) (I : hI) (J : hJ) (q : Int32 × hI) (h : mM_end v1 I = q) : HMet hFT yX11_end cX11_end 2 (some .boolean) kdM d [.ref 0, .int v1] (I, J, RMm) (some (.int q.1)) (q.2, J, RMm) := by
  obtain ⟨d0, rfl, hd0⟩ := h_mono hd
  refine HMet.of (by decide) (Nat.le_of_ble_eq_true rfl) ?_
  show AW hFT cX11_end 2 (some .boolean) RX11 kdM (d0 + 1) [(0, .ref 0), (1, .int v1)] 0 [] (I, J, RMm) (some (.int q.1)) (q.2, J, RMm)
  unfold mM_end at h
  refine a_aload_n dX11_end_0 rfl rfl ?_
  refine a_iconst dX11_end_1 ic_0 ?_
  refine b_putI hK_11 km_0 (i := 0) rfl fl_11_156 rfl rfl (h_NI _) dX11_end_2 ?_
  obtain ⟨I1, eI1, h⟩ := h_letS h
  refine a_memI eI1 ?_
  refine a_iload_n dX11_end_5 rfl rfl ?_
  refine a_i2l dX11_end_6 ?_
  refine a_lconst dX11_end_7 lc_0 ?_
  refine a_aload_n dX11_end_8 rfl rfl ?_
  refine b_getI hK_11 km_0 (i := 2) rfl fl_11_164 rfl dX11_end_9 ?_
  refine a_i2l dX11_end_12 ?_
  refine a_callS1 [] yy_X11_in ml_11_167 (sM_in _ (by omega) v1.toInt64 (0 : Int64) ((I1 0 2).toInt64) I1 J _ rfl) rfl rfl (Nat.le_of_ble_eq_true rfl) dX11_end_13 ?_
  refine a_if_ne (tgt := 21) dX11_end_16 (by decide) (fun c => ?_) (fun c => ?_)
  · replace h := h_iteF c h
    refine a_aload_n dX11_end_21 rfl rfl ?_
    refine a_iload_n dX11_end_22 rfl rfl ?_
    refine b_putI hK_11 km_0 (i := 2) rfl fl_11_164 rfl rfl (h_NI _) dX11_end_23 ?_
    obtain ⟨I2, eI2, h⟩ := h_letS h
    refine a_memI eI2 ?_
    refine a_iconst dX11_end_26 ic_1 ?_
    cases h
    exact a_zret (h_Z1.1) dX11_end_27
  · replace h := h_iteT c h
    refine a_iconst dX11_end_19 ic_0 ?_
    cases h
    exact a_zret (h_Z0.1) dX11_end_20
/-! CoinLoopsModel.here()I -/
theorem dX11_here_0 : decode cX11_here 0 = .ok (.aload_n 0, 1) := by decide +kernel
theorem dX11_here_1 : decode cX11_here 1 = .ok (.getfield 171, 3) := by decide +kernel
theorem dX11_here_4 : decode cX11_here 4 = .ok (.aload_n 0, 1) := by decide +kernel
theorem dX11_here_5 : decode cX11_here 5 = .ok (.getfield 164, 3) := by decide +kernel
theorem dX11_here_8 : decode cX11_here 8 = .ok (.if_icmp .ge 15, 3) := by decide +kernel
theorem dX11_here_11 : decode cX11_here 11 = .ok (.aload_n 0, 1) := by decide +kernel
theorem dX11_here_12 : decode cX11_here 12 = .ok (.getfield 9, 3) := by decide +kernel
theorem dX11_here_15 : decode cX11_here 15 = .ok (.aload_n 0, 1) := by decide +kernel
theorem dX11_here_16 : decode cX11_here 16 = .ok (.getfield 171, 3) := by decide +kernel
theorem dX11_here_19 : decode cX11_here 19 = .ok (.iaload, 1) := by decide +kernel
theorem dX11_here_20 : decode cX11_here 20 = .ok (.goto 4, 3) := by decide +kernel
theorem dX11_here_23 : decode cX11_here 23 = .ok (.iconst (-1), 1) := by decide +kernel
theorem dX11_here_24 : decode cX11_here 24 = .ok (.ireturn, 1) := by decide +kernel
def mM_here   (I : hI) : Option (Int32) :=
  if (I 0 2) ≤ (I 0 3) then
    some (-1 : Int32)
  else
    (h_g (h_in (I 0 3) 500) <|
    some (I 1 (I 0 3).toNatClampNeg))
set_option maxHeartbeats 4000000 in
theorem sM_here (d : Nat) (hd : 0 ≤ d)  (I : hI) (J : hJ) (q : Int32) (h : mM_here I = some q) : HMet hFT yX11_here cX11_here 1 (some .int) kdM d [.ref 0] (I, J, RMm) (some (.int q)) (I, J, RMm) := by
  refine HMet.of (by decide) (Nat.le_of_ble_eq_true rfl) ?_
  show AW hFT cX11_here 1 (some .int) RX11 kdM d [(0, .ref 0)] 0 [] (I, J, RMm) (some (.int q)) (I, J, RMm)
  unfold mM_here at h
  refine a_aload_n dX11_here_0 rfl rfl ?_
  refine b_getI hK_11 km_0 (i := 3) rfl fl_11_171 rfl dX11_here_1 ?_
  refine a_aload_n dX11_here_4 rfl rfl ?_
  refine b_getI hK_11 km_0 (i := 2) rfl fl_11_164 rfl dX11_here_5 ?_
  refine a_icmp_ge (tgt := 23) dX11_here_8 (by decide) (fun c => ?_) (fun c => ?_)
  · replace h := h_iteT c h
    refine a_iconst dX11_here_23 ic_m1 ?_
    cases h
    exact a_iret dX11_here_24
  · replace h := h_iteF c h
    refine a_aload_n dX11_here_11 rfl rfl ?_
    refine b_getR hK_11 km_0 (i := 1) rfl fl_11_9 rfl rmm_1 dX11_here_12 ?_
    refine a_aload_n dX11_here_15 rfl rfl ?_
    refine b_getI hK_11 km_0 (i := 3) rfl fl_11_171 rfl dX11_here_16 ?_
    obtain ⟨g1, h⟩ := h_gS h
    refine b_iaload km_1 (h_inV g1) dX11_here_19 ?_
    refine a_goto (tgt := 24) dX11_here_20 (by decide) ?_
    cases h
    exact a_iret dX11_here_24
/-! CoinLoopsModel.isSmall(I)Z -/
theorem dX11_isSmall_0 : decode cX11_isSmall 0 = .ok (.iload_n 0, 1) := by decide +kernel
theorem dX11_isSmall_1 : decode cX11_isSmall 1 = .ok (.bipush 97, 2) := by decide +kernel
theorem dX11_isSmall_3 : decode cX11_isSmall 3 = .ok (.if_icmp .lt 13, 3) := by decide +kernel
theorem dX11_isSmall_6 : decode cX11_isSmall 6 = .ok (.iload_n 0, 1) := by decide +kernel
theorem dX11_isSmall_7 : decode cX11_isSmall 7 = .ok (.bipush 122, 2) := by decide +kernel
theorem dX11_isSmall_9 : decode cX11_isSmall 9 = .ok (.if_icmp .gt 7, 3) := by decide +kernel
theorem dX11_isSmall_12 : decode cX11_isSmall 12 = .ok (.iconst 1, 1) := by decide +kernel
theorem dX11_isSmall_13 : decode cX11_isSmall 13 = .ok (.goto 4, 3) := by decide +kernel
theorem dX11_isSmall_16 : decode cX11_isSmall 16 = .ok (.iconst 0, 1) := by decide +kernel
theorem dX11_isSmall_17 : decode cX11_isSmall 17 = .ok (.ireturn, 1) := by decide +kernel
def mM_isSmall  (v0 : Int32)  : Int32 :=
  if v0 < (97 : Int32) then
    (0 : Int32)
  else
    (if (122 : Int32) < v0 then
      (0 : Int32)
    else
      (1 : Int32))
set_option maxHeartbeats 4000000 in
theorem sM_isSmall (d : Nat) (hd : 0 ≤ d) (v0 : Int32) (I : hI) (J : hJ) (q : Int32) (h : mM_isSmall v0 = q) : HMet hFT yX11_isSmall cX11_isSmall 1 (some .boolean) kdM d [.int v0] (I, J, RMm) (some (.int q)) (I, J, RMm) := by
  refine HMet.of (by decide) (Nat.le_of_ble_eq_true rfl) ?_
  show AW hFT cX11_isSmall 1 (some .boolean) RX11 kdM d [(0, .int v0)] 0 [] (I, J, RMm) (some (.int q)) (I, J, RMm)
  unfold mM_isSmall at h
  refine a_iload_n dX11_isSmall_0 rfl rfl ?_
  refine a_bipush dX11_isSmall_1 bp_97 ?_
  refine a_icmp_lt (tgt := 16) dX11_isSmall_3 (by decide) (fun c => ?_) (fun c => ?_)
  · replace h := h_iteT c h
    refine a_iconst dX11_isSmall_16 ic_0 ?_
    cases h
    exact a_zret (h_Z0.1) dX11_isSmall_17
  · replace h := h_iteF c h
    refine a_iload_n dX11_isSmall_6 rfl rfl ?_
    refine a_bipush dX11_isSmall_7 bp_122 ?_
    refine a_icmp_gt (tgt := 16) dX11_isSmall_9 (by decide) (fun c => ?_) (fun c => ?_)
    · replace h := h_iteT c h
      refine a_iconst dX11_isSmall_16 ic_0 ?_
      cases h
      exact a_zret (h_Z0.1) dX11_isSmall_17
    · replace h := h_iteF c h
      refine a_iconst dX11_isSmall_12 ic_1 ?_
      refine a_goto (tgt := 17) dX11_isSmall_13 (by decide) ?_
      cases h
      exact a_zret (h_Z1.1) dX11_isSmall_17
/-! CoinLoopsModel.isDigit(I)Z -/
theorem dX11_isDigit_0 : decode cX11_isDigit 0 = .ok (.iload_n 0, 1) := by decide +kernel
theorem dX11_isDigit_1 : decode cX11_isDigit 1 = .ok (.bipush 48, 2) := by decide +kernel
theorem dX11_isDigit_3 : decode cX11_isDigit 3 = .ok (.if_icmp .lt 13, 3) := by decide +kernel
theorem dX11_isDigit_6 : decode cX11_isDigit 6 = .ok (.iload_n 0, 1) := by decide +kernel
theorem dX11_isDigit_7 : decode cX11_isDigit 7 = .ok (.bipush 57, 2) := by decide +kernel
theorem dX11_isDigit_9 : decode cX11_isDigit 9 = .ok (.if_icmp .gt 7, 3) := by decide +kernel
theorem dX11_isDigit_12 : decode cX11_isDigit 12 = .ok (.iconst 1, 1) := by decide +kernel
theorem dX11_isDigit_13 : decode cX11_isDigit 13 = .ok (.goto 4, 3) := by decide +kernel
theorem dX11_isDigit_16 : decode cX11_isDigit 16 = .ok (.iconst 0, 1) := by decide +kernel
theorem dX11_isDigit_17 : decode cX11_isDigit 17 = .ok (.ireturn, 1) := by decide +kernel
def mM_isDigit  (v0 : Int32)  : Int32 :=
  if v0 < (48 : Int32) then
    (0 : Int32)
  else
    (if (57 : Int32) < v0 then
      (0 : Int32)
    else
      (1 : Int32))
set_option maxHeartbeats 4000000 in
theorem sM_isDigit (d : Nat) (hd : 0 ≤ d) (v0 : Int32) (I : hI) (J : hJ) (q : Int32) (h : mM_isDigit v0 = q) : HMet hFT yX11_isDigit cX11_isDigit 1 (some .boolean) kdM d [.int v0] (I, J, RMm) (some (.int q)) (I, J, RMm) := by
  refine HMet.of (by decide) (Nat.le_of_ble_eq_true rfl) ?_
  show AW hFT cX11_isDigit 1 (some .boolean) RX11 kdM d [(0, .int v0)] 0 [] (I, J, RMm) (some (.int q)) (I, J, RMm)
  unfold mM_isDigit at h
  refine a_iload_n dX11_isDigit_0 rfl rfl ?_
  refine a_bipush dX11_isDigit_1 bp_48 ?_
  refine a_icmp_lt (tgt := 16) dX11_isDigit_3 (by decide) (fun c => ?_) (fun c => ?_)
  · replace h := h_iteT c h
    refine a_iconst dX11_isDigit_16 ic_0 ?_
    cases h
    exact a_zret (h_Z0.1) dX11_isDigit_17
  · replace h := h_iteF c h
    refine a_iload_n dX11_isDigit_6 rfl rfl ?_
    refine a_bipush dX11_isDigit_7 bp_57 ?_
    refine a_icmp_gt (tgt := 16) dX11_isDigit_9 (by decide) (fun c => ?_) (fun c => ?_)
    · replace h := h_iteT c h
      refine a_iconst dX11_isDigit_16 ic_0 ?_
      cases h
      exact a_zret (h_Z0.1) dX11_isDigit_17
    · replace h := h_iteF c h
      refine a_iconst dX11_isDigit_12 ic_1 ?_
      refine a_goto (tgt := 17) dX11_isDigit_13 (by decide) ?_
      cases h
      exact a_zret (h_Z1.1) dX11_isDigit_17
/-! CoinLoopsModel.next()V -/
theorem dX11_next_0 : decode cX11_next 0 = .ok (.aload_n 0, 1) := by decide +kernel
theorem dX11_next_1 : decode cX11_next 1 = .ok (.invokevirtual 174, 3) := by decide +kernel
theorem dX11_next_4 : decode cX11_next 4 = .ok (.bipush 32, 2) := by decide +kernel
theorem dX11_next_6 : decode cX11_next 6 = .ok (.if_icmp .ne 16, 3) := by decide +kernel
theorem dX11_next_9 : decode cX11_next 9 = .ok (.aload_n 0, 1) := by decide +kernel
theorem dX11_next_10 : decode cX11_next 10 = .ok (.dup, 1) := by decide +kernel
theorem dX11_next_11 : decode cX11_next 11 = .ok (.getfield 171, 3) := by decide +kernel
theorem dX11_next_14 : decode cX11_next 14 = .ok (.iconst 1, 1) := by decide +kernel
theorem dX11_next_15 : decode cX11_next 15 = .ok (.iadd, 1) := by decide +kernel
theorem dX11_next_16 : decode cX11_next 16 = .ok (.putfield 171, 3) := by decide +kernel
theorem dX11_next_19 : decode cX11_next 19 = .ok (.goto (-19), 3) := by decide +kernel
theorem dX11_next_22 : decode cX11_next 22 = .ok (.aload_n 0, 1) := by decide +kernel
theorem dX11_next_23 : decode cX11_next 23 = .ok (.aload_n 0, 1) := by decide +kernel
theorem dX11_next_24 : decode cX11_next 24 = .ok (.getfield 171, 3) := by decide +kernel
theorem dX11_next_27 : decode cX11_next 27 = .ok (.putfield 178, 3) := by decide +kernel
theorem dX11_next_30 : decode cX11_next 30 = .ok (.aload_n 0, 1) := by decide +kernel
theorem dX11_next_31 : decode cX11_next 31 = .ok (.invokevirtual 174, 3) := by decide +kernel
theorem dX11_next_34 : decode cX11_next 34 = .ok (.iconst (-1), 1) := by decide +kernel
theorem dX11_next_35 : decode cX11_next 35 = .ok (.if_icmp .ne 11, 3) := by decide +kernel
theorem dX11_next_38 : decode cX11_next 38 = .ok (.aload_n 0, 1) := by decide +kernel
theorem dX11_next_39 : decode cX11_next 39 = .ok (.iconst 0, 1) := by decide +kernel
theorem dX11_next_40 : decode cX11_next 40 = .ok (.putfield 181, 3) := by decide +kernel
theorem dX11_next_43 : decode cX11_next 43 = .ok (.goto 154, 3) := by decide +kernel
theorem dX11_next_46 : decode cX11_next 46 = .ok (.aload_n 0, 1) := by decide +kernel
theorem dX11_next_47 : decode cX11_next 47 = .ok (.invokevirtual 174, 3) := by decide +kernel
theorem dX11_next_50 : decode cX11_next 50 = .ok (.invokestatic 184, 3) := by decide +kernel
theorem dX11_next_53 : decode cX11_next 53 = .ok (.ifCond .eq 31, 3) := by decide +kernel
theorem dX11_next_56 : decode cX11_next 56 = .ok (.aload_n 0, 1) := by decide +kernel
theorem dX11_next_57 : decode cX11_next 57 = .ok (.iconst 1, 1) := by decide +kernel
theorem dX11_next_58 : decode cX11_next 58 = .ok (.putfield 181, 3) := by decide +kernel
theorem dX11_next_61 : decode cX11_next 61 = .ok (.aload_n 0, 1) := by decide +kernel
theorem dX11_next_62 : decode cX11_next 62 = .ok (.invokevirtual 174, 3) := by decide +kernel
theorem dX11_next_65 : decode cX11_next 65 = .ok (.invokestatic 184, 3) := by decide +kernel
theorem dX11_next_68 : decode cX11_next 68 = .ok (.ifCond .eq 129, 3) := by decide +kernel
theorem dX11_next_71 : decode cX11_next 71 = .ok (.aload_n 0, 1) := by decide +kernel
theorem dX11_next_72 : decode cX11_next 72 = .ok (.dup, 1) := by decide +kernel
theorem dX11_next_73 : decode cX11_next 73 = .ok (.getfield 171, 3) := by decide +kernel
theorem dX11_next_76 : decode cX11_next 76 = .ok (.iconst 1, 1) := by decide +kernel
theorem dX11_next_77 : decode cX11_next 77 = .ok (.iadd, 1) := by decide +kernel
theorem dX11_next_78 : decode cX11_next 78 = .ok (.putfield 171, 3) := by decide +kernel
theorem dX11_next_81 : decode cX11_next 81 = .ok (.goto (-20), 3) := by decide +kernel
theorem dX11_next_84 : decode cX11_next 84 = .ok (.aload_n 0, 1) := by decide +kernel
theorem dX11_next_85 : decode cX11_next 85 = .ok (.invokevirtual 174, 3) := by decide +kernel
theorem dX11_next_88 : decode cX11_next 88 = .ok (.invokestatic 188, 3) := by decide +kernel
theorem dX11_next_91 : decode cX11_next 91 = .ok (.ifCond .eq 91, 3) := by decide +kernel
theorem dX11_next_94 : decode cX11_next 94 = .ok (.aload_n 0, 1) := by decide +kernel
theorem dX11_next_95 : decode cX11_next 95 = .ok (.iconst 2, 1) := by decide +kernel
theorem dX11_next_96 : decode cX11_next 96 = .ok (.putfield 181, 3) := by decide +kernel
theorem dX11_next_99 : decode cX11_next 99 = .ok (.aload_n 0, 1) := by decide +kernel
theorem dX11_next_100 : decode cX11_next 100 = .ok (.iconst 0, 1) := by decide +kernel
theorem dX11_next_101 : decode cX11_next 101 = .ok (.putfield 191, 3) := by decide +kernel
theorem dX11_next_104 : decode cX11_next 104 = .ok (.aload_n 0, 1) := by decide +kernel
theorem dX11_next_105 : decode cX11_next 105 = .ok (.invokevirtual 174, 3) := by decide +kernel
theorem dX11_next_108 : decode cX11_next 108 = .ok (.invokestatic 188, 3) := by decide +kernel
theorem dX11_next_111 : decode cX11_next 111 = .ok (.ifCond .eq 41, 3) := by decide +kernel
theorem dX11_next_114 : decode cX11_next 114 = .ok (.aload_n 0, 1) := by decide +kernel
theorem dX11_next_115 : decode cX11_next 115 = .ok (.sipush 1000, 3) := by decide +kernel
theorem dX11_next_118 : decode cX11_next 118 = .ok (.bipush 10, 2) := by decide +kernel
theorem dX11_next_120 : decode cX11_next 120 = .ok (.aload_n 0, 1) := by decide +kernel
theorem dX11_next_121 : decode cX11_next 121 = .ok (.getfield 191, 3) := by decide +kernel
theorem dX11_next_124 : decode cX11_next 124 = .ok (.imul, 1) := by decide +kernel
theorem dX11_next_125 : decode cX11_next 125 = .ok (.aload_n 0, 1) := by decide +kernel
theorem dX11_next_126 : decode cX11_next 126 = .ok (.invokevirtual 174, 3) := by decide +kernel
theorem dX11_next_129 : decode cX11_next 129 = .ok (.iadd, 1) := by decide +kernel
theorem dX11_next_130 : decode cX11_next 130 = .ok (.bipush 48, 2) := by decide +kernel
theorem dX11_next_132 : decode cX11_next 132 = .ok (.isub, 1) := by decide +kernel
theorem dX11_next_133 : decode cX11_next 133 = .ok (.invokestatic 194, 3) := by decide +kernel
theorem dX11_next_136 : decode cX11_next 136 = .ok (.putfield 191, 3) := by decide +kernel
theorem dX11_next_139 : decode cX11_next 139 = .ok (.aload_n 0, 1) := by decide +kernel
theorem dX11_next_140 : decode cX11_next 140 = .ok (.dup, 1) := by decide +kernel
theorem dX11_next_141 : decode cX11_next 141 = .ok (.getfield 171, 3) := by decide +kernel
theorem dX11_next_144 : decode cX11_next 144 = .ok (.iconst 1, 1) := by decide +kernel
theorem dX11_next_145 : decode cX11_next 145 = .ok (.iadd, 1) := by decide +kernel
theorem dX11_next_146 : decode cX11_next 146 = .ok (.putfield 171, 3) := by decide +kernel
theorem dX11_next_149 : decode cX11_next 149 = .ok (.goto (-45), 3) := by decide +kernel
theorem dX11_next_152 : decode cX11_next 152 = .ok (.aload_n 0, 1) := by decide +kernel
theorem dX11_next_153 : decode cX11_next 153 = .ok (.aload_n 0, 1) := by decide +kernel
theorem dX11_next_154 : decode cX11_next 154 = .ok (.getfield 171, 3) := by decide +kernel
theorem dX11_next_157 : decode cX11_next 157 = .ok (.aload_n 0, 1) := by decide +kernel
theorem dX11_next_158 : decode cX11_next 158 = .ok (.getfield 178, 3) := by decide +kernel
theorem dX11_next_161 : decode cX11_next 161 = .ok (.isub, 1) := by decide +kernel
theorem dX11_next_162 : decode cX11_next 162 = .ok (.iconst 2, 1) := by decide +kernel
theorem dX11_next_163 : decode cX11_next 163 = .ok (.if_icmp .le 9, 3) := by decide +kernel
theorem dX11_next_166 : decode cX11_next 166 = .ok (.sipush 1000, 3) := by decide +kernel
theorem dX11_next_169 : decode cX11_next 169 = .ok (.goto 7, 3) := by decide +kernel
theorem dX11_next_172 : decode cX11_next 172 = .ok (.aload_n 0, 1) := by decide +kernel
theorem dX11_next_173 : decode cX11_next 173 = .ok (.getfield 191, 3) := by decide +kernel
theorem dX11_next_176 : decode cX11_next 176 = .ok (.putfield 191, 3) := by decide +kernel
theorem dX11_next_179 : decode cX11_next 179 = .ok (.goto 18, 3) := by decide +kernel
theorem dX11_next_182 : decode cX11_next 182 = .ok (.aload_n 0, 1) := by decide +kernel
theorem dX11_next_183 : decode cX11_next 183 = .ok (.iconst 3, 1) := by decide +kernel
theorem dX11_next_184 : decode cX11_next 184 = .ok (.putfield 181, 3) := by decide +kernel
theorem dX11_next_187 : decode cX11_next 187 = .ok (.aload_n 0, 1) := by decide +kernel
theorem dX11_next_188 : decode cX11_next 188 = .ok (.dup, 1) := by decide +kernel
theorem dX11_next_189 : decode cX11_next 189 = .ok (.getfield 171, 3) := by decide +kernel
theorem dX11_next_192 : decode cX11_next 192 = .ok (.iconst 1, 1) := by decide +kernel
theorem dX11_next_193 : decode cX11_next 193 = .ok (.iadd, 1) := by decide +kernel
theorem dX11_next_194 : decode cX11_next 194 = .ok (.putfield 171, 3) := by decide +kernel
theorem dX11_next_197 : decode cX11_next 197 = .ok (.return_, 1) := by decide +kernel
def mM_next_176  (vs1 : Int32) (I : hI) : Option (hI) :=
  h_let (h_u I 0 7 vs1) fun I1 =>
  some I1
set_option maxHeartbeats 4000000 in
theorem sM_next_176 (d : Nat) (hd : 0 + 1 ≤ d) (vs1 : Int32) (I : hI) (J : hJ) (q : hI) (h : mM_next_176 vs1 I = some q) : AW hFT cX11_next 1 none RX11 kdM d [] 176 [.int vs1, .ref 0] (I, J, RMm) none (q, J, RMm) := by
  obtain ⟨d0, rfl, hd0⟩ := h_mono hd
  unfold mM_next_176 at h
  refine b_putI hK_11 km_0 (i := 7) rfl fl_11_191 rfl rfl (h_NI _) dX11_next_176 ?_
  obtain ⟨I1, eI1, h⟩ := h_letS h
  refine a_memI eI1 ?_
  refine a_goto (tgt := 197) dX11_next_179 (by decide) ?_
  cases h
  exact a_vret dX11_next_197
def mM_next_B104 (k104 : hI → Option (hI))  (I : hI) : Option (hI) :=
  (mM_here I).bind fun q1 =>
  if (mM_isDigit q1) = 0 then
    (if ((I 0 3) - (I 0 4)) ≤ (2 : Int32) then
      mM_next_176 (I 0 7) I
    else
      mM_next_176 (1000 : Int32) I)
  else
    ((mM_here I).bind fun q2 =>
    h_let (h_u I 0 7 (if ((((10 : Int32) * (I 0 7)) + q2) - (48 : Int32)) < (1000 : Int32) then ((((10 : Int32) * (I 0 7)) + q2) - (48 : Int32)) else (1000 : Int32))) fun I3 =>
    h_let (h_u I3 0 3 ((I3 0 3) + (1 : Int32))) fun I4 =>
    k104 I4)
set_option maxHeartbeats 4000000 in
theorem sM_next_B104 (d : Nat) (hd : 0 + 1 ≤ d) (k104 : hI → Option (hI)) (hk104 : ∀  (I : hI) (J : hJ) (q : hI), k104 I = some q → AW hFT cX11_next 1 none RX11 kdM d [(0, .ref 0)] 104 [] (I, J, RMm) none (q, J, RMm))  (I : hI) (J : hJ) (q : hI) (h : mM_next_B104 k104 I = some q) : AW hFT cX11_next 1 none RX11 kdM d [(0, .ref 0)] 104 [] (I, J, RMm) none (q, J, RMm) := by
  obtain ⟨d0, rfl, hd0⟩ := h_mono hd
  unfold mM_next_B104 at h
  refine a_aload_n dX11_next_104 rfl rfl ?_
  obtain ⟨q1, cq1, h⟩ := h_bindS h
  refine a_callV1 [] yy_X11_here ml_11_174 km_0 rfl (sM_here _ (by omega)  I J q1 cq1) rfl rfl (Nat.le_of_ble_eq_true rfl) dX11_next_105 ?_
  refine a_callS1 [] yy_X11_isDigit ml_11_188 (sM_isDigit _ (by omega) q1 I J _ rfl) rfl rfl (Nat.le_of_ble_eq_true rfl) dX11_next_108 ?_
  refine a_if_eq (tgt := 152) dX11_next_111 (by decide) (fun c => ?_) (fun c => ?_)
  · replace h := h_iteT c h
    refine a_aload_n dX11_next_152 rfl rfl ?_
    refine a_aload_n dX11_next_153 rfl rfl ?_
    refine b_getI hK_11 km_0 (i := 3) rfl fl_11_171 rfl dX11_next_154 ?_
    refine a_aload_n dX11_next_157 rfl rfl ?_
    refine b_getI hK_11 km_0 (i := 4) rfl fl_11_178 rfl dX11_next_158 ?_
    refine a_isub dX11_next_161 ?_
    refine a_iconst dX11_next_162 ic_2 ?_
    refine a_icmp_le (tgt := 172) dX11_next_163 (by decide) (fun c => ?_) (fun c => ?_)
    · replace h := h_iteT c h
      refine a_aload_n dX11_next_172 rfl rfl ?_
      refine b_getI hK_11 km_0 (i := 7) rfl fl_11_191 rfl dX11_next_173 ?_
      refine a_sub (lv' := []) [] rfl ?_
      exact sM_next_176 (d0 + 1) (by omega) (I 0 7) I J _ h
    · replace h := h_iteF c h
      refine a_sipush dX11_next_166 sq_1000 ?_
      refine a_goto (tgt := 176) dX11_next_169 (by decide) ?_
      refine a_sub (lv' := []) [] rfl ?_
      exact sM_next_176 (d0 + 1) (by omega) (1000 : Int32) I J _ h
  · replace h := h_iteF c h
    refine a_aload_n dX11_next_114 rfl rfl ?_
    refine a_sipush dX11_next_115 sq_1000 ?_
    refine a_bipush dX11_next_118 bp_10 ?_
    refine a_aload_n dX11_next_120 rfl rfl ?_
    refine b_getI hK_11 km_0 (i := 7) rfl fl_11_191 rfl dX11_next_121 ?_
    refine a_imul dX11_next_124 ?_
    refine a_aload_n dX11_next_125 rfl rfl ?_
    obtain ⟨q2, cq2, h⟩ := h_bindS h
    refine a_callV1 [.int ((10 : Int32) * (I 0 7)), .int (1000 : Int32), .ref 0] yy_X11_here ml_11_174 km_0 rfl (sM_here _ (by omega)  I J q2 cq2) rfl rfl (Nat.le_of_ble_eq_true rfl) dX11_next_126 ?_
    refine a_iadd dX11_next_129 ?_
    refine a_bipush dX11_next_130 bp_48 ?_
    refine a_isub dX11_next_132 ?_
    refine a_mmin w_mmin ml_11_194 (Nat.le_of_ble_eq_true rfl) dX11_next_133 ?_
    refine b_putI hK_11 km_0 (i := 7) rfl fl_11_191 rfl rfl (h_NI _) dX11_next_136 ?_
    obtain ⟨I3, eI3, h⟩ := h_letS h
    refine a_memI eI3 ?_
    refine a_aload_n dX11_next_139 rfl rfl ?_
    refine a_dup dX11_next_140 rfl ?_
    refine b_getI hK_11 km_0 (i := 3) rfl fl_11_171 rfl dX11_next_141 ?_
    refine a_iconst dX11_next_144 ic_1 ?_
    refine a_iadd dX11_next_145 ?_
    refine b_putI hK_11 km_0 (i := 3) rfl fl_11_171 rfl rfl (h_NI _) dX11_next_146 ?_
    obtain ⟨I4, eI4, h⟩ := h_letS h
    refine a_memI eI4 ?_
    refine a_goto (tgt := 104) dX11_next_149 (by decide) ?_
    exact hk104  I4 J _ h
def mM_next_L104  : Nat → hI → Option (hI)
  | 0 => fun _ => none
  | n + 1 => mM_next_B104 (mM_next_L104 n)
theorem sM_next_L104 (d : Nat) (hd : 0 + 1 ≤ d) : ∀ (n : Nat)  (I : hI) (J : hJ) (q : hI) (h : mM_next_L104 n I = some q), AW hFT cX11_next 1 none RX11 kdM d [(0, .ref 0)] 104 [] (I, J, RMm) none (q, J, RMm)
  | 0, _, _, q, h => by cases h
  | n + 1, I, J, q, h => sM_next_B104 d hd (mM_next_L104 n) (sM_next_L104 d hd n) I J q h
def mM_next_B61 (k61 : hI → Option (hI))  (I : hI) : Option (hI) :=
  (mM_here I).bind fun q1 =>
  if (mM_isSmall q1) = 0 then
    some I
  else
    (h_let (h_u I 0 3 ((I 0 3) + (1 : Int32))) fun I2 =>
    k61 I2)
set_option maxHeartbeats 4000000 in
theorem sM_next_B61 (d : Nat) (hd : 0 + 1 ≤ d) (k61 : hI → Option (hI)) (hk61 : ∀  (I : hI) (J : hJ) (q : hI), k61 I = some q → AW hFT cX11_next 1 none RX11 kdM d [(0, .ref 0)] 61 [] (I, J, RMm) none (q, J, RMm))  (I : hI) (J : hJ) (q : hI) (h : mM_next_B61 k61 I = some q) : AW hFT cX11_next 1 none RX11 kdM d [(0, .ref 0)] 61 [] (I, J, RMm) none (q, J, RMm) := by
  obtain ⟨d0, rfl, hd0⟩ := h_mono hd
  unfold mM_next_B61 at h
  refine a_aload_n dX11_next_61 rfl rfl ?_
  obtain ⟨q1, cq1, h⟩ := h_bindS h
  refine a_callV1 [] yy_X11_here ml_11_174 km_0 rfl (sM_here _ (by omega)  I J q1 cq1) rfl rfl (Nat.le_of_ble_eq_true rfl) dX11_next_62 ?_
  refine a_callS1 [] yy_X11_isSmall ml_11_184 (sM_isSmall _ (by omega) q1 I J _ rfl) rfl rfl (Nat.le_of_ble_eq_true rfl) dX11_next_65 ?_
  refine a_if_eq (tgt := 197) dX11_next_68 (by decide) (fun c => ?_) (fun c => ?_)
  · replace h := h_iteT c h
    cases h
    exact a_vret dX11_next_197
  · replace h := h_iteF c h
    refine a_aload_n dX11_next_71 rfl rfl ?_
    refine a_dup dX11_next_72 rfl ?_
    refine b_getI hK_11 km_0 (i := 3) rfl fl_11_171 rfl dX11_next_73 ?_
    refine a_iconst dX11_next_76 ic_1 ?_
    refine a_iadd dX11_next_77 ?_
    refine b_putI hK_11 km_0 (i := 3) rfl fl_11_171 rfl rfl (h_NI _) dX11_next_78 ?_
    obtain ⟨I2, eI2, h⟩ := h_letS h
    refine a_memI eI2 ?_
    refine a_goto (tgt := 61) dX11_next_81 (by decide) ?_
    exact hk61  I2 J _ h
def mM_next_L61  : Nat → hI → Option (hI)
  | 0 => fun _ => none
  | n + 1 => mM_next_B61 (mM_next_L61 n)
theorem sM_next_L61 (d : Nat) (hd : 0 + 1 ≤ d) : ∀ (n : Nat)  (I : hI) (J : hJ) (q : hI) (h : mM_next_L61 n I = some q), AW hFT cX11_next 1 none RX11 kdM d [(0, .ref 0)] 61 [] (I, J, RMm) none (q, J, RMm)
  | 0, _, _, q, h => by cases h
  | n + 1, I, J, q, h => sM_next_B61 d hd (mM_next_L61 n) (sM_next_L61 d hd n) I J q h
def mM_next_B0 (k0 : hI → Option (hI))  (I : hI) : Option (hI) :=
  (mM_here I).bind fun q1 =>
  if q1 = (32 : Int32) then
    (h_let (h_u I 0 3 ((I 0 3) + (1 : Int32))) fun I2 =>
    k0 I2)
  else
    (h_let (h_u I 0 4 (I 0 3)) fun I2 =>
    (mM_here I2).bind fun q3 =>
    if q3 = (-1 : Int32) then
      (h_let (h_u I2 0 6 (0 : Int32)) fun I4 =>
      some I4)
    else
      ((mM_here I2).bind fun q4 =>
      if (mM_isSmall q4) = 0 then
        ((mM_here I2).bind fun q5 =>
        if (mM_isDigit q5) = 0 then
          (h_let (h_u I2 0 6 (3 : Int32)) fun I6 =>
          h_let (h_u I6 0 3 ((I6 0 3) + (1 : Int32))) fun I7 =>
          some I7)
        else
          (h_let (h_u I2 0 6 (2 : Int32)) fun I6 =>
          h_let (h_u I6 0 7 (0 : Int32)) fun I7 =>
          mM_next_L104 hF I7))
      else
        (h_let (h_u I2 0 6 (1 : Int32)) fun I5 =>
        mM_next_L61 hF I5)))
set_option maxHeartbeats 4000000 in
theorem sM_next_B0 (d : Nat) (hd : 0 + 1 ≤ d) (k0 : hI → Option (hI)) (hk0 : ∀  (I : hI) (J : hJ) (q : hI), k0 I = some q → AW hFT cX11_next 1 none RX11 kdM d [(0, .ref 0)] 0 [] (I, J, RMm) none (q, J, RMm))  (I : hI) (J : hJ) (q : hI) (h : mM_next_B0 k0 I = some q) : AW hFT cX11_next 1 none RX11 kdM d [(0, .ref 0)] 0 [] (I, J, RMm) none (q, J, RMm) := by
  obtain ⟨d0, rfl, hd0⟩ := h_mono hd
  unfold mM_next_B0 at h
  refine a_aload_n dX11_next_0 rfl rfl ?_
  obtain ⟨q1, cq1, h⟩ := h_bindS h
  refine a_callV1 [] yy_X11_here ml_11_174 km_0 rfl (sM_here _ (by omega)  I J q1 cq1) rfl rfl (Nat.le_of_ble_eq_true rfl) dX11_next_1 ?_
  refine a_bipush dX11_next_4 bp_32 ?_
  refine a_icmp_ne (tgt := 22) dX11_next_6 (by decide) (fun c => ?_) (fun c => ?_)
  · replace h := h_iteF c h
    refine a_aload_n dX11_next_22 rfl rfl ?_
    refine a_aload_n dX11_next_23 rfl rfl ?_
    refine b_getI hK_11 km_0 (i := 3) rfl fl_11_171 rfl dX11_next_24 ?_
    refine b_putI hK_11 km_0 (i := 4) rfl fl_11_178 rfl rfl (h_NI _) dX11_next_27 ?_
    obtain ⟨I2, eI2, h⟩ := h_letS h
    refine a_memI eI2 ?_
    refine a_aload_n dX11_next_30 rfl rfl ?_
    obtain ⟨q3, cq3, h⟩ := h_bindS h
    refine a_callV1 [] yy_X11_here ml_11_174 km_0 rfl (sM_here _ (by omega)  I2 J q3 cq3) rfl rfl (Nat.le_of_ble_eq_true rfl) dX11_next_31 ?_
    refine a_iconst dX11_next_34 ic_m1 ?_
    refine a_icmp_ne (tgt := 46) dX11_next_35 (by decide) (fun c => ?_) (fun c => ?_)
    · replace h := h_iteF c h
      refine a_aload_n dX11_next_46 rfl rfl ?_
      obtain ⟨q4, cq4, h⟩ := h_bindS h
      refine a_callV1 [] yy_X11_here ml_11_174 km_0 rfl (sM_here _ (by omega)  I2 J q4 cq4) rfl rfl (Nat.le_of_ble_eq_true rfl) dX11_next_47 ?_
      refine a_callS1 [] yy_X11_isSmall ml_11_184 (sM_isSmall _ (by omega) q4 I2 J _ rfl) rfl rfl (Nat.le_of_ble_eq_true rfl) dX11_next_50 ?_
      refine a_if_eq (tgt := 84) dX11_next_53 (by decide) (fun c => ?_) (fun c => ?_)
      · replace h := h_iteT c h
        refine a_aload_n dX11_next_84 rfl rfl ?_
        obtain ⟨q5, cq5, h⟩ := h_bindS h
        refine a_callV1 [] yy_X11_here ml_11_174 km_0 rfl (sM_here _ (by omega)  I2 J q5 cq5) rfl rfl (Nat.le_of_ble_eq_true rfl) dX11_next_85 ?_
        refine a_callS1 [] yy_X11_isDigit ml_11_188 (sM_isDigit _ (by omega) q5 I2 J _ rfl) rfl rfl (Nat.le_of_ble_eq_true rfl) dX11_next_88 ?_
        refine a_if_eq (tgt := 182) dX11_next_91 (by decide) (fun c => ?_) (fun c => ?_)
        · replace h := h_iteT c h
          refine a_aload_n dX11_next_182 rfl rfl ?_
          refine a_iconst dX11_next_183 ic_3 ?_
          refine b_putI hK_11 km_0 (i := 6) rfl fl_11_181 rfl rfl (h_NI _) dX11_next_184 ?_
          obtain ⟨I6, eI6, h⟩ := h_letS h
          refine a_memI eI6 ?_
          refine a_aload_n dX11_next_187 rfl rfl ?_
          refine a_dup dX11_next_188 rfl ?_
          refine b_getI hK_11 km_0 (i := 3) rfl fl_11_171 rfl dX11_next_189 ?_
          refine a_iconst dX11_next_192 ic_1 ?_
          refine a_iadd dX11_next_193 ?_
          refine b_putI hK_11 km_0 (i := 3) rfl fl_11_171 rfl rfl (h_NI _) dX11_next_194 ?_
          obtain ⟨I7, eI7, h⟩ := h_letS h
          refine a_memI eI7 ?_
          cases h
          exact a_vret dX11_next_197
        · replace h := h_iteF c h
          refine a_aload_n dX11_next_94 rfl rfl ?_
          refine a_iconst dX11_next_95 ic_2 ?_
          refine b_putI hK_11 km_0 (i := 6) rfl fl_11_181 rfl rfl (h_NI _) dX11_next_96 ?_
          obtain ⟨I6, eI6, h⟩ := h_letS h
          refine a_memI eI6 ?_
          refine a_aload_n dX11_next_99 rfl rfl ?_
          refine a_iconst dX11_next_100 ic_0 ?_
          refine b_putI hK_11 km_0 (i := 7) rfl fl_11_191 rfl rfl (h_NI _) dX11_next_101 ?_
          obtain ⟨I7, eI7, h⟩ := h_letS h
          refine a_memI eI7 ?_
          exact sM_next_L104 (d0 + 1) (by omega) hF  I7 J _ h
      · replace h := h_iteF c h
        refine a_aload_n dX11_next_56 rfl rfl ?_
        refine a_iconst dX11_next_57 ic_1 ?_
        refine b_putI hK_11 km_0 (i := 6) rfl fl_11_181 rfl rfl (h_NI _) dX11_next_58 ?_
        obtain ⟨I5, eI5, h⟩ := h_letS h
        refine a_memI eI5 ?_
        exact sM_next_L61 (d0 + 1) (by omega) hF  I5 J _ h
    · replace h := h_iteT c h
      refine a_aload_n dX11_next_38 rfl rfl ?_
      refine a_iconst dX11_next_39 ic_0 ?_
      refine b_putI hK_11 km_0 (i := 6) rfl fl_11_181 rfl rfl (h_NI _) dX11_next_40 ?_
      obtain ⟨I4, eI4, h⟩ := h_letS h
      refine a_memI eI4 ?_
      refine a_goto (tgt := 197) dX11_next_43 (by decide) ?_
      cases h
      exact a_vret dX11_next_197
  · replace h := h_iteT c h
    refine a_aload_n dX11_next_9 rfl rfl ?_
    refine a_dup dX11_next_10 rfl ?_
    refine b_getI hK_11 km_0 (i := 3) rfl fl_11_171 rfl dX11_next_11 ?_
    refine a_iconst dX11_next_14 ic_1 ?_
    refine a_iadd dX11_next_15 ?_
    refine b_putI hK_11 km_0 (i := 3) rfl fl_11_171 rfl rfl (h_NI _) dX11_next_16 ?_
    obtain ⟨I2, eI2, h⟩ := h_letS h
    refine a_memI eI2 ?_
    refine a_goto (tgt := 0) dX11_next_19 (by decide) ?_
    exact hk0  I2 J _ h
def mM_next_L0  : Nat → hI → Option (hI)
  | 0 => fun _ => none
  | n + 1 => mM_next_B0 (mM_next_L0 n)
theorem sM_next_L0 (d : Nat) (hd : 0 + 1 ≤ d) : ∀ (n : Nat)  (I : hI) (J : hJ) (q : hI) (h : mM_next_L0 n I = some q), AW hFT cX11_next 1 none RX11 kdM d [(0, .ref 0)] 0 [] (I, J, RMm) none (q, J, RMm)
  | 0, _, _, q, h => by cases h
  | n + 1, I, J, q, h => sM_next_B0 d hd (mM_next_L0 n) (sM_next_L0 d hd n) I J q h
def mM_next   (I : hI) : Option (hI) :=
  mM_next_L0 hF I
set_option maxHeartbeats 4000000 in
theorem sM_next (d : Nat) (hd : 0 + 1 ≤ d)  (I : hI) (J : hJ) (q : hI) (h : mM_next I = some q) : HMet hFT yX11_next cX11_next 1 none kdM d [.ref 0] (I, J, RMm) none (q, J, RMm) := by
  obtain ⟨d0, rfl, hd0⟩ := h_mono hd
  refine HMet.of (by decide) (Nat.le_of_ble_eq_true rfl) ?_
  show AW hFT cX11_next 1 none RX11 kdM (d0 + 1) [(0, .ref 0)] 0 [] (I, J, RMm) none (q, J, RMm)
  unfold mM_next at h
  exact sM_next_L0 (d0 + 1) (by omega) hF  I J _ h
/-! CoinLoopsModel.bad()V -/
theorem dX11_bad_0 : decode cX11_bad 0 = .ok (.aload_n 0, 1) := by decide +kernel
theorem dX11_bad_1 : decode cX11_bad 1 = .ok (.aload_n 0, 1) := by decide +kernel
theorem dX11_bad_2 : decode cX11_bad 2 = .ok (.getfield 200, 3) := by decide +kernel
theorem dX11_bad_5 : decode cX11_bad 5 = .ok (.iconst (-1), 1) := by decide +kernel
theorem dX11_bad_6 : decode cX11_bad 6 = .ok (.if_icmp .ne 10, 3) := by decide +kernel
theorem dX11_bad_9 : decode cX11_bad 9 = .ok (.aload_n 0, 1) := by decide +kernel
theorem dX11_bad_10 : decode cX11_bad 10 = .ok (.getfield 178, 3) := by decide +kernel
theorem dX11_bad_13 : decode cX11_bad 13 = .ok (.goto 7, 3) := by decide +kernel
theorem dX11_bad_16 : decode cX11_bad 16 = .ok (.aload_n 0, 1) := by decide +kernel
theorem dX11_bad_17 : decode cX11_bad 17 = .ok (.getfield 200, 3) := by decide +kernel
theorem dX11_bad_20 : decode cX11_bad 20 = .ok (.putfield 200, 3) := by decide +kernel
theorem dX11_bad_23 : decode cX11_bad 23 = .ok (.return_, 1) := by decide +kernel
def mM_bad_20  (vs1 : Int32) (I : hI) : hI :=
  h_let (h_u I 0 5 vs1) fun I1 =>
  I1
set_option maxHeartbeats 4000000 in
theorem sM_bad_20 (d : Nat) (hd : 0 ≤ d) (vs1 : Int32) (I : hI) (J : hJ) (q : hI) (h : mM_bad_20 vs1 I = q) : AW hFT cX11_bad 1 none RX11 kdM d [] 20 [.int vs1, .ref 0] (I, J, RMm) none (q, J, RMm) := by
  unfold mM_bad_20 at h
  refine b_putI hK_11 km_0 (i := 5) rfl fl_11_200 rfl rfl (h_NI _) dX11_bad_20 ?_
  obtain ⟨I1, eI1, h⟩ := h_letS h
  refine a_memI eI1 ?_
  cases h
  exact a_vret dX11_bad_23
def mM_bad   (I : hI) : hI :=
  if (I 0 5) = (-1 : Int32) then
    mM_bad_20 (I 0 4) I
  else
    mM_bad_20 (I 0 5) I
set_option maxHeartbeats 4000000 in
theorem sM_bad (d : Nat) (hd : 0 ≤ d)  (I : hI) (J : hJ) (q : hI) (h : mM_bad I = q) : HMet hFT yX11_bad cX11_bad 1 none kdM d [.ref 0] (I, J, RMm) none (q, J, RMm) := by
  refine HMet.of (by decide) (Nat.le_of_ble_eq_true rfl) ?_
  show AW hFT cX11_bad 1 none RX11 kdM d [(0, .ref 0)] 0 [] (I, J, RMm) none (q, J, RMm)
  unfold mM_bad at h
  refine a_aload_n dX11_bad_0 rfl rfl ?_
  refine a_aload_n dX11_bad_1 rfl rfl ?_
  refine b_getI hK_11 km_0 (i := 5) rfl fl_11_200 rfl dX11_bad_2 ?_
  refine a_iconst dX11_bad_5 ic_m1 ?_
  refine a_icmp_ne (tgt := 16) dX11_bad_6 (by decide) (fun c => ?_) (fun c => ?_)
  · replace h := h_iteF c h
    refine a_aload_n dX11_bad_16 rfl rfl ?_
    refine b_getI hK_11 km_0 (i := 5) rfl fl_11_200 rfl dX11_bad_17 ?_
    refine a_sub (lv' := []) [] rfl ?_
    exact sM_bad_20 d (by omega) (I 0 5) I J _ h
  · replace h := h_iteT c h
    refine a_aload_n dX11_bad_9 rfl rfl ?_
    refine b_getI hK_11 km_0 (i := 4) rfl fl_11_178 rfl dX11_bad_10 ?_
    refine a_goto (tgt := 20) dX11_bad_13 (by decide) ?_
    refine a_sub (lv' := []) [] rfl ?_
    exact sM_bad_20 d (by omega) (I 0 4) I J _ h
/-! CoinLoopsModel.isWord(Ljava/lang/String;)Z -/
theorem dX11_isWord_0 : decode cX11_isWord 0 = .ok (.aload_n 0, 1) := by decide +kernel
theorem dX11_isWord_1 : decode cX11_isWord 1 = .ok (.getfield 200, 3) := by decide +kernel
theorem dX11_isWord_4 : decode cX11_isWord 4 = .ok (.iconst (-1), 1) := by decide +kernel
theorem dX11_isWord_5 : decode cX11_isWord 5 = .ok (.if_icmp .ne 31, 3) := by decide +kernel
theorem dX11_isWord_8 : decode cX11_isWord 8 = .ok (.aload_n 0, 1) := by decide +kernel
theorem dX11_isWord_9 : decode cX11_isWord 9 = .ok (.getfield 181, 3) := by decide +kernel
theorem dX11_isWord_12 : decode cX11_isWord 12 = .ok (.iconst 1, 1) := by decide +kernel
theorem dX11_isWord_13 : decode cX11_isWord 13 = .ok (.if_icmp .ne 23, 3) := by decide +kernel
theorem dX11_isWord_16 : decode cX11_isWord 16 = .ok (.aload_n 0, 1) := by decide +kernel
theorem dX11_isWord_17 : decode cX11_isWord 17 = .ok (.getfield 171, 3) := by decide +kernel
theorem dX11_isWord_20 : decode cX11_isWord 20 = .ok (.aload_n 0, 1) := by decide +kernel
theorem dX11_isWord_21 : decode cX11_isWord 21 = .ok (.getfield 178, 3) := by decide +kernel
theorem dX11_isWord_24 : decode cX11_isWord 24 = .ok (.isub, 1) := by decide +kernel
theorem dX11_isWord_25 : decode cX11_isWord 25 = .ok (.aload_n 1, 1) := by decide +kernel
theorem dX11_isWord_26 : decode cX11_isWord 26 = .ok (.invokevirtual 203, 3) := by decide +kernel
theorem dX11_isWord_29 : decode cX11_isWord 29 = .ok (.if_icmp .ne 7, 3) := by decide +kernel
theorem dX11_isWord_32 : decode cX11_isWord 32 = .ok (.iconst 1, 1) := by decide +kernel
theorem dX11_isWord_33 : decode cX11_isWord 33 = .ok (.goto 4, 3) := by decide +kernel
theorem dX11_isWord_36 : decode cX11_isWord 36 = .ok (.iconst 0, 1) := by decide +kernel
theorem dX11_isWord_37 : decode cX11_isWord 37 = .ok (.istore_n 2, 1) := by decide +kernel
theorem dX11_isWord_38 : decode cX11_isWord 38 = .ok (.iconst 0, 1) := by decide +kernel
theorem dX11_isWord_39 : decode cX11_isWord 39 = .ok (.istore_n 3, 1) := by decide +kernel
theorem dX11_isWord_40 : decode cX11_isWord 40 = .ok (.iload_n 2, 1) := by decide +kernel
theorem dX11_isWord_41 : decode cX11_isWord 41 = .ok (.ifCond .eq 42, 3) := by decide +kernel
theorem dX11_isWord_44 : decode cX11_isWord 44 = .ok (.iload_n 3, 1) := by decide +kernel
theorem dX11_isWord_45 : decode cX11_isWord 45 = .ok (.aload_n 1, 1) := by decide +kernel
theorem dX11_isWord_46 : decode cX11_isWord 46 = .ok (.invokevirtual 203, 3) := by decide +kernel
theorem dX11_isWord_49 : decode cX11_isWord 49 = .ok (.if_icmp .ge 34, 3) := by decide +kernel
theorem dX11_isWord_52 : decode cX11_isWord 52 = .ok (.aload_n 0, 1) := by decide +kernel
theorem dX11_isWord_53 : decode cX11_isWord 53 = .ok (.getfield 9, 3) := by decide +kernel
theorem dX11_isWord_56 : decode cX11_isWord 56 = .ok (.aload_n 0, 1) := by decide +kernel
theorem dX11_isWord_57 : decode cX11_isWord 57 = .ok (.getfield 178, 3) := by decide +kernel
theorem dX11_isWord_60 : decode cX11_isWord 60 = .ok (.iload_n 3, 1) := by decide +kernel
theorem dX11_isWord_61 : decode cX11_isWord 61 = .ok (.iadd, 1) := by decide +kernel
theorem dX11_isWord_62 : decode cX11_isWord 62 = .ok (.iaload, 1) := by decide +kernel
theorem dX11_isWord_63 : decode cX11_isWord 63 = .ok (.aload_n 1, 1) := by decide +kernel
theorem dX11_isWord_64 : decode cX11_isWord 64 = .ok (.iload_n 3, 1) := by decide +kernel
theorem dX11_isWord_65 : decode cX11_isWord 65 = .ok (.invokevirtual 208, 3) := by decide +kernel
theorem dX11_isWord_68 : decode cX11_isWord 68 = .ok (.if_icmp .ne 7, 3) := by decide +kernel
theorem dX11_isWord_71 : decode cX11_isWord 71 = .ok (.iconst 1, 1) := by decide +kernel
theorem dX11_isWord_72 : decode cX11_isWord 72 = .ok (.goto 4, 3) := by decide +kernel
theorem dX11_isWord_75 : decode cX11_isWord 75 = .ok (.iconst 0, 1) := by decide +kernel
theorem dX11_isWord_76 : decode cX11_isWord 76 = .ok (.istore_n 2, 1) := by decide +kernel
theorem dX11_isWord_77 : decode cX11_isWord 77 = .ok (.iinc 3 1, 3) := by decide +kernel
theorem dX11_isWord_80 : decode cX11_isWord 80 = .ok (.goto (-40), 3) := by decide +kernel
theorem dX11_isWord_83 : decode cX11_isWord 83 = .ok (.iload_n 2, 1) := by decide +kernel
theorem dX11_isWord_84 : decode cX11_isWord 84 = .ok (.ireturn, 1) := by decide +kernel
def mM_isWord_B40 (k40 : Nat → Int32 → Int32 → hI → Option (Int32)) (t1 : Nat) (v2 : Int32) (v3 : Int32) (I : hI) : Option (Int32) :=
  if v2 = 0 then
    (h_g (h_isZ v2) <|
    some v2)
  else
    (if (h_sl t1) ≤ v3 then
      (h_g (h_isZ v2) <|
      some v2)
    else
      (h_g (h_in ((I 0 4) + v3) 500) <|
      h_g (h_in v3 (h_len.getD t1 0)) <|
      if (I 1 ((I 0 4) + v3).toNatClampNeg) = (h_sc t1 v3) then
        k40 t1 (1 : Int32) (v3 + (1 : Int32)) I
      else
        k40 t1 (0 : Int32) (v3 + (1 : Int32)) I))
set_option maxHeartbeats 4000000 in
theorem sM_isWord_B40 (d : Nat) (hd : 6 + 1 ≤ d) (k40 : Nat → Int32 → Int32 → hI → Option (Int32)) (hk40 : ∀ (t1 : Nat) (ht1 : t1 < 11) (v2 : Int32) (v3 : Int32) (I : hI) (J : hJ) (q : Int32), k40 t1 v2 v3 I = some q → AW hFT cX11_isWord 4 (some .boolean) RX11 kdM d [(0, .ref 0), (1, .ref (49 + t1)), (2, .int v2), (3, .int v3)] 40 [] (I, J, RMm) (some (.int q)) (I, J, RMm)) (t1 : Nat) (ht1 : t1 < 11) (v2 : Int32) (v3 : Int32) (I : hI) (J : hJ) (q : Int32) (h : mM_isWord_B40 k40 t1 v2 v3 I = some q) : AW hFT cX11_isWord 4 (some .boolean) RX11 kdM d [(0, .ref 0), (1, .ref (49 + t1)), (2, .int v2), (3, .int v3)] 40 [] (I, J, RMm) (some (.int q)) (I, J, RMm) := by
  obtain ⟨d0, rfl, hd0⟩ := h_mono hd
  unfold mM_isWord_B40 at h
  refine a_iload_n dX11_isWord_40 rfl rfl ?_
  refine a_if_eq (tgt := 83) dX11_isWord_41 (by decide) (fun c => ?_) (fun c => ?_)
  · replace h := h_iteT c h
    refine a_iload_n dX11_isWord_83 rfl rfl ?_
    obtain ⟨g1, h⟩ := h_gS h
    cases h
    exact a_zret ((h_isZV g1).1) dX11_isWord_84
  · replace h := h_iteF c h
    refine a_iload_n dX11_isWord_44 rfl rfl ?_
    refine a_aload_n dX11_isWord_45 rfl rfl ?_
    refine a_slen (i := t1) ht1 kdM_len ml_11_203 (Nat.le_of_ble_eq_true rfl) (by omega) dX11_isWord_46 ?_
    refine a_icmp_ge (tgt := 83) dX11_isWord_49 (by decide) (fun c => ?_) (fun c => ?_)
    · replace h := h_iteT c h
      refine a_iload_n dX11_isWord_83 rfl rfl ?_
      obtain ⟨g1, h⟩ := h_gS h
      cases h
      exact a_zret ((h_isZV g1).1) dX11_isWord_84
    · replace h := h_iteF c h
      refine a_aload_n dX11_isWord_52 rfl rfl ?_
      refine b_getR hK_11 km_0 (i := 1) rfl fl_11_9 rfl rmm_1 dX11_isWord_53 ?_
      refine a_aload_n dX11_isWord_56 rfl rfl ?_
      refine b_getI hK_11 km_0 (i := 4) rfl fl_11_178 rfl dX11_isWord_57 ?_
      refine a_iload_n dX11_isWord_60 rfl rfl ?_
      refine a_iadd dX11_isWord_61 ?_
      obtain ⟨g1, h⟩ := h_gS h
      refine b_iaload km_1 (h_inV g1) dX11_isWord_62 ?_
      refine a_aload_n dX11_isWord_63 rfl rfl ?_
      refine a_iload_n dX11_isWord_64 rfl rfl ?_
      obtain ⟨g2, h⟩ := h_gS h
      refine a_schar (i := t1) ht1 kdM_len ml_11_208 (h_inV g2) (Nat.le_of_ble_eq_true rfl) (by omega) dX11_isWord_65 ?_
      refine a_icmp_ne (tgt := 75) dX11_isWord_68 (by decide) (fun c => ?_) (fun c => ?_)
      · replace h := h_iteF c h
        refine a_iconst dX11_isWord_75 ic_0 ?_
        refine a_istore_n (lv' := [(2, .int (0 : Int32)), (0, .ref 0), (1, .ref (49 + t1)), (3, .int v3)]) dX11_isWord_76 rfl (by decide) rfl ?_
        refine b_iinc (lv' := [(3, .int (v3 + (1 : Int32))), (2, .int (0 : Int32)), (0, .ref 0), (1, .ref (49 + t1))]) dX11_isWord_77 rfl ic_1 (by decide) rfl ?_
        refine a_goto (tgt := 40) dX11_isWord_80 (by decide) ?_
        refine a_sub (lv' := [(0, .ref 0), (1, .ref (49 + t1)), (2, .int (0 : Int32)), (3, .int (v3 + (1 : Int32)))]) [2, 3, 1, 0] rfl ?_
        exact hk40 t1 ht1 (0 : Int32) (v3 + (1 : Int32)) I J _ h
      · replace h := h_iteT c h
        refine a_iconst dX11_isWord_71 ic_1 ?_
        refine a_goto (tgt := 76) dX11_isWord_72 (by decide) ?_
        refine a_istore_n (lv' := [(2, .int (1 : Int32)), (0, .ref 0), (1, .ref (49 + t1)), (3, .int v3)]) dX11_isWord_76 rfl (by decide) rfl ?_
        refine b_iinc (lv' := [(3, .int (v3 + (1 : Int32))), (2, .int (1 : Int32)), (0, .ref 0), (1, .ref (49 + t1))]) dX11_isWord_77 rfl ic_1 (by decide) rfl ?_
        refine a_goto (tgt := 40) dX11_isWord_80 (by decide) ?_
        refine a_sub (lv' := [(0, .ref 0), (1, .ref (49 + t1)), (2, .int (1 : Int32)), (3, .int (v3 + (1 : Int32)))]) [2, 3, 1, 0] rfl ?_
        exact hk40 t1 ht1 (1 : Int32) (v3 + (1 : Int32)) I J _ h
def mM_isWord_L40  : Nat → Nat → Int32 → Int32 → hI → Option (Int32)
  | 0 => fun _ _ _ _ => none
  | n + 1 => mM_isWord_B40 (mM_isWord_L40 n)
theorem sM_isWord_L40 (d : Nat) (hd : 6 + 1 ≤ d) : ∀ (n : Nat) (t1 : Nat) (ht1 : t1 < 11) (v2 : Int32) (v3 : Int32) (I : hI) (J : hJ) (q : Int32) (h : mM_isWord_L40 n t1 v2 v3 I = some q), AW hFT cX11_isWord 4 (some .boolean) RX11 kdM d [(0, .ref 0), (1, .ref (49 + t1)), (2, .int v2), (3, .int v3)] 40 [] (I, J, RMm) (some (.int q)) (I, J, RMm)
  | 0, _, _, _, _, _, _, q, h => by cases h
  | n + 1, t1, ht1, v2, v3, I, J, q, h => sM_isWord_B40 d hd (mM_isWord_L40 n) (sM_isWord_L40 d hd n) t1 ht1 v2 v3 I J q h
def mM_isWord  (t1 : Nat) (I : hI) : Option (Int32) :=
  if (I 0 5) = (-1 : Int32) then
    (if (I 0 6) = (1 : Int32) then
      (if ((I 0 3) - (I 0 4)) = (h_sl t1) then
        mM_isWord_L40 hF t1 (1 : Int32) (0 : Int32) I
      else
        mM_isWord_L40 hF t1 (0 : Int32) (0 : Int32) I)
    else
      mM_isWord_L40 hF t1 (0 : Int32) (0 : Int32) I)
  else
    mM_isWord_L40 hF t1 (0 : Int32) (0 : Int32) I
set_option maxHeartbeats 4000000 in
theorem sM_isWord (d : Nat) (hd : 6 + 1 ≤ d) (t1 : Nat) (ht1 : t1 < 11) (I : hI) (J : hJ) (q : Int32) (h : mM_isWord t1 I = some q) : HMet hFT yX11_isWord cX11_isWord 4 (some .boolean) kdM d [.ref 0, .ref (49 + t1)] (I, J, RMm) (some (.int q)) (I, J, RMm) := by
  obtain ⟨d0, rfl, hd0⟩ := h_mono hd
  refine HMet.of (by decide) (Nat.le_of_ble_eq_true rfl) ?_
  show AW hFT cX11_isWord 4 (some .boolean) RX11 kdM (d0 + 1) [(0, .ref 0), (1, .ref (49 + t1))] 0 [] (I, J, RMm) (some (.int q)) (I, J, RMm)
  unfold mM_isWord at h
  refine a_aload_n dX11_isWord_0 rfl rfl ?_
  refine b_getI hK_11 km_0 (i := 5) rfl fl_11_200 rfl dX11_isWord_1 ?_
  refine a_iconst dX11_isWord_4 ic_m1 ?_
  refine a_icmp_ne (tgt := 36) dX11_isWord_5 (by decide) (fun c => ?_) (fun c => ?_)
  · replace h := h_iteF c h
    refine a_iconst dX11_isWord_36 ic_0 ?_
    refine a_istore_n (lv' := [(2, .int (0 : Int32)), (0, .ref 0), (1, .ref (49 + t1))]) dX11_isWord_37 rfl (by decide) rfl ?_
    refine a_iconst dX11_isWord_38 ic_0 ?_
    refine a_istore_n (lv' := [(3, .int (0 : Int32)), (2, .int (0 : Int32)), (0, .ref 0), (1, .ref (49 + t1))]) dX11_isWord_39 rfl (by decide) rfl ?_
    refine a_sub (lv' := [(0, .ref 0), (1, .ref (49 + t1)), (2, .int (0 : Int32)), (3, .int (0 : Int32))]) [2, 3, 1, 0] rfl ?_
    exact sM_isWord_L40 (d0 + 1) (by omega) hF t1 ht1 (0 : Int32) (0 : Int32) I J _ h
  · replace h := h_iteT c h
    refine a_aload_n dX11_isWord_8 rfl rfl ?_
    refine b_getI hK_11 km_0 (i := 6) rfl fl_11_181 rfl dX11_isWord_9 ?_
    refine a_iconst dX11_isWord_12 ic_1 ?_
    refine a_icmp_ne (tgt := 36) dX11_isWord_13 (by decide) (fun c => ?_) (fun c => ?_)
    · replace h := h_iteF c h
      refine a_iconst dX11_isWord_36 ic_0 ?_
      refine a_istore_n (lv' := [(2, .int (0 : Int32)), (0, .ref 0), (1, .ref (49 + t1))]) dX11_isWord_37 rfl (by decide) rfl ?_
      refine a_iconst dX11_isWord_38 ic_0 ?_
      refine a_istore_n (lv' := [(3, .int (0 : Int32)), (2, .int (0 : Int32)), (0, .ref 0), (1, .ref (49 + t1))]) dX11_isWord_39 rfl (by decide) rfl ?_
      refine a_sub (lv' := [(0, .ref 0), (1, .ref (49 + t1)), (2, .int (0 : Int32)), (3, .int (0 : Int32))]) [2, 3, 1, 0] rfl ?_
      exact sM_isWord_L40 (d0 + 1) (by omega) hF t1 ht1 (0 : Int32) (0 : Int32) I J _ h
    · replace h := h_iteT c h
      refine a_aload_n dX11_isWord_16 rfl rfl ?_
      refine b_getI hK_11 km_0 (i := 3) rfl fl_11_171 rfl dX11_isWord_17 ?_
      refine a_aload_n dX11_isWord_20 rfl rfl ?_
      refine b_getI hK_11 km_0 (i := 4) rfl fl_11_178 rfl dX11_isWord_21 ?_
      refine a_isub dX11_isWord_24 ?_
      refine a_aload_n dX11_isWord_25 rfl rfl ?_
      refine a_slen (i := t1) ht1 kdM_len ml_11_203 (Nat.le_of_ble_eq_true rfl) (by omega) dX11_isWord_26 ?_
      refine a_icmp_ne (tgt := 36) dX11_isWord_29 (by decide) (fun c => ?_) (fun c => ?_)
      · replace h := h_iteF c h
        refine a_iconst dX11_isWord_36 ic_0 ?_
        refine a_istore_n (lv' := [(2, .int (0 : Int32)), (0, .ref 0), (1, .ref (49 + t1))]) dX11_isWord_37 rfl (by decide) rfl ?_
        refine a_iconst dX11_isWord_38 ic_0 ?_
        refine a_istore_n (lv' := [(3, .int (0 : Int32)), (2, .int (0 : Int32)), (0, .ref 0), (1, .ref (49 + t1))]) dX11_isWord_39 rfl (by decide) rfl ?_
        refine a_sub (lv' := [(0, .ref 0), (1, .ref (49 + t1)), (2, .int (0 : Int32)), (3, .int (0 : Int32))]) [2, 3, 1, 0] rfl ?_
        exact sM_isWord_L40 (d0 + 1) (by omega) hF t1 ht1 (0 : Int32) (0 : Int32) I J _ h
      · replace h := h_iteT c h
        refine a_iconst dX11_isWord_32 ic_1 ?_
        refine a_goto (tgt := 37) dX11_isWord_33 (by decide) ?_
        refine a_istore_n (lv' := [(2, .int (1 : Int32)), (0, .ref 0), (1, .ref (49 + t1))]) dX11_isWord_37 rfl (by decide) rfl ?_
        refine a_iconst dX11_isWord_38 ic_0 ?_
        refine a_istore_n (lv' := [(3, .int (0 : Int32)), (2, .int (1 : Int32)), (0, .ref 0), (1, .ref (49 + t1))]) dX11_isWord_39 rfl (by decide) rfl ?_
        refine a_sub (lv' := [(0, .ref 0), (1, .ref (49 + t1)), (2, .int (1 : Int32)), (3, .int (0 : Int32))]) [2, 3, 1, 0] rfl ?_
        exact sM_isWord_L40 (d0 + 1) (by omega) hF t1 ht1 (1 : Int32) (0 : Int32) I J _ h
/-! CoinLoopsModel.takesWord(Ljava/lang/String;)Z -/
theorem dX11_takesWord_0 : decode cX11_takesWord 0 = .ok (.aload_n 0, 1) := by decide +kernel
theorem dX11_takesWord_1 : decode cX11_takesWord 1 = .ok (.aload_n 1, 1) := by decide +kernel
theorem dX11_takesWord_2 : decode cX11_takesWord 2 = .ok (.invokevirtual 212, 3) := by decide +kernel
theorem dX11_takesWord_5 : decode cX11_takesWord 5 = .ok (.istore_n 2, 1) := by decide +kernel
theorem dX11_takesWord_6 : decode cX11_takesWord 6 = .ok (.iload_n 2, 1) := by decide +kernel
theorem dX11_takesWord_7 : decode cX11_takesWord 7 = .ok (.ifCond .eq 7, 3) := by decide +kernel
theorem dX11_takesWord_10 : decode cX11_takesWord 10 = .ok (.aload_n 0, 1) := by decide +kernel
theorem dX11_takesWord_11 : decode cX11_takesWord 11 = .ok (.invokevirtual 216, 3) := by decide +kernel
theorem dX11_takesWord_14 : decode cX11_takesWord 14 = .ok (.iload_n 2, 1) := by decide +kernel
theorem dX11_takesWord_15 : decode cX11_takesWord 15 = .ok (.ireturn, 1) := by decide +kernel
def mM_takesWord  (t1 : Nat) (I : hI) : Option (Int32 × hI) :=
  (mM_isWord t1 I).bind fun q1 =>
  if q1 = 0 then
    (h_g (h_isZ q1) <|
    some (q1, I))
  else
    ((mM_next I).bind fun q2 =>
    h_g (h_isZ q1) <|
    some (q1, q2))
set_option maxHeartbeats 4000000 in
theorem sM_takesWord (d : Nat) (hd : 7 + 1 ≤ d) (t1 : Nat) (ht1 : t1 < 11) (I : hI) (J : hJ) (q : Int32 × hI) (h : mM_takesWord t1 I = some q) : HMet hFT yX11_takesWord cX11_takesWord 3 (some .boolean) kdM d [.ref 0, .ref (49 + t1)] (I, J, RMm) (some (.int q.1)) (q.2, J, RMm) := by
  obtain ⟨d0, rfl, hd0⟩ := h_mono hd
  refine HMet.of (by decide) (Nat.le_of_ble_eq_true rfl) ?_
  show AW hFT cX11_takesWord 3 (some .boolean) RX11 kdM (d0 + 1) [(0, .ref 0), (1, .ref (49 + t1))] 0 [] (I, J, RMm) (some (.int q.1)) (q.2, J, RMm)
  unfold mM_takesWord at h
  refine a_aload_n dX11_takesWord_0 rfl rfl ?_
  refine a_aload_n dX11_takesWord_1 rfl rfl ?_
  obtain ⟨q1, cq1, h⟩ := h_bindS h
  refine a_callV1 [] yy_X11_isWord ml_11_212 km_0 rfl (sM_isWord _ (by omega) t1 ht1 I J q1 cq1) rfl rfl (Nat.le_of_ble_eq_true rfl) dX11_takesWord_2 ?_
  refine a_istore_n (lv' := [(2, .int q1), (0, .ref 0), (1, .ref (49 + t1))]) dX11_takesWord_5 rfl (by decide) rfl ?_
  refine a_iload_n dX11_takesWord_6 rfl rfl ?_
  refine a_if_eq (tgt := 14) dX11_takesWord_7 (by decide) (fun c => ?_) (fun c => ?_)
  · replace h := h_iteT c h
    refine a_iload_n dX11_takesWord_14 rfl rfl ?_
    obtain ⟨g2, h⟩ := h_gS h
    cases h
    exact a_zret ((h_isZV g2).1) dX11_takesWord_15
  · replace h := h_iteF c h
    refine a_aload_n dX11_takesWord_10 rfl rfl ?_
    obtain ⟨q2, cq2, h⟩ := h_bindS h
    refine a_callV0 [] yy_X11_next ml_11_216 km_0 rfl (sM_next _ (by omega)  I J q2 cq2) rfl rfl (Nat.le_of_ble_eq_true rfl) dX11_takesWord_11 ?_
    refine a_iload_n dX11_takesWord_14 rfl rfl ?_
    obtain ⟨g3, h⟩ := h_gS h
    cases h
    exact a_zret ((h_isZV g3).1) dX11_takesWord_15
/-! CoinLoopsModel.isSign(I)Z -/
theorem dX11_isSign_0 : decode cX11_isSign 0 = .ok (.aload_n 0, 1) := by decide +kernel
theorem dX11_isSign_1 : decode cX11_isSign 1 = .ok (.getfield 200, 3) := by decide +kernel
theorem dX11_isSign_4 : decode cX11_isSign 4 = .ok (.iconst (-1), 1) := by decide +kernel
theorem dX11_isSign_5 : decode cX11_isSign 5 = .ok (.if_icmp .ne 28, 3) := by decide +kernel
theorem dX11_isSign_8 : decode cX11_isSign 8 = .ok (.aload_n 0, 1) := by decide +kernel
theorem dX11_isSign_9 : decode cX11_isSign 9 = .ok (.getfield 181, 3) := by decide +kernel
theorem dX11_isSign_12 : decode cX11_isSign 12 = .ok (.iconst 3, 1) := by decide +kernel
theorem dX11_isSign_13 : decode cX11_isSign 13 = .ok (.if_icmp .ne 20, 3) := by decide +kernel
theorem dX11_isSign_16 : decode cX11_isSign 16 = .ok (.aload_n 0, 1) := by decide +kernel
theorem dX11_isSign_17 : decode cX11_isSign 17 = .ok (.getfield 9, 3) := by decide +kernel
theorem dX11_isSign_20 : decode cX11_isSign 20 = .ok (.aload_n 0, 1) := by decide +kernel
theorem dX11_isSign_21 : decode cX11_isSign 21 = .ok (.getfield 178, 3) := by decide +kernel
theorem dX11_isSign_24 : decode cX11_isSign 24 = .ok (.iaload, 1) := by decide +kernel
theorem dX11_isSign_25 : decode cX11_isSign 25 = .ok (.iload_n 1, 1) := by decide +kernel
theorem dX11_isSign_26 : decode cX11_isSign 26 = .ok (.if_icmp .ne 7, 3) := by decide +kernel
theorem dX11_isSign_29 : decode cX11_isSign 29 = .ok (.iconst 1, 1) := by decide +kernel
theorem dX11_isSign_30 : decode cX11_isSign 30 = .ok (.goto 4, 3) := by decide +kernel
theorem dX11_isSign_33 : decode cX11_isSign 33 = .ok (.iconst 0, 1) := by decide +kernel
theorem dX11_isSign_34 : decode cX11_isSign 34 = .ok (.ireturn, 1) := by decide +kernel
def mM_isSign  (v1 : Int32) (I : hI) : Option (Int32) :=
  if (I 0 5) = (-1 : Int32) then
    (if (I 0 6) = (3 : Int32) then
      (h_g (h_in (I 0 4) 500) <|
      if (I 1 (I 0 4).toNatClampNeg) = v1 then
        some (1 : Int32)
      else
        some (0 : Int32))
    else
      some (0 : Int32))
  else
    some (0 : Int32)
set_option maxHeartbeats 4000000 in
theorem sM_isSign (d : Nat) (hd : 0 ≤ d) (v1 : Int32) (I : hI) (J : hJ) (q : Int32) (h : mM_isSign v1 I = some q) : HMet hFT yX11_isSign cX11_isSign 2 (some .boolean) kdM d [.ref 0, .int v1] (I, J, RMm) (some (.int q)) (I, J, RMm) := by
  refine HMet.of (by decide) (Nat.le_of_ble_eq_true rfl) ?_
  show AW hFT cX11_isSign 2 (some .boolean) RX11 kdM d [(0, .ref 0), (1, .int v1)] 0 [] (I, J, RMm) (some (.int q)) (I, J, RMm)
  unfold mM_isSign at h
  refine a_aload_n dX11_isSign_0 rfl rfl ?_
  refine b_getI hK_11 km_0 (i := 5) rfl fl_11_200 rfl dX11_isSign_1 ?_
  refine a_iconst dX11_isSign_4 ic_m1 ?_
  refine a_icmp_ne (tgt := 33) dX11_isSign_5 (by decide) (fun c => ?_) (fun c => ?_)
  · replace h := h_iteF c h
    refine a_iconst dX11_isSign_33 ic_0 ?_
    cases h
    exact a_zret (h_Z0.1) dX11_isSign_34
  · replace h := h_iteT c h
    refine a_aload_n dX11_isSign_8 rfl rfl ?_
    refine b_getI hK_11 km_0 (i := 6) rfl fl_11_181 rfl dX11_isSign_9 ?_
    refine a_iconst dX11_isSign_12 ic_3 ?_
    refine a_icmp_ne (tgt := 33) dX11_isSign_13 (by decide) (fun c => ?_) (fun c => ?_)
    · replace h := h_iteF c h
      refine a_iconst dX11_isSign_33 ic_0 ?_
      cases h
      exact a_zret (h_Z0.1) dX11_isSign_34
    · replace h := h_iteT c h
      refine a_aload_n dX11_isSign_16 rfl rfl ?_
      refine b_getR hK_11 km_0 (i := 1) rfl fl_11_9 rfl rmm_1 dX11_isSign_17 ?_
      refine a_aload_n dX11_isSign_20 rfl rfl ?_
      refine b_getI hK_11 km_0 (i := 4) rfl fl_11_178 rfl dX11_isSign_21 ?_
      obtain ⟨g1, h⟩ := h_gS h
      refine b_iaload km_1 (h_inV g1) dX11_isSign_24 ?_
      refine a_iload_n dX11_isSign_25 rfl rfl ?_
      refine a_icmp_ne (tgt := 33) dX11_isSign_26 (by decide) (fun c => ?_) (fun c => ?_)
      · replace h := h_iteF c h
        refine a_iconst dX11_isSign_33 ic_0 ?_
        cases h
        exact a_zret (h_Z0.1) dX11_isSign_34
      · replace h := h_iteT c h
        refine a_iconst dX11_isSign_29 ic_1 ?_
        refine a_goto (tgt := 34) dX11_isSign_30 (by decide) ?_
        cases h
        exact a_zret (h_Z1.1) dX11_isSign_34
/-! CoinLoopsModel.takes(I)Z -/
theorem dX11_takes_0 : decode cX11_takes 0 = .ok (.aload_n 0, 1) := by decide +kernel
theorem dX11_takes_1 : decode cX11_takes 1 = .ok (.iload_n 1, 1) := by decide +kernel
theorem dX11_takes_2 : decode cX11_takes 2 = .ok (.invokevirtual 219, 3) := by decide +kernel
theorem dX11_takes_5 : decode cX11_takes 5 = .ok (.istore_n 2, 1) := by decide +kernel
theorem dX11_takes_6 : decode cX11_takes 6 = .ok (.iload_n 2, 1) := by decide +kernel
theorem dX11_takes_7 : decode cX11_takes 7 = .ok (.ifCond .eq 7, 3) := by decide +kernel
theorem dX11_takes_10 : decode cX11_takes 10 = .ok (.aload_n 0, 1) := by decide +kernel
theorem dX11_takes_11 : decode cX11_takes 11 = .ok (.invokevirtual 216, 3) := by decide +kernel
theorem dX11_takes_14 : decode cX11_takes 14 = .ok (.iload_n 2, 1) := by decide +kernel
theorem dX11_takes_15 : decode cX11_takes 15 = .ok (.ireturn, 1) := by decide +kernel
def mM_takes  (v1 : Int32) (I : hI) : Option (Int32 × hI) :=
  (mM_isSign v1 I).bind fun q1 =>
  if q1 = 0 then
    (h_g (h_isZ q1) <|
    some (q1, I))
  else
    ((mM_next I).bind fun q2 =>
    h_g (h_isZ q1) <|
    some (q1, q2))
set_option maxHeartbeats 4000000 in
theorem sM_takes (d : Nat) (hd : 1 + 1 ≤ d) (v1 : Int32) (I : hI) (J : hJ) (q : Int32 × hI) (h : mM_takes v1 I = some q) : HMet hFT yX11_takes cX11_takes 3 (some .boolean) kdM d [.ref 0, .int v1] (I, J, RMm) (some (.int q.1)) (q.2, J, RMm) := by
  obtain ⟨d0, rfl, hd0⟩ := h_mono hd
  refine HMet.of (by decide) (Nat.le_of_ble_eq_true rfl) ?_
  show AW hFT cX11_takes 3 (some .boolean) RX11 kdM (d0 + 1) [(0, .ref 0), (1, .int v1)] 0 [] (I, J, RMm) (some (.int q.1)) (q.2, J, RMm)
  unfold mM_takes at h
  refine a_aload_n dX11_takes_0 rfl rfl ?_
  refine a_iload_n dX11_takes_1 rfl rfl ?_
  obtain ⟨q1, cq1, h⟩ := h_bindS h
  refine a_callV1 [] yy_X11_isSign ml_11_219 km_0 rfl (sM_isSign _ (by omega) v1 I J q1 cq1) rfl rfl (Nat.le_of_ble_eq_true rfl) dX11_takes_2 ?_
  refine a_istore_n (lv' := [(2, .int q1), (0, .ref 0), (1, .int v1)]) dX11_takes_5 rfl (by decide) rfl ?_
  refine a_iload_n dX11_takes_6 rfl rfl ?_
  refine a_if_eq (tgt := 14) dX11_takes_7 (by decide) (fun c => ?_) (fun c => ?_)
  · replace h := h_iteT c h
    refine a_iload_n dX11_takes_14 rfl rfl ?_
    obtain ⟨g2, h⟩ := h_gS h
    cases h
    exact a_zret ((h_isZV g2).1) dX11_takes_15
  · replace h := h_iteF c h
    refine a_aload_n dX11_takes_10 rfl rfl ?_
    obtain ⟨q2, cq2, h⟩ := h_bindS h
    refine a_callV0 [] yy_X11_next ml_11_216 km_0 rfl (sM_next _ (by omega)  I J q2 cq2) rfl rfl (Nat.le_of_ble_eq_true rfl) dX11_takes_11 ?_
    refine a_iload_n dX11_takes_14 rfl rfl ?_
    obtain ⟨g3, h⟩ := h_gS h
    cases h
    exact a_zret ((h_isZV g3).1) dX11_takes_15
/-! CoinLoopsModel.must(I)V -/
theorem dX11_must_0 : decode cX11_must 0 = .ok (.aload_n 0, 1) := by decide +kernel
theorem dX11_must_1 : decode cX11_must 1 = .ok (.iload_n 1, 1) := by decide +kernel
theorem dX11_must_2 : decode cX11_must 2 = .ok (.invokevirtual 222, 3) := by decide +kernel
theorem dX11_must_5 : decode cX11_must 5 = .ok (.ifCond .ne 7, 3) := by decide +kernel
theorem dX11_must_8 : decode cX11_must 8 = .ok (.aload_n 0, 1) := by decide +kernel
theorem dX11_must_9 : decode cX11_must 9 = .ok (.invokevirtual 225, 3) := by decide +kernel
theorem dX11_must_12 : decode cX11_must 12 = .ok (.return_, 1) := by decide +kernel
def mM_must  (v1 : Int32) (I : hI) : Option (hI) :=
  (mM_takes v1 I).bind fun q1 =>
  if q1.1 = 0 then
    (h_let (mM_bad q1.2) fun q2 =>
    some q2)
  else
    some q1.2
set_option maxHeartbeats 4000000 in
theorem sM_must (d : Nat) (hd : 2 + 1 ≤ d) (v1 : Int32) (I : hI) (J : hJ) (q : hI) (h : mM_must v1 I = some q) : HMet hFT yX11_must cX11_must 2 none kdM d [.ref 0, .int v1] (I, J, RMm) none (q, J, RMm) := by
  obtain ⟨d0, rfl, hd0⟩ := h_mono hd
  refine HMet.of (by decide) (Nat.le_of_ble_eq_true rfl) ?_
  show AW hFT cX11_must 2 none RX11 kdM (d0 + 1) [(0, .ref 0), (1, .int v1)] 0 [] (I, J, RMm) none (q, J, RMm)
  unfold mM_must at h
  refine a_aload_n dX11_must_0 rfl rfl ?_
  refine a_iload_n dX11_must_1 rfl rfl ?_
  obtain ⟨q1, cq1, h⟩ := h_bindS h
  refine a_callV1 [] yy_X11_takes ml_11_222 km_0 rfl (sM_takes _ (by omega) v1 I J q1 cq1) rfl rfl (Nat.le_of_ble_eq_true rfl) dX11_must_2 ?_
  refine a_if_ne (tgt := 12) dX11_must_5 (by decide) (fun c => ?_) (fun c => ?_)
  · replace h := h_iteF c h
    cases h
    exact a_vret dX11_must_12
  · replace h := h_iteT c h
    refine a_aload_n dX11_must_8 rfl rfl ?_
    obtain ⟨q2, cq2, h⟩ := h_letS h
    refine a_callV0 [] yy_X11_bad ml_11_225 km_0 rfl (sM_bad _ (by omega)  q1.2 J q2 cq2) rfl rfl (Nat.le_of_ble_eq_true rfl) dX11_must_9 ?_
    cases h
    exact a_vret dX11_must_12
/-! CoinLoopsModel.takesNumber(II)I -/
theorem dX11_takesNumber_0 : decode cX11_takesNumber 0 = .ok (.aload_n 0, 1) := by decide +kernel
theorem dX11_takesNumber_1 : decode cX11_takesNumber 1 = .ok (.getfield 200, 3) := by decide +kernel
theorem dX11_takesNumber_4 : decode cX11_takesNumber 4 = .ok (.iconst (-1), 1) := by decide +kernel
theorem dX11_takesNumber_5 : decode cX11_takesNumber 5 = .ok (.if_icmp .ne 26, 3) := by decide +kernel
theorem dX11_takesNumber_8 : decode cX11_takesNumber 8 = .ok (.aload_n 0, 1) := by decide +kernel
theorem dX11_takesNumber_9 : decode cX11_takesNumber 9 = .ok (.getfield 181, 3) := by decide +kernel
theorem dX11_takesNumber_12 : decode cX11_takesNumber 12 = .ok (.iconst 2, 1) := by decide +kernel
theorem dX11_takesNumber_13 : decode cX11_takesNumber 13 = .ok (.if_icmp .ne 18, 3) := by decide +kernel
theorem dX11_takesNumber_16 : decode cX11_takesNumber 16 = .ok (.aload_n 0, 1) := by decide +kernel
theorem dX11_takesNumber_17 : decode cX11_takesNumber 17 = .ok (.getfield 191, 3) := by decide +kernel
theorem dX11_takesNumber_20 : decode cX11_takesNumber 20 = .ok (.i2l, 1) := by decide +kernel
theorem dX11_takesNumber_21 : decode cX11_takesNumber 21 = .ok (.iload_n 1, 1) := by decide +kernel
theorem dX11_takesNumber_22 : decode cX11_takesNumber 22 = .ok (.i2l, 1) := by decide +kernel
theorem dX11_takesNumber_23 : decode cX11_takesNumber 23 = .ok (.iload_n 2, 1) := by decide +kernel
theorem dX11_takesNumber_24 : decode cX11_takesNumber 24 = .ok (.i2l, 1) := by decide +kernel
theorem dX11_takesNumber_25 : decode cX11_takesNumber 25 = .ok (.invokestatic 167, 3) := by decide +kernel
theorem dX11_takesNumber_28 : decode cX11_takesNumber 28 = .ok (.ifCond .ne 9, 3) := by decide +kernel
theorem dX11_takesNumber_31 : decode cX11_takesNumber 31 = .ok (.aload_n 0, 1) := by decide +kernel
theorem dX11_takesNumber_32 : decode cX11_takesNumber 32 = .ok (.invokevirtual 225, 3) := by decide +kernel
theorem dX11_takesNumber_35 : decode cX11_takesNumber 35 = .ok (.iload_n 1, 1) := by decide +kernel
theorem dX11_takesNumber_36 : decode cX11_takesNumber 36 = .ok (.ireturn, 1) := by decide +kernel
theorem dX11_takesNumber_37 : decode cX11_takesNumber 37 = .ok (.aload_n 0, 1) := by decide +kernel
theorem dX11_takesNumber_38 : decode cX11_takesNumber 38 = .ok (.getfield 191, 3) := by decide +kernel
theorem dX11_takesNumber_41 : decode cX11_takesNumber 41 = .ok (.istore_n 3, 1) := by decide +kernel
theorem dX11_takesNumber_42 : decode cX11_takesNumber 42 = .ok (.aload_n 0, 1) := by decide +kernel
theorem dX11_takesNumber_43 : decode cX11_takesNumber 43 = .ok (.invokevirtual 216, 3) := by decide +kernel
theorem dX11_takesNumber_46 : decode cX11_takesNumber 46 = .ok (.iload_n 3, 1) := by decide +kernel
theorem dX11_takesNumber_47 : decode cX11_takesNumber 47 = .ok (.ireturn, 1) := by decide +kernel
def mM_takesNumber_31  (v1 : Int32) (I : hI) : Option (Int32 × hI) :=
  h_let (mM_bad I) fun q1 =>
  some (v1, q1)
set_option maxHeartbeats 4000000 in
theorem sM_takesNumber_31 (d : Nat) (hd : 1 + 1 ≤ d) (v1 : Int32) (I : hI) (J : hJ) (q : Int32 × hI) (h : mM_takesNumber_31 v1 I = some q) : AW hFT cX11_takesNumber 4 (some .int) RX11 kdM d [(0, .ref 0), (1, .int v1)] 31 [] (I, J, RMm) (some (.int q.1)) (q.2, J, RMm) := by
  obtain ⟨d0, rfl, hd0⟩ := h_mono hd
  unfold mM_takesNumber_31 at h
  refine a_aload_n dX11_takesNumber_31 rfl rfl ?_
  obtain ⟨q1, cq1, h⟩ := h_letS h
  refine a_callV0 [] yy_X11_bad ml_11_225 km_0 rfl (sM_bad _ (by omega)  I J q1 cq1) rfl rfl (Nat.le_of_ble_eq_true rfl) dX11_takesNumber_32 ?_
  refine a_iload_n dX11_takesNumber_35 rfl rfl ?_
  cases h
  exact a_iret dX11_takesNumber_36
def mM_takesNumber  (v1 : Int32) (v2 : Int32) (I : hI) : Option (Int32 × hI) :=
  if (I 0 5) = (-1 : Int32) then
    (if (I 0 6) = (2 : Int32) then
      (if (mM_in ((I 0 7).toInt64) v1.toInt64 v2.toInt64) = 0 then
        mM_takesNumber_31 v1 I
      else
        (h_let (I 0 7) fun v3x0 =>
        (mM_next I).bind fun q2 =>
        some (v3x0, q2)))
    else
      mM_takesNumber_31 v1 I)
  else
    mM_takesNumber_31 v1 I
set_option maxHeartbeats 4000000 in
theorem sM_takesNumber (d : Nat) (hd : 1 + 1 ≤ d) (v1 : Int32) (v2 : Int32) (I : hI) (J : hJ) (q : Int32 × hI) (h : mM_takesNumber v1 v2 I = some q) : HMet hFT yX11_takesNumber cX11_takesNumber 4 (some .int) kdM d [.ref 0, .int v1, .int v2] (I, J, RMm) (some (.int q.1)) (q.2, J, RMm) := by
  obtain ⟨d0, rfl, hd0⟩ := h_mono hd
  refine HMet.of (by decide) (Nat.le_of_ble_eq_true rfl) ?_
  show AW hFT cX11_takesNumber 4 (some .int) RX11 kdM (d0 + 1) [(0, .ref 0), (1, .int v1), (2, .int v2)] 0 [] (I, J, RMm) (some (.int q.1)) (q.2, J, RMm)
  unfold mM_takesNumber at h
  refine a_aload_n dX11_takesNumber_0 rfl rfl ?_
  refine b_getI hK_11 km_0 (i := 5) rfl fl_11_200 rfl dX11_takesNumber_1 ?_
  refine a_iconst dX11_takesNumber_4 ic_m1 ?_
  refine a_icmp_ne (tgt := 31) dX11_takesNumber_5 (by decide) (fun c => ?_) (fun c => ?_)
  · replace h := h_iteF c h
    refine a_sub (lv' := [(0, .ref 0), (1, .int v1)]) [0, 1] rfl ?_
    exact sM_takesNumber_31 (d0 + 1) (by omega) v1 I J _ h
  · replace h := h_iteT c h
    refine a_aload_n dX11_takesNumber_8 rfl rfl ?_
    refine b_getI hK_11 km_0 (i := 6) rfl fl_11_181 rfl dX11_takesNumber_9 ?_
    refine a_iconst dX11_takesNumber_12 ic_2 ?_
    refine a_icmp_ne (tgt := 31) dX11_takesNumber_13 (by decide) (fun c => ?_) (fun c => ?_)
    · replace h := h_iteF c h
      refine a_sub (lv' := [(0, .ref 0), (1, .int v1)]) [0, 1] rfl ?_
      exact sM_takesNumber_31 (d0 + 1) (by omega) v1 I J _ h
    · replace h := h_iteT c h
      refine a_aload_n dX11_takesNumber_16 rfl rfl ?_
      refine b_getI hK_11 km_0 (i := 7) rfl fl_11_191 rfl dX11_takesNumber_17 ?_
      refine a_i2l dX11_takesNumber_20 ?_
      refine a_iload_n dX11_takesNumber_21 rfl rfl ?_
      refine a_i2l dX11_takesNumber_22 ?_
      refine a_iload_n dX11_takesNumber_23 rfl rfl ?_
      refine a_i2l dX11_takesNumber_24 ?_
      refine a_callS1 [] yy_X11_in ml_11_167 (sM_in _ (by omega) ((I 0 7).toInt64) v1.toInt64 v2.toInt64 I J _ rfl) rfl rfl (Nat.le_of_ble_eq_true rfl) dX11_takesNumber_25 ?_
      refine a_if_ne (tgt := 37) dX11_takesNumber_28 (by decide) (fun c => ?_) (fun c => ?_)
      · replace h := h_iteF c h
        refine a_aload_n dX11_takesNumber_37 rfl rfl ?_
        refine b_getI hK_11 km_0 (i := 7) rfl fl_11_191 rfl dX11_takesNumber_38 ?_
        obtain ⟨v3x0, ev3x0, h⟩ := h_letS h
        refine a_topI ev3x0 ?_
        refine a_istore_n (lv' := [(3, .int v3x0), (0, .ref 0), (1, .int v1), (2, .int v2)]) dX11_takesNumber_41 rfl (by decide) rfl ?_
        refine a_aload_n dX11_takesNumber_42 rfl rfl ?_
        obtain ⟨q2, cq2, h⟩ := h_bindS h
        refine a_callV0 [] yy_X11_next ml_11_216 km_0 rfl (sM_next _ (by omega)  I J q2 cq2) rfl rfl (Nat.le_of_ble_eq_true rfl) dX11_takesNumber_43 ?_
        refine a_iload_n dX11_takesNumber_46 rfl rfl ?_
        cases h
        exact a_iret dX11_takesNumber_47
      · replace h := h_iteT c h
        refine a_sub (lv' := [(0, .ref 0), (1, .int v1)]) [0, 1] rfl ?_
        exact sM_takesNumber_31 (d0 + 1) (by omega) v1 I J _ h
/-! CoinLoopsModel.over()V -/
theorem dX11_over_0 : decode cX11_over 0 = .ok (.aload_n 0, 1) := by decide +kernel
theorem dX11_over_1 : decode cX11_over 1 = .ok (.getfield 200, 3) := by decide +kernel
theorem dX11_over_4 : decode cX11_over 4 = .ok (.iconst (-1), 1) := by decide +kernel
theorem dX11_over_5 : decode cX11_over 5 = .ok (.if_icmp .ne 14, 3) := by decide +kernel
theorem dX11_over_8 : decode cX11_over 8 = .ok (.aload_n 0, 1) := by decide +kernel
theorem dX11_over_9 : decode cX11_over 9 = .ok (.getfield 181, 3) := by decide +kernel
theorem dX11_over_12 : decode cX11_over 12 = .ok (.ifCond .eq 7, 3) := by decide +kernel
theorem dX11_over_15 : decode cX11_over 15 = .ok (.aload_n 0, 1) := by decide +kernel
theorem dX11_over_16 : decode cX11_over 16 = .ok (.invokevirtual 225, 3) := by decide +kernel
theorem dX11_over_19 : decode cX11_over 19 = .ok (.return_, 1) := by decide +kernel
def mM_over   (I : hI) : hI :=
  if (I 0 5) = (-1 : Int32) then
    (if (I 0 6) = 0 then
      I
    else
      (h_let (mM_bad I) fun q1 =>
      q1))
  else
    I
set_option maxHeartbeats 4000000 in
theorem sM_over (d : Nat) (hd : 0 + 1 ≤ d)  (I : hI) (J : hJ) (q : hI) (h : mM_over I = q) : HMet hFT yX11_over cX11_over 1 none kdM d [.ref 0] (I, J, RMm) none (q, J, RMm) := by
  obtain ⟨d0, rfl, hd0⟩ := h_mono hd
  refine HMet.of (by decide) (Nat.le_of_ble_eq_true rfl) ?_
  show AW hFT cX11_over 1 none RX11 kdM (d0 + 1) [(0, .ref 0)] 0 [] (I, J, RMm) none (q, J, RMm)
  unfold mM_over at h
  refine a_aload_n dX11_over_0 rfl rfl ?_
  refine b_getI hK_11 km_0 (i := 5) rfl fl_11_200 rfl dX11_over_1 ?_
  refine a_iconst dX11_over_4 ic_m1 ?_
  refine a_icmp_ne (tgt := 19) dX11_over_5 (by decide) (fun c => ?_) (fun c => ?_)
  · replace h := h_iteF c h
    cases h
    exact a_vret dX11_over_19
  · replace h := h_iteT c h
    refine a_aload_n dX11_over_8 rfl rfl ?_
    refine b_getI hK_11 km_0 (i := 6) rfl fl_11_181 rfl dX11_over_9 ?_
    refine a_if_eq (tgt := 19) dX11_over_12 (by decide) (fun c => ?_) (fun c => ?_)
    · replace h := h_iteT c h
      cases h
      exact a_vret dX11_over_19
    · replace h := h_iteF c h
      refine a_aload_n dX11_over_15 rfl rfl ?_
      obtain ⟨q1, cq1, h⟩ := h_letS h
      refine a_callV0 [] yy_X11_bad ml_11_225 km_0 rfl (sM_bad _ (by omega)  I J q1 cq1) rfl rfl (Nat.le_of_ble_eq_true rfl) dX11_over_16 ?_
      cases h
      exact a_vret dX11_over_19
/-! CoinLoopsModel.takesPart(II)V -/
theorem dX11_takesPart_0 : decode cX11_takesPart 0 = .ok (.aload_n 0, 1) := by decide +kernel
theorem dX11_takesPart_1 : decode cX11_takesPart 1 = .ok (.getfield 200, 3) := by decide +kernel
theorem dX11_takesPart_4 : decode cX11_takesPart 4 = .ok (.iconst (-1), 1) := by decide +kernel
theorem dX11_takesPart_5 : decode cX11_takesPart 5 = .ok (.if_icmp .eq 4, 3) := by decide +kernel
theorem dX11_takesPart_8 : decode cX11_takesPart 8 = .ok (.return_, 1) := by decide +kernel
theorem dX11_takesPart_9 : decode cX11_takesPart 9 = .ok (.iconst 1, 1) := by decide +kernel
theorem dX11_takesPart_10 : decode cX11_takesPart 10 = .ok (.istore_n 3, 1) := by decide +kernel
theorem dX11_takesPart_11 : decode cX11_takesPart 11 = .ok (.aload_n 0, 1) := by decide +kernel
theorem dX11_takesPart_12 : decode cX11_takesPart 12 = .ok (.getfield 181, 3) := by decide +kernel
theorem dX11_takesPart_15 : decode cX11_takesPart 15 = .ok (.iconst 2, 1) := by decide +kernel
theorem dX11_takesPart_16 : decode cX11_takesPart 16 = .ok (.if_icmp .ne 7, 3) := by decide +kernel
theorem dX11_takesPart_19 : decode cX11_takesPart 19 = .ok (.iconst 1, 1) := by decide +kernel
theorem dX11_takesPart_20 : decode cX11_takesPart 20 = .ok (.goto 4, 3) := by decide +kernel
theorem dX11_takesPart_23 : decode cX11_takesPart 23 = .ok (.iconst 0, 1) := by decide +kernel
theorem dX11_takesPart_24 : decode cX11_takesPart 24 = .ok (.istore 4, 2) := by decide +kernel
theorem dX11_takesPart_26 : decode cX11_takesPart 26 = .ok (.iload 4, 2) := by decide +kernel
theorem dX11_takesPart_28 : decode cX11_takesPart 28 = .ok (.ifCond .eq 11, 3) := by decide +kernel
theorem dX11_takesPart_31 : decode cX11_takesPart 31 = .ok (.aload_n 0, 1) := by decide +kernel
theorem dX11_takesPart_32 : decode cX11_takesPart 32 = .ok (.iconst 0, 1) := by decide +kernel
theorem dX11_takesPart_33 : decode cX11_takesPart 33 = .ok (.bipush 99, 2) := by decide +kernel
theorem dX11_takesPart_35 : decode cX11_takesPart 35 = .ok (.invokevirtual 228, 3) := by decide +kernel
theorem dX11_takesPart_38 : decode cX11_takesPart 38 = .ok (.istore_n 3, 1) := by decide +kernel
theorem dX11_takesPart_39 : decode cX11_takesPart 39 = .ok (.aload_n 0, 1) := by decide +kernel
theorem dX11_takesPart_40 : decode cX11_takesPart 40 = .ok (.ldc 231, 2) := by decide +kernel
theorem dX11_takesPart_42 : decode cX11_takesPart 42 = .ok (.invokevirtual 233, 3) := by decide +kernel
theorem dX11_takesPart_45 : decode cX11_takesPart 45 = .ok (.ifCond .eq 18, 3) := by decide +kernel
theorem dX11_takesPart_48 : decode cX11_takesPart 48 = .ok (.aload_n 0, 1) := by decide +kernel
theorem dX11_takesPart_49 : decode cX11_takesPart 49 = .ok (.getfield 16, 3) := by decide +kernel
theorem dX11_takesPart_52 : decode cX11_takesPart 52 = .ok (.iload_n 1, 1) := by decide +kernel
theorem dX11_takesPart_53 : decode cX11_takesPart 53 = .ok (.dup2, 1) := by decide +kernel
theorem dX11_takesPart_54 : decode cX11_takesPart 54 = .ok (.iaload, 1) := by decide +kernel
theorem dX11_takesPart_55 : decode cX11_takesPart 55 = .ok (.iload_n 2, 1) := by decide +kernel
theorem dX11_takesPart_56 : decode cX11_takesPart 56 = .ok (.iload_n 3, 1) := by decide +kernel
theorem dX11_takesPart_57 : decode cX11_takesPart 57 = .ok (.imul, 1) := by decide +kernel
theorem dX11_takesPart_58 : decode cX11_takesPart 58 = .ok (.iadd, 1) := by decide +kernel
theorem dX11_takesPart_59 : decode cX11_takesPart 59 = .ok (.iastore, 1) := by decide +kernel
theorem dX11_takesPart_60 : decode cX11_takesPart 60 = .ok (.goto 51, 3) := by decide +kernel
theorem dX11_takesPart_63 : decode cX11_takesPart 63 = .ok (.aload_n 0, 1) := by decide +kernel
theorem dX11_takesPart_64 : decode cX11_takesPart 64 = .ok (.ldc 236, 2) := by decide +kernel
theorem dX11_takesPart_66 : decode cX11_takesPart 66 = .ok (.invokevirtual 233, 3) := by decide +kernel
theorem dX11_takesPart_69 : decode cX11_takesPart 69 = .ok (.ifCond .eq 18, 3) := by decide +kernel
theorem dX11_takesPart_72 : decode cX11_takesPart 72 = .ok (.aload_n 0, 1) := by decide +kernel
theorem dX11_takesPart_73 : decode cX11_takesPart 73 = .ok (.getfield 19, 3) := by decide +kernel
theorem dX11_takesPart_76 : decode cX11_takesPart 76 = .ok (.iload_n 1, 1) := by decide +kernel
theorem dX11_takesPart_77 : decode cX11_takesPart 77 = .ok (.dup2, 1) := by decide +kernel
theorem dX11_takesPart_78 : decode cX11_takesPart 78 = .ok (.iaload, 1) := by decide +kernel
theorem dX11_takesPart_79 : decode cX11_takesPart 79 = .ok (.iload_n 2, 1) := by decide +kernel
theorem dX11_takesPart_80 : decode cX11_takesPart 80 = .ok (.iload_n 3, 1) := by decide +kernel
theorem dX11_takesPart_81 : decode cX11_takesPart 81 = .ok (.imul, 1) := by decide +kernel
theorem dX11_takesPart_82 : decode cX11_takesPart 82 = .ok (.iadd, 1) := by decide +kernel
theorem dX11_takesPart_83 : decode cX11_takesPart 83 = .ok (.iastore, 1) := by decide +kernel
theorem dX11_takesPart_84 : decode cX11_takesPart 84 = .ok (.goto 27, 3) := by decide +kernel
theorem dX11_takesPart_87 : decode cX11_takesPart 87 = .ok (.iload 4, 2) := by decide +kernel
theorem dX11_takesPart_89 : decode cX11_takesPart 89 = .ok (.ifCond .eq 18, 3) := by decide +kernel
theorem dX11_takesPart_92 : decode cX11_takesPart 92 = .ok (.aload_n 0, 1) := by decide +kernel
theorem dX11_takesPart_93 : decode cX11_takesPart 93 = .ok (.getfield 13, 3) := by decide +kernel
theorem dX11_takesPart_96 : decode cX11_takesPart 96 = .ok (.iload_n 1, 1) := by decide +kernel
theorem dX11_takesPart_97 : decode cX11_takesPart 97 = .ok (.dup2, 1) := by decide +kernel
theorem dX11_takesPart_98 : decode cX11_takesPart 98 = .ok (.iaload, 1) := by decide +kernel
theorem dX11_takesPart_99 : decode cX11_takesPart 99 = .ok (.iload_n 2, 1) := by decide +kernel
theorem dX11_takesPart_100 : decode cX11_takesPart 100 = .ok (.iload_n 3, 1) := by decide +kernel
theorem dX11_takesPart_101 : decode cX11_takesPart 101 = .ok (.imul, 1) := by decide +kernel
theorem dX11_takesPart_102 : decode cX11_takesPart 102 = .ok (.iadd, 1) := by decide +kernel
theorem dX11_takesPart_103 : decode cX11_takesPart 103 = .ok (.iastore, 1) := by decide +kernel
theorem dX11_takesPart_104 : decode cX11_takesPart 104 = .ok (.goto 7, 3) := by decide +kernel
theorem dX11_takesPart_107 : decode cX11_takesPart 107 = .ok (.aload_n 0, 1) := by decide +kernel
theorem dX11_takesPart_108 : decode cX11_takesPart 108 = .ok (.invokevirtual 225, 3) := by decide +kernel
theorem dX11_takesPart_111 : decode cX11_takesPart 111 = .ok (.return_, 1) := by decide +kernel
def mM_takesPart_39  (v1 : Int32) (v2 : Int32) (v3 : Int32) (v4 : Int32) (I : hI) : Option (hI) :=
  (mM_takesWord 0 I).bind fun q1 =>
  if q1.1 = 0 then
    ((mM_takesWord 1 q1.2).bind fun q2 =>
    if q2.1 = 0 then
      (if v4 = 0 then
        (h_let (mM_bad q2.2) fun q3 =>
        some q3)
      else
        (h_g (h_in v1 1000) <|
        h_g (h_in v1 1000) <|
        h_let (h_u q2.2 2 v1.toNatClampNeg ((q2.2 2 v1.toNatClampNeg) + (v2 * v3))) fun I5 =>
        some I5))
    else
      (h_g (h_in v1 1000) <|
      h_g (h_in v1 1000) <|
      h_let (h_u q2.2 4 v1.toNatClampNeg ((q2.2 4 v1.toNatClampNeg) + (v2 * v3))) fun I5 =>
      some I5))
  else
    (h_g (h_in v1 1000) <|
    h_g (h_in v1 1000) <|
    h_let (h_u q1.2 3 v1.toNatClampNeg ((q1.2 3 v1.toNatClampNeg) + (v2 * v3))) fun I4 =>
    some I4)
set_option maxHeartbeats 4000000 in
theorem sM_takesPart_39 (d : Nat) (hd : 8 + 1 ≤ d) (v1 : Int32) (v2 : Int32) (v3 : Int32) (v4 : Int32) (I : hI) (J : hJ) (q : hI) (h : mM_takesPart_39 v1 v2 v3 v4 I = some q) : AW hFT cX11_takesPart 5 none RX11 kdM d [(0, .ref 0), (1, .int v1), (2, .int v2), (3, .int v3), (4, .int v4)] 39 [] (I, J, RMm) none (q, J, RMm) := by
  obtain ⟨d0, rfl, hd0⟩ := h_mono hd
  unfold mM_takesPart_39 at h
  refine a_aload_n dX11_takesPart_39 rfl rfl ?_
  refine a_ldcS (i := 0) lit_11_231 kdM_len dX11_takesPart_40 ?_
  obtain ⟨q1, cq1, h⟩ := h_bindS h
  refine a_callV1 [] yy_X11_takesWord ml_11_233 km_0 rfl (sM_takesWord _ (by omega) 0 (by decide) I J q1 cq1) rfl rfl (Nat.le_of_ble_eq_true rfl) dX11_takesPart_42 ?_
  refine a_if_eq (tgt := 63) dX11_takesPart_45 (by decide) (fun c => ?_) (fun c => ?_)
  · replace h := h_iteT c h
    refine a_aload_n dX11_takesPart_63 rfl rfl ?_
    refine a_ldcS (i := 1) lit_11_236 kdM_len dX11_takesPart_64 ?_
    obtain ⟨q2, cq2, h⟩ := h_bindS h
    refine a_callV1 [] yy_X11_takesWord ml_11_233 km_0 rfl (sM_takesWord _ (by omega) 1 (by decide) q1.2 J q2 cq2) rfl rfl (Nat.le_of_ble_eq_true rfl) dX11_takesPart_66 ?_
    refine a_if_eq (tgt := 87) dX11_takesPart_69 (by decide) (fun c => ?_) (fun c => ?_)
    · replace h := h_iteT c h
      refine a_iload dX11_takesPart_87 rfl ?_
      refine a_if_eq (tgt := 107) dX11_takesPart_89 (by decide) (fun c => ?_) (fun c => ?_)
      · replace h := h_iteT c h
        refine a_aload_n dX11_takesPart_107 rfl rfl ?_
        obtain ⟨q3, cq3, h⟩ := h_letS h
        refine a_callV0 [] yy_X11_bad ml_11_225 km_0 rfl (sM_bad _ (by omega)  q2.2 J q3 cq3) rfl rfl (Nat.le_of_ble_eq_true rfl) dX11_takesPart_108 ?_
        cases h
        exact a_vret dX11_takesPart_111
      · replace h := h_iteF c h
        refine a_aload_n dX11_takesPart_92 rfl rfl ?_
        refine b_getR hK_11 km_0 (i := 8) rfl fl_11_13 rfl rmm_8 dX11_takesPart_93 ?_
        refine a_iload_n dX11_takesPart_96 rfl rfl ?_
        refine a_dup2_11 dX11_takesPart_97 rfl rfl ?_
        obtain ⟨g3, h⟩ := h_gS h
        refine b_iaload km_2 (h_inV g3) dX11_takesPart_98 ?_
        refine a_iload_n dX11_takesPart_99 rfl rfl ?_
        refine a_iload_n dX11_takesPart_100 rfl rfl ?_
        refine a_imul dX11_takesPart_101 ?_
        refine a_iadd dX11_takesPart_102 ?_
        obtain ⟨g4, h⟩ := h_gS h
        refine b_iastore km_2 (h_inV g4) dX11_takesPart_103 ?_
        obtain ⟨I5, eI5, h⟩ := h_letS h
        refine a_memI eI5 ?_
        refine a_goto (tgt := 111) dX11_takesPart_104 (by decide) ?_
        cases h
        exact a_vret dX11_takesPart_111
    · replace h := h_iteF c h
      refine a_aload_n dX11_takesPart_72 rfl rfl ?_
      refine b_getR hK_11 km_0 (i := 10) rfl fl_11_19 rfl rmm_10 dX11_takesPart_73 ?_
      refine a_iload_n dX11_takesPart_76 rfl rfl ?_
      refine a_dup2_11 dX11_takesPart_77 rfl rfl ?_
      obtain ⟨g3, h⟩ := h_gS h
      refine b_iaload km_4 (h_inV g3) dX11_takesPart_78 ?_
      refine a_iload_n dX11_takesPart_79 rfl rfl ?_
      refine a_iload_n dX11_takesPart_80 rfl rfl ?_
      refine a_imul dX11_takesPart_81 ?_
      refine a_iadd dX11_takesPart_82 ?_
      obtain ⟨g4, h⟩ := h_gS h
      refine b_iastore km_4 (h_inV g4) dX11_takesPart_83 ?_
      obtain ⟨I5, eI5, h⟩ := h_letS h
      refine a_memI eI5 ?_
      refine a_goto (tgt := 111) dX11_takesPart_84 (by decide) ?_
      cases h
      exact a_vret dX11_takesPart_111
  · replace h := h_iteF c h
    refine a_aload_n dX11_takesPart_48 rfl rfl ?_
    refine b_getR hK_11 km_0 (i := 9) rfl fl_11_16 rfl rmm_9 dX11_takesPart_49 ?_
    refine a_iload_n dX11_takesPart_52 rfl rfl ?_
    refine a_dup2_11 dX11_takesPart_53 rfl rfl ?_
    obtain ⟨g2, h⟩ := h_gS h
    refine b_iaload km_3 (h_inV g2) dX11_takesPart_54 ?_
    refine a_iload_n dX11_takesPart_55 rfl rfl ?_
    refine a_iload_n dX11_takesPart_56 rfl rfl ?_
    refine a_imul dX11_takesPart_57 ?_
    refine a_iadd dX11_takesPart_58 ?_
    obtain ⟨g3, h⟩ := h_gS h
    refine b_iastore km_3 (h_inV g3) dX11_takesPart_59 ?_
    obtain ⟨I4, eI4, h⟩ := h_letS h
    refine a_memI eI4 ?_
    refine a_goto (tgt := 111) dX11_takesPart_60 (by decide) ?_
    cases h
    exact a_vret dX11_takesPart_111
def mM_takesPart_24  (v1 : Int32) (v2 : Int32) (v3 : Int32) (vs0 : Int32) (I : hI) : Option (hI) :=
  if vs0 = 0 then
    mM_takesPart_39 v1 v2 v3 vs0 I
  else
    ((mM_takesNumber (0 : Int32) (99 : Int32) I).bind fun q1 =>
    h_let q1.1 fun v3x1 =>
    mM_takesPart_39 v1 v2 v3x1 vs0 q1.2)
set_option maxHeartbeats 4000000 in
theorem sM_takesPart_24 (d : Nat) (hd : 8 + 1 ≤ d) (v1 : Int32) (v2 : Int32) (v3 : Int32) (vs0 : Int32) (I : hI) (J : hJ) (q : hI) (h : mM_takesPart_24 v1 v2 v3 vs0 I = some q) : AW hFT cX11_takesPart 5 none RX11 kdM d [(0, .ref 0), (1, .int v1), (2, .int v2), (3, .int v3)] 24 [.int vs0] (I, J, RMm) none (q, J, RMm) := by
  obtain ⟨d0, rfl, hd0⟩ := h_mono hd
  unfold mM_takesPart_24 at h
  refine a_istore (lv' := [(4, .int vs0), (0, .ref 0), (1, .int v1), (2, .int v2), (3, .int v3)]) dX11_takesPart_24 (by decide) rfl ?_
  refine a_iload dX11_takesPart_26 rfl ?_
  refine a_if_eq (tgt := 39) dX11_takesPart_28 (by decide) (fun c => ?_) (fun c => ?_)
  · replace h := h_iteT c h
    refine a_sub (lv' := [(0, .ref 0), (1, .int v1), (2, .int v2), (3, .int v3), (4, .int vs0)]) [1, 2, 3, 4, 0] rfl ?_
    exact sM_takesPart_39 (d0 + 1) (by omega) v1 v2 v3 vs0 I J _ h
  · replace h := h_iteF c h
    refine a_aload_n dX11_takesPart_31 rfl rfl ?_
    refine a_iconst dX11_takesPart_32 ic_0 ?_
    refine a_bipush dX11_takesPart_33 bp_99 ?_
    obtain ⟨q1, cq1, h⟩ := h_bindS h
    refine a_callV1 [] yy_X11_takesNumber ml_11_228 km_0 rfl (sM_takesNumber _ (by omega) (0 : Int32) (99 : Int32) I J q1 cq1) rfl rfl (Nat.le_of_ble_eq_true rfl) dX11_takesPart_35 ?_
    obtain ⟨v3x1, ev3x1, h⟩ := h_letS h
    refine a_topI ev3x1 ?_
    refine a_istore_n (lv' := [(3, .int v3x1), (4, .int vs0), (0, .ref 0), (1, .int v1), (2, .int v2)]) dX11_takesPart_38 rfl (by decide) rfl ?_
    refine a_sub (lv' := [(0, .ref 0), (1, .int v1), (2, .int v2), (3, .int v3x1), (4, .int vs0)]) [2, 3, 4, 0, 1] rfl ?_
    exact sM_takesPart_39 (d0 + 1) (by omega) v1 v2 v3x1 vs0 q1.2 J _ h
def mM_takesPart  (v1 : Int32) (v2 : Int32) (I : hI) : Option (hI) :=
  if (I 0 5) = (-1 : Int32) then
    (if (I 0 6) = (2 : Int32) then
      mM_takesPart_24 v1 v2 (1 : Int32) (1 : Int32) I
    else
      mM_takesPart_24 v1 v2 (1 : Int32) (0 : Int32) I)
  else
    some I
set_option maxHeartbeats 4000000 in
theorem sM_takesPart (d : Nat) (hd : 8 + 1 ≤ d) (v1 : Int32) (v2 : Int32) (I : hI) (J : hJ) (q : hI) (h : mM_takesPart v1 v2 I = some q) : HMet hFT yX11_takesPart cX11_takesPart 5 none kdM d [.ref 0, .int v1, .int v2] (I, J, RMm) none (q, J, RMm) := by
  obtain ⟨d0, rfl, hd0⟩ := h_mono hd
  refine HMet.of (by decide) (Nat.le_of_ble_eq_true rfl) ?_
  show AW hFT cX11_takesPart 5 none RX11 kdM (d0 + 1) [(0, .ref 0), (1, .int v1), (2, .int v2)] 0 [] (I, J, RMm) none (q, J, RMm)
  unfold mM_takesPart at h
  refine a_aload_n dX11_takesPart_0 rfl rfl ?_
  refine b_getI hK_11 km_0 (i := 5) rfl fl_11_200 rfl dX11_takesPart_1 ?_
  refine a_iconst dX11_takesPart_4 ic_m1 ?_
  refine a_icmp_eq (tgt := 9) dX11_takesPart_5 (by decide) (fun c => ?_) (fun c => ?_)
  · replace h := h_iteT c h
    refine a_iconst dX11_takesPart_9 ic_1 ?_
    refine a_istore_n (lv' := [(3, .int (1 : Int32)), (0, .ref 0), (1, .int v1), (2, .int v2)]) dX11_takesPart_10 rfl (by decide) rfl ?_
    refine a_aload_n dX11_takesPart_11 rfl rfl ?_
    refine b_getI hK_11 km_0 (i := 6) rfl fl_11_181 rfl dX11_takesPart_12 ?_
    refine a_iconst dX11_takesPart_15 ic_2 ?_
    refine a_icmp_ne (tgt := 23) dX11_takesPart_16 (by decide) (fun c => ?_) (fun c => ?_)
    · replace h := h_iteF c h
      refine a_iconst dX11_takesPart_23 ic_0 ?_
      refine a_sub (lv' := [(0, .ref 0), (1, .int v1), (2, .int v2), (3, .int (1 : Int32))]) [1, 2, 3, 0] rfl ?_
      exact sM_takesPart_24 (d0 + 1) (by omega) v1 v2 (1 : Int32) (0 : Int32) I J _ h
    · replace h := h_iteT c h
      refine a_iconst dX11_takesPart_19 ic_1 ?_
      refine a_goto (tgt := 24) dX11_takesPart_20 (by decide) ?_
      refine a_sub (lv' := [(0, .ref 0), (1, .int v1), (2, .int v2), (3, .int (1 : Int32))]) [1, 2, 3, 0] rfl ?_
      exact sM_takesPart_24 (d0 + 1) (by omega) v1 v2 (1 : Int32) (1 : Int32) I J _ h
  · replace h := h_iteF c h
    cases h
    exact a_vret dX11_takesPart_8
/-! CoinLoopsModel.readSum()I -/
theorem dX11_readSum_0 : decode cX11_readSum 0 = .ok (.aload_n 0, 1) := by decide +kernel
theorem dX11_readSum_1 : decode cX11_readSum 1 = .ok (.getfield 238, 3) := by decide +kernel
theorem dX11_readSum_4 : decode cX11_readSum 4 = .ok (.istore_n 1, 1) := by decide +kernel
theorem dX11_readSum_5 : decode cX11_readSum 5 = .ok (.aload_n 0, 1) := by decide +kernel
theorem dX11_readSum_6 : decode cX11_readSum 6 = .ok (.dup, 1) := by decide +kernel
theorem dX11_readSum_7 : decode cX11_readSum 7 = .ok (.getfield 238, 3) := by decide +kernel
theorem dX11_readSum_10 : decode cX11_readSum 10 = .ok (.iconst 1, 1) := by decide +kernel
theorem dX11_readSum_11 : decode cX11_readSum 11 = .ok (.iadd, 1) := by decide +kernel
theorem dX11_readSum_12 : decode cX11_readSum 12 = .ok (.putfield 238, 3) := by decide +kernel
theorem dX11_readSum_15 : decode cX11_readSum 15 = .ok (.aload_n 0, 1) := by decide +kernel
theorem dX11_readSum_16 : decode cX11_readSum 16 = .ok (.getfield 13, 3) := by decide +kernel
theorem dX11_readSum_19 : decode cX11_readSum 19 = .ok (.iload_n 1, 1) := by decide +kernel
theorem dX11_readSum_20 : decode cX11_readSum 20 = .ok (.iconst 0, 1) := by decide +kernel
theorem dX11_readSum_21 : decode cX11_readSum 21 = .ok (.iastore, 1) := by decide +kernel
theorem dX11_readSum_22 : decode cX11_readSum 22 = .ok (.aload_n 0, 1) := by decide +kernel
theorem dX11_readSum_23 : decode cX11_readSum 23 = .ok (.getfield 16, 3) := by decide +kernel
theorem dX11_readSum_26 : decode cX11_readSum 26 = .ok (.iload_n 1, 1) := by decide +kernel
theorem dX11_readSum_27 : decode cX11_readSum 27 = .ok (.iconst 0, 1) := by decide +kernel
theorem dX11_readSum_28 : decode cX11_readSum 28 = .ok (.iastore, 1) := by decide +kernel
theorem dX11_readSum_29 : decode cX11_readSum 29 = .ok (.aload_n 0, 1) := by decide +kernel
theorem dX11_readSum_30 : decode cX11_readSum 30 = .ok (.getfield 19, 3) := by decide +kernel
theorem dX11_readSum_33 : decode cX11_readSum 33 = .ok (.iload_n 1, 1) := by decide +kernel
theorem dX11_readSum_34 : decode cX11_readSum 34 = .ok (.iconst 0, 1) := by decide +kernel
theorem dX11_readSum_35 : decode cX11_readSum 35 = .ok (.iastore, 1) := by decide +kernel
theorem dX11_readSum_36 : decode cX11_readSum 36 = .ok (.aload_n 0, 1) := by decide +kernel
theorem dX11_readSum_37 : decode cX11_readSum 37 = .ok (.iload_n 1, 1) := by decide +kernel
theorem dX11_readSum_38 : decode cX11_readSum 38 = .ok (.iconst 1, 1) := by decide +kernel
theorem dX11_readSum_39 : decode cX11_readSum 39 = .ok (.invokevirtual 241, 3) := by decide +kernel
theorem dX11_readSum_42 : decode cX11_readSum 42 = .ok (.aload_n 0, 1) := by decide +kernel
theorem dX11_readSum_43 : decode cX11_readSum 43 = .ok (.bipush 43, 2) := by decide +kernel
theorem dX11_readSum_45 : decode cX11_readSum 45 = .ok (.invokevirtual 219, 3) := by decide +kernel
theorem dX11_readSum_48 : decode cX11_readSum 48 = .ok (.ifCond .ne 12, 3) := by decide +kernel
theorem dX11_readSum_51 : decode cX11_readSum 51 = .ok (.aload_n 0, 1) := by decide +kernel
theorem dX11_readSum_52 : decode cX11_readSum 52 = .ok (.bipush 45, 2) := by decide +kernel
theorem dX11_readSum_54 : decode cX11_readSum 54 = .ok (.invokevirtual 219, 3) := by decide +kernel
theorem dX11_readSum_57 : decode cX11_readSum 57 = .ok (.ifCond .eq 36, 3) := by decide +kernel
theorem dX11_readSum_60 : decode cX11_readSum 60 = .ok (.aload_n 0, 1) := by decide +kernel
theorem dX11_readSum_61 : decode cX11_readSum 61 = .ok (.getfield 9, 3) := by decide +kernel
theorem dX11_readSum_64 : decode cX11_readSum 64 = .ok (.aload_n 0, 1) := by decide +kernel
theorem dX11_readSum_65 : decode cX11_readSum 65 = .ok (.getfield 178, 3) := by decide +kernel
theorem dX11_readSum_68 : decode cX11_readSum 68 = .ok (.iaload, 1) := by decide +kernel
theorem dX11_readSum_69 : decode cX11_readSum 69 = .ok (.bipush 43, 2) := by decide +kernel
theorem dX11_readSum_71 : decode cX11_readSum 71 = .ok (.if_icmp .ne 7, 3) := by decide +kernel
theorem dX11_readSum_74 : decode cX11_readSum 74 = .ok (.iconst 1, 1) := by decide +kernel
theorem dX11_readSum_75 : decode cX11_readSum 75 = .ok (.goto 4, 3) := by decide +kernel
theorem dX11_readSum_78 : decode cX11_readSum 78 = .ok (.iconst (-1), 1) := by decide +kernel
theorem dX11_readSum_79 : decode cX11_readSum 79 = .ok (.istore_n 2, 1) := by decide +kernel
theorem dX11_readSum_80 : decode cX11_readSum 80 = .ok (.aload_n 0, 1) := by decide +kernel
theorem dX11_readSum_81 : decode cX11_readSum 81 = .ok (.invokevirtual 216, 3) := by decide +kernel
theorem dX11_readSum_84 : decode cX11_readSum 84 = .ok (.aload_n 0, 1) := by decide +kernel
theorem dX11_readSum_85 : decode cX11_readSum 85 = .ok (.iload_n 1, 1) := by decide +kernel
theorem dX11_readSum_86 : decode cX11_readSum 86 = .ok (.iload_n 2, 1) := by decide +kernel
theorem dX11_readSum_87 : decode cX11_readSum 87 = .ok (.invokevirtual 241, 3) := by decide +kernel
theorem dX11_readSum_90 : decode cX11_readSum 90 = .ok (.goto (-48), 3) := by decide +kernel
theorem dX11_readSum_93 : decode cX11_readSum 93 = .ok (.iload_n 1, 1) := by decide +kernel
theorem dX11_readSum_94 : decode cX11_readSum 94 = .ok (.ireturn, 1) := by decide +kernel
def mM_readSum_79 (k42 : Int32 → hI → Option (Int32 × hI)) (v1 : Int32) (vs0 : Int32) (I : hI) : Option (Int32 × hI) :=
  (mM_next I).bind fun q1 =>
  (mM_takesPart v1 vs0 q1).bind fun q2 =>
  k42 v1 q2
set_option maxHeartbeats 4000000 in
theorem sM_readSum_79 (d : Nat) (hd : 9 + 1 ≤ d) (k42 : Int32 → hI → Option (Int32 × hI)) (hk42 : ∀ (v1 : Int32) (I : hI) (J : hJ) (q : Int32 × hI), k42 v1 I = some q → AW hFT cX11_readSum 3 (some .int) RX11 kdM d [(0, .ref 0), (1, .int v1)] 42 [] (I, J, RMm) (some (.int q.1)) (q.2, J, RMm)) (v1 : Int32) (vs0 : Int32) (I : hI) (J : hJ) (q : Int32 × hI) (h : mM_readSum_79 k42 v1 vs0 I = some q) : AW hFT cX11_readSum 3 (some .int) RX11 kdM d [(0, .ref 0), (1, .int v1)] 79 [.int vs0] (I, J, RMm) (some (.int q.1)) (q.2, J, RMm) := by
  obtain ⟨d0, rfl, hd0⟩ := h_mono hd
  unfold mM_readSum_79 at h
  refine a_istore_n (lv' := [(2, .int vs0), (0, .ref 0), (1, .int v1)]) dX11_readSum_79 rfl (by decide) rfl ?_
  refine a_aload_n dX11_readSum_80 rfl rfl ?_
  obtain ⟨q1, cq1, h⟩ := h_bindS h
  refine a_callV0 [] yy_X11_next ml_11_216 km_0 rfl (sM_next _ (by omega)  I J q1 cq1) rfl rfl (Nat.le_of_ble_eq_true rfl) dX11_readSum_81 ?_
  refine a_aload_n dX11_readSum_84 rfl rfl ?_
  refine a_iload_n dX11_readSum_85 rfl rfl ?_
  refine a_iload_n dX11_readSum_86 rfl rfl ?_
  obtain ⟨q2, cq2, h⟩ := h_bindS h
  refine a_callV0 [] yy_X11_takesPart ml_11_241 km_0 rfl (sM_takesPart _ (by omega) v1 vs0 q1 J q2 cq2) rfl rfl (Nat.le_of_ble_eq_true rfl) dX11_readSum_87 ?_
  refine a_goto (tgt := 42) dX11_readSum_90 (by decide) ?_
  refine a_sub (lv' := [(0, .ref 0), (1, .int v1)]) [1, 2] rfl ?_
  exact hk42 v1 q2 J _ h
def mM_readSum_60 (k42 : Int32 → hI → Option (Int32 × hI)) (v1 : Int32) (I : hI) : Option (Int32 × hI) :=
  h_g (h_in (I 0 4) 500) <|
  if (I 1 (I 0 4).toNatClampNeg) = (43 : Int32) then
    mM_readSum_79 k42 v1 (1 : Int32) I
  else
    mM_readSum_79 k42 v1 (-1 : Int32) I
set_option maxHeartbeats 4000000 in
theorem sM_readSum_60 (d : Nat) (hd : 9 + 1 ≤ d) (k42 : Int32 → hI → Option (Int32 × hI)) (hk42 : ∀ (v1 : Int32) (I : hI) (J : hJ) (q : Int32 × hI), k42 v1 I = some q → AW hFT cX11_readSum 3 (some .int) RX11 kdM d [(0, .ref 0), (1, .int v1)] 42 [] (I, J, RMm) (some (.int q.1)) (q.2, J, RMm)) (v1 : Int32) (I : hI) (J : hJ) (q : Int32 × hI) (h : mM_readSum_60 k42 v1 I = some q) : AW hFT cX11_readSum 3 (some .int) RX11 kdM d [(0, .ref 0), (1, .int v1)] 60 [] (I, J, RMm) (some (.int q.1)) (q.2, J, RMm) := by
  obtain ⟨d0, rfl, hd0⟩ := h_mono hd
  unfold mM_readSum_60 at h
  refine a_aload_n dX11_readSum_60 rfl rfl ?_
  refine b_getR hK_11 km_0 (i := 1) rfl fl_11_9 rfl rmm_1 dX11_readSum_61 ?_
  refine a_aload_n dX11_readSum_64 rfl rfl ?_
  refine b_getI hK_11 km_0 (i := 4) rfl fl_11_178 rfl dX11_readSum_65 ?_
  obtain ⟨g1, h⟩ := h_gS h
  refine b_iaload km_1 (h_inV g1) dX11_readSum_68 ?_
  refine a_bipush dX11_readSum_69 bp_43 ?_
  refine a_icmp_ne (tgt := 78) dX11_readSum_71 (by decide) (fun c => ?_) (fun c => ?_)
  · replace h := h_iteF c h
    refine a_iconst dX11_readSum_78 ic_m1 ?_
    exact sM_readSum_79 (d0 + 1) (by omega) k42 hk42 v1 (-1 : Int32) I J _ h
  · replace h := h_iteT c h
    refine a_iconst dX11_readSum_74 ic_1 ?_
    refine a_goto (tgt := 79) dX11_readSum_75 (by decide) ?_
    exact sM_readSum_79 (d0 + 1) (by omega) k42 hk42 v1 (1 : Int32) I J _ h
def mM_readSum_B42 (k42 : Int32 → hI → Option (Int32 × hI)) (v1 : Int32) (I : hI) : Option (Int32 × hI) :=
  (mM_isSign (43 : Int32) I).bind fun q1 =>
  if q1 = 0 then
    ((mM_isSign (45 : Int32) I).bind fun q2 =>
    if q2 = 0 then
      some (v1, I)
    else
      mM_readSum_60 k42 v1 I)
  else
    mM_readSum_60 k42 v1 I
set_option maxHeartbeats 4000000 in
theorem sM_readSum_B42 (d : Nat) (hd : 9 + 1 ≤ d) (k42 : Int32 → hI → Option (Int32 × hI)) (hk42 : ∀ (v1 : Int32) (I : hI) (J : hJ) (q : Int32 × hI), k42 v1 I = some q → AW hFT cX11_readSum 3 (some .int) RX11 kdM d [(0, .ref 0), (1, .int v1)] 42 [] (I, J, RMm) (some (.int q.1)) (q.2, J, RMm)) (v1 : Int32) (I : hI) (J : hJ) (q : Int32 × hI) (h : mM_readSum_B42 k42 v1 I = some q) : AW hFT cX11_readSum 3 (some .int) RX11 kdM d [(0, .ref 0), (1, .int v1)] 42 [] (I, J, RMm) (some (.int q.1)) (q.2, J, RMm) := by
  obtain ⟨d0, rfl, hd0⟩ := h_mono hd
  unfold mM_readSum_B42 at h
  refine a_aload_n dX11_readSum_42 rfl rfl ?_
  refine a_bipush dX11_readSum_43 bp_43 ?_
  obtain ⟨q1, cq1, h⟩ := h_bindS h
  refine a_callV1 [] yy_X11_isSign ml_11_219 km_0 rfl (sM_isSign _ (by omega) (43 : Int32) I J q1 cq1) rfl rfl (Nat.le_of_ble_eq_true rfl) dX11_readSum_45 ?_
  refine a_if_ne (tgt := 60) dX11_readSum_48 (by decide) (fun c => ?_) (fun c => ?_)
  · replace h := h_iteF c h
    exact sM_readSum_60 (d0 + 1) (by omega) k42 hk42 v1 I J _ h
  · replace h := h_iteT c h
    refine a_aload_n dX11_readSum_51 rfl rfl ?_
    refine a_bipush dX11_readSum_52 bp_45 ?_
    obtain ⟨q2, cq2, h⟩ := h_bindS h
    refine a_callV1 [] yy_X11_isSign ml_11_219 km_0 rfl (sM_isSign _ (by omega) (45 : Int32) I J q2 cq2) rfl rfl (Nat.le_of_ble_eq_true rfl) dX11_readSum_54 ?_
    refine a_if_eq (tgt := 93) dX11_readSum_57 (by decide) (fun c => ?_) (fun c => ?_)
    · replace h := h_iteT c h
      refine a_iload_n dX11_readSum_93 rfl rfl ?_
      cases h
      exact a_iret dX11_readSum_94
    · replace h := h_iteF c h
      exact sM_readSum_60 (d0 + 1) (by omega) k42 hk42 v1 I J _ h
def mM_readSum_L42  : Nat → Int32 → hI → Option (Int32 × hI)
  | 0 => fun _ _ => none
  | n + 1 => mM_readSum_B42 (mM_readSum_L42 n)
theorem sM_readSum_L42 (d : Nat) (hd : 9 + 1 ≤ d) : ∀ (n : Nat) (v1 : Int32) (I : hI) (J : hJ) (q : Int32 × hI) (h : mM_readSum_L42 n v1 I = some q), AW hFT cX11_readSum 3 (some .int) RX11 kdM d [(0, .ref 0), (1, .int v1)] 42 [] (I, J, RMm) (some (.int q.1)) (q.2, J, RMm)
  | 0, _, _, _, q, h => by cases h
  | n + 1, v1, I, J, q, h => sM_readSum_B42 d hd (mM_readSum_L42 n) (sM_readSum_L42 d hd n) v1 I J q h
def mM_readSum   (I : hI) : Option (Int32 × hI) :=
  h_let (I 0 11) fun v1x0 =>
  h_let (h_u I 0 11 ((I 0 11) + (1 : Int32))) fun I2 =>
  h_g (h_in v1x0 1000) <|
  h_let (h_u I2 2 v1x0.toNatClampNeg (0 : Int32)) fun I4 =>
  h_g (h_in v1x0 1000) <|
  h_let (h_u I4 3 v1x0.toNatClampNeg (0 : Int32)) fun I6 =>
  h_g (h_in v1x0 1000) <|
  h_let (h_u I6 4 v1x0.toNatClampNeg (0 : Int32)) fun I8 =>
  (mM_takesPart v1x0 (1 : Int32) I8).bind fun q9 =>
  mM_readSum_L42 hF v1x0 q9
set_option maxHeartbeats 4000000 in
theorem sM_readSum (d : Nat) (hd : 9 + 1 ≤ d)  (I : hI) (J : hJ) (q : Int32 × hI) (h : mM_readSum I = some q) : HMet hFT yX11_readSum cX11_readSum 3 (some .int) kdM d [.ref 0] (I, J, RMm) (some (.int q.1)) (q.2, J, RMm) := by
  obtain ⟨d0, rfl, hd0⟩ := h_mono hd
  refine HMet.of (by decide) (Nat.le_of_ble_eq_true rfl) ?_
  show AW hFT cX11_readSum 3 (some .int) RX11 kdM (d0 + 1) [(0, .ref 0)] 0 [] (I, J, RMm) (some (.int q.1)) (q.2, J, RMm)
  unfold mM_readSum at h
  refine a_aload_n dX11_readSum_0 rfl rfl ?_
  refine b_getI hK_11 km_0 (i := 11) rfl fl_11_238 rfl dX11_readSum_1 ?_
  obtain ⟨v1x0, ev1x0, h⟩ := h_letS h
  refine a_topI ev1x0 ?_
  refine a_istore_n (lv' := [(1, .int v1x0), (0, .ref 0)]) dX11_readSum_4 rfl (by decide) rfl ?_
  refine a_aload_n dX11_readSum_5 rfl rfl ?_
  refine a_dup dX11_readSum_6 rfl ?_
  refine b_getI hK_11 km_0 (i := 11) rfl fl_11_238 rfl dX11_readSum_7 ?_
  refine a_iconst dX11_readSum_10 ic_1 ?_
  refine a_iadd dX11_readSum_11 ?_
  refine b_putI hK_11 km_0 (i := 11) rfl fl_11_238 rfl rfl (h_NI _) dX11_readSum_12 ?_
  obtain ⟨I2, eI2, h⟩ := h_letS h
  refine a_memI eI2 ?_
  refine a_aload_n dX11_readSum_15 rfl rfl ?_
  refine b_getR hK_11 km_0 (i := 8) rfl fl_11_13 rfl rmm_8 dX11_readSum_16 ?_
  refine a_iload_n dX11_readSum_19 rfl rfl ?_
  refine a_iconst dX11_readSum_20 ic_0 ?_
  obtain ⟨g3, h⟩ := h_gS h
  refine b_iastore km_2 (h_inV g3) dX11_readSum_21 ?_
  obtain ⟨I4, eI4, h⟩ := h_letS h
  refine a_memI eI4 ?_
  refine a_aload_n dX11_readSum_22 rfl rfl ?_
  refine b_getR hK_11 km_0 (i := 9) rfl fl_11_16 rfl rmm_9 dX11_readSum_23 ?_
  refine a_iload_n dX11_readSum_26 rfl rfl ?_
  refine a_iconst dX11_readSum_27 ic_0 ?_
  obtain ⟨g5, h⟩ := h_gS h
  refine b_iastore km_3 (h_inV g5) dX11_readSum_28 ?_
  obtain ⟨I6, eI6, h⟩ := h_letS h
  refine a_memI eI6 ?_
  refine a_aload_n dX11_readSum_29 rfl rfl ?_
  refine b_getR hK_11 km_0 (i := 10) rfl fl_11_19 rfl rmm_10 dX11_readSum_30 ?_
  refine a_iload_n dX11_readSum_33 rfl rfl ?_
  refine a_iconst dX11_readSum_34 ic_0 ?_
  obtain ⟨g7, h⟩ := h_gS h
  refine b_iastore km_4 (h_inV g7) dX11_readSum_35 ?_
  obtain ⟨I8, eI8, h⟩ := h_letS h
  refine a_memI eI8 ?_
  refine a_aload_n dX11_readSum_36 rfl rfl ?_
  refine a_iload_n dX11_readSum_37 rfl rfl ?_
  refine a_iconst dX11_readSum_38 ic_1 ?_
  obtain ⟨q9, cq9, h⟩ := h_bindS h
  refine a_callV0 [] yy_X11_takesPart ml_11_241 km_0 rfl (sM_takesPart _ (by omega) v1x0 (1 : Int32) I8 J q9 cq9) rfl rfl (Nat.le_of_ble_eq_true rfl) dX11_readSum_39 ?_
  refine a_sub (lv' := [(0, .ref 0), (1, .int v1x0)]) [1, 0] rfl ?_
  exact sM_readSum_L42 (d0 + 1) (by omega) hF v1x0 q9 J _ h
/-! CoinLoopsModel.isRelation()Z -/
theorem dX11_isRelation_0 : decode cX11_isRelation 0 = .ok (.aload_n 0, 1) := by decide +kernel
theorem dX11_isRelation_1 : decode cX11_isRelation 1 = .ok (.bipush 60, 2) := by decide +kernel
theorem dX11_isRelation_3 : decode cX11_isRelation 3 = .ok (.invokevirtual 219, 3) := by decide +kernel
theorem dX11_isRelation_6 : decode cX11_isRelation 6 = .ok (.ifCond .ne 21, 3) := by decide +kernel
theorem dX11_isRelation_9 : decode cX11_isRelation 9 = .ok (.aload_n 0, 1) := by decide +kernel
theorem dX11_isRelation_10 : decode cX11_isRelation 10 = .ok (.bipush 61, 2) := by decide +kernel
theorem dX11_isRelation_12 : decode cX11_isRelation 12 = .ok (.invokevirtual 219, 3) := by decide +kernel
theorem dX11_isRelation_15 : decode cX11_isRelation 15 = .ok (.ifCond .ne 12, 3) := by decide +kernel
theorem dX11_isRelation_18 : decode cX11_isRelation 18 = .ok (.aload_n 0, 1) := by decide +kernel
theorem dX11_isRelation_19 : decode cX11_isRelation 19 = .ok (.bipush 62, 2) := by decide +kernel
theorem dX11_isRelation_21 : decode cX11_isRelation 21 = .ok (.invokevirtual 219, 3) := by decide +kernel
theorem dX11_isRelation_24 : decode cX11_isRelation 24 = .ok (.ifCond .eq 7, 3) := by decide +kernel
theorem dX11_isRelation_27 : decode cX11_isRelation 27 = .ok (.iconst 1, 1) := by decide +kernel
theorem dX11_isRelation_28 : decode cX11_isRelation 28 = .ok (.goto 4, 3) := by decide +kernel
theorem dX11_isRelation_31 : decode cX11_isRelation 31 = .ok (.iconst 0, 1) := by decide +kernel
theorem dX11_isRelation_32 : decode cX11_isRelation 32 = .ok (.ireturn, 1) := by decide +kernel
def mM_isRelation   (I : hI) : Option (Int32) :=
  (mM_isSign (60 : Int32) I).bind fun q1 =>
  if q1 = 0 then
    ((mM_isSign (61 : Int32) I).bind fun q2 =>
    if q2 = 0 then
      ((mM_isSign (62 : Int32) I).bind fun q3 =>
      if q3 = 0 then
        some (0 : Int32)
      else
        some (1 : Int32))
    else
      some (1 : Int32))
  else
    some (1 : Int32)
set_option maxHeartbeats 4000000 in
theorem sM_isRelation (d : Nat) (hd : 0 + 1 ≤ d)  (I : hI) (J : hJ) (q : Int32) (h : mM_isRelation I = some q) : HMet hFT yX11_isRelation cX11_isRelation 1 (some .boolean) kdM d [.ref 0] (I, J, RMm) (some (.int q)) (I, J, RMm) := by
  obtain ⟨d0, rfl, hd0⟩ := h_mono hd
  refine HMet.of (by decide) (Nat.le_of_ble_eq_true rfl) ?_
  show AW hFT cX11_isRelation 1 (some .boolean) RX11 kdM (d0 + 1) [(0, .ref 0)] 0 [] (I, J, RMm) (some (.int q)) (I, J, RMm)
  unfold mM_isRelation at h
  refine a_aload_n dX11_isRelation_0 rfl rfl ?_
  refine a_bipush dX11_isRelation_1 bp_60 ?_
  obtain ⟨q1, cq1, h⟩ := h_bindS h
  refine a_callV1 [] yy_X11_isSign ml_11_219 km_0 rfl (sM_isSign _ (by omega) (60 : Int32) I J q1 cq1) rfl rfl (Nat.le_of_ble_eq_true rfl) dX11_isRelation_3 ?_
  refine a_if_ne (tgt := 27) dX11_isRelation_6 (by decide) (fun c => ?_) (fun c => ?_)
  · replace h := h_iteF c h
    refine a_iconst dX11_isRelation_27 ic_1 ?_
    refine a_goto (tgt := 32) dX11_isRelation_28 (by decide) ?_
    cases h
    exact a_zret (h_Z1.1) dX11_isRelation_32
  · replace h := h_iteT c h
    refine a_aload_n dX11_isRelation_9 rfl rfl ?_
    refine a_bipush dX11_isRelation_10 bp_61 ?_
    obtain ⟨q2, cq2, h⟩ := h_bindS h
    refine a_callV1 [] yy_X11_isSign ml_11_219 km_0 rfl (sM_isSign _ (by omega) (61 : Int32) I J q2 cq2) rfl rfl (Nat.le_of_ble_eq_true rfl) dX11_isRelation_12 ?_
    refine a_if_ne (tgt := 27) dX11_isRelation_15 (by decide) (fun c => ?_) (fun c => ?_)
    · replace h := h_iteF c h
      refine a_iconst dX11_isRelation_27 ic_1 ?_
      refine a_goto (tgt := 32) dX11_isRelation_28 (by decide) ?_
      cases h
      exact a_zret (h_Z1.1) dX11_isRelation_32
    · replace h := h_iteT c h
      refine a_aload_n dX11_isRelation_18 rfl rfl ?_
      refine a_bipush dX11_isRelation_19 bp_62 ?_
      obtain ⟨q3, cq3, h⟩ := h_bindS h
      refine a_callV1 [] yy_X11_isSign ml_11_219 km_0 rfl (sM_isSign _ (by omega) (62 : Int32) I J q3 cq3) rfl rfl (Nat.le_of_ble_eq_true rfl) dX11_isRelation_21 ?_
      refine a_if_eq (tgt := 31) dX11_isRelation_24 (by decide) (fun c => ?_) (fun c => ?_)
      · replace h := h_iteT c h
        refine a_iconst dX11_isRelation_31 ic_0 ?_
        cases h
        exact a_zret (h_Z0.1) dX11_isRelation_32
      · replace h := h_iteF c h
        refine a_iconst dX11_isRelation_27 ic_1 ?_
        refine a_goto (tgt := 32) dX11_isRelation_28 (by decide) ?_
        cases h
        exact a_zret (h_Z1.1) dX11_isRelation_32
/-! CoinLoopsModel.readCompare(I)V -/
theorem dX11_readCompare_0 : decode cX11_readCompare 0 = .ok (.aload_n 0, 1) := by decide +kernel
theorem dX11_readCompare_1 : decode cX11_readCompare 1 = .ok (.getfield 22, 3) := by decide +kernel
theorem dX11_readCompare_4 : decode cX11_readCompare 4 = .ok (.aload_n 0, 1) := by decide +kernel
theorem dX11_readCompare_5 : decode cX11_readCompare 5 = .ok (.getfield 245, 3) := by decide +kernel
theorem dX11_readCompare_8 : decode cX11_readCompare 8 = .ok (.iload_n 1, 1) := by decide +kernel
theorem dX11_readCompare_9 : decode cX11_readCompare 9 = .ok (.iastore, 1) := by decide +kernel
theorem dX11_readCompare_10 : decode cX11_readCompare 10 = .ok (.aload_n 0, 1) := by decide +kernel
theorem dX11_readCompare_11 : decode cX11_readCompare 11 = .ok (.invokevirtual 248, 3) := by decide +kernel
theorem dX11_readCompare_14 : decode cX11_readCompare 14 = .ok (.ifCond .ne 8, 3) := by decide +kernel
theorem dX11_readCompare_17 : decode cX11_readCompare 17 = .ok (.aload_n 0, 1) := by decide +kernel
theorem dX11_readCompare_18 : decode cX11_readCompare 18 = .ok (.invokevirtual 225, 3) := by decide +kernel
theorem dX11_readCompare_21 : decode cX11_readCompare 21 = .ok (.return_, 1) := by decide +kernel
theorem dX11_readCompare_22 : decode cX11_readCompare 22 = .ok (.aload_n 0, 1) := by decide +kernel
theorem dX11_readCompare_23 : decode cX11_readCompare 23 = .ok (.getfield 28, 3) := by decide +kernel
theorem dX11_readCompare_26 : decode cX11_readCompare 26 = .ok (.aload_n 0, 1) := by decide +kernel
theorem dX11_readCompare_27 : decode cX11_readCompare 27 = .ok (.getfield 245, 3) := by decide +kernel
theorem dX11_readCompare_30 : decode cX11_readCompare 30 = .ok (.aload_n 0, 1) := by decide +kernel
theorem dX11_readCompare_31 : decode cX11_readCompare 31 = .ok (.getfield 9, 3) := by decide +kernel
theorem dX11_readCompare_34 : decode cX11_readCompare 34 = .ok (.aload_n 0, 1) := by decide +kernel
theorem dX11_readCompare_35 : decode cX11_readCompare 35 = .ok (.getfield 178, 3) := by decide +kernel
theorem dX11_readCompare_38 : decode cX11_readCompare 38 = .ok (.iaload, 1) := by decide +kernel
theorem dX11_readCompare_39 : decode cX11_readCompare 39 = .ok (.iastore, 1) := by decide +kernel
theorem dX11_readCompare_40 : decode cX11_readCompare 40 = .ok (.aload_n 0, 1) := by decide +kernel
theorem dX11_readCompare_41 : decode cX11_readCompare 41 = .ok (.invokevirtual 216, 3) := by decide +kernel
theorem dX11_readCompare_44 : decode cX11_readCompare 44 = .ok (.aload_n 0, 1) := by decide +kernel
theorem dX11_readCompare_45 : decode cX11_readCompare 45 = .ok (.getfield 25, 3) := by decide +kernel
theorem dX11_readCompare_48 : decode cX11_readCompare 48 = .ok (.aload_n 0, 1) := by decide +kernel
theorem dX11_readCompare_49 : decode cX11_readCompare 49 = .ok (.getfield 245, 3) := by decide +kernel
theorem dX11_readCompare_52 : decode cX11_readCompare 52 = .ok (.aload_n 0, 1) := by decide +kernel
theorem dX11_readCompare_53 : decode cX11_readCompare 53 = .ok (.invokevirtual 252, 3) := by decide +kernel
theorem dX11_readCompare_56 : decode cX11_readCompare 56 = .ok (.iastore, 1) := by decide +kernel
theorem dX11_readCompare_57 : decode cX11_readCompare 57 = .ok (.aload_n 0, 1) := by decide +kernel
theorem dX11_readCompare_58 : decode cX11_readCompare 58 = .ok (.getfield 31, 3) := by decide +kernel
theorem dX11_readCompare_61 : decode cX11_readCompare 61 = .ok (.aload_n 0, 1) := by decide +kernel
theorem dX11_readCompare_62 : decode cX11_readCompare 62 = .ok (.getfield 245, 3) := by decide +kernel
theorem dX11_readCompare_65 : decode cX11_readCompare 65 = .ok (.iconst 1, 1) := by decide +kernel
theorem dX11_readCompare_66 : decode cX11_readCompare 66 = .ok (.bastore, 1) := by decide +kernel
theorem dX11_readCompare_67 : decode cX11_readCompare 67 = .ok (.aload_n 0, 1) := by decide +kernel
theorem dX11_readCompare_68 : decode cX11_readCompare 68 = .ok (.dup, 1) := by decide +kernel
theorem dX11_readCompare_69 : decode cX11_readCompare 69 = .ok (.getfield 245, 3) := by decide +kernel
theorem dX11_readCompare_72 : decode cX11_readCompare 72 = .ok (.iconst 1, 1) := by decide +kernel
theorem dX11_readCompare_73 : decode cX11_readCompare 73 = .ok (.iadd, 1) := by decide +kernel
theorem dX11_readCompare_74 : decode cX11_readCompare 74 = .ok (.putfield 245, 3) := by decide +kernel
theorem dX11_readCompare_77 : decode cX11_readCompare 77 = .ok (.return_, 1) := by decide +kernel
def mM_readCompare  (v1 : Int32) (I : hI) : Option (hI) :=
  h_g (h_in (I 0 16) 1000) <|
  h_let (h_u I 5 (I 0 16).toNatClampNeg v1) fun I2 =>
  (mM_isRelation I2).bind fun q3 =>
  if q3 = 0 then
    (h_let (mM_bad I2) fun q4 =>
    some q4)
  else
    (h_g (h_in (I2 0 4) 500) <|
    h_g (h_in (I2 0 16) 1000) <|
    h_let (h_u I2 7 (I2 0 16).toNatClampNeg (I2 1 (I2 0 4).toNatClampNeg)) fun I6 =>
    (mM_next I6).bind fun q7 =>
    (mM_readSum q7).bind fun q8 =>
    h_g (h_in (q7 0 16) 1000) <|
    h_let (h_u q8.2 6 (q7 0 16).toNatClampNeg q8.1) fun I10 =>
    h_g (h_in (I10 0 16) 1000) <|
    h_let (h_u I10 8 (I10 0 16).toNatClampNeg (vp_nar .boolean (1 : Int32))) fun I12 =>
    h_let (h_u I12 0 16 ((I12 0 16) + (1 : Int32))) fun I13 =>
    some I13)
set_option maxHeartbeats 4000000 in
theorem sM_readCompare (d : Nat) (hd : 10 + 1 ≤ d) (v1 : Int32) (I : hI) (J : hJ) (q : hI) (h : mM_readCompare v1 I = some q) : HMet hFT yX11_readCompare cX11_readCompare 2 none kdM d [.ref 0, .int v1] (I, J, RMm) none (q, J, RMm) := by
  obtain ⟨d0, rfl, hd0⟩ := h_mono hd
  refine HMet.of (by decide) (Nat.le_of_ble_eq_true rfl) ?_
  show AW hFT cX11_readCompare 2 none RX11 kdM (d0 + 1) [(0, .ref 0), (1, .int v1)] 0 [] (I, J, RMm) none (q, J, RMm)
  unfold mM_readCompare at h
  refine a_aload_n dX11_readCompare_0 rfl rfl ?_
  refine b_getR hK_11 km_0 (i := 12) rfl fl_11_22 rfl rmm_12 dX11_readCompare_1 ?_
  refine a_aload_n dX11_readCompare_4 rfl rfl ?_
  refine b_getI hK_11 km_0 (i := 16) rfl fl_11_245 rfl dX11_readCompare_5 ?_
  refine a_iload_n dX11_readCompare_8 rfl rfl ?_
  obtain ⟨g1, h⟩ := h_gS h
  refine b_iastore km_5 (h_inV g1) dX11_readCompare_9 ?_
  obtain ⟨I2, eI2, h⟩ := h_letS h
  refine a_memI eI2 ?_
  refine a_aload_n dX11_readCompare_10 rfl rfl ?_
  obtain ⟨q3, cq3, h⟩ := h_bindS h
  refine a_callV1 [] yy_X11_isRelation ml_11_248 km_0 rfl (sM_isRelation _ (by omega)  I2 J q3 cq3) rfl rfl (Nat.le_of_ble_eq_true rfl) dX11_readCompare_11 ?_
  refine a_if_ne (tgt := 22) dX11_readCompare_14 (by decide) (fun c => ?_) (fun c => ?_)
  · replace h := h_iteF c h
    refine a_aload_n dX11_readCompare_22 rfl rfl ?_
    refine b_getR hK_11 km_0 (i := 14) rfl fl_11_28 rfl rmm_14 dX11_readCompare_23 ?_
    refine a_aload_n dX11_readCompare_26 rfl rfl ?_
    refine b_getI hK_11 km_0 (i := 16) rfl fl_11_245 rfl dX11_readCompare_27 ?_
    refine a_aload_n dX11_readCompare_30 rfl rfl ?_
    refine b_getR hK_11 km_0 (i := 1) rfl fl_11_9 rfl rmm_1 dX11_readCompare_31 ?_
    refine a_aload_n dX11_readCompare_34 rfl rfl ?_
    refine b_getI hK_11 km_0 (i := 4) rfl fl_11_178 rfl dX11_readCompare_35 ?_
    obtain ⟨g4, h⟩ := h_gS h
    refine b_iaload km_1 (h_inV g4) dX11_readCompare_38 ?_
    obtain ⟨g5, h⟩ := h_gS h
    refine b_iastore km_7 (h_inV g5) dX11_readCompare_39 ?_
    obtain ⟨I6, eI6, h⟩ := h_letS h
    refine a_memI eI6 ?_
    refine a_aload_n dX11_readCompare_40 rfl rfl ?_
    obtain ⟨q7, cq7, h⟩ := h_bindS h
    refine a_callV0 [] yy_X11_next ml_11_216 km_0 rfl (sM_next _ (by omega)  I6 J q7 cq7) rfl rfl (Nat.le_of_ble_eq_true rfl) dX11_readCompare_41 ?_
    refine a_aload_n dX11_readCompare_44 rfl rfl ?_
    refine b_getR hK_11 km_0 (i := 13) rfl fl_11_25 rfl rmm_13 dX11_readCompare_45 ?_
    refine a_aload_n dX11_readCompare_48 rfl rfl ?_
    refine b_getI hK_11 km_0 (i := 16) rfl fl_11_245 rfl dX11_readCompare_49 ?_
    refine a_aload_n dX11_readCompare_52 rfl rfl ?_
    obtain ⟨q8, cq8, h⟩ := h_bindS h
    refine a_callV1 [.int (q7 0 16), .ref 6] yy_X11_readSum ml_11_252 km_0 rfl (sM_readSum _ (by omega)  q7 J q8 cq8) rfl rfl (Nat.le_of_ble_eq_true rfl) dX11_readCompare_53 ?_
    obtain ⟨g9, h⟩ := h_gS h
    refine b_iastore km_6 (h_inV g9) dX11_readCompare_56 ?_
    obtain ⟨I10, eI10, h⟩ := h_letS h
    refine a_memI eI10 ?_
    refine a_aload_n dX11_readCompare_57 rfl rfl ?_
    refine b_getR hK_11 km_0 (i := 15) rfl fl_11_31 rfl rmm_15 dX11_readCompare_58 ?_
    refine a_aload_n dX11_readCompare_61 rfl rfl ?_
    refine b_getI hK_11 km_0 (i := 16) rfl fl_11_245 rfl dX11_readCompare_62 ?_
    refine a_iconst dX11_readCompare_65 ic_1 ?_
    obtain ⟨g11, h⟩ := h_gS h
    refine b_zastore km_8 (h_inV g11) dX11_readCompare_66 ?_
    obtain ⟨I12, eI12, h⟩ := h_letS h
    refine a_memI eI12 ?_
    refine a_aload_n dX11_readCompare_67 rfl rfl ?_
    refine a_dup dX11_readCompare_68 rfl ?_
    refine b_getI hK_11 km_0 (i := 16) rfl fl_11_245 rfl dX11_readCompare_69 ?_
    refine a_iconst dX11_readCompare_72 ic_1 ?_
    refine a_iadd dX11_readCompare_73 ?_
    refine b_putI hK_11 km_0 (i := 16) rfl fl_11_245 rfl rfl (h_NI _) dX11_readCompare_74 ?_
    obtain ⟨I13, eI13, h⟩ := h_letS h
    refine a_memI eI13 ?_
    cases h
    exact a_vret dX11_readCompare_77
  · replace h := h_iteT c h
    refine a_aload_n dX11_readCompare_17 rfl rfl ?_
    obtain ⟨q4, cq4, h⟩ := h_letS h
    refine a_callV0 [] yy_X11_bad ml_11_225 km_0 rfl (sM_bad _ (by omega)  I2 J q4 cq4) rfl rfl (Nat.le_of_ble_eq_true rfl) dX11_readCompare_18 ?_
    cases h
    exact a_vret dX11_readCompare_21
/-! CoinLoopsModel.readCond(I)V -/
theorem dX11_readCond_0 : decode cX11_readCond 0 = .ok (.aload_n 0, 1) := by decide +kernel
theorem dX11_readCond_1 : decode cX11_readCond 1 = .ok (.iload_n 1, 1) := by decide +kernel
theorem dX11_readCond_2 : decode cX11_readCond 2 = .ok (.iconst (-1), 1) := by decide +kernel
theorem dX11_readCond_3 : decode cX11_readCond 3 = .ok (.if_icmp .ne 10, 3) := by decide +kernel
theorem dX11_readCond_6 : decode cX11_readCond 6 = .ok (.aload_n 0, 1) := by decide +kernel
theorem dX11_readCond_7 : decode cX11_readCond 7 = .ok (.invokevirtual 252, 3) := by decide +kernel
theorem dX11_readCond_10 : decode cX11_readCond 10 = .ok (.goto 4, 3) := by decide +kernel
theorem dX11_readCond_13 : decode cX11_readCond 13 = .ok (.iload_n 1, 1) := by decide +kernel
theorem dX11_readCond_14 : decode cX11_readCond 14 = .ok (.invokevirtual 255, 3) := by decide +kernel
theorem dX11_readCond_17 : decode cX11_readCond 17 = .ok (.iconst 1, 1) := by decide +kernel
theorem dX11_readCond_18 : decode cX11_readCond 18 = .ok (.istore_n 2, 1) := by decide +kernel
theorem dX11_readCond_19 : decode cX11_readCond 19 = .ok (.iload_n 2, 1) := by decide +kernel
theorem dX11_readCond_20 : decode cX11_readCond 20 = .ok (.ifCond .eq 78, 3) := by decide +kernel
theorem dX11_readCond_23 : decode cX11_readCond 23 = .ok (.aload_n 0, 1) := by decide +kernel
theorem dX11_readCond_24 : decode cX11_readCond 24 = .ok (.getfield 200, 3) := by decide +kernel
theorem dX11_readCond_27 : decode cX11_readCond 27 = .ok (.iconst (-1), 1) := by decide +kernel
theorem dX11_readCond_28 : decode cX11_readCond 28 = .ok (.if_icmp .ne 70, 3) := by decide +kernel
theorem dX11_readCond_31 : decode cX11_readCond 31 = .ok (.aload_n 0, 1) := by decide +kernel
theorem dX11_readCond_32 : decode cX11_readCond 32 = .ok (.ldc_w 259, 3) := by decide +kernel
theorem dX11_readCond_35 : decode cX11_readCond 35 = .ok (.invokevirtual 212, 3) := by decide +kernel
theorem dX11_readCond_38 : decode cX11_readCond 38 = .ok (.istore_n 3, 1) := by decide +kernel
theorem dX11_readCond_39 : decode cX11_readCond 39 = .ok (.iload_n 3, 1) := by decide +kernel
theorem dX11_readCond_40 : decode cX11_readCond 40 = .ok (.ifCond .ne 13, 3) := by decide +kernel
theorem dX11_readCond_43 : decode cX11_readCond 43 = .ok (.aload_n 0, 1) := by decide +kernel
theorem dX11_readCond_44 : decode cX11_readCond 44 = .ok (.ldc_w 261, 3) := by decide +kernel
theorem dX11_readCond_47 : decode cX11_readCond 47 = .ok (.invokevirtual 212, 3) := by decide +kernel
theorem dX11_readCond_50 : decode cX11_readCond 50 = .ok (.ifCond .eq 7, 3) := by decide +kernel
theorem dX11_readCond_53 : decode cX11_readCond 53 = .ok (.iconst 1, 1) := by decide +kernel
theorem dX11_readCond_54 : decode cX11_readCond 54 = .ok (.goto 4, 3) := by decide +kernel
theorem dX11_readCond_57 : decode cX11_readCond 57 = .ok (.iconst 0, 1) := by decide +kernel
theorem dX11_readCond_58 : decode cX11_readCond 58 = .ok (.istore_n 2, 1) := by decide +kernel
theorem dX11_readCond_59 : decode cX11_readCond 59 = .ok (.iload_n 2, 1) := by decide +kernel
theorem dX11_readCond_60 : decode cX11_readCond 60 = .ok (.ifCond .eq 35, 3) := by decide +kernel
theorem dX11_readCond_63 : decode cX11_readCond 63 = .ok (.aload_n 0, 1) := by decide +kernel
theorem dX11_readCond_64 : decode cX11_readCond 64 = .ok (.getfield 31, 3) := by decide +kernel
theorem dX11_readCond_67 : decode cX11_readCond 67 = .ok (.aload_n 0, 1) := by decide +kernel
theorem dX11_readCond_68 : decode cX11_readCond 68 = .ok (.getfield 245, 3) := by decide +kernel
theorem dX11_readCond_71 : decode cX11_readCond 71 = .ok (.iconst 1, 1) := by decide +kernel
theorem dX11_readCond_72 : decode cX11_readCond 72 = .ok (.isub, 1) := by decide +kernel
theorem dX11_readCond_73 : decode cX11_readCond 73 = .ok (.iload_n 3, 1) := by decide +kernel
theorem dX11_readCond_74 : decode cX11_readCond 74 = .ok (.ifCond .ne 7, 3) := by decide +kernel
theorem dX11_readCond_77 : decode cX11_readCond 77 = .ok (.iconst 1, 1) := by decide +kernel
theorem dX11_readCond_78 : decode cX11_readCond 78 = .ok (.goto 4, 3) := by decide +kernel
theorem dX11_readCond_81 : decode cX11_readCond 81 = .ok (.iconst 0, 1) := by decide +kernel
theorem dX11_readCond_82 : decode cX11_readCond 82 = .ok (.bastore, 1) := by decide +kernel
theorem dX11_readCond_83 : decode cX11_readCond 83 = .ok (.aload_n 0, 1) := by decide +kernel
theorem dX11_readCond_84 : decode cX11_readCond 84 = .ok (.invokevirtual 216, 3) := by decide +kernel
theorem dX11_readCond_87 : decode cX11_readCond 87 = .ok (.aload_n 0, 1) := by decide +kernel
theorem dX11_readCond_88 : decode cX11_readCond 88 = .ok (.aload_n 0, 1) := by decide +kernel
theorem dX11_readCond_89 : decode cX11_readCond 89 = .ok (.invokevirtual 252, 3) := by decide +kernel
theorem dX11_readCond_92 : decode cX11_readCond 92 = .ok (.invokevirtual 255, 3) := by decide +kernel
theorem dX11_readCond_95 : decode cX11_readCond 95 = .ok (.goto (-76), 3) := by decide +kernel
theorem dX11_readCond_98 : decode cX11_readCond 98 = .ok (.return_, 1) := by decide +kernel
def mM_readCond_82 (k19 : Int32 → hI → Option (hI)) (v2 : Int32) (vs1 : Int32) (vs2 : Int32) (I : hI) : Option (hI) :=
  h_g (h_in vs1 1000) <|
  h_let (h_u I 8 vs1.toNatClampNeg (vp_nar .boolean vs2)) fun I2 =>
  (mM_next I2).bind fun q3 =>
  (mM_readSum q3).bind fun q4 =>
  (mM_readCompare q4.1 q4.2).bind fun q5 =>
  k19 v2 q5
set_option maxHeartbeats 4000000 in
theorem sM_readCond_82 (d : Nat) (hd : 11 + 1 ≤ d) (k19 : Int32 → hI → Option (hI)) (hk19 : ∀ (v2 : Int32) (I : hI) (J : hJ) (q : hI), k19 v2 I = some q → AW hFT cX11_readCond 4 none RX11 kdM d [(0, .ref 0), (2, .int v2)] 19 [] (I, J, RMm) none (q, J, RMm)) (v2 : Int32) (vs1 : Int32) (vs2 : Int32) (I : hI) (J : hJ) (q : hI) (h : mM_readCond_82 k19 v2 vs1 vs2 I = some q) : AW hFT cX11_readCond 4 none RX11 kdM d [(0, .ref 0), (2, .int v2)] 82 [.int vs2, .int vs1, .ref 8] (I, J, RMm) none (q, J, RMm) := by
  obtain ⟨d0, rfl, hd0⟩ := h_mono hd
  unfold mM_readCond_82 at h
  obtain ⟨g1, h⟩ := h_gS h
  refine b_zastore km_8 (h_inV g1) dX11_readCond_82 ?_
  obtain ⟨I2, eI2, h⟩ := h_letS h
  refine a_memI eI2 ?_
  refine a_aload_n dX11_readCond_83 rfl rfl ?_
  obtain ⟨q3, cq3, h⟩ := h_bindS h
  refine a_callV0 [] yy_X11_next ml_11_216 km_0 rfl (sM_next _ (by omega)  I2 J q3 cq3) rfl rfl (Nat.le_of_ble_eq_true rfl) dX11_readCond_84 ?_
  refine a_aload_n dX11_readCond_87 rfl rfl ?_
  refine a_aload_n dX11_readCond_88 rfl rfl ?_
  obtain ⟨q4, cq4, h⟩ := h_bindS h
  refine a_callV1 [.ref 0] yy_X11_readSum ml_11_252 km_0 rfl (sM_readSum _ (by omega)  q3 J q4 cq4) rfl rfl (Nat.le_of_ble_eq_true rfl) dX11_readCond_89 ?_
  obtain ⟨q5, cq5, h⟩ := h_bindS h
  refine a_callV0 [] yy_X11_readCompare ml_11_255 km_0 rfl (sM_readCompare _ (by omega) q4.1 q4.2 J q5 cq5) rfl rfl (Nat.le_of_ble_eq_true rfl) dX11_readCond_92 ?_
  refine a_goto (tgt := 19) dX11_readCond_95 (by decide) ?_
  exact hk19 v2 q5 J _ h
def mM_readCond_58 (k19 : Int32 → hI → Option (hI)) (v3 : Int32) (vs0 : Int32) (I : hI) : Option (hI) :=
  if vs0 = 0 then
    k19 vs0 I
  else
    (if v3 = 0 then
      mM_readCond_82 k19 vs0 ((I 0 16) - (1 : Int32)) (1 : Int32) I
    else
      mM_readCond_82 k19 vs0 ((I 0 16) - (1 : Int32)) (0 : Int32) I)
set_option maxHeartbeats 4000000 in
theorem sM_readCond_58 (d : Nat) (hd : 11 + 1 ≤ d) (k19 : Int32 → hI → Option (hI)) (hk19 : ∀ (v2 : Int32) (I : hI) (J : hJ) (q : hI), k19 v2 I = some q → AW hFT cX11_readCond 4 none RX11 kdM d [(0, .ref 0), (2, .int v2)] 19 [] (I, J, RMm) none (q, J, RMm)) (v3 : Int32) (vs0 : Int32) (I : hI) (J : hJ) (q : hI) (h : mM_readCond_58 k19 v3 vs0 I = some q) : AW hFT cX11_readCond 4 none RX11 kdM d [(0, .ref 0), (3, .int v3)] 58 [.int vs0] (I, J, RMm) none (q, J, RMm) := by
  obtain ⟨d0, rfl, hd0⟩ := h_mono hd
  unfold mM_readCond_58 at h
  refine a_istore_n (lv' := [(2, .int vs0), (0, .ref 0), (3, .int v3)]) dX11_readCond_58 rfl (by decide) rfl ?_
  refine a_iload_n dX11_readCond_59 rfl rfl ?_
  refine a_if_eq (tgt := 95) dX11_readCond_60 (by decide) (fun c => ?_) (fun c => ?_)
  · replace h := h_iteT c h
    refine a_goto (tgt := 19) dX11_readCond_95 (by decide) ?_
    refine a_sub (lv' := [(0, .ref 0), (2, .int vs0)]) [1, 0] rfl ?_
    exact hk19 vs0 I J _ h
  · replace h := h_iteF c h
    refine a_aload_n dX11_readCond_63 rfl rfl ?_
    refine b_getR hK_11 km_0 (i := 15) rfl fl_11_31 rfl rmm_15 dX11_readCond_64 ?_
    refine a_aload_n dX11_readCond_67 rfl rfl ?_
    refine b_getI hK_11 km_0 (i := 16) rfl fl_11_245 rfl dX11_readCond_68 ?_
    refine a_iconst dX11_readCond_71 ic_1 ?_
    refine a_isub dX11_readCond_72 ?_
    refine a_iload_n dX11_readCond_73 rfl rfl ?_
    refine a_if_ne (tgt := 81) dX11_readCond_74 (by decide) (fun c => ?_) (fun c => ?_)
    · replace h := h_iteF c h
      refine a_iconst dX11_readCond_81 ic_0 ?_
      refine a_sub (lv' := [(0, .ref 0), (2, .int vs0)]) [1, 0] rfl ?_
      exact sM_readCond_82 (d0 + 1) (by omega) k19 hk19 vs0 ((I 0 16) - (1 : Int32)) (0 : Int32) I J _ h
    · replace h := h_iteT c h
      refine a_iconst dX11_readCond_77 ic_1 ?_
      refine a_goto (tgt := 82) dX11_readCond_78 (by decide) ?_
      refine a_sub (lv' := [(0, .ref 0), (2, .int vs0)]) [1, 0] rfl ?_
      exact sM_readCond_82 (d0 + 1) (by omega) k19 hk19 vs0 ((I 0 16) - (1 : Int32)) (1 : Int32) I J _ h
def mM_readCond_B19 (k19 : Int32 → hI → Option (hI)) (v2 : Int32) (I : hI) : Option (hI) :=
  if v2 = 0 then
    some I
  else
    (if (I 0 5) = (-1 : Int32) then
      ((mM_isWord 8 I).bind fun q1 =>
      if q1 = 0 then
        ((mM_isWord 9 I).bind fun q2 =>
        if q2 = 0 then
          mM_readCond_58 k19 q1 (0 : Int32) I
        else
          mM_readCond_58 k19 q1 (1 : Int32) I)
      else
        mM_readCond_58 k19 q1 (1 : Int32) I)
    else
      some I)
set_option maxHeartbeats 4000000 in
theorem sM_readCond_B19 (d : Nat) (hd : 11 + 1 ≤ d) (k19 : Int32 → hI → Option (hI)) (hk19 : ∀ (v2 : Int32) (I : hI) (J : hJ) (q : hI), k19 v2 I = some q → AW hFT cX11_readCond 4 none RX11 kdM d [(0, .ref 0), (2, .int v2)] 19 [] (I, J, RMm) none (q, J, RMm)) (v2 : Int32) (I : hI) (J : hJ) (q : hI) (h : mM_readCond_B19 k19 v2 I = some q) : AW hFT cX11_readCond 4 none RX11 kdM d [(0, .ref 0), (2, .int v2)] 19 [] (I, J, RMm) none (q, J, RMm) := by
  obtain ⟨d0, rfl, hd0⟩ := h_mono hd
  unfold mM_readCond_B19 at h
  refine a_iload_n dX11_readCond_19 rfl rfl ?_
  refine a_if_eq (tgt := 98) dX11_readCond_20 (by decide) (fun c => ?_) (fun c => ?_)
  · replace h := h_iteT c h
    cases h
    exact a_vret dX11_readCond_98
  · replace h := h_iteF c h
    refine a_aload_n dX11_readCond_23 rfl rfl ?_
    refine b_getI hK_11 km_0 (i := 5) rfl fl_11_200 rfl dX11_readCond_24 ?_
    refine a_iconst dX11_readCond_27 ic_m1 ?_
    refine a_icmp_ne (tgt := 98) dX11_readCond_28 (by decide) (fun c => ?_) (fun c => ?_)
    · replace h := h_iteF c h
      cases h
      exact a_vret dX11_readCond_98
    · replace h := h_iteT c h
      refine a_aload_n dX11_readCond_31 rfl rfl ?_
      refine a_ldc_wS (i := 8) lit_11_259 kdM_len dX11_readCond_32 ?_
      obtain ⟨q1, cq1, h⟩ := h_bindS h
      refine a_callV1 [] yy_X11_isWord ml_11_212 km_0 rfl (sM_isWord _ (by omega) 8 (by decide) I J q1 cq1) rfl rfl (Nat.le_of_ble_eq_true rfl) dX11_readCond_35 ?_
      refine a_istore_n (lv' := [(3, .int q1), (0, .ref 0), (2, .int v2)]) dX11_readCond_38 rfl (by decide) rfl ?_
      refine a_iload_n dX11_readCond_39 rfl rfl ?_
      refine a_if_ne (tgt := 53) dX11_readCond_40 (by decide) (fun c => ?_) (fun c => ?_)
      · replace h := h_iteF c h
        refine a_iconst dX11_readCond_53 ic_1 ?_
        refine a_goto (tgt := 58) dX11_readCond_54 (by decide) ?_
        refine a_sub (lv' := [(0, .ref 0), (3, .int q1)]) [1, 0] rfl ?_
        exact sM_readCond_58 (d0 + 1) (by omega) k19 hk19 q1 (1 : Int32) I J _ h
      · replace h := h_iteT c h
        refine a_aload_n dX11_readCond_43 rfl rfl ?_
        refine a_ldc_wS (i := 9) lit_11_261 kdM_len dX11_readCond_44 ?_
        obtain ⟨q2, cq2, h⟩ := h_bindS h
        refine a_callV1 [] yy_X11_isWord ml_11_212 km_0 rfl (sM_isWord _ (by omega) 9 (by decide) I J q2 cq2) rfl rfl (Nat.le_of_ble_eq_true rfl) dX11_readCond_47 ?_
        refine a_if_eq (tgt := 57) dX11_readCond_50 (by decide) (fun c => ?_) (fun c => ?_)
        · replace h := h_iteT c h
          refine a_iconst dX11_readCond_57 ic_0 ?_
          refine a_sub (lv' := [(0, .ref 0), (3, .int q1)]) [1, 0] rfl ?_
          exact sM_readCond_58 (d0 + 1) (by omega) k19 hk19 q1 (0 : Int32) I J _ h
        · replace h := h_iteF c h
          refine a_iconst dX11_readCond_53 ic_1 ?_
          refine a_goto (tgt := 58) dX11_readCond_54 (by decide) ?_
          refine a_sub (lv' := [(0, .ref 0), (3, .int q1)]) [1, 0] rfl ?_
          exact sM_readCond_58 (d0 + 1) (by omega) k19 hk19 q1 (1 : Int32) I J _ h
def mM_readCond_L19  : Nat → Int32 → hI → Option (hI)
  | 0 => fun _ _ => none
  | n + 1 => mM_readCond_B19 (mM_readCond_L19 n)
theorem sM_readCond_L19 (d : Nat) (hd : 11 + 1 ≤ d) : ∀ (n : Nat) (v2 : Int32) (I : hI) (J : hJ) (q : hI) (h : mM_readCond_L19 n v2 I = some q), AW hFT cX11_readCond 4 none RX11 kdM d [(0, .ref 0), (2, .int v2)] 19 [] (I, J, RMm) none (q, J, RMm)
  | 0, _, _, _, q, h => by cases h
  | n + 1, v2, I, J, q, h => sM_readCond_B19 d hd (mM_readCond_L19 n) (sM_readCond_L19 d hd n) v2 I J q h
def mM_readCond_14  (vs1 : Int32) (I : hI) : Option (hI) :=
  (mM_readCompare vs1 I).bind fun q1 =>
  mM_readCond_L19 hF (1 : Int32) q1
set_option maxHeartbeats 4000000 in
theorem sM_readCond_14 (d : Nat) (hd : 11 + 1 ≤ d) (vs1 : Int32) (I : hI) (J : hJ) (q : hI) (h : mM_readCond_14 vs1 I = some q) : AW hFT cX11_readCond 4 none RX11 kdM d [(0, .ref 0)] 14 [.int vs1, .ref 0] (I, J, RMm) none (q, J, RMm) := by
  obtain ⟨d0, rfl, hd0⟩ := h_mono hd
  unfold mM_readCond_14 at h
  obtain ⟨q1, cq1, h⟩ := h_bindS h
  refine a_callV0 [] yy_X11_readCompare ml_11_255 km_0 rfl (sM_readCompare _ (by omega) vs1 I J q1 cq1) rfl rfl (Nat.le_of_ble_eq_true rfl) dX11_readCond_14 ?_
  refine a_iconst dX11_readCond_17 ic_1 ?_
  refine a_istore_n (lv' := [(2, .int (1 : Int32)), (0, .ref 0)]) dX11_readCond_18 rfl (by decide) rfl ?_
  refine a_sub (lv' := [(0, .ref 0), (2, .int (1 : Int32))]) [1, 0] rfl ?_
  exact sM_readCond_L19 (d0 + 1) (by omega) hF (1 : Int32) q1 J _ h
def mM_readCond  (v1 : Int32) (I : hI) : Option (hI) :=
  if v1 = (-1 : Int32) then
    ((mM_readSum I).bind fun q1 =>
    mM_readCond_14 q1.1 q1.2)
  else
    mM_readCond_14 v1 I
set_option maxHeartbeats 4000000 in
theorem sM_readCond (d : Nat) (hd : 11 + 1 ≤ d) (v1 : Int32) (I : hI) (J : hJ) (q : hI) (h : mM_readCond v1 I = some q) : HMet hFT yX11_readCond cX11_readCond 4 none kdM d [.ref 0, .int v1] (I, J, RMm) none (q, J, RMm) := by
  obtain ⟨d0, rfl, hd0⟩ := h_mono hd
  refine HMet.of (by decide) (Nat.le_of_ble_eq_true rfl) ?_
  show AW hFT cX11_readCond 4 none RX11 kdM (d0 + 1) [(0, .ref 0), (1, .int v1)] 0 [] (I, J, RMm) none (q, J, RMm)
  unfold mM_readCond at h
  refine a_aload_n dX11_readCond_0 rfl rfl ?_
  refine a_iload_n dX11_readCond_1 rfl rfl ?_
  refine a_iconst dX11_readCond_2 ic_m1 ?_
  refine a_icmp_ne (tgt := 13) dX11_readCond_3 (by decide) (fun c => ?_) (fun c => ?_)
  · replace h := h_iteF c h
    refine a_iload_n dX11_readCond_13 rfl rfl ?_
    refine a_sub (lv' := [(0, .ref 0)]) [0] rfl ?_
    exact sM_readCond_14 (d0 + 1) (by omega) v1 I J _ h
  · replace h := h_iteT c h
    refine a_aload_n dX11_readCond_6 rfl rfl ?_
    obtain ⟨q1, cq1, h⟩ := h_bindS h
    refine a_callV1 [.ref 0] yy_X11_readSum ml_11_252 km_0 rfl (sM_readSum _ (by omega)  I J q1 cq1) rfl rfl (Nat.le_of_ble_eq_true rfl) dX11_readCond_7 ?_
    refine a_goto (tgt := 14) dX11_readCond_10 (by decide) ?_
    refine a_sub (lv' := [(0, .ref 0)]) [0] rfl ?_
    exact sM_readCond_14 (d0 + 1) (by omega) q1.1 q1.2 J _ h
/-! CoinLoopsModel.sumAt(III)I -/
theorem dX11_sumAt_0 : decode cX11_sumAt 0 = .ok (.aload_n 0, 1) := by decide +kernel
theorem dX11_sumAt_1 : decode cX11_sumAt 1 = .ok (.getfield 13, 3) := by decide +kernel
theorem dX11_sumAt_4 : decode cX11_sumAt 4 = .ok (.iload_n 1, 1) := by decide +kernel
theorem dX11_sumAt_5 : decode cX11_sumAt 5 = .ok (.iaload, 1) := by decide +kernel
theorem dX11_sumAt_6 : decode cX11_sumAt 6 = .ok (.aload_n 0, 1) := by decide +kernel
theorem dX11_sumAt_7 : decode cX11_sumAt 7 = .ok (.getfield 16, 3) := by decide +kernel
theorem dX11_sumAt_10 : decode cX11_sumAt 10 = .ok (.iload_n 1, 1) := by decide +kernel
theorem dX11_sumAt_11 : decode cX11_sumAt 11 = .ok (.iaload, 1) := by decide +kernel
theorem dX11_sumAt_12 : decode cX11_sumAt 12 = .ok (.iload_n 2, 1) := by decide +kernel
theorem dX11_sumAt_13 : decode cX11_sumAt 13 = .ok (.imul, 1) := by decide +kernel
theorem dX11_sumAt_14 : decode cX11_sumAt 14 = .ok (.iadd, 1) := by decide +kernel
theorem dX11_sumAt_15 : decode cX11_sumAt 15 = .ok (.aload_n 0, 1) := by decide +kernel
theorem dX11_sumAt_16 : decode cX11_sumAt 16 = .ok (.getfield 19, 3) := by decide +kernel
theorem dX11_sumAt_19 : decode cX11_sumAt 19 = .ok (.iload_n 1, 1) := by decide +kernel
theorem dX11_sumAt_20 : decode cX11_sumAt 20 = .ok (.iaload, 1) := by decide +kernel
theorem dX11_sumAt_21 : decode cX11_sumAt 21 = .ok (.iload_n 3, 1) := by decide +kernel
theorem dX11_sumAt_22 : decode cX11_sumAt 22 = .ok (.imul, 1) := by decide +kernel
theorem dX11_sumAt_23 : decode cX11_sumAt 23 = .ok (.iadd, 1) := by decide +kernel
theorem dX11_sumAt_24 : decode cX11_sumAt 24 = .ok (.ireturn, 1) := by decide +kernel
def mM_sumAt  (v1 : Int32) (v2 : Int32) (v3 : Int32) (I : hI) : Option (Int32) :=
  h_g (h_in v1 1000) <|
  h_g (h_in v1 1000) <|
  h_g (h_in v1 1000) <|
  some (((I 2 v1.toNatClampNeg) + ((I 3 v1.toNatClampNeg) * v2)) + ((I 4 v1.toNatClampNeg) * v3))
set_option maxHeartbeats 4000000 in
theorem sM_sumAt (d : Nat) (hd : 0 ≤ d) (v1 : Int32) (v2 : Int32) (v3 : Int32) (I : hI) (J : hJ) (q : Int32) (h : mM_sumAt v1 v2 v3 I = some q) : HMet hFT yX11_sumAt cX11_sumAt 4 (some .int) kdM d [.ref 0, .int v1, .int v2, .int v3] (I, J, RMm) (some (.int q)) (I, J, RMm) := by
  refine HMet.of (by decide) (Nat.le_of_ble_eq_true rfl) ?_
  show AW hFT cX11_sumAt 4 (some .int) RX11 kdM d [(0, .ref 0), (1, .int v1), (2, .int v2), (3, .int v3)] 0 [] (I, J, RMm) (some (.int q)) (I, J, RMm)
  unfold mM_sumAt at h
  refine a_aload_n dX11_sumAt_0 rfl rfl ?_
  refine b_getR hK_11 km_0 (i := 8) rfl fl_11_13 rfl rmm_8 dX11_sumAt_1 ?_
  refine a_iload_n dX11_sumAt_4 rfl rfl ?_
  obtain ⟨g1, h⟩ := h_gS h
  refine b_iaload km_2 (h_inV g1) dX11_sumAt_5 ?_
  refine a_aload_n dX11_sumAt_6 rfl rfl ?_
  refine b_getR hK_11 km_0 (i := 9) rfl fl_11_16 rfl rmm_9 dX11_sumAt_7 ?_
  refine a_iload_n dX11_sumAt_10 rfl rfl ?_
  obtain ⟨g2, h⟩ := h_gS h
  refine b_iaload km_3 (h_inV g2) dX11_sumAt_11 ?_
  refine a_iload_n dX11_sumAt_12 rfl rfl ?_
  refine a_imul dX11_sumAt_13 ?_
  refine a_iadd dX11_sumAt_14 ?_
  refine a_aload_n dX11_sumAt_15 rfl rfl ?_
  refine b_getR hK_11 km_0 (i := 10) rfl fl_11_19 rfl rmm_10 dX11_sumAt_16 ?_
  refine a_iload_n dX11_sumAt_19 rfl rfl ?_
  obtain ⟨g3, h⟩ := h_gS h
  refine b_iaload km_4 (h_inV g3) dX11_sumAt_20 ?_
  refine a_iload_n dX11_sumAt_21 rfl rfl ?_
  refine a_imul dX11_sumAt_22 ?_
  refine a_iadd dX11_sumAt_23 ?_
  cases h
  exact a_iret dX11_sumAt_24
/-! CoinLoopsModel.compareAt(III)Z -/
theorem dX11_compareAt_0 : decode cX11_compareAt 0 = .ok (.aload_n 0, 1) := by decide +kernel
theorem dX11_compareAt_1 : decode cX11_compareAt 1 = .ok (.aload_n 0, 1) := by decide +kernel
theorem dX11_compareAt_2 : decode cX11_compareAt 2 = .ok (.getfield 22, 3) := by decide +kernel
theorem dX11_compareAt_5 : decode cX11_compareAt 5 = .ok (.iload_n 1, 1) := by decide +kernel
theorem dX11_compareAt_6 : decode cX11_compareAt 6 = .ok (.iaload, 1) := by decide +kernel
theorem dX11_compareAt_7 : decode cX11_compareAt 7 = .ok (.iload_n 2, 1) := by decide +kernel
theorem dX11_compareAt_8 : decode cX11_compareAt 8 = .ok (.iload_n 3, 1) := by decide +kernel
theorem dX11_compareAt_9 : decode cX11_compareAt 9 = .ok (.invokevirtual 263, 3) := by decide +kernel
theorem dX11_compareAt_12 : decode cX11_compareAt 12 = .ok (.istore 4, 2) := by decide +kernel
theorem dX11_compareAt_14 : decode cX11_compareAt 14 = .ok (.aload_n 0, 1) := by decide +kernel
theorem dX11_compareAt_15 : decode cX11_compareAt 15 = .ok (.aload_n 0, 1) := by decide +kernel
theorem dX11_compareAt_16 : decode cX11_compareAt 16 = .ok (.getfield 25, 3) := by decide +kernel
theorem dX11_compareAt_19 : decode cX11_compareAt 19 = .ok (.iload_n 1, 1) := by decide +kernel
theorem dX11_compareAt_20 : decode cX11_compareAt 20 = .ok (.iaload, 1) := by decide +kernel
theorem dX11_compareAt_21 : decode cX11_compareAt 21 = .ok (.iload_n 2, 1) := by decide +kernel
theorem dX11_compareAt_22 : decode cX11_compareAt 22 = .ok (.iload_n 3, 1) := by decide +kernel
theorem dX11_compareAt_23 : decode cX11_compareAt 23 = .ok (.invokevirtual 263, 3) := by decide +kernel
theorem dX11_compareAt_26 : decode cX11_compareAt 26 = .ok (.istore 5, 2) := by decide +kernel
theorem dX11_compareAt_28 : decode cX11_compareAt 28 = .ok (.aload_n 0, 1) := by decide +kernel
theorem dX11_compareAt_29 : decode cX11_compareAt 29 = .ok (.getfield 28, 3) := by decide +kernel
theorem dX11_compareAt_32 : decode cX11_compareAt 32 = .ok (.iload_n 1, 1) := by decide +kernel
theorem dX11_compareAt_33 : decode cX11_compareAt 33 = .ok (.iaload, 1) := by decide +kernel
theorem dX11_compareAt_34 : decode cX11_compareAt 34 = .ok (.bipush 60, 2) := by decide +kernel
theorem dX11_compareAt_36 : decode cX11_compareAt 36 = .ok (.if_icmp .ne 18, 3) := by decide +kernel
theorem dX11_compareAt_39 : decode cX11_compareAt 39 = .ok (.iload 4, 2) := by decide +kernel
theorem dX11_compareAt_41 : decode cX11_compareAt 41 = .ok (.iload 5, 2) := by decide +kernel
theorem dX11_compareAt_43 : decode cX11_compareAt 43 = .ok (.if_icmp .ge 7, 3) := by decide +kernel
theorem dX11_compareAt_46 : decode cX11_compareAt 46 = .ok (.iconst 1, 1) := by decide +kernel
theorem dX11_compareAt_47 : decode cX11_compareAt 47 = .ok (.goto 45, 3) := by decide +kernel
theorem dX11_compareAt_50 : decode cX11_compareAt 50 = .ok (.iconst 0, 1) := by decide +kernel
theorem dX11_compareAt_51 : decode cX11_compareAt 51 = .ok (.goto 41, 3) := by decide +kernel
theorem dX11_compareAt_54 : decode cX11_compareAt 54 = .ok (.aload_n 0, 1) := by decide +kernel
theorem dX11_compareAt_55 : decode cX11_compareAt 55 = .ok (.getfield 28, 3) := by decide +kernel
theorem dX11_compareAt_58 : decode cX11_compareAt 58 = .ok (.iload_n 1, 1) := by decide +kernel
theorem dX11_compareAt_59 : decode cX11_compareAt 59 = .ok (.iaload, 1) := by decide +kernel
theorem dX11_compareAt_60 : decode cX11_compareAt 60 = .ok (.bipush 61, 2) := by decide +kernel
theorem dX11_compareAt_62 : decode cX11_compareAt 62 = .ok (.if_icmp .ne 18, 3) := by decide +kernel
theorem dX11_compareAt_65 : decode cX11_compareAt 65 = .ok (.iload 4, 2) := by decide +kernel
theorem dX11_compareAt_67 : decode cX11_compareAt 67 = .ok (.iload 5, 2) := by decide +kernel
theorem dX11_compareAt_69 : decode cX11_compareAt 69 = .ok (.if_icmp .ne 7, 3) := by decide +kernel
theorem dX11_compareAt_72 : decode cX11_compareAt 72 = .ok (.iconst 1, 1) := by decide +kernel
theorem dX11_compareAt_73 : decode cX11_compareAt 73 = .ok (.goto 19, 3) := by decide +kernel
theorem dX11_compareAt_76 : decode cX11_compareAt 76 = .ok (.iconst 0, 1) := by decide +kernel
theorem dX11_compareAt_77 : decode cX11_compareAt 77 = .ok (.goto 15, 3) := by decide +kernel
theorem dX11_compareAt_80 : decode cX11_compareAt 80 = .ok (.iload 4, 2) := by decide +kernel
theorem dX11_compareAt_82 : decode cX11_compareAt 82 = .ok (.iload 5, 2) := by decide +kernel
theorem dX11_compareAt_84 : decode cX11_compareAt 84 = .ok (.if_icmp .le 7, 3) := by decide +kernel
theorem dX11_compareAt_87 : decode cX11_compareAt 87 = .ok (.iconst 1, 1) := by decide +kernel
theorem dX11_compareAt_88 : decode cX11_compareAt 88 = .ok (.goto 4, 3) := by decide +kernel
theorem dX11_compareAt_91 : decode cX11_compareAt 91 = .ok (.iconst 0, 1) := by decide +kernel
theorem dX11_compareAt_92 : decode cX11_compareAt 92 = .ok (.ireturn, 1) := by decide +kernel
def mM_compareAt  (v1 : Int32) (v2 : Int32) (v3 : Int32) (I : hI) : Option (Int32) :=
  h_g (h_in v1 1000) <|
  (mM_sumAt (I 5 v1.toNatClampNeg) v2 v3 I).bind fun q2 =>
  h_g (h_in v1 1000) <|
  (mM_sumAt (I 6 v1.toNatClampNeg) v2 v3 I).bind fun q4 =>
  h_g (h_in v1 1000) <|
  if (I 7 v1.toNatClampNeg) = (60 : Int32) then
    (if q4 ≤ q2 then
      some (0 : Int32)
    else
      some (1 : Int32))
  else
    (h_g (h_in v1 1000) <|
    if (I 7 v1.toNatClampNeg) = (61 : Int32) then
      (if q2 = q4 then
        some (1 : Int32)
      else
        some (0 : Int32))
    else
      (if q2 ≤ q4 then
        some (0 : Int32)
      else
        some (1 : Int32)))
set_option maxHeartbeats 4000000 in
theorem sM_compareAt (d : Nat) (hd : 0 + 1 ≤ d) (v1 : Int32) (v2 : Int32) (v3 : Int32) (I : hI) (J : hJ) (q : Int32) (h : mM_compareAt v1 v2 v3 I = some q) : HMet hFT yX11_compareAt cX11_compareAt 6 (some .boolean) kdM d [.ref 0, .int v1, .int v2, .int v3] (I, J, RMm) (some (.int q)) (I, J, RMm) := by
  obtain ⟨d0, rfl, hd0⟩ := h_mono hd
  refine HMet.of (by decide) (Nat.le_of_ble_eq_true rfl) ?_
  show AW hFT cX11_compareAt 6 (some .boolean) RX11 kdM (d0 + 1) [(0, .ref 0), (1, .int v1), (2, .int v2), (3, .int v3)] 0 [] (I, J, RMm) (some (.int q)) (I, J, RMm)
  unfold mM_compareAt at h
  refine a_aload_n dX11_compareAt_0 rfl rfl ?_
  refine a_aload_n dX11_compareAt_1 rfl rfl ?_
  refine b_getR hK_11 km_0 (i := 12) rfl fl_11_22 rfl rmm_12 dX11_compareAt_2 ?_
  refine a_iload_n dX11_compareAt_5 rfl rfl ?_
  obtain ⟨g1, h⟩ := h_gS h
  refine b_iaload km_5 (h_inV g1) dX11_compareAt_6 ?_
  refine a_iload_n dX11_compareAt_7 rfl rfl ?_
  refine a_iload_n dX11_compareAt_8 rfl rfl ?_
  obtain ⟨q2, cq2, h⟩ := h_bindS h
  refine a_callV1 [] yy_X11_sumAt ml_11_263 km_0 rfl (sM_sumAt _ (by omega) (I 5 v1.toNatClampNeg) v2 v3 I J q2 cq2) rfl rfl (Nat.le_of_ble_eq_true rfl) dX11_compareAt_9 ?_
  refine a_istore (lv' := [(4, .int q2), (0, .ref 0), (1, .int v1), (2, .int v2), (3, .int v3)]) dX11_compareAt_12 (by decide) rfl ?_
  refine a_aload_n dX11_compareAt_14 rfl rfl ?_
  refine a_aload_n dX11_compareAt_15 rfl rfl ?_
  refine b_getR hK_11 km_0 (i := 13) rfl fl_11_25 rfl rmm_13 dX11_compareAt_16 ?_
  refine a_iload_n dX11_compareAt_19 rfl rfl ?_
  obtain ⟨g3, h⟩ := h_gS h
  refine b_iaload km_6 (h_inV g3) dX11_compareAt_20 ?_
  refine a_iload_n dX11_compareAt_21 rfl rfl ?_
  refine a_iload_n dX11_compareAt_22 rfl rfl ?_
  obtain ⟨q4, cq4, h⟩ := h_bindS h
  refine a_callV1 [] yy_X11_sumAt ml_11_263 km_0 rfl (sM_sumAt _ (by omega) (I 6 v1.toNatClampNeg) v2 v3 I J q4 cq4) rfl rfl (Nat.le_of_ble_eq_true rfl) dX11_compareAt_23 ?_
  refine a_istore (lv' := [(5, .int q4), (4, .int q2), (0, .ref 0), (1, .int v1), (2, .int v2), (3, .int v3)]) dX11_compareAt_26 (by decide) rfl ?_
  refine a_aload_n dX11_compareAt_28 rfl rfl ?_
  refine b_getR hK_11 km_0 (i := 14) rfl fl_11_28 rfl rmm_14 dX11_compareAt_29 ?_
  refine a_iload_n dX11_compareAt_32 rfl rfl ?_
  obtain ⟨g5, h⟩ := h_gS h
  refine b_iaload km_7 (h_inV g5) dX11_compareAt_33 ?_
  refine a_bipush dX11_compareAt_34 bp_60 ?_
  refine a_icmp_ne (tgt := 54) dX11_compareAt_36 (by decide) (fun c => ?_) (fun c => ?_)
  · replace h := h_iteF c h
    refine a_aload_n dX11_compareAt_54 rfl rfl ?_
    refine b_getR hK_11 km_0 (i := 14) rfl fl_11_28 rfl rmm_14 dX11_compareAt_55 ?_
    refine a_iload_n dX11_compareAt_58 rfl rfl ?_
    obtain ⟨g6, h⟩ := h_gS h
    refine b_iaload km_7 (h_inV g6) dX11_compareAt_59 ?_
    refine a_bipush dX11_compareAt_60 bp_61 ?_
    refine a_icmp_ne (tgt := 80) dX11_compareAt_62 (by decide) (fun c => ?_) (fun c => ?_)
    · replace h := h_iteF c h
      refine a_iload dX11_compareAt_80 rfl ?_
      refine a_iload dX11_compareAt_82 rfl ?_
      refine a_icmp_le (tgt := 91) dX11_compareAt_84 (by decide) (fun c => ?_) (fun c => ?_)
      · replace h := h_iteT c h
        refine a_iconst dX11_compareAt_91 ic_0 ?_
        cases h
        exact a_zret (h_Z0.1) dX11_compareAt_92
      · replace h := h_iteF c h
        refine a_iconst dX11_compareAt_87 ic_1 ?_
        refine a_goto (tgt := 92) dX11_compareAt_88 (by decide) ?_
        cases h
        exact a_zret (h_Z1.1) dX11_compareAt_92
    · replace h := h_iteT c h
      refine a_iload dX11_compareAt_65 rfl ?_
      refine a_iload dX11_compareAt_67 rfl ?_
      refine a_icmp_ne (tgt := 76) dX11_compareAt_69 (by decide) (fun c => ?_) (fun c => ?_)
      · replace h := h_iteF c h
        refine a_iconst dX11_compareAt_76 ic_0 ?_
        refine a_goto (tgt := 92) dX11_compareAt_77 (by decide) ?_
        cases h
        exact a_zret (h_Z0.1) dX11_compareAt_92
      · replace h := h_iteT c h
        refine a_iconst dX11_compareAt_72 ic_1 ?_
        refine a_goto (tgt := 92) dX11_compareAt_73 (by decide) ?_
        cases h
        exact a_zret (h_Z1.1) dX11_compareAt_92
  · replace h := h_iteT c h
    refine a_iload dX11_compareAt_39 rfl ?_
    refine a_iload dX11_compareAt_41 rfl ?_
    refine a_icmp_ge (tgt := 50) dX11_compareAt_43 (by decide) (fun c => ?_) (fun c => ?_)
    · replace h := h_iteT c h
      refine a_iconst dX11_compareAt_50 ic_0 ?_
      refine a_goto (tgt := 92) dX11_compareAt_51 (by decide) ?_
      cases h
      exact a_zret (h_Z0.1) dX11_compareAt_92
    · replace h := h_iteF c h
      refine a_iconst dX11_compareAt_46 ic_1 ?_
      refine a_goto (tgt := 92) dX11_compareAt_47 (by decide) ?_
      cases h
      exact a_zret (h_Z1.1) dX11_compareAt_92
