/-! CoinLoopsModel.within(IIZI)J -/
theorem dX11_within_0 : decode cX11_within 0 = .ok (.aload_n 0, 1) := by decide +kernel
theorem dX11_within_1 : decode cX11_within 1 = .ok (.iconst 0, 1) := by decide +kernel
theorem dX11_within_2 : decode cX11_within 2 = .ok (.putfield 156, 3) := by decide +kernel
theorem dX11_within_5 : decode cX11_within 5 = .ok (.aload_n 0, 1) := by decide +kernel
theorem dX11_within_6 : decode cX11_within 6 = .ok (.aload_n 0, 1) := by decide +kernel
theorem dX11_within_7 : decode cX11_within 7 = .ok (.iload_n 1, 1) := by decide +kernel
theorem dX11_within_8 : decode cX11_within 8 = .ok (.invokevirtual 537, 3) := by decide +kernel
theorem dX11_within_11 : decode cX11_within 11 = .ok (.ifCond .eq 30, 3) := by decide +kernel
theorem dX11_within_14 : decode cX11_within 14 = .ok (.iload_n 2, 1) := by decide +kernel
theorem dX11_within_15 : decode cX11_within 15 = .ok (.i2l, 1) := by decide +kernel
theorem dX11_within_16 : decode cX11_within 16 = .ok (.lconst 0, 1) := by decide +kernel
theorem dX11_within_17 : decode cX11_within 17 = .ok (.ldc2_w 567, 3) := by decide +kernel
theorem dX11_within_20 : decode cX11_within 20 = .ok (.invokestatic 167, 3) := by decide +kernel
theorem dX11_within_23 : decode cX11_within 23 = .ok (.ifCond .eq 18, 3) := by decide +kernel
theorem dX11_within_26 : decode cX11_within 26 = .ok (.iload 4, 2) := by decide +kernel
theorem dX11_within_28 : decode cX11_within 28 = .ok (.i2l, 1) := by decide +kernel
theorem dX11_within_29 : decode cX11_within 29 = .ok (.lconst 0, 1) := by decide +kernel
theorem dX11_within_30 : decode cX11_within 30 = .ok (.lconst 1, 1) := by decide +kernel
theorem dX11_within_31 : decode cX11_within 31 = .ok (.invokestatic 167, 3) := by decide +kernel
theorem dX11_within_34 : decode cX11_within 34 = .ok (.ifCond .eq 7, 3) := by decide +kernel
theorem dX11_within_37 : decode cX11_within 37 = .ok (.iconst 1, 1) := by decide +kernel
theorem dX11_within_38 : decode cX11_within 38 = .ok (.goto 4, 3) := by decide +kernel
theorem dX11_within_41 : decode cX11_within 41 = .ok (.iconst 0, 1) := by decide +kernel
theorem dX11_within_42 : decode cX11_within 42 = .ok (.iconst 0, 1) := by decide +kernel
theorem dX11_within_43 : decode cX11_within 43 = .ok (.invokevirtual 527, 3) := by decide +kernel
theorem dX11_within_46 : decode cX11_within 46 = .ok (.ifCond .eq 7, 3) := by decide +kernel
theorem dX11_within_49 : decode cX11_within 49 = .ok (.ldc2_w 545, 3) := by decide +kernel
theorem dX11_within_52 : decode cX11_within 52 = .ok (.lreturn, 1) := by decide +kernel
theorem dX11_within_53 : decode cX11_within 53 = .ok (.aload_n 0, 1) := by decide +kernel
theorem dX11_within_54 : decode cX11_within 54 = .ok (.iload_n 2, 1) := by decide +kernel
theorem dX11_within_55 : decode cX11_within 55 = .ok (.iload_n 3, 1) := by decide +kernel
theorem dX11_within_56 : decode cX11_within 56 = .ok (.iload 4, 2) := by decide +kernel
theorem dX11_within_58 : decode cX11_within 58 = .ok (.iconst 1, 1) := by decide +kernel
theorem dX11_within_59 : decode cX11_within 59 = .ok (.if_icmp .ne 7, 3) := by decide +kernel
theorem dX11_within_62 : decode cX11_within 62 = .ok (.iconst 1, 1) := by decide +kernel
theorem dX11_within_63 : decode cX11_within 63 = .ok (.goto 4, 3) := by decide +kernel
theorem dX11_within_66 : decode cX11_within 66 = .ok (.iconst 0, 1) := by decide +kernel
theorem dX11_within_67 : decode cX11_within 67 = .ok (.invokevirtual 569, 3) := by decide +kernel
theorem dX11_within_70 : decode cX11_within 70 = .ok (.aload_n 0, 1) := by decide +kernel
theorem dX11_within_71 : decode cX11_within 71 = .ok (.getfield 141, 3) := by decide +kernel
theorem dX11_within_74 : decode cX11_within 74 = .ok (.iload_n 1, 1) := by decide +kernel
theorem dX11_within_75 : decode cX11_within 75 = .ok (.laload, 1) := by decide +kernel
theorem dX11_within_76 : decode cX11_within 76 = .ok (.lreturn, 1) := by decide +kernel
def mM_within_67  (v1 : Int32) (vs1 : Int32) (vs2 : Int32) (vs3 : Int32) (I : hI) (J : hJ) : Option (Int64 × hI × hJ) :=
  (mM_laysWithin vs1 vs2 vs3 I J).bind fun q1 =>
  h_g (h_in v1 10) <|
  some ((q1 44 v1.toNatClampNeg), I, q1)
set_option maxHeartbeats 4000000 in
theorem sM_within_67 (d : Nat) (hd : 3 + 1 ≤ d) (v1 : Int32) (vs1 : Int32) (vs2 : Int32) (vs3 : Int32) (I : hI) (J : hJ) (q : Int64 × hI × hJ) (h : mM_within_67 v1 vs1 vs2 vs3 I J = some q) : AW hFT cX11_within 5 (some .long) RX11 kdM d [(0, .ref 0), (1, .int v1)] 67 [.int vs3, .int vs2, .int vs1, .ref 0] (I, J, RMm) (some (.long q.1)) (q.2.1, q.2.2, RMm) := by
  obtain ⟨d0, rfl, hd0⟩ := h_mono hd
  unfold mM_within_67 at h
  obtain ⟨q1, cq1, h⟩ := h_bindS h
  refine a_callV0 [] yy_X11_laysWithin ml_11_569 km_0 rfl (sM_laysWithin _ (by omega) vs1 vs2 vs3 I J q1 cq1) rfl rfl (Nat.le_of_ble_eq_true rfl) dX11_within_67 ?_
  refine a_aload_n dX11_within_70 rfl rfl ?_
  refine b_getR hK_11 km_0 (i := 83) rfl fl_11_141 rfl rmm_83 dX11_within_71 ?_
  refine a_iload_n dX11_within_74 rfl rfl ?_
  obtain ⟨g2, h⟩ := h_gS h
  refine b_laload km_44 (h_inV g2) dX11_within_75 ?_
  cases h
  exact a_lret dX11_within_76
def mM_within_42  (v1 : Int32) (v2 : Int32) (v3 : Int32) (v4 : Int32) (vs1 : Int32) (I : hI) (J : hJ) : Option (Int64 × hI × hJ) :=
  (mM_isRefused vs1 (0 : Int32) I).bind fun q1 =>
  if q1.1 = 0 then
    (if v4 = (1 : Int32) then
      mM_within_67 v1 v2 v3 (1 : Int32) q1.2 J
    else
      mM_within_67 v1 v2 v3 (0 : Int32) q1.2 J)
  else
    some ((-1 : Int64), q1.2, J)
set_option maxHeartbeats 4000000 in
theorem sM_within_42 (d : Nat) (hd : 3 + 1 ≤ d) (v1 : Int32) (v2 : Int32) (v3 : Int32) (v4 : Int32) (vs1 : Int32) (I : hI) (J : hJ) (q : Int64 × hI × hJ) (h : mM_within_42 v1 v2 v3 v4 vs1 I J = some q) : AW hFT cX11_within 5 (some .long) RX11 kdM d [(0, .ref 0), (1, .int v1), (2, .int v2), (3, .int v3), (4, .int v4)] 42 [.int vs1, .ref 0] (I, J, RMm) (some (.long q.1)) (q.2.1, q.2.2, RMm) := by
  obtain ⟨d0, rfl, hd0⟩ := h_mono hd
  unfold mM_within_42 at h
  refine a_iconst dX11_within_42 ic_0 ?_
  obtain ⟨q1, cq1, h⟩ := h_bindS h
  refine a_callV1 [] yy_X11_isRefused ml_11_527 km_0 rfl (sM_isRefused _ (by omega) vs1 (0 : Int32) I J q1 cq1) rfl rfl (Nat.le_of_ble_eq_true rfl) dX11_within_43 ?_
  refine a_if_eq (tgt := 53) dX11_within_46 (by decide) (fun c => ?_) (fun c => ?_)
  · replace h := h_iteT c h
    refine a_aload_n dX11_within_53 rfl rfl ?_
    refine a_iload_n dX11_within_54 rfl rfl ?_
    refine a_iload_n dX11_within_55 rfl rfl ?_
    refine a_iload dX11_within_56 rfl ?_
    refine a_iconst dX11_within_58 ic_1 ?_
    refine a_icmp_ne (tgt := 66) dX11_within_59 (by decide) (fun c => ?_) (fun c => ?_)
    · replace h := h_iteF c h
      refine a_iconst dX11_within_66 ic_0 ?_
      refine a_sub (lv' := [(0, .ref 0), (1, .int v1)]) [0, 1] rfl ?_
      exact sM_within_67 (d0 + 1) (by omega) v1 v2 v3 (0 : Int32) q1.2 J _ h
    · replace h := h_iteT c h
      refine a_iconst dX11_within_62 ic_1 ?_
      refine a_goto (tgt := 67) dX11_within_63 (by decide) ?_
      refine a_sub (lv' := [(0, .ref 0), (1, .int v1)]) [0, 1] rfl ?_
      exact sM_within_67 (d0 + 1) (by omega) v1 v2 v3 (1 : Int32) q1.2 J _ h
  · replace h := h_iteF c h
    refine a_ldc2_w cn_11_545 dX11_within_49 ?_
    cases h
    exact a_lret dX11_within_52
def mM_within_41  (v1 : Int32) (v2 : Int32) (v3 : Int32) (v4 : Int32) (I : hI) (J : hJ) : Option (Int64 × hI × hJ) :=
  mM_within_42 v1 v2 v3 v4 (0 : Int32) I J
set_option maxHeartbeats 4000000 in
theorem sM_within_41 (d : Nat) (hd : 3 + 1 ≤ d) (v1 : Int32) (v2 : Int32) (v3 : Int32) (v4 : Int32) (I : hI) (J : hJ) (q : Int64 × hI × hJ) (h : mM_within_41 v1 v2 v3 v4 I J = some q) : AW hFT cX11_within 5 (some .long) RX11 kdM d [(0, .ref 0), (1, .int v1), (2, .int v2), (3, .int v3), (4, .int v4)] 41 [.ref 0] (I, J, RMm) (some (.long q.1)) (q.2.1, q.2.2, RMm) := by
  obtain ⟨d0, rfl, hd0⟩ := h_mono hd
  unfold mM_within_41 at h
  refine a_iconst dX11_within_41 ic_0 ?_
  exact sM_within_42 (d0 + 1) (by omega) v1 v2 v3 v4 (0 : Int32) I J _ h
def mM_within  (v1 : Int32) (v2 : Int32) (v3 : Int32) (v4 : Int32) (I : hI) (J : hJ) : Option (Int64 × hI × hJ) :=
  h_let (h_u I 0 0 (0 : Int32)) fun I1 =>
  (mM_isState v1 I1).bind fun q2 =>
  if q2 = 0 then
    mM_within_41 v1 v2 v3 v4 I1 J
  else
    (if (mM_in v2.toInt64 (0 : Int64) (20 : Int64)) = 0 then
      mM_within_41 v1 v2 v3 v4 I1 J
    else
      (if (mM_in v4.toInt64 (0 : Int64) (1 : Int64)) = 0 then
        mM_within_41 v1 v2 v3 v4 I1 J
      else
        mM_within_42 v1 v2 v3 v4 (1 : Int32) I1 J))
set_option maxHeartbeats 4000000 in
theorem sM_within (d : Nat) (hd : 3 + 1 ≤ d) (v1 : Int32) (v2 : Int32) (v3 : Int32) (v4 : Int32) (I : hI) (J : hJ) (q : Int64 × hI × hJ) (h : mM_within v1 v2 v3 v4 I J = some q) : HMet hFT yX11_within cX11_within 5 (some .long) kdM d [.ref 0, .int v1, .int v2, .int v3, .int v4] (I, J, RMm) (some (.long q.1)) (q.2.1, q.2.2, RMm) := by
  obtain ⟨d0, rfl, hd0⟩ := h_mono hd
  refine HMet.of (by decide) (Nat.le_of_ble_eq_true rfl) ?_
  show AW hFT cX11_within 5 (some .long) RX11 kdM (d0 + 1) [(0, .ref 0), (1, .int v1), (2, .int v2), (3, .int v3), (4, .int v4)] 0 [] (I, J, RMm) (some (.long q.1)) (q.2.1, q.2.2, RMm)
  unfold mM_within at h
  refine a_aload_n dX11_within_0 rfl rfl ?_
  refine a_iconst dX11_within_1 ic_0 ?_
  refine b_putI hK_11 km_0 (i := 0) rfl fl_11_156 rfl rfl (h_NI _) dX11_within_2 ?_
  obtain ⟨I1, eI1, h⟩ := h_letS h
  refine a_memI eI1 ?_
  refine a_aload_n dX11_within_5 rfl rfl ?_
  refine a_aload_n dX11_within_6 rfl rfl ?_
  refine a_iload_n dX11_within_7 rfl rfl ?_
  obtain ⟨q2, cq2, h⟩ := h_bindS h
  refine a_callV1 [.ref 0] yy_X11_isState ml_11_537 km_0 rfl (sM_isState _ (by omega) v1 I1 J q2 cq2) rfl rfl (Nat.le_of_ble_eq_true rfl) dX11_within_8 ?_
  refine a_if_eq (tgt := 41) dX11_within_11 (by decide) (fun c => ?_) (fun c => ?_)
  · replace h := h_iteT c h
    exact sM_within_41 (d0 + 1) (by omega) v1 v2 v3 v4 I1 J _ h
  · replace h := h_iteF c h
    refine a_iload_n dX11_within_14 rfl rfl ?_
    refine a_i2l dX11_within_15 ?_
    refine a_lconst dX11_within_16 lc_0 ?_
    refine a_ldc2_w cn_11_567 dX11_within_17 ?_
    refine a_callS1 [.ref 0] yy_X11_in ml_11_167 (sM_in _ (by omega) v2.toInt64 (0 : Int64) (20 : Int64) I1 J _ rfl) rfl rfl (Nat.le_of_ble_eq_true rfl) dX11_within_20 ?_
    refine a_if_eq (tgt := 41) dX11_within_23 (by decide) (fun c => ?_) (fun c => ?_)
    · replace h := h_iteT c h
      exact sM_within_41 (d0 + 1) (by omega) v1 v2 v3 v4 I1 J _ h
    · replace h := h_iteF c h
      refine a_iload dX11_within_26 rfl ?_
      refine a_i2l dX11_within_28 ?_
      refine a_lconst dX11_within_29 lc_0 ?_
      refine a_lconst dX11_within_30 lc_1 ?_
      refine a_callS1 [.ref 0] yy_X11_in ml_11_167 (sM_in _ (by omega) v4.toInt64 (0 : Int64) (1 : Int64) I1 J _ rfl) rfl rfl (Nat.le_of_ble_eq_true rfl) dX11_within_31 ?_
      refine a_if_eq (tgt := 41) dX11_within_34 (by decide) (fun c => ?_) (fun c => ?_)
      · replace h := h_iteT c h
        exact sM_within_41 (d0 + 1) (by omega) v1 v2 v3 v4 I1 J _ h
      · replace h := h_iteF c h
        refine a_iconst dX11_within_37 ic_1 ?_
        refine a_goto (tgt := 42) dX11_within_38 (by decide) ?_
        exact sM_within_42 (d0 + 1) (by omega) v1 v2 v3 v4 (1 : Int32) I1 J _ h
/-! CoinLoopsModel.half(I)I -/
theorem dX11_half_0 : decode cX11_half 0 = .ok (.aload_n 0, 1) := by decide +kernel
theorem dX11_half_1 : decode cX11_half 1 = .ok (.iconst 0, 1) := by decide +kernel
theorem dX11_half_2 : decode cX11_half 2 = .ok (.putfield 156, 3) := by decide +kernel
theorem dX11_half_5 : decode cX11_half 5 = .ok (.aload_n 0, 1) := by decide +kernel
theorem dX11_half_6 : decode cX11_half 6 = .ok (.aload_n 0, 1) := by decide +kernel
theorem dX11_half_7 : decode cX11_half 7 = .ok (.iload_n 1, 1) := by decide +kernel
theorem dX11_half_8 : decode cX11_half 8 = .ok (.invokevirtual 537, 3) := by decide +kernel
theorem dX11_half_11 : decode cX11_half 11 = .ok (.iconst 0, 1) := by decide +kernel
theorem dX11_half_12 : decode cX11_half 12 = .ok (.invokevirtual 527, 3) := by decide +kernel
theorem dX11_half_15 : decode cX11_half 15 = .ok (.ifCond .eq 5, 3) := by decide +kernel
theorem dX11_half_18 : decode cX11_half 18 = .ok (.iconst (-1), 1) := by decide +kernel
theorem dX11_half_19 : decode cX11_half 19 = .ok (.ireturn, 1) := by decide +kernel
theorem dX11_half_20 : decode cX11_half 20 = .ok (.lconst 1, 1) := by decide +kernel
theorem dX11_half_21 : decode cX11_half 21 = .ok (.lstore_n 2, 1) := by decide +kernel
theorem dX11_half_22 : decode cX11_half 22 = .ok (.iconst 0, 1) := by decide +kernel
theorem dX11_half_23 : decode cX11_half 23 = .ok (.istore 4, 2) := by decide +kernel
theorem dX11_half_25 : decode cX11_half 25 = .ok (.iload 4, 2) := by decide +kernel
theorem dX11_half_27 : decode cX11_half 27 = .ok (.bipush 20, 2) := by decide +kernel
theorem dX11_half_29 : decode cX11_half 29 = .ok (.if_icmp .gt 41, 3) := by decide +kernel
theorem dX11_half_32 : decode cX11_half 32 = .ok (.aload_n 0, 1) := by decide +kernel
theorem dX11_half_33 : decode cX11_half 33 = .ok (.iload 4, 2) := by decide +kernel
theorem dX11_half_35 : decode cX11_half 35 = .ok (.iconst 0, 1) := by decide +kernel
theorem dX11_half_36 : decode cX11_half 36 = .ok (.iconst 0, 1) := by decide +kernel
theorem dX11_half_37 : decode cX11_half 37 = .ok (.invokevirtual 569, 3) := by decide +kernel
theorem dX11_half_40 : decode cX11_half 40 = .ok (.ldc2_w 543, 3) := by decide +kernel
theorem dX11_half_43 : decode cX11_half 43 = .ok (.aload_n 0, 1) := by decide +kernel
theorem dX11_half_44 : decode cX11_half 44 = .ok (.getfield 141, 3) := by decide +kernel
theorem dX11_half_47 : decode cX11_half 47 = .ok (.iload_n 1, 1) := by decide +kernel
theorem dX11_half_48 : decode cX11_half 48 = .ok (.laload, 1) := by decide +kernel
theorem dX11_half_49 : decode cX11_half 49 = .ok (.lmul, 1) := by decide +kernel
theorem dX11_half_50 : decode cX11_half 50 = .ok (.lload_n 2, 1) := by decide +kernel
theorem dX11_half_51 : decode cX11_half 51 = .ok (.lcmp, 1) := by decide +kernel
theorem dX11_half_52 : decode cX11_half 52 = .ok (.ifCond .lt 6, 3) := by decide +kernel
theorem dX11_half_55 : decode cX11_half 55 = .ok (.iload 4, 2) := by decide +kernel
theorem dX11_half_57 : decode cX11_half 57 = .ok (.ireturn, 1) := by decide +kernel
theorem dX11_half_58 : decode cX11_half 58 = .ok (.lload_n 2, 1) := by decide +kernel
theorem dX11_half_59 : decode cX11_half 59 = .ok (.ldc2_w 561, 3) := by decide +kernel
theorem dX11_half_62 : decode cX11_half 62 = .ok (.lmul, 1) := by decide +kernel
theorem dX11_half_63 : decode cX11_half 63 = .ok (.lstore_n 2, 1) := by decide +kernel
theorem dX11_half_64 : decode cX11_half 64 = .ok (.iinc 4 1, 3) := by decide +kernel
theorem dX11_half_67 : decode cX11_half 67 = .ok (.goto (-42), 3) := by decide +kernel
theorem dX11_half_70 : decode cX11_half 70 = .ok (.iconst (-1), 1) := by decide +kernel
theorem dX11_half_71 : decode cX11_half 71 = .ok (.ireturn, 1) := by decide +kernel
def mM_half_B25 (k25 : Int32 → Int64 → Int32 → hI → hJ → Option (Int32 × hI × hJ)) (v1 : Int32) (v2 : Int64) (v4 : Int32) (I : hI) (J : hJ) : Option (Int32 × hI × hJ) :=
  if (20 : Int32) < v4 then
    some ((-1 : Int32), I, J)
  else
    ((mM_laysWithin v4 (0 : Int32) (0 : Int32) I J).bind fun q1 =>
    h_g (h_in v1 10) <|
    if ((2 : Int64) * (q1 44 v1.toNatClampNeg)) < v2 then
      (h_let (v2 * (4 : Int64)) fun v2x2 =>
      k25 v1 v2x2 (v4 + (1 : Int32)) I q1)
    else
      some (v4, I, q1))
set_option maxHeartbeats 4000000 in
theorem sM_half_B25 (d : Nat) (hd : 3 + 1 ≤ d) (k25 : Int32 → Int64 → Int32 → hI → hJ → Option (Int32 × hI × hJ)) (hk25 : ∀ (v1 : Int32) (v2 : Int64) (v4 : Int32) (I : hI) (J : hJ) (q : Int32 × hI × hJ), k25 v1 v2 v4 I J = some q → AW hFT cX11_half 5 (some .int) RX11 kdM d [(0, .ref 0), (1, .int v1), (2, .long v2), (4, .int v4)] 25 [] (I, J, RMm) (some (.int q.1)) (q.2.1, q.2.2, RMm)) (v1 : Int32) (v2 : Int64) (v4 : Int32) (I : hI) (J : hJ) (q : Int32 × hI × hJ) (h : mM_half_B25 k25 v1 v2 v4 I J = some q) : AW hFT cX11_half 5 (some .int) RX11 kdM d [(0, .ref 0), (1, .int v1), (2, .long v2), (4, .int v4)] 25 [] (I, J, RMm) (some (.int q.1)) (q.2.1, q.2.2, RMm) := by
  obtain ⟨d0, rfl, hd0⟩ := h_mono hd
  unfold mM_half_B25 at h
  refine a_iload dX11_half_25 rfl ?_
  refine a_bipush dX11_half_27 bp_20 ?_
  refine a_icmp_gt (tgt := 70) dX11_half_29 (by decide) (fun c => ?_) (fun c => ?_)
  · replace h := h_iteT c h
    refine a_iconst dX11_half_70 ic_m1 ?_
    cases h
    exact a_iret dX11_half_71
  · replace h := h_iteF c h
    refine a_aload_n dX11_half_32 rfl rfl ?_
    refine a_iload dX11_half_33 rfl ?_
    refine a_iconst dX11_half_35 ic_0 ?_
    refine a_iconst dX11_half_36 ic_0 ?_
    obtain ⟨q1, cq1, h⟩ := h_bindS h
    refine a_callV0 [] yy_X11_laysWithin ml_11_569 km_0 rfl (sM_laysWithin _ (by omega) v4 (0 : Int32) (0 : Int32) I J q1 cq1) rfl rfl (Nat.le_of_ble_eq_true rfl) dX11_half_37 ?_
    refine a_ldc2_w cn_11_543 dX11_half_40 ?_
    refine a_aload_n dX11_half_43 rfl rfl ?_
    refine b_getR hK_11 km_0 (i := 83) rfl fl_11_141 rfl rmm_83 dX11_half_44 ?_
    refine a_iload_n dX11_half_47 rfl rfl ?_
    obtain ⟨g2, h⟩ := h_gS h
    refine b_laload km_44 (h_inV g2) dX11_half_48 ?_
    refine a_lmul dX11_half_49 ?_
    refine a_lload_n dX11_half_50 rfl rfl ?_
    refine a_lcmp_lt (tgt := 58) dX11_half_51 dX11_half_52 (by decide) (fun c => ?_) (fun c => ?_)
    · replace h := h_iteT c h
      refine a_lload_n dX11_half_58 rfl rfl ?_
      refine a_ldc2_w cn_11_561 dX11_half_59 ?_
      refine a_lmul dX11_half_62 ?_
      obtain ⟨v2x2, ev2x2, h⟩ := h_letS h
      refine a_topJ ev2x2 ?_
      refine a_lstore_n (lv' := [(2, .long v2x2), (0, .ref 0), (1, .int v1), (4, .int v4)]) dX11_half_63 rfl (by decide) rfl ?_
      refine b_iinc (lv' := [(4, .int (v4 + (1 : Int32))), (2, .long v2x2), (0, .ref 0), (1, .int v1)]) dX11_half_64 rfl ic_1 (by decide) rfl ?_
      refine a_goto (tgt := 25) dX11_half_67 (by decide) ?_
      refine a_sub (lv' := [(0, .ref 0), (1, .int v1), (2, .long v2x2), (4, .int (v4 + (1 : Int32)))]) [2, 3, 1, 0] rfl ?_
      exact hk25 v1 v2x2 (v4 + (1 : Int32)) I q1 _ h
    · replace h := h_iteF c h
      refine a_iload dX11_half_55 rfl ?_
      cases h
      exact a_iret dX11_half_57
def mM_half_L25  : Nat → Int32 → Int64 → Int32 → hI → hJ → Option (Int32 × hI × hJ)
  | 0 => fun _ _ _ _ _ => none
  | n + 1 => mM_half_B25 (mM_half_L25 n)
theorem sM_half_L25 (d : Nat) (hd : 3 + 1 ≤ d) : ∀ (n : Nat) (v1 : Int32) (v2 : Int64) (v4 : Int32) (I : hI) (J : hJ) (q : Int32 × hI × hJ) (h : mM_half_L25 n v1 v2 v4 I J = some q), AW hFT cX11_half 5 (some .int) RX11 kdM d [(0, .ref 0), (1, .int v1), (2, .long v2), (4, .int v4)] 25 [] (I, J, RMm) (some (.int q.1)) (q.2.1, q.2.2, RMm)
  | 0, _, _, _, _, _, q, h => by cases h
  | n + 1, v1, v2, v4, I, J, q, h => sM_half_B25 d hd (mM_half_L25 n) (sM_half_L25 d hd n) v1 v2 v4 I J q h
def mM_half  (v1 : Int32) (I : hI) (J : hJ) : Option (Int32 × hI × hJ) :=
  h_let (h_u I 0 0 (0 : Int32)) fun I1 =>
  (mM_isState v1 I1).bind fun q2 =>
  (mM_isRefused q2 (0 : Int32) I1).bind fun q3 =>
  if q3.1 = 0 then
    mM_half_L25 hF v1 (1 : Int64) (0 : Int32) q3.2 J
  else
    some ((-1 : Int32), q3.2, J)
set_option maxHeartbeats 4000000 in
theorem sM_half (d : Nat) (hd : 3 + 1 ≤ d) (v1 : Int32) (I : hI) (J : hJ) (q : Int32 × hI × hJ) (h : mM_half v1 I J = some q) : HMet hFT yX11_half cX11_half 5 (some .int) kdM d [.ref 0, .int v1] (I, J, RMm) (some (.int q.1)) (q.2.1, q.2.2, RMm) := by
  obtain ⟨d0, rfl, hd0⟩ := h_mono hd
  refine HMet.of (by decide) (Nat.le_of_ble_eq_true rfl) ?_
  show AW hFT cX11_half 5 (some .int) RX11 kdM (d0 + 1) [(0, .ref 0), (1, .int v1)] 0 [] (I, J, RMm) (some (.int q.1)) (q.2.1, q.2.2, RMm)
  unfold mM_half at h
  refine a_aload_n dX11_half_0 rfl rfl ?_
  refine a_iconst dX11_half_1 ic_0 ?_
  refine b_putI hK_11 km_0 (i := 0) rfl fl_11_156 rfl rfl (h_NI _) dX11_half_2 ?_
  obtain ⟨I1, eI1, h⟩ := h_letS h
  refine a_memI eI1 ?_
  refine a_aload_n dX11_half_5 rfl rfl ?_
  refine a_aload_n dX11_half_6 rfl rfl ?_
  refine a_iload_n dX11_half_7 rfl rfl ?_
  obtain ⟨q2, cq2, h⟩ := h_bindS h
  refine a_callV1 [.ref 0] yy_X11_isState ml_11_537 km_0 rfl (sM_isState _ (by omega) v1 I1 J q2 cq2) rfl rfl (Nat.le_of_ble_eq_true rfl) dX11_half_8 ?_
  refine a_iconst dX11_half_11 ic_0 ?_
  obtain ⟨q3, cq3, h⟩ := h_bindS h
  refine a_callV1 [] yy_X11_isRefused ml_11_527 km_0 rfl (sM_isRefused _ (by omega) q2 (0 : Int32) I1 J q3 cq3) rfl rfl (Nat.le_of_ble_eq_true rfl) dX11_half_12 ?_
  refine a_if_eq (tgt := 20) dX11_half_15 (by decide) (fun c => ?_) (fun c => ?_)
  · replace h := h_iteT c h
    refine a_lconst dX11_half_20 lc_1 ?_
    refine a_lstore_n (lv' := [(2, .long (1 : Int64)), (0, .ref 0), (1, .int v1)]) dX11_half_21 rfl (by decide) rfl ?_
    refine a_iconst dX11_half_22 ic_0 ?_
    refine a_istore (lv' := [(4, .int (0 : Int32)), (2, .long (1 : Int64)), (0, .ref 0), (1, .int v1)]) dX11_half_23 (by decide) rfl ?_
    refine a_sub (lv' := [(0, .ref 0), (1, .int v1), (2, .long (1 : Int64)), (4, .int (0 : Int32))]) [2, 3, 1, 0] rfl ?_
    exact sM_half_L25 (d0 + 1) (by omega) hF v1 (1 : Int64) (0 : Int32) q3.2 J _ h
  · replace h := h_iteF c h
    refine a_iconst dX11_half_18 ic_m1 ?_
    cases h
    exact a_iret dX11_half_19
/-! CoinLoopsModel.wholeGuess(I)J -/
theorem dX11_wholeGuess_0 : decode cX11_wholeGuess 0 = .ok (.aload_n 0, 1) := by decide +kernel
theorem dX11_wholeGuess_1 : decode cX11_wholeGuess 1 = .ok (.iload_n 1, 1) := by decide +kernel
theorem dX11_wholeGuess_2 : decode cX11_wholeGuess 2 = .ok (.invokevirtual 463, 3) := by decide +kernel
theorem dX11_wholeGuess_5 : decode cX11_wholeGuess 5 = .ok (.ifCond .ne 5, 3) := by decide +kernel
theorem dX11_wholeGuess_8 : decode cX11_wholeGuess 8 = .ok (.lconst 0, 1) := by decide +kernel
theorem dX11_wholeGuess_9 : decode cX11_wholeGuess 9 = .ok (.lreturn, 1) := by decide +kernel
theorem dX11_wholeGuess_10 : decode cX11_wholeGuess 10 = .ok (.iload_n 1, 1) := by decide +kernel
theorem dX11_wholeGuess_11 : decode cX11_wholeGuess 11 = .ok (.aload_n 0, 1) := by decide +kernel
theorem dX11_wholeGuess_12 : decode cX11_wholeGuess 12 = .ok (.getfield 361, 3) := by decide +kernel
theorem dX11_wholeGuess_15 : decode cX11_wholeGuess 15 = .ok (.irem, 1) := by decide +kernel
theorem dX11_wholeGuess_16 : decode cX11_wholeGuess 16 = .ok (.istore_n 2, 1) := by decide +kernel
theorem dX11_wholeGuess_17 : decode cX11_wholeGuess 17 = .ok (.iload_n 1, 1) := by decide +kernel
theorem dX11_wholeGuess_18 : decode cX11_wholeGuess 18 = .ok (.aload_n 0, 1) := by decide +kernel
theorem dX11_wholeGuess_19 : decode cX11_wholeGuess 19 = .ok (.getfield 361, 3) := by decide +kernel
theorem dX11_wholeGuess_22 : decode cX11_wholeGuess 22 = .ok (.idiv, 1) := by decide +kernel
theorem dX11_wholeGuess_23 : decode cX11_wholeGuess 23 = .ok (.istore_n 3, 1) := by decide +kernel
theorem dX11_wholeGuess_24 : decode cX11_wholeGuess 24 = .ok (.iconst 0, 1) := by decide +kernel
theorem dX11_wholeGuess_25 : decode cX11_wholeGuess 25 = .ok (.istore 4, 2) := by decide +kernel
theorem dX11_wholeGuess_27 : decode cX11_wholeGuess 27 = .ok (.iload 4, 2) := by decide +kernel
theorem dX11_wholeGuess_29 : decode cX11_wholeGuess 29 = .ok (.aload_n 0, 1) := by decide +kernel
theorem dX11_wholeGuess_30 : decode cX11_wholeGuess 30 = .ok (.getfield 358, 3) := by decide +kernel
theorem dX11_wholeGuess_33 : decode cX11_wholeGuess 33 = .ok (.if_icmp .ge 77, 3) := by decide +kernel
theorem dX11_wholeGuess_36 : decode cX11_wholeGuess 36 = .ok (.aload_n 0, 1) := by decide +kernel
theorem dX11_wholeGuess_37 : decode cX11_wholeGuess 37 = .ok (.getfield 68, 3) := by decide +kernel
theorem dX11_wholeGuess_40 : decode cX11_wholeGuess 40 = .ok (.iload 4, 2) := by decide +kernel
theorem dX11_wholeGuess_42 : decode cX11_wholeGuess 42 = .ok (.iaload, 1) := by decide +kernel
theorem dX11_wholeGuess_43 : decode cX11_wholeGuess 43 = .ok (.aload_n 0, 1) := by decide +kernel
theorem dX11_wholeGuess_44 : decode cX11_wholeGuess 44 = .ok (.getfield 71, 3) := by decide +kernel
theorem dX11_wholeGuess_47 : decode cX11_wholeGuess 47 = .ok (.iload 4, 2) := by decide +kernel
theorem dX11_wholeGuess_49 : decode cX11_wholeGuess 49 = .ok (.iaload, 1) := by decide +kernel
theorem dX11_wholeGuess_50 : decode cX11_wholeGuess 50 = .ok (.if_icmp .eq 26, 3) := by decide +kernel
theorem dX11_wholeGuess_53 : decode cX11_wholeGuess 53 = .ok (.aload_n 0, 1) := by decide +kernel
theorem dX11_wholeGuess_54 : decode cX11_wholeGuess 54 = .ok (.aload_n 0, 1) := by decide +kernel
theorem dX11_wholeGuess_55 : decode cX11_wholeGuess 55 = .ok (.getfield 68, 3) := by decide +kernel
theorem dX11_wholeGuess_58 : decode cX11_wholeGuess 58 = .ok (.iload 4, 2) := by decide +kernel
theorem dX11_wholeGuess_60 : decode cX11_wholeGuess 60 = .ok (.iaload, 1) := by decide +kernel
theorem dX11_wholeGuess_61 : decode cX11_wholeGuess 61 = .ok (.aload_n 0, 1) := by decide +kernel
theorem dX11_wholeGuess_62 : decode cX11_wholeGuess 62 = .ok (.getfield 71, 3) := by decide +kernel
theorem dX11_wholeGuess_65 : decode cX11_wholeGuess 65 = .ok (.iload 4, 2) := by decide +kernel
theorem dX11_wholeGuess_67 : decode cX11_wholeGuess 67 = .ok (.iaload, 1) := by decide +kernel
theorem dX11_wholeGuess_68 : decode cX11_wholeGuess 68 = .ok (.iload_n 2, 1) := by decide +kernel
theorem dX11_wholeGuess_69 : decode cX11_wholeGuess 69 = .ok (.iload_n 3, 1) := by decide +kernel
theorem dX11_wholeGuess_70 : decode cX11_wholeGuess 70 = .ok (.invokevirtual 394, 3) := by decide +kernel
theorem dX11_wholeGuess_73 : decode cX11_wholeGuess 73 = .ok (.ifCond .eq 31, 3) := by decide +kernel
theorem dX11_wholeGuess_76 : decode cX11_wholeGuess 76 = .ok (.aload_n 0, 1) := by decide +kernel
theorem dX11_wholeGuess_77 : decode cX11_wholeGuess 77 = .ok (.aload_n 0, 1) := by decide +kernel
theorem dX11_wholeGuess_78 : decode cX11_wholeGuess 78 = .ok (.getfield 74, 3) := by decide +kernel
theorem dX11_wholeGuess_81 : decode cX11_wholeGuess 81 = .ok (.iload 4, 2) := by decide +kernel
theorem dX11_wholeGuess_83 : decode cX11_wholeGuess 83 = .ok (.iaload, 1) := by decide +kernel
theorem dX11_wholeGuess_84 : decode cX11_wholeGuess 84 = .ok (.iload_n 2, 1) := by decide +kernel
theorem dX11_wholeGuess_85 : decode cX11_wholeGuess 85 = .ok (.iload_n 3, 1) := by decide +kernel
theorem dX11_wholeGuess_86 : decode cX11_wholeGuess 86 = .ok (.invokevirtual 263, 3) := by decide +kernel
theorem dX11_wholeGuess_89 : decode cX11_wholeGuess 89 = .ok (.i2l, 1) := by decide +kernel
theorem dX11_wholeGuess_90 : decode cX11_wholeGuess 90 = .ok (.sipush 27720, 3) := by decide +kernel
theorem dX11_wholeGuess_93 : decode cX11_wholeGuess 93 = .ok (.aload_n 0, 1) := by decide +kernel
theorem dX11_wholeGuess_94 : decode cX11_wholeGuess 94 = .ok (.getfield 77, 3) := by decide +kernel
theorem dX11_wholeGuess_97 : decode cX11_wholeGuess 97 = .ok (.iload 4, 2) := by decide +kernel
theorem dX11_wholeGuess_99 : decode cX11_wholeGuess 99 = .ok (.iaload, 1) := by decide +kernel
theorem dX11_wholeGuess_100 : decode cX11_wholeGuess 100 = .ok (.idiv, 1) := by decide +kernel
theorem dX11_wholeGuess_101 : decode cX11_wholeGuess 101 = .ok (.i2l, 1) := by decide +kernel
theorem dX11_wholeGuess_102 : decode cX11_wholeGuess 102 = .ok (.lmul, 1) := by decide +kernel
theorem dX11_wholeGuess_103 : decode cX11_wholeGuess 103 = .ok (.lreturn, 1) := by decide +kernel
theorem dX11_wholeGuess_104 : decode cX11_wholeGuess 104 = .ok (.iinc 4 1, 3) := by decide +kernel
theorem dX11_wholeGuess_107 : decode cX11_wholeGuess 107 = .ok (.goto (-80), 3) := by decide +kernel
theorem dX11_wholeGuess_110 : decode cX11_wholeGuess 110 = .ok (.lconst 0, 1) := by decide +kernel
theorem dX11_wholeGuess_111 : decode cX11_wholeGuess 111 = .ok (.lreturn, 1) := by decide +kernel
def mM_wholeGuess_76 (k27 : Int32 → Int32 → Int32 → hI → Option (Int64)) (v2 : Int32) (v3 : Int32) (v4 : Int32) (I : hI) : Option (Int64) :=
  h_g (h_in v4 8) <|
  (mM_sumAt (I 22 v4.toNatClampNeg) v2 v3 I).bind fun q2 =>
  h_g (h_in v4 8) <|
  h_g (h_nz (I 23 v4.toNatClampNeg)) <|
  some (q2.toInt64 * (((27720 : Int32) / (I 23 v4.toNatClampNeg)).toInt64))
set_option maxHeartbeats 4000000 in
theorem sM_wholeGuess_76 (d : Nat) (hd : 2 + 1 ≤ d) (k27 : Int32 → Int32 → Int32 → hI → Option (Int64)) (hk27 : ∀ (v2 : Int32) (v3 : Int32) (v4 : Int32) (I : hI) (J : hJ) (q : Int64), k27 v2 v3 v4 I = some q → AW hFT cX11_wholeGuess 5 (some .long) RX11 kdM d [(0, .ref 0), (2, .int v2), (3, .int v3), (4, .int v4)] 27 [] (I, J, RMm) (some (.long q)) (I, J, RMm)) (v2 : Int32) (v3 : Int32) (v4 : Int32) (I : hI) (J : hJ) (q : Int64) (h : mM_wholeGuess_76 k27 v2 v3 v4 I = some q) : AW hFT cX11_wholeGuess 5 (some .long) RX11 kdM d [(0, .ref 0), (2, .int v2), (3, .int v3), (4, .int v4)] 76 [] (I, J, RMm) (some (.long q)) (I, J, RMm) := by
  obtain ⟨d0, rfl, hd0⟩ := h_mono hd
  unfold mM_wholeGuess_76 at h
  refine a_aload_n dX11_wholeGuess_76 rfl rfl ?_
  refine a_aload_n dX11_wholeGuess_77 rfl rfl ?_
  refine b_getR hK_11 km_0 (i := 50) rfl fl_11_74 rfl rmm_50 dX11_wholeGuess_78 ?_
  refine a_iload dX11_wholeGuess_81 rfl ?_
  obtain ⟨g1, h⟩ := h_gS h
  refine b_iaload km_22 (h_inV g1) dX11_wholeGuess_83 ?_
  refine a_iload_n dX11_wholeGuess_84 rfl rfl ?_
  refine a_iload_n dX11_wholeGuess_85 rfl rfl ?_
  obtain ⟨q2, cq2, h⟩ := h_bindS h
  refine a_callV1 [] yy_X11_sumAt ml_11_263 km_0 rfl (sM_sumAt _ (by omega) (I 22 v4.toNatClampNeg) v2 v3 I J q2 cq2) rfl rfl (Nat.le_of_ble_eq_true rfl) dX11_wholeGuess_86 ?_
  refine a_i2l dX11_wholeGuess_89 ?_
  refine a_sipush dX11_wholeGuess_90 sq_27720 ?_
  refine a_aload_n dX11_wholeGuess_93 rfl rfl ?_
  refine b_getR hK_11 km_0 (i := 51) rfl fl_11_77 rfl rmm_51 dX11_wholeGuess_94 ?_
  refine a_iload dX11_wholeGuess_97 rfl ?_
  obtain ⟨g3, h⟩ := h_gS h
  refine b_iaload km_23 (h_inV g3) dX11_wholeGuess_99 ?_
  obtain ⟨g4, h⟩ := h_gS h
  refine a_idiv dX11_wholeGuess_100 (h_nzV g4) ?_
  refine a_i2l dX11_wholeGuess_101 ?_
  refine a_lmul dX11_wholeGuess_102 ?_
  cases h
  exact a_lret dX11_wholeGuess_103
def mM_wholeGuess_B27 (k27 : Int32 → Int32 → Int32 → hI → Option (Int64)) (v2 : Int32) (v3 : Int32) (v4 : Int32) (I : hI) : Option (Int64) :=
  if (I 0 47) ≤ v4 then
    some (0 : Int64)
  else
    (h_g (h_in v4 8) <|
    h_g (h_in v4 8) <|
    if (I 20 v4.toNatClampNeg) = (I 21 v4.toNatClampNeg) then
      mM_wholeGuess_76 k27 v2 v3 v4 I
    else
      (h_g (h_in v4 8) <|
      h_g (h_in v4 8) <|
      (mM_holds (I 20 v4.toNatClampNeg) (I 21 v4.toNatClampNeg) v2 v3 I).bind fun q5 =>
      if q5 = 0 then
        k27 v2 v3 (v4 + (1 : Int32)) I
      else
        mM_wholeGuess_76 k27 v2 v3 v4 I))
set_option maxHeartbeats 4000000 in
theorem sM_wholeGuess_B27 (d : Nat) (hd : 2 + 1 ≤ d) (k27 : Int32 → Int32 → Int32 → hI → Option (Int64)) (hk27 : ∀ (v2 : Int32) (v3 : Int32) (v4 : Int32) (I : hI) (J : hJ) (q : Int64), k27 v2 v3 v4 I = some q → AW hFT cX11_wholeGuess 5 (some .long) RX11 kdM d [(0, .ref 0), (2, .int v2), (3, .int v3), (4, .int v4)] 27 [] (I, J, RMm) (some (.long q)) (I, J, RMm)) (v2 : Int32) (v3 : Int32) (v4 : Int32) (I : hI) (J : hJ) (q : Int64) (h : mM_wholeGuess_B27 k27 v2 v3 v4 I = some q) : AW hFT cX11_wholeGuess 5 (some .long) RX11 kdM d [(0, .ref 0), (2, .int v2), (3, .int v3), (4, .int v4)] 27 [] (I, J, RMm) (some (.long q)) (I, J, RMm) := by
  obtain ⟨d0, rfl, hd0⟩ := h_mono hd
  unfold mM_wholeGuess_B27 at h
  refine a_iload dX11_wholeGuess_27 rfl ?_
  refine a_aload_n dX11_wholeGuess_29 rfl rfl ?_
  refine b_getI hK_11 km_0 (i := 47) rfl fl_11_358 rfl dX11_wholeGuess_30 ?_
  refine a_icmp_ge (tgt := 110) dX11_wholeGuess_33 (by decide) (fun c => ?_) (fun c => ?_)
  · replace h := h_iteT c h
    refine a_lconst dX11_wholeGuess_110 lc_0 ?_
    cases h
    exact a_lret dX11_wholeGuess_111
  · replace h := h_iteF c h
    refine a_aload_n dX11_wholeGuess_36 rfl rfl ?_
    refine b_getR hK_11 km_0 (i := 48) rfl fl_11_68 rfl rmm_48 dX11_wholeGuess_37 ?_
    refine a_iload dX11_wholeGuess_40 rfl ?_
    obtain ⟨g1, h⟩ := h_gS h
    refine b_iaload km_20 (h_inV g1) dX11_wholeGuess_42 ?_
    refine a_aload_n dX11_wholeGuess_43 rfl rfl ?_
    refine b_getR hK_11 km_0 (i := 49) rfl fl_11_71 rfl rmm_49 dX11_wholeGuess_44 ?_
    refine a_iload dX11_wholeGuess_47 rfl ?_
    obtain ⟨g2, h⟩ := h_gS h
    refine b_iaload km_21 (h_inV g2) dX11_wholeGuess_49 ?_
    refine a_icmp_eq (tgt := 76) dX11_wholeGuess_50 (by decide) (fun c => ?_) (fun c => ?_)
    · replace h := h_iteT c h
      exact sM_wholeGuess_76 (d0 + 1) (by omega) k27 hk27 v2 v3 v4 I J _ h
    · replace h := h_iteF c h
      refine a_aload_n dX11_wholeGuess_53 rfl rfl ?_
      refine a_aload_n dX11_wholeGuess_54 rfl rfl ?_
      refine b_getR hK_11 km_0 (i := 48) rfl fl_11_68 rfl rmm_48 dX11_wholeGuess_55 ?_
      refine a_iload dX11_wholeGuess_58 rfl ?_
      obtain ⟨g3, h⟩ := h_gS h
      refine b_iaload km_20 (h_inV g3) dX11_wholeGuess_60 ?_
      refine a_aload_n dX11_wholeGuess_61 rfl rfl ?_
      refine b_getR hK_11 km_0 (i := 49) rfl fl_11_71 rfl rmm_49 dX11_wholeGuess_62 ?_
      refine a_iload dX11_wholeGuess_65 rfl ?_
      obtain ⟨g4, h⟩ := h_gS h
      refine b_iaload km_21 (h_inV g4) dX11_wholeGuess_67 ?_
      refine a_iload_n dX11_wholeGuess_68 rfl rfl ?_
      refine a_iload_n dX11_wholeGuess_69 rfl rfl ?_
      obtain ⟨q5, cq5, h⟩ := h_bindS h
      refine a_callV1 [] yy_X11_holds ml_11_394 km_0 rfl (sM_holds _ (by omega) (I 20 v4.toNatClampNeg) (I 21 v4.toNatClampNeg) v2 v3 I J q5 cq5) rfl rfl (Nat.le_of_ble_eq_true rfl) dX11_wholeGuess_70 ?_
      refine a_if_eq (tgt := 104) dX11_wholeGuess_73 (by decide) (fun c => ?_) (fun c => ?_)
      · replace h := h_iteT c h
        refine b_iinc (lv' := [(4, .int (v4 + (1 : Int32))), (0, .ref 0), (2, .int v2), (3, .int v3)]) dX11_wholeGuess_104 rfl ic_1 (by decide) rfl ?_
        refine a_goto (tgt := 27) dX11_wholeGuess_107 (by decide) ?_
        refine a_sub (lv' := [(0, .ref 0), (2, .int v2), (3, .int v3), (4, .int (v4 + (1 : Int32)))]) [1, 2, 3, 0] rfl ?_
        exact hk27 v2 v3 (v4 + (1 : Int32)) I J _ h
      · replace h := h_iteF c h
        exact sM_wholeGuess_76 (d0 + 1) (by omega) k27 hk27 v2 v3 v4 I J _ h
def mM_wholeGuess_L27  : Nat → Int32 → Int32 → Int32 → hI → Option (Int64)
  | 0 => fun _ _ _ _ => none
  | n + 1 => mM_wholeGuess_B27 (mM_wholeGuess_L27 n)
theorem sM_wholeGuess_L27 (d : Nat) (hd : 2 + 1 ≤ d) : ∀ (n : Nat) (v2 : Int32) (v3 : Int32) (v4 : Int32) (I : hI) (J : hJ) (q : Int64) (h : mM_wholeGuess_L27 n v2 v3 v4 I = some q), AW hFT cX11_wholeGuess 5 (some .long) RX11 kdM d [(0, .ref 0), (2, .int v2), (3, .int v3), (4, .int v4)] 27 [] (I, J, RMm) (some (.long q)) (I, J, RMm)
  | 0, _, _, _, _, _, q, h => by cases h
  | n + 1, v2, v3, v4, I, J, q, h => sM_wholeGuess_B27 d hd (mM_wholeGuess_L27 n) (sM_wholeGuess_L27 d hd n) v2 v3 v4 I J q h
def mM_wholeGuess  (v1 : Int32) (I : hI) : Option (Int64) :=
  (mM_isInside v1 I).bind fun q1 =>
  if q1 = 0 then
    some (0 : Int64)
  else
    (h_g (h_nz (I 0 39)) <|
    h_let (v1 - v1 / (I 0 39) * (I 0 39)) fun v2x2 =>
    h_g (h_nz (I 0 39)) <|
    h_let (v1 / (I 0 39)) fun v3x4 =>
    mM_wholeGuess_L27 hF v2x2 v3x4 (0 : Int32) I)
set_option maxHeartbeats 4000000 in
theorem sM_wholeGuess (d : Nat) (hd : 2 + 1 ≤ d) (v1 : Int32) (I : hI) (J : hJ) (q : Int64) (h : mM_wholeGuess v1 I = some q) : HMet hFT yX11_wholeGuess cX11_wholeGuess 5 (some .long) kdM d [.ref 0, .int v1] (I, J, RMm) (some (.long q)) (I, J, RMm) := by
  obtain ⟨d0, rfl, hd0⟩ := h_mono hd
  refine HMet.of (by decide) (Nat.le_of_ble_eq_true rfl) ?_
  show AW hFT cX11_wholeGuess 5 (some .long) RX11 kdM (d0 + 1) [(0, .ref 0), (1, .int v1)] 0 [] (I, J, RMm) (some (.long q)) (I, J, RMm)
  unfold mM_wholeGuess at h
  refine a_aload_n dX11_wholeGuess_0 rfl rfl ?_
  refine a_iload_n dX11_wholeGuess_1 rfl rfl ?_
  obtain ⟨q1, cq1, h⟩ := h_bindS h
  refine a_callV1 [] yy_X11_isInside ml_11_463 km_0 rfl (sM_isInside _ (by omega) v1 I J q1 cq1) rfl rfl (Nat.le_of_ble_eq_true rfl) dX11_wholeGuess_2 ?_
  refine a_if_ne (tgt := 10) dX11_wholeGuess_5 (by decide) (fun c => ?_) (fun c => ?_)
  · replace h := h_iteF c h
    refine a_iload_n dX11_wholeGuess_10 rfl rfl ?_
    refine a_aload_n dX11_wholeGuess_11 rfl rfl ?_
    refine b_getI hK_11 km_0 (i := 39) rfl fl_11_361 rfl dX11_wholeGuess_12 ?_
    obtain ⟨g2, h⟩ := h_gS h
    refine a_irem dX11_wholeGuess_15 (h_nzV g2) ?_
    obtain ⟨v2x2, ev2x2, h⟩ := h_letS h
    refine a_topI ev2x2 ?_
    refine a_istore_n (lv' := [(2, .int v2x2), (0, .ref 0), (1, .int v1)]) dX11_wholeGuess_16 rfl (by decide) rfl ?_
    refine a_iload_n dX11_wholeGuess_17 rfl rfl ?_
    refine a_aload_n dX11_wholeGuess_18 rfl rfl ?_
    refine b_getI hK_11 km_0 (i := 39) rfl fl_11_361 rfl dX11_wholeGuess_19 ?_
    obtain ⟨g4, h⟩ := h_gS h
    refine a_idiv dX11_wholeGuess_22 (h_nzV g4) ?_
    obtain ⟨v3x4, ev3x4, h⟩ := h_letS h
    refine a_topI ev3x4 ?_
    refine a_istore_n (lv' := [(3, .int v3x4), (2, .int v2x2), (0, .ref 0), (1, .int v1)]) dX11_wholeGuess_23 rfl (by decide) rfl ?_
    refine a_iconst dX11_wholeGuess_24 ic_0 ?_
    refine a_istore (lv' := [(4, .int (0 : Int32)), (3, .int v3x4), (2, .int v2x2), (0, .ref 0), (1, .int v1)]) dX11_wholeGuess_25 (by decide) rfl ?_
    refine a_sub (lv' := [(0, .ref 0), (2, .int v2x2), (3, .int v3x4), (4, .int (0 : Int32))]) [3, 2, 1, 0] rfl ?_
    exact sM_wholeGuess_L27 (d0 + 1) (by omega) hF v2x2 v3x4 (0 : Int32) I J _ h
  · replace h := h_iteT c h
    refine a_lconst dX11_wholeGuess_8 lc_0 ?_
    cases h
    exact a_lret dX11_wholeGuess_9
/-! CoinLoopsModel.wholeAhead(IIZ)J -/
theorem dX11_wholeAhead_0 : decode cX11_wholeAhead 0 = .ok (.aload_n 0, 1) := by decide +kernel
theorem dX11_wholeAhead_1 : decode cX11_wholeAhead 1 = .ok (.iload_n 1, 1) := by decide +kernel
theorem dX11_wholeAhead_2 : decode cX11_wholeAhead 2 = .ok (.iload_n 2, 1) := by decide +kernel
theorem dX11_wholeAhead_3 : decode cX11_wholeAhead 3 = .ok (.invokevirtual 433, 3) := by decide +kernel
theorem dX11_wholeAhead_6 : decode cX11_wholeAhead 6 = .ok (.istore 4, 2) := by decide +kernel
theorem dX11_wholeAhead_8 : decode cX11_wholeAhead 8 = .ok (.iload_n 3, 1) := by decide +kernel
theorem dX11_wholeAhead_9 : decode cX11_wholeAhead 9 = .ok (.ifCond .eq 18, 3) := by decide +kernel
theorem dX11_wholeAhead_12 : decode cX11_wholeAhead 12 = .ok (.aload_n 0, 1) := by decide +kernel
theorem dX11_wholeAhead_13 : decode cX11_wholeAhead 13 = .ok (.getfield 89, 3) := by decide +kernel
theorem dX11_wholeAhead_16 : decode cX11_wholeAhead 16 = .ok (.iload 4, 2) := by decide +kernel
theorem dX11_wholeAhead_18 : decode cX11_wholeAhead 18 = .ok (.iaload, 1) := by decide +kernel
theorem dX11_wholeAhead_19 : decode cX11_wholeAhead 19 = .ok (.i2l, 1) := by decide +kernel
theorem dX11_wholeAhead_20 : decode cX11_wholeAhead 20 = .ok (.ldc2_w 573, 3) := by decide +kernel
theorem dX11_wholeAhead_23 : decode cX11_wholeAhead 23 = .ok (.lmul, 1) := by decide +kernel
theorem dX11_wholeAhead_24 : decode cX11_wholeAhead 24 = .ok (.goto 4, 3) := by decide +kernel
theorem dX11_wholeAhead_27 : decode cX11_wholeAhead 27 = .ok (.lconst 0, 1) := by decide +kernel
theorem dX11_wholeAhead_28 : decode cX11_wholeAhead 28 = .ok (.lstore 5, 2) := by decide +kernel
theorem dX11_wholeAhead_30 : decode cX11_wholeAhead 30 = .ok (.iconst 0, 1) := by decide +kernel
theorem dX11_wholeAhead_31 : decode cX11_wholeAhead 31 = .ok (.istore 7, 2) := by decide +kernel
theorem dX11_wholeAhead_33 : decode cX11_wholeAhead 33 = .ok (.iload 7, 2) := by decide +kernel
theorem dX11_wholeAhead_35 : decode cX11_wholeAhead 35 = .ok (.aload_n 0, 1) := by decide +kernel
theorem dX11_wholeAhead_36 : decode cX11_wholeAhead 36 = .ok (.getfield 367, 3) := by decide +kernel
theorem dX11_wholeAhead_39 : decode cX11_wholeAhead 39 = .ok (.if_icmp .ge 35, 3) := by decide +kernel
theorem dX11_wholeAhead_42 : decode cX11_wholeAhead 42 = .ok (.lload 5, 2) := by decide +kernel
theorem dX11_wholeAhead_44 : decode cX11_wholeAhead 44 = .ok (.aload_n 0, 1) := by decide +kernel
theorem dX11_wholeAhead_45 : decode cX11_wholeAhead 45 = .ok (.getfield 95, 3) := by decide +kernel
theorem dX11_wholeAhead_48 : decode cX11_wholeAhead 48 = .ok (.bipush 10, 2) := by decide +kernel
theorem dX11_wholeAhead_50 : decode cX11_wholeAhead 50 = .ok (.iload 4, 2) := by decide +kernel
theorem dX11_wholeAhead_52 : decode cX11_wholeAhead 52 = .ok (.imul, 1) := by decide +kernel
theorem dX11_wholeAhead_53 : decode cX11_wholeAhead 53 = .ok (.iload 7, 2) := by decide +kernel
theorem dX11_wholeAhead_55 : decode cX11_wholeAhead 55 = .ok (.iadd, 1) := by decide +kernel
theorem dX11_wholeAhead_56 : decode cX11_wholeAhead 56 = .ok (.iaload, 1) := by decide +kernel
theorem dX11_wholeAhead_57 : decode cX11_wholeAhead 57 = .ok (.i2l, 1) := by decide +kernel
theorem dX11_wholeAhead_58 : decode cX11_wholeAhead 58 = .ok (.aload_n 0, 1) := by decide +kernel
theorem dX11_wholeAhead_59 : decode cX11_wholeAhead 59 = .ok (.iload 7, 2) := by decide +kernel
theorem dX11_wholeAhead_61 : decode cX11_wholeAhead 61 = .ok (.invokevirtual 575, 3) := by decide +kernel
theorem dX11_wholeAhead_64 : decode cX11_wholeAhead 64 = .ok (.lmul, 1) := by decide +kernel
theorem dX11_wholeAhead_65 : decode cX11_wholeAhead 65 = .ok (.ladd, 1) := by decide +kernel
theorem dX11_wholeAhead_66 : decode cX11_wholeAhead 66 = .ok (.lstore 5, 2) := by decide +kernel
theorem dX11_wholeAhead_68 : decode cX11_wholeAhead 68 = .ok (.iinc 7 1, 3) := by decide +kernel
theorem dX11_wholeAhead_71 : decode cX11_wholeAhead 71 = .ok (.goto (-38), 3) := by decide +kernel
theorem dX11_wholeAhead_74 : decode cX11_wholeAhead 74 = .ok (.lload 5, 2) := by decide +kernel
theorem dX11_wholeAhead_76 : decode cX11_wholeAhead 76 = .ok (.lreturn, 1) := by decide +kernel
def mM_wholeAhead_B33 (k33 : Int32 → Int64 → Int32 → hI → Option (Int64)) (v4 : Int32) (v5 : Int64) (v7 : Int32) (I : hI) : Option (Int64) :=
  if (I 0 41) ≤ v7 then
    some v5
  else
    (h_g (h_in (((10 : Int32) * v4) + v7) 800) <|
    (mM_wholeGuess v7 I).bind fun q2 =>
    h_let (v5 + (((I 29 (((10 : Int32) * v4) + v7).toNatClampNeg).toInt64) * q2)) fun v5x2 =>
    k33 v4 v5x2 (v7 + (1 : Int32)) I)
set_option maxHeartbeats 4000000 in
theorem sM_wholeAhead_B33 (d : Nat) (hd : 3 + 1 ≤ d) (k33 : Int32 → Int64 → Int32 → hI → Option (Int64)) (hk33 : ∀ (v4 : Int32) (v5 : Int64) (v7 : Int32) (I : hI) (J : hJ) (q : Int64), k33 v4 v5 v7 I = some q → AW hFT cX11_wholeAhead 8 (some .long) RX11 kdM d [(0, .ref 0), (4, .int v4), (5, .long v5), (7, .int v7)] 33 [] (I, J, RMm) (some (.long q)) (I, J, RMm)) (v4 : Int32) (v5 : Int64) (v7 : Int32) (I : hI) (J : hJ) (q : Int64) (h : mM_wholeAhead_B33 k33 v4 v5 v7 I = some q) : AW hFT cX11_wholeAhead 8 (some .long) RX11 kdM d [(0, .ref 0), (4, .int v4), (5, .long v5), (7, .int v7)] 33 [] (I, J, RMm) (some (.long q)) (I, J, RMm) := by
  obtain ⟨d0, rfl, hd0⟩ := h_mono hd
  unfold mM_wholeAhead_B33 at h
  refine a_iload dX11_wholeAhead_33 rfl ?_
  refine a_aload_n dX11_wholeAhead_35 rfl rfl ?_
  refine b_getI hK_11 km_0 (i := 41) rfl fl_11_367 rfl dX11_wholeAhead_36 ?_
  refine a_icmp_ge (tgt := 74) dX11_wholeAhead_39 (by decide) (fun c => ?_) (fun c => ?_)
  · replace h := h_iteT c h
    refine a_lload dX11_wholeAhead_74 rfl ?_
    cases h
    exact a_lret dX11_wholeAhead_76
  · replace h := h_iteF c h
    refine a_lload dX11_wholeAhead_42 rfl ?_
    refine a_aload_n dX11_wholeAhead_44 rfl rfl ?_
    refine b_getR hK_11 km_0 (i := 66) rfl fl_11_95 rfl rmm_66 dX11_wholeAhead_45 ?_
    refine a_bipush dX11_wholeAhead_48 bp_10 ?_
    refine a_iload dX11_wholeAhead_50 rfl ?_
    refine a_imul dX11_wholeAhead_52 ?_
    refine a_iload dX11_wholeAhead_53 rfl ?_
    refine a_iadd dX11_wholeAhead_55 ?_
    obtain ⟨g1, h⟩ := h_gS h
    refine b_iaload km_29 (h_inV g1) dX11_wholeAhead_56 ?_
    refine a_i2l dX11_wholeAhead_57 ?_
    refine a_aload_n dX11_wholeAhead_58 rfl rfl ?_
    refine a_iload dX11_wholeAhead_59 rfl ?_
    obtain ⟨q2, cq2, h⟩ := h_bindS h
    refine a_callV1 [.long (I 29 (((10 : Int32) * v4) + v7).toNatClampNeg).toInt64, .long v5] yy_X11_wholeGuess ml_11_575 km_0 rfl (sM_wholeGuess _ (by omega) v7 I J q2 cq2) rfl rfl (Nat.le_of_ble_eq_true rfl) dX11_wholeAhead_61 ?_
    refine a_lmul dX11_wholeAhead_64 ?_
    refine a_ladd dX11_wholeAhead_65 ?_
    obtain ⟨v5x2, ev5x2, h⟩ := h_letS h
    refine a_topJ ev5x2 ?_
    refine a_lstore (lv' := [(5, .long v5x2), (0, .ref 0), (4, .int v4), (7, .int v7)]) dX11_wholeAhead_66 (by decide) rfl ?_
    refine b_iinc (lv' := [(7, .int (v7 + (1 : Int32))), (5, .long v5x2), (0, .ref 0), (4, .int v4)]) dX11_wholeAhead_68 rfl ic_1 (by decide) rfl ?_
    refine a_goto (tgt := 33) dX11_wholeAhead_71 (by decide) ?_
    refine a_sub (lv' := [(0, .ref 0), (4, .int v4), (5, .long v5x2), (7, .int (v7 + (1 : Int32)))]) [2, 3, 1, 0] rfl ?_
    exact hk33 v4 v5x2 (v7 + (1 : Int32)) I J _ h
def mM_wholeAhead_L33  : Nat → Int32 → Int64 → Int32 → hI → Option (Int64)
  | 0 => fun _ _ _ _ => none
  | n + 1 => mM_wholeAhead_B33 (mM_wholeAhead_L33 n)
theorem sM_wholeAhead_L33 (d : Nat) (hd : 3 + 1 ≤ d) : ∀ (n : Nat) (v4 : Int32) (v5 : Int64) (v7 : Int32) (I : hI) (J : hJ) (q : Int64) (h : mM_wholeAhead_L33 n v4 v5 v7 I = some q), AW hFT cX11_wholeAhead 8 (some .long) RX11 kdM d [(0, .ref 0), (4, .int v4), (5, .long v5), (7, .int v7)] 33 [] (I, J, RMm) (some (.long q)) (I, J, RMm)
  | 0, _, _, _, _, _, q, h => by cases h
  | n + 1, v4, v5, v7, I, J, q, h => sM_wholeAhead_B33 d hd (mM_wholeAhead_L33 n) (sM_wholeAhead_L33 d hd n) v4 v5 v7 I J q h
def mM_wholeAhead  (v1 : Int32) (v2 : Int32) (v3 : Int32) (I : hI) : Option (Int64) :=
  h_let (mM_choiceAt v1 v2) fun v4x0 =>
  if v3 = 0 then
    mM_wholeAhead_L33 hF v4x0 (0 : Int64) (0 : Int32) I
  else
    (h_g (h_in v4x0 80) <|
    h_let (((I 27 v4x0.toNatClampNeg).toInt64) * (27720 : Int64)) fun v5x2 =>
    mM_wholeAhead_L33 hF v4x0 v5x2 (0 : Int32) I)
set_option maxHeartbeats 4000000 in
theorem sM_wholeAhead (d : Nat) (hd : 3 + 1 ≤ d) (v1 : Int32) (v2 : Int32) (v3 : Int32) (I : hI) (J : hJ) (q : Int64) (h : mM_wholeAhead v1 v2 v3 I = some q) : HMet hFT yX11_wholeAhead cX11_wholeAhead 8 (some .long) kdM d [.ref 0, .int v1, .int v2, .int v3] (I, J, RMm) (some (.long q)) (I, J, RMm) := by
  obtain ⟨d0, rfl, hd0⟩ := h_mono hd
  refine HMet.of (by decide) (Nat.le_of_ble_eq_true rfl) ?_
  show AW hFT cX11_wholeAhead 8 (some .long) RX11 kdM (d0 + 1) [(0, .ref 0), (1, .int v1), (2, .int v2), (3, .int v3)] 0 [] (I, J, RMm) (some (.long q)) (I, J, RMm)
  unfold mM_wholeAhead at h
  refine a_aload_n dX11_wholeAhead_0 rfl rfl ?_
  refine a_iload_n dX11_wholeAhead_1 rfl rfl ?_
  refine a_iload_n dX11_wholeAhead_2 rfl rfl ?_
  refine a_callV1 [] yy_X11_choiceAt ml_11_433 km_0 rfl (sM_choiceAt _ (by omega) v1 v2 I J _ rfl) rfl rfl (Nat.le_of_ble_eq_true rfl) dX11_wholeAhead_3 ?_
  obtain ⟨v4x0, ev4x0, h⟩ := h_letS h
  refine a_topI ev4x0 ?_
  refine a_istore (lv' := [(4, .int v4x0), (0, .ref 0), (1, .int v1), (2, .int v2), (3, .int v3)]) dX11_wholeAhead_6 (by decide) rfl ?_
  refine a_iload_n dX11_wholeAhead_8 rfl rfl ?_
  refine a_if_eq (tgt := 27) dX11_wholeAhead_9 (by decide) (fun c => ?_) (fun c => ?_)
  · replace h := h_iteT c h
    refine a_lconst dX11_wholeAhead_27 lc_0 ?_
    refine a_lstore (lv' := [(5, .long (0 : Int64)), (4, .int v4x0), (0, .ref 0), (1, .int v1), (2, .int v2), (3, .int v3)]) dX11_wholeAhead_28 (by decide) rfl ?_
    refine a_iconst dX11_wholeAhead_30 ic_0 ?_
    refine a_istore (lv' := [(7, .int (0 : Int32)), (5, .long (0 : Int64)), (4, .int v4x0), (0, .ref 0), (1, .int v1), (2, .int v2), (3, .int v3)]) dX11_wholeAhead_31 (by decide) rfl ?_
    refine a_sub (lv' := [(0, .ref 0), (4, .int v4x0), (5, .long (0 : Int64)), (7, .int (0 : Int32))]) [3, 2, 1, 0] rfl ?_
    exact sM_wholeAhead_L33 (d0 + 1) (by omega) hF v4x0 (0 : Int64) (0 : Int32) I J _ h
  · replace h := h_iteF c h
    refine a_aload_n dX11_wholeAhead_12 rfl rfl ?_
    refine b_getR hK_11 km_0 (i := 64) rfl fl_11_89 rfl rmm_64 dX11_wholeAhead_13 ?_
    refine a_iload dX11_wholeAhead_16 rfl ?_
    obtain ⟨g2, h⟩ := h_gS h
    refine b_iaload km_27 (h_inV g2) dX11_wholeAhead_18 ?_
    refine a_i2l dX11_wholeAhead_19 ?_
    refine a_ldc2_w cn_11_573 dX11_wholeAhead_20 ?_
    refine a_lmul dX11_wholeAhead_23 ?_
    refine a_goto (tgt := 28) dX11_wholeAhead_24 (by decide) ?_
    obtain ⟨v5x2, ev5x2, h⟩ := h_letS h
    refine a_topJ ev5x2 ?_
    refine a_lstore (lv' := [(5, .long v5x2), (4, .int v4x0), (0, .ref 0), (1, .int v1), (2, .int v2), (3, .int v3)]) dX11_wholeAhead_28 (by decide) rfl ?_
    refine a_iconst dX11_wholeAhead_30 ic_0 ?_
    refine a_istore (lv' := [(7, .int (0 : Int32)), (5, .long v5x2), (4, .int v4x0), (0, .ref 0), (1, .int v1), (2, .int v2), (3, .int v3)]) dX11_wholeAhead_31 (by decide) rfl ?_
    refine a_sub (lv' := [(0, .ref 0), (4, .int v4x0), (5, .long v5x2), (7, .int (0 : Int32))]) [3, 2, 1, 0] rfl ?_
    exact sM_wholeAhead_L33 (d0 + 1) (by omega) hF v4x0 v5x2 (0 : Int32) I J _ h
/-! CoinLoopsModel.least(JJI)J -/
theorem dX11_least_0 : decode cX11_least 0 = .ok (.lload_n 0, 1) := by decide +kernel
theorem dX11_least_1 : decode cX11_least 1 = .ok (.lload_n 2, 1) := by decide +kernel
theorem dX11_least_2 : decode cX11_least 2 = .ok (.invokestatic 476, 3) := by decide +kernel
theorem dX11_least_5 : decode cX11_least 5 = .ok (.lstore 5, 2) := by decide +kernel
theorem dX11_least_7 : decode cX11_least 7 = .ok (.iload 4, 2) := by decide +kernel
theorem dX11_least_9 : decode cX11_least 9 = .ok (.ifCond .ne 10, 3) := by decide +kernel
theorem dX11_least_12 : decode cX11_least 12 = .ok (.lload_n 0, 1) := by decide +kernel
theorem dX11_least_13 : decode cX11_least 13 = .ok (.lload 5, 2) := by decide +kernel
theorem dX11_least_15 : decode cX11_least 15 = .ok (.ldiv, 1) := by decide +kernel
theorem dX11_least_16 : decode cX11_least 16 = .ok (.goto 7, 3) := by decide +kernel
theorem dX11_least_19 : decode cX11_least 19 = .ok (.lload_n 2, 1) := by decide +kernel
theorem dX11_least_20 : decode cX11_least 20 = .ok (.lload 5, 2) := by decide +kernel
theorem dX11_least_22 : decode cX11_least 22 = .ok (.ldiv, 1) := by decide +kernel
theorem dX11_least_23 : decode cX11_least 23 = .ok (.lreturn, 1) := by decide +kernel
def mM_least  (v0 : Int64) (v2 : Int64) (v4 : Int32)  : Option (Int64) :=
  (mM_divisor 100 v0 v2).bind fun q1 =>
  if v4 = 0 then
    (h_g (h_nzL q1) <|
    some (v0 / q1))
  else
    (h_g (h_nzL q1) <|
    some (v2 / q1))
set_option maxHeartbeats 4000000 in
theorem sM_least (d : Nat) (hd : 101 + 1 ≤ d) (v0 : Int64) (v2 : Int64) (v4 : Int32) (I : hI) (J : hJ) (q : Int64) (h : mM_least v0 v2 v4 = some q) : HMet hFT yX11_least cX11_least 7 (some .long) kdM d [.long v0, .long v2, .int v4] (I, J, RMm) (some (.long q)) (I, J, RMm) := by
  obtain ⟨d0, rfl, hd0⟩ := h_mono hd
  refine HMet.of (by decide) (Nat.le_of_ble_eq_true rfl) ?_
  show AW hFT cX11_least 7 (some .long) RX11 kdM (d0 + 1) [(0, .long v0), (2, .long v2), (4, .int v4)] 0 [] (I, J, RMm) (some (.long q)) (I, J, RMm)
  unfold mM_least at h
  refine a_lload_n dX11_least_0 rfl rfl ?_
  refine a_lload_n dX11_least_1 rfl rfl ?_
  obtain ⟨q1, cq1, h⟩ := h_bindS h
  refine a_callS1 [] yy_X11_divisor ml_11_476 (sM_divisor 100 _ (by omega) v0 v2 I J q1 cq1) rfl rfl (Nat.le_of_ble_eq_true rfl) dX11_least_2 ?_
  refine a_lstore (lv' := [(5, .long q1), (0, .long v0), (2, .long v2), (4, .int v4)]) dX11_least_5 (by decide) rfl ?_
  refine a_iload dX11_least_7 rfl ?_
  refine a_if_ne (tgt := 19) dX11_least_9 (by decide) (fun c => ?_) (fun c => ?_)
  · replace h := h_iteF c h
    refine a_lload_n dX11_least_19 rfl rfl ?_
    refine a_lload dX11_least_20 rfl ?_
    obtain ⟨g2, h⟩ := h_gS h
    refine a_ldiv dX11_least_22 (h_nzLV g2) ?_
    cases h
    exact a_lret dX11_least_23
  · replace h := h_iteT c h
    refine a_lload_n dX11_least_12 rfl rfl ?_
    refine a_lload dX11_least_13 rfl ?_
    obtain ⟨g2, h⟩ := h_gS h
    refine a_ldiv dX11_least_15 (h_nzLV g2) ?_
    refine a_goto (tgt := 23) dX11_least_16 (by decide) ?_
    cases h
    exact a_lret dX11_least_23
/-! CoinLoopsModel.isGuessRefused(Z)Z -/
theorem dX11_isGuessRefused_0 : decode cX11_isGuessRefused 0 = .ok (.aload_n 0, 1) := by decide +kernel
theorem dX11_isGuessRefused_1 : decode cX11_isGuessRefused 1 = .ok (.getfield 351, 3) := by decide +kernel
theorem dX11_isGuessRefused_4 : decode cX11_isGuessRefused 4 = .ok (.ifCond .eq 10, 3) := by decide +kernel
theorem dX11_isGuessRefused_7 : decode cX11_isGuessRefused 7 = .ok (.aload_n 0, 1) := by decide +kernel
theorem dX11_isGuessRefused_8 : decode cX11_isGuessRefused 8 = .ok (.getfield 355, 3) := by decide +kernel
theorem dX11_isGuessRefused_11 : decode cX11_isGuessRefused 11 = .ok (.ifCond .ne 7, 3) := by decide +kernel
theorem dX11_isGuessRefused_14 : decode cX11_isGuessRefused 14 = .ok (.iconst 0, 1) := by decide +kernel
theorem dX11_isGuessRefused_15 : decode cX11_isGuessRefused 15 = .ok (.goto 12, 3) := by decide +kernel
theorem dX11_isGuessRefused_18 : decode cX11_isGuessRefused 18 = .ok (.iload_n 1, 1) := by decide +kernel
theorem dX11_isGuessRefused_19 : decode cX11_isGuessRefused 19 = .ok (.ifCond .eq 7, 3) := by decide +kernel
theorem dX11_isGuessRefused_22 : decode cX11_isGuessRefused 22 = .ok (.iconst (-1), 1) := by decide +kernel
theorem dX11_isGuessRefused_23 : decode cX11_isGuessRefused 23 = .ok (.goto 4, 3) := by decide +kernel
theorem dX11_isGuessRefused_26 : decode cX11_isGuessRefused 26 = .ok (.iconst 1, 1) := by decide +kernel
theorem dX11_isGuessRefused_27 : decode cX11_isGuessRefused 27 = .ok (.istore_n 2, 1) := by decide +kernel
theorem dX11_isGuessRefused_28 : decode cX11_isGuessRefused 28 = .ok (.iload_n 2, 1) := by decide +kernel
theorem dX11_isGuessRefused_29 : decode cX11_isGuessRefused 29 = .ok (.iconst (-1), 1) := by decide +kernel
theorem dX11_isGuessRefused_30 : decode cX11_isGuessRefused 30 = .ok (.if_icmp .eq 9, 3) := by decide +kernel
theorem dX11_isGuessRefused_33 : decode cX11_isGuessRefused 33 = .ok (.aload_n 0, 1) := by decide +kernel
theorem dX11_isGuessRefused_34 : decode cX11_isGuessRefused 34 = .ok (.iload_n 2, 1) := by decide +kernel
theorem dX11_isGuessRefused_35 : decode cX11_isGuessRefused 35 = .ok (.invokevirtual 522, 3) := by decide +kernel
theorem dX11_isGuessRefused_38 : decode cX11_isGuessRefused 38 = .ok (.pop, 1) := by decide +kernel
theorem dX11_isGuessRefused_39 : decode cX11_isGuessRefused 39 = .ok (.iload_n 2, 1) := by decide +kernel
theorem dX11_isGuessRefused_40 : decode cX11_isGuessRefused 40 = .ok (.iconst (-1), 1) := by decide +kernel
theorem dX11_isGuessRefused_41 : decode cX11_isGuessRefused 41 = .ok (.if_icmp .eq 7, 3) := by decide +kernel
theorem dX11_isGuessRefused_44 : decode cX11_isGuessRefused 44 = .ok (.iconst 1, 1) := by decide +kernel
theorem dX11_isGuessRefused_45 : decode cX11_isGuessRefused 45 = .ok (.goto 4, 3) := by decide +kernel
theorem dX11_isGuessRefused_48 : decode cX11_isGuessRefused 48 = .ok (.iconst 0, 1) := by decide +kernel
theorem dX11_isGuessRefused_49 : decode cX11_isGuessRefused 49 = .ok (.ireturn, 1) := by decide +kernel
def mM_isGuessRefused_39  (v2 : Int32) (I : hI) : Option (Int32 × hI) :=
  if v2 = (-1 : Int32) then
    some ((0 : Int32), I)
  else
    some ((1 : Int32), I)
set_option maxHeartbeats 4000000 in
theorem sM_isGuessRefused_39 (d : Nat) (hd : 0 + 1 ≤ d) (v2 : Int32) (I : hI) (J : hJ) (q : Int32 × hI) (h : mM_isGuessRefused_39 v2 I = some q) : AW hFT cX11_isGuessRefused 3 (some .boolean) RX11 kdM d [(2, .int v2)] 39 [] (I, J, RMm) (some (.int q.1)) (q.2, J, RMm) := by
  obtain ⟨d0, rfl, hd0⟩ := h_mono hd
  unfold mM_isGuessRefused_39 at h
  refine a_iload_n dX11_isGuessRefused_39 rfl rfl ?_
  refine a_iconst dX11_isGuessRefused_40 ic_m1 ?_
  refine a_icmp_eq (tgt := 48) dX11_isGuessRefused_41 (by decide) (fun c => ?_) (fun c => ?_)
  · replace h := h_iteT c h
    refine a_iconst dX11_isGuessRefused_48 ic_0 ?_
    cases h
    exact a_zret (h_Z0.1) dX11_isGuessRefused_49
  · replace h := h_iteF c h
    refine a_iconst dX11_isGuessRefused_44 ic_1 ?_
    refine a_goto (tgt := 49) dX11_isGuessRefused_45 (by decide) ?_
    cases h
    exact a_zret (h_Z1.1) dX11_isGuessRefused_49
def mM_isGuessRefused_27  (vs0 : Int32) (I : hI) : Option (Int32 × hI) :=
  if vs0 = (-1 : Int32) then
    mM_isGuessRefused_39 vs0 I
  else
    ((mM_refuses vs0 I).bind fun q1 =>
    mM_isGuessRefused_39 vs0 q1.2)
set_option maxHeartbeats 4000000 in
theorem sM_isGuessRefused_27 (d : Nat) (hd : 0 + 1 ≤ d) (vs0 : Int32) (I : hI) (J : hJ) (q : Int32 × hI) (h : mM_isGuessRefused_27 vs0 I = some q) : AW hFT cX11_isGuessRefused 3 (some .boolean) RX11 kdM d [(0, .ref 0)] 27 [.int vs0] (I, J, RMm) (some (.int q.1)) (q.2, J, RMm) := by
  obtain ⟨d0, rfl, hd0⟩ := h_mono hd
  unfold mM_isGuessRefused_27 at h
  refine a_istore_n (lv' := [(2, .int vs0), (0, .ref 0)]) dX11_isGuessRefused_27 rfl (by decide) rfl ?_
  refine a_iload_n dX11_isGuessRefused_28 rfl rfl ?_
  refine a_iconst dX11_isGuessRefused_29 ic_m1 ?_
  refine a_icmp_eq (tgt := 39) dX11_isGuessRefused_30 (by decide) (fun c => ?_) (fun c => ?_)
  · replace h := h_iteT c h
    refine a_sub (lv' := [(2, .int vs0)]) [0] rfl ?_
    exact sM_isGuessRefused_39 (d0 + 1) (by omega) vs0 I J _ h
  · replace h := h_iteF c h
    refine a_aload_n dX11_isGuessRefused_33 rfl rfl ?_
    refine a_iload_n dX11_isGuessRefused_34 rfl rfl ?_
    obtain ⟨q1, cq1, h⟩ := h_bindS h
    refine a_callV1 [] yy_X11_refuses ml_11_522 km_0 rfl (sM_refuses _ (by omega) vs0 I J q1 cq1) rfl rfl (Nat.le_of_ble_eq_true rfl) dX11_isGuessRefused_35 ?_
    refine a_pop dX11_isGuessRefused_38 rfl ?_
    refine a_sub (lv' := [(2, .int vs0)]) [0] rfl ?_
    exact sM_isGuessRefused_39 (d0 + 1) (by omega) vs0 q1.2 J _ h
def mM_isGuessRefused  (v1 : Int32) (I : hI) : Option (Int32 × hI) :=
  if (I 0 37) = 0 then
    mM_isGuessRefused_27 (0 : Int32) I
  else
    (if (I 0 38) = 0 then
      mM_isGuessRefused_27 (0 : Int32) I
    else
      (if v1 = 0 then
        mM_isGuessRefused_27 (1 : Int32) I
      else
        mM_isGuessRefused_27 (-1 : Int32) I))
set_option maxHeartbeats 4000000 in
theorem sM_isGuessRefused (d : Nat) (hd : 0 + 1 ≤ d) (v1 : Int32) (I : hI) (J : hJ) (q : Int32 × hI) (h : mM_isGuessRefused v1 I = some q) : HMet hFT yX11_isGuessRefused cX11_isGuessRefused 3 (some .boolean) kdM d [.ref 0, .int v1] (I, J, RMm) (some (.int q.1)) (q.2, J, RMm) := by
  obtain ⟨d0, rfl, hd0⟩ := h_mono hd
  refine HMet.of (by decide) (Nat.le_of_ble_eq_true rfl) ?_
  show AW hFT cX11_isGuessRefused 3 (some .boolean) RX11 kdM (d0 + 1) [(0, .ref 0), (1, .int v1)] 0 [] (I, J, RMm) (some (.int q.1)) (q.2, J, RMm)
  unfold mM_isGuessRefused at h
  refine a_aload_n dX11_isGuessRefused_0 rfl rfl ?_
  refine b_getI hK_11 km_0 (i := 37) rfl fl_11_351 rfl dX11_isGuessRefused_1 ?_
  refine a_if_eq (tgt := 14) dX11_isGuessRefused_4 (by decide) (fun c => ?_) (fun c => ?_)
  · replace h := h_iteT c h
    refine a_iconst dX11_isGuessRefused_14 ic_0 ?_
    refine a_goto (tgt := 27) dX11_isGuessRefused_15 (by decide) ?_
    refine a_sub (lv' := [(0, .ref 0)]) [0] rfl ?_
    exact sM_isGuessRefused_27 (d0 + 1) (by omega) (0 : Int32) I J _ h
  · replace h := h_iteF c h
    refine a_aload_n dX11_isGuessRefused_7 rfl rfl ?_
    refine b_getI hK_11 km_0 (i := 38) rfl fl_11_355 rfl dX11_isGuessRefused_8 ?_
    refine a_if_ne (tgt := 18) dX11_isGuessRefused_11 (by decide) (fun c => ?_) (fun c => ?_)
    · replace h := h_iteF c h
      refine a_iload_n dX11_isGuessRefused_18 rfl rfl ?_
      refine a_if_eq (tgt := 26) dX11_isGuessRefused_19 (by decide) (fun c => ?_) (fun c => ?_)
      · replace h := h_iteT c h
        refine a_iconst dX11_isGuessRefused_26 ic_1 ?_
        refine a_sub (lv' := [(0, .ref 0)]) [0] rfl ?_
        exact sM_isGuessRefused_27 (d0 + 1) (by omega) (1 : Int32) I J _ h
      · replace h := h_iteF c h
        refine a_iconst dX11_isGuessRefused_22 ic_m1 ?_
        refine a_goto (tgt := 27) dX11_isGuessRefused_23 (by decide) ?_
        refine a_sub (lv' := [(0, .ref 0)]) [0] rfl ?_
        exact sM_isGuessRefused_27 (d0 + 1) (by omega) (-1 : Int32) I J _ h
    · replace h := h_iteT c h
      refine a_iconst dX11_isGuessRefused_14 ic_0 ?_
      refine a_goto (tgt := 27) dX11_isGuessRefused_15 (by decide) ?_
      refine a_sub (lv' := [(0, .ref 0)]) [0] rfl ?_
      exact sM_isGuessRefused_27 (d0 + 1) (by omega) (0 : Int32) I J _ h
/-! CoinLoopsModel.guessed(II)J -/
theorem dX11_guessed_0 : decode cX11_guessed 0 = .ok (.aload_n 0, 1) := by decide +kernel
theorem dX11_guessed_1 : decode cX11_guessed 1 = .ok (.iconst 0, 1) := by decide +kernel
theorem dX11_guessed_2 : decode cX11_guessed 2 = .ok (.putfield 156, 3) := by decide +kernel
theorem dX11_guessed_5 : decode cX11_guessed 5 = .ok (.aload_n 0, 1) := by decide +kernel
theorem dX11_guessed_6 : decode cX11_guessed 6 = .ok (.aload_n 0, 1) := by decide +kernel
theorem dX11_guessed_7 : decode cX11_guessed 7 = .ok (.iload_n 1, 1) := by decide +kernel
theorem dX11_guessed_8 : decode cX11_guessed 8 = .ok (.invokevirtual 537, 3) := by decide +kernel
theorem dX11_guessed_11 : decode cX11_guessed 11 = .ok (.ifCond .eq 17, 3) := by decide +kernel
theorem dX11_guessed_14 : decode cX11_guessed 14 = .ok (.iload_n 2, 1) := by decide +kernel
theorem dX11_guessed_15 : decode cX11_guessed 15 = .ok (.i2l, 1) := by decide +kernel
theorem dX11_guessed_16 : decode cX11_guessed 16 = .ok (.lconst 0, 1) := by decide +kernel
theorem dX11_guessed_17 : decode cX11_guessed 17 = .ok (.lconst 1, 1) := by decide +kernel
theorem dX11_guessed_18 : decode cX11_guessed 18 = .ok (.invokestatic 167, 3) := by decide +kernel
theorem dX11_guessed_21 : decode cX11_guessed 21 = .ok (.ifCond .eq 7, 3) := by decide +kernel
theorem dX11_guessed_24 : decode cX11_guessed 24 = .ok (.iconst 1, 1) := by decide +kernel
theorem dX11_guessed_25 : decode cX11_guessed 25 = .ok (.goto 4, 3) := by decide +kernel
theorem dX11_guessed_28 : decode cX11_guessed 28 = .ok (.iconst 0, 1) := by decide +kernel
theorem dX11_guessed_29 : decode cX11_guessed 29 = .ok (.invokevirtual 578, 3) := by decide +kernel
theorem dX11_guessed_32 : decode cX11_guessed 32 = .ok (.ifCond .eq 9, 3) := by decide +kernel
theorem dX11_guessed_35 : decode cX11_guessed 35 = .ok (.ldc2_w 582, 3) := by decide +kernel
theorem dX11_guessed_38 : decode cX11_guessed 38 = .ok (.goto 15, 3) := by decide +kernel
theorem dX11_guessed_41 : decode cX11_guessed 41 = .ok (.aload_n 0, 1) := by decide +kernel
theorem dX11_guessed_42 : decode cX11_guessed 42 = .ok (.iload_n 1, 1) := by decide +kernel
theorem dX11_guessed_43 : decode cX11_guessed 43 = .ok (.invokevirtual 575, 3) := by decide +kernel
theorem dX11_guessed_46 : decode cX11_guessed 46 = .ok (.ldc2_w 573, 3) := by decide +kernel
theorem dX11_guessed_49 : decode cX11_guessed 49 = .ok (.iload_n 2, 1) := by decide +kernel
theorem dX11_guessed_50 : decode cX11_guessed 50 = .ok (.invokestatic 584, 3) := by decide +kernel
theorem dX11_guessed_53 : decode cX11_guessed 53 = .ok (.lreturn, 1) := by decide +kernel
def mM_guessed_29  (v1 : Int32) (v2 : Int32) (vs1 : Int32) (I : hI) : Option (Int64 × hI) :=
  (mM_isGuessRefused vs1 I).bind fun q1 =>
  if q1.1 = 0 then
    ((mM_wholeGuess v1 q1.2).bind fun q2 =>
    (mM_least q2 (27720 : Int64) v2).bind fun q3 =>
    some (q3, q1.2))
  else
    some ((-1000001 : Int64), q1.2)
set_option maxHeartbeats 4000000 in
theorem sM_guessed_29 (d : Nat) (hd : 102 + 1 ≤ d) (v1 : Int32) (v2 : Int32) (vs1 : Int32) (I : hI) (J : hJ) (q : Int64 × hI) (h : mM_guessed_29 v1 v2 vs1 I = some q) : AW hFT cX11_guessed 3 (some .long) RX11 kdM d [(0, .ref 0), (1, .int v1), (2, .int v2)] 29 [.int vs1, .ref 0] (I, J, RMm) (some (.long q.1)) (q.2, J, RMm) := by
  obtain ⟨d0, rfl, hd0⟩ := h_mono hd
  unfold mM_guessed_29 at h
  obtain ⟨q1, cq1, h⟩ := h_bindS h
  refine a_callV1 [] yy_X11_isGuessRefused ml_11_578 km_0 rfl (sM_isGuessRefused _ (by omega) vs1 I J q1 cq1) rfl rfl (Nat.le_of_ble_eq_true rfl) dX11_guessed_29 ?_
  refine a_if_eq (tgt := 41) dX11_guessed_32 (by decide) (fun c => ?_) (fun c => ?_)
  · replace h := h_iteT c h
    refine a_aload_n dX11_guessed_41 rfl rfl ?_
    refine a_iload_n dX11_guessed_42 rfl rfl ?_
    obtain ⟨q2, cq2, h⟩ := h_bindS h
    refine a_callV1 [] yy_X11_wholeGuess ml_11_575 km_0 rfl (sM_wholeGuess _ (by omega) v1 q1.2 J q2 cq2) rfl rfl (Nat.le_of_ble_eq_true rfl) dX11_guessed_43 ?_
    refine a_ldc2_w cn_11_573 dX11_guessed_46 ?_
    refine a_iload_n dX11_guessed_49 rfl rfl ?_
    obtain ⟨q3, cq3, h⟩ := h_bindS h
    refine a_callS1 [] yy_X11_least ml_11_584 (sM_least _ (by omega) q2 (27720 : Int64) v2 q1.2 J q3 cq3) rfl rfl (Nat.le_of_ble_eq_true rfl) dX11_guessed_50 ?_
    cases h
    exact a_lret dX11_guessed_53
  · replace h := h_iteF c h
    refine a_ldc2_w cn_11_582 dX11_guessed_35 ?_
    refine a_goto (tgt := 53) dX11_guessed_38 (by decide) ?_
    cases h
    exact a_lret dX11_guessed_53
def mM_guessed_28  (v1 : Int32) (v2 : Int32) (I : hI) : Option (Int64 × hI) :=
  mM_guessed_29 v1 v2 (0 : Int32) I
set_option maxHeartbeats 4000000 in
theorem sM_guessed_28 (d : Nat) (hd : 102 + 1 ≤ d) (v1 : Int32) (v2 : Int32) (I : hI) (J : hJ) (q : Int64 × hI) (h : mM_guessed_28 v1 v2 I = some q) : AW hFT cX11_guessed 3 (some .long) RX11 kdM d [(0, .ref 0), (1, .int v1), (2, .int v2)] 28 [.ref 0] (I, J, RMm) (some (.long q.1)) (q.2, J, RMm) := by
  obtain ⟨d0, rfl, hd0⟩ := h_mono hd
  unfold mM_guessed_28 at h
  refine a_iconst dX11_guessed_28 ic_0 ?_
  exact sM_guessed_29 (d0 + 1) (by omega) v1 v2 (0 : Int32) I J _ h
def mM_guessed  (v1 : Int32) (v2 : Int32) (I : hI) : Option (Int64 × hI) :=
  h_let (h_u I 0 0 (0 : Int32)) fun I1 =>
  (mM_isState v1 I1).bind fun q2 =>
  if q2 = 0 then
    mM_guessed_28 v1 v2 I1
  else
    (if (mM_in v2.toInt64 (0 : Int64) (1 : Int64)) = 0 then
      mM_guessed_28 v1 v2 I1
    else
      mM_guessed_29 v1 v2 (1 : Int32) I1)
set_option maxHeartbeats 4000000 in
theorem sM_guessed (d : Nat) (hd : 102 + 1 ≤ d) (v1 : Int32) (v2 : Int32) (I : hI) (J : hJ) (q : Int64 × hI) (h : mM_guessed v1 v2 I = some q) : HMet hFT yX11_guessed cX11_guessed 3 (some .long) kdM d [.ref 0, .int v1, .int v2] (I, J, RMm) (some (.long q.1)) (q.2, J, RMm) := by
  obtain ⟨d0, rfl, hd0⟩ := h_mono hd
  refine HMet.of (by decide) (Nat.le_of_ble_eq_true rfl) ?_
  show AW hFT cX11_guessed 3 (some .long) RX11 kdM (d0 + 1) [(0, .ref 0), (1, .int v1), (2, .int v2)] 0 [] (I, J, RMm) (some (.long q.1)) (q.2, J, RMm)
  unfold mM_guessed at h
  refine a_aload_n dX11_guessed_0 rfl rfl ?_
  refine a_iconst dX11_guessed_1 ic_0 ?_
  refine b_putI hK_11 km_0 (i := 0) rfl fl_11_156 rfl rfl (h_NI _) dX11_guessed_2 ?_
  obtain ⟨I1, eI1, h⟩ := h_letS h
  refine a_memI eI1 ?_
  refine a_aload_n dX11_guessed_5 rfl rfl ?_
  refine a_aload_n dX11_guessed_6 rfl rfl ?_
  refine a_iload_n dX11_guessed_7 rfl rfl ?_
  obtain ⟨q2, cq2, h⟩ := h_bindS h
  refine a_callV1 [.ref 0] yy_X11_isState ml_11_537 km_0 rfl (sM_isState _ (by omega) v1 I1 J q2 cq2) rfl rfl (Nat.le_of_ble_eq_true rfl) dX11_guessed_8 ?_
  refine a_if_eq (tgt := 28) dX11_guessed_11 (by decide) (fun c => ?_) (fun c => ?_)
  · replace h := h_iteT c h
    exact sM_guessed_28 (d0 + 1) (by omega) v1 v2 I1 J _ h
  · replace h := h_iteF c h
    refine a_iload_n dX11_guessed_14 rfl rfl ?_
    refine a_i2l dX11_guessed_15 ?_
    refine a_lconst dX11_guessed_16 lc_0 ?_
    refine a_lconst dX11_guessed_17 lc_1 ?_
    refine a_callS1 [.ref 0] yy_X11_in ml_11_167 (sM_in _ (by omega) v2.toInt64 (0 : Int64) (1 : Int64) I1 J _ rfl) rfl rfl (Nat.le_of_ble_eq_true rfl) dX11_guessed_18 ?_
    refine a_if_eq (tgt := 28) dX11_guessed_21 (by decide) (fun c => ?_) (fun c => ?_)
    · replace h := h_iteT c h
      exact sM_guessed_28 (d0 + 1) (by omega) v1 v2 I1 J _ h
    · replace h := h_iteF c h
      refine a_iconst dX11_guessed_24 ic_1 ?_
      refine a_goto (tgt := 29) dX11_guessed_25 (by decide) ?_
      exact sM_guessed_29 (d0 + 1) (by omega) v1 v2 (1 : Int32) I1 J _ h
/-! CoinLoopsModel.ahead(III)J -/
theorem dX11_ahead_0 : decode cX11_ahead 0 = .ok (.aload_n 0, 1) := by decide +kernel
theorem dX11_ahead_1 : decode cX11_ahead 1 = .ok (.iconst 0, 1) := by decide +kernel
theorem dX11_ahead_2 : decode cX11_ahead 2 = .ok (.putfield 156, 3) := by decide +kernel
theorem dX11_ahead_5 : decode cX11_ahead 5 = .ok (.aload_n 0, 1) := by decide +kernel
theorem dX11_ahead_6 : decode cX11_ahead 6 = .ok (.aload_n 0, 1) := by decide +kernel
theorem dX11_ahead_7 : decode cX11_ahead 7 = .ok (.iload_n 1, 1) := by decide +kernel
theorem dX11_ahead_8 : decode cX11_ahead 8 = .ok (.iload_n 2, 1) := by decide +kernel
theorem dX11_ahead_9 : decode cX11_ahead 9 = .ok (.invokevirtual 540, 3) := by decide +kernel
theorem dX11_ahead_12 : decode cX11_ahead 12 = .ok (.ifCond .eq 17, 3) := by decide +kernel
theorem dX11_ahead_15 : decode cX11_ahead 15 = .ok (.iload_n 3, 1) := by decide +kernel
theorem dX11_ahead_16 : decode cX11_ahead 16 = .ok (.i2l, 1) := by decide +kernel
theorem dX11_ahead_17 : decode cX11_ahead 17 = .ok (.lconst 0, 1) := by decide +kernel
theorem dX11_ahead_18 : decode cX11_ahead 18 = .ok (.lconst 1, 1) := by decide +kernel
theorem dX11_ahead_19 : decode cX11_ahead 19 = .ok (.invokestatic 167, 3) := by decide +kernel
theorem dX11_ahead_22 : decode cX11_ahead 22 = .ok (.ifCond .eq 7, 3) := by decide +kernel
theorem dX11_ahead_25 : decode cX11_ahead 25 = .ok (.iconst 1, 1) := by decide +kernel
theorem dX11_ahead_26 : decode cX11_ahead 26 = .ok (.goto 4, 3) := by decide +kernel
theorem dX11_ahead_29 : decode cX11_ahead 29 = .ok (.iconst 0, 1) := by decide +kernel
theorem dX11_ahead_30 : decode cX11_ahead 30 = .ok (.invokevirtual 578, 3) := by decide +kernel
theorem dX11_ahead_33 : decode cX11_ahead 33 = .ok (.ifCond .eq 9, 3) := by decide +kernel
theorem dX11_ahead_36 : decode cX11_ahead 36 = .ok (.ldc2_w 582, 3) := by decide +kernel
theorem dX11_ahead_39 : decode cX11_ahead 39 = .ok (.goto 17, 3) := by decide +kernel
theorem dX11_ahead_42 : decode cX11_ahead 42 = .ok (.aload_n 0, 1) := by decide +kernel
theorem dX11_ahead_43 : decode cX11_ahead 43 = .ok (.iload_n 1, 1) := by decide +kernel
theorem dX11_ahead_44 : decode cX11_ahead 44 = .ok (.iload_n 2, 1) := by decide +kernel
theorem dX11_ahead_45 : decode cX11_ahead 45 = .ok (.iconst 1, 1) := by decide +kernel
theorem dX11_ahead_46 : decode cX11_ahead 46 = .ok (.invokevirtual 588, 3) := by decide +kernel
theorem dX11_ahead_49 : decode cX11_ahead 49 = .ok (.ldc2_w 592, 3) := by decide +kernel
theorem dX11_ahead_52 : decode cX11_ahead 52 = .ok (.iload_n 3, 1) := by decide +kernel
theorem dX11_ahead_53 : decode cX11_ahead 53 = .ok (.invokestatic 584, 3) := by decide +kernel
theorem dX11_ahead_56 : decode cX11_ahead 56 = .ok (.lreturn, 1) := by decide +kernel
def mM_ahead_30  (v1 : Int32) (v2 : Int32) (v3 : Int32) (vs1 : Int32) (I : hI) : Option (Int64 × hI) :=
  (mM_isGuessRefused vs1 I).bind fun q1 =>
  if q1.1 = 0 then
    ((mM_wholeAhead v1 v2 (1 : Int32) q1.2).bind fun q2 =>
    (mM_least q2 (110880 : Int64) v3).bind fun q3 =>
    some (q3, q1.2))
  else
    some ((-1000001 : Int64), q1.2)
set_option maxHeartbeats 4000000 in
theorem sM_ahead_30 (d : Nat) (hd : 102 + 1 ≤ d) (v1 : Int32) (v2 : Int32) (v3 : Int32) (vs1 : Int32) (I : hI) (J : hJ) (q : Int64 × hI) (h : mM_ahead_30 v1 v2 v3 vs1 I = some q) : AW hFT cX11_ahead 4 (some .long) RX11 kdM d [(0, .ref 0), (1, .int v1), (2, .int v2), (3, .int v3)] 30 [.int vs1, .ref 0] (I, J, RMm) (some (.long q.1)) (q.2, J, RMm) := by
  obtain ⟨d0, rfl, hd0⟩ := h_mono hd
  unfold mM_ahead_30 at h
  obtain ⟨q1, cq1, h⟩ := h_bindS h
  refine a_callV1 [] yy_X11_isGuessRefused ml_11_578 km_0 rfl (sM_isGuessRefused _ (by omega) vs1 I J q1 cq1) rfl rfl (Nat.le_of_ble_eq_true rfl) dX11_ahead_30 ?_
  refine a_if_eq (tgt := 42) dX11_ahead_33 (by decide) (fun c => ?_) (fun c => ?_)
  · replace h := h_iteT c h
    refine a_aload_n dX11_ahead_42 rfl rfl ?_
    refine a_iload_n dX11_ahead_43 rfl rfl ?_
    refine a_iload_n dX11_ahead_44 rfl rfl ?_
    refine a_iconst dX11_ahead_45 ic_1 ?_
    obtain ⟨q2, cq2, h⟩ := h_bindS h
    refine a_callV1 [] yy_X11_wholeAhead ml_11_588 km_0 rfl (sM_wholeAhead _ (by omega) v1 v2 (1 : Int32) q1.2 J q2 cq2) rfl rfl (Nat.le_of_ble_eq_true rfl) dX11_ahead_46 ?_
    refine a_ldc2_w cn_11_592 dX11_ahead_49 ?_
    refine a_iload_n dX11_ahead_52 rfl rfl ?_
    obtain ⟨q3, cq3, h⟩ := h_bindS h
    refine a_callS1 [] yy_X11_least ml_11_584 (sM_least _ (by omega) q2 (110880 : Int64) v3 q1.2 J q3 cq3) rfl rfl (Nat.le_of_ble_eq_true rfl) dX11_ahead_53 ?_
    cases h
    exact a_lret dX11_ahead_56
  · replace h := h_iteF c h
    refine a_ldc2_w cn_11_582 dX11_ahead_36 ?_
    refine a_goto (tgt := 56) dX11_ahead_39 (by decide) ?_
    cases h
    exact a_lret dX11_ahead_56
def mM_ahead_29  (v1 : Int32) (v2 : Int32) (v3 : Int32) (I : hI) : Option (Int64 × hI) :=
  mM_ahead_30 v1 v2 v3 (0 : Int32) I
set_option maxHeartbeats 4000000 in
theorem sM_ahead_29 (d : Nat) (hd : 102 + 1 ≤ d) (v1 : Int32) (v2 : Int32) (v3 : Int32) (I : hI) (J : hJ) (q : Int64 × hI) (h : mM_ahead_29 v1 v2 v3 I = some q) : AW hFT cX11_ahead 4 (some .long) RX11 kdM d [(0, .ref 0), (1, .int v1), (2, .int v2), (3, .int v3)] 29 [.ref 0] (I, J, RMm) (some (.long q.1)) (q.2, J, RMm) := by
  obtain ⟨d0, rfl, hd0⟩ := h_mono hd
  unfold mM_ahead_29 at h
  refine a_iconst dX11_ahead_29 ic_0 ?_
  exact sM_ahead_30 (d0 + 1) (by omega) v1 v2 v3 (0 : Int32) I J _ h
def mM_ahead  (v1 : Int32) (v2 : Int32) (v3 : Int32) (I : hI) : Option (Int64 × hI) :=
  h_let (h_u I 0 0 (0 : Int32)) fun I1 =>
  (mM_isChoice v1 v2 I1).bind fun q2 =>
  if q2 = 0 then
    mM_ahead_29 v1 v2 v3 I1
  else
    (if (mM_in v3.toInt64 (0 : Int64) (1 : Int64)) = 0 then
      mM_ahead_29 v1 v2 v3 I1
    else
      mM_ahead_30 v1 v2 v3 (1 : Int32) I1)
set_option maxHeartbeats 4000000 in
theorem sM_ahead (d : Nat) (hd : 102 + 1 ≤ d) (v1 : Int32) (v2 : Int32) (v3 : Int32) (I : hI) (J : hJ) (q : Int64 × hI) (h : mM_ahead v1 v2 v3 I = some q) : HMet hFT yX11_ahead cX11_ahead 4 (some .long) kdM d [.ref 0, .int v1, .int v2, .int v3] (I, J, RMm) (some (.long q.1)) (q.2, J, RMm) := by
  obtain ⟨d0, rfl, hd0⟩ := h_mono hd
  refine HMet.of (by decide) (Nat.le_of_ble_eq_true rfl) ?_
  show AW hFT cX11_ahead 4 (some .long) RX11 kdM (d0 + 1) [(0, .ref 0), (1, .int v1), (2, .int v2), (3, .int v3)] 0 [] (I, J, RMm) (some (.long q.1)) (q.2, J, RMm)
  unfold mM_ahead at h
  refine a_aload_n dX11_ahead_0 rfl rfl ?_
  refine a_iconst dX11_ahead_1 ic_0 ?_
  refine b_putI hK_11 km_0 (i := 0) rfl fl_11_156 rfl rfl (h_NI _) dX11_ahead_2 ?_
  obtain ⟨I1, eI1, h⟩ := h_letS h
  refine a_memI eI1 ?_
  refine a_aload_n dX11_ahead_5 rfl rfl ?_
  refine a_aload_n dX11_ahead_6 rfl rfl ?_
  refine a_iload_n dX11_ahead_7 rfl rfl ?_
  refine a_iload_n dX11_ahead_8 rfl rfl ?_
  obtain ⟨q2, cq2, h⟩ := h_bindS h
  refine a_callV1 [.ref 0] yy_X11_isChoice ml_11_540 km_0 rfl (sM_isChoice _ (by omega) v1 v2 I1 J q2 cq2) rfl rfl (Nat.le_of_ble_eq_true rfl) dX11_ahead_9 ?_
  refine a_if_eq (tgt := 29) dX11_ahead_12 (by decide) (fun c => ?_) (fun c => ?_)
  · replace h := h_iteT c h
    exact sM_ahead_29 (d0 + 1) (by omega) v1 v2 v3 I1 J _ h
  · replace h := h_iteF c h
    refine a_iload_n dX11_ahead_15 rfl rfl ?_
    refine a_i2l dX11_ahead_16 ?_
    refine a_lconst dX11_ahead_17 lc_0 ?_
    refine a_lconst dX11_ahead_18 lc_1 ?_
    refine a_callS1 [.ref 0] yy_X11_in ml_11_167 (sM_in _ (by omega) v3.toInt64 (0 : Int64) (1 : Int64) I1 J _ rfl) rfl rfl (Nat.le_of_ble_eq_true rfl) dX11_ahead_19 ?_
    refine a_if_eq (tgt := 29) dX11_ahead_22 (by decide) (fun c => ?_) (fun c => ?_)
    · replace h := h_iteT c h
      exact sM_ahead_29 (d0 + 1) (by omega) v1 v2 v3 I1 J _ h
    · replace h := h_iteF c h
      refine a_iconst dX11_ahead_25 ic_1 ?_
      refine a_goto (tgt := 30) dX11_ahead_26 (by decide) ?_
      exact sM_ahead_30 (d0 + 1) (by omega) v1 v2 v3 (1 : Int32) I1 J _ h
/-! CoinLoopsModel.falls(II)Z -/
theorem dX11_falls_0 : decode cX11_falls 0 = .ok (.aload_n 0, 1) := by decide +kernel
theorem dX11_falls_1 : decode cX11_falls 1 = .ok (.iload_n 1, 1) := by decide +kernel
theorem dX11_falls_2 : decode cX11_falls 2 = .ok (.iload_n 2, 1) := by decide +kernel
theorem dX11_falls_3 : decode cX11_falls 3 = .ok (.invokevirtual 433, 3) := by decide +kernel
theorem dX11_falls_6 : decode cX11_falls 6 = .ok (.istore_n 3, 1) := by decide +kernel
theorem dX11_falls_7 : decode cX11_falls 7 = .ok (.aload_n 0, 1) := by decide +kernel
theorem dX11_falls_8 : decode cX11_falls 8 = .ok (.getfield 92, 3) := by decide +kernel
theorem dX11_falls_11 : decode cX11_falls 11 = .ok (.iload_n 3, 1) := by decide +kernel
theorem dX11_falls_12 : decode cX11_falls 12 = .ok (.iaload, 1) := by decide +kernel
theorem dX11_falls_13 : decode cX11_falls 13 = .ok (.ifCond .le 7, 3) := by decide +kernel
theorem dX11_falls_16 : decode cX11_falls 16 = .ok (.iconst 1, 1) := by decide +kernel
theorem dX11_falls_17 : decode cX11_falls 17 = .ok (.goto 4, 3) := by decide +kernel
theorem dX11_falls_20 : decode cX11_falls 20 = .ok (.iconst 0, 1) := by decide +kernel
theorem dX11_falls_21 : decode cX11_falls 21 = .ok (.istore 4, 2) := by decide +kernel
theorem dX11_falls_23 : decode cX11_falls 23 = .ok (.iconst 0, 1) := by decide +kernel
theorem dX11_falls_24 : decode cX11_falls 24 = .ok (.istore 5, 2) := by decide +kernel
theorem dX11_falls_26 : decode cX11_falls 26 = .ok (.iload 5, 2) := by decide +kernel
theorem dX11_falls_28 : decode cX11_falls 28 = .ok (.aload_n 0, 1) := by decide +kernel
theorem dX11_falls_29 : decode cX11_falls 29 = .ok (.getfield 367, 3) := by decide +kernel
theorem dX11_falls_32 : decode cX11_falls 32 = .ok (.if_icmp .ge 64, 3) := by decide +kernel
theorem dX11_falls_35 : decode cX11_falls 35 = .ok (.iload 4, 2) := by decide +kernel
theorem dX11_falls_37 : decode cX11_falls 37 = .ok (.ifCond .ne 46, 3) := by decide +kernel
theorem dX11_falls_40 : decode cX11_falls 40 = .ok (.aload_n 0, 1) := by decide +kernel
theorem dX11_falls_41 : decode cX11_falls 41 = .ok (.getfield 95, 3) := by decide +kernel
theorem dX11_falls_44 : decode cX11_falls 44 = .ok (.bipush 10, 2) := by decide +kernel
theorem dX11_falls_46 : decode cX11_falls 46 = .ok (.iload_n 3, 1) := by decide +kernel
theorem dX11_falls_47 : decode cX11_falls 47 = .ok (.imul, 1) := by decide +kernel
theorem dX11_falls_48 : decode cX11_falls 48 = .ok (.iload 5, 2) := by decide +kernel
theorem dX11_falls_50 : decode cX11_falls 50 = .ok (.iadd, 1) := by decide +kernel
theorem dX11_falls_51 : decode cX11_falls 51 = .ok (.iaload, 1) := by decide +kernel
theorem dX11_falls_52 : decode cX11_falls 52 = .ok (.ifCond .le 35, 3) := by decide +kernel
theorem dX11_falls_55 : decode cX11_falls 55 = .ok (.aload_n 0, 1) := by decide +kernel
theorem dX11_falls_56 : decode cX11_falls 56 = .ok (.iload 5, 2) := by decide +kernel
theorem dX11_falls_58 : decode cX11_falls 58 = .ok (.invokevirtual 463, 3) := by decide +kernel
theorem dX11_falls_61 : decode cX11_falls 61 = .ok (.ifCond .eq 22, 3) := by decide +kernel
theorem dX11_falls_64 : decode cX11_falls 64 = .ok (.aload_n 0, 1) := by decide +kernel
theorem dX11_falls_65 : decode cX11_falls 65 = .ok (.iload 5, 2) := by decide +kernel
theorem dX11_falls_67 : decode cX11_falls 67 = .ok (.invokevirtual 575, 3) := by decide +kernel
theorem dX11_falls_70 : decode cX11_falls 70 = .ok (.aload_n 0, 1) := by decide +kernel
theorem dX11_falls_71 : decode cX11_falls 71 = .ok (.iload_n 1, 1) := by decide +kernel
theorem dX11_falls_72 : decode cX11_falls 72 = .ok (.invokevirtual 575, 3) := by decide +kernel
theorem dX11_falls_75 : decode cX11_falls 75 = .ok (.ldc2_w 573, 3) := by decide +kernel
theorem dX11_falls_78 : decode cX11_falls 78 = .ok (.lsub, 1) := by decide +kernel
theorem dX11_falls_79 : decode cX11_falls 79 = .ok (.lcmp, 1) := by decide +kernel
theorem dX11_falls_80 : decode cX11_falls 80 = .ok (.ifCond .gt 7, 3) := by decide +kernel
theorem dX11_falls_83 : decode cX11_falls 83 = .ok (.iconst 1, 1) := by decide +kernel
theorem dX11_falls_84 : decode cX11_falls 84 = .ok (.goto 4, 3) := by decide +kernel
theorem dX11_falls_87 : decode cX11_falls 87 = .ok (.iconst 0, 1) := by decide +kernel
theorem dX11_falls_88 : decode cX11_falls 88 = .ok (.istore 4, 2) := by decide +kernel
theorem dX11_falls_90 : decode cX11_falls 90 = .ok (.iinc 5 1, 3) := by decide +kernel
theorem dX11_falls_93 : decode cX11_falls 93 = .ok (.goto (-67), 3) := by decide +kernel
theorem dX11_falls_96 : decode cX11_falls 96 = .ok (.iload 4, 2) := by decide +kernel
theorem dX11_falls_98 : decode cX11_falls 98 = .ok (.ireturn, 1) := by decide +kernel
def mM_falls_B26 (k26 : Int32 → Int32 → Int32 → Int32 → hI → Option (Int32)) (v1 : Int32) (v3 : Int32) (v4 : Int32) (v5 : Int32) (I : hI) : Option (Int32) :=
  if (I 0 41) ≤ v5 then
    (h_g (h_isZ v4) <|
    some v4)
  else
    (if v4 = 0 then
      (h_g (h_in (((10 : Int32) * v3) + v5) 800) <|
      if (I 29 (((10 : Int32) * v3) + v5).toNatClampNeg) ≤ 0 then
        k26 v1 v3 (0 : Int32) (v5 + (1 : Int32)) I
      else
        ((mM_isInside v5 I).bind fun q2 =>
        if q2 = 0 then
          k26 v1 v3 (1 : Int32) (v5 + (1 : Int32)) I
        else
          ((mM_wholeGuess v5 I).bind fun q3 =>
          (mM_wholeGuess v1 I).bind fun q4 =>
          if (q4 - (27720 : Int64)) < q3 then
            k26 v1 v3 (0 : Int32) (v5 + (1 : Int32)) I
          else
            k26 v1 v3 (1 : Int32) (v5 + (1 : Int32)) I)))
    else
      k26 v1 v3 (1 : Int32) (v5 + (1 : Int32)) I)
set_option maxHeartbeats 4000000 in
theorem sM_falls_B26 (d : Nat) (hd : 3 + 1 ≤ d) (k26 : Int32 → Int32 → Int32 → Int32 → hI → Option (Int32)) (hk26 : ∀ (v1 : Int32) (v3 : Int32) (v4 : Int32) (v5 : Int32) (I : hI) (J : hJ) (q : Int32), k26 v1 v3 v4 v5 I = some q → AW hFT cX11_falls 6 (some .boolean) RX11 kdM d [(0, .ref 0), (1, .int v1), (3, .int v3), (4, .int v4), (5, .int v5)] 26 [] (I, J, RMm) (some (.int q)) (I, J, RMm)) (v1 : Int32) (v3 : Int32) (v4 : Int32) (v5 : Int32) (I : hI) (J : hJ) (q : Int32) (h : mM_falls_B26 k26 v1 v3 v4 v5 I = some q) : AW hFT cX11_falls 6 (some .boolean) RX11 kdM d [(0, .ref 0), (1, .int v1), (3, .int v3), (4, .int v4), (5, .int v5)] 26 [] (I, J, RMm) (some (.int q)) (I, J, RMm) := by
  obtain ⟨d0, rfl, hd0⟩ := h_mono hd
  unfold mM_falls_B26 at h
  refine a_iload dX11_falls_26 rfl ?_
  refine a_aload_n dX11_falls_28 rfl rfl ?_
  refine b_getI hK_11 km_0 (i := 41) rfl fl_11_367 rfl dX11_falls_29 ?_
  refine a_icmp_ge (tgt := 96) dX11_falls_32 (by decide) (fun c => ?_) (fun c => ?_)
  · replace h := h_iteT c h
    refine a_iload dX11_falls_96 rfl ?_
    obtain ⟨g1, h⟩ := h_gS h
    cases h
    exact a_zret ((h_isZV g1).1) dX11_falls_98
  · replace h := h_iteF c h
    refine a_iload dX11_falls_35 rfl ?_
    refine a_if_ne (tgt := 83) dX11_falls_37 (by decide) (fun c => ?_) (fun c => ?_)
    · replace h := h_iteF c h
      refine a_iconst dX11_falls_83 ic_1 ?_
      refine a_goto (tgt := 88) dX11_falls_84 (by decide) ?_
      refine a_istore (lv' := [(4, .int (1 : Int32)), (0, .ref 0), (1, .int v1), (3, .int v3), (5, .int v5)]) dX11_falls_88 (by decide) rfl ?_
      refine b_iinc (lv' := [(5, .int (v5 + (1 : Int32))), (4, .int (1 : Int32)), (0, .ref 0), (1, .int v1), (3, .int v3)]) dX11_falls_90 rfl ic_1 (by decide) rfl ?_
      refine a_goto (tgt := 26) dX11_falls_93 (by decide) ?_
      refine a_sub (lv' := [(0, .ref 0), (1, .int v1), (3, .int v3), (4, .int (1 : Int32)), (5, .int (v5 + (1 : Int32)))]) [2, 3, 4, 1, 0] rfl ?_
      exact hk26 v1 v3 (1 : Int32) (v5 + (1 : Int32)) I J _ h
    · replace h := h_iteT c h
      refine a_aload_n dX11_falls_40 rfl rfl ?_
      refine b_getR hK_11 km_0 (i := 66) rfl fl_11_95 rfl rmm_66 dX11_falls_41 ?_
      refine a_bipush dX11_falls_44 bp_10 ?_
      refine a_iload_n dX11_falls_46 rfl rfl ?_
      refine a_imul dX11_falls_47 ?_
      refine a_iload dX11_falls_48 rfl ?_
      refine a_iadd dX11_falls_50 ?_
      obtain ⟨g1, h⟩ := h_gS h
      refine b_iaload km_29 (h_inV g1) dX11_falls_51 ?_
      refine a_if_le (tgt := 87) dX11_falls_52 (by decide) (fun c => ?_) (fun c => ?_)
      · replace h := h_iteT c h
        refine a_iconst dX11_falls_87 ic_0 ?_
        refine a_istore (lv' := [(4, .int (0 : Int32)), (0, .ref 0), (1, .int v1), (3, .int v3), (5, .int v5)]) dX11_falls_88 (by decide) rfl ?_
        refine b_iinc (lv' := [(5, .int (v5 + (1 : Int32))), (4, .int (0 : Int32)), (0, .ref 0), (1, .int v1), (3, .int v3)]) dX11_falls_90 rfl ic_1 (by decide) rfl ?_
        refine a_goto (tgt := 26) dX11_falls_93 (by decide) ?_
        refine a_sub (lv' := [(0, .ref 0), (1, .int v1), (3, .int v3), (4, .int (0 : Int32)), (5, .int (v5 + (1 : Int32)))]) [2, 3, 4, 1, 0] rfl ?_
        exact hk26 v1 v3 (0 : Int32) (v5 + (1 : Int32)) I J _ h
      · replace h := h_iteF c h
        refine a_aload_n dX11_falls_55 rfl rfl ?_
        refine a_iload dX11_falls_56 rfl ?_
        obtain ⟨q2, cq2, h⟩ := h_bindS h
        refine a_callV1 [] yy_X11_isInside ml_11_463 km_0 rfl (sM_isInside _ (by omega) v5 I J q2 cq2) rfl rfl (Nat.le_of_ble_eq_true rfl) dX11_falls_58 ?_
        refine a_if_eq (tgt := 83) dX11_falls_61 (by decide) (fun c => ?_) (fun c => ?_)
        · replace h := h_iteT c h
          refine a_iconst dX11_falls_83 ic_1 ?_
          refine a_goto (tgt := 88) dX11_falls_84 (by decide) ?_
          refine a_istore (lv' := [(4, .int (1 : Int32)), (0, .ref 0), (1, .int v1), (3, .int v3), (5, .int v5)]) dX11_falls_88 (by decide) rfl ?_
          refine b_iinc (lv' := [(5, .int (v5 + (1 : Int32))), (4, .int (1 : Int32)), (0, .ref 0), (1, .int v1), (3, .int v3)]) dX11_falls_90 rfl ic_1 (by decide) rfl ?_
          refine a_goto (tgt := 26) dX11_falls_93 (by decide) ?_
          refine a_sub (lv' := [(0, .ref 0), (1, .int v1), (3, .int v3), (4, .int (1 : Int32)), (5, .int (v5 + (1 : Int32)))]) [2, 3, 4, 1, 0] rfl ?_
          exact hk26 v1 v3 (1 : Int32) (v5 + (1 : Int32)) I J _ h
        · replace h := h_iteF c h
          refine a_aload_n dX11_falls_64 rfl rfl ?_
          refine a_iload dX11_falls_65 rfl ?_
          obtain ⟨q3, cq3, h⟩ := h_bindS h
          refine a_callV1 [] yy_X11_wholeGuess ml_11_575 km_0 rfl (sM_wholeGuess _ (by omega) v5 I J q3 cq3) rfl rfl (Nat.le_of_ble_eq_true rfl) dX11_falls_67 ?_
          refine a_aload_n dX11_falls_70 rfl rfl ?_
          refine a_iload_n dX11_falls_71 rfl rfl ?_
          obtain ⟨q4, cq4, h⟩ := h_bindS h
          refine a_callV1 [.long q3] yy_X11_wholeGuess ml_11_575 km_0 rfl (sM_wholeGuess _ (by omega) v1 I J q4 cq4) rfl rfl (Nat.le_of_ble_eq_true rfl) dX11_falls_72 ?_
          refine a_ldc2_w cn_11_573 dX11_falls_75 ?_
          refine a_lsub dX11_falls_78 ?_
          refine a_lcmp_gt (tgt := 87) dX11_falls_79 dX11_falls_80 (by decide) (fun c => ?_) (fun c => ?_)
          · replace h := h_iteT c h
            refine a_iconst dX11_falls_87 ic_0 ?_
            refine a_istore (lv' := [(4, .int (0 : Int32)), (0, .ref 0), (1, .int v1), (3, .int v3), (5, .int v5)]) dX11_falls_88 (by decide) rfl ?_
            refine b_iinc (lv' := [(5, .int (v5 + (1 : Int32))), (4, .int (0 : Int32)), (0, .ref 0), (1, .int v1), (3, .int v3)]) dX11_falls_90 rfl ic_1 (by decide) rfl ?_
            refine a_goto (tgt := 26) dX11_falls_93 (by decide) ?_
            refine a_sub (lv' := [(0, .ref 0), (1, .int v1), (3, .int v3), (4, .int (0 : Int32)), (5, .int (v5 + (1 : Int32)))]) [2, 3, 4, 1, 0] rfl ?_
            exact hk26 v1 v3 (0 : Int32) (v5 + (1 : Int32)) I J _ h
          · replace h := h_iteF c h
            refine a_iconst dX11_falls_83 ic_1 ?_
            refine a_goto (tgt := 88) dX11_falls_84 (by decide) ?_
            refine a_istore (lv' := [(4, .int (1 : Int32)), (0, .ref 0), (1, .int v1), (3, .int v3), (5, .int v5)]) dX11_falls_88 (by decide) rfl ?_
            refine b_iinc (lv' := [(5, .int (v5 + (1 : Int32))), (4, .int (1 : Int32)), (0, .ref 0), (1, .int v1), (3, .int v3)]) dX11_falls_90 rfl ic_1 (by decide) rfl ?_
            refine a_goto (tgt := 26) dX11_falls_93 (by decide) ?_
            refine a_sub (lv' := [(0, .ref 0), (1, .int v1), (3, .int v3), (4, .int (1 : Int32)), (5, .int (v5 + (1 : Int32)))]) [2, 3, 4, 1, 0] rfl ?_
            exact hk26 v1 v3 (1 : Int32) (v5 + (1 : Int32)) I J _ h
def mM_falls_L26  : Nat → Int32 → Int32 → Int32 → Int32 → hI → Option (Int32)
  | 0 => fun _ _ _ _ _ => none
  | n + 1 => mM_falls_B26 (mM_falls_L26 n)
theorem sM_falls_L26 (d : Nat) (hd : 3 + 1 ≤ d) : ∀ (n : Nat) (v1 : Int32) (v3 : Int32) (v4 : Int32) (v5 : Int32) (I : hI) (J : hJ) (q : Int32) (h : mM_falls_L26 n v1 v3 v4 v5 I = some q), AW hFT cX11_falls 6 (some .boolean) RX11 kdM d [(0, .ref 0), (1, .int v1), (3, .int v3), (4, .int v4), (5, .int v5)] 26 [] (I, J, RMm) (some (.int q)) (I, J, RMm)
  | 0, _, _, _, _, _, _, q, h => by cases h
  | n + 1, v1, v3, v4, v5, I, J, q, h => sM_falls_B26 d hd (mM_falls_L26 n) (sM_falls_L26 d hd n) v1 v3 v4 v5 I J q h
def mM_falls  (v1 : Int32) (v2 : Int32) (I : hI) : Option (Int32) :=
  h_let (mM_choiceAt v1 v2) fun v3x0 =>
  h_g (h_in v3x0 80) <|
  if (I 28 v3x0.toNatClampNeg) ≤ 0 then
    mM_falls_L26 hF v1 v3x0 (0 : Int32) (0 : Int32) I
  else
    mM_falls_L26 hF v1 v3x0 (1 : Int32) (0 : Int32) I
set_option maxHeartbeats 4000000 in
theorem sM_falls (d : Nat) (hd : 3 + 1 ≤ d) (v1 : Int32) (v2 : Int32) (I : hI) (J : hJ) (q : Int32) (h : mM_falls v1 v2 I = some q) : HMet hFT yX11_falls cX11_falls 6 (some .boolean) kdM d [.ref 0, .int v1, .int v2] (I, J, RMm) (some (.int q)) (I, J, RMm) := by
  obtain ⟨d0, rfl, hd0⟩ := h_mono hd
  refine HMet.of (by decide) (Nat.le_of_ble_eq_true rfl) ?_
  show AW hFT cX11_falls 6 (some .boolean) RX11 kdM (d0 + 1) [(0, .ref 0), (1, .int v1), (2, .int v2)] 0 [] (I, J, RMm) (some (.int q)) (I, J, RMm)
  unfold mM_falls at h
  refine a_aload_n dX11_falls_0 rfl rfl ?_
  refine a_iload_n dX11_falls_1 rfl rfl ?_
  refine a_iload_n dX11_falls_2 rfl rfl ?_
  refine a_callV1 [] yy_X11_choiceAt ml_11_433 km_0 rfl (sM_choiceAt _ (by omega) v1 v2 I J _ rfl) rfl rfl (Nat.le_of_ble_eq_true rfl) dX11_falls_3 ?_
  obtain ⟨v3x0, ev3x0, h⟩ := h_letS h
  refine a_topI ev3x0 ?_
  refine a_istore_n (lv' := [(3, .int v3x0), (0, .ref 0), (1, .int v1), (2, .int v2)]) dX11_falls_6 rfl (by decide) rfl ?_
  refine a_aload_n dX11_falls_7 rfl rfl ?_
  refine b_getR hK_11 km_0 (i := 65) rfl fl_11_92 rfl rmm_65 dX11_falls_8 ?_
  refine a_iload_n dX11_falls_11 rfl rfl ?_
  obtain ⟨g2, h⟩ := h_gS h
  refine b_iaload km_28 (h_inV g2) dX11_falls_12 ?_
  refine a_if_le (tgt := 20) dX11_falls_13 (by decide) (fun c => ?_) (fun c => ?_)
  · replace h := h_iteT c h
    refine a_iconst dX11_falls_20 ic_0 ?_
    refine a_istore (lv' := [(4, .int (0 : Int32)), (3, .int v3x0), (0, .ref 0), (1, .int v1), (2, .int v2)]) dX11_falls_21 (by decide) rfl ?_
    refine a_iconst dX11_falls_23 ic_0 ?_
    refine a_istore (lv' := [(5, .int (0 : Int32)), (4, .int (0 : Int32)), (3, .int v3x0), (0, .ref 0), (1, .int v1), (2, .int v2)]) dX11_falls_24 (by decide) rfl ?_
    refine a_sub (lv' := [(0, .ref 0), (1, .int v1), (3, .int v3x0), (4, .int (0 : Int32)), (5, .int (0 : Int32))]) [3, 4, 2, 1, 0] rfl ?_
    exact sM_falls_L26 (d0 + 1) (by omega) hF v1 v3x0 (0 : Int32) (0 : Int32) I J _ h
  · replace h := h_iteF c h
    refine a_iconst dX11_falls_16 ic_1 ?_
    refine a_goto (tgt := 21) dX11_falls_17 (by decide) ?_
    refine a_istore (lv' := [(4, .int (1 : Int32)), (3, .int v3x0), (0, .ref 0), (1, .int v1), (2, .int v2)]) dX11_falls_21 (by decide) rfl ?_
    refine a_iconst dX11_falls_23 ic_0 ?_
    refine a_istore (lv' := [(5, .int (0 : Int32)), (4, .int (1 : Int32)), (3, .int v3x0), (0, .ref 0), (1, .int v1), (2, .int v2)]) dX11_falls_24 (by decide) rfl ?_
    refine a_sub (lv' := [(0, .ref 0), (1, .int v1), (3, .int v3x0), (4, .int (1 : Int32)), (5, .int (0 : Int32))]) [3, 4, 2, 1, 0] rfl ?_
    exact sM_falls_L26 (d0 + 1) (by omega) hF v1 v3x0 (1 : Int32) (0 : Int32) I J _ h
/-! CoinLoopsModel.isAgainst(III)Z -/
theorem dX11_isAgainst_0 : decode cX11_isAgainst 0 = .ok (.ldc2_w 561, 3) := by decide +kernel
theorem dX11_isAgainst_3 : decode cX11_isAgainst 3 = .ok (.aload_n 0, 1) := by decide +kernel
theorem dX11_isAgainst_4 : decode cX11_isAgainst 4 = .ok (.iload_n 2, 1) := by decide +kernel
theorem dX11_isAgainst_5 : decode cX11_isAgainst 5 = .ok (.invokevirtual 575, 3) := by decide +kernel
theorem dX11_isAgainst_8 : decode cX11_isAgainst 8 = .ok (.lmul, 1) := by decide +kernel
theorem dX11_isAgainst_9 : decode cX11_isAgainst 9 = .ok (.lstore 4, 2) := by decide +kernel
theorem dX11_isAgainst_11 : decode cX11_isAgainst 11 = .ok (.iload_n 1, 1) := by decide +kernel
theorem dX11_isAgainst_12 : decode cX11_isAgainst 12 = .ok (.tableswitch 93 0 3 #[32, 32, 51, 74], 32) := by decide +kernel
theorem dX11_isAgainst_44 : decode cX11_isAgainst 44 = .ok (.lload 4, 2) := by decide +kernel
theorem dX11_isAgainst_46 : decode cX11_isAgainst 46 = .ok (.aload_n 0, 1) := by decide +kernel
theorem dX11_isAgainst_47 : decode cX11_isAgainst 47 = .ok (.iload_n 2, 1) := by decide +kernel
theorem dX11_isAgainst_48 : decode cX11_isAgainst 48 = .ok (.iload_n 3, 1) := by decide +kernel
theorem dX11_isAgainst_49 : decode cX11_isAgainst 49 = .ok (.iconst 1, 1) := by decide +kernel
theorem dX11_isAgainst_50 : decode cX11_isAgainst 50 = .ok (.invokevirtual 588, 3) := by decide +kernel
theorem dX11_isAgainst_53 : decode cX11_isAgainst 53 = .ok (.lcmp, 1) := by decide +kernel
theorem dX11_isAgainst_54 : decode cX11_isAgainst 54 = .ok (.ifCond .ge 7, 3) := by decide +kernel
theorem dX11_isAgainst_57 : decode cX11_isAgainst 57 = .ok (.iconst 1, 1) := by decide +kernel
theorem dX11_isAgainst_58 : decode cX11_isAgainst 58 = .ok (.goto 4, 3) := by decide +kernel
theorem dX11_isAgainst_61 : decode cX11_isAgainst 61 = .ok (.iconst 0, 1) := by decide +kernel
theorem dX11_isAgainst_62 : decode cX11_isAgainst 62 = .ok (.ireturn, 1) := by decide +kernel
theorem dX11_isAgainst_63 : decode cX11_isAgainst 63 = .ok (.lload 4, 2) := by decide +kernel
theorem dX11_isAgainst_65 : decode cX11_isAgainst 65 = .ok (.ldc2_w 592, 3) := by decide +kernel
theorem dX11_isAgainst_68 : decode cX11_isAgainst 68 = .ok (.aload_n 0, 1) := by decide +kernel
theorem dX11_isAgainst_69 : decode cX11_isAgainst 69 = .ok (.iload_n 2, 1) := by decide +kernel
theorem dX11_isAgainst_70 : decode cX11_isAgainst 70 = .ok (.iload_n 3, 1) := by decide +kernel
theorem dX11_isAgainst_71 : decode cX11_isAgainst 71 = .ok (.iconst 0, 1) := by decide +kernel
theorem dX11_isAgainst_72 : decode cX11_isAgainst 72 = .ok (.invokevirtual 588, 3) := by decide +kernel
theorem dX11_isAgainst_75 : decode cX11_isAgainst 75 = .ok (.ladd, 1) := by decide +kernel
theorem dX11_isAgainst_76 : decode cX11_isAgainst 76 = .ok (.lcmp, 1) := by decide +kernel
theorem dX11_isAgainst_77 : decode cX11_isAgainst 77 = .ok (.ifCond .ge 7, 3) := by decide +kernel
theorem dX11_isAgainst_80 : decode cX11_isAgainst 80 = .ok (.iconst 1, 1) := by decide +kernel
theorem dX11_isAgainst_81 : decode cX11_isAgainst 81 = .ok (.goto 4, 3) := by decide +kernel
theorem dX11_isAgainst_84 : decode cX11_isAgainst 84 = .ok (.iconst 0, 1) := by decide +kernel
theorem dX11_isAgainst_85 : decode cX11_isAgainst 85 = .ok (.ireturn, 1) := by decide +kernel
theorem dX11_isAgainst_86 : decode cX11_isAgainst 86 = .ok (.lload 4, 2) := by decide +kernel
theorem dX11_isAgainst_88 : decode cX11_isAgainst 88 = .ok (.aload_n 0, 1) := by decide +kernel
theorem dX11_isAgainst_89 : decode cX11_isAgainst 89 = .ok (.iload_n 2, 1) := by decide +kernel
theorem dX11_isAgainst_90 : decode cX11_isAgainst 90 = .ok (.iload_n 3, 1) := by decide +kernel
theorem dX11_isAgainst_91 : decode cX11_isAgainst 91 = .ok (.iconst 1, 1) := by decide +kernel
theorem dX11_isAgainst_92 : decode cX11_isAgainst 92 = .ok (.invokevirtual 588, 3) := by decide +kernel
theorem dX11_isAgainst_95 : decode cX11_isAgainst 95 = .ok (.lcmp, 1) := by decide +kernel
theorem dX11_isAgainst_96 : decode cX11_isAgainst 96 = .ok (.ifCond .le 7, 3) := by decide +kernel
theorem dX11_isAgainst_99 : decode cX11_isAgainst 99 = .ok (.iconst 1, 1) := by decide +kernel
theorem dX11_isAgainst_100 : decode cX11_isAgainst 100 = .ok (.goto 4, 3) := by decide +kernel
theorem dX11_isAgainst_103 : decode cX11_isAgainst 103 = .ok (.iconst 0, 1) := by decide +kernel
theorem dX11_isAgainst_104 : decode cX11_isAgainst 104 = .ok (.ireturn, 1) := by decide +kernel
theorem dX11_isAgainst_105 : decode cX11_isAgainst 105 = .ok (.aload_n 0, 1) := by decide +kernel
theorem dX11_isAgainst_106 : decode cX11_isAgainst 106 = .ok (.iload_n 2, 1) := by decide +kernel
theorem dX11_isAgainst_107 : decode cX11_isAgainst 107 = .ok (.iload_n 3, 1) := by decide +kernel
theorem dX11_isAgainst_108 : decode cX11_isAgainst 108 = .ok (.invokevirtual 594, 3) := by decide +kernel
theorem dX11_isAgainst_111 : decode cX11_isAgainst 111 = .ok (.ifCond .ne 7, 3) := by decide +kernel
theorem dX11_isAgainst_114 : decode cX11_isAgainst 114 = .ok (.iconst 1, 1) := by decide +kernel
theorem dX11_isAgainst_115 : decode cX11_isAgainst 115 = .ok (.goto 4, 3) := by decide +kernel
theorem dX11_isAgainst_118 : decode cX11_isAgainst 118 = .ok (.iconst 0, 1) := by decide +kernel
theorem dX11_isAgainst_119 : decode cX11_isAgainst 119 = .ok (.ireturn, 1) := by decide +kernel
def mM_isAgainst  (v1 : Int32) (v2 : Int32) (v3 : Int32) (I : hI) : Option (Int32) :=
  (mM_wholeGuess v2 I).bind fun q1 =>
  h_let ((4 : Int64) * q1) fun v4x1 =>
  if v1 = 0 then
    ((mM_wholeAhead v2 v3 (1 : Int32) I).bind fun q3 =>
    if q3 ≤ v4x1 then
      some (0 : Int32)
    else
      some (1 : Int32))
  else
    (if v1 = 1 then
      ((mM_wholeAhead v2 v3 (1 : Int32) I).bind fun q3 =>
      if q3 ≤ v4x1 then
        some (0 : Int32)
      else
        some (1 : Int32))
    else
      (if v1 = 2 then
        ((mM_wholeAhead v2 v3 (0 : Int32) I).bind fun q3 =>
        if ((110880 : Int64) + q3) ≤ v4x1 then
          some (0 : Int32)
        else
          some (1 : Int32))
      else
        (if v1 = 3 then
          ((mM_wholeAhead v2 v3 (1 : Int32) I).bind fun q3 =>
          if v4x1 ≤ q3 then
            some (0 : Int32)
          else
            some (1 : Int32))
        else
          ((mM_falls v2 v3 I).bind fun q3 =>
          if q3 = 0 then
            some (1 : Int32)
          else
            some (0 : Int32)))))
set_option maxHeartbeats 4000000 in
theorem sM_isAgainst (d : Nat) (hd : 4 + 1 ≤ d) (v1 : Int32) (v2 : Int32) (v3 : Int32) (I : hI) (J : hJ) (q : Int32) (h : mM_isAgainst v1 v2 v3 I = some q) : HMet hFT yX11_isAgainst cX11_isAgainst 6 (some .boolean) kdM d [.ref 0, .int v1, .int v2, .int v3] (I, J, RMm) (some (.int q)) (I, J, RMm) := by
  obtain ⟨d0, rfl, hd0⟩ := h_mono hd
  refine HMet.of (by decide) (Nat.le_of_ble_eq_true rfl) ?_
  show AW hFT cX11_isAgainst 6 (some .boolean) RX11 kdM (d0 + 1) [(0, .ref 0), (1, .int v1), (2, .int v2), (3, .int v3)] 0 [] (I, J, RMm) (some (.int q)) (I, J, RMm)
  unfold mM_isAgainst at h
  refine a_ldc2_w cn_11_561 dX11_isAgainst_0 ?_
  refine a_aload_n dX11_isAgainst_3 rfl rfl ?_
  refine a_iload_n dX11_isAgainst_4 rfl rfl ?_
  obtain ⟨q1, cq1, h⟩ := h_bindS h
  refine a_callV1 [.long (4 : Int64)] yy_X11_wholeGuess ml_11_575 km_0 rfl (sM_wholeGuess _ (by omega) v2 I J q1 cq1) rfl rfl (Nat.le_of_ble_eq_true rfl) dX11_isAgainst_5 ?_
  refine a_lmul dX11_isAgainst_8 ?_
  obtain ⟨v4x1, ev4x1, h⟩ := h_letS h
  refine a_topJ ev4x1 ?_
  refine a_lstore (lv' := [(4, .long v4x1), (0, .ref 0), (1, .int v1), (2, .int v2), (3, .int v3)]) dX11_isAgainst_9 (by decide) rfl ?_
  refine a_iload_n dX11_isAgainst_11 rfl rfl ?_
  by_cases n0 : v1 = 0
  · replace h := h_iteT n0 h
    refine a_topI n0 ?_
    refine a_tableIn (tgt := 44) (off := 32) dX11_isAgainst_12 (by decide) (by decide) (by decide) (by decide) ?_
    refine a_lload dX11_isAgainst_44 rfl ?_
    refine a_aload_n dX11_isAgainst_46 rfl rfl ?_
    refine a_iload_n dX11_isAgainst_47 rfl rfl ?_
    refine a_iload_n dX11_isAgainst_48 rfl rfl ?_
    refine a_iconst dX11_isAgainst_49 ic_1 ?_
    obtain ⟨q3, cq3, h⟩ := h_bindS h
    refine a_callV1 [.long v4x1] yy_X11_wholeAhead ml_11_588 km_0 rfl (sM_wholeAhead _ (by omega) v2 v3 (1 : Int32) I J q3 cq3) rfl rfl (Nat.le_of_ble_eq_true rfl) dX11_isAgainst_50 ?_
    refine a_lcmp_ge (tgt := 61) dX11_isAgainst_53 dX11_isAgainst_54 (by decide) (fun c => ?_) (fun c => ?_)
    · replace h := h_iteT c h
      refine a_iconst dX11_isAgainst_61 ic_0 ?_
      cases h
      exact a_zret (h_Z0.1) dX11_isAgainst_62
    · replace h := h_iteF c h
      refine a_iconst dX11_isAgainst_57 ic_1 ?_
      refine a_goto (tgt := 62) dX11_isAgainst_58 (by decide) ?_
      cases h
      exact a_zret (h_Z1.1) dX11_isAgainst_62
  · replace h := h_iteF n0 h
    by_cases n1 : v1 = 1
    · replace h := h_iteT n1 h
      refine a_topI n1 ?_
      refine a_tableIn (tgt := 44) (off := 32) dX11_isAgainst_12 (by decide) (by decide) (by decide) (by decide) ?_
      refine a_lload dX11_isAgainst_44 rfl ?_
      refine a_aload_n dX11_isAgainst_46 rfl rfl ?_
      refine a_iload_n dX11_isAgainst_47 rfl rfl ?_
      refine a_iload_n dX11_isAgainst_48 rfl rfl ?_
      refine a_iconst dX11_isAgainst_49 ic_1 ?_
      obtain ⟨q3, cq3, h⟩ := h_bindS h
      refine a_callV1 [.long v4x1] yy_X11_wholeAhead ml_11_588 km_0 rfl (sM_wholeAhead _ (by omega) v2 v3 (1 : Int32) I J q3 cq3) rfl rfl (Nat.le_of_ble_eq_true rfl) dX11_isAgainst_50 ?_
      refine a_lcmp_ge (tgt := 61) dX11_isAgainst_53 dX11_isAgainst_54 (by decide) (fun c => ?_) (fun c => ?_)
      · replace h := h_iteT c h
        refine a_iconst dX11_isAgainst_61 ic_0 ?_
        cases h
        exact a_zret (h_Z0.1) dX11_isAgainst_62
      · replace h := h_iteF c h
        refine a_iconst dX11_isAgainst_57 ic_1 ?_
        refine a_goto (tgt := 62) dX11_isAgainst_58 (by decide) ?_
        cases h
        exact a_zret (h_Z1.1) dX11_isAgainst_62
    · replace h := h_iteF n1 h
      by_cases n2 : v1 = 2
      · replace h := h_iteT n2 h
        refine a_topI n2 ?_
        refine a_tableIn (tgt := 63) (off := 51) dX11_isAgainst_12 (by decide) (by decide) (by decide) (by decide) ?_
        refine a_lload dX11_isAgainst_63 rfl ?_
        refine a_ldc2_w cn_11_592 dX11_isAgainst_65 ?_
        refine a_aload_n dX11_isAgainst_68 rfl rfl ?_
        refine a_iload_n dX11_isAgainst_69 rfl rfl ?_
        refine a_iload_n dX11_isAgainst_70 rfl rfl ?_
        refine a_iconst dX11_isAgainst_71 ic_0 ?_
        obtain ⟨q3, cq3, h⟩ := h_bindS h
        refine a_callV1 [.long (110880 : Int64), .long v4x1] yy_X11_wholeAhead ml_11_588 km_0 rfl (sM_wholeAhead _ (by omega) v2 v3 (0 : Int32) I J q3 cq3) rfl rfl (Nat.le_of_ble_eq_true rfl) dX11_isAgainst_72 ?_
        refine a_ladd dX11_isAgainst_75 ?_
        refine a_lcmp_ge (tgt := 84) dX11_isAgainst_76 dX11_isAgainst_77 (by decide) (fun c => ?_) (fun c => ?_)
        · replace h := h_iteT c h
          refine a_iconst dX11_isAgainst_84 ic_0 ?_
          cases h
          exact a_zret (h_Z0.1) dX11_isAgainst_85
        · replace h := h_iteF c h
          refine a_iconst dX11_isAgainst_80 ic_1 ?_
          refine a_goto (tgt := 85) dX11_isAgainst_81 (by decide) ?_
          cases h
          exact a_zret (h_Z1.1) dX11_isAgainst_85
      · replace h := h_iteF n2 h
        by_cases n3 : v1 = 3
        · replace h := h_iteT n3 h
          refine a_topI n3 ?_
          refine a_tableIn (tgt := 86) (off := 74) dX11_isAgainst_12 (by decide) (by decide) (by decide) (by decide) ?_
          refine a_lload dX11_isAgainst_86 rfl ?_
          refine a_aload_n dX11_isAgainst_88 rfl rfl ?_
          refine a_iload_n dX11_isAgainst_89 rfl rfl ?_
          refine a_iload_n dX11_isAgainst_90 rfl rfl ?_
          refine a_iconst dX11_isAgainst_91 ic_1 ?_
          obtain ⟨q3, cq3, h⟩ := h_bindS h
          refine a_callV1 [.long v4x1] yy_X11_wholeAhead ml_11_588 km_0 rfl (sM_wholeAhead _ (by omega) v2 v3 (1 : Int32) I J q3 cq3) rfl rfl (Nat.le_of_ble_eq_true rfl) dX11_isAgainst_92 ?_
          refine a_lcmp_le (tgt := 103) dX11_isAgainst_95 dX11_isAgainst_96 (by decide) (fun c => ?_) (fun c => ?_)
          · replace h := h_iteT c h
            refine a_iconst dX11_isAgainst_103 ic_0 ?_
            cases h
            exact a_zret (h_Z0.1) dX11_isAgainst_104
          · replace h := h_iteF c h
            refine a_iconst dX11_isAgainst_99 ic_1 ?_
            refine a_goto (tgt := 104) dX11_isAgainst_100 (by decide) ?_
            cases h
            exact a_zret (h_Z1.1) dX11_isAgainst_104
        · replace h := h_iteF n3 h
          refine a_tableOut (tgt := 105) dX11_isAgainst_12 (h_tb4 n0 n1 n2 n3) (by decide) ?_
          refine a_aload_n dX11_isAgainst_105 rfl rfl ?_
          refine a_iload_n dX11_isAgainst_106 rfl rfl ?_
          refine a_iload_n dX11_isAgainst_107 rfl rfl ?_
          obtain ⟨q3, cq3, h⟩ := h_bindS h
          refine a_callV1 [] yy_X11_falls ml_11_594 km_0 rfl (sM_falls _ (by omega) v2 v3 I J q3 cq3) rfl rfl (Nat.le_of_ble_eq_true rfl) dX11_isAgainst_108 ?_
          refine a_if_ne (tgt := 118) dX11_isAgainst_111 (by decide) (fun c => ?_) (fun c => ?_)
          · replace h := h_iteF c h
            refine a_iconst dX11_isAgainst_118 ic_0 ?_
            cases h
            exact a_zret (h_Z0.1) dX11_isAgainst_119
          · replace h := h_iteT c h
            refine a_iconst dX11_isAgainst_114 ic_1 ?_
            refine a_goto (tgt := 119) dX11_isAgainst_115 (by decide) ?_
            cases h
            exact a_zret (h_Z1.1) dX11_isAgainst_119
/-! CoinLoopsModel.refutesAt(II)Z -/
theorem dX11_refutesAt_0 : decode cX11_refutesAt 0 = .ok (.iload_n 1, 1) := by decide +kernel
theorem dX11_refutesAt_1 : decode cX11_refutesAt 1 = .ok (.iconst 3, 1) := by decide +kernel
theorem dX11_refutesAt_2 : decode cX11_refutesAt 2 = .ok (.if_icmp .eq 15, 3) := by decide +kernel
theorem dX11_refutesAt_5 : decode cX11_refutesAt 5 = .ok (.aload_n 0, 1) := by decide +kernel
theorem dX11_refutesAt_6 : decode cX11_refutesAt 6 = .ok (.iload_n 2, 1) := by decide +kernel
theorem dX11_refutesAt_7 : decode cX11_refutesAt 7 = .ok (.invokevirtual 575, 3) := by decide +kernel
theorem dX11_refutesAt_10 : decode cX11_refutesAt 10 = .ok (.lconst 0, 1) := by decide +kernel
theorem dX11_refutesAt_11 : decode cX11_refutesAt 11 = .ok (.lcmp, 1) := by decide +kernel
theorem dX11_refutesAt_12 : decode cX11_refutesAt 12 = .ok (.ifCond .ge 5, 3) := by decide +kernel
theorem dX11_refutesAt_15 : decode cX11_refutesAt 15 = .ok (.iconst 1, 1) := by decide +kernel
theorem dX11_refutesAt_16 : decode cX11_refutesAt 16 = .ok (.ireturn, 1) := by decide +kernel
theorem dX11_refutesAt_17 : decode cX11_refutesAt 17 = .ok (.iconst 0, 1) := by decide +kernel
theorem dX11_refutesAt_18 : decode cX11_refutesAt 18 = .ok (.istore_n 3, 1) := by decide +kernel
theorem dX11_refutesAt_19 : decode cX11_refutesAt 19 = .ok (.iconst 0, 1) := by decide +kernel
theorem dX11_refutesAt_20 : decode cX11_refutesAt 20 = .ok (.istore 4, 2) := by decide +kernel
theorem dX11_refutesAt_22 : decode cX11_refutesAt 22 = .ok (.iload 4, 2) := by decide +kernel
theorem dX11_refutesAt_24 : decode cX11_refutesAt 24 = .ok (.aload_n 0, 1) := by decide +kernel
theorem dX11_refutesAt_25 : decode cX11_refutesAt 25 = .ok (.getfield 83, 3) := by decide +kernel
theorem dX11_refutesAt_28 : decode cX11_refutesAt 28 = .ok (.iload_n 2, 1) := by decide +kernel
theorem dX11_refutesAt_29 : decode cX11_refutesAt 29 = .ok (.iaload, 1) := by decide +kernel
theorem dX11_refutesAt_30 : decode cX11_refutesAt 30 = .ok (.if_icmp .ge 28, 3) := by decide +kernel
theorem dX11_refutesAt_33 : decode cX11_refutesAt 33 = .ok (.iload_n 3, 1) := by decide +kernel
theorem dX11_refutesAt_34 : decode cX11_refutesAt 34 = .ok (.aload_n 0, 1) := by decide +kernel
theorem dX11_refutesAt_35 : decode cX11_refutesAt 35 = .ok (.iload_n 1, 1) := by decide +kernel
theorem dX11_refutesAt_36 : decode cX11_refutesAt 36 = .ok (.iload_n 2, 1) := by decide +kernel
theorem dX11_refutesAt_37 : decode cX11_refutesAt 37 = .ok (.iload 4, 2) := by decide +kernel
theorem dX11_refutesAt_39 : decode cX11_refutesAt 39 = .ok (.invokevirtual 597, 3) := by decide +kernel
theorem dX11_refutesAt_42 : decode cX11_refutesAt 42 = .ok (.ifCond .eq 7, 3) := by decide +kernel
theorem dX11_refutesAt_45 : decode cX11_refutesAt 45 = .ok (.iconst 1, 1) := by decide +kernel
theorem dX11_refutesAt_46 : decode cX11_refutesAt 46 = .ok (.goto 4, 3) := by decide +kernel
theorem dX11_refutesAt_49 : decode cX11_refutesAt 49 = .ok (.iconst 0, 1) := by decide +kernel
theorem dX11_refutesAt_50 : decode cX11_refutesAt 50 = .ok (.iadd, 1) := by decide +kernel
theorem dX11_refutesAt_51 : decode cX11_refutesAt 51 = .ok (.istore_n 3, 1) := by decide +kernel
theorem dX11_refutesAt_52 : decode cX11_refutesAt 52 = .ok (.iinc 4 1, 3) := by decide +kernel
theorem dX11_refutesAt_55 : decode cX11_refutesAt 55 = .ok (.goto (-33), 3) := by decide +kernel
theorem dX11_refutesAt_58 : decode cX11_refutesAt 58 = .ok (.iload_n 1, 1) := by decide +kernel
theorem dX11_refutesAt_59 : decode cX11_refutesAt 59 = .ok (.iconst 1, 1) := by decide +kernel
theorem dX11_refutesAt_60 : decode cX11_refutesAt 60 = .ok (.if_icmp .ne 21, 3) := by decide +kernel
theorem dX11_refutesAt_63 : decode cX11_refutesAt 63 = .ok (.iload_n 3, 1) := by decide +kernel
theorem dX11_refutesAt_64 : decode cX11_refutesAt 64 = .ok (.aload_n 0, 1) := by decide +kernel
theorem dX11_refutesAt_65 : decode cX11_refutesAt 65 = .ok (.getfield 83, 3) := by decide +kernel
theorem dX11_refutesAt_68 : decode cX11_refutesAt 68 = .ok (.iload_n 2, 1) := by decide +kernel
theorem dX11_refutesAt_69 : decode cX11_refutesAt 69 = .ok (.iaload, 1) := by decide +kernel
theorem dX11_refutesAt_70 : decode cX11_refutesAt 70 = .ok (.if_icmp .ne 7, 3) := by decide +kernel
theorem dX11_refutesAt_73 : decode cX11_refutesAt 73 = .ok (.iconst 1, 1) := by decide +kernel
theorem dX11_refutesAt_74 : decode cX11_refutesAt 74 = .ok (.goto 16, 3) := by decide +kernel
theorem dX11_refutesAt_77 : decode cX11_refutesAt 77 = .ok (.iconst 0, 1) := by decide +kernel
theorem dX11_refutesAt_78 : decode cX11_refutesAt 78 = .ok (.goto 12, 3) := by decide +kernel
theorem dX11_refutesAt_81 : decode cX11_refutesAt 81 = .ok (.iload_n 3, 1) := by decide +kernel
theorem dX11_refutesAt_82 : decode cX11_refutesAt 82 = .ok (.ifCond .le 7, 3) := by decide +kernel
theorem dX11_refutesAt_85 : decode cX11_refutesAt 85 = .ok (.iconst 1, 1) := by decide +kernel
theorem dX11_refutesAt_86 : decode cX11_refutesAt 86 = .ok (.goto 4, 3) := by decide +kernel
theorem dX11_refutesAt_89 : decode cX11_refutesAt 89 = .ok (.iconst 0, 1) := by decide +kernel
theorem dX11_refutesAt_90 : decode cX11_refutesAt 90 = .ok (.ireturn, 1) := by decide +kernel
def mM_refutesAt_B22 (k22 : Int32 → Int32 → Int32 → Int32 → hI → Option (Int32)) (v1 : Int32) (v2 : Int32) (v3 : Int32) (v4 : Int32) (I : hI) : Option (Int32) :=
  h_g (h_in v2 10) <|
  if (I 25 v2.toNatClampNeg) ≤ v4 then
    (if v1 = (1 : Int32) then
      (h_g (h_in v2 10) <|
      if v3 = (I 25 v2.toNatClampNeg) then
        some (1 : Int32)
      else
        some (0 : Int32))
    else
      (if v3 ≤ 0 then
        some (0 : Int32)
      else
        some (1 : Int32)))
  else
    ((mM_isAgainst v1 v2 v4 I).bind fun q2 =>
    if q2 = 0 then
      (h_let (v3 + (0 : Int32)) fun v3x2 =>
      k22 v1 v2 v3x2 (v4 + (1 : Int32)) I)
    else
      (h_let (v3 + (1 : Int32)) fun v3x2 =>
      k22 v1 v2 v3x2 (v4 + (1 : Int32)) I))
set_option maxHeartbeats 4000000 in
theorem sM_refutesAt_B22 (d : Nat) (hd : 5 + 1 ≤ d) (k22 : Int32 → Int32 → Int32 → Int32 → hI → Option (Int32)) (hk22 : ∀ (v1 : Int32) (v2 : Int32) (v3 : Int32) (v4 : Int32) (I : hI) (J : hJ) (q : Int32), k22 v1 v2 v3 v4 I = some q → AW hFT cX11_refutesAt 5 (some .boolean) RX11 kdM d [(0, .ref 0), (1, .int v1), (2, .int v2), (3, .int v3), (4, .int v4)] 22 [] (I, J, RMm) (some (.int q)) (I, J, RMm)) (v1 : Int32) (v2 : Int32) (v3 : Int32) (v4 : Int32) (I : hI) (J : hJ) (q : Int32) (h : mM_refutesAt_B22 k22 v1 v2 v3 v4 I = some q) : AW hFT cX11_refutesAt 5 (some .boolean) RX11 kdM d [(0, .ref 0), (1, .int v1), (2, .int v2), (3, .int v3), (4, .int v4)] 22 [] (I, J, RMm) (some (.int q)) (I, J, RMm) := by
  obtain ⟨d0, rfl, hd0⟩ := h_mono hd
  unfold mM_refutesAt_B22 at h
  refine a_iload dX11_refutesAt_22 rfl ?_
  refine a_aload_n dX11_refutesAt_24 rfl rfl ?_
  refine b_getR hK_11 km_0 (i := 62) rfl fl_11_83 rfl rmm_62 dX11_refutesAt_25 ?_
  refine a_iload_n dX11_refutesAt_28 rfl rfl ?_
  obtain ⟨g1, h⟩ := h_gS h
  refine b_iaload km_25 (h_inV g1) dX11_refutesAt_29 ?_
  refine a_icmp_ge (tgt := 58) dX11_refutesAt_30 (by decide) (fun c => ?_) (fun c => ?_)
  · replace h := h_iteT c h
    refine a_iload_n dX11_refutesAt_58 rfl rfl ?_
    refine a_iconst dX11_refutesAt_59 ic_1 ?_
    refine a_icmp_ne (tgt := 81) dX11_refutesAt_60 (by decide) (fun c => ?_) (fun c => ?_)
    · replace h := h_iteF c h
      refine a_iload_n dX11_refutesAt_81 rfl rfl ?_
      refine a_if_le (tgt := 89) dX11_refutesAt_82 (by decide) (fun c => ?_) (fun c => ?_)
      · replace h := h_iteT c h
        refine a_iconst dX11_refutesAt_89 ic_0 ?_
        cases h
        exact a_zret (h_Z0.1) dX11_refutesAt_90
      · replace h := h_iteF c h
        refine a_iconst dX11_refutesAt_85 ic_1 ?_
        refine a_goto (tgt := 90) dX11_refutesAt_86 (by decide) ?_
        cases h
        exact a_zret (h_Z1.1) dX11_refutesAt_90
    · replace h := h_iteT c h
      refine a_iload_n dX11_refutesAt_63 rfl rfl ?_
      refine a_aload_n dX11_refutesAt_64 rfl rfl ?_
      refine b_getR hK_11 km_0 (i := 62) rfl fl_11_83 rfl rmm_62 dX11_refutesAt_65 ?_
      refine a_iload_n dX11_refutesAt_68 rfl rfl ?_
      obtain ⟨g2, h⟩ := h_gS h
      refine b_iaload km_25 (h_inV g2) dX11_refutesAt_69 ?_
      refine a_icmp_ne (tgt := 77) dX11_refutesAt_70 (by decide) (fun c => ?_) (fun c => ?_)
      · replace h := h_iteF c h
        refine a_iconst dX11_refutesAt_77 ic_0 ?_
        refine a_goto (tgt := 90) dX11_refutesAt_78 (by decide) ?_
        cases h
        exact a_zret (h_Z0.1) dX11_refutesAt_90
      · replace h := h_iteT c h
        refine a_iconst dX11_refutesAt_73 ic_1 ?_
        refine a_goto (tgt := 90) dX11_refutesAt_74 (by decide) ?_
        cases h
        exact a_zret (h_Z1.1) dX11_refutesAt_90
  · replace h := h_iteF c h
    refine a_iload_n dX11_refutesAt_33 rfl rfl ?_
    refine a_aload_n dX11_refutesAt_34 rfl rfl ?_
    refine a_iload_n dX11_refutesAt_35 rfl rfl ?_
    refine a_iload_n dX11_refutesAt_36 rfl rfl ?_
    refine a_iload dX11_refutesAt_37 rfl ?_
    obtain ⟨q2, cq2, h⟩ := h_bindS h
    refine a_callV1 [.int v3] yy_X11_isAgainst ml_11_597 km_0 rfl (sM_isAgainst _ (by omega) v1 v2 v4 I J q2 cq2) rfl rfl (Nat.le_of_ble_eq_true rfl) dX11_refutesAt_39 ?_
    refine a_if_eq (tgt := 49) dX11_refutesAt_42 (by decide) (fun c => ?_) (fun c => ?_)
    · replace h := h_iteT c h
      refine a_iconst dX11_refutesAt_49 ic_0 ?_
      refine a_iadd dX11_refutesAt_50 ?_
      obtain ⟨v3x2, ev3x2, h⟩ := h_letS h
      refine a_topI ev3x2 ?_
      refine a_istore_n (lv' := [(3, .int v3x2), (0, .ref 0), (1, .int v1), (2, .int v2), (4, .int v4)]) dX11_refutesAt_51 rfl (by decide) rfl ?_
      refine b_iinc (lv' := [(4, .int (v4 + (1 : Int32))), (3, .int v3x2), (0, .ref 0), (1, .int v1), (2, .int v2)]) dX11_refutesAt_52 rfl ic_1 (by decide) rfl ?_
      refine a_goto (tgt := 22) dX11_refutesAt_55 (by decide) ?_
      refine a_sub (lv' := [(0, .ref 0), (1, .int v1), (2, .int v2), (3, .int v3x2), (4, .int (v4 + (1 : Int32)))]) [2, 3, 4, 1, 0] rfl ?_
      exact hk22 v1 v2 v3x2 (v4 + (1 : Int32)) I J _ h
    · replace h := h_iteF c h
      refine a_iconst dX11_refutesAt_45 ic_1 ?_
      refine a_goto (tgt := 50) dX11_refutesAt_46 (by decide) ?_
      refine a_iadd dX11_refutesAt_50 ?_
      obtain ⟨v3x2, ev3x2, h⟩ := h_letS h
      refine a_topI ev3x2 ?_
      refine a_istore_n (lv' := [(3, .int v3x2), (0, .ref 0), (1, .int v1), (2, .int v2), (4, .int v4)]) dX11_refutesAt_51 rfl (by decide) rfl ?_
      refine b_iinc (lv' := [(4, .int (v4 + (1 : Int32))), (3, .int v3x2), (0, .ref 0), (1, .int v1), (2, .int v2)]) dX11_refutesAt_52 rfl ic_1 (by decide) rfl ?_
      refine a_goto (tgt := 22) dX11_refutesAt_55 (by decide) ?_
      refine a_sub (lv' := [(0, .ref 0), (1, .int v1), (2, .int v2), (3, .int v3x2), (4, .int (v4 + (1 : Int32)))]) [2, 3, 4, 1, 0] rfl ?_
      exact hk22 v1 v2 v3x2 (v4 + (1 : Int32)) I J _ h
def mM_refutesAt_L22  : Nat → Int32 → Int32 → Int32 → Int32 → hI → Option (Int32)
  | 0 => fun _ _ _ _ _ => none
  | n + 1 => mM_refutesAt_B22 (mM_refutesAt_L22 n)
theorem sM_refutesAt_L22 (d : Nat) (hd : 5 + 1 ≤ d) : ∀ (n : Nat) (v1 : Int32) (v2 : Int32) (v3 : Int32) (v4 : Int32) (I : hI) (J : hJ) (q : Int32) (h : mM_refutesAt_L22 n v1 v2 v3 v4 I = some q), AW hFT cX11_refutesAt 5 (some .boolean) RX11 kdM d [(0, .ref 0), (1, .int v1), (2, .int v2), (3, .int v3), (4, .int v4)] 22 [] (I, J, RMm) (some (.int q)) (I, J, RMm)
  | 0, _, _, _, _, _, _, q, h => by cases h
  | n + 1, v1, v2, v3, v4, I, J, q, h => sM_refutesAt_B22 d hd (mM_refutesAt_L22 n) (sM_refutesAt_L22 d hd n) v1 v2 v3 v4 I J q h
def mM_refutesAt  (v1 : Int32) (v2 : Int32) (I : hI) : Option (Int32) :=
  if v1 = (3 : Int32) then
    mM_refutesAt_L22 hF v1 v2 (0 : Int32) (0 : Int32) I
  else
    ((mM_wholeGuess v2 I).bind fun q1 =>
    if (0 : Int64) ≤ q1 then
      mM_refutesAt_L22 hF v1 v2 (0 : Int32) (0 : Int32) I
    else
      some (1 : Int32))
set_option maxHeartbeats 4000000 in
theorem sM_refutesAt (d : Nat) (hd : 5 + 1 ≤ d) (v1 : Int32) (v2 : Int32) (I : hI) (J : hJ) (q : Int32) (h : mM_refutesAt v1 v2 I = some q) : HMet hFT yX11_refutesAt cX11_refutesAt 5 (some .boolean) kdM d [.ref 0, .int v1, .int v2] (I, J, RMm) (some (.int q)) (I, J, RMm) := by
  obtain ⟨d0, rfl, hd0⟩ := h_mono hd
  refine HMet.of (by decide) (Nat.le_of_ble_eq_true rfl) ?_
  show AW hFT cX11_refutesAt 5 (some .boolean) RX11 kdM (d0 + 1) [(0, .ref 0), (1, .int v1), (2, .int v2)] 0 [] (I, J, RMm) (some (.int q)) (I, J, RMm)
  unfold mM_refutesAt at h
  refine a_iload_n dX11_refutesAt_0 rfl rfl ?_
  refine a_iconst dX11_refutesAt_1 ic_3 ?_
  refine a_icmp_eq (tgt := 17) dX11_refutesAt_2 (by decide) (fun c => ?_) (fun c => ?_)
  · replace h := h_iteT c h
    refine a_iconst dX11_refutesAt_17 ic_0 ?_
    refine a_istore_n (lv' := [(3, .int (0 : Int32)), (0, .ref 0), (1, .int v1), (2, .int v2)]) dX11_refutesAt_18 rfl (by decide) rfl ?_
    refine a_iconst dX11_refutesAt_19 ic_0 ?_
    refine a_istore (lv' := [(4, .int (0 : Int32)), (3, .int (0 : Int32)), (0, .ref 0), (1, .int v1), (2, .int v2)]) dX11_refutesAt_20 (by decide) rfl ?_
    refine a_sub (lv' := [(0, .ref 0), (1, .int v1), (2, .int v2), (3, .int (0 : Int32)), (4, .int (0 : Int32))]) [2, 3, 4, 1, 0] rfl ?_
    exact sM_refutesAt_L22 (d0 + 1) (by omega) hF v1 v2 (0 : Int32) (0 : Int32) I J _ h
  · replace h := h_iteF c h
    refine a_aload_n dX11_refutesAt_5 rfl rfl ?_
    refine a_iload_n dX11_refutesAt_6 rfl rfl ?_
    obtain ⟨q1, cq1, h⟩ := h_bindS h
    refine a_callV1 [] yy_X11_wholeGuess ml_11_575 km_0 rfl (sM_wholeGuess _ (by omega) v2 I J q1 cq1) rfl rfl (Nat.le_of_ble_eq_true rfl) dX11_refutesAt_7 ?_
    refine a_lconst dX11_refutesAt_10 lc_0 ?_
    refine a_lcmp_ge (tgt := 17) dX11_refutesAt_11 dX11_refutesAt_12 (by decide) (fun c => ?_) (fun c => ?_)
    · replace h := h_iteT c h
      refine a_iconst dX11_refutesAt_17 ic_0 ?_
      refine a_istore_n (lv' := [(3, .int (0 : Int32)), (0, .ref 0), (1, .int v1), (2, .int v2)]) dX11_refutesAt_18 rfl (by decide) rfl ?_
      refine a_iconst dX11_refutesAt_19 ic_0 ?_
      refine a_istore (lv' := [(4, .int (0 : Int32)), (3, .int (0 : Int32)), (0, .ref 0), (1, .int v1), (2, .int v2)]) dX11_refutesAt_20 (by decide) rfl ?_
      refine a_sub (lv' := [(0, .ref 0), (1, .int v1), (2, .int v2), (3, .int (0 : Int32)), (4, .int (0 : Int32))]) [2, 3, 4, 1, 0] rfl ?_
      exact sM_refutesAt_L22 (d0 + 1) (by omega) hF v1 v2 (0 : Int32) (0 : Int32) I J _ h
    · replace h := h_iteF c h
      refine a_iconst dX11_refutesAt_15 ic_1 ?_
      cases h
      exact a_zret (h_Z1.1) dX11_refutesAt_16
/-! CoinLoopsModel.refutes(I)I -/
theorem dX11_refutes_0 : decode cX11_refutes 0 = .ok (.aload_n 0, 1) := by decide +kernel
theorem dX11_refutes_1 : decode cX11_refutes 1 = .ok (.iconst 0, 1) := by decide +kernel
theorem dX11_refutes_2 : decode cX11_refutes 2 = .ok (.putfield 156, 3) := by decide +kernel
theorem dX11_refutes_5 : decode cX11_refutes 5 = .ok (.aload_n 0, 1) := by decide +kernel
theorem dX11_refutes_6 : decode cX11_refutes 6 = .ok (.iload_n 1, 1) := by decide +kernel
theorem dX11_refutes_7 : decode cX11_refutes 7 = .ok (.i2l, 1) := by decide +kernel
theorem dX11_refutes_8 : decode cX11_refutes 8 = .ok (.lconst 0, 1) := by decide +kernel
theorem dX11_refutes_9 : decode cX11_refutes 9 = .ok (.ldc2_w 561, 3) := by decide +kernel
theorem dX11_refutes_12 : decode cX11_refutes 12 = .ok (.invokestatic 167, 3) := by decide +kernel
theorem dX11_refutes_15 : decode cX11_refutes 15 = .ok (.invokevirtual 578, 3) := by decide +kernel
theorem dX11_refutes_18 : decode cX11_refutes 18 = .ok (.ifCond .eq 6, 3) := by decide +kernel
theorem dX11_refutes_21 : decode cX11_refutes 21 = .ok (.bipush (-2), 2) := by decide +kernel
theorem dX11_refutes_23 : decode cX11_refutes 23 = .ok (.ireturn, 1) := by decide +kernel
theorem dX11_refutes_24 : decode cX11_refutes 24 = .ok (.iconst 0, 1) := by decide +kernel
theorem dX11_refutes_25 : decode cX11_refutes 25 = .ok (.istore_n 2, 1) := by decide +kernel
theorem dX11_refutes_26 : decode cX11_refutes 26 = .ok (.iload_n 2, 1) := by decide +kernel
theorem dX11_refutes_27 : decode cX11_refutes 27 = .ok (.aload_n 0, 1) := by decide +kernel
theorem dX11_refutes_28 : decode cX11_refutes 28 = .ok (.getfield 367, 3) := by decide +kernel
theorem dX11_refutes_31 : decode cX11_refutes 31 = .ok (.if_icmp .ge 28, 3) := by decide +kernel
theorem dX11_refutes_34 : decode cX11_refutes 34 = .ok (.aload_n 0, 1) := by decide +kernel
theorem dX11_refutes_35 : decode cX11_refutes 35 = .ok (.iload_n 2, 1) := by decide +kernel
theorem dX11_refutes_36 : decode cX11_refutes 36 = .ok (.invokevirtual 463, 3) := by decide +kernel
theorem dX11_refutes_39 : decode cX11_refutes 39 = .ok (.ifCond .eq 14, 3) := by decide +kernel
theorem dX11_refutes_42 : decode cX11_refutes 42 = .ok (.aload_n 0, 1) := by decide +kernel
theorem dX11_refutes_43 : decode cX11_refutes 43 = .ok (.iload_n 1, 1) := by decide +kernel
theorem dX11_refutes_44 : decode cX11_refutes 44 = .ok (.iload_n 2, 1) := by decide +kernel
theorem dX11_refutes_45 : decode cX11_refutes 45 = .ok (.invokevirtual 600, 3) := by decide +kernel
theorem dX11_refutes_48 : decode cX11_refutes 48 = .ok (.ifCond .eq 5, 3) := by decide +kernel
theorem dX11_refutes_51 : decode cX11_refutes 51 = .ok (.iload_n 2, 1) := by decide +kernel
theorem dX11_refutes_52 : decode cX11_refutes 52 = .ok (.ireturn, 1) := by decide +kernel
theorem dX11_refutes_53 : decode cX11_refutes 53 = .ok (.iinc 2 1, 3) := by decide +kernel
theorem dX11_refutes_56 : decode cX11_refutes 56 = .ok (.goto (-30), 3) := by decide +kernel
theorem dX11_refutes_59 : decode cX11_refutes 59 = .ok (.iconst (-1), 1) := by decide +kernel
theorem dX11_refutes_60 : decode cX11_refutes 60 = .ok (.ireturn, 1) := by decide +kernel
def mM_refutes_B26 (k26 : Int32 → Int32 → hI → Option (Int32 × hI)) (v1 : Int32) (v2 : Int32) (I : hI) : Option (Int32 × hI) :=
  if (I 0 41) ≤ v2 then
    some ((-1 : Int32), I)
  else
    ((mM_isInside v2 I).bind fun q1 =>
    if q1 = 0 then
      k26 v1 (v2 + (1 : Int32)) I
    else
      ((mM_refutesAt v1 v2 I).bind fun q2 =>
      if q2 = 0 then
        k26 v1 (v2 + (1 : Int32)) I
      else
        some (v2, I)))
set_option maxHeartbeats 4000000 in
theorem sM_refutes_B26 (d : Nat) (hd : 6 + 1 ≤ d) (k26 : Int32 → Int32 → hI → Option (Int32 × hI)) (hk26 : ∀ (v1 : Int32) (v2 : Int32) (I : hI) (J : hJ) (q : Int32 × hI), k26 v1 v2 I = some q → AW hFT cX11_refutes 3 (some .int) RX11 kdM d [(0, .ref 0), (1, .int v1), (2, .int v2)] 26 [] (I, J, RMm) (some (.int q.1)) (q.2, J, RMm)) (v1 : Int32) (v2 : Int32) (I : hI) (J : hJ) (q : Int32 × hI) (h : mM_refutes_B26 k26 v1 v2 I = some q) : AW hFT cX11_refutes 3 (some .int) RX11 kdM d [(0, .ref 0), (1, .int v1), (2, .int v2)] 26 [] (I, J, RMm) (some (.int q.1)) (q.2, J, RMm) := by
  obtain ⟨d0, rfl, hd0⟩ := h_mono hd
  unfold mM_refutes_B26 at h
  refine a_iload_n dX11_refutes_26 rfl rfl ?_
  refine a_aload_n dX11_refutes_27 rfl rfl ?_
  refine b_getI hK_11 km_0 (i := 41) rfl fl_11_367 rfl dX11_refutes_28 ?_
  refine a_icmp_ge (tgt := 59) dX11_refutes_31 (by decide) (fun c => ?_) (fun c => ?_)
  · replace h := h_iteT c h
    refine a_iconst dX11_refutes_59 ic_m1 ?_
    cases h
    exact a_iret dX11_refutes_60
  · replace h := h_iteF c h
    refine a_aload_n dX11_refutes_34 rfl rfl ?_
    refine a_iload_n dX11_refutes_35 rfl rfl ?_
    obtain ⟨q1, cq1, h⟩ := h_bindS h
    refine a_callV1 [] yy_X11_isInside ml_11_463 km_0 rfl (sM_isInside _ (by omega) v2 I J q1 cq1) rfl rfl (Nat.le_of_ble_eq_true rfl) dX11_refutes_36 ?_
    refine a_if_eq (tgt := 53) dX11_refutes_39 (by decide) (fun c => ?_) (fun c => ?_)
    · replace h := h_iteT c h
      refine b_iinc (lv' := [(2, .int (v2 + (1 : Int32))), (0, .ref 0), (1, .int v1)]) dX11_refutes_53 rfl ic_1 (by decide) rfl ?_
      refine a_goto (tgt := 26) dX11_refutes_56 (by decide) ?_
      refine a_sub (lv' := [(0, .ref 0), (1, .int v1), (2, .int (v2 + (1 : Int32)))]) [1, 2, 0] rfl ?_
      exact hk26 v1 (v2 + (1 : Int32)) I J _ h
    · replace h := h_iteF c h
      refine a_aload_n dX11_refutes_42 rfl rfl ?_
      refine a_iload_n dX11_refutes_43 rfl rfl ?_
      refine a_iload_n dX11_refutes_44 rfl rfl ?_
      obtain ⟨q2, cq2, h⟩ := h_bindS h
      refine a_callV1 [] yy_X11_refutesAt ml_11_600 km_0 rfl (sM_refutesAt _ (by omega) v1 v2 I J q2 cq2) rfl rfl (Nat.le_of_ble_eq_true rfl) dX11_refutes_45 ?_
      refine a_if_eq (tgt := 53) dX11_refutes_48 (by decide) (fun c => ?_) (fun c => ?_)
      · replace h := h_iteT c h
        refine b_iinc (lv' := [(2, .int (v2 + (1 : Int32))), (0, .ref 0), (1, .int v1)]) dX11_refutes_53 rfl ic_1 (by decide) rfl ?_
        refine a_goto (tgt := 26) dX11_refutes_56 (by decide) ?_
        refine a_sub (lv' := [(0, .ref 0), (1, .int v1), (2, .int (v2 + (1 : Int32)))]) [1, 2, 0] rfl ?_
        exact hk26 v1 (v2 + (1 : Int32)) I J _ h
      · replace h := h_iteF c h
        refine a_iload_n dX11_refutes_51 rfl rfl ?_
        cases h
        exact a_iret dX11_refutes_52
def mM_refutes_L26  : Nat → Int32 → Int32 → hI → Option (Int32 × hI)
  | 0 => fun _ _ _ => none
  | n + 1 => mM_refutes_B26 (mM_refutes_L26 n)
theorem sM_refutes_L26 (d : Nat) (hd : 6 + 1 ≤ d) : ∀ (n : Nat) (v1 : Int32) (v2 : Int32) (I : hI) (J : hJ) (q : Int32 × hI) (h : mM_refutes_L26 n v1 v2 I = some q), AW hFT cX11_refutes 3 (some .int) RX11 kdM d [(0, .ref 0), (1, .int v1), (2, .int v2)] 26 [] (I, J, RMm) (some (.int q.1)) (q.2, J, RMm)
  | 0, _, _, _, _, q, h => by cases h
  | n + 1, v1, v2, I, J, q, h => sM_refutes_B26 d hd (mM_refutes_L26 n) (sM_refutes_L26 d hd n) v1 v2 I J q h
def mM_refutes  (v1 : Int32) (I : hI) : Option (Int32 × hI) :=
  h_let (h_u I 0 0 (0 : Int32)) fun I1 =>
  (mM_isGuessRefused (mM_in v1.toInt64 (0 : Int64) (4 : Int64)) I1).bind fun q2 =>
  if q2.1 = 0 then
    mM_refutes_L26 hF v1 (0 : Int32) q2.2
  else
    some ((-2 : Int32), q2.2)
set_option maxHeartbeats 4000000 in
theorem sM_refutes (d : Nat) (hd : 6 + 1 ≤ d) (v1 : Int32) (I : hI) (J : hJ) (q : Int32 × hI) (h : mM_refutes v1 I = some q) : HMet hFT yX11_refutes cX11_refutes 3 (some .int) kdM d [.ref 0, .int v1] (I, J, RMm) (some (.int q.1)) (q.2, J, RMm) := by
  obtain ⟨d0, rfl, hd0⟩ := h_mono hd
  refine HMet.of (by decide) (Nat.le_of_ble_eq_true rfl) ?_
  show AW hFT cX11_refutes 3 (some .int) RX11 kdM (d0 + 1) [(0, .ref 0), (1, .int v1)] 0 [] (I, J, RMm) (some (.int q.1)) (q.2, J, RMm)
  unfold mM_refutes at h
  refine a_aload_n dX11_refutes_0 rfl rfl ?_
  refine a_iconst dX11_refutes_1 ic_0 ?_
  refine b_putI hK_11 km_0 (i := 0) rfl fl_11_156 rfl rfl (h_NI _) dX11_refutes_2 ?_
  obtain ⟨I1, eI1, h⟩ := h_letS h
  refine a_memI eI1 ?_
  refine a_aload_n dX11_refutes_5 rfl rfl ?_
  refine a_iload_n dX11_refutes_6 rfl rfl ?_
  refine a_i2l dX11_refutes_7 ?_
  refine a_lconst dX11_refutes_8 lc_0 ?_
  refine a_ldc2_w cn_11_561 dX11_refutes_9 ?_
  refine a_callS1 [.ref 0] yy_X11_in ml_11_167 (sM_in _ (by omega) v1.toInt64 (0 : Int64) (4 : Int64) I1 J _ rfl) rfl rfl (Nat.le_of_ble_eq_true rfl) dX11_refutes_12 ?_
  obtain ⟨q2, cq2, h⟩ := h_bindS h
  refine a_callV1 [] yy_X11_isGuessRefused ml_11_578 km_0 rfl (sM_isGuessRefused _ (by omega) (mM_in v1.toInt64 (0 : Int64) (4 : Int64)) I1 J q2 cq2) rfl rfl (Nat.le_of_ble_eq_true rfl) dX11_refutes_15 ?_
  refine a_if_eq (tgt := 24) dX11_refutes_18 (by decide) (fun c => ?_) (fun c => ?_)
  · replace h := h_iteT c h
    refine a_iconst dX11_refutes_24 ic_0 ?_
    refine a_istore_n (lv' := [(2, .int (0 : Int32)), (0, .ref 0), (1, .int v1)]) dX11_refutes_25 rfl (by decide) rfl ?_
    refine a_sub (lv' := [(0, .ref 0), (1, .int v1), (2, .int (0 : Int32))]) [1, 2, 0] rfl ?_
    exact sM_refutes_L26 (d0 + 1) (by omega) hF v1 (0 : Int32) q2.2 J _ h
  · replace h := h_iteF c h
    refine a_bipush dX11_refutes_21 bp_m2 ?_
    cases h
    exact a_iret dX11_refutes_23
/-! CoinLoopsModel.condition(JJJJ)V -/
theorem dX11_condition_0 : decode cX11_condition 0 = .ok (.aload_n 0, 1) := by decide +kernel
theorem dX11_condition_1 : decode cX11_condition 1 = .ok (.getfield 144, 3) := by decide +kernel
theorem dX11_condition_4 : decode cX11_condition 4 = .ok (.aload_n 0, 1) := by decide +kernel
theorem dX11_condition_5 : decode cX11_condition 5 = .ok (.getfield 603, 3) := by decide +kernel
theorem dX11_condition_8 : decode cX11_condition 8 = .ok (.lload_n 1, 1) := by decide +kernel
theorem dX11_condition_9 : decode cX11_condition 9 = .ok (.lastore, 1) := by decide +kernel
theorem dX11_condition_10 : decode cX11_condition 10 = .ok (.aload_n 0, 1) := by decide +kernel
theorem dX11_condition_11 : decode cX11_condition 11 = .ok (.getfield 147, 3) := by decide +kernel
theorem dX11_condition_14 : decode cX11_condition 14 = .ok (.aload_n 0, 1) := by decide +kernel
theorem dX11_condition_15 : decode cX11_condition 15 = .ok (.getfield 603, 3) := by decide +kernel
theorem dX11_condition_18 : decode cX11_condition 18 = .ok (.lload_n 3, 1) := by decide +kernel
theorem dX11_condition_19 : decode cX11_condition 19 = .ok (.lastore, 1) := by decide +kernel
theorem dX11_condition_20 : decode cX11_condition 20 = .ok (.aload_n 0, 1) := by decide +kernel
theorem dX11_condition_21 : decode cX11_condition 21 = .ok (.getfield 150, 3) := by decide +kernel
theorem dX11_condition_24 : decode cX11_condition 24 = .ok (.aload_n 0, 1) := by decide +kernel
theorem dX11_condition_25 : decode cX11_condition 25 = .ok (.getfield 603, 3) := by decide +kernel
theorem dX11_condition_28 : decode cX11_condition 28 = .ok (.lload 5, 2) := by decide +kernel
theorem dX11_condition_30 : decode cX11_condition 30 = .ok (.lastore, 1) := by decide +kernel
theorem dX11_condition_31 : decode cX11_condition 31 = .ok (.aload_n 0, 1) := by decide +kernel
theorem dX11_condition_32 : decode cX11_condition 32 = .ok (.getfield 153, 3) := by decide +kernel
theorem dX11_condition_35 : decode cX11_condition 35 = .ok (.aload_n 0, 1) := by decide +kernel
theorem dX11_condition_36 : decode cX11_condition 36 = .ok (.getfield 603, 3) := by decide +kernel
theorem dX11_condition_39 : decode cX11_condition 39 = .ok (.lload 7, 2) := by decide +kernel
theorem dX11_condition_41 : decode cX11_condition 41 = .ok (.lastore, 1) := by decide +kernel
theorem dX11_condition_42 : decode cX11_condition 42 = .ok (.aload_n 0, 1) := by decide +kernel
theorem dX11_condition_43 : decode cX11_condition 43 = .ok (.dup, 1) := by decide +kernel
theorem dX11_condition_44 : decode cX11_condition 44 = .ok (.getfield 603, 3) := by decide +kernel
theorem dX11_condition_47 : decode cX11_condition 47 = .ok (.iconst 1, 1) := by decide +kernel
theorem dX11_condition_48 : decode cX11_condition 48 = .ok (.iadd, 1) := by decide +kernel
theorem dX11_condition_49 : decode cX11_condition 49 = .ok (.putfield 603, 3) := by decide +kernel
theorem dX11_condition_52 : decode cX11_condition 52 = .ok (.return_, 1) := by decide +kernel
def mM_condition  (v1 : Int64) (v3 : Int64) (v5 : Int64) (v7 : Int64) (I : hI) (J : hJ) : Option (hI × hJ) :=
  h_g (h_in (I 0 88) 100) <|
  h_let (h_u J 45 (I 0 88).toNatClampNeg v1) fun J2 =>
  h_g (h_in (I 0 88) 100) <|
  h_let (h_u J2 46 (I 0 88).toNatClampNeg v3) fun J4 =>
  h_g (h_in (I 0 88) 100) <|
  h_let (h_u J4 47 (I 0 88).toNatClampNeg v5) fun J6 =>
  h_g (h_in (I 0 88) 100) <|
  h_let (h_u J6 48 (I 0 88).toNatClampNeg v7) fun J8 =>
  h_let (h_u I 0 88 ((I 0 88) + (1 : Int32))) fun I9 =>
  some (I9, J8)
set_option maxHeartbeats 4000000 in
theorem sM_condition (d : Nat) (hd : 0 ≤ d) (v1 : Int64) (v3 : Int64) (v5 : Int64) (v7 : Int64) (I : hI) (J : hJ) (q : hI × hJ) (h : mM_condition v1 v3 v5 v7 I J = some q) : HMet hFT yX11_condition cX11_condition 9 none kdM d [.ref 0, .long v1, .long v3, .long v5, .long v7] (I, J, RMm) none (q.1, q.2, RMm) := by
  refine HMet.of (by decide) (Nat.le_of_ble_eq_true rfl) ?_
  show AW hFT cX11_condition 9 none RX11 kdM d [(0, .ref 0), (1, .long v1), (3, .long v3), (5, .long v5), (7, .long v7)] 0 [] (I, J, RMm) none (q.1, q.2, RMm)
  unfold mM_condition at h
  refine a_aload_n dX11_condition_0 rfl rfl ?_
  refine b_getR hK_11 km_0 (i := 84) rfl fl_11_144 rfl rmm_84 dX11_condition_1 ?_
  refine a_aload_n dX11_condition_4 rfl rfl ?_
  refine b_getI hK_11 km_0 (i := 88) rfl fl_11_603 rfl dX11_condition_5 ?_
  refine a_lload_n dX11_condition_8 rfl rfl ?_
  obtain ⟨g1, h⟩ := h_gS h
  refine b_lastore km_45 (h_inV g1) dX11_condition_9 ?_
  obtain ⟨J2, eJ2, h⟩ := h_letS h
  refine a_memJ eJ2 ?_
  refine a_aload_n dX11_condition_10 rfl rfl ?_
  refine b_getR hK_11 km_0 (i := 85) rfl fl_11_147 rfl rmm_85 dX11_condition_11 ?_
  refine a_aload_n dX11_condition_14 rfl rfl ?_
  refine b_getI hK_11 km_0 (i := 88) rfl fl_11_603 rfl dX11_condition_15 ?_
  refine a_lload_n dX11_condition_18 rfl rfl ?_
  obtain ⟨g3, h⟩ := h_gS h
  refine b_lastore km_46 (h_inV g3) dX11_condition_19 ?_
  obtain ⟨J4, eJ4, h⟩ := h_letS h
  refine a_memJ eJ4 ?_
  refine a_aload_n dX11_condition_20 rfl rfl ?_
  refine b_getR hK_11 km_0 (i := 86) rfl fl_11_150 rfl rmm_86 dX11_condition_21 ?_
  refine a_aload_n dX11_condition_24 rfl rfl ?_
  refine b_getI hK_11 km_0 (i := 88) rfl fl_11_603 rfl dX11_condition_25 ?_
  refine a_lload dX11_condition_28 rfl ?_
  obtain ⟨g5, h⟩ := h_gS h
  refine b_lastore km_47 (h_inV g5) dX11_condition_30 ?_
  obtain ⟨J6, eJ6, h⟩ := h_letS h
  refine a_memJ eJ6 ?_
  refine a_aload_n dX11_condition_31 rfl rfl ?_
  refine b_getR hK_11 km_0 (i := 87) rfl fl_11_153 rfl rmm_87 dX11_condition_32 ?_
  refine a_aload_n dX11_condition_35 rfl rfl ?_
  refine b_getI hK_11 km_0 (i := 88) rfl fl_11_603 rfl dX11_condition_36 ?_
  refine a_lload dX11_condition_39 rfl ?_
  obtain ⟨g7, h⟩ := h_gS h
  refine b_lastore km_48 (h_inV g7) dX11_condition_41 ?_
  obtain ⟨J8, eJ8, h⟩ := h_letS h
  refine a_memJ eJ8 ?_
  refine a_aload_n dX11_condition_42 rfl rfl ?_
  refine a_dup dX11_condition_43 rfl ?_
  refine b_getI hK_11 km_0 (i := 88) rfl fl_11_603 rfl dX11_condition_44 ?_
  refine a_iconst dX11_condition_47 ic_1 ?_
  refine a_iadd dX11_condition_48 ?_
  refine b_putI hK_11 km_0 (i := 88) rfl fl_11_603 rfl rfl (h_NI _) dX11_condition_49 ?_
  obtain ⟨I9, eI9, h⟩ := h_letS h
  refine a_memI eI9 ?_
  cases h
  exact a_vret dX11_condition_52
/-! CoinLoopsModel.laysConditions()V -/
theorem dX11_laysConditions_0 : decode cX11_laysConditions 0 = .ok (.aload_n 0, 1) := by decide +kernel
theorem dX11_laysConditions_1 : decode cX11_laysConditions 1 = .ok (.iconst 0, 1) := by decide +kernel
theorem dX11_laysConditions_2 : decode cX11_laysConditions 2 = .ok (.putfield 603, 3) := by decide +kernel
theorem dX11_laysConditions_5 : decode cX11_laysConditions 5 = .ok (.iconst 0, 1) := by decide +kernel
theorem dX11_laysConditions_6 : decode cX11_laysConditions 6 = .ok (.istore_n 1, 1) := by decide +kernel
theorem dX11_laysConditions_7 : decode cX11_laysConditions 7 = .ok (.iload_n 1, 1) := by decide +kernel
theorem dX11_laysConditions_8 : decode cX11_laysConditions 8 = .ok (.aload_n 0, 1) := by decide +kernel
theorem dX11_laysConditions_9 : decode cX11_laysConditions 9 = .ok (.getfield 367, 3) := by decide +kernel
theorem dX11_laysConditions_12 : decode cX11_laysConditions 12 = .ok (.if_icmp .ge 191, 3) := by decide +kernel
theorem dX11_laysConditions_15 : decode cX11_laysConditions 15 = .ok (.aload_n 0, 1) := by decide +kernel
theorem dX11_laysConditions_16 : decode cX11_laysConditions 16 = .ok (.iload_n 1, 1) := by decide +kernel
theorem dX11_laysConditions_17 : decode cX11_laysConditions 17 = .ok (.invokevirtual 463, 3) := by decide +kernel
theorem dX11_laysConditions_20 : decode cX11_laysConditions 20 = .ok (.ifCond .eq 177, 3) := by decide +kernel
theorem dX11_laysConditions_23 : decode cX11_laysConditions 23 = .ok (.aload_n 0, 1) := by decide +kernel
theorem dX11_laysConditions_24 : decode cX11_laysConditions 24 = .ok (.iload_n 1, 1) := by decide +kernel
theorem dX11_laysConditions_25 : decode cX11_laysConditions 25 = .ok (.aload_n 0, 1) := by decide +kernel
theorem dX11_laysConditions_26 : decode cX11_laysConditions 26 = .ok (.getfield 361, 3) := by decide +kernel
theorem dX11_laysConditions_29 : decode cX11_laysConditions 29 = .ok (.irem, 1) := by decide +kernel
theorem dX11_laysConditions_30 : decode cX11_laysConditions 30 = .ok (.i2l, 1) := by decide +kernel
theorem dX11_laysConditions_31 : decode cX11_laysConditions 31 = .ok (.iload_n 1, 1) := by decide +kernel
theorem dX11_laysConditions_32 : decode cX11_laysConditions 32 = .ok (.aload_n 0, 1) := by decide +kernel
theorem dX11_laysConditions_33 : decode cX11_laysConditions 33 = .ok (.getfield 361, 3) := by decide +kernel
theorem dX11_laysConditions_36 : decode cX11_laysConditions 36 = .ok (.idiv, 1) := by decide +kernel
theorem dX11_laysConditions_37 : decode cX11_laysConditions 37 = .ok (.i2l, 1) := by decide +kernel
theorem dX11_laysConditions_38 : decode cX11_laysConditions 38 = .ok (.lconst 1, 1) := by decide +kernel
theorem dX11_laysConditions_39 : decode cX11_laysConditions 39 = .ok (.lconst 0, 1) := by decide +kernel
theorem dX11_laysConditions_40 : decode cX11_laysConditions 40 = .ok (.invokevirtual 606, 3) := by decide +kernel
theorem dX11_laysConditions_43 : decode cX11_laysConditions 43 = .ok (.iconst 0, 1) := by decide +kernel
theorem dX11_laysConditions_44 : decode cX11_laysConditions 44 = .ok (.istore_n 2, 1) := by decide +kernel
theorem dX11_laysConditions_45 : decode cX11_laysConditions 45 = .ok (.iload_n 2, 1) := by decide +kernel
theorem dX11_laysConditions_46 : decode cX11_laysConditions 46 = .ok (.aload_n 0, 1) := by decide +kernel
theorem dX11_laysConditions_47 : decode cX11_laysConditions 47 = .ok (.getfield 83, 3) := by decide +kernel
theorem dX11_laysConditions_50 : decode cX11_laysConditions 50 = .ok (.iload_n 1, 1) := by decide +kernel
theorem dX11_laysConditions_51 : decode cX11_laysConditions 51 = .ok (.iaload, 1) := by decide +kernel
theorem dX11_laysConditions_52 : decode cX11_laysConditions 52 = .ok (.if_icmp .ge 145, 3) := by decide +kernel
theorem dX11_laysConditions_55 : decode cX11_laysConditions 55 = .ok (.aload_n 0, 1) := by decide +kernel
theorem dX11_laysConditions_56 : decode cX11_laysConditions 56 = .ok (.iload_n 1, 1) := by decide +kernel
theorem dX11_laysConditions_57 : decode cX11_laysConditions 57 = .ok (.iload_n 2, 1) := by decide +kernel
theorem dX11_laysConditions_58 : decode cX11_laysConditions 58 = .ok (.invokevirtual 433, 3) := by decide +kernel
theorem dX11_laysConditions_61 : decode cX11_laysConditions 61 = .ok (.istore_n 3, 1) := by decide +kernel
theorem dX11_laysConditions_62 : decode cX11_laysConditions 62 = .ok (.iconst 4, 1) := by decide +kernel
theorem dX11_laysConditions_63 : decode cX11_laysConditions 63 = .ok (.iload_n 1, 1) := by decide +kernel
theorem dX11_laysConditions_64 : decode cX11_laysConditions 64 = .ok (.aload_n 0, 1) := by decide +kernel
theorem dX11_laysConditions_65 : decode cX11_laysConditions 65 = .ok (.getfield 361, 3) := by decide +kernel
theorem dX11_laysConditions_68 : decode cX11_laysConditions 68 = .ok (.irem, 1) := by decide +kernel
theorem dX11_laysConditions_69 : decode cX11_laysConditions 69 = .ok (.imul, 1) := by decide +kernel
theorem dX11_laysConditions_70 : decode cX11_laysConditions 70 = .ok (.i2l, 1) := by decide +kernel
theorem dX11_laysConditions_71 : decode cX11_laysConditions 71 = .ok (.lstore 4, 2) := by decide +kernel
theorem dX11_laysConditions_73 : decode cX11_laysConditions 73 = .ok (.iconst 4, 1) := by decide +kernel
theorem dX11_laysConditions_74 : decode cX11_laysConditions 74 = .ok (.iload_n 1, 1) := by decide +kernel
theorem dX11_laysConditions_75 : decode cX11_laysConditions 75 = .ok (.aload_n 0, 1) := by decide +kernel
theorem dX11_laysConditions_76 : decode cX11_laysConditions 76 = .ok (.getfield 361, 3) := by decide +kernel
theorem dX11_laysConditions_79 : decode cX11_laysConditions 79 = .ok (.idiv, 1) := by decide +kernel
theorem dX11_laysConditions_80 : decode cX11_laysConditions 80 = .ok (.imul, 1) := by decide +kernel
theorem dX11_laysConditions_81 : decode cX11_laysConditions 81 = .ok (.i2l, 1) := by decide +kernel
theorem dX11_laysConditions_82 : decode cX11_laysConditions 82 = .ok (.lstore 6, 2) := by decide +kernel
theorem dX11_laysConditions_84 : decode cX11_laysConditions 84 = .ok (.ldc2_w 561, 3) := by decide +kernel
theorem dX11_laysConditions_87 : decode cX11_laysConditions 87 = .ok (.lstore 8, 2) := by decide +kernel
theorem dX11_laysConditions_89 : decode cX11_laysConditions 89 = .ok (.iconst 0, 1) := by decide +kernel
theorem dX11_laysConditions_90 : decode cX11_laysConditions 90 = .ok (.istore 10, 2) := by decide +kernel
theorem dX11_laysConditions_92 : decode cX11_laysConditions 92 = .ok (.iload 10, 2) := by decide +kernel
theorem dX11_laysConditions_94 : decode cX11_laysConditions 94 = .ok (.aload_n 0, 1) := by decide +kernel
theorem dX11_laysConditions_95 : decode cX11_laysConditions 95 = .ok (.getfield 367, 3) := by decide +kernel
theorem dX11_laysConditions_98 : decode cX11_laysConditions 98 = .ok (.if_icmp .ge 76, 3) := by decide +kernel
theorem dX11_laysConditions_101 : decode cX11_laysConditions 101 = .ok (.aload_n 0, 1) := by decide +kernel
theorem dX11_laysConditions_102 : decode cX11_laysConditions 102 = .ok (.iload 10, 2) := by decide +kernel
theorem dX11_laysConditions_104 : decode cX11_laysConditions 104 = .ok (.invokevirtual 463, 3) := by decide +kernel
theorem dX11_laysConditions_107 : decode cX11_laysConditions 107 = .ok (.ifCond .eq 18, 3) := by decide +kernel
theorem dX11_laysConditions_110 : decode cX11_laysConditions 110 = .ok (.aload_n 0, 1) := by decide +kernel
theorem dX11_laysConditions_111 : decode cX11_laysConditions 111 = .ok (.getfield 95, 3) := by decide +kernel
theorem dX11_laysConditions_114 : decode cX11_laysConditions 114 = .ok (.bipush 10, 2) := by decide +kernel
theorem dX11_laysConditions_116 : decode cX11_laysConditions 116 = .ok (.iload_n 3, 1) := by decide +kernel
theorem dX11_laysConditions_117 : decode cX11_laysConditions 117 = .ok (.imul, 1) := by decide +kernel
theorem dX11_laysConditions_118 : decode cX11_laysConditions 118 = .ok (.iload 10, 2) := by decide +kernel
theorem dX11_laysConditions_120 : decode cX11_laysConditions 120 = .ok (.iadd, 1) := by decide +kernel
theorem dX11_laysConditions_121 : decode cX11_laysConditions 121 = .ok (.iaload, 1) := by decide +kernel
theorem dX11_laysConditions_122 : decode cX11_laysConditions 122 = .ok (.goto 4, 3) := by decide +kernel
theorem dX11_laysConditions_125 : decode cX11_laysConditions 125 = .ok (.iconst 0, 1) := by decide +kernel
theorem dX11_laysConditions_126 : decode cX11_laysConditions 126 = .ok (.istore 11, 2) := by decide +kernel
theorem dX11_laysConditions_128 : decode cX11_laysConditions 128 = .ok (.lload 4, 2) := by decide +kernel
theorem dX11_laysConditions_130 : decode cX11_laysConditions 130 = .ok (.iload 11, 2) := by decide +kernel
theorem dX11_laysConditions_132 : decode cX11_laysConditions 132 = .ok (.iload 10, 2) := by decide +kernel
theorem dX11_laysConditions_134 : decode cX11_laysConditions 134 = .ok (.aload_n 0, 1) := by decide +kernel
theorem dX11_laysConditions_135 : decode cX11_laysConditions 135 = .ok (.getfield 361, 3) := by decide +kernel
theorem dX11_laysConditions_138 : decode cX11_laysConditions 138 = .ok (.irem, 1) := by decide +kernel
theorem dX11_laysConditions_139 : decode cX11_laysConditions 139 = .ok (.imul, 1) := by decide +kernel
theorem dX11_laysConditions_140 : decode cX11_laysConditions 140 = .ok (.i2l, 1) := by decide +kernel
theorem dX11_laysConditions_141 : decode cX11_laysConditions 141 = .ok (.lsub, 1) := by decide +kernel
theorem dX11_laysConditions_142 : decode cX11_laysConditions 142 = .ok (.lstore 4, 2) := by decide +kernel
theorem dX11_laysConditions_144 : decode cX11_laysConditions 144 = .ok (.lload 6, 2) := by decide +kernel
theorem dX11_laysConditions_146 : decode cX11_laysConditions 146 = .ok (.iload 11, 2) := by decide +kernel
theorem dX11_laysConditions_148 : decode cX11_laysConditions 148 = .ok (.iload 10, 2) := by decide +kernel
theorem dX11_laysConditions_150 : decode cX11_laysConditions 150 = .ok (.aload_n 0, 1) := by decide +kernel
theorem dX11_laysConditions_151 : decode cX11_laysConditions 151 = .ok (.getfield 361, 3) := by decide +kernel
theorem dX11_laysConditions_154 : decode cX11_laysConditions 154 = .ok (.idiv, 1) := by decide +kernel
theorem dX11_laysConditions_155 : decode cX11_laysConditions 155 = .ok (.imul, 1) := by decide +kernel
theorem dX11_laysConditions_156 : decode cX11_laysConditions 156 = .ok (.i2l, 1) := by decide +kernel
theorem dX11_laysConditions_157 : decode cX11_laysConditions 157 = .ok (.lsub, 1) := by decide +kernel
theorem dX11_laysConditions_158 : decode cX11_laysConditions 158 = .ok (.lstore 6, 2) := by decide +kernel
theorem dX11_laysConditions_160 : decode cX11_laysConditions 160 = .ok (.lload 8, 2) := by decide +kernel
theorem dX11_laysConditions_162 : decode cX11_laysConditions 162 = .ok (.iload 11, 2) := by decide +kernel
theorem dX11_laysConditions_164 : decode cX11_laysConditions 164 = .ok (.i2l, 1) := by decide +kernel
theorem dX11_laysConditions_165 : decode cX11_laysConditions 165 = .ok (.lsub, 1) := by decide +kernel
theorem dX11_laysConditions_166 : decode cX11_laysConditions 166 = .ok (.lstore 8, 2) := by decide +kernel
theorem dX11_laysConditions_168 : decode cX11_laysConditions 168 = .ok (.iinc 10 1, 3) := by decide +kernel
theorem dX11_laysConditions_171 : decode cX11_laysConditions 171 = .ok (.goto (-79), 3) := by decide +kernel
theorem dX11_laysConditions_174 : decode cX11_laysConditions 174 = .ok (.aload_n 0, 1) := by decide +kernel
theorem dX11_laysConditions_175 : decode cX11_laysConditions 175 = .ok (.lload 4, 2) := by decide +kernel
theorem dX11_laysConditions_177 : decode cX11_laysConditions 177 = .ok (.lload 6, 2) := by decide +kernel
theorem dX11_laysConditions_179 : decode cX11_laysConditions 179 = .ok (.lload 8, 2) := by decide +kernel
theorem dX11_laysConditions_181 : decode cX11_laysConditions 181 = .ok (.aload_n 0, 1) := by decide +kernel
theorem dX11_laysConditions_182 : decode cX11_laysConditions 182 = .ok (.getfield 89, 3) := by decide +kernel
theorem dX11_laysConditions_185 : decode cX11_laysConditions 185 = .ok (.iload_n 3, 1) := by decide +kernel
theorem dX11_laysConditions_186 : decode cX11_laysConditions 186 = .ok (.iaload, 1) := by decide +kernel
theorem dX11_laysConditions_187 : decode cX11_laysConditions 187 = .ok (.i2l, 1) := by decide +kernel
theorem dX11_laysConditions_188 : decode cX11_laysConditions 188 = .ok (.invokevirtual 606, 3) := by decide +kernel
theorem dX11_laysConditions_191 : decode cX11_laysConditions 191 = .ok (.iinc 2 1, 3) := by decide +kernel
theorem dX11_laysConditions_194 : decode cX11_laysConditions 194 = .ok (.goto (-149), 3) := by decide +kernel
theorem dX11_laysConditions_197 : decode cX11_laysConditions 197 = .ok (.iinc 1 1, 3) := by decide +kernel
theorem dX11_laysConditions_200 : decode cX11_laysConditions 200 = .ok (.goto (-193), 3) := by decide +kernel
theorem dX11_laysConditions_203 : decode cX11_laysConditions 203 = .ok (.return_, 1) := by decide +kernel
def mM_laysConditions_126 (k7 : Int32 → hI → hJ → Option (hI × hJ)) (k45 : Int32 → Int32 → hI → hJ → Option (hI × hJ)) (k92 : Int32 → Int32 → Int32 → Int64 → Int64 → Int64 → Int32 → hI → hJ → Option (hI × hJ)) (v1 : Int32) (v2 : Int32) (v3 : Int32) (v4 : Int64) (v6 : Int64) (v8 : Int64) (v10 : Int32) (vs0 : Int32) (I : hI) (J : hJ) : Option (hI × hJ) :=
  h_g (h_nz (I 0 39)) <|
  h_let (v4 - ((vs0 * (v10 - v10 / (I 0 39) * (I 0 39))).toInt64)) fun v4x1 =>
  h_g (h_nz (I 0 39)) <|
  h_let (v6 - ((vs0 * (v10 / (I 0 39))).toInt64)) fun v6x3 =>
  h_let (v8 - vs0.toInt64) fun v8x4 =>
  k92 v1 v2 v3 v4x1 v6x3 v8x4 (v10 + (1 : Int32)) I J
set_option maxHeartbeats 4000000 in
theorem sM_laysConditions_126 (d : Nat) (hd : 0 + 1 ≤ d) (k7 : Int32 → hI → hJ → Option (hI × hJ)) (hk7 : ∀ (v1 : Int32) (I : hI) (J : hJ) (q : hI × hJ), k7 v1 I J = some q → AW hFT cX11_laysConditions 12 none RX11 kdM d [(0, .ref 0), (1, .int v1)] 7 [] (I, J, RMm) none (q.1, q.2, RMm)) (k45 : Int32 → Int32 → hI → hJ → Option (hI × hJ)) (hk45 : ∀ (v1 : Int32) (v2 : Int32) (I : hI) (J : hJ) (q : hI × hJ), k45 v1 v2 I J = some q → AW hFT cX11_laysConditions 12 none RX11 kdM d [(0, .ref 0), (1, .int v1), (2, .int v2)] 45 [] (I, J, RMm) none (q.1, q.2, RMm)) (k92 : Int32 → Int32 → Int32 → Int64 → Int64 → Int64 → Int32 → hI → hJ → Option (hI × hJ)) (hk92 : ∀ (v1 : Int32) (v2 : Int32) (v3 : Int32) (v4 : Int64) (v6 : Int64) (v8 : Int64) (v10 : Int32) (I : hI) (J : hJ) (q : hI × hJ), k92 v1 v2 v3 v4 v6 v8 v10 I J = some q → AW hFT cX11_laysConditions 12 none RX11 kdM d [(0, .ref 0), (1, .int v1), (2, .int v2), (3, .int v3), (4, .long v4), (6, .long v6), (8, .long v8), (10, .int v10)] 92 [] (I, J, RMm) none (q.1, q.2, RMm)) (v1 : Int32) (v2 : Int32) (v3 : Int32) (v4 : Int64) (v6 : Int64) (v8 : Int64) (v10 : Int32) (vs0 : Int32) (I : hI) (J : hJ) (q : hI × hJ) (h : mM_laysConditions_126 k7 k45 k92 v1 v2 v3 v4 v6 v8 v10 vs0 I J = some q) : AW hFT cX11_laysConditions 12 none RX11 kdM d [(0, .ref 0), (1, .int v1), (2, .int v2), (3, .int v3), (4, .long v4), (6, .long v6), (8, .long v8), (10, .int v10)] 126 [.int vs0] (I, J, RMm) none (q.1, q.2, RMm) := by
  obtain ⟨d0, rfl, hd0⟩ := h_mono hd
  unfold mM_laysConditions_126 at h
  refine a_istore (lv' := [(11, .int vs0), (0, .ref 0), (1, .int v1), (2, .int v2), (3, .int v3), (4, .long v4), (6, .long v6), (8, .long v8), (10, .int v10)]) dX11_laysConditions_126 (by decide) rfl ?_
  refine a_lload dX11_laysConditions_128 rfl ?_
  refine a_iload dX11_laysConditions_130 rfl ?_
  refine a_iload dX11_laysConditions_132 rfl ?_
  refine a_aload_n dX11_laysConditions_134 rfl rfl ?_
  refine b_getI hK_11 km_0 (i := 39) rfl fl_11_361 rfl dX11_laysConditions_135 ?_
  obtain ⟨g1, h⟩ := h_gS h
  refine a_irem dX11_laysConditions_138 (h_nzV g1) ?_
  refine a_imul dX11_laysConditions_139 ?_
  refine a_i2l dX11_laysConditions_140 ?_
  refine a_lsub dX11_laysConditions_141 ?_
  obtain ⟨v4x1, ev4x1, h⟩ := h_letS h
  refine a_topJ ev4x1 ?_
  refine a_lstore (lv' := [(4, .long v4x1), (11, .int vs0), (0, .ref 0), (1, .int v1), (2, .int v2), (3, .int v3), (6, .long v6), (8, .long v8), (10, .int v10)]) dX11_laysConditions_142 (by decide) rfl ?_
  refine a_lload dX11_laysConditions_144 rfl ?_
  refine a_iload dX11_laysConditions_146 rfl ?_
  refine a_iload dX11_laysConditions_148 rfl ?_
  refine a_aload_n dX11_laysConditions_150 rfl rfl ?_
  refine b_getI hK_11 km_0 (i := 39) rfl fl_11_361 rfl dX11_laysConditions_151 ?_
  obtain ⟨g3, h⟩ := h_gS h
  refine a_idiv dX11_laysConditions_154 (h_nzV g3) ?_
  refine a_imul dX11_laysConditions_155 ?_
  refine a_i2l dX11_laysConditions_156 ?_
  refine a_lsub dX11_laysConditions_157 ?_
  obtain ⟨v6x3, ev6x3, h⟩ := h_letS h
  refine a_topJ ev6x3 ?_
  refine a_lstore (lv' := [(6, .long v6x3), (4, .long v4x1), (11, .int vs0), (0, .ref 0), (1, .int v1), (2, .int v2), (3, .int v3), (8, .long v8), (10, .int v10)]) dX11_laysConditions_158 (by decide) rfl ?_
  refine a_lload dX11_laysConditions_160 rfl ?_
  refine a_iload dX11_laysConditions_162 rfl ?_
  refine a_i2l dX11_laysConditions_164 ?_
  refine a_lsub dX11_laysConditions_165 ?_
  obtain ⟨v8x4, ev8x4, h⟩ := h_letS h
  refine a_topJ ev8x4 ?_
  refine a_lstore (lv' := [(8, .long v8x4), (6, .long v6x3), (4, .long v4x1), (11, .int vs0), (0, .ref 0), (1, .int v1), (2, .int v2), (3, .int v3), (10, .int v10)]) dX11_laysConditions_166 (by decide) rfl ?_
  refine b_iinc (lv' := [(10, .int (v10 + (1 : Int32))), (8, .long v8x4), (6, .long v6x3), (4, .long v4x1), (11, .int vs0), (0, .ref 0), (1, .int v1), (2, .int v2), (3, .int v3)]) dX11_laysConditions_168 rfl ic_1 (by decide) rfl ?_
  refine a_goto (tgt := 92) dX11_laysConditions_171 (by decide) ?_
  refine a_sub (lv' := [(0, .ref 0), (1, .int v1), (2, .int v2), (3, .int v3), (4, .long v4x1), (6, .long v6x3), (8, .long v8x4), (10, .int (v10 + (1 : Int32)))]) [5, 6, 7, 8, 3, 2, 1, 0] rfl ?_
  exact hk92 v1 v2 v3 v4x1 v6x3 v8x4 (v10 + (1 : Int32)) I J _ h
def mM_laysConditions_B92 (k7 : Int32 → hI → hJ → Option (hI × hJ)) (k45 : Int32 → Int32 → hI → hJ → Option (hI × hJ)) (k92 : Int32 → Int32 → Int32 → Int64 → Int64 → Int64 → Int32 → hI → hJ → Option (hI × hJ)) (v1 : Int32) (v2 : Int32) (v3 : Int32) (v4 : Int64) (v6 : Int64) (v8 : Int64) (v10 : Int32) (I : hI) (J : hJ) : Option (hI × hJ) :=
  if (I 0 41) ≤ v10 then
    (h_g (h_in v3 80) <|
    (mM_condition v4 v6 v8 ((I 27 v3.toNatClampNeg).toInt64) I J).bind fun q2 =>
    k45 v1 (v2 + (1 : Int32)) q2.1 q2.2)
  else
    ((mM_isInside v10 I).bind fun q1 =>
    if q1 = 0 then
      mM_laysConditions_126 k7 k45 k92 v1 v2 v3 v4 v6 v8 v10 (0 : Int32) I J
    else
      (h_g (h_in (((10 : Int32) * v3) + v10) 800) <|
      mM_laysConditions_126 k7 k45 k92 v1 v2 v3 v4 v6 v8 v10 (I 29 (((10 : Int32) * v3) + v10).toNatClampNeg) I J))
set_option maxHeartbeats 4000000 in
theorem sM_laysConditions_B92 (d : Nat) (hd : 0 + 1 ≤ d) (k7 : Int32 → hI → hJ → Option (hI × hJ)) (hk7 : ∀ (v1 : Int32) (I : hI) (J : hJ) (q : hI × hJ), k7 v1 I J = some q → AW hFT cX11_laysConditions 12 none RX11 kdM d [(0, .ref 0), (1, .int v1)] 7 [] (I, J, RMm) none (q.1, q.2, RMm)) (k45 : Int32 → Int32 → hI → hJ → Option (hI × hJ)) (hk45 : ∀ (v1 : Int32) (v2 : Int32) (I : hI) (J : hJ) (q : hI × hJ), k45 v1 v2 I J = some q → AW hFT cX11_laysConditions 12 none RX11 kdM d [(0, .ref 0), (1, .int v1), (2, .int v2)] 45 [] (I, J, RMm) none (q.1, q.2, RMm)) (k92 : Int32 → Int32 → Int32 → Int64 → Int64 → Int64 → Int32 → hI → hJ → Option (hI × hJ)) (hk92 : ∀ (v1 : Int32) (v2 : Int32) (v3 : Int32) (v4 : Int64) (v6 : Int64) (v8 : Int64) (v10 : Int32) (I : hI) (J : hJ) (q : hI × hJ), k92 v1 v2 v3 v4 v6 v8 v10 I J = some q → AW hFT cX11_laysConditions 12 none RX11 kdM d [(0, .ref 0), (1, .int v1), (2, .int v2), (3, .int v3), (4, .long v4), (6, .long v6), (8, .long v8), (10, .int v10)] 92 [] (I, J, RMm) none (q.1, q.2, RMm)) (v1 : Int32) (v2 : Int32) (v3 : Int32) (v4 : Int64) (v6 : Int64) (v8 : Int64) (v10 : Int32) (I : hI) (J : hJ) (q : hI × hJ) (h : mM_laysConditions_B92 k7 k45 k92 v1 v2 v3 v4 v6 v8 v10 I J = some q) : AW hFT cX11_laysConditions 12 none RX11 kdM d [(0, .ref 0), (1, .int v1), (2, .int v2), (3, .int v3), (4, .long v4), (6, .long v6), (8, .long v8), (10, .int v10)] 92 [] (I, J, RMm) none (q.1, q.2, RMm) := by
  obtain ⟨d0, rfl, hd0⟩ := h_mono hd
  unfold mM_laysConditions_B92 at h
  refine a_iload dX11_laysConditions_92 rfl ?_
  refine a_aload_n dX11_laysConditions_94 rfl rfl ?_
  refine b_getI hK_11 km_0 (i := 41) rfl fl_11_367 rfl dX11_laysConditions_95 ?_
  refine a_icmp_ge (tgt := 174) dX11_laysConditions_98 (by decide) (fun c => ?_) (fun c => ?_)
  · replace h := h_iteT c h
    refine a_aload_n dX11_laysConditions_174 rfl rfl ?_
    refine a_lload dX11_laysConditions_175 rfl ?_
    refine a_lload dX11_laysConditions_177 rfl ?_
    refine a_lload dX11_laysConditions_179 rfl ?_
    refine a_aload_n dX11_laysConditions_181 rfl rfl ?_
    refine b_getR hK_11 km_0 (i := 64) rfl fl_11_89 rfl rmm_64 dX11_laysConditions_182 ?_
    refine a_iload_n dX11_laysConditions_185 rfl rfl ?_
    obtain ⟨g1, h⟩ := h_gS h
    refine b_iaload km_27 (h_inV g1) dX11_laysConditions_186 ?_
    refine a_i2l dX11_laysConditions_187 ?_
    obtain ⟨q2, cq2, h⟩ := h_bindS h
    refine a_callV0 [] yy_X11_condition ml_11_606 km_0 rfl (sM_condition _ (by omega) v4 v6 v8 ((I 27 v3.toNatClampNeg).toInt64) I J q2 cq2) rfl rfl (Nat.le_of_ble_eq_true rfl) dX11_laysConditions_188 ?_
    refine b_iinc (lv' := [(2, .int (v2 + (1 : Int32))), (0, .ref 0), (1, .int v1), (3, .int v3), (4, .long v4), (6, .long v6), (8, .long v8), (10, .int v10)]) dX11_laysConditions_191 rfl ic_1 (by decide) rfl ?_
    refine a_goto (tgt := 45) dX11_laysConditions_194 (by decide) ?_
    refine a_sub (lv' := [(0, .ref 0), (1, .int v1), (2, .int (v2 + (1 : Int32)))]) [1, 2, 0] rfl ?_
    exact hk45 v1 (v2 + (1 : Int32)) q2.1 q2.2 _ h
  · replace h := h_iteF c h
    refine a_aload_n dX11_laysConditions_101 rfl rfl ?_
    refine a_iload dX11_laysConditions_102 rfl ?_
    obtain ⟨q1, cq1, h⟩ := h_bindS h
    refine a_callV1 [] yy_X11_isInside ml_11_463 km_0 rfl (sM_isInside _ (by omega) v10 I J q1 cq1) rfl rfl (Nat.le_of_ble_eq_true rfl) dX11_laysConditions_104 ?_
    refine a_if_eq (tgt := 125) dX11_laysConditions_107 (by decide) (fun c => ?_) (fun c => ?_)
    · replace h := h_iteT c h
      refine a_iconst dX11_laysConditions_125 ic_0 ?_
      exact sM_laysConditions_126 (d0 + 1) (by omega) k7 hk7 k45 hk45 k92 hk92 v1 v2 v3 v4 v6 v8 v10 (0 : Int32) I J _ h
    · replace h := h_iteF c h
      refine a_aload_n dX11_laysConditions_110 rfl rfl ?_
      refine b_getR hK_11 km_0 (i := 66) rfl fl_11_95 rfl rmm_66 dX11_laysConditions_111 ?_
      refine a_bipush dX11_laysConditions_114 bp_10 ?_
      refine a_iload_n dX11_laysConditions_116 rfl rfl ?_
      refine a_imul dX11_laysConditions_117 ?_
      refine a_iload dX11_laysConditions_118 rfl ?_
      refine a_iadd dX11_laysConditions_120 ?_
      obtain ⟨g2, h⟩ := h_gS h
      refine b_iaload km_29 (h_inV g2) dX11_laysConditions_121 ?_
      refine a_goto (tgt := 126) dX11_laysConditions_122 (by decide) ?_
      exact sM_laysConditions_126 (d0 + 1) (by omega) k7 hk7 k45 hk45 k92 hk92 v1 v2 v3 v4 v6 v8 v10 (I 29 (((10 : Int32) * v3) + v10).toNatClampNeg) I J _ h
def mM_laysConditions_L92 (k7 : Int32 → hI → hJ → Option (hI × hJ)) (k45 : Int32 → Int32 → hI → hJ → Option (hI × hJ)) : Nat → Int32 → Int32 → Int32 → Int64 → Int64 → Int64 → Int32 → hI → hJ → Option (hI × hJ)
  | 0 => fun _ _ _ _ _ _ _ _ _ => none
  | n + 1 => mM_laysConditions_B92 k7 k45 (mM_laysConditions_L92 k7 k45 n)
theorem sM_laysConditions_L92 (d : Nat) (hd : 0 + 1 ≤ d) (k7 : Int32 → hI → hJ → Option (hI × hJ)) (hk7 : ∀ (v1 : Int32) (I : hI) (J : hJ) (q : hI × hJ), k7 v1 I J = some q → AW hFT cX11_laysConditions 12 none RX11 kdM d [(0, .ref 0), (1, .int v1)] 7 [] (I, J, RMm) none (q.1, q.2, RMm)) (k45 : Int32 → Int32 → hI → hJ → Option (hI × hJ)) (hk45 : ∀ (v1 : Int32) (v2 : Int32) (I : hI) (J : hJ) (q : hI × hJ), k45 v1 v2 I J = some q → AW hFT cX11_laysConditions 12 none RX11 kdM d [(0, .ref 0), (1, .int v1), (2, .int v2)] 45 [] (I, J, RMm) none (q.1, q.2, RMm)) : ∀ (n : Nat) (v1 : Int32) (v2 : Int32) (v3 : Int32) (v4 : Int64) (v6 : Int64) (v8 : Int64) (v10 : Int32) (I : hI) (J : hJ) (q : hI × hJ) (h : mM_laysConditions_L92 k7 k45 n v1 v2 v3 v4 v6 v8 v10 I J = some q), AW hFT cX11_laysConditions 12 none RX11 kdM d [(0, .ref 0), (1, .int v1), (2, .int v2), (3, .int v3), (4, .long v4), (6, .long v6), (8, .long v8), (10, .int v10)] 92 [] (I, J, RMm) none (q.1, q.2, RMm)
  | 0, _, _, _, _, _, _, _, _, _, q, h => by cases h
  | n + 1, v1, v2, v3, v4, v6, v8, v10, I, J, q, h => sM_laysConditions_B92 d hd k7 hk7 k45 hk45 (mM_laysConditions_L92 k7 k45 n) (sM_laysConditions_L92 d hd k7 hk7 k45 hk45 n) v1 v2 v3 v4 v6 v8 v10 I J q h
def mM_laysConditions_B45 (k7 : Int32 → hI → hJ → Option (hI × hJ)) (k45 : Int32 → Int32 → hI → hJ → Option (hI × hJ)) (v1 : Int32) (v2 : Int32) (I : hI) (J : hJ) : Option (hI × hJ) :=
  h_g (h_in v1 10) <|
  if (I 25 v1.toNatClampNeg) ≤ v2 then
    k7 (v1 + (1 : Int32)) I J
  else
    (h_let (mM_choiceAt v1 v2) fun v3x1 =>
    h_g (h_nz (I 0 39)) <|
    h_let (((4 : Int32) * (v1 - v1 / (I 0 39) * (I 0 39))).toInt64) fun v4x3 =>
    h_g (h_nz (I 0 39)) <|
    h_let (((4 : Int32) * (v1 / (I 0 39))).toInt64) fun v6x5 =>
    mM_laysConditions_L92 k7 k45 hF v1 v2 v3x1 v4x3 v6x5 (4 : Int64) (0 : Int32) I J)
set_option maxHeartbeats 4000000 in
theorem sM_laysConditions_B45 (d : Nat) (hd : 0 + 1 ≤ d) (k7 : Int32 → hI → hJ → Option (hI × hJ)) (hk7 : ∀ (v1 : Int32) (I : hI) (J : hJ) (q : hI × hJ), k7 v1 I J = some q → AW hFT cX11_laysConditions 12 none RX11 kdM d [(0, .ref 0), (1, .int v1)] 7 [] (I, J, RMm) none (q.1, q.2, RMm)) (k45 : Int32 → Int32 → hI → hJ → Option (hI × hJ)) (hk45 : ∀ (v1 : Int32) (v2 : Int32) (I : hI) (J : hJ) (q : hI × hJ), k45 v1 v2 I J = some q → AW hFT cX11_laysConditions 12 none RX11 kdM d [(0, .ref 0), (1, .int v1), (2, .int v2)] 45 [] (I, J, RMm) none (q.1, q.2, RMm)) (v1 : Int32) (v2 : Int32) (I : hI) (J : hJ) (q : hI × hJ) (h : mM_laysConditions_B45 k7 k45 v1 v2 I J = some q) : AW hFT cX11_laysConditions 12 none RX11 kdM d [(0, .ref 0), (1, .int v1), (2, .int v2)] 45 [] (I, J, RMm) none (q.1, q.2, RMm) := by
  obtain ⟨d0, rfl, hd0⟩ := h_mono hd
  unfold mM_laysConditions_B45 at h
  refine a_iload_n dX11_laysConditions_45 rfl rfl ?_
  refine a_aload_n dX11_laysConditions_46 rfl rfl ?_
  refine b_getR hK_11 km_0 (i := 62) rfl fl_11_83 rfl rmm_62 dX11_laysConditions_47 ?_
  refine a_iload_n dX11_laysConditions_50 rfl rfl ?_
  obtain ⟨g1, h⟩ := h_gS h
  refine b_iaload km_25 (h_inV g1) dX11_laysConditions_51 ?_
  refine a_icmp_ge (tgt := 197) dX11_laysConditions_52 (by decide) (fun c => ?_) (fun c => ?_)
  · replace h := h_iteT c h
    refine b_iinc (lv' := [(1, .int (v1 + (1 : Int32))), (0, .ref 0), (2, .int v2)]) dX11_laysConditions_197 rfl ic_1 (by decide) rfl ?_
    refine a_goto (tgt := 7) dX11_laysConditions_200 (by decide) ?_
    refine a_sub (lv' := [(0, .ref 0), (1, .int (v1 + (1 : Int32)))]) [1, 0] rfl ?_
    exact hk7 (v1 + (1 : Int32)) I J _ h
  · replace h := h_iteF c h
    refine a_aload_n dX11_laysConditions_55 rfl rfl ?_
    refine a_iload_n dX11_laysConditions_56 rfl rfl ?_
    refine a_iload_n dX11_laysConditions_57 rfl rfl ?_
    refine a_callV1 [] yy_X11_choiceAt ml_11_433 km_0 rfl (sM_choiceAt _ (by omega) v1 v2 I J _ rfl) rfl rfl (Nat.le_of_ble_eq_true rfl) dX11_laysConditions_58 ?_
    obtain ⟨v3x1, ev3x1, h⟩ := h_letS h
    refine a_topI ev3x1 ?_
    refine a_istore_n (lv' := [(3, .int v3x1), (0, .ref 0), (1, .int v1), (2, .int v2)]) dX11_laysConditions_61 rfl (by decide) rfl ?_
    refine a_iconst dX11_laysConditions_62 ic_4 ?_
    refine a_iload_n dX11_laysConditions_63 rfl rfl ?_
    refine a_aload_n dX11_laysConditions_64 rfl rfl ?_
    refine b_getI hK_11 km_0 (i := 39) rfl fl_11_361 rfl dX11_laysConditions_65 ?_
    obtain ⟨g3, h⟩ := h_gS h
    refine a_irem dX11_laysConditions_68 (h_nzV g3) ?_
    refine a_imul dX11_laysConditions_69 ?_
    refine a_i2l dX11_laysConditions_70 ?_
    obtain ⟨v4x3, ev4x3, h⟩ := h_letS h
    refine a_topJ ev4x3 ?_
    refine a_lstore (lv' := [(4, .long v4x3), (3, .int v3x1), (0, .ref 0), (1, .int v1), (2, .int v2)]) dX11_laysConditions_71 (by decide) rfl ?_
    refine a_iconst dX11_laysConditions_73 ic_4 ?_
    refine a_iload_n dX11_laysConditions_74 rfl rfl ?_
    refine a_aload_n dX11_laysConditions_75 rfl rfl ?_
    refine b_getI hK_11 km_0 (i := 39) rfl fl_11_361 rfl dX11_laysConditions_76 ?_
    obtain ⟨g5, h⟩ := h_gS h
    refine a_idiv dX11_laysConditions_79 (h_nzV g5) ?_
    refine a_imul dX11_laysConditions_80 ?_
    refine a_i2l dX11_laysConditions_81 ?_
    obtain ⟨v6x5, ev6x5, h⟩ := h_letS h
    refine a_topJ ev6x5 ?_
    refine a_lstore (lv' := [(6, .long v6x5), (4, .long v4x3), (3, .int v3x1), (0, .ref 0), (1, .int v1), (2, .int v2)]) dX11_laysConditions_82 (by decide) rfl ?_
    refine a_ldc2_w cn_11_561 dX11_laysConditions_84 ?_
    refine a_lstore (lv' := [(8, .long (4 : Int64)), (6, .long v6x5), (4, .long v4x3), (3, .int v3x1), (0, .ref 0), (1, .int v1), (2, .int v2)]) dX11_laysConditions_87 (by decide) rfl ?_
    refine a_iconst dX11_laysConditions_89 ic_0 ?_
    refine a_istore (lv' := [(10, .int (0 : Int32)), (8, .long (4 : Int64)), (6, .long v6x5), (4, .long v4x3), (3, .int v3x1), (0, .ref 0), (1, .int v1), (2, .int v2)]) dX11_laysConditions_90 (by decide) rfl ?_
    refine a_sub (lv' := [(0, .ref 0), (1, .int v1), (2, .int v2), (3, .int v3x1), (4, .long v4x3), (6, .long v6x5), (8, .long (4 : Int64)), (10, .int (0 : Int32))]) [5, 6, 7, 4, 3, 2, 1, 0] rfl ?_
    exact sM_laysConditions_L92 (d0 + 1) (by omega) k7 hk7 k45 hk45 hF v1 v2 v3x1 v4x3 v6x5 (4 : Int64) (0 : Int32) I J _ h
def mM_laysConditions_L45 (k7 : Int32 → hI → hJ → Option (hI × hJ)) : Nat → Int32 → Int32 → hI → hJ → Option (hI × hJ)
  | 0 => fun _ _ _ _ => none
  | n + 1 => mM_laysConditions_B45 k7 (mM_laysConditions_L45 k7 n)
theorem sM_laysConditions_L45 (d : Nat) (hd : 0 + 1 ≤ d) (k7 : Int32 → hI → hJ → Option (hI × hJ)) (hk7 : ∀ (v1 : Int32) (I : hI) (J : hJ) (q : hI × hJ), k7 v1 I J = some q → AW hFT cX11_laysConditions 12 none RX11 kdM d [(0, .ref 0), (1, .int v1)] 7 [] (I, J, RMm) none (q.1, q.2, RMm)) : ∀ (n : Nat) (v1 : Int32) (v2 : Int32) (I : hI) (J : hJ) (q : hI × hJ) (h : mM_laysConditions_L45 k7 n v1 v2 I J = some q), AW hFT cX11_laysConditions 12 none RX11 kdM d [(0, .ref 0), (1, .int v1), (2, .int v2)] 45 [] (I, J, RMm) none (q.1, q.2, RMm)
  | 0, _, _, _, _, q, h => by cases h
  | n + 1, v1, v2, I, J, q, h => sM_laysConditions_B45 d hd k7 hk7 (mM_laysConditions_L45 k7 n) (sM_laysConditions_L45 d hd k7 hk7 n) v1 v2 I J q h
def mM_laysConditions_B7 (k7 : Int32 → hI → hJ → Option (hI × hJ)) (v1 : Int32) (I : hI) (J : hJ) : Option (hI × hJ) :=
  if (I 0 41) ≤ v1 then
    some (I, J)
  else
    ((mM_isInside v1 I).bind fun q1 =>
    if q1 = 0 then
      k7 (v1 + (1 : Int32)) I J
    else
      (h_g (h_nz (I 0 39)) <|
      h_g (h_nz (I 0 39)) <|
      (mM_condition ((v1 - v1 / (I 0 39) * (I 0 39)).toInt64) ((v1 / (I 0 39)).toInt64) (1 : Int64) (0 : Int64) I J).bind fun q4 =>
      mM_laysConditions_L45 k7 hF v1 (0 : Int32) q4.1 q4.2))
set_option maxHeartbeats 4000000 in
theorem sM_laysConditions_B7 (d : Nat) (hd : 0 + 1 ≤ d) (k7 : Int32 → hI → hJ → Option (hI × hJ)) (hk7 : ∀ (v1 : Int32) (I : hI) (J : hJ) (q : hI × hJ), k7 v1 I J = some q → AW hFT cX11_laysConditions 12 none RX11 kdM d [(0, .ref 0), (1, .int v1)] 7 [] (I, J, RMm) none (q.1, q.2, RMm)) (v1 : Int32) (I : hI) (J : hJ) (q : hI × hJ) (h : mM_laysConditions_B7 k7 v1 I J = some q) : AW hFT cX11_laysConditions 12 none RX11 kdM d [(0, .ref 0), (1, .int v1)] 7 [] (I, J, RMm) none (q.1, q.2, RMm) := by
  obtain ⟨d0, rfl, hd0⟩ := h_mono hd
  unfold mM_laysConditions_B7 at h
  refine a_iload_n dX11_laysConditions_7 rfl rfl ?_
  refine a_aload_n dX11_laysConditions_8 rfl rfl ?_
  refine b_getI hK_11 km_0 (i := 41) rfl fl_11_367 rfl dX11_laysConditions_9 ?_
  refine a_icmp_ge (tgt := 203) dX11_laysConditions_12 (by decide) (fun c => ?_) (fun c => ?_)
  · replace h := h_iteT c h
    cases h
    exact a_vret dX11_laysConditions_203
  · replace h := h_iteF c h
    refine a_aload_n dX11_laysConditions_15 rfl rfl ?_
    refine a_iload_n dX11_laysConditions_16 rfl rfl ?_
    obtain ⟨q1, cq1, h⟩ := h_bindS h
    refine a_callV1 [] yy_X11_isInside ml_11_463 km_0 rfl (sM_isInside _ (by omega) v1 I J q1 cq1) rfl rfl (Nat.le_of_ble_eq_true rfl) dX11_laysConditions_17 ?_
    refine a_if_eq (tgt := 197) dX11_laysConditions_20 (by decide) (fun c => ?_) (fun c => ?_)
    · replace h := h_iteT c h
      refine b_iinc (lv' := [(1, .int (v1 + (1 : Int32))), (0, .ref 0)]) dX11_laysConditions_197 rfl ic_1 (by decide) rfl ?_
      refine a_goto (tgt := 7) dX11_laysConditions_200 (by decide) ?_
      refine a_sub (lv' := [(0, .ref 0), (1, .int (v1 + (1 : Int32)))]) [1, 0] rfl ?_
      exact hk7 (v1 + (1 : Int32)) I J _ h
    · replace h := h_iteF c h
      refine a_aload_n dX11_laysConditions_23 rfl rfl ?_
      refine a_iload_n dX11_laysConditions_24 rfl rfl ?_
      refine a_aload_n dX11_laysConditions_25 rfl rfl ?_
      refine b_getI hK_11 km_0 (i := 39) rfl fl_11_361 rfl dX11_laysConditions_26 ?_
      obtain ⟨g2, h⟩ := h_gS h
      refine a_irem dX11_laysConditions_29 (h_nzV g2) ?_
      refine a_i2l dX11_laysConditions_30 ?_
      refine a_iload_n dX11_laysConditions_31 rfl rfl ?_
      refine a_aload_n dX11_laysConditions_32 rfl rfl ?_
      refine b_getI hK_11 km_0 (i := 39) rfl fl_11_361 rfl dX11_laysConditions_33 ?_
      obtain ⟨g3, h⟩ := h_gS h
      refine a_idiv dX11_laysConditions_36 (h_nzV g3) ?_
      refine a_i2l dX11_laysConditions_37 ?_
      refine a_lconst dX11_laysConditions_38 lc_1 ?_
      refine a_lconst dX11_laysConditions_39 lc_0 ?_
      obtain ⟨q4, cq4, h⟩ := h_bindS h
      refine a_callV0 [] yy_X11_condition ml_11_606 km_0 rfl (sM_condition _ (by omega) ((v1 - v1 / (I 0 39) * (I 0 39)).toInt64) ((v1 / (I 0 39)).toInt64) (1 : Int64) (0 : Int64) I J q4 cq4) rfl rfl (Nat.le_of_ble_eq_true rfl) dX11_laysConditions_40 ?_
      refine a_iconst dX11_laysConditions_43 ic_0 ?_
      refine a_istore_n (lv' := [(2, .int (0 : Int32)), (0, .ref 0), (1, .int v1)]) dX11_laysConditions_44 rfl (by decide) rfl ?_
      refine a_sub (lv' := [(0, .ref 0), (1, .int v1), (2, .int (0 : Int32))]) [1, 2, 0] rfl ?_
      exact sM_laysConditions_L45 (d0 + 1) (by omega) k7 hk7 hF v1 (0 : Int32) q4.1 q4.2 _ h
def mM_laysConditions_L7  : Nat → Int32 → hI → hJ → Option (hI × hJ)
  | 0 => fun _ _ _ => none
  | n + 1 => mM_laysConditions_B7 (mM_laysConditions_L7 n)
theorem sM_laysConditions_L7 (d : Nat) (hd : 0 + 1 ≤ d) : ∀ (n : Nat) (v1 : Int32) (I : hI) (J : hJ) (q : hI × hJ) (h : mM_laysConditions_L7 n v1 I J = some q), AW hFT cX11_laysConditions 12 none RX11 kdM d [(0, .ref 0), (1, .int v1)] 7 [] (I, J, RMm) none (q.1, q.2, RMm)
  | 0, _, _, _, q, h => by cases h
  | n + 1, v1, I, J, q, h => sM_laysConditions_B7 d hd (mM_laysConditions_L7 n) (sM_laysConditions_L7 d hd n) v1 I J q h
def mM_laysConditions   (I : hI) (J : hJ) : Option (hI × hJ) :=
  h_let (h_u I 0 88 (0 : Int32)) fun I1 =>
  mM_laysConditions_L7 hF (0 : Int32) I1 J
set_option maxHeartbeats 4000000 in
theorem sM_laysConditions (d : Nat) (hd : 0 + 1 ≤ d)  (I : hI) (J : hJ) (q : hI × hJ) (h : mM_laysConditions I J = some q) : HMet hFT yX11_laysConditions cX11_laysConditions 12 none kdM d [.ref 0] (I, J, RMm) none (q.1, q.2, RMm) := by
  obtain ⟨d0, rfl, hd0⟩ := h_mono hd
  refine HMet.of (by decide) (Nat.le_of_ble_eq_true rfl) ?_
  show AW hFT cX11_laysConditions 12 none RX11 kdM (d0 + 1) [(0, .ref 0)] 0 [] (I, J, RMm) none (q.1, q.2, RMm)
  unfold mM_laysConditions at h
  refine a_aload_n dX11_laysConditions_0 rfl rfl ?_
  refine a_iconst dX11_laysConditions_1 ic_0 ?_
  refine b_putI hK_11 km_0 (i := 88) rfl fl_11_603 rfl rfl (h_NI _) dX11_laysConditions_2 ?_
  obtain ⟨I1, eI1, h⟩ := h_letS h
  refine a_memI eI1 ?_
  refine a_iconst dX11_laysConditions_5 ic_0 ?_
  refine a_istore_n (lv' := [(1, .int (0 : Int32)), (0, .ref 0)]) dX11_laysConditions_6 rfl (by decide) rfl ?_
  refine a_sub (lv' := [(0, .ref 0), (1, .int (0 : Int32))]) [1, 0] rfl ?_
  exact sM_laysConditions_L7 (d0 + 1) (by omega) hF (0 : Int32) I1 J _ h
/-! CoinLoopsModel.three(JJJJJJJJJ)J -/
theorem dX11_three_0 : decode cX11_three 0 = .ok (.lload_n 0, 1) := by decide +kernel
theorem dX11_three_1 : decode cX11_three 1 = .ok (.lload 8, 2) := by decide +kernel
theorem dX11_three_3 : decode cX11_three 3 = .ok (.lload 16, 2) := by decide +kernel
theorem dX11_three_5 : decode cX11_three 5 = .ok (.lmul, 1) := by decide +kernel
theorem dX11_three_6 : decode cX11_three 6 = .ok (.lload 10, 2) := by decide +kernel
theorem dX11_three_8 : decode cX11_three 8 = .ok (.lload 14, 2) := by decide +kernel
theorem dX11_three_10 : decode cX11_three 10 = .ok (.lmul, 1) := by decide +kernel
theorem dX11_three_11 : decode cX11_three 11 = .ok (.lsub, 1) := by decide +kernel
theorem dX11_three_12 : decode cX11_three 12 = .ok (.lmul, 1) := by decide +kernel
theorem dX11_three_13 : decode cX11_three 13 = .ok (.lload_n 2, 1) := by decide +kernel
theorem dX11_three_14 : decode cX11_three 14 = .ok (.lload 6, 2) := by decide +kernel
theorem dX11_three_16 : decode cX11_three 16 = .ok (.lload 16, 2) := by decide +kernel
theorem dX11_three_18 : decode cX11_three 18 = .ok (.lmul, 1) := by decide +kernel
theorem dX11_three_19 : decode cX11_three 19 = .ok (.lload 10, 2) := by decide +kernel
theorem dX11_three_21 : decode cX11_three 21 = .ok (.lload 12, 2) := by decide +kernel
theorem dX11_three_23 : decode cX11_three 23 = .ok (.lmul, 1) := by decide +kernel
theorem dX11_three_24 : decode cX11_three 24 = .ok (.lsub, 1) := by decide +kernel
theorem dX11_three_25 : decode cX11_three 25 = .ok (.lmul, 1) := by decide +kernel
theorem dX11_three_26 : decode cX11_three 26 = .ok (.lsub, 1) := by decide +kernel
theorem dX11_three_27 : decode cX11_three 27 = .ok (.lload 4, 2) := by decide +kernel
theorem dX11_three_29 : decode cX11_three 29 = .ok (.lload 6, 2) := by decide +kernel
theorem dX11_three_31 : decode cX11_three 31 = .ok (.lload 14, 2) := by decide +kernel
theorem dX11_three_33 : decode cX11_three 33 = .ok (.lmul, 1) := by decide +kernel
theorem dX11_three_34 : decode cX11_three 34 = .ok (.lload 8, 2) := by decide +kernel
theorem dX11_three_36 : decode cX11_three 36 = .ok (.lload 12, 2) := by decide +kernel
theorem dX11_three_38 : decode cX11_three 38 = .ok (.lmul, 1) := by decide +kernel
theorem dX11_three_39 : decode cX11_three 39 = .ok (.lsub, 1) := by decide +kernel
theorem dX11_three_40 : decode cX11_three 40 = .ok (.lmul, 1) := by decide +kernel
theorem dX11_three_41 : decode cX11_three 41 = .ok (.ladd, 1) := by decide +kernel
theorem dX11_three_42 : decode cX11_three 42 = .ok (.lreturn, 1) := by decide +kernel
def mM_three  (v0 : Int64) (v2 : Int64) (v4 : Int64) (v6 : Int64) (v8 : Int64) (v10 : Int64) (v12 : Int64) (v14 : Int64) (v16 : Int64)  : Int64 :=
  (((v0 * ((v8 * v16) - (v10 * v14))) - (v2 * ((v6 * v16) - (v10 * v12)))) + (v4 * ((v6 * v14) - (v8 * v12))))
set_option maxHeartbeats 4000000 in
theorem sM_three (d : Nat) (hd : 0 ≤ d) (v0 : Int64) (v2 : Int64) (v4 : Int64) (v6 : Int64) (v8 : Int64) (v10 : Int64) (v12 : Int64) (v14 : Int64) (v16 : Int64) (I : hI) (J : hJ) (q : Int64) (h : mM_three v0 v2 v4 v6 v8 v10 v12 v14 v16 = q) : HMet hFT yX11_three cX11_three 18 (some .long) kdM d [.long v0, .long v2, .long v4, .long v6, .long v8, .long v10, .long v12, .long v14, .long v16] (I, J, RMm) (some (.long q)) (I, J, RMm) := by
  refine HMet.of (by decide) (Nat.le_of_ble_eq_true rfl) ?_
  show AW hFT cX11_three 18 (some .long) RX11 kdM d [(0, .long v0), (2, .long v2), (4, .long v4), (6, .long v6), (8, .long v8), (10, .long v10), (12, .long v12), (14, .long v14), (16, .long v16)] 0 [] (I, J, RMm) (some (.long q)) (I, J, RMm)
  unfold mM_three at h
  refine a_lload_n dX11_three_0 rfl rfl ?_
  refine a_lload dX11_three_1 rfl ?_
  refine a_lload dX11_three_3 rfl ?_
  refine a_lmul dX11_three_5 ?_
  refine a_lload dX11_three_6 rfl ?_
  refine a_lload dX11_three_8 rfl ?_
  refine a_lmul dX11_three_10 ?_
  refine a_lsub dX11_three_11 ?_
  refine a_lmul dX11_three_12 ?_
  refine a_lload_n dX11_three_13 rfl rfl ?_
  refine a_lload dX11_three_14 rfl ?_
  refine a_lload dX11_three_16 rfl ?_
  refine a_lmul dX11_three_18 ?_
  refine a_lload dX11_three_19 rfl ?_
  refine a_lload dX11_three_21 rfl ?_
  refine a_lmul dX11_three_23 ?_
  refine a_lsub dX11_three_24 ?_
  refine a_lmul dX11_three_25 ?_
  refine a_lsub dX11_three_26 ?_
  refine a_lload dX11_three_27 rfl ?_
  refine a_lload dX11_three_29 rfl ?_
  refine a_lload dX11_three_31 rfl ?_
  refine a_lmul dX11_three_33 ?_
  refine a_lload dX11_three_34 rfl ?_
  refine a_lload dX11_three_36 rfl ?_
  refine a_lmul dX11_three_38 ?_
  refine a_lsub dX11_three_39 ?_
  refine a_lmul dX11_three_40 ?_
  refine a_ladd dX11_three_41 ?_
  cases h
  exact a_lret dX11_three_42
/-! CoinLoopsModel.laysCorner(III)Z -/
theorem dX11_laysCorner_0 : decode cX11_laysCorner 0 = .ok (.aload_n 0, 1) := by decide +kernel
theorem dX11_laysCorner_1 : decode cX11_laysCorner 1 = .ok (.getfield 361, 3) := by decide +kernel
theorem dX11_laysCorner_4 : decode cX11_laysCorner 4 = .ok (.iconst 1, 1) := by decide +kernel
theorem dX11_laysCorner_5 : decode cX11_laysCorner 5 = .ok (.if_icmp .le 7, 3) := by decide +kernel
theorem dX11_laysCorner_8 : decode cX11_laysCorner 8 = .ok (.iconst 1, 1) := by decide +kernel
theorem dX11_laysCorner_9 : decode cX11_laysCorner 9 = .ok (.goto 4, 3) := by decide +kernel
theorem dX11_laysCorner_12 : decode cX11_laysCorner 12 = .ok (.iconst 0, 1) := by decide +kernel
theorem dX11_laysCorner_13 : decode cX11_laysCorner 13 = .ok (.istore 4, 2) := by decide +kernel
theorem dX11_laysCorner_15 : decode cX11_laysCorner 15 = .ok (.aload_n 0, 1) := by decide +kernel
theorem dX11_laysCorner_16 : decode cX11_laysCorner 16 = .ok (.getfield 364, 3) := by decide +kernel
theorem dX11_laysCorner_19 : decode cX11_laysCorner 19 = .ok (.iconst 1, 1) := by decide +kernel
theorem dX11_laysCorner_20 : decode cX11_laysCorner 20 = .ok (.if_icmp .le 7, 3) := by decide +kernel
theorem dX11_laysCorner_23 : decode cX11_laysCorner 23 = .ok (.iconst 1, 1) := by decide +kernel
theorem dX11_laysCorner_24 : decode cX11_laysCorner 24 = .ok (.goto 4, 3) := by decide +kernel
theorem dX11_laysCorner_27 : decode cX11_laysCorner 27 = .ok (.iconst 0, 1) := by decide +kernel
theorem dX11_laysCorner_28 : decode cX11_laysCorner 28 = .ok (.istore 5, 2) := by decide +kernel
theorem dX11_laysCorner_30 : decode cX11_laysCorner 30 = .ok (.aload_n 0, 1) := by decide +kernel
theorem dX11_laysCorner_31 : decode cX11_laysCorner 31 = .ok (.getfield 144, 3) := by decide +kernel
theorem dX11_laysCorner_34 : decode cX11_laysCorner 34 = .ok (.iload_n 1, 1) := by decide +kernel
theorem dX11_laysCorner_35 : decode cX11_laysCorner 35 = .ok (.laload, 1) := by decide +kernel
theorem dX11_laysCorner_36 : decode cX11_laysCorner 36 = .ok (.lstore 6, 2) := by decide +kernel
theorem dX11_laysCorner_38 : decode cX11_laysCorner 38 = .ok (.aload_n 0, 1) := by decide +kernel
theorem dX11_laysCorner_39 : decode cX11_laysCorner 39 = .ok (.getfield 147, 3) := by decide +kernel
theorem dX11_laysCorner_42 : decode cX11_laysCorner 42 = .ok (.iload_n 1, 1) := by decide +kernel
theorem dX11_laysCorner_43 : decode cX11_laysCorner 43 = .ok (.laload, 1) := by decide +kernel
theorem dX11_laysCorner_44 : decode cX11_laysCorner 44 = .ok (.lstore 8, 2) := by decide +kernel
theorem dX11_laysCorner_46 : decode cX11_laysCorner 46 = .ok (.aload_n 0, 1) := by decide +kernel
theorem dX11_laysCorner_47 : decode cX11_laysCorner 47 = .ok (.getfield 150, 3) := by decide +kernel
theorem dX11_laysCorner_50 : decode cX11_laysCorner 50 = .ok (.iload_n 1, 1) := by decide +kernel
theorem dX11_laysCorner_51 : decode cX11_laysCorner 51 = .ok (.laload, 1) := by decide +kernel
theorem dX11_laysCorner_52 : decode cX11_laysCorner 52 = .ok (.lstore 10, 2) := by decide +kernel
theorem dX11_laysCorner_54 : decode cX11_laysCorner 54 = .ok (.aload_n 0, 1) := by decide +kernel
theorem dX11_laysCorner_55 : decode cX11_laysCorner 55 = .ok (.getfield 153, 3) := by decide +kernel
theorem dX11_laysCorner_58 : decode cX11_laysCorner 58 = .ok (.iload_n 1, 1) := by decide +kernel
theorem dX11_laysCorner_59 : decode cX11_laysCorner 59 = .ok (.laload, 1) := by decide +kernel
theorem dX11_laysCorner_60 : decode cX11_laysCorner 60 = .ok (.lstore 12, 2) := by decide +kernel
theorem dX11_laysCorner_62 : decode cX11_laysCorner 62 = .ok (.iload 4, 2) := by decide +kernel
theorem dX11_laysCorner_64 : decode cX11_laysCorner 64 = .ok (.ifCond .eq 12, 3) := by decide +kernel
theorem dX11_laysCorner_67 : decode cX11_laysCorner 67 = .ok (.aload_n 0, 1) := by decide +kernel
theorem dX11_laysCorner_68 : decode cX11_laysCorner 68 = .ok (.getfield 144, 3) := by decide +kernel
theorem dX11_laysCorner_71 : decode cX11_laysCorner 71 = .ok (.iload_n 2, 1) := by decide +kernel
theorem dX11_laysCorner_72 : decode cX11_laysCorner 72 = .ok (.laload, 1) := by decide +kernel
theorem dX11_laysCorner_73 : decode cX11_laysCorner 73 = .ok (.goto 4, 3) := by decide +kernel
theorem dX11_laysCorner_76 : decode cX11_laysCorner 76 = .ok (.lconst 1, 1) := by decide +kernel
theorem dX11_laysCorner_77 : decode cX11_laysCorner 77 = .ok (.lstore 14, 2) := by decide +kernel
theorem dX11_laysCorner_79 : decode cX11_laysCorner 79 = .ok (.iload 4, 2) := by decide +kernel
theorem dX11_laysCorner_81 : decode cX11_laysCorner 81 = .ok (.ifCond .eq 12, 3) := by decide +kernel
theorem dX11_laysCorner_84 : decode cX11_laysCorner 84 = .ok (.aload_n 0, 1) := by decide +kernel
theorem dX11_laysCorner_85 : decode cX11_laysCorner 85 = .ok (.getfield 147, 3) := by decide +kernel
theorem dX11_laysCorner_88 : decode cX11_laysCorner 88 = .ok (.iload_n 2, 1) := by decide +kernel
theorem dX11_laysCorner_89 : decode cX11_laysCorner 89 = .ok (.laload, 1) := by decide +kernel
theorem dX11_laysCorner_90 : decode cX11_laysCorner 90 = .ok (.goto 4, 3) := by decide +kernel
theorem dX11_laysCorner_93 : decode cX11_laysCorner 93 = .ok (.lconst 0, 1) := by decide +kernel
theorem dX11_laysCorner_94 : decode cX11_laysCorner 94 = .ok (.lstore 16, 2) := by decide +kernel
theorem dX11_laysCorner_96 : decode cX11_laysCorner 96 = .ok (.iload 4, 2) := by decide +kernel
theorem dX11_laysCorner_98 : decode cX11_laysCorner 98 = .ok (.ifCond .eq 12, 3) := by decide +kernel
theorem dX11_laysCorner_101 : decode cX11_laysCorner 101 = .ok (.aload_n 0, 1) := by decide +kernel
theorem dX11_laysCorner_102 : decode cX11_laysCorner 102 = .ok (.getfield 150, 3) := by decide +kernel
theorem dX11_laysCorner_105 : decode cX11_laysCorner 105 = .ok (.iload_n 2, 1) := by decide +kernel
theorem dX11_laysCorner_106 : decode cX11_laysCorner 106 = .ok (.laload, 1) := by decide +kernel
theorem dX11_laysCorner_107 : decode cX11_laysCorner 107 = .ok (.goto 4, 3) := by decide +kernel
theorem dX11_laysCorner_110 : decode cX11_laysCorner 110 = .ok (.lconst 0, 1) := by decide +kernel
theorem dX11_laysCorner_111 : decode cX11_laysCorner 111 = .ok (.lstore 18, 2) := by decide +kernel
theorem dX11_laysCorner_113 : decode cX11_laysCorner 113 = .ok (.iload 4, 2) := by decide +kernel
theorem dX11_laysCorner_115 : decode cX11_laysCorner 115 = .ok (.ifCond .eq 12, 3) := by decide +kernel
theorem dX11_laysCorner_118 : decode cX11_laysCorner 118 = .ok (.aload_n 0, 1) := by decide +kernel
theorem dX11_laysCorner_119 : decode cX11_laysCorner 119 = .ok (.getfield 153, 3) := by decide +kernel
theorem dX11_laysCorner_122 : decode cX11_laysCorner 122 = .ok (.iload_n 2, 1) := by decide +kernel
theorem dX11_laysCorner_123 : decode cX11_laysCorner 123 = .ok (.laload, 1) := by decide +kernel
theorem dX11_laysCorner_124 : decode cX11_laysCorner 124 = .ok (.goto 4, 3) := by decide +kernel
theorem dX11_laysCorner_127 : decode cX11_laysCorner 127 = .ok (.lconst 0, 1) := by decide +kernel
theorem dX11_laysCorner_128 : decode cX11_laysCorner 128 = .ok (.lstore 20, 2) := by decide +kernel
theorem dX11_laysCorner_130 : decode cX11_laysCorner 130 = .ok (.iload 5, 2) := by decide +kernel
theorem dX11_laysCorner_132 : decode cX11_laysCorner 132 = .ok (.ifCond .eq 12, 3) := by decide +kernel
theorem dX11_laysCorner_135 : decode cX11_laysCorner 135 = .ok (.aload_n 0, 1) := by decide +kernel
theorem dX11_laysCorner_136 : decode cX11_laysCorner 136 = .ok (.getfield 144, 3) := by decide +kernel
theorem dX11_laysCorner_139 : decode cX11_laysCorner 139 = .ok (.iload_n 3, 1) := by decide +kernel
theorem dX11_laysCorner_140 : decode cX11_laysCorner 140 = .ok (.laload, 1) := by decide +kernel
theorem dX11_laysCorner_141 : decode cX11_laysCorner 141 = .ok (.goto 4, 3) := by decide +kernel
theorem dX11_laysCorner_144 : decode cX11_laysCorner 144 = .ok (.lconst 0, 1) := by decide +kernel
theorem dX11_laysCorner_145 : decode cX11_laysCorner 145 = .ok (.lstore 22, 2) := by decide +kernel
theorem dX11_laysCorner_147 : decode cX11_laysCorner 147 = .ok (.iload 5, 2) := by decide +kernel
theorem dX11_laysCorner_149 : decode cX11_laysCorner 149 = .ok (.ifCond .eq 12, 3) := by decide +kernel
theorem dX11_laysCorner_152 : decode cX11_laysCorner 152 = .ok (.aload_n 0, 1) := by decide +kernel
theorem dX11_laysCorner_153 : decode cX11_laysCorner 153 = .ok (.getfield 147, 3) := by decide +kernel
theorem dX11_laysCorner_156 : decode cX11_laysCorner 156 = .ok (.iload_n 3, 1) := by decide +kernel
theorem dX11_laysCorner_157 : decode cX11_laysCorner 157 = .ok (.laload, 1) := by decide +kernel
theorem dX11_laysCorner_158 : decode cX11_laysCorner 158 = .ok (.goto 4, 3) := by decide +kernel
theorem dX11_laysCorner_161 : decode cX11_laysCorner 161 = .ok (.lconst 1, 1) := by decide +kernel
theorem dX11_laysCorner_162 : decode cX11_laysCorner 162 = .ok (.lstore 24, 2) := by decide +kernel
theorem dX11_laysCorner_164 : decode cX11_laysCorner 164 = .ok (.iload 5, 2) := by decide +kernel
theorem dX11_laysCorner_166 : decode cX11_laysCorner 166 = .ok (.ifCond .eq 12, 3) := by decide +kernel
theorem dX11_laysCorner_169 : decode cX11_laysCorner 169 = .ok (.aload_n 0, 1) := by decide +kernel
theorem dX11_laysCorner_170 : decode cX11_laysCorner 170 = .ok (.getfield 150, 3) := by decide +kernel
theorem dX11_laysCorner_173 : decode cX11_laysCorner 173 = .ok (.iload_n 3, 1) := by decide +kernel
theorem dX11_laysCorner_174 : decode cX11_laysCorner 174 = .ok (.laload, 1) := by decide +kernel
theorem dX11_laysCorner_175 : decode cX11_laysCorner 175 = .ok (.goto 4, 3) := by decide +kernel
theorem dX11_laysCorner_178 : decode cX11_laysCorner 178 = .ok (.lconst 0, 1) := by decide +kernel
theorem dX11_laysCorner_179 : decode cX11_laysCorner 179 = .ok (.lstore 26, 2) := by decide +kernel
theorem dX11_laysCorner_181 : decode cX11_laysCorner 181 = .ok (.iload 5, 2) := by decide +kernel
theorem dX11_laysCorner_183 : decode cX11_laysCorner 183 = .ok (.ifCond .eq 12, 3) := by decide +kernel
theorem dX11_laysCorner_186 : decode cX11_laysCorner 186 = .ok (.aload_n 0, 1) := by decide +kernel
theorem dX11_laysCorner_187 : decode cX11_laysCorner 187 = .ok (.getfield 153, 3) := by decide +kernel
theorem dX11_laysCorner_190 : decode cX11_laysCorner 190 = .ok (.iload_n 3, 1) := by decide +kernel
theorem dX11_laysCorner_191 : decode cX11_laysCorner 191 = .ok (.laload, 1) := by decide +kernel
theorem dX11_laysCorner_192 : decode cX11_laysCorner 192 = .ok (.goto 4, 3) := by decide +kernel
theorem dX11_laysCorner_195 : decode cX11_laysCorner 195 = .ok (.lconst 0, 1) := by decide +kernel
theorem dX11_laysCorner_196 : decode cX11_laysCorner 196 = .ok (.lstore 28, 2) := by decide +kernel
theorem dX11_laysCorner_198 : decode cX11_laysCorner 198 = .ok (.aload_n 0, 1) := by decide +kernel
theorem dX11_laysCorner_199 : decode cX11_laysCorner 199 = .ok (.lload 6, 2) := by decide +kernel
theorem dX11_laysCorner_201 : decode cX11_laysCorner 201 = .ok (.lload 8, 2) := by decide +kernel
theorem dX11_laysCorner_203 : decode cX11_laysCorner 203 = .ok (.lload 10, 2) := by decide +kernel
theorem dX11_laysCorner_205 : decode cX11_laysCorner 205 = .ok (.lload 14, 2) := by decide +kernel
theorem dX11_laysCorner_207 : decode cX11_laysCorner 207 = .ok (.lload 16, 2) := by decide +kernel
theorem dX11_laysCorner_209 : decode cX11_laysCorner 209 = .ok (.lload 18, 2) := by decide +kernel
theorem dX11_laysCorner_211 : decode cX11_laysCorner 211 = .ok (.lload 22, 2) := by decide +kernel
theorem dX11_laysCorner_213 : decode cX11_laysCorner 213 = .ok (.lload 24, 2) := by decide +kernel
theorem dX11_laysCorner_215 : decode cX11_laysCorner 215 = .ok (.lload 26, 2) := by decide +kernel
theorem dX11_laysCorner_217 : decode cX11_laysCorner 217 = .ok (.invokestatic 610, 3) := by decide +kernel
theorem dX11_laysCorner_220 : decode cX11_laysCorner 220 = .ok (.putfield 614, 3) := by decide +kernel
theorem dX11_laysCorner_223 : decode cX11_laysCorner 223 = .ok (.aload_n 0, 1) := by decide +kernel
theorem dX11_laysCorner_224 : decode cX11_laysCorner 224 = .ok (.getfield 614, 3) := by decide +kernel
theorem dX11_laysCorner_227 : decode cX11_laysCorner 227 = .ok (.lconst 0, 1) := by decide +kernel
theorem dX11_laysCorner_228 : decode cX11_laysCorner 228 = .ok (.lcmp, 1) := by decide +kernel
theorem dX11_laysCorner_229 : decode cX11_laysCorner 229 = .ok (.ifCond .ne 5, 3) := by decide +kernel
theorem dX11_laysCorner_232 : decode cX11_laysCorner 232 = .ok (.iconst 0, 1) := by decide +kernel
theorem dX11_laysCorner_233 : decode cX11_laysCorner 233 = .ok (.ireturn, 1) := by decide +kernel
theorem dX11_laysCorner_234 : decode cX11_laysCorner 234 = .ok (.aload_n 0, 1) := by decide +kernel
theorem dX11_laysCorner_235 : decode cX11_laysCorner 235 = .ok (.lload 12, 2) := by decide +kernel
theorem dX11_laysCorner_237 : decode cX11_laysCorner 237 = .ok (.lload 8, 2) := by decide +kernel
theorem dX11_laysCorner_239 : decode cX11_laysCorner 239 = .ok (.lload 10, 2) := by decide +kernel
theorem dX11_laysCorner_241 : decode cX11_laysCorner 241 = .ok (.lload 20, 2) := by decide +kernel
theorem dX11_laysCorner_243 : decode cX11_laysCorner 243 = .ok (.lload 16, 2) := by decide +kernel
theorem dX11_laysCorner_245 : decode cX11_laysCorner 245 = .ok (.lload 18, 2) := by decide +kernel
theorem dX11_laysCorner_247 : decode cX11_laysCorner 247 = .ok (.lload 28, 2) := by decide +kernel
theorem dX11_laysCorner_249 : decode cX11_laysCorner 249 = .ok (.lload 24, 2) := by decide +kernel
theorem dX11_laysCorner_251 : decode cX11_laysCorner 251 = .ok (.lload 26, 2) := by decide +kernel
theorem dX11_laysCorner_253 : decode cX11_laysCorner 253 = .ok (.invokestatic 610, 3) := by decide +kernel
theorem dX11_laysCorner_256 : decode cX11_laysCorner 256 = .ok (.putfield 618, 3) := by decide +kernel
theorem dX11_laysCorner_259 : decode cX11_laysCorner 259 = .ok (.aload_n 0, 1) := by decide +kernel
theorem dX11_laysCorner_260 : decode cX11_laysCorner 260 = .ok (.lload 6, 2) := by decide +kernel
theorem dX11_laysCorner_262 : decode cX11_laysCorner 262 = .ok (.lload 12, 2) := by decide +kernel
theorem dX11_laysCorner_264 : decode cX11_laysCorner 264 = .ok (.lload 10, 2) := by decide +kernel
theorem dX11_laysCorner_266 : decode cX11_laysCorner 266 = .ok (.lload 14, 2) := by decide +kernel
theorem dX11_laysCorner_268 : decode cX11_laysCorner 268 = .ok (.lload 20, 2) := by decide +kernel
theorem dX11_laysCorner_270 : decode cX11_laysCorner 270 = .ok (.lload 18, 2) := by decide +kernel
theorem dX11_laysCorner_272 : decode cX11_laysCorner 272 = .ok (.lload 22, 2) := by decide +kernel
theorem dX11_laysCorner_274 : decode cX11_laysCorner 274 = .ok (.lload 28, 2) := by decide +kernel
theorem dX11_laysCorner_276 : decode cX11_laysCorner 276 = .ok (.lload 26, 2) := by decide +kernel
theorem dX11_laysCorner_278 : decode cX11_laysCorner 278 = .ok (.invokestatic 610, 3) := by decide +kernel
theorem dX11_laysCorner_281 : decode cX11_laysCorner 281 = .ok (.putfield 621, 3) := by decide +kernel
theorem dX11_laysCorner_284 : decode cX11_laysCorner 284 = .ok (.aload_n 0, 1) := by decide +kernel
theorem dX11_laysCorner_285 : decode cX11_laysCorner 285 = .ok (.lload 6, 2) := by decide +kernel
theorem dX11_laysCorner_287 : decode cX11_laysCorner 287 = .ok (.lload 8, 2) := by decide +kernel
theorem dX11_laysCorner_289 : decode cX11_laysCorner 289 = .ok (.lload 12, 2) := by decide +kernel
theorem dX11_laysCorner_291 : decode cX11_laysCorner 291 = .ok (.lload 14, 2) := by decide +kernel
theorem dX11_laysCorner_293 : decode cX11_laysCorner 293 = .ok (.lload 16, 2) := by decide +kernel
theorem dX11_laysCorner_295 : decode cX11_laysCorner 295 = .ok (.lload 20, 2) := by decide +kernel
theorem dX11_laysCorner_297 : decode cX11_laysCorner 297 = .ok (.lload 22, 2) := by decide +kernel
theorem dX11_laysCorner_299 : decode cX11_laysCorner 299 = .ok (.lload 24, 2) := by decide +kernel
theorem dX11_laysCorner_301 : decode cX11_laysCorner 301 = .ok (.lload 28, 2) := by decide +kernel
theorem dX11_laysCorner_303 : decode cX11_laysCorner 303 = .ok (.invokestatic 610, 3) := by decide +kernel
theorem dX11_laysCorner_306 : decode cX11_laysCorner 306 = .ok (.putfield 624, 3) := by decide +kernel
theorem dX11_laysCorner_309 : decode cX11_laysCorner 309 = .ok (.aload_n 0, 1) := by decide +kernel
theorem dX11_laysCorner_310 : decode cX11_laysCorner 310 = .ok (.getfield 614, 3) := by decide +kernel
theorem dX11_laysCorner_313 : decode cX11_laysCorner 313 = .ok (.lconst 0, 1) := by decide +kernel
theorem dX11_laysCorner_314 : decode cX11_laysCorner 314 = .ok (.lcmp, 1) := by decide +kernel
theorem dX11_laysCorner_315 : decode cX11_laysCorner 315 = .ok (.ifCond .ge 39, 3) := by decide +kernel
theorem dX11_laysCorner_318 : decode cX11_laysCorner 318 = .ok (.aload_n 0, 1) := by decide +kernel
theorem dX11_laysCorner_319 : decode cX11_laysCorner 319 = .ok (.aload_n 0, 1) := by decide +kernel
theorem dX11_laysCorner_320 : decode cX11_laysCorner 320 = .ok (.getfield 614, 3) := by decide +kernel
theorem dX11_laysCorner_323 : decode cX11_laysCorner 323 = .ok (.lneg, 1) := by decide +kernel
theorem dX11_laysCorner_324 : decode cX11_laysCorner 324 = .ok (.putfield 614, 3) := by decide +kernel
theorem dX11_laysCorner_327 : decode cX11_laysCorner 327 = .ok (.aload_n 0, 1) := by decide +kernel
theorem dX11_laysCorner_328 : decode cX11_laysCorner 328 = .ok (.aload_n 0, 1) := by decide +kernel
theorem dX11_laysCorner_329 : decode cX11_laysCorner 329 = .ok (.getfield 618, 3) := by decide +kernel
theorem dX11_laysCorner_332 : decode cX11_laysCorner 332 = .ok (.lneg, 1) := by decide +kernel
theorem dX11_laysCorner_333 : decode cX11_laysCorner 333 = .ok (.putfield 618, 3) := by decide +kernel
theorem dX11_laysCorner_336 : decode cX11_laysCorner 336 = .ok (.aload_n 0, 1) := by decide +kernel
theorem dX11_laysCorner_337 : decode cX11_laysCorner 337 = .ok (.aload_n 0, 1) := by decide +kernel
theorem dX11_laysCorner_338 : decode cX11_laysCorner 338 = .ok (.getfield 621, 3) := by decide +kernel
theorem dX11_laysCorner_341 : decode cX11_laysCorner 341 = .ok (.lneg, 1) := by decide +kernel
theorem dX11_laysCorner_342 : decode cX11_laysCorner 342 = .ok (.putfield 621, 3) := by decide +kernel
theorem dX11_laysCorner_345 : decode cX11_laysCorner 345 = .ok (.aload_n 0, 1) := by decide +kernel
theorem dX11_laysCorner_346 : decode cX11_laysCorner 346 = .ok (.aload_n 0, 1) := by decide +kernel
theorem dX11_laysCorner_347 : decode cX11_laysCorner 347 = .ok (.getfield 624, 3) := by decide +kernel
theorem dX11_laysCorner_350 : decode cX11_laysCorner 350 = .ok (.lneg, 1) := by decide +kernel
theorem dX11_laysCorner_351 : decode cX11_laysCorner 351 = .ok (.putfield 624, 3) := by decide +kernel
theorem dX11_laysCorner_354 : decode cX11_laysCorner 354 = .ok (.iconst 1, 1) := by decide +kernel
theorem dX11_laysCorner_355 : decode cX11_laysCorner 355 = .ok (.ireturn, 1) := by decide +kernel
def mM_laysCorner_196  (v6 : Int64) (v8 : Int64) (v10 : Int64) (v12 : Int64) (v14 : Int64) (v16 : Int64) (v18 : Int64) (v20 : Int64) (v22 : Int64) (v24 : Int64) (v26 : Int64) (vs0 : Int64) (I : hI) (J : hJ) : Option (Int32 × hJ) :=
  h_let (h_u J 0 92 (mM_three v6 v8 v10 v14 v16 v18 v22 v24 v26)) fun J1 =>
  if (J1 0 92) = (0 : Int64) then
    some ((0 : Int32), J1)
  else
    (h_let (h_u J1 0 89 (mM_three v12 v8 v10 v20 v16 v18 vs0 v24 v26)) fun J2 =>
    h_let (h_u J2 0 90 (mM_three v6 v12 v10 v14 v20 v18 v22 vs0 v26)) fun J3 =>
    h_let (h_u J3 0 91 (mM_three v6 v8 v12 v14 v16 v20 v22 v24 vs0)) fun J4 =>
    if (0 : Int64) ≤ (J4 0 92) then
      some ((1 : Int32), J4)
    else
      (h_let (h_u J4 0 92 (-(J4 0 92))) fun J5 =>
      h_let (h_u J5 0 89 (-(J5 0 89))) fun J6 =>
      h_let (h_u J6 0 90 (-(J6 0 90))) fun J7 =>
      h_let (h_u J7 0 91 (-(J7 0 91))) fun J8 =>
      some ((1 : Int32), J8)))
set_option maxHeartbeats 4000000 in
theorem sM_laysCorner_196 (d : Nat) (hd : 0 + 1 ≤ d) (v6 : Int64) (v8 : Int64) (v10 : Int64) (v12 : Int64) (v14 : Int64) (v16 : Int64) (v18 : Int64) (v20 : Int64) (v22 : Int64) (v24 : Int64) (v26 : Int64) (vs0 : Int64) (I : hI) (J : hJ) (q : Int32 × hJ) (h : mM_laysCorner_196 v6 v8 v10 v12 v14 v16 v18 v20 v22 v24 v26 vs0 I J = some q) : AW hFT cX11_laysCorner 30 (some .boolean) RX11 kdM d [(0, .ref 0), (6, .long v6), (8, .long v8), (10, .long v10), (12, .long v12), (14, .long v14), (16, .long v16), (18, .long v18), (20, .long v20), (22, .long v22), (24, .long v24), (26, .long v26)] 196 [.long vs0] (I, J, RMm) (some (.int q.1)) (I, q.2, RMm) := by
  obtain ⟨d0, rfl, hd0⟩ := h_mono hd
  unfold mM_laysCorner_196 at h
  refine a_lstore (lv' := [(28, .long vs0), (0, .ref 0), (6, .long v6), (8, .long v8), (10, .long v10), (12, .long v12), (14, .long v14), (16, .long v16), (18, .long v18), (20, .long v20), (22, .long v22), (24, .long v24), (26, .long v26)]) dX11_laysCorner_196 (by decide) rfl ?_
  refine a_aload_n dX11_laysCorner_198 rfl rfl ?_
  refine a_lload dX11_laysCorner_199 rfl ?_
  refine a_lload dX11_laysCorner_201 rfl ?_
  refine a_lload dX11_laysCorner_203 rfl ?_
  refine a_lload dX11_laysCorner_205 rfl ?_
  refine a_lload dX11_laysCorner_207 rfl ?_
  refine a_lload dX11_laysCorner_209 rfl ?_
  refine a_lload dX11_laysCorner_211 rfl ?_
  refine a_lload dX11_laysCorner_213 rfl ?_
  refine a_lload dX11_laysCorner_215 rfl ?_
  refine a_callS1 [.ref 0] yy_X11_three ml_11_610 (sM_three _ (by omega) v6 v8 v10 v14 v16 v18 v22 v24 v26 I J _ rfl) rfl rfl (Nat.le_of_ble_eq_true rfl) dX11_laysCorner_217 ?_
  refine b_putJ hK_11 km_0 (i := 92) rfl fl_11_614 rfl rfl (h_NJ _) dX11_laysCorner_220 ?_
  obtain ⟨J1, eJ1, h⟩ := h_letS h
  refine a_memJ eJ1 ?_
  refine a_aload_n dX11_laysCorner_223 rfl rfl ?_
  refine b_getJ hK_11 km_0 (i := 92) rfl fl_11_614 rfl dX11_laysCorner_224 ?_
  refine a_lconst dX11_laysCorner_227 lc_0 ?_
  refine a_lcmp_ne (tgt := 234) dX11_laysCorner_228 dX11_laysCorner_229 (by decide) (fun c => ?_) (fun c => ?_)
  · replace h := h_iteF c h
    refine a_aload_n dX11_laysCorner_234 rfl rfl ?_
    refine a_lload dX11_laysCorner_235 rfl ?_
    refine a_lload dX11_laysCorner_237 rfl ?_
    refine a_lload dX11_laysCorner_239 rfl ?_
    refine a_lload dX11_laysCorner_241 rfl ?_
    refine a_lload dX11_laysCorner_243 rfl ?_
    refine a_lload dX11_laysCorner_245 rfl ?_
    refine a_lload dX11_laysCorner_247 rfl ?_
    refine a_lload dX11_laysCorner_249 rfl ?_
    refine a_lload dX11_laysCorner_251 rfl ?_
    refine a_callS1 [.ref 0] yy_X11_three ml_11_610 (sM_three _ (by omega) v12 v8 v10 v20 v16 v18 vs0 v24 v26 I J1 _ rfl) rfl rfl (Nat.le_of_ble_eq_true rfl) dX11_laysCorner_253 ?_
    refine b_putJ hK_11 km_0 (i := 89) rfl fl_11_618 rfl rfl (h_NJ _) dX11_laysCorner_256 ?_
    obtain ⟨J2, eJ2, h⟩ := h_letS h
    refine a_memJ eJ2 ?_
    refine a_aload_n dX11_laysCorner_259 rfl rfl ?_
    refine a_lload dX11_laysCorner_260 rfl ?_
    refine a_lload dX11_laysCorner_262 rfl ?_
    refine a_lload dX11_laysCorner_264 rfl ?_
    refine a_lload dX11_laysCorner_266 rfl ?_
    refine a_lload dX11_laysCorner_268 rfl ?_
    refine a_lload dX11_laysCorner_270 rfl ?_
    refine a_lload dX11_laysCorner_272 rfl ?_
    refine a_lload dX11_laysCorner_274 rfl ?_
    refine a_lload dX11_laysCorner_276 rfl ?_
    refine a_callS1 [.ref 0] yy_X11_three ml_11_610 (sM_three _ (by omega) v6 v12 v10 v14 v20 v18 v22 vs0 v26 I J2 _ rfl) rfl rfl (Nat.le_of_ble_eq_true rfl) dX11_laysCorner_278 ?_
    refine b_putJ hK_11 km_0 (i := 90) rfl fl_11_621 rfl rfl (h_NJ _) dX11_laysCorner_281 ?_
    obtain ⟨J3, eJ3, h⟩ := h_letS h
    refine a_memJ eJ3 ?_
    refine a_aload_n dX11_laysCorner_284 rfl rfl ?_
    refine a_lload dX11_laysCorner_285 rfl ?_
    refine a_lload dX11_laysCorner_287 rfl ?_
    refine a_lload dX11_laysCorner_289 rfl ?_
    refine a_lload dX11_laysCorner_291 rfl ?_
    refine a_lload dX11_laysCorner_293 rfl ?_
    refine a_lload dX11_laysCorner_295 rfl ?_
    refine a_lload dX11_laysCorner_297 rfl ?_
    refine a_lload dX11_laysCorner_299 rfl ?_
    refine a_lload dX11_laysCorner_301 rfl ?_
    refine a_callS1 [.ref 0] yy_X11_three ml_11_610 (sM_three _ (by omega) v6 v8 v12 v14 v16 v20 v22 v24 vs0 I J3 _ rfl) rfl rfl (Nat.le_of_ble_eq_true rfl) dX11_laysCorner_303 ?_
    refine b_putJ hK_11 km_0 (i := 91) rfl fl_11_624 rfl rfl (h_NJ _) dX11_laysCorner_306 ?_
    obtain ⟨J4, eJ4, h⟩ := h_letS h
    refine a_memJ eJ4 ?_
    refine a_aload_n dX11_laysCorner_309 rfl rfl ?_
    refine b_getJ hK_11 km_0 (i := 92) rfl fl_11_614 rfl dX11_laysCorner_310 ?_
    refine a_lconst dX11_laysCorner_313 lc_0 ?_
    refine a_lcmp_ge (tgt := 354) dX11_laysCorner_314 dX11_laysCorner_315 (by decide) (fun c => ?_) (fun c => ?_)
    · replace h := h_iteT c h
      refine a_iconst dX11_laysCorner_354 ic_1 ?_
      cases h
      exact a_zret (h_Z1.1) dX11_laysCorner_355
    · replace h := h_iteF c h
      refine a_aload_n dX11_laysCorner_318 rfl rfl ?_
      refine a_aload_n dX11_laysCorner_319 rfl rfl ?_
      refine b_getJ hK_11 km_0 (i := 92) rfl fl_11_614 rfl dX11_laysCorner_320 ?_
      refine a_lneg dX11_laysCorner_323 ?_
      refine b_putJ hK_11 km_0 (i := 92) rfl fl_11_614 rfl rfl (h_NJ _) dX11_laysCorner_324 ?_
      obtain ⟨J5, eJ5, h⟩ := h_letS h
      refine a_memJ eJ5 ?_
      refine a_aload_n dX11_laysCorner_327 rfl rfl ?_
      refine a_aload_n dX11_laysCorner_328 rfl rfl ?_
      refine b_getJ hK_11 km_0 (i := 89) rfl fl_11_618 rfl dX11_laysCorner_329 ?_
      refine a_lneg dX11_laysCorner_332 ?_
      refine b_putJ hK_11 km_0 (i := 89) rfl fl_11_618 rfl rfl (h_NJ _) dX11_laysCorner_333 ?_
      obtain ⟨J6, eJ6, h⟩ := h_letS h
      refine a_memJ eJ6 ?_
      refine a_aload_n dX11_laysCorner_336 rfl rfl ?_
      refine a_aload_n dX11_laysCorner_337 rfl rfl ?_
      refine b_getJ hK_11 km_0 (i := 90) rfl fl_11_621 rfl dX11_laysCorner_338 ?_
      refine a_lneg dX11_laysCorner_341 ?_
      refine b_putJ hK_11 km_0 (i := 90) rfl fl_11_621 rfl rfl (h_NJ _) dX11_laysCorner_342 ?_
      obtain ⟨J7, eJ7, h⟩ := h_letS h
      refine a_memJ eJ7 ?_
      refine a_aload_n dX11_laysCorner_345 rfl rfl ?_
      refine a_aload_n dX11_laysCorner_346 rfl rfl ?_
      refine b_getJ hK_11 km_0 (i := 91) rfl fl_11_624 rfl dX11_laysCorner_347 ?_
      refine a_lneg dX11_laysCorner_350 ?_
      refine b_putJ hK_11 km_0 (i := 91) rfl fl_11_624 rfl rfl (h_NJ _) dX11_laysCorner_351 ?_
      obtain ⟨J8, eJ8, h⟩ := h_letS h
      refine a_memJ eJ8 ?_
      refine a_iconst dX11_laysCorner_354 ic_1 ?_
      cases h
      exact a_zret (h_Z1.1) dX11_laysCorner_355
  · replace h := h_iteT c h
    refine a_iconst dX11_laysCorner_232 ic_0 ?_
    cases h
    exact a_zret (h_Z0.1) dX11_laysCorner_233
def mM_laysCorner_179  (v3 : Int32) (v5 : Int32) (v6 : Int64) (v8 : Int64) (v10 : Int64) (v12 : Int64) (v14 : Int64) (v16 : Int64) (v18 : Int64) (v20 : Int64) (v22 : Int64) (v24 : Int64) (vs0 : Int64) (I : hI) (J : hJ) : Option (Int32 × hJ) :=
  if v5 = 0 then
    mM_laysCorner_196 v6 v8 v10 v12 v14 v16 v18 v20 v22 v24 vs0 (0 : Int64) I J
  else
    (h_g (h_in v3 100) <|
    mM_laysCorner_196 v6 v8 v10 v12 v14 v16 v18 v20 v22 v24 vs0 (J 48 v3.toNatClampNeg) I J)
set_option maxHeartbeats 4000000 in
theorem sM_laysCorner_179 (d : Nat) (hd : 0 + 1 ≤ d) (v3 : Int32) (v5 : Int32) (v6 : Int64) (v8 : Int64) (v10 : Int64) (v12 : Int64) (v14 : Int64) (v16 : Int64) (v18 : Int64) (v20 : Int64) (v22 : Int64) (v24 : Int64) (vs0 : Int64) (I : hI) (J : hJ) (q : Int32 × hJ) (h : mM_laysCorner_179 v3 v5 v6 v8 v10 v12 v14 v16 v18 v20 v22 v24 vs0 I J = some q) : AW hFT cX11_laysCorner 30 (some .boolean) RX11 kdM d [(0, .ref 0), (3, .int v3), (5, .int v5), (6, .long v6), (8, .long v8), (10, .long v10), (12, .long v12), (14, .long v14), (16, .long v16), (18, .long v18), (20, .long v20), (22, .long v22), (24, .long v24)] 179 [.long vs0] (I, J, RMm) (some (.int q.1)) (I, q.2, RMm) := by
  obtain ⟨d0, rfl, hd0⟩ := h_mono hd
  unfold mM_laysCorner_179 at h
  refine a_lstore (lv' := [(26, .long vs0), (0, .ref 0), (3, .int v3), (5, .int v5), (6, .long v6), (8, .long v8), (10, .long v10), (12, .long v12), (14, .long v14), (16, .long v16), (18, .long v18), (20, .long v20), (22, .long v22), (24, .long v24)]) dX11_laysCorner_179 (by decide) rfl ?_
  refine a_iload dX11_laysCorner_181 rfl ?_
  refine a_if_eq (tgt := 195) dX11_laysCorner_183 (by decide) (fun c => ?_) (fun c => ?_)
  · replace h := h_iteT c h
    refine a_lconst dX11_laysCorner_195 lc_0 ?_
    refine a_sub (lv' := [(0, .ref 0), (6, .long v6), (8, .long v8), (10, .long v10), (12, .long v12), (14, .long v14), (16, .long v16), (18, .long v18), (20, .long v20), (22, .long v22), (24, .long v24), (26, .long vs0)]) [1, 4, 5, 6, 7, 8, 9, 10, 11, 12, 13, 0] rfl ?_
    exact sM_laysCorner_196 (d0 + 1) (by omega) v6 v8 v10 v12 v14 v16 v18 v20 v22 v24 vs0 (0 : Int64) I J _ h
  · replace h := h_iteF c h
    refine a_aload_n dX11_laysCorner_186 rfl rfl ?_
    refine b_getR hK_11 km_0 (i := 87) rfl fl_11_153 rfl rmm_87 dX11_laysCorner_187 ?_
    refine a_iload_n dX11_laysCorner_190 rfl rfl ?_
    obtain ⟨g1, h⟩ := h_gS h
    refine b_laload km_48 (h_inV g1) dX11_laysCorner_191 ?_
    refine a_goto (tgt := 196) dX11_laysCorner_192 (by decide) ?_
    refine a_sub (lv' := [(0, .ref 0), (6, .long v6), (8, .long v8), (10, .long v10), (12, .long v12), (14, .long v14), (16, .long v16), (18, .long v18), (20, .long v20), (22, .long v22), (24, .long v24), (26, .long vs0)]) [1, 4, 5, 6, 7, 8, 9, 10, 11, 12, 13, 0] rfl ?_
    exact sM_laysCorner_196 (d0 + 1) (by omega) v6 v8 v10 v12 v14 v16 v18 v20 v22 v24 vs0 (J 48 v3.toNatClampNeg) I J _ h
def mM_laysCorner_162  (v3 : Int32) (v5 : Int32) (v6 : Int64) (v8 : Int64) (v10 : Int64) (v12 : Int64) (v14 : Int64) (v16 : Int64) (v18 : Int64) (v20 : Int64) (v22 : Int64) (vs0 : Int64) (I : hI) (J : hJ) : Option (Int32 × hJ) :=
  if v5 = 0 then
    mM_laysCorner_179 v3 v5 v6 v8 v10 v12 v14 v16 v18 v20 v22 vs0 (0 : Int64) I J
  else
    (h_g (h_in v3 100) <|
    mM_laysCorner_179 v3 v5 v6 v8 v10 v12 v14 v16 v18 v20 v22 vs0 (J 47 v3.toNatClampNeg) I J)
set_option maxHeartbeats 4000000 in
theorem sM_laysCorner_162 (d : Nat) (hd : 0 + 1 ≤ d) (v3 : Int32) (v5 : Int32) (v6 : Int64) (v8 : Int64) (v10 : Int64) (v12 : Int64) (v14 : Int64) (v16 : Int64) (v18 : Int64) (v20 : Int64) (v22 : Int64) (vs0 : Int64) (I : hI) (J : hJ) (q : Int32 × hJ) (h : mM_laysCorner_162 v3 v5 v6 v8 v10 v12 v14 v16 v18 v20 v22 vs0 I J = some q) : AW hFT cX11_laysCorner 30 (some .boolean) RX11 kdM d [(0, .ref 0), (3, .int v3), (5, .int v5), (6, .long v6), (8, .long v8), (10, .long v10), (12, .long v12), (14, .long v14), (16, .long v16), (18, .long v18), (20, .long v20), (22, .long v22)] 162 [.long vs0] (I, J, RMm) (some (.int q.1)) (I, q.2, RMm) := by
  obtain ⟨d0, rfl, hd0⟩ := h_mono hd
  unfold mM_laysCorner_162 at h
  refine a_lstore (lv' := [(24, .long vs0), (0, .ref 0), (3, .int v3), (5, .int v5), (6, .long v6), (8, .long v8), (10, .long v10), (12, .long v12), (14, .long v14), (16, .long v16), (18, .long v18), (20, .long v20), (22, .long v22)]) dX11_laysCorner_162 (by decide) rfl ?_
  refine a_iload dX11_laysCorner_164 rfl ?_
  refine a_if_eq (tgt := 178) dX11_laysCorner_166 (by decide) (fun c => ?_) (fun c => ?_)
  · replace h := h_iteT c h
    refine a_lconst dX11_laysCorner_178 lc_0 ?_
    refine a_sub (lv' := [(0, .ref 0), (3, .int v3), (5, .int v5), (6, .long v6), (8, .long v8), (10, .long v10), (12, .long v12), (14, .long v14), (16, .long v16), (18, .long v18), (20, .long v20), (22, .long v22), (24, .long vs0)]) [1, 2, 3, 4, 5, 6, 7, 8, 9, 10, 11, 12, 0] rfl ?_
    exact sM_laysCorner_179 (d0 + 1) (by omega) v3 v5 v6 v8 v10 v12 v14 v16 v18 v20 v22 vs0 (0 : Int64) I J _ h
  · replace h := h_iteF c h
    refine a_aload_n dX11_laysCorner_169 rfl rfl ?_
    refine b_getR hK_11 km_0 (i := 86) rfl fl_11_150 rfl rmm_86 dX11_laysCorner_170 ?_
    refine a_iload_n dX11_laysCorner_173 rfl rfl ?_
    obtain ⟨g1, h⟩ := h_gS h
    refine b_laload km_47 (h_inV g1) dX11_laysCorner_174 ?_
    refine a_goto (tgt := 179) dX11_laysCorner_175 (by decide) ?_
    refine a_sub (lv' := [(0, .ref 0), (3, .int v3), (5, .int v5), (6, .long v6), (8, .long v8), (10, .long v10), (12, .long v12), (14, .long v14), (16, .long v16), (18, .long v18), (20, .long v20), (22, .long v22), (24, .long vs0)]) [1, 2, 3, 4, 5, 6, 7, 8, 9, 10, 11, 12, 0] rfl ?_
    exact sM_laysCorner_179 (d0 + 1) (by omega) v3 v5 v6 v8 v10 v12 v14 v16 v18 v20 v22 vs0 (J 47 v3.toNatClampNeg) I J _ h
def mM_laysCorner_145  (v3 : Int32) (v5 : Int32) (v6 : Int64) (v8 : Int64) (v10 : Int64) (v12 : Int64) (v14 : Int64) (v16 : Int64) (v18 : Int64) (v20 : Int64) (vs0 : Int64) (I : hI) (J : hJ) : Option (Int32 × hJ) :=
  if v5 = 0 then
    mM_laysCorner_162 v3 v5 v6 v8 v10 v12 v14 v16 v18 v20 vs0 (1 : Int64) I J
  else
    (h_g (h_in v3 100) <|
    mM_laysCorner_162 v3 v5 v6 v8 v10 v12 v14 v16 v18 v20 vs0 (J 46 v3.toNatClampNeg) I J)
set_option maxHeartbeats 4000000 in
theorem sM_laysCorner_145 (d : Nat) (hd : 0 + 1 ≤ d) (v3 : Int32) (v5 : Int32) (v6 : Int64) (v8 : Int64) (v10 : Int64) (v12 : Int64) (v14 : Int64) (v16 : Int64) (v18 : Int64) (v20 : Int64) (vs0 : Int64) (I : hI) (J : hJ) (q : Int32 × hJ) (h : mM_laysCorner_145 v3 v5 v6 v8 v10 v12 v14 v16 v18 v20 vs0 I J = some q) : AW hFT cX11_laysCorner 30 (some .boolean) RX11 kdM d [(0, .ref 0), (3, .int v3), (5, .int v5), (6, .long v6), (8, .long v8), (10, .long v10), (12, .long v12), (14, .long v14), (16, .long v16), (18, .long v18), (20, .long v20)] 145 [.long vs0] (I, J, RMm) (some (.int q.1)) (I, q.2, RMm) := by
  obtain ⟨d0, rfl, hd0⟩ := h_mono hd
  unfold mM_laysCorner_145 at h
  refine a_lstore (lv' := [(22, .long vs0), (0, .ref 0), (3, .int v3), (5, .int v5), (6, .long v6), (8, .long v8), (10, .long v10), (12, .long v12), (14, .long v14), (16, .long v16), (18, .long v18), (20, .long v20)]) dX11_laysCorner_145 (by decide) rfl ?_
  refine a_iload dX11_laysCorner_147 rfl ?_
  refine a_if_eq (tgt := 161) dX11_laysCorner_149 (by decide) (fun c => ?_) (fun c => ?_)
  · replace h := h_iteT c h
    refine a_lconst dX11_laysCorner_161 lc_1 ?_
    refine a_sub (lv' := [(0, .ref 0), (3, .int v3), (5, .int v5), (6, .long v6), (8, .long v8), (10, .long v10), (12, .long v12), (14, .long v14), (16, .long v16), (18, .long v18), (20, .long v20), (22, .long vs0)]) [1, 2, 3, 4, 5, 6, 7, 8, 9, 10, 11, 0] rfl ?_
    exact sM_laysCorner_162 (d0 + 1) (by omega) v3 v5 v6 v8 v10 v12 v14 v16 v18 v20 vs0 (1 : Int64) I J _ h
  · replace h := h_iteF c h
    refine a_aload_n dX11_laysCorner_152 rfl rfl ?_
    refine b_getR hK_11 km_0 (i := 85) rfl fl_11_147 rfl rmm_85 dX11_laysCorner_153 ?_
    refine a_iload_n dX11_laysCorner_156 rfl rfl ?_
    obtain ⟨g1, h⟩ := h_gS h
    refine b_laload km_46 (h_inV g1) dX11_laysCorner_157 ?_
    refine a_goto (tgt := 162) dX11_laysCorner_158 (by decide) ?_
    refine a_sub (lv' := [(0, .ref 0), (3, .int v3), (5, .int v5), (6, .long v6), (8, .long v8), (10, .long v10), (12, .long v12), (14, .long v14), (16, .long v16), (18, .long v18), (20, .long v20), (22, .long vs0)]) [1, 2, 3, 4, 5, 6, 7, 8, 9, 10, 11, 0] rfl ?_
    exact sM_laysCorner_162 (d0 + 1) (by omega) v3 v5 v6 v8 v10 v12 v14 v16 v18 v20 vs0 (J 46 v3.toNatClampNeg) I J _ h
def mM_laysCorner_128  (v3 : Int32) (v5 : Int32) (v6 : Int64) (v8 : Int64) (v10 : Int64) (v12 : Int64) (v14 : Int64) (v16 : Int64) (v18 : Int64) (vs0 : Int64) (I : hI) (J : hJ) : Option (Int32 × hJ) :=
  if v5 = 0 then
    mM_laysCorner_145 v3 v5 v6 v8 v10 v12 v14 v16 v18 vs0 (0 : Int64) I J
  else
    (h_g (h_in v3 100) <|
    mM_laysCorner_145 v3 v5 v6 v8 v10 v12 v14 v16 v18 vs0 (J 45 v3.toNatClampNeg) I J)
set_option maxHeartbeats 4000000 in
theorem sM_laysCorner_128 (d : Nat) (hd : 0 + 1 ≤ d) (v3 : Int32) (v5 : Int32) (v6 : Int64) (v8 : Int64) (v10 : Int64) (v12 : Int64) (v14 : Int64) (v16 : Int64) (v18 : Int64) (vs0 : Int64) (I : hI) (J : hJ) (q : Int32 × hJ) (h : mM_laysCorner_128 v3 v5 v6 v8 v10 v12 v14 v16 v18 vs0 I J = some q) : AW hFT cX11_laysCorner 30 (some .boolean) RX11 kdM d [(0, .ref 0), (3, .int v3), (5, .int v5), (6, .long v6), (8, .long v8), (10, .long v10), (12, .long v12), (14, .long v14), (16, .long v16), (18, .long v18)] 128 [.long vs0] (I, J, RMm) (some (.int q.1)) (I, q.2, RMm) := by
  obtain ⟨d0, rfl, hd0⟩ := h_mono hd
  unfold mM_laysCorner_128 at h
  refine a_lstore (lv' := [(20, .long vs0), (0, .ref 0), (3, .int v3), (5, .int v5), (6, .long v6), (8, .long v8), (10, .long v10), (12, .long v12), (14, .long v14), (16, .long v16), (18, .long v18)]) dX11_laysCorner_128 (by decide) rfl ?_
  refine a_iload dX11_laysCorner_130 rfl ?_
  refine a_if_eq (tgt := 144) dX11_laysCorner_132 (by decide) (fun c => ?_) (fun c => ?_)
  · replace h := h_iteT c h
    refine a_lconst dX11_laysCorner_144 lc_0 ?_
    refine a_sub (lv' := [(0, .ref 0), (3, .int v3), (5, .int v5), (6, .long v6), (8, .long v8), (10, .long v10), (12, .long v12), (14, .long v14), (16, .long v16), (18, .long v18), (20, .long vs0)]) [1, 2, 3, 4, 5, 6, 7, 8, 9, 10, 0] rfl ?_
    exact sM_laysCorner_145 (d0 + 1) (by omega) v3 v5 v6 v8 v10 v12 v14 v16 v18 vs0 (0 : Int64) I J _ h
  · replace h := h_iteF c h
    refine a_aload_n dX11_laysCorner_135 rfl rfl ?_
    refine b_getR hK_11 km_0 (i := 84) rfl fl_11_144 rfl rmm_84 dX11_laysCorner_136 ?_
    refine a_iload_n dX11_laysCorner_139 rfl rfl ?_
    obtain ⟨g1, h⟩ := h_gS h
    refine b_laload km_45 (h_inV g1) dX11_laysCorner_140 ?_
    refine a_goto (tgt := 145) dX11_laysCorner_141 (by decide) ?_
    refine a_sub (lv' := [(0, .ref 0), (3, .int v3), (5, .int v5), (6, .long v6), (8, .long v8), (10, .long v10), (12, .long v12), (14, .long v14), (16, .long v16), (18, .long v18), (20, .long vs0)]) [1, 2, 3, 4, 5, 6, 7, 8, 9, 10, 0] rfl ?_
    exact sM_laysCorner_145 (d0 + 1) (by omega) v3 v5 v6 v8 v10 v12 v14 v16 v18 vs0 (J 45 v3.toNatClampNeg) I J _ h
def mM_laysCorner_111  (v2 : Int32) (v3 : Int32) (v4 : Int32) (v5 : Int32) (v6 : Int64) (v8 : Int64) (v10 : Int64) (v12 : Int64) (v14 : Int64) (v16 : Int64) (vs0 : Int64) (I : hI) (J : hJ) : Option (Int32 × hJ) :=
  if v4 = 0 then
    mM_laysCorner_128 v3 v5 v6 v8 v10 v12 v14 v16 vs0 (0 : Int64) I J
  else
    (h_g (h_in v2 100) <|
    mM_laysCorner_128 v3 v5 v6 v8 v10 v12 v14 v16 vs0 (J 48 v2.toNatClampNeg) I J)
set_option maxHeartbeats 4000000 in
theorem sM_laysCorner_111 (d : Nat) (hd : 0 + 1 ≤ d) (v2 : Int32) (v3 : Int32) (v4 : Int32) (v5 : Int32) (v6 : Int64) (v8 : Int64) (v10 : Int64) (v12 : Int64) (v14 : Int64) (v16 : Int64) (vs0 : Int64) (I : hI) (J : hJ) (q : Int32 × hJ) (h : mM_laysCorner_111 v2 v3 v4 v5 v6 v8 v10 v12 v14 v16 vs0 I J = some q) : AW hFT cX11_laysCorner 30 (some .boolean) RX11 kdM d [(0, .ref 0), (2, .int v2), (3, .int v3), (4, .int v4), (5, .int v5), (6, .long v6), (8, .long v8), (10, .long v10), (12, .long v12), (14, .long v14), (16, .long v16)] 111 [.long vs0] (I, J, RMm) (some (.int q.1)) (I, q.2, RMm) := by
  obtain ⟨d0, rfl, hd0⟩ := h_mono hd
  unfold mM_laysCorner_111 at h
  refine a_lstore (lv' := [(18, .long vs0), (0, .ref 0), (2, .int v2), (3, .int v3), (4, .int v4), (5, .int v5), (6, .long v6), (8, .long v8), (10, .long v10), (12, .long v12), (14, .long v14), (16, .long v16)]) dX11_laysCorner_111 (by decide) rfl ?_
  refine a_iload dX11_laysCorner_113 rfl ?_
  refine a_if_eq (tgt := 127) dX11_laysCorner_115 (by decide) (fun c => ?_) (fun c => ?_)
  · replace h := h_iteT c h
    refine a_lconst dX11_laysCorner_127 lc_0 ?_
    refine a_sub (lv' := [(0, .ref 0), (3, .int v3), (5, .int v5), (6, .long v6), (8, .long v8), (10, .long v10), (12, .long v12), (14, .long v14), (16, .long v16), (18, .long vs0)]) [1, 3, 5, 6, 7, 8, 9, 10, 11, 0] rfl ?_
    exact sM_laysCorner_128 (d0 + 1) (by omega) v3 v5 v6 v8 v10 v12 v14 v16 vs0 (0 : Int64) I J _ h
  · replace h := h_iteF c h
    refine a_aload_n dX11_laysCorner_118 rfl rfl ?_
    refine b_getR hK_11 km_0 (i := 87) rfl fl_11_153 rfl rmm_87 dX11_laysCorner_119 ?_
    refine a_iload_n dX11_laysCorner_122 rfl rfl ?_
    obtain ⟨g1, h⟩ := h_gS h
    refine b_laload km_48 (h_inV g1) dX11_laysCorner_123 ?_
    refine a_goto (tgt := 128) dX11_laysCorner_124 (by decide) ?_
    refine a_sub (lv' := [(0, .ref 0), (3, .int v3), (5, .int v5), (6, .long v6), (8, .long v8), (10, .long v10), (12, .long v12), (14, .long v14), (16, .long v16), (18, .long vs0)]) [1, 3, 5, 6, 7, 8, 9, 10, 11, 0] rfl ?_
    exact sM_laysCorner_128 (d0 + 1) (by omega) v3 v5 v6 v8 v10 v12 v14 v16 vs0 (J 48 v2.toNatClampNeg) I J _ h
def mM_laysCorner_94  (v2 : Int32) (v3 : Int32) (v4 : Int32) (v5 : Int32) (v6 : Int64) (v8 : Int64) (v10 : Int64) (v12 : Int64) (v14 : Int64) (vs0 : Int64) (I : hI) (J : hJ) : Option (Int32 × hJ) :=
  if v4 = 0 then
    mM_laysCorner_111 v2 v3 v4 v5 v6 v8 v10 v12 v14 vs0 (0 : Int64) I J
  else
    (h_g (h_in v2 100) <|
    mM_laysCorner_111 v2 v3 v4 v5 v6 v8 v10 v12 v14 vs0 (J 47 v2.toNatClampNeg) I J)
set_option maxHeartbeats 4000000 in
theorem sM_laysCorner_94 (d : Nat) (hd : 0 + 1 ≤ d) (v2 : Int32) (v3 : Int32) (v4 : Int32) (v5 : Int32) (v6 : Int64) (v8 : Int64) (v10 : Int64) (v12 : Int64) (v14 : Int64) (vs0 : Int64) (I : hI) (J : hJ) (q : Int32 × hJ) (h : mM_laysCorner_94 v2 v3 v4 v5 v6 v8 v10 v12 v14 vs0 I J = some q) : AW hFT cX11_laysCorner 30 (some .boolean) RX11 kdM d [(0, .ref 0), (2, .int v2), (3, .int v3), (4, .int v4), (5, .int v5), (6, .long v6), (8, .long v8), (10, .long v10), (12, .long v12), (14, .long v14)] 94 [.long vs0] (I, J, RMm) (some (.int q.1)) (I, q.2, RMm) := by
  obtain ⟨d0, rfl, hd0⟩ := h_mono hd
  unfold mM_laysCorner_94 at h
  refine a_lstore (lv' := [(16, .long vs0), (0, .ref 0), (2, .int v2), (3, .int v3), (4, .int v4), (5, .int v5), (6, .long v6), (8, .long v8), (10, .long v10), (12, .long v12), (14, .long v14)]) dX11_laysCorner_94 (by decide) rfl ?_
  refine a_iload dX11_laysCorner_96 rfl ?_
  refine a_if_eq (tgt := 110) dX11_laysCorner_98 (by decide) (fun c => ?_) (fun c => ?_)
  · replace h := h_iteT c h
    refine a_lconst dX11_laysCorner_110 lc_0 ?_
    refine a_sub (lv' := [(0, .ref 0), (2, .int v2), (3, .int v3), (4, .int v4), (5, .int v5), (6, .long v6), (8, .long v8), (10, .long v10), (12, .long v12), (14, .long v14), (16, .long vs0)]) [1, 2, 3, 4, 5, 6, 7, 8, 9, 10, 0] rfl ?_
    exact sM_laysCorner_111 (d0 + 1) (by omega) v2 v3 v4 v5 v6 v8 v10 v12 v14 vs0 (0 : Int64) I J _ h
  · replace h := h_iteF c h
    refine a_aload_n dX11_laysCorner_101 rfl rfl ?_
    refine b_getR hK_11 km_0 (i := 86) rfl fl_11_150 rfl rmm_86 dX11_laysCorner_102 ?_
    refine a_iload_n dX11_laysCorner_105 rfl rfl ?_
    obtain ⟨g1, h⟩ := h_gS h
    refine b_laload km_47 (h_inV g1) dX11_laysCorner_106 ?_
    refine a_goto (tgt := 111) dX11_laysCorner_107 (by decide) ?_
    refine a_sub (lv' := [(0, .ref 0), (2, .int v2), (3, .int v3), (4, .int v4), (5, .int v5), (6, .long v6), (8, .long v8), (10, .long v10), (12, .long v12), (14, .long v14), (16, .long vs0)]) [1, 2, 3, 4, 5, 6, 7, 8, 9, 10, 0] rfl ?_
    exact sM_laysCorner_111 (d0 + 1) (by omega) v2 v3 v4 v5 v6 v8 v10 v12 v14 vs0 (J 47 v2.toNatClampNeg) I J _ h
def mM_laysCorner_77  (v2 : Int32) (v3 : Int32) (v4 : Int32) (v5 : Int32) (v6 : Int64) (v8 : Int64) (v10 : Int64) (v12 : Int64) (vs0 : Int64) (I : hI) (J : hJ) : Option (Int32 × hJ) :=
  if v4 = 0 then
    mM_laysCorner_94 v2 v3 v4 v5 v6 v8 v10 v12 vs0 (0 : Int64) I J
  else
    (h_g (h_in v2 100) <|
    mM_laysCorner_94 v2 v3 v4 v5 v6 v8 v10 v12 vs0 (J 46 v2.toNatClampNeg) I J)
set_option maxHeartbeats 4000000 in
theorem sM_laysCorner_77 (d : Nat) (hd : 0 + 1 ≤ d) (v2 : Int32) (v3 : Int32) (v4 : Int32) (v5 : Int32) (v6 : Int64) (v8 : Int64) (v10 : Int64) (v12 : Int64) (vs0 : Int64) (I : hI) (J : hJ) (q : Int32 × hJ) (h : mM_laysCorner_77 v2 v3 v4 v5 v6 v8 v10 v12 vs0 I J = some q) : AW hFT cX11_laysCorner 30 (some .boolean) RX11 kdM d [(0, .ref 0), (2, .int v2), (3, .int v3), (4, .int v4), (5, .int v5), (6, .long v6), (8, .long v8), (10, .long v10), (12, .long v12)] 77 [.long vs0] (I, J, RMm) (some (.int q.1)) (I, q.2, RMm) := by
  obtain ⟨d0, rfl, hd0⟩ := h_mono hd
  unfold mM_laysCorner_77 at h
  refine a_lstore (lv' := [(14, .long vs0), (0, .ref 0), (2, .int v2), (3, .int v3), (4, .int v4), (5, .int v5), (6, .long v6), (8, .long v8), (10, .long v10), (12, .long v12)]) dX11_laysCorner_77 (by decide) rfl ?_
  refine a_iload dX11_laysCorner_79 rfl ?_
  refine a_if_eq (tgt := 93) dX11_laysCorner_81 (by decide) (fun c => ?_) (fun c => ?_)
  · replace h := h_iteT c h
    refine a_lconst dX11_laysCorner_93 lc_0 ?_
    refine a_sub (lv' := [(0, .ref 0), (2, .int v2), (3, .int v3), (4, .int v4), (5, .int v5), (6, .long v6), (8, .long v8), (10, .long v10), (12, .long v12), (14, .long vs0)]) [1, 2, 3, 4, 5, 6, 7, 8, 9, 0] rfl ?_
    exact sM_laysCorner_94 (d0 + 1) (by omega) v2 v3 v4 v5 v6 v8 v10 v12 vs0 (0 : Int64) I J _ h
  · replace h := h_iteF c h
    refine a_aload_n dX11_laysCorner_84 rfl rfl ?_
    refine b_getR hK_11 km_0 (i := 85) rfl fl_11_147 rfl rmm_85 dX11_laysCorner_85 ?_
    refine a_iload_n dX11_laysCorner_88 rfl rfl ?_
    obtain ⟨g1, h⟩ := h_gS h
    refine b_laload km_46 (h_inV g1) dX11_laysCorner_89 ?_
    refine a_goto (tgt := 94) dX11_laysCorner_90 (by decide) ?_
    refine a_sub (lv' := [(0, .ref 0), (2, .int v2), (3, .int v3), (4, .int v4), (5, .int v5), (6, .long v6), (8, .long v8), (10, .long v10), (12, .long v12), (14, .long vs0)]) [1, 2, 3, 4, 5, 6, 7, 8, 9, 0] rfl ?_
    exact sM_laysCorner_94 (d0 + 1) (by omega) v2 v3 v4 v5 v6 v8 v10 v12 vs0 (J 46 v2.toNatClampNeg) I J _ h
def mM_laysCorner_28  (v1 : Int32) (v2 : Int32) (v3 : Int32) (v4 : Int32) (vs0 : Int32) (I : hI) (J : hJ) : Option (Int32 × hJ) :=
  h_g (h_in v1 100) <|
  h_let (J 45 v1.toNatClampNeg) fun v6x1 =>
  h_g (h_in v1 100) <|
  h_let (J 46 v1.toNatClampNeg) fun v8x3 =>
  h_g (h_in v1 100) <|
  h_let (J 47 v1.toNatClampNeg) fun v10x5 =>
  h_g (h_in v1 100) <|
  h_let (J 48 v1.toNatClampNeg) fun v12x7 =>
  if v4 = 0 then
    mM_laysCorner_77 v2 v3 v4 vs0 v6x1 v8x3 v10x5 v12x7 (1 : Int64) I J
  else
    (h_g (h_in v2 100) <|
    mM_laysCorner_77 v2 v3 v4 vs0 v6x1 v8x3 v10x5 v12x7 (J 45 v2.toNatClampNeg) I J)
set_option maxHeartbeats 4000000 in
theorem sM_laysCorner_28 (d : Nat) (hd : 0 + 1 ≤ d) (v1 : Int32) (v2 : Int32) (v3 : Int32) (v4 : Int32) (vs0 : Int32) (I : hI) (J : hJ) (q : Int32 × hJ) (h : mM_laysCorner_28 v1 v2 v3 v4 vs0 I J = some q) : AW hFT cX11_laysCorner 30 (some .boolean) RX11 kdM d [(0, .ref 0), (1, .int v1), (2, .int v2), (3, .int v3), (4, .int v4)] 28 [.int vs0] (I, J, RMm) (some (.int q.1)) (I, q.2, RMm) := by
  obtain ⟨d0, rfl, hd0⟩ := h_mono hd
  unfold mM_laysCorner_28 at h
  refine a_istore (lv' := [(5, .int vs0), (0, .ref 0), (1, .int v1), (2, .int v2), (3, .int v3), (4, .int v4)]) dX11_laysCorner_28 (by decide) rfl ?_
  refine a_aload_n dX11_laysCorner_30 rfl rfl ?_
  refine b_getR hK_11 km_0 (i := 84) rfl fl_11_144 rfl rmm_84 dX11_laysCorner_31 ?_
  refine a_iload_n dX11_laysCorner_34 rfl rfl ?_
  obtain ⟨g1, h⟩ := h_gS h
  refine b_laload km_45 (h_inV g1) dX11_laysCorner_35 ?_
  obtain ⟨v6x1, ev6x1, h⟩ := h_letS h
  refine a_topJ ev6x1 ?_
  refine a_lstore (lv' := [(6, .long v6x1), (5, .int vs0), (0, .ref 0), (1, .int v1), (2, .int v2), (3, .int v3), (4, .int v4)]) dX11_laysCorner_36 (by decide) rfl ?_
  refine a_aload_n dX11_laysCorner_38 rfl rfl ?_
  refine b_getR hK_11 km_0 (i := 85) rfl fl_11_147 rfl rmm_85 dX11_laysCorner_39 ?_
  refine a_iload_n dX11_laysCorner_42 rfl rfl ?_
  obtain ⟨g3, h⟩ := h_gS h
  refine b_laload km_46 (h_inV g3) dX11_laysCorner_43 ?_
  obtain ⟨v8x3, ev8x3, h⟩ := h_letS h
  refine a_topJ ev8x3 ?_
  refine a_lstore (lv' := [(8, .long v8x3), (6, .long v6x1), (5, .int vs0), (0, .ref 0), (1, .int v1), (2, .int v2), (3, .int v3), (4, .int v4)]) dX11_laysCorner_44 (by decide) rfl ?_
  refine a_aload_n dX11_laysCorner_46 rfl rfl ?_
  refine b_getR hK_11 km_0 (i := 86) rfl fl_11_150 rfl rmm_86 dX11_laysCorner_47 ?_
  refine a_iload_n dX11_laysCorner_50 rfl rfl ?_
  obtain ⟨g5, h⟩ := h_gS h
  refine b_laload km_47 (h_inV g5) dX11_laysCorner_51 ?_
  obtain ⟨v10x5, ev10x5, h⟩ := h_letS h
  refine a_topJ ev10x5 ?_
  refine a_lstore (lv' := [(10, .long v10x5), (8, .long v8x3), (6, .long v6x1), (5, .int vs0), (0, .ref 0), (1, .int v1), (2, .int v2), (3, .int v3), (4, .int v4)]) dX11_laysCorner_52 (by decide) rfl ?_
  refine a_aload_n dX11_laysCorner_54 rfl rfl ?_
  refine b_getR hK_11 km_0 (i := 87) rfl fl_11_153 rfl rmm_87 dX11_laysCorner_55 ?_
  refine a_iload_n dX11_laysCorner_58 rfl rfl ?_
  obtain ⟨g7, h⟩ := h_gS h
  refine b_laload km_48 (h_inV g7) dX11_laysCorner_59 ?_
  obtain ⟨v12x7, ev12x7, h⟩ := h_letS h
  refine a_topJ ev12x7 ?_
  refine a_lstore (lv' := [(12, .long v12x7), (10, .long v10x5), (8, .long v8x3), (6, .long v6x1), (5, .int vs0), (0, .ref 0), (1, .int v1), (2, .int v2), (3, .int v3), (4, .int v4)]) dX11_laysCorner_60 (by decide) rfl ?_
  refine a_iload dX11_laysCorner_62 rfl ?_
  refine a_if_eq (tgt := 76) dX11_laysCorner_64 (by decide) (fun c => ?_) (fun c => ?_)
  · replace h := h_iteT c h
    refine a_lconst dX11_laysCorner_76 lc_1 ?_
    refine a_sub (lv' := [(0, .ref 0), (2, .int v2), (3, .int v3), (4, .int v4), (5, .int vs0), (6, .long v6x1), (8, .long v8x3), (10, .long v10x5), (12, .long v12x7)]) [5, 7, 8, 9, 4, 3, 2, 1, 0] rfl ?_
    exact sM_laysCorner_77 (d0 + 1) (by omega) v2 v3 v4 vs0 v6x1 v8x3 v10x5 v12x7 (1 : Int64) I J _ h
  · replace h := h_iteF c h
    refine a_aload_n dX11_laysCorner_67 rfl rfl ?_
    refine b_getR hK_11 km_0 (i := 84) rfl fl_11_144 rfl rmm_84 dX11_laysCorner_68 ?_
    refine a_iload_n dX11_laysCorner_71 rfl rfl ?_
    obtain ⟨g9, h⟩ := h_gS h
    refine b_laload km_45 (h_inV g9) dX11_laysCorner_72 ?_
    refine a_goto (tgt := 77) dX11_laysCorner_73 (by decide) ?_
    refine a_sub (lv' := [(0, .ref 0), (2, .int v2), (3, .int v3), (4, .int v4), (5, .int vs0), (6, .long v6x1), (8, .long v8x3), (10, .long v10x5), (12, .long v12x7)]) [5, 7, 8, 9, 4, 3, 2, 1, 0] rfl ?_
    exact sM_laysCorner_77 (d0 + 1) (by omega) v2 v3 v4 vs0 v6x1 v8x3 v10x5 v12x7 (J 45 v2.toNatClampNeg) I J _ h
def mM_laysCorner_13  (v1 : Int32) (v2 : Int32) (v3 : Int32) (vs0 : Int32) (I : hI) (J : hJ) : Option (Int32 × hJ) :=
  if (I 0 40) ≤ (1 : Int32) then
    mM_laysCorner_28 v1 v2 v3 vs0 (0 : Int32) I J
  else
    mM_laysCorner_28 v1 v2 v3 vs0 (1 : Int32) I J
set_option maxHeartbeats 4000000 in
theorem sM_laysCorner_13 (d : Nat) (hd : 0 + 1 ≤ d) (v1 : Int32) (v2 : Int32) (v3 : Int32) (vs0 : Int32) (I : hI) (J : hJ) (q : Int32 × hJ) (h : mM_laysCorner_13 v1 v2 v3 vs0 I J = some q) : AW hFT cX11_laysCorner 30 (some .boolean) RX11 kdM d [(0, .ref 0), (1, .int v1), (2, .int v2), (3, .int v3)] 13 [.int vs0] (I, J, RMm) (some (.int q.1)) (I, q.2, RMm) := by
  obtain ⟨d0, rfl, hd0⟩ := h_mono hd
  unfold mM_laysCorner_13 at h
  refine a_istore (lv' := [(4, .int vs0), (0, .ref 0), (1, .int v1), (2, .int v2), (3, .int v3)]) dX11_laysCorner_13 (by decide) rfl ?_
  refine a_aload_n dX11_laysCorner_15 rfl rfl ?_
  refine b_getI hK_11 km_0 (i := 40) rfl fl_11_364 rfl dX11_laysCorner_16 ?_
  refine a_iconst dX11_laysCorner_19 ic_1 ?_
  refine a_icmp_le (tgt := 27) dX11_laysCorner_20 (by decide) (fun c => ?_) (fun c => ?_)
  · replace h := h_iteT c h
    refine a_iconst dX11_laysCorner_27 ic_0 ?_
    refine a_sub (lv' := [(0, .ref 0), (1, .int v1), (2, .int v2), (3, .int v3), (4, .int vs0)]) [1, 2, 3, 4, 0] rfl ?_
    exact sM_laysCorner_28 (d0 + 1) (by omega) v1 v2 v3 vs0 (0 : Int32) I J _ h
  · replace h := h_iteF c h
    refine a_iconst dX11_laysCorner_23 ic_1 ?_
    refine a_goto (tgt := 28) dX11_laysCorner_24 (by decide) ?_
    refine a_sub (lv' := [(0, .ref 0), (1, .int v1), (2, .int v2), (3, .int v3), (4, .int vs0)]) [1, 2, 3, 4, 0] rfl ?_
    exact sM_laysCorner_28 (d0 + 1) (by omega) v1 v2 v3 vs0 (1 : Int32) I J _ h
def mM_laysCorner  (v1 : Int32) (v2 : Int32) (v3 : Int32) (I : hI) (J : hJ) : Option (Int32 × hJ) :=
  if (I 0 39) ≤ (1 : Int32) then
    mM_laysCorner_13 v1 v2 v3 (0 : Int32) I J
  else
    mM_laysCorner_13 v1 v2 v3 (1 : Int32) I J
set_option maxHeartbeats 4000000 in
theorem sM_laysCorner (d : Nat) (hd : 0 + 1 ≤ d) (v1 : Int32) (v2 : Int32) (v3 : Int32) (I : hI) (J : hJ) (q : Int32 × hJ) (h : mM_laysCorner v1 v2 v3 I J = some q) : HMet hFT yX11_laysCorner cX11_laysCorner 30 (some .boolean) kdM d [.ref 0, .int v1, .int v2, .int v3] (I, J, RMm) (some (.int q.1)) (I, q.2, RMm) := by
  obtain ⟨d0, rfl, hd0⟩ := h_mono hd
  refine HMet.of (by decide) (Nat.le_of_ble_eq_true rfl) ?_
  show AW hFT cX11_laysCorner 30 (some .boolean) RX11 kdM (d0 + 1) [(0, .ref 0), (1, .int v1), (2, .int v2), (3, .int v3)] 0 [] (I, J, RMm) (some (.int q.1)) (I, q.2, RMm)
  unfold mM_laysCorner at h
  refine a_aload_n dX11_laysCorner_0 rfl rfl ?_
  refine b_getI hK_11 km_0 (i := 39) rfl fl_11_361 rfl dX11_laysCorner_1 ?_
  refine a_iconst dX11_laysCorner_4 ic_1 ?_
  refine a_icmp_le (tgt := 12) dX11_laysCorner_5 (by decide) (fun c => ?_) (fun c => ?_)
  · replace h := h_iteT c h
    refine a_iconst dX11_laysCorner_12 ic_0 ?_
    exact sM_laysCorner_13 (d0 + 1) (by omega) v1 v2 v3 (0 : Int32) I J _ h
  · replace h := h_iteF c h
    refine a_iconst dX11_laysCorner_8 ic_1 ?_
    refine a_goto (tgt := 13) dX11_laysCorner_9 (by decide) ?_
    exact sM_laysCorner_13 (d0 + 1) (by omega) v1 v2 v3 (1 : Int32) I J _ h
