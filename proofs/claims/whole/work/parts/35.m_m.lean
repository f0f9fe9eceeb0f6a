/-! CoinLoopsModel.isLessPaid(III)Z -/
theorem dX11_isLessPaid_0 : decode cX11_isLessPaid 0 = .ok (.bipush 10, 2) := by decide +kernel
theorem dX11_isLessPaid_2 : decode cX11_isLessPaid 2 = .ok (.iload_n 1, 1) := by decide +kernel
theorem dX11_isLessPaid_3 : decode cX11_isLessPaid 3 = .ok (.imul, 1) := by decide +kernel
theorem dX11_isLessPaid_4 : decode cX11_isLessPaid 4 = .ok (.iload_n 3, 1) := by decide +kernel
theorem dX11_isLessPaid_5 : decode cX11_isLessPaid 5 = .ok (.iadd, 1) := by decide +kernel
theorem dX11_isLessPaid_6 : decode cX11_isLessPaid 6 = .ok (.istore 4, 2) := by decide +kernel
theorem dX11_isLessPaid_8 : decode cX11_isLessPaid 8 = .ok (.bipush 10, 2) := by decide +kernel
theorem dX11_isLessPaid_10 : decode cX11_isLessPaid 10 = .ok (.iload_n 2, 1) := by decide +kernel
theorem dX11_isLessPaid_11 : decode cX11_isLessPaid 11 = .ok (.imul, 1) := by decide +kernel
theorem dX11_isLessPaid_12 : decode cX11_isLessPaid 12 = .ok (.iload_n 3, 1) := by decide +kernel
theorem dX11_isLessPaid_13 : decode cX11_isLessPaid 13 = .ok (.iadd, 1) := by decide +kernel
theorem dX11_isLessPaid_14 : decode cX11_isLessPaid 14 = .ok (.istore 5, 2) := by decide +kernel
theorem dX11_isLessPaid_16 : decode cX11_isLessPaid 16 = .ok (.aload_n 0, 1) := by decide +kernel
theorem dX11_isLessPaid_17 : decode cX11_isLessPaid 17 = .ok (.getfield 114, 3) := by decide +kernel
theorem dX11_isLessPaid_20 : decode cX11_isLessPaid 20 = .ok (.iload 4, 2) := by decide +kernel
theorem dX11_isLessPaid_22 : decode cX11_isLessPaid 22 = .ok (.baload, 1) := by decide +kernel
theorem dX11_isLessPaid_23 : decode cX11_isLessPaid 23 = .ok (.ifCond .ne 13, 3) := by decide +kernel
theorem dX11_isLessPaid_26 : decode cX11_isLessPaid 26 = .ok (.aload_n 0, 1) := by decide +kernel
theorem dX11_isLessPaid_27 : decode cX11_isLessPaid 27 = .ok (.getfield 114, 3) := by decide +kernel
theorem dX11_isLessPaid_30 : decode cX11_isLessPaid 30 = .ok (.iload 5, 2) := by decide +kernel
theorem dX11_isLessPaid_32 : decode cX11_isLessPaid 32 = .ok (.baload, 1) := by decide +kernel
theorem dX11_isLessPaid_33 : decode cX11_isLessPaid 33 = .ok (.ifCond .eq 19, 3) := by decide +kernel
theorem dX11_isLessPaid_36 : decode cX11_isLessPaid 36 = .ok (.aload_n 0, 1) := by decide +kernel
theorem dX11_isLessPaid_37 : decode cX11_isLessPaid 37 = .ok (.getfield 114, 3) := by decide +kernel
theorem dX11_isLessPaid_40 : decode cX11_isLessPaid 40 = .ok (.iload 4, 2) := by decide +kernel
theorem dX11_isLessPaid_42 : decode cX11_isLessPaid 42 = .ok (.baload, 1) := by decide +kernel
theorem dX11_isLessPaid_43 : decode cX11_isLessPaid 43 = .ok (.ifCond .ne 7, 3) := by decide +kernel
theorem dX11_isLessPaid_46 : decode cX11_isLessPaid 46 = .ok (.iconst 1, 1) := by decide +kernel
theorem dX11_isLessPaid_47 : decode cX11_isLessPaid 47 = .ok (.goto 4, 3) := by decide +kernel
theorem dX11_isLessPaid_50 : decode cX11_isLessPaid 50 = .ok (.iconst 0, 1) := by decide +kernel
theorem dX11_isLessPaid_51 : decode cX11_isLessPaid 51 = .ok (.ireturn, 1) := by decide +kernel
theorem dX11_isLessPaid_52 : decode cX11_isLessPaid 52 = .ok (.aload_n 0, 1) := by decide +kernel
theorem dX11_isLessPaid_53 : decode cX11_isLessPaid 53 = .ok (.getfield 101, 3) := by decide +kernel
theorem dX11_isLessPaid_56 : decode cX11_isLessPaid 56 = .ok (.iload 4, 2) := by decide +kernel
theorem dX11_isLessPaid_58 : decode cX11_isLessPaid 58 = .ok (.laload, 1) := by decide +kernel
theorem dX11_isLessPaid_59 : decode cX11_isLessPaid 59 = .ok (.aload_n 0, 1) := by decide +kernel
theorem dX11_isLessPaid_60 : decode cX11_isLessPaid 60 = .ok (.getfield 105, 3) := by decide +kernel
theorem dX11_isLessPaid_63 : decode cX11_isLessPaid 63 = .ok (.iload 5, 2) := by decide +kernel
theorem dX11_isLessPaid_65 : decode cX11_isLessPaid 65 = .ok (.laload, 1) := by decide +kernel
theorem dX11_isLessPaid_66 : decode cX11_isLessPaid 66 = .ok (.lmul, 1) := by decide +kernel
theorem dX11_isLessPaid_67 : decode cX11_isLessPaid 67 = .ok (.aload_n 0, 1) := by decide +kernel
theorem dX11_isLessPaid_68 : decode cX11_isLessPaid 68 = .ok (.getfield 101, 3) := by decide +kernel
theorem dX11_isLessPaid_71 : decode cX11_isLessPaid 71 = .ok (.iload 5, 2) := by decide +kernel
theorem dX11_isLessPaid_73 : decode cX11_isLessPaid 73 = .ok (.laload, 1) := by decide +kernel
theorem dX11_isLessPaid_74 : decode cX11_isLessPaid 74 = .ok (.aload_n 0, 1) := by decide +kernel
theorem dX11_isLessPaid_75 : decode cX11_isLessPaid 75 = .ok (.getfield 105, 3) := by decide +kernel
theorem dX11_isLessPaid_78 : decode cX11_isLessPaid 78 = .ok (.iload 4, 2) := by decide +kernel
theorem dX11_isLessPaid_80 : decode cX11_isLessPaid 80 = .ok (.laload, 1) := by decide +kernel
theorem dX11_isLessPaid_81 : decode cX11_isLessPaid 81 = .ok (.lmul, 1) := by decide +kernel
theorem dX11_isLessPaid_82 : decode cX11_isLessPaid 82 = .ok (.lcmp, 1) := by decide +kernel
theorem dX11_isLessPaid_83 : decode cX11_isLessPaid 83 = .ok (.ifCond .ge 7, 3) := by decide +kernel
theorem dX11_isLessPaid_86 : decode cX11_isLessPaid 86 = .ok (.iconst 1, 1) := by decide +kernel
theorem dX11_isLessPaid_87 : decode cX11_isLessPaid 87 = .ok (.goto 4, 3) := by decide +kernel
theorem dX11_isLessPaid_90 : decode cX11_isLessPaid 90 = .ok (.iconst 0, 1) := by decide +kernel
theorem dX11_isLessPaid_91 : decode cX11_isLessPaid 91 = .ok (.ireturn, 1) := by decide +kernel
def mM_isLessPaid_36  (v4 : Int32) (I : hI) (J : hJ) : Option (Int32) :=
  h_g (h_in v4 640) <|
  if (I 35 v4.toNatClampNeg) = 0 then
    some (1 : Int32)
  else
    some (0 : Int32)
set_option maxHeartbeats 4000000 in
theorem sM_isLessPaid_36 (d : Nat) (hd : 0 ≤ d) (v4 : Int32) (I : hI) (J : hJ) (q : Int32) (h : mM_isLessPaid_36 v4 I J = some q) : AW hFT cX11_isLessPaid 6 (some .boolean) RX11 kdM d [(0, .ref 0), (4, .int v4)] 36 [] (I, J, RMm) (some (.int q)) (I, J, RMm) := by
  unfold mM_isLessPaid_36 at h
  refine a_aload_n dX11_isLessPaid_36 rfl rfl ?_
  refine b_getR hK_11 km_0 (i := 73) rfl fl_11_114 rfl rmm_73 dX11_isLessPaid_37 ?_
  refine a_iload dX11_isLessPaid_40 rfl ?_
  obtain ⟨g1, h⟩ := h_gS h
  refine b_zaload km_35 (h_inV g1) dX11_isLessPaid_42 ?_
  refine a_if_ne (tgt := 50) dX11_isLessPaid_43 (by decide) (fun c => ?_) (fun c => ?_)
  · replace h := h_iteF c h
    refine a_iconst dX11_isLessPaid_50 ic_0 ?_
    cases h
    exact a_zret (h_Z0.1) dX11_isLessPaid_51
  · replace h := h_iteT c h
    refine a_iconst dX11_isLessPaid_46 ic_1 ?_
    refine a_goto (tgt := 51) dX11_isLessPaid_47 (by decide) ?_
    cases h
    exact a_zret (h_Z1.1) dX11_isLessPaid_51
def mM_isLessPaid  (v1 : Int32) (v2 : Int32) (v3 : Int32) (I : hI) (J : hJ) : Option (Int32) :=
  h_let (((10 : Int32) * v1) + v3) fun v4x0 =>
  h_let (((10 : Int32) * v2) + v3) fun v5x1 =>
  h_g (h_in v4x0 640) <|
  if (I 35 v4x0.toNatClampNeg) = 0 then
    (h_g (h_in v5x1 640) <|
    if (I 35 v5x1.toNatClampNeg) = 0 then
      (h_g (h_in v4x0 640) <|
      h_g (h_in v5x1 640) <|
      h_g (h_in v5x1 640) <|
      h_g (h_in v4x0 640) <|
      if ((J 31 v5x1.toNatClampNeg) * (J 32 v4x0.toNatClampNeg)) ≤ ((J 31 v4x0.toNatClampNeg) * (J 32 v5x1.toNatClampNeg)) then
        some (0 : Int32)
      else
        some (1 : Int32))
    else
      mM_isLessPaid_36 v4x0 I J)
  else
    mM_isLessPaid_36 v4x0 I J
set_option maxHeartbeats 4000000 in
theorem sM_isLessPaid (d : Nat) (hd : 0 ≤ d) (v1 : Int32) (v2 : Int32) (v3 : Int32) (I : hI) (J : hJ) (q : Int32) (h : mM_isLessPaid v1 v2 v3 I J = some q) : HMet hFT yX11_isLessPaid cX11_isLessPaid 6 (some .boolean) kdM d [.ref 0, .int v1, .int v2, .int v3] (I, J, RMm) (some (.int q)) (I, J, RMm) := by
  refine HMet.of (by decide) (Nat.le_of_ble_eq_true rfl) ?_
  show AW hFT cX11_isLessPaid 6 (some .boolean) RX11 kdM d [(0, .ref 0), (1, .int v1), (2, .int v2), (3, .int v3)] 0 [] (I, J, RMm) (some (.int q)) (I, J, RMm)
  unfold mM_isLessPaid at h
  refine a_bipush dX11_isLessPaid_0 bp_10 ?_
  refine a_iload_n dX11_isLessPaid_2 rfl rfl ?_
  refine a_imul dX11_isLessPaid_3 ?_
  refine a_iload_n dX11_isLessPaid_4 rfl rfl ?_
  refine a_iadd dX11_isLessPaid_5 ?_
  obtain ⟨v4x0, ev4x0, h⟩ := h_letS h
  refine a_topI ev4x0 ?_
  refine a_istore (lv' := [(4, .int v4x0), (0, .ref 0), (1, .int v1), (2, .int v2), (3, .int v3)]) dX11_isLessPaid_6 (by decide) rfl ?_
  refine a_bipush dX11_isLessPaid_8 bp_10 ?_
  refine a_iload_n dX11_isLessPaid_10 rfl rfl ?_
  refine a_imul dX11_isLessPaid_11 ?_
  refine a_iload_n dX11_isLessPaid_12 rfl rfl ?_
  refine a_iadd dX11_isLessPaid_13 ?_
  obtain ⟨v5x1, ev5x1, h⟩ := h_letS h
  refine a_topI ev5x1 ?_
  refine a_istore (lv' := [(5, .int v5x1), (4, .int v4x0), (0, .ref 0), (1, .int v1), (2, .int v2), (3, .int v3)]) dX11_isLessPaid_14 (by decide) rfl ?_
  refine a_aload_n dX11_isLessPaid_16 rfl rfl ?_
  refine b_getR hK_11 km_0 (i := 73) rfl fl_11_114 rfl rmm_73 dX11_isLessPaid_17 ?_
  refine a_iload dX11_isLessPaid_20 rfl ?_
  obtain ⟨g3, h⟩ := h_gS h
  refine b_zaload km_35 (h_inV g3) dX11_isLessPaid_22 ?_
  refine a_if_ne (tgt := 36) dX11_isLessPaid_23 (by decide) (fun c => ?_) (fun c => ?_)
  · replace h := h_iteF c h
    refine a_sub (lv' := [(0, .ref 0), (4, .int v4x0)]) [2, 1] rfl ?_
    exact sM_isLessPaid_36 d (by omega) v4x0 I J _ h
  · replace h := h_iteT c h
    refine a_aload_n dX11_isLessPaid_26 rfl rfl ?_
    refine b_getR hK_11 km_0 (i := 73) rfl fl_11_114 rfl rmm_73 dX11_isLessPaid_27 ?_
    refine a_iload dX11_isLessPaid_30 rfl ?_
    obtain ⟨g4, h⟩ := h_gS h
    refine b_zaload km_35 (h_inV g4) dX11_isLessPaid_32 ?_
    refine a_if_eq (tgt := 52) dX11_isLessPaid_33 (by decide) (fun c => ?_) (fun c => ?_)
    · replace h := h_iteT c h
      refine a_aload_n dX11_isLessPaid_52 rfl rfl ?_
      refine b_getR hK_11 km_0 (i := 69) rfl fl_11_101 rfl rmm_69 dX11_isLessPaid_53 ?_
      refine a_iload dX11_isLessPaid_56 rfl ?_
      obtain ⟨g5, h⟩ := h_gS h
      refine b_laload km_31 (h_inV g5) dX11_isLessPaid_58 ?_
      refine a_aload_n dX11_isLessPaid_59 rfl rfl ?_
      refine b_getR hK_11 km_0 (i := 70) rfl fl_11_105 rfl rmm_70 dX11_isLessPaid_60 ?_
      refine a_iload dX11_isLessPaid_63 rfl ?_
      obtain ⟨g6, h⟩ := h_gS h
      refine b_laload km_32 (h_inV g6) dX11_isLessPaid_65 ?_
      refine a_lmul dX11_isLessPaid_66 ?_
      refine a_aload_n dX11_isLessPaid_67 rfl rfl ?_
      refine b_getR hK_11 km_0 (i := 69) rfl fl_11_101 rfl rmm_69 dX11_isLessPaid_68 ?_
      refine a_iload dX11_isLessPaid_71 rfl ?_
      obtain ⟨g7, h⟩ := h_gS h
      refine b_laload km_31 (h_inV g7) dX11_isLessPaid_73 ?_
      refine a_aload_n dX11_isLessPaid_74 rfl rfl ?_
      refine b_getR hK_11 km_0 (i := 70) rfl fl_11_105 rfl rmm_70 dX11_isLessPaid_75 ?_
      refine a_iload dX11_isLessPaid_78 rfl ?_
      obtain ⟨g8, h⟩ := h_gS h
      refine b_laload km_32 (h_inV g8) dX11_isLessPaid_80 ?_
      refine a_lmul dX11_isLessPaid_81 ?_
      refine a_lcmp_ge (tgt := 90) dX11_isLessPaid_82 dX11_isLessPaid_83 (by decide) (fun c => ?_) (fun c => ?_)
      · replace h := h_iteT c h
        refine a_iconst dX11_isLessPaid_90 ic_0 ?_
        cases h
        exact a_zret (h_Z0.1) dX11_isLessPaid_91
      · replace h := h_iteF c h
        refine a_iconst dX11_isLessPaid_86 ic_1 ?_
        refine a_goto (tgt := 91) dX11_isLessPaid_87 (by decide) ?_
        cases h
        exact a_zret (h_Z1.1) dX11_isLessPaid_91
    · replace h := h_iteF c h
      refine a_sub (lv' := [(0, .ref 0), (4, .int v4x0)]) [2, 1] rfl ?_
      exact sM_isLessPaid_36 d (by omega) v4x0 I J _ h
/-! CoinLoopsModel.areLessOdds(III)Z -/
theorem dX11_areLessOdds_0 : decode cX11_areLessOdds 0 = .ok (.bipush 10, 2) := by decide +kernel
theorem dX11_areLessOdds_2 : decode cX11_areLessOdds 2 = .ok (.iload_n 1, 1) := by decide +kernel
theorem dX11_areLessOdds_3 : decode cX11_areLessOdds 3 = .ok (.imul, 1) := by decide +kernel
theorem dX11_areLessOdds_4 : decode cX11_areLessOdds 4 = .ok (.iload_n 3, 1) := by decide +kernel
theorem dX11_areLessOdds_5 : decode cX11_areLessOdds 5 = .ok (.iadd, 1) := by decide +kernel
theorem dX11_areLessOdds_6 : decode cX11_areLessOdds 6 = .ok (.istore 4, 2) := by decide +kernel
theorem dX11_areLessOdds_8 : decode cX11_areLessOdds 8 = .ok (.bipush 10, 2) := by decide +kernel
theorem dX11_areLessOdds_10 : decode cX11_areLessOdds 10 = .ok (.iload_n 2, 1) := by decide +kernel
theorem dX11_areLessOdds_11 : decode cX11_areLessOdds 11 = .ok (.imul, 1) := by decide +kernel
theorem dX11_areLessOdds_12 : decode cX11_areLessOdds 12 = .ok (.iload_n 3, 1) := by decide +kernel
theorem dX11_areLessOdds_13 : decode cX11_areLessOdds 13 = .ok (.iadd, 1) := by decide +kernel
theorem dX11_areLessOdds_14 : decode cX11_areLessOdds 14 = .ok (.istore 5, 2) := by decide +kernel
theorem dX11_areLessOdds_16 : decode cX11_areLessOdds 16 = .ok (.aload_n 0, 1) := by decide +kernel
theorem dX11_areLessOdds_17 : decode cX11_areLessOdds 17 = .ok (.getfield 108, 3) := by decide +kernel
theorem dX11_areLessOdds_20 : decode cX11_areLessOdds 20 = .ok (.iload 4, 2) := by decide +kernel
theorem dX11_areLessOdds_22 : decode cX11_areLessOdds 22 = .ok (.laload, 1) := by decide +kernel
theorem dX11_areLessOdds_23 : decode cX11_areLessOdds 23 = .ok (.aload_n 0, 1) := by decide +kernel
theorem dX11_areLessOdds_24 : decode cX11_areLessOdds 24 = .ok (.getfield 111, 3) := by decide +kernel
theorem dX11_areLessOdds_27 : decode cX11_areLessOdds 27 = .ok (.iload 5, 2) := by decide +kernel
theorem dX11_areLessOdds_29 : decode cX11_areLessOdds 29 = .ok (.laload, 1) := by decide +kernel
theorem dX11_areLessOdds_30 : decode cX11_areLessOdds 30 = .ok (.lmul, 1) := by decide +kernel
theorem dX11_areLessOdds_31 : decode cX11_areLessOdds 31 = .ok (.aload_n 0, 1) := by decide +kernel
theorem dX11_areLessOdds_32 : decode cX11_areLessOdds 32 = .ok (.getfield 108, 3) := by decide +kernel
theorem dX11_areLessOdds_35 : decode cX11_areLessOdds 35 = .ok (.iload 5, 2) := by decide +kernel
theorem dX11_areLessOdds_37 : decode cX11_areLessOdds 37 = .ok (.laload, 1) := by decide +kernel
theorem dX11_areLessOdds_38 : decode cX11_areLessOdds 38 = .ok (.aload_n 0, 1) := by decide +kernel
theorem dX11_areLessOdds_39 : decode cX11_areLessOdds 39 = .ok (.getfield 111, 3) := by decide +kernel
theorem dX11_areLessOdds_42 : decode cX11_areLessOdds 42 = .ok (.iload 4, 2) := by decide +kernel
theorem dX11_areLessOdds_44 : decode cX11_areLessOdds 44 = .ok (.laload, 1) := by decide +kernel
theorem dX11_areLessOdds_45 : decode cX11_areLessOdds 45 = .ok (.lmul, 1) := by decide +kernel
theorem dX11_areLessOdds_46 : decode cX11_areLessOdds 46 = .ok (.lcmp, 1) := by decide +kernel
theorem dX11_areLessOdds_47 : decode cX11_areLessOdds 47 = .ok (.ifCond .ge 7, 3) := by decide +kernel
theorem dX11_areLessOdds_50 : decode cX11_areLessOdds 50 = .ok (.iconst 1, 1) := by decide +kernel
theorem dX11_areLessOdds_51 : decode cX11_areLessOdds 51 = .ok (.goto 4, 3) := by decide +kernel
theorem dX11_areLessOdds_54 : decode cX11_areLessOdds 54 = .ok (.iconst 0, 1) := by decide +kernel
theorem dX11_areLessOdds_55 : decode cX11_areLessOdds 55 = .ok (.ireturn, 1) := by decide +kernel
def mM_areLessOdds  (v1 : Int32) (v2 : Int32) (v3 : Int32) (J : hJ) : Option (Int32) :=
  h_let (((10 : Int32) * v1) + v3) fun v4x0 =>
  h_let (((10 : Int32) * v2) + v3) fun v5x1 =>
  h_g (h_in v4x0 640) <|
  h_g (h_in v5x1 640) <|
  h_g (h_in v5x1 640) <|
  h_g (h_in v4x0 640) <|
  if ((J 33 v5x1.toNatClampNeg) * (J 34 v4x0.toNatClampNeg)) ≤ ((J 33 v4x0.toNatClampNeg) * (J 34 v5x1.toNatClampNeg)) then
    some (0 : Int32)
  else
    some (1 : Int32)
set_option maxHeartbeats 4000000 in
theorem sM_areLessOdds (d : Nat) (hd : 0 ≤ d) (v1 : Int32) (v2 : Int32) (v3 : Int32) (I : hI) (J : hJ) (q : Int32) (h : mM_areLessOdds v1 v2 v3 J = some q) : HMet hFT yX11_areLessOdds cX11_areLessOdds 6 (some .boolean) kdM d [.ref 0, .int v1, .int v2, .int v3] (I, J, RMm) (some (.int q)) (I, J, RMm) := by
  refine HMet.of (by decide) (Nat.le_of_ble_eq_true rfl) ?_
  show AW hFT cX11_areLessOdds 6 (some .boolean) RX11 kdM d [(0, .ref 0), (1, .int v1), (2, .int v2), (3, .int v3)] 0 [] (I, J, RMm) (some (.int q)) (I, J, RMm)
  unfold mM_areLessOdds at h
  refine a_bipush dX11_areLessOdds_0 bp_10 ?_
  refine a_iload_n dX11_areLessOdds_2 rfl rfl ?_
  refine a_imul dX11_areLessOdds_3 ?_
  refine a_iload_n dX11_areLessOdds_4 rfl rfl ?_
  refine a_iadd dX11_areLessOdds_5 ?_
  obtain ⟨v4x0, ev4x0, h⟩ := h_letS h
  refine a_topI ev4x0 ?_
  refine a_istore (lv' := [(4, .int v4x0), (0, .ref 0), (1, .int v1), (2, .int v2), (3, .int v3)]) dX11_areLessOdds_6 (by decide) rfl ?_
  refine a_bipush dX11_areLessOdds_8 bp_10 ?_
  refine a_iload_n dX11_areLessOdds_10 rfl rfl ?_
  refine a_imul dX11_areLessOdds_11 ?_
  refine a_iload_n dX11_areLessOdds_12 rfl rfl ?_
  refine a_iadd dX11_areLessOdds_13 ?_
  obtain ⟨v5x1, ev5x1, h⟩ := h_letS h
  refine a_topI ev5x1 ?_
  refine a_istore (lv' := [(5, .int v5x1), (4, .int v4x0), (0, .ref 0), (1, .int v1), (2, .int v2), (3, .int v3)]) dX11_areLessOdds_14 (by decide) rfl ?_
  refine a_aload_n dX11_areLessOdds_16 rfl rfl ?_
  refine b_getR hK_11 km_0 (i := 71) rfl fl_11_108 rfl rmm_71 dX11_areLessOdds_17 ?_
  refine a_iload dX11_areLessOdds_20 rfl ?_
  obtain ⟨g3, h⟩ := h_gS h
  refine b_laload km_33 (h_inV g3) dX11_areLessOdds_22 ?_
  refine a_aload_n dX11_areLessOdds_23 rfl rfl ?_
  refine b_getR hK_11 km_0 (i := 72) rfl fl_11_111 rfl rmm_72 dX11_areLessOdds_24 ?_
  refine a_iload dX11_areLessOdds_27 rfl ?_
  obtain ⟨g4, h⟩ := h_gS h
  refine b_laload km_34 (h_inV g4) dX11_areLessOdds_29 ?_
  refine a_lmul dX11_areLessOdds_30 ?_
  refine a_aload_n dX11_areLessOdds_31 rfl rfl ?_
  refine b_getR hK_11 km_0 (i := 71) rfl fl_11_108 rfl rmm_71 dX11_areLessOdds_32 ?_
  refine a_iload dX11_areLessOdds_35 rfl ?_
  obtain ⟨g5, h⟩ := h_gS h
  refine b_laload km_33 (h_inV g5) dX11_areLessOdds_37 ?_
  refine a_aload_n dX11_areLessOdds_38 rfl rfl ?_
  refine b_getR hK_11 km_0 (i := 72) rfl fl_11_111 rfl rmm_72 dX11_areLessOdds_39 ?_
  refine a_iload dX11_areLessOdds_42 rfl ?_
  obtain ⟨g6, h⟩ := h_gS h
  refine b_laload km_34 (h_inV g6) dX11_areLessOdds_44 ?_
  refine a_lmul dX11_areLessOdds_45 ?_
  refine a_lcmp_ge (tgt := 54) dX11_areLessOdds_46 dX11_areLessOdds_47 (by decide) (fun c => ?_) (fun c => ?_)
  · replace h := h_iteT c h
    refine a_iconst dX11_areLessOdds_54 ic_0 ?_
    cases h
    exact a_zret (h_Z0.1) dX11_areLessOdds_55
  · replace h := h_iteF c h
    refine a_iconst dX11_areLessOdds_50 ic_1 ?_
    refine a_goto (tgt := 55) dX11_areLessOdds_51 (by decide) ?_
    cases h
    exact a_zret (h_Z1.1) dX11_areLessOdds_55
/-! CoinLoopsModel.bestPlan(IZZ)I -/
theorem dX11_bestPlan_0 : decode cX11_bestPlan 0 = .ok (.aload_n 0, 1) := by decide +kernel
theorem dX11_bestPlan_1 : decode cX11_bestPlan 1 = .ok (.invokevirtual 510, 3) := by decide +kernel
theorem dX11_bestPlan_4 : decode cX11_bestPlan 4 = .ok (.iconst 0, 1) := by decide +kernel
theorem dX11_bestPlan_5 : decode cX11_bestPlan 5 = .ok (.istore 4, 2) := by decide +kernel
theorem dX11_bestPlan_7 : decode cX11_bestPlan 7 = .ok (.aload_n 0, 1) := by decide +kernel
theorem dX11_bestPlan_8 : decode cX11_bestPlan 8 = .ok (.invokevirtual 456, 3) := by decide +kernel
theorem dX11_bestPlan_11 : decode cX11_bestPlan 11 = .ok (.istore 5, 2) := by decide +kernel
theorem dX11_bestPlan_13 : decode cX11_bestPlan 13 = .ok (.iconst 1, 1) := by decide +kernel
theorem dX11_bestPlan_14 : decode cX11_bestPlan 14 = .ok (.istore 6, 2) := by decide +kernel
theorem dX11_bestPlan_16 : decode cX11_bestPlan 16 = .ok (.iload 6, 2) := by decide +kernel
theorem dX11_bestPlan_18 : decode cX11_bestPlan 18 = .ok (.iload 5, 2) := by decide +kernel
theorem dX11_bestPlan_20 : decode cX11_bestPlan 20 = .ok (.if_icmp .ge 105, 3) := by decide +kernel
theorem dX11_bestPlan_23 : decode cX11_bestPlan 23 = .ok (.iload_n 3, 1) := by decide +kernel
theorem dX11_bestPlan_24 : decode cX11_bestPlan 24 = .ok (.ifCond .eq 54, 3) := by decide +kernel
theorem dX11_bestPlan_27 : decode cX11_bestPlan 27 = .ok (.iload_n 2, 1) := by decide +kernel
theorem dX11_bestPlan_28 : decode cX11_bestPlan 28 = .ok (.ifCond .eq 38, 3) := by decide +kernel
theorem dX11_bestPlan_31 : decode cX11_bestPlan 31 = .ok (.aload_n 0, 1) := by decide +kernel
theorem dX11_bestPlan_32 : decode cX11_bestPlan 32 = .ok (.iload 4, 2) := by decide +kernel
theorem dX11_bestPlan_34 : decode cX11_bestPlan 34 = .ok (.iload 6, 2) := by decide +kernel
theorem dX11_bestPlan_36 : decode cX11_bestPlan 36 = .ok (.iload_n 1, 1) := by decide +kernel
theorem dX11_bestPlan_37 : decode cX11_bestPlan 37 = .ok (.invokevirtual 513, 3) := by decide +kernel
theorem dX11_bestPlan_40 : decode cX11_bestPlan 40 = .ok (.ifCond .eq 22, 3) := by decide +kernel
theorem dX11_bestPlan_43 : decode cX11_bestPlan 43 = .ok (.aload_n 0, 1) := by decide +kernel
theorem dX11_bestPlan_44 : decode cX11_bestPlan 44 = .ok (.getfield 114, 3) := by decide +kernel
theorem dX11_bestPlan_47 : decode cX11_bestPlan 47 = .ok (.bipush 10, 2) := by decide +kernel
theorem dX11_bestPlan_49 : decode cX11_bestPlan 49 = .ok (.iload 4, 2) := by decide +kernel
theorem dX11_bestPlan_51 : decode cX11_bestPlan 51 = .ok (.imul, 1) := by decide +kernel
theorem dX11_bestPlan_52 : decode cX11_bestPlan 52 = .ok (.iload_n 1, 1) := by decide +kernel
theorem dX11_bestPlan_53 : decode cX11_bestPlan 53 = .ok (.iadd, 1) := by decide +kernel
theorem dX11_bestPlan_54 : decode cX11_bestPlan 54 = .ok (.baload, 1) := by decide +kernel
theorem dX11_bestPlan_55 : decode cX11_bestPlan 55 = .ok (.ifCond .ne 7, 3) := by decide +kernel
theorem dX11_bestPlan_58 : decode cX11_bestPlan 58 = .ok (.iconst 1, 1) := by decide +kernel
theorem dX11_bestPlan_59 : decode cX11_bestPlan 59 = .ok (.goto 44, 3) := by decide +kernel
theorem dX11_bestPlan_62 : decode cX11_bestPlan 62 = .ok (.iconst 0, 1) := by decide +kernel
theorem dX11_bestPlan_63 : decode cX11_bestPlan 63 = .ok (.goto 40, 3) := by decide +kernel
theorem dX11_bestPlan_66 : decode cX11_bestPlan 66 = .ok (.aload_n 0, 1) := by decide +kernel
theorem dX11_bestPlan_67 : decode cX11_bestPlan 67 = .ok (.iload 6, 2) := by decide +kernel
theorem dX11_bestPlan_69 : decode cX11_bestPlan 69 = .ok (.iload 4, 2) := by decide +kernel
theorem dX11_bestPlan_71 : decode cX11_bestPlan 71 = .ok (.iload_n 1, 1) := by decide +kernel
theorem dX11_bestPlan_72 : decode cX11_bestPlan 72 = .ok (.invokevirtual 513, 3) := by decide +kernel
theorem dX11_bestPlan_75 : decode cX11_bestPlan 75 = .ok (.goto 28, 3) := by decide +kernel
theorem dX11_bestPlan_78 : decode cX11_bestPlan 78 = .ok (.iload_n 2, 1) := by decide +kernel
theorem dX11_bestPlan_79 : decode cX11_bestPlan 79 = .ok (.ifCond .eq 15, 3) := by decide +kernel
theorem dX11_bestPlan_82 : decode cX11_bestPlan 82 = .ok (.aload_n 0, 1) := by decide +kernel
theorem dX11_bestPlan_83 : decode cX11_bestPlan 83 = .ok (.iload 4, 2) := by decide +kernel
theorem dX11_bestPlan_85 : decode cX11_bestPlan 85 = .ok (.iload 6, 2) := by decide +kernel
theorem dX11_bestPlan_87 : decode cX11_bestPlan 87 = .ok (.iload_n 1, 1) := by decide +kernel
theorem dX11_bestPlan_88 : decode cX11_bestPlan 88 = .ok (.invokevirtual 516, 3) := by decide +kernel
theorem dX11_bestPlan_91 : decode cX11_bestPlan 91 = .ok (.goto 12, 3) := by decide +kernel
theorem dX11_bestPlan_94 : decode cX11_bestPlan 94 = .ok (.aload_n 0, 1) := by decide +kernel
theorem dX11_bestPlan_95 : decode cX11_bestPlan 95 = .ok (.iload 6, 2) := by decide +kernel
theorem dX11_bestPlan_97 : decode cX11_bestPlan 97 = .ok (.iload 4, 2) := by decide +kernel
theorem dX11_bestPlan_99 : decode cX11_bestPlan 99 = .ok (.iload_n 1, 1) := by decide +kernel
theorem dX11_bestPlan_100 : decode cX11_bestPlan 100 = .ok (.invokevirtual 516, 3) := by decide +kernel
theorem dX11_bestPlan_103 : decode cX11_bestPlan 103 = .ok (.istore 7, 2) := by decide +kernel
theorem dX11_bestPlan_105 : decode cX11_bestPlan 105 = .ok (.iload 7, 2) := by decide +kernel
theorem dX11_bestPlan_107 : decode cX11_bestPlan 107 = .ok (.ifCond .eq 8, 3) := by decide +kernel
theorem dX11_bestPlan_110 : decode cX11_bestPlan 110 = .ok (.iload 6, 2) := by decide +kernel
theorem dX11_bestPlan_112 : decode cX11_bestPlan 112 = .ok (.goto 5, 3) := by decide +kernel
theorem dX11_bestPlan_115 : decode cX11_bestPlan 115 = .ok (.iload 4, 2) := by decide +kernel
theorem dX11_bestPlan_117 : decode cX11_bestPlan 117 = .ok (.istore 4, 2) := by decide +kernel
theorem dX11_bestPlan_119 : decode cX11_bestPlan 119 = .ok (.iinc 6 1, 3) := by decide +kernel
theorem dX11_bestPlan_122 : decode cX11_bestPlan 122 = .ok (.goto (-106), 3) := by decide +kernel
theorem dX11_bestPlan_125 : decode cX11_bestPlan 125 = .ok (.iload 4, 2) := by decide +kernel
theorem dX11_bestPlan_127 : decode cX11_bestPlan 127 = .ok (.ireturn, 1) := by decide +kernel
def mM_bestPlan_103 (k16 : Int32 → Int32 → Int32 → Int32 → Int32 → Int32 → hI → hJ → Option (Int32 × hI × hJ)) (v1 : Int32) (v2 : Int32) (v3 : Int32) (v4 : Int32) (v5 : Int32) (v6 : Int32) (vs0 : Int32) (I : hI) (J : hJ) : Option (Int32 × hI × hJ) :=
  if vs0 = 0 then
    k16 v1 v2 v3 v4 v5 (v6 + (1 : Int32)) I J
  else
    k16 v1 v2 v3 v6 v5 (v6 + (1 : Int32)) I J
set_option maxHeartbeats 4000000 in
theorem sM_bestPlan_103 (d : Nat) (hd : 103 + 1 ≤ d) (k16 : Int32 → Int32 → Int32 → Int32 → Int32 → Int32 → hI → hJ → Option (Int32 × hI × hJ)) (hk16 : ∀ (v1 : Int32) (v2 : Int32) (v3 : Int32) (v4 : Int32) (v5 : Int32) (v6 : Int32) (I : hI) (J : hJ) (q : Int32 × hI × hJ), k16 v1 v2 v3 v4 v5 v6 I J = some q → AW hFT cX11_bestPlan 8 (some .int) RX11 kdM d [(0, .ref 0), (1, .int v1), (2, .int v2), (3, .int v3), (4, .int v4), (5, .int v5), (6, .int v6)] 16 [] (I, J, RMm) (some (.int q.1)) (q.2.1, q.2.2, RMm)) (v1 : Int32) (v2 : Int32) (v3 : Int32) (v4 : Int32) (v5 : Int32) (v6 : Int32) (vs0 : Int32) (I : hI) (J : hJ) (q : Int32 × hI × hJ) (h : mM_bestPlan_103 k16 v1 v2 v3 v4 v5 v6 vs0 I J = some q) : AW hFT cX11_bestPlan 8 (some .int) RX11 kdM d [(0, .ref 0), (1, .int v1), (2, .int v2), (3, .int v3), (4, .int v4), (5, .int v5), (6, .int v6)] 103 [.int vs0] (I, J, RMm) (some (.int q.1)) (q.2.1, q.2.2, RMm) := by
  obtain ⟨d0, rfl, hd0⟩ := h_mono hd
  unfold mM_bestPlan_103 at h
  refine a_istore (lv' := [(7, .int vs0), (0, .ref 0), (1, .int v1), (2, .int v2), (3, .int v3), (4, .int v4), (5, .int v5), (6, .int v6)]) dX11_bestPlan_103 (by decide) rfl ?_
  refine a_iload dX11_bestPlan_105 rfl ?_
  refine a_if_eq (tgt := 115) dX11_bestPlan_107 (by decide) (fun c => ?_) (fun c => ?_)
  · replace h := h_iteT c h
    refine a_iload dX11_bestPlan_115 rfl ?_
    refine a_istore (lv' := [(4, .int v4), (7, .int vs0), (0, .ref 0), (1, .int v1), (2, .int v2), (3, .int v3), (5, .int v5), (6, .int v6)]) dX11_bestPlan_117 (by decide) rfl ?_
    refine b_iinc (lv' := [(6, .int (v6 + (1 : Int32))), (4, .int v4), (7, .int vs0), (0, .ref 0), (1, .int v1), (2, .int v2), (3, .int v3), (5, .int v5)]) dX11_bestPlan_119 rfl ic_1 (by decide) rfl ?_
    refine a_goto (tgt := 16) dX11_bestPlan_122 (by decide) ?_
    refine a_sub (lv' := [(0, .ref 0), (1, .int v1), (2, .int v2), (3, .int v3), (4, .int v4), (5, .int v5), (6, .int (v6 + (1 : Int32)))]) [3, 4, 5, 6, 1, 7, 0] rfl ?_
    exact hk16 v1 v2 v3 v4 v5 (v6 + (1 : Int32)) I J _ h
  · replace h := h_iteF c h
    refine a_iload dX11_bestPlan_110 rfl ?_
    refine a_goto (tgt := 117) dX11_bestPlan_112 (by decide) ?_
    refine a_istore (lv' := [(4, .int v6), (7, .int vs0), (0, .ref 0), (1, .int v1), (2, .int v2), (3, .int v3), (5, .int v5), (6, .int v6)]) dX11_bestPlan_117 (by decide) rfl ?_
    refine b_iinc (lv' := [(6, .int (v6 + (1 : Int32))), (4, .int v6), (7, .int vs0), (0, .ref 0), (1, .int v1), (2, .int v2), (3, .int v3), (5, .int v5)]) dX11_bestPlan_119 rfl ic_1 (by decide) rfl ?_
    refine a_goto (tgt := 16) dX11_bestPlan_122 (by decide) ?_
    refine a_sub (lv' := [(0, .ref 0), (1, .int v1), (2, .int v2), (3, .int v3), (4, .int v6), (5, .int v5), (6, .int (v6 + (1 : Int32)))]) [3, 4, 5, 6, 1, 7, 0] rfl ?_
    exact hk16 v1 v2 v3 v6 v5 (v6 + (1 : Int32)) I J _ h
def mM_bestPlan_B16 (k16 : Int32 → Int32 → Int32 → Int32 → Int32 → Int32 → hI → hJ → Option (Int32 × hI × hJ)) (v1 : Int32) (v2 : Int32) (v3 : Int32) (v4 : Int32) (v5 : Int32) (v6 : Int32) (I : hI) (J : hJ) : Option (Int32 × hI × hJ) :=
  if v5 ≤ v6 then
    some (v4, I, J)
  else
    (if v3 = 0 then
      (if v2 = 0 then
        ((mM_areLessOdds v6 v4 v1 J).bind fun q1 =>
        mM_bestPlan_103 k16 v1 v2 v3 v4 v5 v6 q1 I J)
      else
        ((mM_areLessOdds v4 v6 v1 J).bind fun q1 =>
        mM_bestPlan_103 k16 v1 v2 v3 v4 v5 v6 q1 I J))
    else
      (if v2 = 0 then
        ((mM_isLessPaid v6 v4 v1 I J).bind fun q1 =>
        mM_bestPlan_103 k16 v1 v2 v3 v4 v5 v6 q1 I J)
      else
        ((mM_isLessPaid v4 v6 v1 I J).bind fun q1 =>
        if q1 = 0 then
          mM_bestPlan_103 k16 v1 v2 v3 v4 v5 v6 (0 : Int32) I J
        else
          (h_g (h_in (((10 : Int32) * v4) + v1) 640) <|
          if (I 35 (((10 : Int32) * v4) + v1).toNatClampNeg) = 0 then
            mM_bestPlan_103 k16 v1 v2 v3 v4 v5 v6 (1 : Int32) I J
          else
            mM_bestPlan_103 k16 v1 v2 v3 v4 v5 v6 (0 : Int32) I J))))
set_option maxHeartbeats 4000000 in
theorem sM_bestPlan_B16 (d : Nat) (hd : 103 + 1 ≤ d) (k16 : Int32 → Int32 → Int32 → Int32 → Int32 → Int32 → hI → hJ → Option (Int32 × hI × hJ)) (hk16 : ∀ (v1 : Int32) (v2 : Int32) (v3 : Int32) (v4 : Int32) (v5 : Int32) (v6 : Int32) (I : hI) (J : hJ) (q : Int32 × hI × hJ), k16 v1 v2 v3 v4 v5 v6 I J = some q → AW hFT cX11_bestPlan 8 (some .int) RX11 kdM d [(0, .ref 0), (1, .int v1), (2, .int v2), (3, .int v3), (4, .int v4), (5, .int v5), (6, .int v6)] 16 [] (I, J, RMm) (some (.int q.1)) (q.2.1, q.2.2, RMm)) (v1 : Int32) (v2 : Int32) (v3 : Int32) (v4 : Int32) (v5 : Int32) (v6 : Int32) (I : hI) (J : hJ) (q : Int32 × hI × hJ) (h : mM_bestPlan_B16 k16 v1 v2 v3 v4 v5 v6 I J = some q) : AW hFT cX11_bestPlan 8 (some .int) RX11 kdM d [(0, .ref 0), (1, .int v1), (2, .int v2), (3, .int v3), (4, .int v4), (5, .int v5), (6, .int v6)] 16 [] (I, J, RMm) (some (.int q.1)) (q.2.1, q.2.2, RMm) := by
  obtain ⟨d0, rfl, hd0⟩ := h_mono hd
  unfold mM_bestPlan_B16 at h
  refine a_iload dX11_bestPlan_16 rfl ?_
  refine a_iload dX11_bestPlan_18 rfl ?_
  refine a_icmp_ge (tgt := 125) dX11_bestPlan_20 (by decide) (fun c => ?_) (fun c => ?_)
  · replace h := h_iteT c h
    refine a_iload dX11_bestPlan_125 rfl ?_
    cases h
    exact a_iret dX11_bestPlan_127
  · replace h := h_iteF c h
    refine a_iload_n dX11_bestPlan_23 rfl rfl ?_
    refine a_if_eq (tgt := 78) dX11_bestPlan_24 (by decide) (fun c => ?_) (fun c => ?_)
    · replace h := h_iteT c h
      refine a_iload_n dX11_bestPlan_78 rfl rfl ?_
      refine a_if_eq (tgt := 94) dX11_bestPlan_79 (by decide) (fun c => ?_) (fun c => ?_)
      · replace h := h_iteT c h
        refine a_aload_n dX11_bestPlan_94 rfl rfl ?_
        refine a_iload dX11_bestPlan_95 rfl ?_
        refine a_iload dX11_bestPlan_97 rfl ?_
        refine a_iload_n dX11_bestPlan_99 rfl rfl ?_
        obtain ⟨q1, cq1, h⟩ := h_bindS h
        refine a_callV1 [] yy_X11_areLessOdds ml_11_516 km_0 rfl (sM_areLessOdds _ (by omega) v6 v4 v1 I J q1 cq1) rfl rfl (Nat.le_of_ble_eq_true rfl) dX11_bestPlan_100 ?_
        exact sM_bestPlan_103 (d0 + 1) (by omega) k16 hk16 v1 v2 v3 v4 v5 v6 q1 I J _ h
      · replace h := h_iteF c h
        refine a_aload_n dX11_bestPlan_82 rfl rfl ?_
        refine a_iload dX11_bestPlan_83 rfl ?_
        refine a_iload dX11_bestPlan_85 rfl ?_
        refine a_iload_n dX11_bestPlan_87 rfl rfl ?_
        obtain ⟨q1, cq1, h⟩ := h_bindS h
        refine a_callV1 [] yy_X11_areLessOdds ml_11_516 km_0 rfl (sM_areLessOdds _ (by omega) v4 v6 v1 I J q1 cq1) rfl rfl (Nat.le_of_ble_eq_true rfl) dX11_bestPlan_88 ?_
        refine a_goto (tgt := 103) dX11_bestPlan_91 (by decide) ?_
        exact sM_bestPlan_103 (d0 + 1) (by omega) k16 hk16 v1 v2 v3 v4 v5 v6 q1 I J _ h
    · replace h := h_iteF c h
      refine a_iload_n dX11_bestPlan_27 rfl rfl ?_
      refine a_if_eq (tgt := 66) dX11_bestPlan_28 (by decide) (fun c => ?_) (fun c => ?_)
      · replace h := h_iteT c h
        refine a_aload_n dX11_bestPlan_66 rfl rfl ?_
        refine a_iload dX11_bestPlan_67 rfl ?_
        refine a_iload dX11_bestPlan_69 rfl ?_
        refine a_iload_n dX11_bestPlan_71 rfl rfl ?_
        obtain ⟨q1, cq1, h⟩ := h_bindS h
        refine a_callV1 [] yy_X11_isLessPaid ml_11_513 km_0 rfl (sM_isLessPaid _ (by omega) v6 v4 v1 I J q1 cq1) rfl rfl (Nat.le_of_ble_eq_true rfl) dX11_bestPlan_72 ?_
        refine a_goto (tgt := 103) dX11_bestPlan_75 (by decide) ?_
        exact sM_bestPlan_103 (d0 + 1) (by omega) k16 hk16 v1 v2 v3 v4 v5 v6 q1 I J _ h
      · replace h := h_iteF c h
        refine a_aload_n dX11_bestPlan_31 rfl rfl ?_
        refine a_iload dX11_bestPlan_32 rfl ?_
        refine a_iload dX11_bestPlan_34 rfl ?_
        refine a_iload_n dX11_bestPlan_36 rfl rfl ?_
        obtain ⟨q1, cq1, h⟩ := h_bindS h
        refine a_callV1 [] yy_X11_isLessPaid ml_11_513 km_0 rfl (sM_isLessPaid _ (by omega) v4 v6 v1 I J q1 cq1) rfl rfl (Nat.le_of_ble_eq_true rfl) dX11_bestPlan_37 ?_
        refine a_if_eq (tgt := 62) dX11_bestPlan_40 (by decide) (fun c => ?_) (fun c => ?_)
        · replace h := h_iteT c h
          refine a_iconst dX11_bestPlan_62 ic_0 ?_
          refine a_goto (tgt := 103) dX11_bestPlan_63 (by decide) ?_
          exact sM_bestPlan_103 (d0 + 1) (by omega) k16 hk16 v1 v2 v3 v4 v5 v6 (0 : Int32) I J _ h
        · replace h := h_iteF c h
          refine a_aload_n dX11_bestPlan_43 rfl rfl ?_
          refine b_getR hK_11 km_0 (i := 73) rfl fl_11_114 rfl rmm_73 dX11_bestPlan_44 ?_
          refine a_bipush dX11_bestPlan_47 bp_10 ?_
          refine a_iload dX11_bestPlan_49 rfl ?_
          refine a_imul dX11_bestPlan_51 ?_
          refine a_iload_n dX11_bestPlan_52 rfl rfl ?_
          refine a_iadd dX11_bestPlan_53 ?_
          obtain ⟨g2, h⟩ := h_gS h
          refine b_zaload km_35 (h_inV g2) dX11_bestPlan_54 ?_
          refine a_if_ne (tgt := 62) dX11_bestPlan_55 (by decide) (fun c => ?_) (fun c => ?_)
          · replace h := h_iteF c h
            refine a_iconst dX11_bestPlan_62 ic_0 ?_
            refine a_goto (tgt := 103) dX11_bestPlan_63 (by decide) ?_
            exact sM_bestPlan_103 (d0 + 1) (by omega) k16 hk16 v1 v2 v3 v4 v5 v6 (0 : Int32) I J _ h
          · replace h := h_iteT c h
            refine a_iconst dX11_bestPlan_58 ic_1 ?_
            refine a_goto (tgt := 103) dX11_bestPlan_59 (by decide) ?_
            exact sM_bestPlan_103 (d0 + 1) (by omega) k16 hk16 v1 v2 v3 v4 v5 v6 (1 : Int32) I J _ h
def mM_bestPlan_L16  : Nat → Int32 → Int32 → Int32 → Int32 → Int32 → Int32 → hI → hJ → Option (Int32 × hI × hJ)
  | 0 => fun _ _ _ _ _ _ _ _ => none
  | n + 1 => mM_bestPlan_B16 (mM_bestPlan_L16 n)
theorem sM_bestPlan_L16 (d : Nat) (hd : 103 + 1 ≤ d) : ∀ (n : Nat) (v1 : Int32) (v2 : Int32) (v3 : Int32) (v4 : Int32) (v5 : Int32) (v6 : Int32) (I : hI) (J : hJ) (q : Int32 × hI × hJ) (h : mM_bestPlan_L16 n v1 v2 v3 v4 v5 v6 I J = some q), AW hFT cX11_bestPlan 8 (some .int) RX11 kdM d [(0, .ref 0), (1, .int v1), (2, .int v2), (3, .int v3), (4, .int v4), (5, .int v5), (6, .int v6)] 16 [] (I, J, RMm) (some (.int q.1)) (q.2.1, q.2.2, RMm)
  | 0, _, _, _, _, _, _, _, _, q, h => by cases h
  | n + 1, v1, v2, v3, v4, v5, v6, I, J, q, h => sM_bestPlan_B16 d hd (mM_bestPlan_L16 n) (sM_bestPlan_L16 d hd n) v1 v2 v3 v4 v5 v6 I J q h
def mM_bestPlan  (v1 : Int32) (v2 : Int32) (v3 : Int32) (I : hI) (J : hJ) : Option (Int32 × hI × hJ) :=
  (mM_laysPlans I J).bind fun q1 =>
  (mM_plans q1.1).bind fun q2 =>
  mM_bestPlan_L16 hF v1 v2 v3 (0 : Int32) q2 (1 : Int32) q1.1 q1.2
set_option maxHeartbeats 4000000 in
theorem sM_bestPlan (d : Nat) (hd : 103 + 1 ≤ d) (v1 : Int32) (v2 : Int32) (v3 : Int32) (I : hI) (J : hJ) (q : Int32 × hI × hJ) (h : mM_bestPlan v1 v2 v3 I J = some q) : HMet hFT yX11_bestPlan cX11_bestPlan 8 (some .int) kdM d [.ref 0, .int v1, .int v2, .int v3] (I, J, RMm) (some (.int q.1)) (q.2.1, q.2.2, RMm) := by
  obtain ⟨d0, rfl, hd0⟩ := h_mono hd
  refine HMet.of (by decide) (Nat.le_of_ble_eq_true rfl) ?_
  show AW hFT cX11_bestPlan 8 (some .int) RX11 kdM (d0 + 1) [(0, .ref 0), (1, .int v1), (2, .int v2), (3, .int v3)] 0 [] (I, J, RMm) (some (.int q.1)) (q.2.1, q.2.2, RMm)
  unfold mM_bestPlan at h
  refine a_aload_n dX11_bestPlan_0 rfl rfl ?_
  obtain ⟨q1, cq1, h⟩ := h_bindS h
  refine a_callV0 [] yy_X11_laysPlans ml_11_510 km_0 rfl (sM_laysPlans _ (by omega)  I J q1 cq1) rfl rfl (Nat.le_of_ble_eq_true rfl) dX11_bestPlan_1 ?_
  refine a_iconst dX11_bestPlan_4 ic_0 ?_
  refine a_istore (lv' := [(4, .int (0 : Int32)), (0, .ref 0), (1, .int v1), (2, .int v2), (3, .int v3)]) dX11_bestPlan_5 (by decide) rfl ?_
  refine a_aload_n dX11_bestPlan_7 rfl rfl ?_
  obtain ⟨q2, cq2, h⟩ := h_bindS h
  refine a_callV1 [] yy_X11_plans ml_11_456 km_0 rfl (sM_plans _ (by omega)  q1.1 q1.2 q2 cq2) rfl rfl (Nat.le_of_ble_eq_true rfl) dX11_bestPlan_8 ?_
  refine a_istore (lv' := [(5, .int q2), (4, .int (0 : Int32)), (0, .ref 0), (1, .int v1), (2, .int v2), (3, .int v3)]) dX11_bestPlan_11 (by decide) rfl ?_
  refine a_iconst dX11_bestPlan_13 ic_1 ?_
  refine a_istore (lv' := [(6, .int (1 : Int32)), (5, .int q2), (4, .int (0 : Int32)), (0, .ref 0), (1, .int v1), (2, .int v2), (3, .int v3)]) dX11_bestPlan_14 (by decide) rfl ?_
  refine a_sub (lv' := [(0, .ref 0), (1, .int v1), (2, .int v2), (3, .int v3), (4, .int (0 : Int32)), (5, .int q2), (6, .int (1 : Int32))]) [3, 4, 5, 6, 2, 1, 0] rfl ?_
  exact sM_bestPlan_L16 (d0 + 1) (by omega) hF v1 v2 v3 (0 : Int32) q2 (1 : Int32) q1.1 q1.2 _ h
/-! CoinLoopsModel.refuses(I)I -/
theorem dX11_refuses_0 : decode cX11_refuses 0 = .ok (.aload_n 0, 1) := by decide +kernel
theorem dX11_refuses_1 : decode cX11_refuses 1 = .ok (.getfield 135, 3) := by decide +kernel
theorem dX11_refuses_4 : decode cX11_refuses 4 = .ok (.iload_n 1, 1) := by decide +kernel
theorem dX11_refuses_5 : decode cX11_refuses 5 = .ok (.dup2, 1) := by decide +kernel
theorem dX11_refuses_6 : decode cX11_refuses 6 = .ok (.iaload, 1) := by decide +kernel
theorem dX11_refuses_7 : decode cX11_refuses 7 = .ok (.iconst 1, 1) := by decide +kernel
theorem dX11_refuses_8 : decode cX11_refuses 8 = .ok (.iadd, 1) := by decide +kernel
theorem dX11_refuses_9 : decode cX11_refuses 9 = .ok (.iastore, 1) := by decide +kernel
theorem dX11_refuses_10 : decode cX11_refuses 10 = .ok (.iconst (-1), 1) := by decide +kernel
theorem dX11_refuses_11 : decode cX11_refuses 11 = .ok (.ireturn, 1) := by decide +kernel
def mM_refuses  (v1 : Int32) (I : hI) : Option (Int32 × hI) :=
  h_g (h_in v1 3) <|
  h_g (h_in v1 3) <|
  h_let (h_u I 42 v1.toNatClampNeg ((I 42 v1.toNatClampNeg) + (1 : Int32))) fun I3 =>
  some ((-1 : Int32), I3)
set_option maxHeartbeats 4000000 in
theorem sM_refuses (d : Nat) (hd : 0 ≤ d) (v1 : Int32) (I : hI) (J : hJ) (q : Int32 × hI) (h : mM_refuses v1 I = some q) : HMet hFT yX11_refuses cX11_refuses 2 (some .int) kdM d [.ref 0, .int v1] (I, J, RMm) (some (.int q.1)) (q.2, J, RMm) := by
  refine HMet.of (by decide) (Nat.le_of_ble_eq_true rfl) ?_
  show AW hFT cX11_refuses 2 (some .int) RX11 kdM d [(0, .ref 0), (1, .int v1)] 0 [] (I, J, RMm) (some (.int q.1)) (q.2, J, RMm)
  unfold mM_refuses at h
  refine a_aload_n dX11_refuses_0 rfl rfl ?_
  refine b_getR hK_11 km_0 (i := 81) rfl fl_11_135 rfl rmm_81 dX11_refuses_1 ?_
  refine a_iload_n dX11_refuses_4 rfl rfl ?_
  refine a_dup2_11 dX11_refuses_5 rfl rfl ?_
  obtain ⟨g1, h⟩ := h_gS h
  refine b_iaload km_42 (h_inV g1) dX11_refuses_6 ?_
  refine a_iconst dX11_refuses_7 ic_1 ?_
  refine a_iadd dX11_refuses_8 ?_
  obtain ⟨g2, h⟩ := h_gS h
  refine b_iastore km_42 (h_inV g2) dX11_refuses_9 ?_
  obtain ⟨I3, eI3, h⟩ := h_letS h
  refine a_memI eI3 ?_
  refine a_iconst dX11_refuses_10 ic_m1 ?_
  cases h
  exact a_iret dX11_refuses_11
/-! CoinLoopsModel.isState(I)Z -/
theorem dX11_isState_0 : decode cX11_isState 0 = .ok (.iload_n 1, 1) := by decide +kernel
theorem dX11_isState_1 : decode cX11_isState 1 = .ok (.i2l, 1) := by decide +kernel
theorem dX11_isState_2 : decode cX11_isState 2 = .ok (.lconst 0, 1) := by decide +kernel
theorem dX11_isState_3 : decode cX11_isState 3 = .ok (.aload_n 0, 1) := by decide +kernel
theorem dX11_isState_4 : decode cX11_isState 4 = .ok (.getfield 367, 3) := by decide +kernel
theorem dX11_isState_7 : decode cX11_isState 7 = .ok (.iconst 1, 1) := by decide +kernel
theorem dX11_isState_8 : decode cX11_isState 8 = .ok (.isub, 1) := by decide +kernel
theorem dX11_isState_9 : decode cX11_isState 9 = .ok (.i2l, 1) := by decide +kernel
theorem dX11_isState_10 : decode cX11_isState 10 = .ok (.invokestatic 167, 3) := by decide +kernel
theorem dX11_isState_13 : decode cX11_isState 13 = .ok (.ireturn, 1) := by decide +kernel
def mM_isState  (v1 : Int32) (I : hI) : Option (Int32) :=
  h_g (h_isZ (mM_in v1.toInt64 (0 : Int64) (((I 0 41) - (1 : Int32)).toInt64))) <|
  some (mM_in v1.toInt64 (0 : Int64) (((I 0 41) - (1 : Int32)).toInt64))
set_option maxHeartbeats 4000000 in
theorem sM_isState (d : Nat) (hd : 0 + 1 ≤ d) (v1 : Int32) (I : hI) (J : hJ) (q : Int32) (h : mM_isState v1 I = some q) : HMet hFT yX11_isState cX11_isState 2 (some .boolean) kdM d [.ref 0, .int v1] (I, J, RMm) (some (.int q)) (I, J, RMm) := by
  obtain ⟨d0, rfl, hd0⟩ := h_mono hd
  refine HMet.of (by decide) (Nat.le_of_ble_eq_true rfl) ?_
  show AW hFT cX11_isState 2 (some .boolean) RX11 kdM (d0 + 1) [(0, .ref 0), (1, .int v1)] 0 [] (I, J, RMm) (some (.int q)) (I, J, RMm)
  unfold mM_isState at h
  refine a_iload_n dX11_isState_0 rfl rfl ?_
  refine a_i2l dX11_isState_1 ?_
  refine a_lconst dX11_isState_2 lc_0 ?_
  refine a_aload_n dX11_isState_3 rfl rfl ?_
  refine b_getI hK_11 km_0 (i := 41) rfl fl_11_367 rfl dX11_isState_4 ?_
  refine a_iconst dX11_isState_7 ic_1 ?_
  refine a_isub dX11_isState_8 ?_
  refine a_i2l dX11_isState_9 ?_
  refine a_callS1 [] yy_X11_in ml_11_167 (sM_in _ (by omega) v1.toInt64 (0 : Int64) (((I 0 41) - (1 : Int32)).toInt64) I J _ rfl) rfl rfl (Nat.le_of_ble_eq_true rfl) dX11_isState_10 ?_
  obtain ⟨g1, h⟩ := h_gS h
  cases h
  exact a_zret ((h_isZV g1).1) dX11_isState_13
/-! CoinLoopsModel.isRefused(ZZ)Z -/
theorem dX11_isRefused_0 : decode cX11_isRefused 0 = .ok (.aload_n 0, 1) := by decide +kernel
theorem dX11_isRefused_1 : decode cX11_isRefused 1 = .ok (.getfield 351, 3) := by decide +kernel
theorem dX11_isRefused_4 : decode cX11_isRefused 4 = .ok (.ifCond .ne 7, 3) := by decide +kernel
theorem dX11_isRefused_7 : decode cX11_isRefused 7 = .ok (.iconst 0, 1) := by decide +kernel
theorem dX11_isRefused_8 : decode cX11_isRefused 8 = .ok (.goto 27, 3) := by decide +kernel
theorem dX11_isRefused_11 : decode cX11_isRefused 11 = .ok (.iload_n 1, 1) := by decide +kernel
theorem dX11_isRefused_12 : decode cX11_isRefused 12 = .ok (.ifCond .ne 7, 3) := by decide +kernel
theorem dX11_isRefused_15 : decode cX11_isRefused 15 = .ok (.iconst 1, 1) := by decide +kernel
theorem dX11_isRefused_16 : decode cX11_isRefused 16 = .ok (.goto 19, 3) := by decide +kernel
theorem dX11_isRefused_19 : decode cX11_isRefused 19 = .ok (.iload_n 2, 1) := by decide +kernel
theorem dX11_isRefused_20 : decode cX11_isRefused 20 = .ok (.ifCond .eq 14, 3) := by decide +kernel
theorem dX11_isRefused_23 : decode cX11_isRefused 23 = .ok (.aload_n 0, 1) := by decide +kernel
theorem dX11_isRefused_24 : decode cX11_isRefused 24 = .ok (.invokevirtual 519, 3) := by decide +kernel
theorem dX11_isRefused_27 : decode cX11_isRefused 27 = .ok (.ifCond .eq 7, 3) := by decide +kernel
theorem dX11_isRefused_30 : decode cX11_isRefused 30 = .ok (.iconst 2, 1) := by decide +kernel
theorem dX11_isRefused_31 : decode cX11_isRefused 31 = .ok (.goto 4, 3) := by decide +kernel
theorem dX11_isRefused_34 : decode cX11_isRefused 34 = .ok (.iconst (-1), 1) := by decide +kernel
theorem dX11_isRefused_35 : decode cX11_isRefused 35 = .ok (.istore_n 3, 1) := by decide +kernel
theorem dX11_isRefused_36 : decode cX11_isRefused 36 = .ok (.iload_n 3, 1) := by decide +kernel
theorem dX11_isRefused_37 : decode cX11_isRefused 37 = .ok (.iconst (-1), 1) := by decide +kernel
theorem dX11_isRefused_38 : decode cX11_isRefused 38 = .ok (.if_icmp .eq 9, 3) := by decide +kernel
theorem dX11_isRefused_41 : decode cX11_isRefused 41 = .ok (.aload_n 0, 1) := by decide +kernel
theorem dX11_isRefused_42 : decode cX11_isRefused 42 = .ok (.iload_n 3, 1) := by decide +kernel
theorem dX11_isRefused_43 : decode cX11_isRefused 43 = .ok (.invokevirtual 522, 3) := by decide +kernel
theorem dX11_isRefused_46 : decode cX11_isRefused 46 = .ok (.pop, 1) := by decide +kernel
theorem dX11_isRefused_47 : decode cX11_isRefused 47 = .ok (.iload_n 3, 1) := by decide +kernel
theorem dX11_isRefused_48 : decode cX11_isRefused 48 = .ok (.iconst (-1), 1) := by decide +kernel
theorem dX11_isRefused_49 : decode cX11_isRefused 49 = .ok (.if_icmp .eq 7, 3) := by decide +kernel
theorem dX11_isRefused_52 : decode cX11_isRefused 52 = .ok (.iconst 1, 1) := by decide +kernel
theorem dX11_isRefused_53 : decode cX11_isRefused 53 = .ok (.goto 4, 3) := by decide +kernel
theorem dX11_isRefused_56 : decode cX11_isRefused 56 = .ok (.iconst 0, 1) := by decide +kernel
theorem dX11_isRefused_57 : decode cX11_isRefused 57 = .ok (.ireturn, 1) := by decide +kernel
def mM_isRefused_47  (v3 : Int32) (I : hI) : Option (Int32 × hI) :=
  if v3 = (-1 : Int32) then
    some ((0 : Int32), I)
  else
    some ((1 : Int32), I)
set_option maxHeartbeats 4000000 in
theorem sM_isRefused_47 (d : Nat) (hd : 2 + 1 ≤ d) (v3 : Int32) (I : hI) (J : hJ) (q : Int32 × hI) (h : mM_isRefused_47 v3 I = some q) : AW hFT cX11_isRefused 4 (some .boolean) RX11 kdM d [(3, .int v3)] 47 [] (I, J, RMm) (some (.int q.1)) (q.2, J, RMm) := by
  obtain ⟨d0, rfl, hd0⟩ := h_mono hd
  unfold mM_isRefused_47 at h
  refine a_iload_n dX11_isRefused_47 rfl rfl ?_
  refine a_iconst dX11_isRefused_48 ic_m1 ?_
  refine a_icmp_eq (tgt := 56) dX11_isRefused_49 (by decide) (fun c => ?_) (fun c => ?_)
  · replace h := h_iteT c h
    refine a_iconst dX11_isRefused_56 ic_0 ?_
    cases h
    exact a_zret (h_Z0.1) dX11_isRefused_57
  · replace h := h_iteF c h
    refine a_iconst dX11_isRefused_52 ic_1 ?_
    refine a_goto (tgt := 57) dX11_isRefused_53 (by decide) ?_
    cases h
    exact a_zret (h_Z1.1) dX11_isRefused_57
def mM_isRefused_35  (vs0 : Int32) (I : hI) : Option (Int32 × hI) :=
  if vs0 = (-1 : Int32) then
    mM_isRefused_47 vs0 I
  else
    ((mM_refuses vs0 I).bind fun q1 =>
    mM_isRefused_47 vs0 q1.2)
set_option maxHeartbeats 4000000 in
theorem sM_isRefused_35 (d : Nat) (hd : 2 + 1 ≤ d) (vs0 : Int32) (I : hI) (J : hJ) (q : Int32 × hI) (h : mM_isRefused_35 vs0 I = some q) : AW hFT cX11_isRefused 4 (some .boolean) RX11 kdM d [(0, .ref 0)] 35 [.int vs0] (I, J, RMm) (some (.int q.1)) (q.2, J, RMm) := by
  obtain ⟨d0, rfl, hd0⟩ := h_mono hd
  unfold mM_isRefused_35 at h
  refine a_istore_n (lv' := [(3, .int vs0), (0, .ref 0)]) dX11_isRefused_35 rfl (by decide) rfl ?_
  refine a_iload_n dX11_isRefused_36 rfl rfl ?_
  refine a_iconst dX11_isRefused_37 ic_m1 ?_
  refine a_icmp_eq (tgt := 47) dX11_isRefused_38 (by decide) (fun c => ?_) (fun c => ?_)
  · replace h := h_iteT c h
    refine a_sub (lv' := [(3, .int vs0)]) [0] rfl ?_
    exact sM_isRefused_47 (d0 + 1) (by omega) vs0 I J _ h
  · replace h := h_iteF c h
    refine a_aload_n dX11_isRefused_41 rfl rfl ?_
    refine a_iload_n dX11_isRefused_42 rfl rfl ?_
    obtain ⟨q1, cq1, h⟩ := h_bindS h
    refine a_callV1 [] yy_X11_refuses ml_11_522 km_0 rfl (sM_refuses _ (by omega) vs0 I J q1 cq1) rfl rfl (Nat.le_of_ble_eq_true rfl) dX11_isRefused_43 ?_
    refine a_pop dX11_isRefused_46 rfl ?_
    refine a_sub (lv' := [(3, .int vs0)]) [0] rfl ?_
    exact sM_isRefused_47 (d0 + 1) (by omega) vs0 q1.2 J _ h
def mM_isRefused_34   (I : hI) : Option (Int32 × hI) :=
  mM_isRefused_35 (-1 : Int32) I
set_option maxHeartbeats 4000000 in
theorem sM_isRefused_34 (d : Nat) (hd : 2 + 1 ≤ d)  (I : hI) (J : hJ) (q : Int32 × hI) (h : mM_isRefused_34 I = some q) : AW hFT cX11_isRefused 4 (some .boolean) RX11 kdM d [(0, .ref 0)] 34 [] (I, J, RMm) (some (.int q.1)) (q.2, J, RMm) := by
  obtain ⟨d0, rfl, hd0⟩ := h_mono hd
  unfold mM_isRefused_34 at h
  refine a_iconst dX11_isRefused_34 ic_m1 ?_
  exact sM_isRefused_35 (d0 + 1) (by omega) (-1 : Int32) I J _ h
def mM_isRefused  (v1 : Int32) (v2 : Int32) (I : hI) : Option (Int32 × hI) :=
  if (I 0 37) = 0 then
    mM_isRefused_35 (0 : Int32) I
  else
    (if v1 = 0 then
      mM_isRefused_35 (1 : Int32) I
    else
      (if v2 = 0 then
        mM_isRefused_34 I
      else
        ((mM_areTooMany I).bind fun q1 =>
        if q1 = 0 then
          mM_isRefused_34 I
        else
          mM_isRefused_35 (2 : Int32) I)))
set_option maxHeartbeats 4000000 in
theorem sM_isRefused (d : Nat) (hd : 2 + 1 ≤ d) (v1 : Int32) (v2 : Int32) (I : hI) (J : hJ) (q : Int32 × hI) (h : mM_isRefused v1 v2 I = some q) : HMet hFT yX11_isRefused cX11_isRefused 4 (some .boolean) kdM d [.ref 0, .int v1, .int v2] (I, J, RMm) (some (.int q.1)) (q.2, J, RMm) := by
  obtain ⟨d0, rfl, hd0⟩ := h_mono hd
  refine HMet.of (by decide) (Nat.le_of_ble_eq_true rfl) ?_
  show AW hFT cX11_isRefused 4 (some .boolean) RX11 kdM (d0 + 1) [(0, .ref 0), (1, .int v1), (2, .int v2)] 0 [] (I, J, RMm) (some (.int q.1)) (q.2, J, RMm)
  unfold mM_isRefused at h
  refine a_aload_n dX11_isRefused_0 rfl rfl ?_
  refine b_getI hK_11 km_0 (i := 37) rfl fl_11_351 rfl dX11_isRefused_1 ?_
  refine a_if_ne (tgt := 11) dX11_isRefused_4 (by decide) (fun c => ?_) (fun c => ?_)
  · replace h := h_iteF c h
    refine a_iload_n dX11_isRefused_11 rfl rfl ?_
    refine a_if_ne (tgt := 19) dX11_isRefused_12 (by decide) (fun c => ?_) (fun c => ?_)
    · replace h := h_iteF c h
      refine a_iload_n dX11_isRefused_19 rfl rfl ?_
      refine a_if_eq (tgt := 34) dX11_isRefused_20 (by decide) (fun c => ?_) (fun c => ?_)
      · replace h := h_iteT c h
        refine a_sub (lv' := [(0, .ref 0)]) [0] rfl ?_
        exact sM_isRefused_34 (d0 + 1) (by omega)  I J _ h
      · replace h := h_iteF c h
        refine a_aload_n dX11_isRefused_23 rfl rfl ?_
        obtain ⟨q1, cq1, h⟩ := h_bindS h
        refine a_callV1 [] yy_X11_areTooMany ml_11_519 km_0 rfl (sM_areTooMany _ (by omega)  I J q1 cq1) rfl rfl (Nat.le_of_ble_eq_true rfl) dX11_isRefused_24 ?_
        refine a_if_eq (tgt := 34) dX11_isRefused_27 (by decide) (fun c => ?_) (fun c => ?_)
        · replace h := h_iteT c h
          refine a_sub (lv' := [(0, .ref 0)]) [0] rfl ?_
          exact sM_isRefused_34 (d0 + 1) (by omega)  I J _ h
        · replace h := h_iteF c h
          refine a_iconst dX11_isRefused_30 ic_2 ?_
          refine a_goto (tgt := 35) dX11_isRefused_31 (by decide) ?_
          refine a_sub (lv' := [(0, .ref 0)]) [0] rfl ?_
          exact sM_isRefused_35 (d0 + 1) (by omega) (2 : Int32) I J _ h
    · replace h := h_iteT c h
      refine a_iconst dX11_isRefused_15 ic_1 ?_
      refine a_goto (tgt := 35) dX11_isRefused_16 (by decide) ?_
      refine a_sub (lv' := [(0, .ref 0)]) [0] rfl ?_
      exact sM_isRefused_35 (d0 + 1) (by omega) (1 : Int32) I J _ h
  · replace h := h_iteT c h
    refine a_iconst dX11_isRefused_7 ic_0 ?_
    refine a_goto (tgt := 35) dX11_isRefused_8 (by decide) ?_
    refine a_sub (lv' := [(0, .ref 0)]) [0] rfl ?_
    exact sM_isRefused_35 (d0 + 1) (by omega) (0 : Int32) I J _ h
/-! CoinLoopsModel.insideBits()I -/
theorem dX11_insideBits_0 : decode cX11_insideBits 0 = .ok (.iconst 0, 1) := by decide +kernel
theorem dX11_insideBits_1 : decode cX11_insideBits 1 = .ok (.istore_n 1, 1) := by decide +kernel
theorem dX11_insideBits_2 : decode cX11_insideBits 2 = .ok (.iconst 0, 1) := by decide +kernel
theorem dX11_insideBits_3 : decode cX11_insideBits 3 = .ok (.istore_n 2, 1) := by decide +kernel
theorem dX11_insideBits_4 : decode cX11_insideBits 4 = .ok (.iload_n 2, 1) := by decide +kernel
theorem dX11_insideBits_5 : decode cX11_insideBits 5 = .ok (.aload_n 0, 1) := by decide +kernel
theorem dX11_insideBits_6 : decode cX11_insideBits 6 = .ok (.getfield 367, 3) := by decide +kernel
theorem dX11_insideBits_9 : decode cX11_insideBits 9 = .ok (.if_icmp .ge 27, 3) := by decide +kernel
theorem dX11_insideBits_12 : decode cX11_insideBits 12 = .ok (.iload_n 1, 1) := by decide +kernel
theorem dX11_insideBits_13 : decode cX11_insideBits 13 = .ok (.aload_n 0, 1) := by decide +kernel
theorem dX11_insideBits_14 : decode cX11_insideBits 14 = .ok (.iload_n 2, 1) := by decide +kernel
theorem dX11_insideBits_15 : decode cX11_insideBits 15 = .ok (.invokevirtual 463, 3) := by decide +kernel
theorem dX11_insideBits_18 : decode cX11_insideBits 18 = .ok (.ifCond .eq 9, 3) := by decide +kernel
theorem dX11_insideBits_21 : decode cX11_insideBits 21 = .ok (.iconst 1, 1) := by decide +kernel
theorem dX11_insideBits_22 : decode cX11_insideBits 22 = .ok (.iload_n 2, 1) := by decide +kernel
theorem dX11_insideBits_23 : decode cX11_insideBits 23 = .ok (.ishl, 1) := by decide +kernel
theorem dX11_insideBits_24 : decode cX11_insideBits 24 = .ok (.goto 4, 3) := by decide +kernel
theorem dX11_insideBits_27 : decode cX11_insideBits 27 = .ok (.iconst 0, 1) := by decide +kernel
theorem dX11_insideBits_28 : decode cX11_insideBits 28 = .ok (.ior, 1) := by decide +kernel
theorem dX11_insideBits_29 : decode cX11_insideBits 29 = .ok (.istore_n 1, 1) := by decide +kernel
theorem dX11_insideBits_30 : decode cX11_insideBits 30 = .ok (.iinc 2 1, 3) := by decide +kernel
theorem dX11_insideBits_33 : decode cX11_insideBits 33 = .ok (.goto (-29), 3) := by decide +kernel
theorem dX11_insideBits_36 : decode cX11_insideBits 36 = .ok (.iload_n 1, 1) := by decide +kernel
theorem dX11_insideBits_37 : decode cX11_insideBits 37 = .ok (.ireturn, 1) := by decide +kernel
def mM_insideBits_B4 (k4 : Int32 → Int32 → hI → Option (Int32)) (v1 : Int32) (v2 : Int32) (I : hI) : Option (Int32) :=
  if (I 0 41) ≤ v2 then
    some v1
  else
    ((mM_isInside v2 I).bind fun q1 =>
    if q1 = 0 then
      (h_let (v1 ||| (0 : Int32)) fun v1x1 =>
      k4 v1x1 (v2 + (1 : Int32)) I)
    else
      (h_let (v1 ||| ((1 : Int32) <<< (v2 &&& 31))) fun v1x1 =>
      k4 v1x1 (v2 + (1 : Int32)) I))
set_option maxHeartbeats 4000000 in
theorem sM_insideBits_B4 (d : Nat) (hd : 0 + 1 ≤ d) (k4 : Int32 → Int32 → hI → Option (Int32)) (hk4 : ∀ (v1 : Int32) (v2 : Int32) (I : hI) (J : hJ) (q : Int32), k4 v1 v2 I = some q → AW hFT cX11_insideBits 3 (some .int) RX11 kdM d [(0, .ref 0), (1, .int v1), (2, .int v2)] 4 [] (I, J, RMm) (some (.int q)) (I, J, RMm)) (v1 : Int32) (v2 : Int32) (I : hI) (J : hJ) (q : Int32) (h : mM_insideBits_B4 k4 v1 v2 I = some q) : AW hFT cX11_insideBits 3 (some .int) RX11 kdM d [(0, .ref 0), (1, .int v1), (2, .int v2)] 4 [] (I, J, RMm) (some (.int q)) (I, J, RMm) := by
  obtain ⟨d0, rfl, hd0⟩ := h_mono hd
  unfold mM_insideBits_B4 at h
  refine a_iload_n dX11_insideBits_4 rfl rfl ?_
  refine a_aload_n dX11_insideBits_5 rfl rfl ?_
  refine b_getI hK_11 km_0 (i := 41) rfl fl_11_367 rfl dX11_insideBits_6 ?_
  refine a_icmp_ge (tgt := 36) dX11_insideBits_9 (by decide) (fun c => ?_) (fun c => ?_)
  · replace h := h_iteT c h
    refine a_iload_n dX11_insideBits_36 rfl rfl ?_
    cases h
    exact a_iret dX11_insideBits_37
  · replace h := h_iteF c h
    refine a_iload_n dX11_insideBits_12 rfl rfl ?_
    refine a_aload_n dX11_insideBits_13 rfl rfl ?_
    refine a_iload_n dX11_insideBits_14 rfl rfl ?_
    obtain ⟨q1, cq1, h⟩ := h_bindS h
    refine a_callV1 [.int v1] yy_X11_isInside ml_11_463 km_0 rfl (sM_isInside _ (by omega) v2 I J q1 cq1) rfl rfl (Nat.le_of_ble_eq_true rfl) dX11_insideBits_15 ?_
    refine a_if_eq (tgt := 27) dX11_insideBits_18 (by decide) (fun c => ?_) (fun c => ?_)
    · replace h := h_iteT c h
      refine a_iconst dX11_insideBits_27 ic_0 ?_
      refine a_ior dX11_insideBits_28 ?_
      obtain ⟨v1x1, ev1x1, h⟩ := h_letS h
      refine a_topI ev1x1 ?_
      refine a_istore_n (lv' := [(1, .int v1x1), (0, .ref 0), (2, .int v2)]) dX11_insideBits_29 rfl (by decide) rfl ?_
      refine b_iinc (lv' := [(2, .int (v2 + (1 : Int32))), (1, .int v1x1), (0, .ref 0)]) dX11_insideBits_30 rfl ic_1 (by decide) rfl ?_
      refine a_goto (tgt := 4) dX11_insideBits_33 (by decide) ?_
      refine a_sub (lv' := [(0, .ref 0), (1, .int v1x1), (2, .int (v2 + (1 : Int32)))]) [2, 1, 0] rfl ?_
      exact hk4 v1x1 (v2 + (1 : Int32)) I J _ h
    · replace h := h_iteF c h
      refine a_iconst dX11_insideBits_21 ic_1 ?_
      refine a_iload_n dX11_insideBits_22 rfl rfl ?_
      refine a_ishl dX11_insideBits_23 ?_
      refine a_goto (tgt := 28) dX11_insideBits_24 (by decide) ?_
      refine a_ior dX11_insideBits_28 ?_
      obtain ⟨v1x1, ev1x1, h⟩ := h_letS h
      refine a_topI ev1x1 ?_
      refine a_istore_n (lv' := [(1, .int v1x1), (0, .ref 0), (2, .int v2)]) dX11_insideBits_29 rfl (by decide) rfl ?_
      refine b_iinc (lv' := [(2, .int (v2 + (1 : Int32))), (1, .int v1x1), (0, .ref 0)]) dX11_insideBits_30 rfl ic_1 (by decide) rfl ?_
      refine a_goto (tgt := 4) dX11_insideBits_33 (by decide) ?_
      refine a_sub (lv' := [(0, .ref 0), (1, .int v1x1), (2, .int (v2 + (1 : Int32)))]) [2, 1, 0] rfl ?_
      exact hk4 v1x1 (v2 + (1 : Int32)) I J _ h
def mM_insideBits_L4  : Nat → Int32 → Int32 → hI → Option (Int32)
  | 0 => fun _ _ _ => none
  | n + 1 => mM_insideBits_B4 (mM_insideBits_L4 n)
theorem sM_insideBits_L4 (d : Nat) (hd : 0 + 1 ≤ d) : ∀ (n : Nat) (v1 : Int32) (v2 : Int32) (I : hI) (J : hJ) (q : Int32) (h : mM_insideBits_L4 n v1 v2 I = some q), AW hFT cX11_insideBits 3 (some .int) RX11 kdM d [(0, .ref 0), (1, .int v1), (2, .int v2)] 4 [] (I, J, RMm) (some (.int q)) (I, J, RMm)
  | 0, _, _, _, _, q, h => by cases h
  | n + 1, v1, v2, I, J, q, h => sM_insideBits_B4 d hd (mM_insideBits_L4 n) (sM_insideBits_L4 d hd n) v1 v2 I J q h
def mM_insideBits   (I : hI) : Option (Int32) :=
  mM_insideBits_L4 hF (0 : Int32) (0 : Int32) I
set_option maxHeartbeats 4000000 in
theorem sM_insideBits (d : Nat) (hd : 0 + 1 ≤ d)  (I : hI) (J : hJ) (q : Int32) (h : mM_insideBits I = some q) : HMet hFT yX11_insideBits cX11_insideBits 3 (some .int) kdM d [.ref 0] (I, J, RMm) (some (.int q)) (I, J, RMm) := by
  obtain ⟨d0, rfl, hd0⟩ := h_mono hd
  refine HMet.of (by decide) (Nat.le_of_ble_eq_true rfl) ?_
  show AW hFT cX11_insideBits 3 (some .int) RX11 kdM (d0 + 1) [(0, .ref 0)] 0 [] (I, J, RMm) (some (.int q)) (I, J, RMm)
  unfold mM_insideBits at h
  refine a_iconst dX11_insideBits_0 ic_0 ?_
  refine a_istore_n (lv' := [(1, .int (0 : Int32)), (0, .ref 0)]) dX11_insideBits_1 rfl (by decide) rfl ?_
  refine a_iconst dX11_insideBits_2 ic_0 ?_
  refine a_istore_n (lv' := [(2, .int (0 : Int32)), (1, .int (0 : Int32)), (0, .ref 0)]) dX11_insideBits_3 rfl (by decide) rfl ?_
  refine a_sub (lv' := [(0, .ref 0), (1, .int (0 : Int32)), (2, .int (0 : Int32))]) [2, 1, 0] rfl ?_
  exact sM_insideBits_L4 (d0 + 1) (by omega) hF (0 : Int32) (0 : Int32) I J _ h
/-! CoinLoopsModel.plansTold()I -/
theorem dX11_plansTold_0 : decode cX11_plansTold 0 = .ok (.aload_n 0, 1) := by decide +kernel
theorem dX11_plansTold_1 : decode cX11_plansTold 1 = .ok (.invokevirtual 519, 3) := by decide +kernel
theorem dX11_plansTold_4 : decode cX11_plansTold 4 = .ok (.ifCond .eq 8, 3) := by decide +kernel
theorem dX11_plansTold_7 : decode cX11_plansTold 7 = .ok (.bipush (-2), 2) := by decide +kernel
theorem dX11_plansTold_9 : decode cX11_plansTold 9 = .ok (.goto 7, 3) := by decide +kernel
theorem dX11_plansTold_12 : decode cX11_plansTold 12 = .ok (.aload_n 0, 1) := by decide +kernel
theorem dX11_plansTold_13 : decode cX11_plansTold 13 = .ok (.invokevirtual 456, 3) := by decide +kernel
theorem dX11_plansTold_16 : decode cX11_plansTold 16 = .ok (.ireturn, 1) := by decide +kernel
def mM_plansTold   (I : hI) : Option (Int32) :=
  (mM_areTooMany I).bind fun q1 =>
  if q1 = 0 then
    ((mM_plans I).bind fun q2 =>
    some q2)
  else
    some (-2 : Int32)
set_option maxHeartbeats 4000000 in
theorem sM_plansTold (d : Nat) (hd : 2 + 1 ≤ d)  (I : hI) (J : hJ) (q : Int32) (h : mM_plansTold I = some q) : HMet hFT yX11_plansTold cX11_plansTold 1 (some .int) kdM d [.ref 0] (I, J, RMm) (some (.int q)) (I, J, RMm) := by
  obtain ⟨d0, rfl, hd0⟩ := h_mono hd
  refine HMet.of (by decide) (Nat.le_of_ble_eq_true rfl) ?_
  show AW hFT cX11_plansTold 1 (some .int) RX11 kdM (d0 + 1) [(0, .ref 0)] 0 [] (I, J, RMm) (some (.int q)) (I, J, RMm)
  unfold mM_plansTold at h
  refine a_aload_n dX11_plansTold_0 rfl rfl ?_
  obtain ⟨q1, cq1, h⟩ := h_bindS h
  refine a_callV1 [] yy_X11_areTooMany ml_11_519 km_0 rfl (sM_areTooMany _ (by omega)  I J q1 cq1) rfl rfl (Nat.le_of_ble_eq_true rfl) dX11_plansTold_1 ?_
  refine a_if_eq (tgt := 12) dX11_plansTold_4 (by decide) (fun c => ?_) (fun c => ?_)
  · replace h := h_iteT c h
    refine a_aload_n dX11_plansTold_12 rfl rfl ?_
    obtain ⟨q2, cq2, h⟩ := h_bindS h
    refine a_callV1 [] yy_X11_plans ml_11_456 km_0 rfl (sM_plans _ (by omega)  I J q2 cq2) rfl rfl (Nat.le_of_ble_eq_true rfl) dX11_plansTold_13 ?_
    cases h
    exact a_iret dX11_plansTold_16
  · replace h := h_iteF c h
    refine a_bipush dX11_plansTold_7 bp_m2 ?_
    refine a_goto (tgt := 16) dX11_plansTold_9 (by decide) ?_
    cases h
    exact a_iret dX11_plansTold_16
/-! CoinLoopsModel.rule(I)I -/
theorem dX11_rule_0 : decode cX11_rule 0 = .ok (.aload_n 0, 1) := by decide +kernel
theorem dX11_rule_1 : decode cX11_rule 1 = .ok (.iconst 0, 1) := by decide +kernel
theorem dX11_rule_2 : decode cX11_rule 2 = .ok (.putfield 156, 3) := by decide +kernel
theorem dX11_rule_5 : decode cX11_rule 5 = .ok (.aload_n 0, 1) := by decide +kernel
theorem dX11_rule_6 : decode cX11_rule 6 = .ok (.iload_n 1, 1) := by decide +kernel
theorem dX11_rule_7 : decode cX11_rule 7 = .ok (.i2l, 1) := by decide +kernel
theorem dX11_rule_8 : decode cX11_rule 8 = .ok (.lconst 0, 1) := by decide +kernel
theorem dX11_rule_9 : decode cX11_rule 9 = .ok (.ldc2_w 525, 3) := by decide +kernel
theorem dX11_rule_12 : decode cX11_rule 12 = .ok (.invokestatic 167, 3) := by decide +kernel
theorem dX11_rule_15 : decode cX11_rule 15 = .ok (.iconst 0, 1) := by decide +kernel
theorem dX11_rule_16 : decode cX11_rule 16 = .ok (.invokevirtual 527, 3) := by decide +kernel
theorem dX11_rule_19 : decode cX11_rule 19 = .ok (.ifCond .eq 6, 3) := by decide +kernel
theorem dX11_rule_22 : decode cX11_rule 22 = .ok (.bipush (-2), 2) := by decide +kernel
theorem dX11_rule_24 : decode cX11_rule 24 = .ok (.ireturn, 1) := by decide +kernel
theorem dX11_rule_25 : decode cX11_rule 25 = .ok (.iload_n 1, 1) := by decide +kernel
theorem dX11_rule_26 : decode cX11_rule 26 = .ok (.tableswitch 90 0 7 #[46, 53, 60, 65, 70, 75, 80, 85], 46) := by decide +kernel
theorem dX11_rule_72 : decode cX11_rule 72 = .ok (.aload_n 0, 1) := by decide +kernel
theorem dX11_rule_73 : decode cX11_rule 73 = .ok (.getfield 361, 3) := by decide +kernel
theorem dX11_rule_76 : decode cX11_rule 76 = .ok (.iconst 1, 1) := by decide +kernel
theorem dX11_rule_77 : decode cX11_rule 77 = .ok (.isub, 1) := by decide +kernel
theorem dX11_rule_78 : decode cX11_rule 78 = .ok (.ireturn, 1) := by decide +kernel
theorem dX11_rule_79 : decode cX11_rule 79 = .ok (.aload_n 0, 1) := by decide +kernel
theorem dX11_rule_80 : decode cX11_rule 80 = .ok (.getfield 364, 3) := by decide +kernel
theorem dX11_rule_83 : decode cX11_rule 83 = .ok (.iconst 1, 1) := by decide +kernel
theorem dX11_rule_84 : decode cX11_rule 84 = .ok (.isub, 1) := by decide +kernel
theorem dX11_rule_85 : decode cX11_rule 85 = .ok (.ireturn, 1) := by decide +kernel
theorem dX11_rule_86 : decode cX11_rule 86 = .ok (.aload_n 0, 1) := by decide +kernel
theorem dX11_rule_87 : decode cX11_rule 87 = .ok (.getfield 367, 3) := by decide +kernel
theorem dX11_rule_90 : decode cX11_rule 90 = .ok (.ireturn, 1) := by decide +kernel
theorem dX11_rule_91 : decode cX11_rule 91 = .ok (.aload_n 0, 1) := by decide +kernel
theorem dX11_rule_92 : decode cX11_rule 92 = .ok (.invokevirtual 531, 3) := by decide +kernel
theorem dX11_rule_95 : decode cX11_rule 95 = .ok (.ireturn, 1) := by decide +kernel
theorem dX11_rule_96 : decode cX11_rule 96 = .ok (.aload_n 0, 1) := by decide +kernel
theorem dX11_rule_97 : decode cX11_rule 97 = .ok (.getfield 370, 3) := by decide +kernel
theorem dX11_rule_100 : decode cX11_rule 100 = .ok (.ireturn, 1) := by decide +kernel
theorem dX11_rule_101 : decode cX11_rule 101 = .ok (.aload_n 0, 1) := by decide +kernel
theorem dX11_rule_102 : decode cX11_rule 102 = .ok (.getfield 373, 3) := by decide +kernel
theorem dX11_rule_105 : decode cX11_rule 105 = .ok (.ireturn, 1) := by decide +kernel
theorem dX11_rule_106 : decode cX11_rule 106 = .ok (.aload_n 0, 1) := by decide +kernel
theorem dX11_rule_107 : decode cX11_rule 107 = .ok (.invokevirtual 534, 3) := by decide +kernel
theorem dX11_rule_110 : decode cX11_rule 110 = .ok (.ireturn, 1) := by decide +kernel
theorem dX11_rule_111 : decode cX11_rule 111 = .ok (.aload_n 0, 1) := by decide +kernel
theorem dX11_rule_112 : decode cX11_rule 112 = .ok (.getfield 358, 3) := by decide +kernel
theorem dX11_rule_115 : decode cX11_rule 115 = .ok (.ireturn, 1) := by decide +kernel
theorem dX11_rule_116 : decode cX11_rule 116 = .ok (.iconst 0, 1) := by decide +kernel
theorem dX11_rule_117 : decode cX11_rule 117 = .ok (.istore_n 2, 1) := by decide +kernel
theorem dX11_rule_118 : decode cX11_rule 118 = .ok (.iconst 0, 1) := by decide +kernel
theorem dX11_rule_119 : decode cX11_rule 119 = .ok (.istore_n 3, 1) := by decide +kernel
theorem dX11_rule_120 : decode cX11_rule 120 = .ok (.iload_n 3, 1) := by decide +kernel
theorem dX11_rule_121 : decode cX11_rule 121 = .ok (.iconst 3, 1) := by decide +kernel
theorem dX11_rule_122 : decode cX11_rule 122 = .ok (.if_icmp .ge 29, 3) := by decide +kernel
theorem dX11_rule_125 : decode cX11_rule 125 = .ok (.iload_n 2, 1) := by decide +kernel
theorem dX11_rule_126 : decode cX11_rule 126 = .ok (.aload_n 0, 1) := by decide +kernel
theorem dX11_rule_127 : decode cX11_rule 127 = .ok (.getfield 80, 3) := by decide +kernel
theorem dX11_rule_130 : decode cX11_rule 130 = .ok (.iload_n 3, 1) := by decide +kernel
theorem dX11_rule_131 : decode cX11_rule 131 = .ok (.iaload, 1) := by decide +kernel
theorem dX11_rule_132 : decode cX11_rule 132 = .ok (.iconst (-1), 1) := by decide +kernel
theorem dX11_rule_133 : decode cX11_rule 133 = .ok (.if_icmp .ne 7, 3) := by decide +kernel
theorem dX11_rule_136 : decode cX11_rule 136 = .ok (.iconst 0, 1) := by decide +kernel
theorem dX11_rule_137 : decode cX11_rule 137 = .ok (.goto 6, 3) := by decide +kernel
theorem dX11_rule_140 : decode cX11_rule 140 = .ok (.iconst 1, 1) := by decide +kernel
theorem dX11_rule_141 : decode cX11_rule 141 = .ok (.iload_n 3, 1) := by decide +kernel
theorem dX11_rule_142 : decode cX11_rule 142 = .ok (.ishl, 1) := by decide +kernel
theorem dX11_rule_143 : decode cX11_rule 143 = .ok (.ior, 1) := by decide +kernel
theorem dX11_rule_144 : decode cX11_rule 144 = .ok (.istore_n 2, 1) := by decide +kernel
theorem dX11_rule_145 : decode cX11_rule 145 = .ok (.iinc 3 1, 3) := by decide +kernel
theorem dX11_rule_148 : decode cX11_rule 148 = .ok (.goto (-28), 3) := by decide +kernel
theorem dX11_rule_151 : decode cX11_rule 151 = .ok (.iload_n 2, 1) := by decide +kernel
theorem dX11_rule_152 : decode cX11_rule 152 = .ok (.ireturn, 1) := by decide +kernel
def mM_rule_B120 (k120 : Int32 → Int32 → hI → Option (Int32 × hI)) (v2 : Int32) (v3 : Int32) (I : hI) : Option (Int32 × hI) :=
  if (3 : Int32) ≤ v3 then
    some (v2, I)
  else
    (h_g (h_in v3 3) <|
    if (I 24 v3.toNatClampNeg) = (-1 : Int32) then
      (h_let (v2 ||| (0 : Int32)) fun v2x1 =>
      k120 v2x1 (v3 + (1 : Int32)) I)
    else
      (h_let (v2 ||| ((1 : Int32) <<< (v3 &&& 31))) fun v2x1 =>
      k120 v2x1 (v3 + (1 : Int32)) I))
set_option maxHeartbeats 4000000 in
theorem sM_rule_B120 (d : Nat) (hd : 3 + 1 ≤ d) (k120 : Int32 → Int32 → hI → Option (Int32 × hI)) (hk120 : ∀ (v2 : Int32) (v3 : Int32) (I : hI) (J : hJ) (q : Int32 × hI), k120 v2 v3 I = some q → AW hFT cX11_rule 4 (some .int) RX11 kdM d [(0, .ref 0), (2, .int v2), (3, .int v3)] 120 [] (I, J, RMm) (some (.int q.1)) (q.2, J, RMm)) (v2 : Int32) (v3 : Int32) (I : hI) (J : hJ) (q : Int32 × hI) (h : mM_rule_B120 k120 v2 v3 I = some q) : AW hFT cX11_rule 4 (some .int) RX11 kdM d [(0, .ref 0), (2, .int v2), (3, .int v3)] 120 [] (I, J, RMm) (some (.int q.1)) (q.2, J, RMm) := by
  obtain ⟨d0, rfl, hd0⟩ := h_mono hd
  unfold mM_rule_B120 at h
  refine a_iload_n dX11_rule_120 rfl rfl ?_
  refine a_iconst dX11_rule_121 ic_3 ?_
  refine a_icmp_ge (tgt := 151) dX11_rule_122 (by decide) (fun c => ?_) (fun c => ?_)
  · replace h := h_iteT c h
    refine a_iload_n dX11_rule_151 rfl rfl ?_
    cases h
    exact a_iret dX11_rule_152
  · replace h := h_iteF c h
    refine a_iload_n dX11_rule_125 rfl rfl ?_
    refine a_aload_n dX11_rule_126 rfl rfl ?_
    refine b_getR hK_11 km_0 (i := 52) rfl fl_11_80 rfl rmm_52 dX11_rule_127 ?_
    refine a_iload_n dX11_rule_130 rfl rfl ?_
    obtain ⟨g1, h⟩ := h_gS h
    refine b_iaload km_24 (h_inV g1) dX11_rule_131 ?_
    refine a_iconst dX11_rule_132 ic_m1 ?_
    refine a_icmp_ne (tgt := 140) dX11_rule_133 (by decide) (fun c => ?_) (fun c => ?_)
    · replace h := h_iteF c h
      refine a_iconst dX11_rule_140 ic_1 ?_
      refine a_iload_n dX11_rule_141 rfl rfl ?_
      refine a_ishl dX11_rule_142 ?_
      refine a_ior dX11_rule_143 ?_
      obtain ⟨v2x1, ev2x1, h⟩ := h_letS h
      refine a_topI ev2x1 ?_
      refine a_istore_n (lv' := [(2, .int v2x1), (0, .ref 0), (3, .int v3)]) dX11_rule_144 rfl (by decide) rfl ?_
      refine b_iinc (lv' := [(3, .int (v3 + (1 : Int32))), (2, .int v2x1), (0, .ref 0)]) dX11_rule_145 rfl ic_1 (by decide) rfl ?_
      refine a_goto (tgt := 120) dX11_rule_148 (by decide) ?_
      refine a_sub (lv' := [(0, .ref 0), (2, .int v2x1), (3, .int (v3 + (1 : Int32)))]) [2, 1, 0] rfl ?_
      exact hk120 v2x1 (v3 + (1 : Int32)) I J _ h
    · replace h := h_iteT c h
      refine a_iconst dX11_rule_136 ic_0 ?_
      refine a_goto (tgt := 143) dX11_rule_137 (by decide) ?_
      refine a_ior dX11_rule_143 ?_
      obtain ⟨v2x1, ev2x1, h⟩ := h_letS h
      refine a_topI ev2x1 ?_
      refine a_istore_n (lv' := [(2, .int v2x1), (0, .ref 0), (3, .int v3)]) dX11_rule_144 rfl (by decide) rfl ?_
      refine b_iinc (lv' := [(3, .int (v3 + (1 : Int32))), (2, .int v2x1), (0, .ref 0)]) dX11_rule_145 rfl ic_1 (by decide) rfl ?_
      refine a_goto (tgt := 120) dX11_rule_148 (by decide) ?_
      refine a_sub (lv' := [(0, .ref 0), (2, .int v2x1), (3, .int (v3 + (1 : Int32)))]) [2, 1, 0] rfl ?_
      exact hk120 v2x1 (v3 + (1 : Int32)) I J _ h
def mM_rule_L120  : Nat → Int32 → Int32 → hI → Option (Int32 × hI)
  | 0 => fun _ _ _ => none
  | n + 1 => mM_rule_B120 (mM_rule_L120 n)
theorem sM_rule_L120 (d : Nat) (hd : 3 + 1 ≤ d) : ∀ (n : Nat) (v2 : Int32) (v3 : Int32) (I : hI) (J : hJ) (q : Int32 × hI) (h : mM_rule_L120 n v2 v3 I = some q), AW hFT cX11_rule 4 (some .int) RX11 kdM d [(0, .ref 0), (2, .int v2), (3, .int v3)] 120 [] (I, J, RMm) (some (.int q.1)) (q.2, J, RMm)
  | 0, _, _, _, _, q, h => by cases h
  | n + 1, v2, v3, I, J, q, h => sM_rule_B120 d hd (mM_rule_L120 n) (sM_rule_L120 d hd n) v2 v3 I J q h
def mM_rule  (v1 : Int32) (I : hI) : Option (Int32 × hI) :=
  h_let (h_u I 0 0 (0 : Int32)) fun I1 =>
  (mM_isRefused (mM_in v1.toInt64 (0 : Int64) (8 : Int64)) (0 : Int32) I1).bind fun q2 =>
  if q2.1 = 0 then
    (if v1 = 0 then
      some (((q2.2 0 39) - (1 : Int32)), q2.2)
    else
      (if v1 = 1 then
        some (((q2.2 0 40) - (1 : Int32)), q2.2)
      else
        (if v1 = 2 then
          some ((q2.2 0 41), q2.2)
        else
          (if v1 = 3 then
            ((mM_insideBits q2.2).bind fun q3 =>
            some (q3, q2.2))
          else
            (if v1 = 4 then
              some ((q2.2 0 42), q2.2)
            else
              (if v1 = 5 then
                some ((q2.2 0 43), q2.2)
              else
                (if v1 = 6 then
                  ((mM_plansTold q2.2).bind fun q3 =>
                  some (q3, q2.2))
                else
                  (if v1 = 7 then
                    some ((q2.2 0 47), q2.2)
                  else
                    mM_rule_L120 hF (0 : Int32) (0 : Int32) q2.2))))))))
  else
    some ((-2 : Int32), q2.2)
set_option maxHeartbeats 4000000 in
theorem sM_rule (d : Nat) (hd : 3 + 1 ≤ d) (v1 : Int32) (I : hI) (J : hJ) (q : Int32 × hI) (h : mM_rule v1 I = some q) : HMet hFT yX11_rule cX11_rule 4 (some .int) kdM d [.ref 0, .int v1] (I, J, RMm) (some (.int q.1)) (q.2, J, RMm) := by
  obtain ⟨d0, rfl, hd0⟩ := h_mono hd
  refine HMet.of (by decide) (Nat.le_of_ble_eq_true rfl) ?_
  show AW hFT cX11_rule 4 (some .int) RX11 kdM (d0 + 1) [(0, .ref 0), (1, .int v1)] 0 [] (I, J, RMm) (some (.int q.1)) (q.2, J, RMm)
  unfold mM_rule at h
  refine a_aload_n dX11_rule_0 rfl rfl ?_
  refine a_iconst dX11_rule_1 ic_0 ?_
  refine b_putI hK_11 km_0 (i := 0) rfl fl_11_156 rfl rfl (h_NI _) dX11_rule_2 ?_
  obtain ⟨I1, eI1, h⟩ := h_letS h
  refine a_memI eI1 ?_
  refine a_aload_n dX11_rule_5 rfl rfl ?_
  refine a_iload_n dX11_rule_6 rfl rfl ?_
  refine a_i2l dX11_rule_7 ?_
  refine a_lconst dX11_rule_8 lc_0 ?_
  refine a_ldc2_w cn_11_525 dX11_rule_9 ?_
  refine a_callS1 [.ref 0] yy_X11_in ml_11_167 (sM_in _ (by omega) v1.toInt64 (0 : Int64) (8 : Int64) I1 J _ rfl) rfl rfl (Nat.le_of_ble_eq_true rfl) dX11_rule_12 ?_
  refine a_iconst dX11_rule_15 ic_0 ?_
  obtain ⟨q2, cq2, h⟩ := h_bindS h
  refine a_callV1 [] yy_X11_isRefused ml_11_527 km_0 rfl (sM_isRefused _ (by omega) (mM_in v1.toInt64 (0 : Int64) (8 : Int64)) (0 : Int32) I1 J q2 cq2) rfl rfl (Nat.le_of_ble_eq_true rfl) dX11_rule_16 ?_
  refine a_if_eq (tgt := 25) dX11_rule_19 (by decide) (fun c => ?_) (fun c => ?_)
  · replace h := h_iteT c h
    refine a_iload_n dX11_rule_25 rfl rfl ?_
    by_cases n0 : v1 = 0
    · replace h := h_iteT n0 h
      refine a_topI n0 ?_
      refine a_tableIn (tgt := 72) (off := 46) dX11_rule_26 (by decide) (by decide) (by decide) (by decide) ?_
      refine a_aload_n dX11_rule_72 rfl rfl ?_
      refine b_getI hK_11 km_0 (i := 39) rfl fl_11_361 rfl dX11_rule_73 ?_
      refine a_iconst dX11_rule_76 ic_1 ?_
      refine a_isub dX11_rule_77 ?_
      cases h
      exact a_iret dX11_rule_78
    · replace h := h_iteF n0 h
      by_cases n1 : v1 = 1
      · replace h := h_iteT n1 h
        refine a_topI n1 ?_
        refine a_tableIn (tgt := 79) (off := 53) dX11_rule_26 (by decide) (by decide) (by decide) (by decide) ?_
        refine a_aload_n dX11_rule_79 rfl rfl ?_
        refine b_getI hK_11 km_0 (i := 40) rfl fl_11_364 rfl dX11_rule_80 ?_
        refine a_iconst dX11_rule_83 ic_1 ?_
        refine a_isub dX11_rule_84 ?_
        cases h
        exact a_iret dX11_rule_85
      · replace h := h_iteF n1 h
        by_cases n2 : v1 = 2
        · replace h := h_iteT n2 h
          refine a_topI n2 ?_
          refine a_tableIn (tgt := 86) (off := 60) dX11_rule_26 (by decide) (by decide) (by decide) (by decide) ?_
          refine a_aload_n dX11_rule_86 rfl rfl ?_
          refine b_getI hK_11 km_0 (i := 41) rfl fl_11_367 rfl dX11_rule_87 ?_
          cases h
          exact a_iret dX11_rule_90
        · replace h := h_iteF n2 h
          by_cases n3 : v1 = 3
          · replace h := h_iteT n3 h
            refine a_topI n3 ?_
            refine a_tableIn (tgt := 91) (off := 65) dX11_rule_26 (by decide) (by decide) (by decide) (by decide) ?_
            refine a_aload_n dX11_rule_91 rfl rfl ?_
            obtain ⟨q3, cq3, h⟩ := h_bindS h
            refine a_callV1 [] yy_X11_insideBits ml_11_531 km_0 rfl (sM_insideBits _ (by omega)  q2.2 J q3 cq3) rfl rfl (Nat.le_of_ble_eq_true rfl) dX11_rule_92 ?_
            cases h
            exact a_iret dX11_rule_95
          · replace h := h_iteF n3 h
            by_cases n4 : v1 = 4
            · replace h := h_iteT n4 h
              refine a_topI n4 ?_
              refine a_tableIn (tgt := 96) (off := 70) dX11_rule_26 (by decide) (by decide) (by decide) (by decide) ?_
              refine a_aload_n dX11_rule_96 rfl rfl ?_
              refine b_getI hK_11 km_0 (i := 42) rfl fl_11_370 rfl dX11_rule_97 ?_
              cases h
              exact a_iret dX11_rule_100
            · replace h := h_iteF n4 h
              by_cases n5 : v1 = 5
              · replace h := h_iteT n5 h
                refine a_topI n5 ?_
                refine a_tableIn (tgt := 101) (off := 75) dX11_rule_26 (by decide) (by decide) (by decide) (by decide) ?_
                refine a_aload_n dX11_rule_101 rfl rfl ?_
                refine b_getI hK_11 km_0 (i := 43) rfl fl_11_373 rfl dX11_rule_102 ?_
                cases h
                exact a_iret dX11_rule_105
              · replace h := h_iteF n5 h
                by_cases n6 : v1 = 6
                · replace h := h_iteT n6 h
                  refine a_topI n6 ?_
                  refine a_tableIn (tgt := 106) (off := 80) dX11_rule_26 (by decide) (by decide) (by decide) (by decide) ?_
                  refine a_aload_n dX11_rule_106 rfl rfl ?_
                  obtain ⟨q3, cq3, h⟩ := h_bindS h
                  refine a_callV1 [] yy_X11_plansTold ml_11_534 km_0 rfl (sM_plansTold _ (by omega)  q2.2 J q3 cq3) rfl rfl (Nat.le_of_ble_eq_true rfl) dX11_rule_107 ?_
                  cases h
                  exact a_iret dX11_rule_110
                · replace h := h_iteF n6 h
                  by_cases n7 : v1 = 7
                  · replace h := h_iteT n7 h
                    refine a_topI n7 ?_
                    refine a_tableIn (tgt := 111) (off := 85) dX11_rule_26 (by decide) (by decide) (by decide) (by decide) ?_
                    refine a_aload_n dX11_rule_111 rfl rfl ?_
                    refine b_getI hK_11 km_0 (i := 47) rfl fl_11_358 rfl dX11_rule_112 ?_
                    cases h
                    exact a_iret dX11_rule_115
                  · replace h := h_iteF n7 h
                    refine a_tableOut (tgt := 116) dX11_rule_26 (h_tb8 n0 n1 n2 n3 n4 n5 n6 n7) (by decide) ?_
                    refine a_iconst dX11_rule_116 ic_0 ?_
                    refine a_istore_n (lv' := [(2, .int (0 : Int32)), (0, .ref 0), (1, .int v1)]) dX11_rule_117 rfl (by decide) rfl ?_
                    refine a_iconst dX11_rule_118 ic_0 ?_
                    refine a_istore_n (lv' := [(3, .int (0 : Int32)), (2, .int (0 : Int32)), (0, .ref 0), (1, .int v1)]) dX11_rule_119 rfl (by decide) rfl ?_
                    refine a_sub (lv' := [(0, .ref 0), (2, .int (0 : Int32)), (3, .int (0 : Int32))]) [2, 1, 0] rfl ?_
                    exact sM_rule_L120 (d0 + 1) (by omega) hF (0 : Int32) (0 : Int32) q2.2 J _ h
  · replace h := h_iteF c h
    refine a_bipush dX11_rule_22 bp_m2 ?_
    cases h
    exact a_iret dX11_rule_24
/-! CoinLoopsModel.choices(I)I -/
theorem dX11_choices_0 : decode cX11_choices 0 = .ok (.aload_n 0, 1) := by decide +kernel
theorem dX11_choices_1 : decode cX11_choices 1 = .ok (.iconst 0, 1) := by decide +kernel
theorem dX11_choices_2 : decode cX11_choices 2 = .ok (.putfield 156, 3) := by decide +kernel
theorem dX11_choices_5 : decode cX11_choices 5 = .ok (.aload_n 0, 1) := by decide +kernel
theorem dX11_choices_6 : decode cX11_choices 6 = .ok (.aload_n 0, 1) := by decide +kernel
theorem dX11_choices_7 : decode cX11_choices 7 = .ok (.iload_n 1, 1) := by decide +kernel
theorem dX11_choices_8 : decode cX11_choices 8 = .ok (.invokevirtual 537, 3) := by decide +kernel
theorem dX11_choices_11 : decode cX11_choices 11 = .ok (.iconst 0, 1) := by decide +kernel
theorem dX11_choices_12 : decode cX11_choices 12 = .ok (.invokevirtual 527, 3) := by decide +kernel
theorem dX11_choices_15 : decode cX11_choices 15 = .ok (.ifCond .eq 7, 3) := by decide +kernel
theorem dX11_choices_18 : decode cX11_choices 18 = .ok (.iconst (-1), 1) := by decide +kernel
theorem dX11_choices_19 : decode cX11_choices 19 = .ok (.goto 9, 3) := by decide +kernel
theorem dX11_choices_22 : decode cX11_choices 22 = .ok (.aload_n 0, 1) := by decide +kernel
theorem dX11_choices_23 : decode cX11_choices 23 = .ok (.getfield 83, 3) := by decide +kernel
theorem dX11_choices_26 : decode cX11_choices 26 = .ok (.iload_n 1, 1) := by decide +kernel
theorem dX11_choices_27 : decode cX11_choices 27 = .ok (.iaload, 1) := by decide +kernel
theorem dX11_choices_28 : decode cX11_choices 28 = .ok (.ireturn, 1) := by decide +kernel
def mM_choices  (v1 : Int32) (I : hI) : Option (Int32 × hI) :=
  h_let (h_u I 0 0 (0 : Int32)) fun I1 =>
  (mM_isState v1 I1).bind fun q2 =>
  (mM_isRefused q2 (0 : Int32) I1).bind fun q3 =>
  if q3.1 = 0 then
    (h_g (h_in v1 10) <|
    some ((q3.2 25 v1.toNatClampNeg), q3.2))
  else
    some ((-1 : Int32), q3.2)
set_option maxHeartbeats 4000000 in
theorem sM_choices (d : Nat) (hd : 3 + 1 ≤ d) (v1 : Int32) (I : hI) (J : hJ) (q : Int32 × hI) (h : mM_choices v1 I = some q) : HMet hFT yX11_choices cX11_choices 2 (some .int) kdM d [.ref 0, .int v1] (I, J, RMm) (some (.int q.1)) (q.2, J, RMm) := by
  obtain ⟨d0, rfl, hd0⟩ := h_mono hd
  refine HMet.of (by decide) (Nat.le_of_ble_eq_true rfl) ?_
  show AW hFT cX11_choices 2 (some .int) RX11 kdM (d0 + 1) [(0, .ref 0), (1, .int v1)] 0 [] (I, J, RMm) (some (.int q.1)) (q.2, J, RMm)
  unfold mM_choices at h
  refine a_aload_n dX11_choices_0 rfl rfl ?_
  refine a_iconst dX11_choices_1 ic_0 ?_
  refine b_putI hK_11 km_0 (i := 0) rfl fl_11_156 rfl rfl (h_NI _) dX11_choices_2 ?_
  obtain ⟨I1, eI1, h⟩ := h_letS h
  refine a_memI eI1 ?_
  refine a_aload_n dX11_choices_5 rfl rfl ?_
  refine a_aload_n dX11_choices_6 rfl rfl ?_
  refine a_iload_n dX11_choices_7 rfl rfl ?_
  obtain ⟨q2, cq2, h⟩ := h_bindS h
  refine a_callV1 [.ref 0] yy_X11_isState ml_11_537 km_0 rfl (sM_isState _ (by omega) v1 I1 J q2 cq2) rfl rfl (Nat.le_of_ble_eq_true rfl) dX11_choices_8 ?_
  refine a_iconst dX11_choices_11 ic_0 ?_
  obtain ⟨q3, cq3, h⟩ := h_bindS h
  refine a_callV1 [] yy_X11_isRefused ml_11_527 km_0 rfl (sM_isRefused _ (by omega) q2 (0 : Int32) I1 J q3 cq3) rfl rfl (Nat.le_of_ble_eq_true rfl) dX11_choices_12 ?_
  refine a_if_eq (tgt := 22) dX11_choices_15 (by decide) (fun c => ?_) (fun c => ?_)
  · replace h := h_iteT c h
    refine a_aload_n dX11_choices_22 rfl rfl ?_
    refine b_getR hK_11 km_0 (i := 62) rfl fl_11_83 rfl rmm_62 dX11_choices_23 ?_
    refine a_iload_n dX11_choices_26 rfl rfl ?_
    obtain ⟨g4, h⟩ := h_gS h
    refine b_iaload km_25 (h_inV g4) dX11_choices_27 ?_
    cases h
    exact a_iret dX11_choices_28
  · replace h := h_iteF c h
    refine a_iconst dX11_choices_18 ic_m1 ?_
    refine a_goto (tgt := 28) dX11_choices_19 (by decide) ?_
    cases h
    exact a_iret dX11_choices_28
/-! CoinLoopsModel.isChoice(II)Z -/
theorem dX11_isChoice_0 : decode cX11_isChoice 0 = .ok (.aload_n 0, 1) := by decide +kernel
theorem dX11_isChoice_1 : decode cX11_isChoice 1 = .ok (.iload_n 1, 1) := by decide +kernel
theorem dX11_isChoice_2 : decode cX11_isChoice 2 = .ok (.invokevirtual 537, 3) := by decide +kernel
theorem dX11_isChoice_5 : decode cX11_isChoice 5 = .ok (.ifCond .eq 25, 3) := by decide +kernel
theorem dX11_isChoice_8 : decode cX11_isChoice 8 = .ok (.iload_n 2, 1) := by decide +kernel
theorem dX11_isChoice_9 : decode cX11_isChoice 9 = .ok (.i2l, 1) := by decide +kernel
theorem dX11_isChoice_10 : decode cX11_isChoice 10 = .ok (.lconst 0, 1) := by decide +kernel
theorem dX11_isChoice_11 : decode cX11_isChoice 11 = .ok (.aload_n 0, 1) := by decide +kernel
theorem dX11_isChoice_12 : decode cX11_isChoice 12 = .ok (.getfield 83, 3) := by decide +kernel
theorem dX11_isChoice_15 : decode cX11_isChoice 15 = .ok (.iload_n 1, 1) := by decide +kernel
theorem dX11_isChoice_16 : decode cX11_isChoice 16 = .ok (.iaload, 1) := by decide +kernel
theorem dX11_isChoice_17 : decode cX11_isChoice 17 = .ok (.iconst 1, 1) := by decide +kernel
theorem dX11_isChoice_18 : decode cX11_isChoice 18 = .ok (.isub, 1) := by decide +kernel
theorem dX11_isChoice_19 : decode cX11_isChoice 19 = .ok (.i2l, 1) := by decide +kernel
theorem dX11_isChoice_20 : decode cX11_isChoice 20 = .ok (.invokestatic 167, 3) := by decide +kernel
theorem dX11_isChoice_23 : decode cX11_isChoice 23 = .ok (.ifCond .eq 7, 3) := by decide +kernel
theorem dX11_isChoice_26 : decode cX11_isChoice 26 = .ok (.iconst 1, 1) := by decide +kernel
theorem dX11_isChoice_27 : decode cX11_isChoice 27 = .ok (.goto 4, 3) := by decide +kernel
theorem dX11_isChoice_30 : decode cX11_isChoice 30 = .ok (.iconst 0, 1) := by decide +kernel
theorem dX11_isChoice_31 : decode cX11_isChoice 31 = .ok (.ireturn, 1) := by decide +kernel
def mM_isChoice  (v1 : Int32) (v2 : Int32) (I : hI) : Option (Int32) :=
  (mM_isState v1 I).bind fun q1 =>
  if q1 = 0 then
    some (0 : Int32)
  else
    (h_g (h_in v1 10) <|
    if (mM_in v2.toInt64 (0 : Int64) (((I 25 v1.toNatClampNeg) - (1 : Int32)).toInt64)) = 0 then
      some (0 : Int32)
    else
      some (1 : Int32))
set_option maxHeartbeats 4000000 in
theorem sM_isChoice (d : Nat) (hd : 1 + 1 ≤ d) (v1 : Int32) (v2 : Int32) (I : hI) (J : hJ) (q : Int32) (h : mM_isChoice v1 v2 I = some q) : HMet hFT yX11_isChoice cX11_isChoice 3 (some .boolean) kdM d [.ref 0, .int v1, .int v2] (I, J, RMm) (some (.int q)) (I, J, RMm) := by
  obtain ⟨d0, rfl, hd0⟩ := h_mono hd
  refine HMet.of (by decide) (Nat.le_of_ble_eq_true rfl) ?_
  show AW hFT cX11_isChoice 3 (some .boolean) RX11 kdM (d0 + 1) [(0, .ref 0), (1, .int v1), (2, .int v2)] 0 [] (I, J, RMm) (some (.int q)) (I, J, RMm)
  unfold mM_isChoice at h
  refine a_aload_n dX11_isChoice_0 rfl rfl ?_
  refine a_iload_n dX11_isChoice_1 rfl rfl ?_
  obtain ⟨q1, cq1, h⟩ := h_bindS h
  refine a_callV1 [] yy_X11_isState ml_11_537 km_0 rfl (sM_isState _ (by omega) v1 I J q1 cq1) rfl rfl (Nat.le_of_ble_eq_true rfl) dX11_isChoice_2 ?_
  refine a_if_eq (tgt := 30) dX11_isChoice_5 (by decide) (fun c => ?_) (fun c => ?_)
  · replace h := h_iteT c h
    refine a_iconst dX11_isChoice_30 ic_0 ?_
    cases h
    exact a_zret (h_Z0.1) dX11_isChoice_31
  · replace h := h_iteF c h
    refine a_iload_n dX11_isChoice_8 rfl rfl ?_
    refine a_i2l dX11_isChoice_9 ?_
    refine a_lconst dX11_isChoice_10 lc_0 ?_
    refine a_aload_n dX11_isChoice_11 rfl rfl ?_
    refine b_getR hK_11 km_0 (i := 62) rfl fl_11_83 rfl rmm_62 dX11_isChoice_12 ?_
    refine a_iload_n dX11_isChoice_15 rfl rfl ?_
    obtain ⟨g2, h⟩ := h_gS h
    refine b_iaload km_25 (h_inV g2) dX11_isChoice_16 ?_
    refine a_iconst dX11_isChoice_17 ic_1 ?_
    refine a_isub dX11_isChoice_18 ?_
    refine a_i2l dX11_isChoice_19 ?_
    refine a_callS1 [] yy_X11_in ml_11_167 (sM_in _ (by omega) v2.toInt64 (0 : Int64) (((I 25 v1.toNatClampNeg) - (1 : Int32)).toInt64) I J _ rfl) rfl rfl (Nat.le_of_ble_eq_true rfl) dX11_isChoice_20 ?_
    refine a_if_eq (tgt := 30) dX11_isChoice_23 (by decide) (fun c => ?_) (fun c => ?_)
    · replace h := h_iteT c h
      refine a_iconst dX11_isChoice_30 ic_0 ?_
      cases h
      exact a_zret (h_Z0.1) dX11_isChoice_31
    · replace h := h_iteF c h
      refine a_iconst dX11_isChoice_26 ic_1 ?_
      refine a_goto (tgt := 31) dX11_isChoice_27 (by decide) ?_
      cases h
      exact a_zret (h_Z1.1) dX11_isChoice_31
/-! CoinLoopsModel.choice(III)I -/
theorem dX11_choice_0 : decode cX11_choice 0 = .ok (.aload_n 0, 1) := by decide +kernel
theorem dX11_choice_1 : decode cX11_choice 1 = .ok (.aload_n 0, 1) := by decide +kernel
theorem dX11_choice_2 : decode cX11_choice 2 = .ok (.aload_n 0, 1) := by decide +kernel
theorem dX11_choice_3 : decode cX11_choice 3 = .ok (.iload_n 1, 1) := by decide +kernel
theorem dX11_choice_4 : decode cX11_choice 4 = .ok (.iload_n 2, 1) := by decide +kernel
theorem dX11_choice_5 : decode cX11_choice 5 = .ok (.invokevirtual 540, 3) := by decide +kernel
theorem dX11_choice_8 : decode cX11_choice 8 = .ok (.ifCond .eq 19, 3) := by decide +kernel
theorem dX11_choice_11 : decode cX11_choice 11 = .ok (.iload_n 3, 1) := by decide +kernel
theorem dX11_choice_12 : decode cX11_choice 12 = .ok (.i2l, 1) := by decide +kernel
theorem dX11_choice_13 : decode cX11_choice 13 = .ok (.lconst 0, 1) := by decide +kernel
theorem dX11_choice_14 : decode cX11_choice 14 = .ok (.ldc2_w 543, 3) := by decide +kernel
theorem dX11_choice_17 : decode cX11_choice 17 = .ok (.invokestatic 167, 3) := by decide +kernel
theorem dX11_choice_20 : decode cX11_choice 20 = .ok (.ifCond .eq 7, 3) := by decide +kernel
theorem dX11_choice_23 : decode cX11_choice 23 = .ok (.iconst 1, 1) := by decide +kernel
theorem dX11_choice_24 : decode cX11_choice 24 = .ok (.goto 4, 3) := by decide +kernel
theorem dX11_choice_27 : decode cX11_choice 27 = .ok (.iconst 0, 1) := by decide +kernel
theorem dX11_choice_28 : decode cX11_choice 28 = .ok (.iconst 0, 1) := by decide +kernel
theorem dX11_choice_29 : decode cX11_choice 29 = .ok (.invokevirtual 527, 3) := by decide +kernel
theorem dX11_choice_32 : decode cX11_choice 32 = .ok (.ifCond .eq 7, 3) := by decide +kernel
theorem dX11_choice_35 : decode cX11_choice 35 = .ok (.iconst 1, 1) := by decide +kernel
theorem dX11_choice_36 : decode cX11_choice 36 = .ok (.goto 4, 3) := by decide +kernel
theorem dX11_choice_39 : decode cX11_choice 39 = .ok (.iconst 0, 1) := by decide +kernel
theorem dX11_choice_40 : decode cX11_choice 40 = .ok (.putfield 156, 3) := by decide +kernel
theorem dX11_choice_43 : decode cX11_choice 43 = .ok (.aload_n 0, 1) := by decide +kernel
theorem dX11_choice_44 : decode cX11_choice 44 = .ok (.getfield 156, 3) := by decide +kernel
theorem dX11_choice_47 : decode cX11_choice 47 = .ok (.iconst 1, 1) := by decide +kernel
theorem dX11_choice_48 : decode cX11_choice 48 = .ok (.if_icmp .ne 5, 3) := by decide +kernel
theorem dX11_choice_51 : decode cX11_choice 51 = .ok (.iconst 0, 1) := by decide +kernel
theorem dX11_choice_52 : decode cX11_choice 52 = .ok (.ireturn, 1) := by decide +kernel
theorem dX11_choice_53 : decode cX11_choice 53 = .ok (.aload_n 0, 1) := by decide +kernel
theorem dX11_choice_54 : decode cX11_choice 54 = .ok (.iload_n 1, 1) := by decide +kernel
theorem dX11_choice_55 : decode cX11_choice 55 = .ok (.iload_n 2, 1) := by decide +kernel
theorem dX11_choice_56 : decode cX11_choice 56 = .ok (.invokevirtual 433, 3) := by decide +kernel
theorem dX11_choice_59 : decode cX11_choice 59 = .ok (.istore 4, 2) := by decide +kernel
theorem dX11_choice_61 : decode cX11_choice 61 = .ok (.iload_n 3, 1) := by decide +kernel
theorem dX11_choice_62 : decode cX11_choice 62 = .ok (.ifCond .ne 13, 3) := by decide +kernel
theorem dX11_choice_65 : decode cX11_choice 65 = .ok (.aload_n 0, 1) := by decide +kernel
theorem dX11_choice_66 : decode cX11_choice 66 = .ok (.getfield 86, 3) := by decide +kernel
theorem dX11_choice_69 : decode cX11_choice 69 = .ok (.iload 4, 2) := by decide +kernel
theorem dX11_choice_71 : decode cX11_choice 71 = .ok (.iaload, 1) := by decide +kernel
theorem dX11_choice_72 : decode cX11_choice 72 = .ok (.goto 25, 3) := by decide +kernel
theorem dX11_choice_75 : decode cX11_choice 75 = .ok (.iload_n 3, 1) := by decide +kernel
theorem dX11_choice_76 : decode cX11_choice 76 = .ok (.iconst 1, 1) := by decide +kernel
theorem dX11_choice_77 : decode cX11_choice 77 = .ok (.if_icmp .ne 13, 3) := by decide +kernel
theorem dX11_choice_80 : decode cX11_choice 80 = .ok (.aload_n 0, 1) := by decide +kernel
theorem dX11_choice_81 : decode cX11_choice 81 = .ok (.getfield 89, 3) := by decide +kernel
theorem dX11_choice_84 : decode cX11_choice 84 = .ok (.iload 4, 2) := by decide +kernel
theorem dX11_choice_86 : decode cX11_choice 86 = .ok (.iaload, 1) := by decide +kernel
theorem dX11_choice_87 : decode cX11_choice 87 = .ok (.goto 10, 3) := by decide +kernel
theorem dX11_choice_90 : decode cX11_choice 90 = .ok (.aload_n 0, 1) := by decide +kernel
theorem dX11_choice_91 : decode cX11_choice 91 = .ok (.getfield 92, 3) := by decide +kernel
theorem dX11_choice_94 : decode cX11_choice 94 = .ok (.iload 4, 2) := by decide +kernel
theorem dX11_choice_96 : decode cX11_choice 96 = .ok (.iaload, 1) := by decide +kernel
theorem dX11_choice_97 : decode cX11_choice 97 = .ok (.ireturn, 1) := by decide +kernel
def mM_choice_40  (v1 : Int32) (v2 : Int32) (v3 : Int32) (vs1 : Int32) (I : hI) : Option (Int32 × hI) :=
  h_let (h_u I 0 0 vs1) fun I1 =>
  if (I1 0 0) = (1 : Int32) then
    some ((0 : Int32), I1)
  else
    (h_let (mM_choiceAt v1 v2) fun v4x1 =>
    if v3 = 0 then
      (h_g (h_in v4x1 80) <|
      some ((I1 26 v4x1.toNatClampNeg), I1))
    else
      (if v3 = (1 : Int32) then
        (h_g (h_in v4x1 80) <|
        some ((I1 27 v4x1.toNatClampNeg), I1))
      else
        (h_g (h_in v4x1 80) <|
        some ((I1 28 v4x1.toNatClampNeg), I1))))
set_option maxHeartbeats 4000000 in
theorem sM_choice_40 (d : Nat) (hd : 3 + 1 ≤ d) (v1 : Int32) (v2 : Int32) (v3 : Int32) (vs1 : Int32) (I : hI) (J : hJ) (q : Int32 × hI) (h : mM_choice_40 v1 v2 v3 vs1 I = some q) : AW hFT cX11_choice 5 (some .int) RX11 kdM d [(0, .ref 0), (1, .int v1), (2, .int v2), (3, .int v3)] 40 [.int vs1, .ref 0] (I, J, RMm) (some (.int q.1)) (q.2, J, RMm) := by
  obtain ⟨d0, rfl, hd0⟩ := h_mono hd
  unfold mM_choice_40 at h
  refine b_putI hK_11 km_0 (i := 0) rfl fl_11_156 rfl rfl (h_NI _) dX11_choice_40 ?_
  obtain ⟨I1, eI1, h⟩ := h_letS h
  refine a_memI eI1 ?_
  refine a_aload_n dX11_choice_43 rfl rfl ?_
  refine b_getI hK_11 km_0 (i := 0) rfl fl_11_156 rfl dX11_choice_44 ?_
  refine a_iconst dX11_choice_47 ic_1 ?_
  refine a_icmp_ne (tgt := 53) dX11_choice_48 (by decide) (fun c => ?_) (fun c => ?_)
  · replace h := h_iteF c h
    refine a_aload_n dX11_choice_53 rfl rfl ?_
    refine a_iload_n dX11_choice_54 rfl rfl ?_
    refine a_iload_n dX11_choice_55 rfl rfl ?_
    refine a_callV1 [] yy_X11_choiceAt ml_11_433 km_0 rfl (sM_choiceAt _ (by omega) v1 v2 I1 J _ rfl) rfl rfl (Nat.le_of_ble_eq_true rfl) dX11_choice_56 ?_
    obtain ⟨v4x1, ev4x1, h⟩ := h_letS h
    refine a_topI ev4x1 ?_
    refine a_istore (lv' := [(4, .int v4x1), (0, .ref 0), (1, .int v1), (2, .int v2), (3, .int v3)]) dX11_choice_59 (by decide) rfl ?_
    refine a_iload_n dX11_choice_61 rfl rfl ?_
    refine a_if_ne (tgt := 75) dX11_choice_62 (by decide) (fun c => ?_) (fun c => ?_)
    · replace h := h_iteF c h
      refine a_iload_n dX11_choice_75 rfl rfl ?_
      refine a_iconst dX11_choice_76 ic_1 ?_
      refine a_icmp_ne (tgt := 90) dX11_choice_77 (by decide) (fun c => ?_) (fun c => ?_)
      · replace h := h_iteF c h
        refine a_aload_n dX11_choice_90 rfl rfl ?_
        refine b_getR hK_11 km_0 (i := 65) rfl fl_11_92 rfl rmm_65 dX11_choice_91 ?_
        refine a_iload dX11_choice_94 rfl ?_
        obtain ⟨g3, h⟩ := h_gS h
        refine b_iaload km_28 (h_inV g3) dX11_choice_96 ?_
        cases h
        exact a_iret dX11_choice_97
      · replace h := h_iteT c h
        refine a_aload_n dX11_choice_80 rfl rfl ?_
        refine b_getR hK_11 km_0 (i := 64) rfl fl_11_89 rfl rmm_64 dX11_choice_81 ?_
        refine a_iload dX11_choice_84 rfl ?_
        obtain ⟨g3, h⟩ := h_gS h
        refine b_iaload km_27 (h_inV g3) dX11_choice_86 ?_
        refine a_goto (tgt := 97) dX11_choice_87 (by decide) ?_
        cases h
        exact a_iret dX11_choice_97
    · replace h := h_iteT c h
      refine a_aload_n dX11_choice_65 rfl rfl ?_
      refine b_getR hK_11 km_0 (i := 63) rfl fl_11_86 rfl rmm_63 dX11_choice_66 ?_
      refine a_iload dX11_choice_69 rfl ?_
      obtain ⟨g3, h⟩ := h_gS h
      refine b_iaload km_26 (h_inV g3) dX11_choice_71 ?_
      refine a_goto (tgt := 97) dX11_choice_72 (by decide) ?_
      cases h
      exact a_iret dX11_choice_97
  · replace h := h_iteT c h
    refine a_iconst dX11_choice_51 ic_0 ?_
    cases h
    exact a_iret dX11_choice_52
def mM_choice_28  (v1 : Int32) (v2 : Int32) (v3 : Int32) (vs2 : Int32) (I : hI) : Option (Int32 × hI) :=
  (mM_isRefused vs2 (0 : Int32) I).bind fun q1 =>
  if q1.1 = 0 then
    mM_choice_40 v1 v2 v3 (0 : Int32) q1.2
  else
    mM_choice_40 v1 v2 v3 (1 : Int32) q1.2
set_option maxHeartbeats 4000000 in
theorem sM_choice_28 (d : Nat) (hd : 3 + 1 ≤ d) (v1 : Int32) (v2 : Int32) (v3 : Int32) (vs2 : Int32) (I : hI) (J : hJ) (q : Int32 × hI) (h : mM_choice_28 v1 v2 v3 vs2 I = some q) : AW hFT cX11_choice 5 (some .int) RX11 kdM d [(0, .ref 0), (1, .int v1), (2, .int v2), (3, .int v3)] 28 [.int vs2, .ref 0, .ref 0] (I, J, RMm) (some (.int q.1)) (q.2, J, RMm) := by
  obtain ⟨d0, rfl, hd0⟩ := h_mono hd
  unfold mM_choice_28 at h
  refine a_iconst dX11_choice_28 ic_0 ?_
  obtain ⟨q1, cq1, h⟩ := h_bindS h
  refine a_callV1 [.ref 0] yy_X11_isRefused ml_11_527 km_0 rfl (sM_isRefused _ (by omega) vs2 (0 : Int32) I J q1 cq1) rfl rfl (Nat.le_of_ble_eq_true rfl) dX11_choice_29 ?_
  refine a_if_eq (tgt := 39) dX11_choice_32 (by decide) (fun c => ?_) (fun c => ?_)
  · replace h := h_iteT c h
    refine a_iconst dX11_choice_39 ic_0 ?_
    exact sM_choice_40 (d0 + 1) (by omega) v1 v2 v3 (0 : Int32) q1.2 J _ h
  · replace h := h_iteF c h
    refine a_iconst dX11_choice_35 ic_1 ?_
    refine a_goto (tgt := 40) dX11_choice_36 (by decide) ?_
    exact sM_choice_40 (d0 + 1) (by omega) v1 v2 v3 (1 : Int32) q1.2 J _ h
def mM_choice_27  (v1 : Int32) (v2 : Int32) (v3 : Int32) (I : hI) : Option (Int32 × hI) :=
  mM_choice_28 v1 v2 v3 (0 : Int32) I
set_option maxHeartbeats 4000000 in
theorem sM_choice_27 (d : Nat) (hd : 3 + 1 ≤ d) (v1 : Int32) (v2 : Int32) (v3 : Int32) (I : hI) (J : hJ) (q : Int32 × hI) (h : mM_choice_27 v1 v2 v3 I = some q) : AW hFT cX11_choice 5 (some .int) RX11 kdM d [(0, .ref 0), (1, .int v1), (2, .int v2), (3, .int v3)] 27 [.ref 0, .ref 0] (I, J, RMm) (some (.int q.1)) (q.2, J, RMm) := by
  obtain ⟨d0, rfl, hd0⟩ := h_mono hd
  unfold mM_choice_27 at h
  refine a_iconst dX11_choice_27 ic_0 ?_
  exact sM_choice_28 (d0 + 1) (by omega) v1 v2 v3 (0 : Int32) I J _ h
def mM_choice  (v1 : Int32) (v2 : Int32) (v3 : Int32) (I : hI) : Option (Int32 × hI) :=
  (mM_isChoice v1 v2 I).bind fun q1 =>
  if q1 = 0 then
    mM_choice_27 v1 v2 v3 I
  else
    (if (mM_in v3.toInt64 (0 : Int64) (2 : Int64)) = 0 then
      mM_choice_27 v1 v2 v3 I
    else
      mM_choice_28 v1 v2 v3 (1 : Int32) I)
set_option maxHeartbeats 4000000 in
theorem sM_choice (d : Nat) (hd : 3 + 1 ≤ d) (v1 : Int32) (v2 : Int32) (v3 : Int32) (I : hI) (J : hJ) (q : Int32 × hI) (h : mM_choice v1 v2 v3 I = some q) : HMet hFT yX11_choice cX11_choice 5 (some .int) kdM d [.ref 0, .int v1, .int v2, .int v3] (I, J, RMm) (some (.int q.1)) (q.2, J, RMm) := by
  obtain ⟨d0, rfl, hd0⟩ := h_mono hd
  refine HMet.of (by decide) (Nat.le_of_ble_eq_true rfl) ?_
  show AW hFT cX11_choice 5 (some .int) RX11 kdM (d0 + 1) [(0, .ref 0), (1, .int v1), (2, .int v2), (3, .int v3)] 0 [] (I, J, RMm) (some (.int q.1)) (q.2, J, RMm)
  unfold mM_choice at h
  refine a_aload_n dX11_choice_0 rfl rfl ?_
  refine a_aload_n dX11_choice_1 rfl rfl ?_
  refine a_aload_n dX11_choice_2 rfl rfl ?_
  refine a_iload_n dX11_choice_3 rfl rfl ?_
  refine a_iload_n dX11_choice_4 rfl rfl ?_
  obtain ⟨q1, cq1, h⟩ := h_bindS h
  refine a_callV1 [.ref 0, .ref 0] yy_X11_isChoice ml_11_540 km_0 rfl (sM_isChoice _ (by omega) v1 v2 I J q1 cq1) rfl rfl (Nat.le_of_ble_eq_true rfl) dX11_choice_5 ?_
  refine a_if_eq (tgt := 27) dX11_choice_8 (by decide) (fun c => ?_) (fun c => ?_)
  · replace h := h_iteT c h
    exact sM_choice_27 (d0 + 1) (by omega) v1 v2 v3 I J _ h
  · replace h := h_iteF c h
    refine a_iload_n dX11_choice_11 rfl rfl ?_
    refine a_i2l dX11_choice_12 ?_
    refine a_lconst dX11_choice_13 lc_0 ?_
    refine a_ldc2_w cn_11_543 dX11_choice_14 ?_
    refine a_callS1 [.ref 0, .ref 0] yy_X11_in ml_11_167 (sM_in _ (by omega) v3.toInt64 (0 : Int64) (2 : Int64) I J _ rfl) rfl rfl (Nat.le_of_ble_eq_true rfl) dX11_choice_17 ?_
    refine a_if_eq (tgt := 27) dX11_choice_20 (by decide) (fun c => ?_) (fun c => ?_)
    · replace h := h_iteT c h
      exact sM_choice_27 (d0 + 1) (by omega) v1 v2 v3 I J _ h
    · replace h := h_iteF c h
      refine a_iconst dX11_choice_23 ic_1 ?_
      refine a_goto (tgt := 28) dX11_choice_24 (by decide) ?_
      exact sM_choice_28 (d0 + 1) (by omega) v1 v2 v3 (1 : Int32) I J _ h
/-! CoinLoopsModel.leads(III)I -/
theorem dX11_leads_0 : decode cX11_leads 0 = .ok (.aload_n 0, 1) := by decide +kernel
theorem dX11_leads_1 : decode cX11_leads 1 = .ok (.iconst 0, 1) := by decide +kernel
theorem dX11_leads_2 : decode cX11_leads 2 = .ok (.putfield 156, 3) := by decide +kernel
theorem dX11_leads_5 : decode cX11_leads 5 = .ok (.aload_n 0, 1) := by decide +kernel
theorem dX11_leads_6 : decode cX11_leads 6 = .ok (.aload_n 0, 1) := by decide +kernel
theorem dX11_leads_7 : decode cX11_leads 7 = .ok (.iload_n 1, 1) := by decide +kernel
theorem dX11_leads_8 : decode cX11_leads 8 = .ok (.iload_n 2, 1) := by decide +kernel
theorem dX11_leads_9 : decode cX11_leads 9 = .ok (.invokevirtual 540, 3) := by decide +kernel
theorem dX11_leads_12 : decode cX11_leads 12 = .ok (.ifCond .eq 15, 3) := by decide +kernel
theorem dX11_leads_15 : decode cX11_leads 15 = .ok (.aload_n 0, 1) := by decide +kernel
theorem dX11_leads_16 : decode cX11_leads 16 = .ok (.iload_n 3, 1) := by decide +kernel
theorem dX11_leads_17 : decode cX11_leads 17 = .ok (.invokevirtual 537, 3) := by decide +kernel
theorem dX11_leads_20 : decode cX11_leads 20 = .ok (.ifCond .eq 7, 3) := by decide +kernel
theorem dX11_leads_23 : decode cX11_leads 23 = .ok (.iconst 1, 1) := by decide +kernel
theorem dX11_leads_24 : decode cX11_leads 24 = .ok (.goto 4, 3) := by decide +kernel
theorem dX11_leads_27 : decode cX11_leads 27 = .ok (.iconst 0, 1) := by decide +kernel
theorem dX11_leads_28 : decode cX11_leads 28 = .ok (.iconst 0, 1) := by decide +kernel
theorem dX11_leads_29 : decode cX11_leads 29 = .ok (.invokevirtual 527, 3) := by decide +kernel
theorem dX11_leads_32 : decode cX11_leads 32 = .ok (.ifCond .eq 7, 3) := by decide +kernel
theorem dX11_leads_35 : decode cX11_leads 35 = .ok (.iconst (-1), 1) := by decide +kernel
theorem dX11_leads_36 : decode cX11_leads 36 = .ok (.goto 19, 3) := by decide +kernel
theorem dX11_leads_39 : decode cX11_leads 39 = .ok (.aload_n 0, 1) := by decide +kernel
theorem dX11_leads_40 : decode cX11_leads 40 = .ok (.getfield 95, 3) := by decide +kernel
theorem dX11_leads_43 : decode cX11_leads 43 = .ok (.bipush 10, 2) := by decide +kernel
theorem dX11_leads_45 : decode cX11_leads 45 = .ok (.aload_n 0, 1) := by decide +kernel
theorem dX11_leads_46 : decode cX11_leads 46 = .ok (.iload_n 1, 1) := by decide +kernel
theorem dX11_leads_47 : decode cX11_leads 47 = .ok (.iload_n 2, 1) := by decide +kernel
theorem dX11_leads_48 : decode cX11_leads 48 = .ok (.invokevirtual 433, 3) := by decide +kernel
theorem dX11_leads_51 : decode cX11_leads 51 = .ok (.imul, 1) := by decide +kernel
theorem dX11_leads_52 : decode cX11_leads 52 = .ok (.iload_n 3, 1) := by decide +kernel
theorem dX11_leads_53 : decode cX11_leads 53 = .ok (.iadd, 1) := by decide +kernel
theorem dX11_leads_54 : decode cX11_leads 54 = .ok (.iaload, 1) := by decide +kernel
theorem dX11_leads_55 : decode cX11_leads 55 = .ok (.ireturn, 1) := by decide +kernel
def mM_leads_28  (v1 : Int32) (v2 : Int32) (v3 : Int32) (vs1 : Int32) (I : hI) : Option (Int32 × hI) :=
  (mM_isRefused vs1 (0 : Int32) I).bind fun q1 =>
  if q1.1 = 0 then
    (h_g (h_in (((10 : Int32) * (mM_choiceAt v1 v2)) + v3) 800) <|
    some ((q1.2 29 (((10 : Int32) * (mM_choiceAt v1 v2)) + v3).toNatClampNeg), q1.2))
  else
    some ((-1 : Int32), q1.2)
set_option maxHeartbeats 4000000 in
theorem sM_leads_28 (d : Nat) (hd : 3 + 1 ≤ d) (v1 : Int32) (v2 : Int32) (v3 : Int32) (vs1 : Int32) (I : hI) (J : hJ) (q : Int32 × hI) (h : mM_leads_28 v1 v2 v3 vs1 I = some q) : AW hFT cX11_leads 4 (some .int) RX11 kdM d [(0, .ref 0), (1, .int v1), (2, .int v2), (3, .int v3)] 28 [.int vs1, .ref 0] (I, J, RMm) (some (.int q.1)) (q.2, J, RMm) := by
  obtain ⟨d0, rfl, hd0⟩ := h_mono hd
  unfold mM_leads_28 at h
  refine a_iconst dX11_leads_28 ic_0 ?_
  obtain ⟨q1, cq1, h⟩ := h_bindS h
  refine a_callV1 [] yy_X11_isRefused ml_11_527 km_0 rfl (sM_isRefused _ (by omega) vs1 (0 : Int32) I J q1 cq1) rfl rfl (Nat.le_of_ble_eq_true rfl) dX11_leads_29 ?_
  refine a_if_eq (tgt := 39) dX11_leads_32 (by decide) (fun c => ?_) (fun c => ?_)
  · replace h := h_iteT c h
    refine a_aload_n dX11_leads_39 rfl rfl ?_
    refine b_getR hK_11 km_0 (i := 66) rfl fl_11_95 rfl rmm_66 dX11_leads_40 ?_
    refine a_bipush dX11_leads_43 bp_10 ?_
    refine a_aload_n dX11_leads_45 rfl rfl ?_
    refine a_iload_n dX11_leads_46 rfl rfl ?_
    refine a_iload_n dX11_leads_47 rfl rfl ?_
    refine a_callV1 [.int (10 : Int32), .ref 29] yy_X11_choiceAt ml_11_433 km_0 rfl (sM_choiceAt _ (by omega) v1 v2 q1.2 J _ rfl) rfl rfl (Nat.le_of_ble_eq_true rfl) dX11_leads_48 ?_
    refine a_imul dX11_leads_51 ?_
    refine a_iload_n dX11_leads_52 rfl rfl ?_
    refine a_iadd dX11_leads_53 ?_
    obtain ⟨g2, h⟩ := h_gS h
    refine b_iaload km_29 (h_inV g2) dX11_leads_54 ?_
    cases h
    exact a_iret dX11_leads_55
  · replace h := h_iteF c h
    refine a_iconst dX11_leads_35 ic_m1 ?_
    refine a_goto (tgt := 55) dX11_leads_36 (by decide) ?_
    cases h
    exact a_iret dX11_leads_55
def mM_leads_27  (v1 : Int32) (v2 : Int32) (v3 : Int32) (I : hI) : Option (Int32 × hI) :=
  mM_leads_28 v1 v2 v3 (0 : Int32) I
set_option maxHeartbeats 4000000 in
theorem sM_leads_27 (d : Nat) (hd : 3 + 1 ≤ d) (v1 : Int32) (v2 : Int32) (v3 : Int32) (I : hI) (J : hJ) (q : Int32 × hI) (h : mM_leads_27 v1 v2 v3 I = some q) : AW hFT cX11_leads 4 (some .int) RX11 kdM d [(0, .ref 0), (1, .int v1), (2, .int v2), (3, .int v3)] 27 [.ref 0] (I, J, RMm) (some (.int q.1)) (q.2, J, RMm) := by
  obtain ⟨d0, rfl, hd0⟩ := h_mono hd
  unfold mM_leads_27 at h
  refine a_iconst dX11_leads_27 ic_0 ?_
  exact sM_leads_28 (d0 + 1) (by omega) v1 v2 v3 (0 : Int32) I J _ h
def mM_leads  (v1 : Int32) (v2 : Int32) (v3 : Int32) (I : hI) : Option (Int32 × hI) :=
  h_let (h_u I 0 0 (0 : Int32)) fun I1 =>
  (mM_isChoice v1 v2 I1).bind fun q2 =>
  if q2 = 0 then
    mM_leads_27 v1 v2 v3 I1
  else
    ((mM_isState v3 I1).bind fun q3 =>
    if q3 = 0 then
      mM_leads_27 v1 v2 v3 I1
    else
      mM_leads_28 v1 v2 v3 (1 : Int32) I1)
set_option maxHeartbeats 4000000 in
theorem sM_leads (d : Nat) (hd : 3 + 1 ≤ d) (v1 : Int32) (v2 : Int32) (v3 : Int32) (I : hI) (J : hJ) (q : Int32 × hI) (h : mM_leads v1 v2 v3 I = some q) : HMet hFT yX11_leads cX11_leads 4 (some .int) kdM d [.ref 0, .int v1, .int v2, .int v3] (I, J, RMm) (some (.int q.1)) (q.2, J, RMm) := by
  obtain ⟨d0, rfl, hd0⟩ := h_mono hd
  refine HMet.of (by decide) (Nat.le_of_ble_eq_true rfl) ?_
  show AW hFT cX11_leads 4 (some .int) RX11 kdM (d0 + 1) [(0, .ref 0), (1, .int v1), (2, .int v2), (3, .int v3)] 0 [] (I, J, RMm) (some (.int q.1)) (q.2, J, RMm)
  unfold mM_leads at h
  refine a_aload_n dX11_leads_0 rfl rfl ?_
  refine a_iconst dX11_leads_1 ic_0 ?_
  refine b_putI hK_11 km_0 (i := 0) rfl fl_11_156 rfl rfl (h_NI _) dX11_leads_2 ?_
  obtain ⟨I1, eI1, h⟩ := h_letS h
  refine a_memI eI1 ?_
  refine a_aload_n dX11_leads_5 rfl rfl ?_
  refine a_aload_n dX11_leads_6 rfl rfl ?_
  refine a_iload_n dX11_leads_7 rfl rfl ?_
  refine a_iload_n dX11_leads_8 rfl rfl ?_
  obtain ⟨q2, cq2, h⟩ := h_bindS h
  refine a_callV1 [.ref 0] yy_X11_isChoice ml_11_540 km_0 rfl (sM_isChoice _ (by omega) v1 v2 I1 J q2 cq2) rfl rfl (Nat.le_of_ble_eq_true rfl) dX11_leads_9 ?_
  refine a_if_eq (tgt := 27) dX11_leads_12 (by decide) (fun c => ?_) (fun c => ?_)
  · replace h := h_iteT c h
    exact sM_leads_27 (d0 + 1) (by omega) v1 v2 v3 I1 J _ h
  · replace h := h_iteF c h
    refine a_aload_n dX11_leads_15 rfl rfl ?_
    refine a_iload_n dX11_leads_16 rfl rfl ?_
    obtain ⟨q3, cq3, h⟩ := h_bindS h
    refine a_callV1 [.ref 0] yy_X11_isState ml_11_537 km_0 rfl (sM_isState _ (by omega) v3 I1 J q3 cq3) rfl rfl (Nat.le_of_ble_eq_true rfl) dX11_leads_17 ?_
    refine a_if_eq (tgt := 27) dX11_leads_20 (by decide) (fun c => ?_) (fun c => ?_)
    · replace h := h_iteT c h
      exact sM_leads_27 (d0 + 1) (by omega) v1 v2 v3 I1 J _ h
    · replace h := h_iteF c h
      refine a_iconst dX11_leads_23 ic_1 ?_
      refine a_goto (tgt := 28) dX11_leads_24 (by decide) ?_
      exact sM_leads_28 (d0 + 1) (by omega) v1 v2 v3 (1 : Int32) I1 J _ h
/-! CoinLoopsModel.paid(IZI)J -/
theorem dX11_paid_0 : decode cX11_paid 0 = .ok (.aload_n 0, 1) := by decide +kernel
theorem dX11_paid_1 : decode cX11_paid 1 = .ok (.iconst 0, 1) := by decide +kernel
theorem dX11_paid_2 : decode cX11_paid 2 = .ok (.putfield 156, 3) := by decide +kernel
theorem dX11_paid_5 : decode cX11_paid 5 = .ok (.aload_n 0, 1) := by decide +kernel
theorem dX11_paid_6 : decode cX11_paid 6 = .ok (.aload_n 0, 1) := by decide +kernel
theorem dX11_paid_7 : decode cX11_paid 7 = .ok (.iload_n 1, 1) := by decide +kernel
theorem dX11_paid_8 : decode cX11_paid 8 = .ok (.invokevirtual 537, 3) := by decide +kernel
theorem dX11_paid_11 : decode cX11_paid 11 = .ok (.ifCond .eq 17, 3) := by decide +kernel
theorem dX11_paid_14 : decode cX11_paid 14 = .ok (.iload_n 3, 1) := by decide +kernel
theorem dX11_paid_15 : decode cX11_paid 15 = .ok (.i2l, 1) := by decide +kernel
theorem dX11_paid_16 : decode cX11_paid 16 = .ok (.lconst 0, 1) := by decide +kernel
theorem dX11_paid_17 : decode cX11_paid 17 = .ok (.lconst 1, 1) := by decide +kernel
theorem dX11_paid_18 : decode cX11_paid 18 = .ok (.invokestatic 167, 3) := by decide +kernel
theorem dX11_paid_21 : decode cX11_paid 21 = .ok (.ifCond .eq 7, 3) := by decide +kernel
theorem dX11_paid_24 : decode cX11_paid 24 = .ok (.iconst 1, 1) := by decide +kernel
theorem dX11_paid_25 : decode cX11_paid 25 = .ok (.goto 4, 3) := by decide +kernel
theorem dX11_paid_28 : decode cX11_paid 28 = .ok (.iconst 0, 1) := by decide +kernel
theorem dX11_paid_29 : decode cX11_paid 29 = .ok (.iconst 1, 1) := by decide +kernel
theorem dX11_paid_30 : decode cX11_paid 30 = .ok (.invokevirtual 527, 3) := by decide +kernel
theorem dX11_paid_33 : decode cX11_paid 33 = .ok (.ifCond .eq 7, 3) := by decide +kernel
theorem dX11_paid_36 : decode cX11_paid 36 = .ok (.ldc2_w 545, 3) := by decide +kernel
theorem dX11_paid_39 : decode cX11_paid 39 = .ok (.lreturn, 1) := by decide +kernel
theorem dX11_paid_40 : decode cX11_paid 40 = .ok (.bipush 10, 2) := by decide +kernel
theorem dX11_paid_42 : decode cX11_paid 42 = .ok (.aload_n 0, 1) := by decide +kernel
theorem dX11_paid_43 : decode cX11_paid 43 = .ok (.iload_n 1, 1) := by decide +kernel
theorem dX11_paid_44 : decode cX11_paid 44 = .ok (.iload_n 2, 1) := by decide +kernel
theorem dX11_paid_45 : decode cX11_paid 45 = .ok (.iconst 1, 1) := by decide +kernel
theorem dX11_paid_46 : decode cX11_paid 46 = .ok (.invokevirtual 547, 3) := by decide +kernel
theorem dX11_paid_49 : decode cX11_paid 49 = .ok (.imul, 1) := by decide +kernel
theorem dX11_paid_50 : decode cX11_paid 50 = .ok (.iload_n 1, 1) := by decide +kernel
theorem dX11_paid_51 : decode cX11_paid 51 = .ok (.iadd, 1) := by decide +kernel
theorem dX11_paid_52 : decode cX11_paid 52 = .ok (.istore 4, 2) := by decide +kernel
theorem dX11_paid_54 : decode cX11_paid 54 = .ok (.aload_n 0, 1) := by decide +kernel
theorem dX11_paid_55 : decode cX11_paid 55 = .ok (.getfield 114, 3) := by decide +kernel
theorem dX11_paid_58 : decode cX11_paid 58 = .ok (.iload 4, 2) := by decide +kernel
theorem dX11_paid_60 : decode cX11_paid 60 = .ok (.baload, 1) := by decide +kernel
theorem dX11_paid_61 : decode cX11_paid 61 = .ok (.ifCond .eq 9, 3) := by decide +kernel
theorem dX11_paid_64 : decode cX11_paid 64 = .ok (.ldc2_w 551, 3) := by decide +kernel
theorem dX11_paid_67 : decode cX11_paid 67 = .ok (.goto 24, 3) := by decide +kernel
theorem dX11_paid_70 : decode cX11_paid 70 = .ok (.iload_n 3, 1) := by decide +kernel
theorem dX11_paid_71 : decode cX11_paid 71 = .ok (.ifCond .ne 13, 3) := by decide +kernel
theorem dX11_paid_74 : decode cX11_paid 74 = .ok (.aload_n 0, 1) := by decide +kernel
theorem dX11_paid_75 : decode cX11_paid 75 = .ok (.getfield 101, 3) := by decide +kernel
theorem dX11_paid_78 : decode cX11_paid 78 = .ok (.iload 4, 2) := by decide +kernel
theorem dX11_paid_80 : decode cX11_paid 80 = .ok (.laload, 1) := by decide +kernel
theorem dX11_paid_81 : decode cX11_paid 81 = .ok (.goto 10, 3) := by decide +kernel
theorem dX11_paid_84 : decode cX11_paid 84 = .ok (.aload_n 0, 1) := by decide +kernel
theorem dX11_paid_85 : decode cX11_paid 85 = .ok (.getfield 105, 3) := by decide +kernel
theorem dX11_paid_88 : decode cX11_paid 88 = .ok (.iload 4, 2) := by decide +kernel
theorem dX11_paid_90 : decode cX11_paid 90 = .ok (.laload, 1) := by decide +kernel
theorem dX11_paid_91 : decode cX11_paid 91 = .ok (.lreturn, 1) := by decide +kernel
def mM_paid_29  (v1 : Int32) (v2 : Int32) (v3 : Int32) (vs1 : Int32) (I : hI) (J : hJ) : Option (Int64 × hI × hJ) :=
  (mM_isRefused vs1 (1 : Int32) I).bind fun q1 =>
  if q1.1 = 0 then
    ((mM_bestPlan v1 v2 (1 : Int32) q1.2 J).bind fun q2 =>
    h_let (((10 : Int32) * q2.1) + v1) fun v4x2 =>
    h_g (h_in v4x2 640) <|
    if (q2.2.1 35 v4x2.toNatClampNeg) = 0 then
      (if v3 = 0 then
        (h_g (h_in v4x2 640) <|
        some ((q2.2.2 31 v4x2.toNatClampNeg), q2.2.1, q2.2.2))
      else
        (h_g (h_in v4x2 640) <|
        some ((q2.2.2 32 v4x2.toNatClampNeg), q2.2.1, q2.2.2)))
    else
      some ((-2 : Int64), q2.2.1, q2.2.2))
  else
    some ((-1 : Int64), q1.2, J)
set_option maxHeartbeats 4000000 in
theorem sM_paid_29 (d : Nat) (hd : 104 + 1 ≤ d) (v1 : Int32) (v2 : Int32) (v3 : Int32) (vs1 : Int32) (I : hI) (J : hJ) (q : Int64 × hI × hJ) (h : mM_paid_29 v1 v2 v3 vs1 I J = some q) : AW hFT cX11_paid 5 (some .long) RX11 kdM d [(0, .ref 0), (1, .int v1), (2, .int v2), (3, .int v3)] 29 [.int vs1, .ref 0] (I, J, RMm) (some (.long q.1)) (q.2.1, q.2.2, RMm) := by
  obtain ⟨d0, rfl, hd0⟩ := h_mono hd
  unfold mM_paid_29 at h
  refine a_iconst dX11_paid_29 ic_1 ?_
  obtain ⟨q1, cq1, h⟩ := h_bindS h
  refine a_callV1 [] yy_X11_isRefused ml_11_527 km_0 rfl (sM_isRefused _ (by omega) vs1 (1 : Int32) I J q1 cq1) rfl rfl (Nat.le_of_ble_eq_true rfl) dX11_paid_30 ?_
  refine a_if_eq (tgt := 40) dX11_paid_33 (by decide) (fun c => ?_) (fun c => ?_)
  · replace h := h_iteT c h
    refine a_bipush dX11_paid_40 bp_10 ?_
    refine a_aload_n dX11_paid_42 rfl rfl ?_
    refine a_iload_n dX11_paid_43 rfl rfl ?_
    refine a_iload_n dX11_paid_44 rfl rfl ?_
    refine a_iconst dX11_paid_45 ic_1 ?_
    obtain ⟨q2, cq2, h⟩ := h_bindS h
    refine a_callV1 [.int (10 : Int32)] yy_X11_bestPlan ml_11_547 km_0 rfl (sM_bestPlan _ (by omega) v1 v2 (1 : Int32) q1.2 J q2 cq2) rfl rfl (Nat.le_of_ble_eq_true rfl) dX11_paid_46 ?_
    refine a_imul dX11_paid_49 ?_
    refine a_iload_n dX11_paid_50 rfl rfl ?_
    refine a_iadd dX11_paid_51 ?_
    obtain ⟨v4x2, ev4x2, h⟩ := h_letS h
    refine a_topI ev4x2 ?_
    refine a_istore (lv' := [(4, .int v4x2), (0, .ref 0), (1, .int v1), (2, .int v2), (3, .int v3)]) dX11_paid_52 (by decide) rfl ?_
    refine a_aload_n dX11_paid_54 rfl rfl ?_
    refine b_getR hK_11 km_0 (i := 73) rfl fl_11_114 rfl rmm_73 dX11_paid_55 ?_
    refine a_iload dX11_paid_58 rfl ?_
    obtain ⟨g4, h⟩ := h_gS h
    refine b_zaload km_35 (h_inV g4) dX11_paid_60 ?_
    refine a_if_eq (tgt := 70) dX11_paid_61 (by decide) (fun c => ?_) (fun c => ?_)
    · replace h := h_iteT c h
      refine a_iload_n dX11_paid_70 rfl rfl ?_
      refine a_if_ne (tgt := 84) dX11_paid_71 (by decide) (fun c => ?_) (fun c => ?_)
      · replace h := h_iteF c h
        refine a_aload_n dX11_paid_84 rfl rfl ?_
        refine b_getR hK_11 km_0 (i := 70) rfl fl_11_105 rfl rmm_70 dX11_paid_85 ?_
        refine a_iload dX11_paid_88 rfl ?_
        obtain ⟨g5, h⟩ := h_gS h
        refine b_laload km_32 (h_inV g5) dX11_paid_90 ?_
        cases h
        exact a_lret dX11_paid_91
      · replace h := h_iteT c h
        refine a_aload_n dX11_paid_74 rfl rfl ?_
        refine b_getR hK_11 km_0 (i := 69) rfl fl_11_101 rfl rmm_69 dX11_paid_75 ?_
        refine a_iload dX11_paid_78 rfl ?_
        obtain ⟨g5, h⟩ := h_gS h
        refine b_laload km_31 (h_inV g5) dX11_paid_80 ?_
        refine a_goto (tgt := 91) dX11_paid_81 (by decide) ?_
        cases h
        exact a_lret dX11_paid_91
    · replace h := h_iteF c h
      refine a_ldc2_w cn_11_551 dX11_paid_64 ?_
      refine a_goto (tgt := 91) dX11_paid_67 (by decide) ?_
      cases h
      exact a_lret dX11_paid_91
  · replace h := h_iteF c h
    refine a_ldc2_w cn_11_545 dX11_paid_36 ?_
    cases h
    exact a_lret dX11_paid_39
def mM_paid_28  (v1 : Int32) (v2 : Int32) (v3 : Int32) (I : hI) (J : hJ) : Option (Int64 × hI × hJ) :=
  mM_paid_29 v1 v2 v3 (0 : Int32) I J
set_option maxHeartbeats 4000000 in
theorem sM_paid_28 (d : Nat) (hd : 104 + 1 ≤ d) (v1 : Int32) (v2 : Int32) (v3 : Int32) (I : hI) (J : hJ) (q : Int64 × hI × hJ) (h : mM_paid_28 v1 v2 v3 I J = some q) : AW hFT cX11_paid 5 (some .long) RX11 kdM d [(0, .ref 0), (1, .int v1), (2, .int v2), (3, .int v3)] 28 [.ref 0] (I, J, RMm) (some (.long q.1)) (q.2.1, q.2.2, RMm) := by
  obtain ⟨d0, rfl, hd0⟩ := h_mono hd
  unfold mM_paid_28 at h
  refine a_iconst dX11_paid_28 ic_0 ?_
  exact sM_paid_29 (d0 + 1) (by omega) v1 v2 v3 (0 : Int32) I J _ h
def mM_paid  (v1 : Int32) (v2 : Int32) (v3 : Int32) (I : hI) (J : hJ) : Option (Int64 × hI × hJ) :=
  h_let (h_u I 0 0 (0 : Int32)) fun I1 =>
  (mM_isState v1 I1).bind fun q2 =>
  if q2 = 0 then
    mM_paid_28 v1 v2 v3 I1 J
  else
    (if (mM_in v3.toInt64 (0 : Int64) (1 : Int64)) = 0 then
      mM_paid_28 v1 v2 v3 I1 J
    else
      mM_paid_29 v1 v2 v3 (1 : Int32) I1 J)
set_option maxHeartbeats 4000000 in
theorem sM_paid (d : Nat) (hd : 104 + 1 ≤ d) (v1 : Int32) (v2 : Int32) (v3 : Int32) (I : hI) (J : hJ) (q : Int64 × hI × hJ) (h : mM_paid v1 v2 v3 I J = some q) : HMet hFT yX11_paid cX11_paid 5 (some .long) kdM d [.ref 0, .int v1, .int v2, .int v3] (I, J, RMm) (some (.long q.1)) (q.2.1, q.2.2, RMm) := by
  obtain ⟨d0, rfl, hd0⟩ := h_mono hd
  refine HMet.of (by decide) (Nat.le_of_ble_eq_true rfl) ?_
  show AW hFT cX11_paid 5 (some .long) RX11 kdM (d0 + 1) [(0, .ref 0), (1, .int v1), (2, .int v2), (3, .int v3)] 0 [] (I, J, RMm) (some (.long q.1)) (q.2.1, q.2.2, RMm)
  unfold mM_paid at h
  refine a_aload_n dX11_paid_0 rfl rfl ?_
  refine a_iconst dX11_paid_1 ic_0 ?_
  refine b_putI hK_11 km_0 (i := 0) rfl fl_11_156 rfl rfl (h_NI _) dX11_paid_2 ?_
  obtain ⟨I1, eI1, h⟩ := h_letS h
  refine a_memI eI1 ?_
  refine a_aload_n dX11_paid_5 rfl rfl ?_
  refine a_aload_n dX11_paid_6 rfl rfl ?_
  refine a_iload_n dX11_paid_7 rfl rfl ?_
  obtain ⟨q2, cq2, h⟩ := h_bindS h
  refine a_callV1 [.ref 0] yy_X11_isState ml_11_537 km_0 rfl (sM_isState _ (by omega) v1 I1 J q2 cq2) rfl rfl (Nat.le_of_ble_eq_true rfl) dX11_paid_8 ?_
  refine a_if_eq (tgt := 28) dX11_paid_11 (by decide) (fun c => ?_) (fun c => ?_)
  · replace h := h_iteT c h
    exact sM_paid_28 (d0 + 1) (by omega) v1 v2 v3 I1 J _ h
  · replace h := h_iteF c h
    refine a_iload_n dX11_paid_14 rfl rfl ?_
    refine a_i2l dX11_paid_15 ?_
    refine a_lconst dX11_paid_16 lc_0 ?_
    refine a_lconst dX11_paid_17 lc_1 ?_
    refine a_callS1 [.ref 0] yy_X11_in ml_11_167 (sM_in _ (by omega) v3.toInt64 (0 : Int64) (1 : Int64) I1 J _ rfl) rfl rfl (Nat.le_of_ble_eq_true rfl) dX11_paid_18 ?_
    refine a_if_eq (tgt := 28) dX11_paid_21 (by decide) (fun c => ?_) (fun c => ?_)
    · replace h := h_iteT c h
      exact sM_paid_28 (d0 + 1) (by omega) v1 v2 v3 I1 J _ h
    · replace h := h_iteF c h
      refine a_iconst dX11_paid_24 ic_1 ?_
      refine a_goto (tgt := 29) dX11_paid_25 (by decide) ?_
      exact sM_paid_29 (d0 + 1) (by omega) v1 v2 v3 (1 : Int32) I1 J _ h
/-! CoinLoopsModel.ends(IZI)J -/
theorem dX11_ends_0 : decode cX11_ends 0 = .ok (.aload_n 0, 1) := by decide +kernel
theorem dX11_ends_1 : decode cX11_ends 1 = .ok (.iconst 0, 1) := by decide +kernel
theorem dX11_ends_2 : decode cX11_ends 2 = .ok (.putfield 156, 3) := by decide +kernel
theorem dX11_ends_5 : decode cX11_ends 5 = .ok (.aload_n 0, 1) := by decide +kernel
theorem dX11_ends_6 : decode cX11_ends 6 = .ok (.aload_n 0, 1) := by decide +kernel
theorem dX11_ends_7 : decode cX11_ends 7 = .ok (.iload_n 1, 1) := by decide +kernel
theorem dX11_ends_8 : decode cX11_ends 8 = .ok (.invokevirtual 537, 3) := by decide +kernel
theorem dX11_ends_11 : decode cX11_ends 11 = .ok (.ifCond .eq 17, 3) := by decide +kernel
theorem dX11_ends_14 : decode cX11_ends 14 = .ok (.iload_n 3, 1) := by decide +kernel
theorem dX11_ends_15 : decode cX11_ends 15 = .ok (.i2l, 1) := by decide +kernel
theorem dX11_ends_16 : decode cX11_ends 16 = .ok (.lconst 0, 1) := by decide +kernel
theorem dX11_ends_17 : decode cX11_ends 17 = .ok (.lconst 1, 1) := by decide +kernel
theorem dX11_ends_18 : decode cX11_ends 18 = .ok (.invokestatic 167, 3) := by decide +kernel
theorem dX11_ends_21 : decode cX11_ends 21 = .ok (.ifCond .eq 7, 3) := by decide +kernel
theorem dX11_ends_24 : decode cX11_ends 24 = .ok (.iconst 1, 1) := by decide +kernel
theorem dX11_ends_25 : decode cX11_ends 25 = .ok (.goto 4, 3) := by decide +kernel
theorem dX11_ends_28 : decode cX11_ends 28 = .ok (.iconst 0, 1) := by decide +kernel
theorem dX11_ends_29 : decode cX11_ends 29 = .ok (.iconst 1, 1) := by decide +kernel
theorem dX11_ends_30 : decode cX11_ends 30 = .ok (.invokevirtual 527, 3) := by decide +kernel
theorem dX11_ends_33 : decode cX11_ends 33 = .ok (.ifCond .eq 7, 3) := by decide +kernel
theorem dX11_ends_36 : decode cX11_ends 36 = .ok (.ldc2_w 545, 3) := by decide +kernel
theorem dX11_ends_39 : decode cX11_ends 39 = .ok (.lreturn, 1) := by decide +kernel
theorem dX11_ends_40 : decode cX11_ends 40 = .ok (.bipush 10, 2) := by decide +kernel
theorem dX11_ends_42 : decode cX11_ends 42 = .ok (.aload_n 0, 1) := by decide +kernel
theorem dX11_ends_43 : decode cX11_ends 43 = .ok (.iload_n 1, 1) := by decide +kernel
theorem dX11_ends_44 : decode cX11_ends 44 = .ok (.iload_n 2, 1) := by decide +kernel
theorem dX11_ends_45 : decode cX11_ends 45 = .ok (.iconst 0, 1) := by decide +kernel
theorem dX11_ends_46 : decode cX11_ends 46 = .ok (.invokevirtual 547, 3) := by decide +kernel
theorem dX11_ends_49 : decode cX11_ends 49 = .ok (.imul, 1) := by decide +kernel
theorem dX11_ends_50 : decode cX11_ends 50 = .ok (.iload_n 1, 1) := by decide +kernel
theorem dX11_ends_51 : decode cX11_ends 51 = .ok (.iadd, 1) := by decide +kernel
theorem dX11_ends_52 : decode cX11_ends 52 = .ok (.istore 4, 2) := by decide +kernel
theorem dX11_ends_54 : decode cX11_ends 54 = .ok (.iload_n 3, 1) := by decide +kernel
theorem dX11_ends_55 : decode cX11_ends 55 = .ok (.ifCond .ne 13, 3) := by decide +kernel
theorem dX11_ends_58 : decode cX11_ends 58 = .ok (.aload_n 0, 1) := by decide +kernel
theorem dX11_ends_59 : decode cX11_ends 59 = .ok (.getfield 108, 3) := by decide +kernel
theorem dX11_ends_62 : decode cX11_ends 62 = .ok (.iload 4, 2) := by decide +kernel
theorem dX11_ends_64 : decode cX11_ends 64 = .ok (.laload, 1) := by decide +kernel
theorem dX11_ends_65 : decode cX11_ends 65 = .ok (.goto 10, 3) := by decide +kernel
theorem dX11_ends_68 : decode cX11_ends 68 = .ok (.aload_n 0, 1) := by decide +kernel
theorem dX11_ends_69 : decode cX11_ends 69 = .ok (.getfield 111, 3) := by decide +kernel
theorem dX11_ends_72 : decode cX11_ends 72 = .ok (.iload 4, 2) := by decide +kernel
theorem dX11_ends_74 : decode cX11_ends 74 = .ok (.laload, 1) := by decide +kernel
theorem dX11_ends_75 : decode cX11_ends 75 = .ok (.lreturn, 1) := by decide +kernel
def mM_ends_29  (v1 : Int32) (v2 : Int32) (v3 : Int32) (vs1 : Int32) (I : hI) (J : hJ) : Option (Int64 × hI × hJ) :=
  (mM_isRefused vs1 (1 : Int32) I).bind fun q1 =>
  if q1.1 = 0 then
    ((mM_bestPlan v1 v2 (0 : Int32) q1.2 J).bind fun q2 =>
    h_let (((10 : Int32) * q2.1) + v1) fun v4x2 =>
    if v3 = 0 then
      (h_g (h_in v4x2 640) <|
      some ((q2.2.2 33 v4x2.toNatClampNeg), q2.2.1, q2.2.2))
    else
      (h_g (h_in v4x2 640) <|
      some ((q2.2.2 34 v4x2.toNatClampNeg), q2.2.1, q2.2.2)))
  else
    some ((-1 : Int64), q1.2, J)
set_option maxHeartbeats 4000000 in
theorem sM_ends_29 (d : Nat) (hd : 104 + 1 ≤ d) (v1 : Int32) (v2 : Int32) (v3 : Int32) (vs1 : Int32) (I : hI) (J : hJ) (q : Int64 × hI × hJ) (h : mM_ends_29 v1 v2 v3 vs1 I J = some q) : AW hFT cX11_ends 5 (some .long) RX11 kdM d [(0, .ref 0), (1, .int v1), (2, .int v2), (3, .int v3)] 29 [.int vs1, .ref 0] (I, J, RMm) (some (.long q.1)) (q.2.1, q.2.2, RMm) := by
  obtain ⟨d0, rfl, hd0⟩ := h_mono hd
  unfold mM_ends_29 at h
  refine a_iconst dX11_ends_29 ic_1 ?_
  obtain ⟨q1, cq1, h⟩ := h_bindS h
  refine a_callV1 [] yy_X11_isRefused ml_11_527 km_0 rfl (sM_isRefused _ (by omega) vs1 (1 : Int32) I J q1 cq1) rfl rfl (Nat.le_of_ble_eq_true rfl) dX11_ends_30 ?_
  refine a_if_eq (tgt := 40) dX11_ends_33 (by decide) (fun c => ?_) (fun c => ?_)
  · replace h := h_iteT c h
    refine a_bipush dX11_ends_40 bp_10 ?_
    refine a_aload_n dX11_ends_42 rfl rfl ?_
    refine a_iload_n dX11_ends_43 rfl rfl ?_
    refine a_iload_n dX11_ends_44 rfl rfl ?_
    refine a_iconst dX11_ends_45 ic_0 ?_
    obtain ⟨q2, cq2, h⟩ := h_bindS h
    refine a_callV1 [.int (10 : Int32)] yy_X11_bestPlan ml_11_547 km_0 rfl (sM_bestPlan _ (by omega) v1 v2 (0 : Int32) q1.2 J q2 cq2) rfl rfl (Nat.le_of_ble_eq_true rfl) dX11_ends_46 ?_
    refine a_imul dX11_ends_49 ?_
    refine a_iload_n dX11_ends_50 rfl rfl ?_
    refine a_iadd dX11_ends_51 ?_
    obtain ⟨v4x2, ev4x2, h⟩ := h_letS h
    refine a_topI ev4x2 ?_
    refine a_istore (lv' := [(4, .int v4x2), (0, .ref 0), (1, .int v1), (2, .int v2), (3, .int v3)]) dX11_ends_52 (by decide) rfl ?_
    refine a_iload_n dX11_ends_54 rfl rfl ?_
    refine a_if_ne (tgt := 68) dX11_ends_55 (by decide) (fun c => ?_) (fun c => ?_)
    · replace h := h_iteF c h
      refine a_aload_n dX11_ends_68 rfl rfl ?_
      refine b_getR hK_11 km_0 (i := 72) rfl fl_11_111 rfl rmm_72 dX11_ends_69 ?_
      refine a_iload dX11_ends_72 rfl ?_
      obtain ⟨g4, h⟩ := h_gS h
      refine b_laload km_34 (h_inV g4) dX11_ends_74 ?_
      cases h
      exact a_lret dX11_ends_75
    · replace h := h_iteT c h
      refine a_aload_n dX11_ends_58 rfl rfl ?_
      refine b_getR hK_11 km_0 (i := 71) rfl fl_11_108 rfl rmm_71 dX11_ends_59 ?_
      refine a_iload dX11_ends_62 rfl ?_
      obtain ⟨g4, h⟩ := h_gS h
      refine b_laload km_33 (h_inV g4) dX11_ends_64 ?_
      refine a_goto (tgt := 75) dX11_ends_65 (by decide) ?_
      cases h
      exact a_lret dX11_ends_75
  · replace h := h_iteF c h
    refine a_ldc2_w cn_11_545 dX11_ends_36 ?_
    cases h
    exact a_lret dX11_ends_39
def mM_ends_28  (v1 : Int32) (v2 : Int32) (v3 : Int32) (I : hI) (J : hJ) : Option (Int64 × hI × hJ) :=
  mM_ends_29 v1 v2 v3 (0 : Int32) I J
set_option maxHeartbeats 4000000 in
theorem sM_ends_28 (d : Nat) (hd : 104 + 1 ≤ d) (v1 : Int32) (v2 : Int32) (v3 : Int32) (I : hI) (J : hJ) (q : Int64 × hI × hJ) (h : mM_ends_28 v1 v2 v3 I J = some q) : AW hFT cX11_ends 5 (some .long) RX11 kdM d [(0, .ref 0), (1, .int v1), (2, .int v2), (3, .int v3)] 28 [.ref 0] (I, J, RMm) (some (.long q.1)) (q.2.1, q.2.2, RMm) := by
  obtain ⟨d0, rfl, hd0⟩ := h_mono hd
  unfold mM_ends_28 at h
  refine a_iconst dX11_ends_28 ic_0 ?_
  exact sM_ends_29 (d0 + 1) (by omega) v1 v2 v3 (0 : Int32) I J _ h
def mM_ends  (v1 : Int32) (v2 : Int32) (v3 : Int32) (I : hI) (J : hJ) : Option (Int64 × hI × hJ) :=
  h_let (h_u I 0 0 (0 : Int32)) fun I1 =>
  (mM_isState v1 I1).bind fun q2 =>
  if q2 = 0 then
    mM_ends_28 v1 v2 v3 I1 J
  else
    (if (mM_in v3.toInt64 (0 : Int64) (1 : Int64)) = 0 then
      mM_ends_28 v1 v2 v3 I1 J
    else
      mM_ends_29 v1 v2 v3 (1 : Int32) I1 J)
set_option maxHeartbeats 4000000 in
theorem sM_ends (d : Nat) (hd : 104 + 1 ≤ d) (v1 : Int32) (v2 : Int32) (v3 : Int32) (I : hI) (J : hJ) (q : Int64 × hI × hJ) (h : mM_ends v1 v2 v3 I J = some q) : HMet hFT yX11_ends cX11_ends 5 (some .long) kdM d [.ref 0, .int v1, .int v2, .int v3] (I, J, RMm) (some (.long q.1)) (q.2.1, q.2.2, RMm) := by
  obtain ⟨d0, rfl, hd0⟩ := h_mono hd
  refine HMet.of (by decide) (Nat.le_of_ble_eq_true rfl) ?_
  show AW hFT cX11_ends 5 (some .long) RX11 kdM (d0 + 1) [(0, .ref 0), (1, .int v1), (2, .int v2), (3, .int v3)] 0 [] (I, J, RMm) (some (.long q.1)) (q.2.1, q.2.2, RMm)
  unfold mM_ends at h
  refine a_aload_n dX11_ends_0 rfl rfl ?_
  refine a_iconst dX11_ends_1 ic_0 ?_
  refine b_putI hK_11 km_0 (i := 0) rfl fl_11_156 rfl rfl (h_NI _) dX11_ends_2 ?_
  obtain ⟨I1, eI1, h⟩ := h_letS h
  refine a_memI eI1 ?_
  refine a_aload_n dX11_ends_5 rfl rfl ?_
  refine a_aload_n dX11_ends_6 rfl rfl ?_
  refine a_iload_n dX11_ends_7 rfl rfl ?_
  obtain ⟨q2, cq2, h⟩ := h_bindS h
  refine a_callV1 [.ref 0] yy_X11_isState ml_11_537 km_0 rfl (sM_isState _ (by omega) v1 I1 J q2 cq2) rfl rfl (Nat.le_of_ble_eq_true rfl) dX11_ends_8 ?_
  refine a_if_eq (tgt := 28) dX11_ends_11 (by decide) (fun c => ?_) (fun c => ?_)
  · replace h := h_iteT c h
    exact sM_ends_28 (d0 + 1) (by omega) v1 v2 v3 I1 J _ h
  · replace h := h_iteF c h
    refine a_iload_n dX11_ends_14 rfl rfl ?_
    refine a_i2l dX11_ends_15 ?_
    refine a_lconst dX11_ends_16 lc_0 ?_
    refine a_lconst dX11_ends_17 lc_1 ?_
    refine a_callS1 [.ref 0] yy_X11_in ml_11_167 (sM_in _ (by omega) v3.toInt64 (0 : Int64) (1 : Int64) I1 J _ rfl) rfl rfl (Nat.le_of_ble_eq_true rfl) dX11_ends_18 ?_
    refine a_if_eq (tgt := 28) dX11_ends_21 (by decide) (fun c => ?_) (fun c => ?_)
    · replace h := h_iteT c h
      exact sM_ends_28 (d0 + 1) (by omega) v1 v2 v3 I1 J _ h
    · replace h := h_iteF c h
      refine a_iconst dX11_ends_24 ic_1 ?_
      refine a_goto (tgt := 29) dX11_ends_25 (by decide) ?_
      exact sM_ends_29 (d0 + 1) (by omega) v1 v2 v3 (1 : Int32) I1 J _ h
/-! CoinLoopsModel.isSure(IZ)Z -/
theorem dX11_isSure_0 : decode cX11_isSure 0 = .ok (.bipush 10, 2) := by decide +kernel
theorem dX11_isSure_2 : decode cX11_isSure 2 = .ok (.aload_n 0, 1) := by decide +kernel
theorem dX11_isSure_3 : decode cX11_isSure 3 = .ok (.iload_n 1, 1) := by decide +kernel
theorem dX11_isSure_4 : decode cX11_isSure 4 = .ok (.iload_n 2, 1) := by decide +kernel
theorem dX11_isSure_5 : decode cX11_isSure 5 = .ok (.ifCond .ne 7, 3) := by decide +kernel
theorem dX11_isSure_8 : decode cX11_isSure 8 = .ok (.iconst 1, 1) := by decide +kernel
theorem dX11_isSure_9 : decode cX11_isSure 9 = .ok (.goto 4, 3) := by decide +kernel
theorem dX11_isSure_12 : decode cX11_isSure 12 = .ok (.iconst 0, 1) := by decide +kernel
theorem dX11_isSure_13 : decode cX11_isSure 13 = .ok (.iconst 0, 1) := by decide +kernel
theorem dX11_isSure_14 : decode cX11_isSure 14 = .ok (.invokevirtual 547, 3) := by decide +kernel
theorem dX11_isSure_17 : decode cX11_isSure 17 = .ok (.imul, 1) := by decide +kernel
theorem dX11_isSure_18 : decode cX11_isSure 18 = .ok (.iload_n 1, 1) := by decide +kernel
theorem dX11_isSure_19 : decode cX11_isSure 19 = .ok (.iadd, 1) := by decide +kernel
theorem dX11_isSure_20 : decode cX11_isSure 20 = .ok (.istore_n 3, 1) := by decide +kernel
theorem dX11_isSure_21 : decode cX11_isSure 21 = .ok (.aload_n 0, 1) := by decide +kernel
theorem dX11_isSure_22 : decode cX11_isSure 22 = .ok (.getfield 108, 3) := by decide +kernel
theorem dX11_isSure_25 : decode cX11_isSure 25 = .ok (.iload_n 3, 1) := by decide +kernel
theorem dX11_isSure_26 : decode cX11_isSure 26 = .ok (.laload, 1) := by decide +kernel
theorem dX11_isSure_27 : decode cX11_isSure 27 = .ok (.aload_n 0, 1) := by decide +kernel
theorem dX11_isSure_28 : decode cX11_isSure 28 = .ok (.getfield 111, 3) := by decide +kernel
theorem dX11_isSure_31 : decode cX11_isSure 31 = .ok (.iload_n 3, 1) := by decide +kernel
theorem dX11_isSure_32 : decode cX11_isSure 32 = .ok (.laload, 1) := by decide +kernel
theorem dX11_isSure_33 : decode cX11_isSure 33 = .ok (.lcmp, 1) := by decide +kernel
theorem dX11_isSure_34 : decode cX11_isSure 34 = .ok (.ifCond .ne 7, 3) := by decide +kernel
theorem dX11_isSure_37 : decode cX11_isSure 37 = .ok (.iconst 1, 1) := by decide +kernel
theorem dX11_isSure_38 : decode cX11_isSure 38 = .ok (.goto 4, 3) := by decide +kernel
theorem dX11_isSure_41 : decode cX11_isSure 41 = .ok (.iconst 0, 1) := by decide +kernel
theorem dX11_isSure_42 : decode cX11_isSure 42 = .ok (.ireturn, 1) := by decide +kernel
def mM_isSure_13  (v1 : Int32) (vs0 : Int32) (vs2 : Int32) (vs3 : Int32) (I : hI) (J : hJ) : Option (Int32 × hI × hJ) :=
  (mM_bestPlan vs2 vs3 (0 : Int32) I J).bind fun q1 =>
  h_let ((vs0 * q1.1) + v1) fun v3x1 =>
  h_g (h_in v3x1 640) <|
  h_g (h_in v3x1 640) <|
  if (q1.2.2 33 v3x1.toNatClampNeg) = (q1.2.2 34 v3x1.toNatClampNeg) then
    some ((1 : Int32), q1.2.1, q1.2.2)
  else
    some ((0 : Int32), q1.2.1, q1.2.2)
set_option maxHeartbeats 4000000 in
theorem sM_isSure_13 (d : Nat) (hd : 104 + 1 ≤ d) (v1 : Int32) (vs0 : Int32) (vs2 : Int32) (vs3 : Int32) (I : hI) (J : hJ) (q : Int32 × hI × hJ) (h : mM_isSure_13 v1 vs0 vs2 vs3 I J = some q) : AW hFT cX11_isSure 4 (some .boolean) RX11 kdM d [(0, .ref 0), (1, .int v1)] 13 [.int vs3, .int vs2, .ref 0, .int vs0] (I, J, RMm) (some (.int q.1)) (q.2.1, q.2.2, RMm) := by
  obtain ⟨d0, rfl, hd0⟩ := h_mono hd
  unfold mM_isSure_13 at h
  refine a_iconst dX11_isSure_13 ic_0 ?_
  obtain ⟨q1, cq1, h⟩ := h_bindS h
  refine a_callV1 [.int vs0] yy_X11_bestPlan ml_11_547 km_0 rfl (sM_bestPlan _ (by omega) vs2 vs3 (0 : Int32) I J q1 cq1) rfl rfl (Nat.le_of_ble_eq_true rfl) dX11_isSure_14 ?_
  refine a_imul dX11_isSure_17 ?_
  refine a_iload_n dX11_isSure_18 rfl rfl ?_
  refine a_iadd dX11_isSure_19 ?_
  obtain ⟨v3x1, ev3x1, h⟩ := h_letS h
  refine a_topI ev3x1 ?_
  refine a_istore_n (lv' := [(3, .int v3x1), (0, .ref 0), (1, .int v1)]) dX11_isSure_20 rfl (by decide) rfl ?_
  refine a_aload_n dX11_isSure_21 rfl rfl ?_
  refine b_getR hK_11 km_0 (i := 71) rfl fl_11_108 rfl rmm_71 dX11_isSure_22 ?_
  refine a_iload_n dX11_isSure_25 rfl rfl ?_
  obtain ⟨g3, h⟩ := h_gS h
  refine b_laload km_33 (h_inV g3) dX11_isSure_26 ?_
  refine a_aload_n dX11_isSure_27 rfl rfl ?_
  refine b_getR hK_11 km_0 (i := 72) rfl fl_11_111 rfl rmm_72 dX11_isSure_28 ?_
  refine a_iload_n dX11_isSure_31 rfl rfl ?_
  obtain ⟨g4, h⟩ := h_gS h
  refine b_laload km_34 (h_inV g4) dX11_isSure_32 ?_
  refine a_lcmp_ne (tgt := 41) dX11_isSure_33 dX11_isSure_34 (by decide) (fun c => ?_) (fun c => ?_)
  · replace h := h_iteF c h
    refine a_iconst dX11_isSure_41 ic_0 ?_
    cases h
    exact a_zret (h_Z0.1) dX11_isSure_42
  · replace h := h_iteT c h
    refine a_iconst dX11_isSure_37 ic_1 ?_
    refine a_goto (tgt := 42) dX11_isSure_38 (by decide) ?_
    cases h
    exact a_zret (h_Z1.1) dX11_isSure_42
def mM_isSure  (v1 : Int32) (v2 : Int32) (I : hI) (J : hJ) : Option (Int32 × hI × hJ) :=
  if v2 = 0 then
    mM_isSure_13 v1 (10 : Int32) v1 (1 : Int32) I J
  else
    mM_isSure_13 v1 (10 : Int32) v1 (0 : Int32) I J
set_option maxHeartbeats 4000000 in
theorem sM_isSure (d : Nat) (hd : 104 + 1 ≤ d) (v1 : Int32) (v2 : Int32) (I : hI) (J : hJ) (q : Int32 × hI × hJ) (h : mM_isSure v1 v2 I J = some q) : HMet hFT yX11_isSure cX11_isSure 4 (some .boolean) kdM d [.ref 0, .int v1, .int v2] (I, J, RMm) (some (.int q.1)) (q.2.1, q.2.2, RMm) := by
  obtain ⟨d0, rfl, hd0⟩ := h_mono hd
  refine HMet.of (by decide) (Nat.le_of_ble_eq_true rfl) ?_
  show AW hFT cX11_isSure 4 (some .boolean) RX11 kdM (d0 + 1) [(0, .ref 0), (1, .int v1), (2, .int v2)] 0 [] (I, J, RMm) (some (.int q.1)) (q.2.1, q.2.2, RMm)
  unfold mM_isSure at h
  refine a_bipush dX11_isSure_0 bp_10 ?_
  refine a_aload_n dX11_isSure_2 rfl rfl ?_
  refine a_iload_n dX11_isSure_3 rfl rfl ?_
  refine a_iload_n dX11_isSure_4 rfl rfl ?_
  refine a_if_ne (tgt := 12) dX11_isSure_5 (by decide) (fun c => ?_) (fun c => ?_)
  · replace h := h_iteF c h
    refine a_iconst dX11_isSure_12 ic_0 ?_
    refine a_sub (lv' := [(0, .ref 0), (1, .int v1)]) [0, 1] rfl ?_
    exact sM_isSure_13 (d0 + 1) (by omega) v1 (10 : Int32) v1 (0 : Int32) I J _ h
  · replace h := h_iteT c h
    refine a_iconst dX11_isSure_8 ic_1 ?_
    refine a_goto (tgt := 13) dX11_isSure_9 (by decide) ?_
    refine a_sub (lv' := [(0, .ref 0), (1, .int v1)]) [0, 1] rfl ?_
    exact sM_isSure_13 (d0 + 1) (by omega) v1 (10 : Int32) v1 (1 : Int32) I J _ h
/-! CoinLoopsModel.unsure()I -/
theorem dX11_unsure_0 : decode cX11_unsure 0 = .ok (.aload_n 0, 1) := by decide +kernel
theorem dX11_unsure_1 : decode cX11_unsure 1 = .ok (.iconst 0, 1) := by decide +kernel
theorem dX11_unsure_2 : decode cX11_unsure 2 = .ok (.putfield 156, 3) := by decide +kernel
theorem dX11_unsure_5 : decode cX11_unsure 5 = .ok (.aload_n 0, 1) := by decide +kernel
theorem dX11_unsure_6 : decode cX11_unsure 6 = .ok (.iconst 1, 1) := by decide +kernel
theorem dX11_unsure_7 : decode cX11_unsure 7 = .ok (.iconst 1, 1) := by decide +kernel
theorem dX11_unsure_8 : decode cX11_unsure 8 = .ok (.invokevirtual 527, 3) := by decide +kernel
theorem dX11_unsure_11 : decode cX11_unsure 11 = .ok (.ifCond .eq 5, 3) := by decide +kernel
theorem dX11_unsure_14 : decode cX11_unsure 14 = .ok (.iconst (-1), 1) := by decide +kernel
theorem dX11_unsure_15 : decode cX11_unsure 15 = .ok (.ireturn, 1) := by decide +kernel
theorem dX11_unsure_16 : decode cX11_unsure 16 = .ok (.iconst 0, 1) := by decide +kernel
theorem dX11_unsure_17 : decode cX11_unsure 17 = .ok (.istore_n 1, 1) := by decide +kernel
theorem dX11_unsure_18 : decode cX11_unsure 18 = .ok (.iload_n 1, 1) := by decide +kernel
theorem dX11_unsure_19 : decode cX11_unsure 19 = .ok (.aload_n 0, 1) := by decide +kernel
theorem dX11_unsure_20 : decode cX11_unsure 20 = .ok (.getfield 367, 3) := by decide +kernel
theorem dX11_unsure_23 : decode cX11_unsure 23 = .ok (.if_icmp .ge 20, 3) := by decide +kernel
theorem dX11_unsure_26 : decode cX11_unsure 26 = .ok (.aload_n 0, 1) := by decide +kernel
theorem dX11_unsure_27 : decode cX11_unsure 27 = .ok (.iload_n 1, 1) := by decide +kernel
theorem dX11_unsure_28 : decode cX11_unsure 28 = .ok (.iconst 1, 1) := by decide +kernel
theorem dX11_unsure_29 : decode cX11_unsure 29 = .ok (.invokevirtual 553, 3) := by decide +kernel
theorem dX11_unsure_32 : decode cX11_unsure 32 = .ok (.ifCond .ne 5, 3) := by decide +kernel
theorem dX11_unsure_35 : decode cX11_unsure 35 = .ok (.iload_n 1, 1) := by decide +kernel
theorem dX11_unsure_36 : decode cX11_unsure 36 = .ok (.ireturn, 1) := by decide +kernel
theorem dX11_unsure_37 : decode cX11_unsure 37 = .ok (.iinc 1 1, 3) := by decide +kernel
theorem dX11_unsure_40 : decode cX11_unsure 40 = .ok (.goto (-22), 3) := by decide +kernel
theorem dX11_unsure_43 : decode cX11_unsure 43 = .ok (.iconst (-1), 1) := by decide +kernel
theorem dX11_unsure_44 : decode cX11_unsure 44 = .ok (.ireturn, 1) := by decide +kernel
def mM_unsure_B18 (k18 : Int32 → hI → hJ → Option (Int32 × hI × hJ)) (v1 : Int32) (I : hI) (J : hJ) : Option (Int32 × hI × hJ) :=
  if (I 0 41) ≤ v1 then
    some ((-1 : Int32), I, J)
  else
    ((mM_isSure v1 (1 : Int32) I J).bind fun q1 =>
    if q1.1 = 0 then
      some (v1, q1.2.1, q1.2.2)
    else
      k18 (v1 + (1 : Int32)) q1.2.1 q1.2.2)
set_option maxHeartbeats 4000000 in
theorem sM_unsure_B18 (d : Nat) (hd : 105 + 1 ≤ d) (k18 : Int32 → hI → hJ → Option (Int32 × hI × hJ)) (hk18 : ∀ (v1 : Int32) (I : hI) (J : hJ) (q : Int32 × hI × hJ), k18 v1 I J = some q → AW hFT cX11_unsure 2 (some .int) RX11 kdM d [(0, .ref 0), (1, .int v1)] 18 [] (I, J, RMm) (some (.int q.1)) (q.2.1, q.2.2, RMm)) (v1 : Int32) (I : hI) (J : hJ) (q : Int32 × hI × hJ) (h : mM_unsure_B18 k18 v1 I J = some q) : AW hFT cX11_unsure 2 (some .int) RX11 kdM d [(0, .ref 0), (1, .int v1)] 18 [] (I, J, RMm) (some (.int q.1)) (q.2.1, q.2.2, RMm) := by
  obtain ⟨d0, rfl, hd0⟩ := h_mono hd
  unfold mM_unsure_B18 at h
  refine a_iload_n dX11_unsure_18 rfl rfl ?_
  refine a_aload_n dX11_unsure_19 rfl rfl ?_
  refine b_getI hK_11 km_0 (i := 41) rfl fl_11_367 rfl dX11_unsure_20 ?_
  refine a_icmp_ge (tgt := 43) dX11_unsure_23 (by decide) (fun c => ?_) (fun c => ?_)
  · replace h := h_iteT c h
    refine a_iconst dX11_unsure_43 ic_m1 ?_
    cases h
    exact a_iret dX11_unsure_44
  · replace h := h_iteF c h
    refine a_aload_n dX11_unsure_26 rfl rfl ?_
    refine a_iload_n dX11_unsure_27 rfl rfl ?_
    refine a_iconst dX11_unsure_28 ic_1 ?_
    obtain ⟨q1, cq1, h⟩ := h_bindS h
    refine a_callV1 [] yy_X11_isSure ml_11_553 km_0 rfl (sM_isSure _ (by omega) v1 (1 : Int32) I J q1 cq1) rfl rfl (Nat.le_of_ble_eq_true rfl) dX11_unsure_29 ?_
    refine a_if_ne (tgt := 37) dX11_unsure_32 (by decide) (fun c => ?_) (fun c => ?_)
    · replace h := h_iteF c h
      refine b_iinc (lv' := [(1, .int (v1 + (1 : Int32))), (0, .ref 0)]) dX11_unsure_37 rfl ic_1 (by decide) rfl ?_
      refine a_goto (tgt := 18) dX11_unsure_40 (by decide) ?_
      refine a_sub (lv' := [(0, .ref 0), (1, .int (v1 + (1 : Int32)))]) [1, 0] rfl ?_
      exact hk18 (v1 + (1 : Int32)) q1.2.1 q1.2.2 _ h
    · replace h := h_iteT c h
      refine a_iload_n dX11_unsure_35 rfl rfl ?_
      cases h
      exact a_iret dX11_unsure_36
def mM_unsure_L18  : Nat → Int32 → hI → hJ → Option (Int32 × hI × hJ)
  | 0 => fun _ _ _ => none
  | n + 1 => mM_unsure_B18 (mM_unsure_L18 n)
theorem sM_unsure_L18 (d : Nat) (hd : 105 + 1 ≤ d) : ∀ (n : Nat) (v1 : Int32) (I : hI) (J : hJ) (q : Int32 × hI × hJ) (h : mM_unsure_L18 n v1 I J = some q), AW hFT cX11_unsure 2 (some .int) RX11 kdM d [(0, .ref 0), (1, .int v1)] 18 [] (I, J, RMm) (some (.int q.1)) (q.2.1, q.2.2, RMm)
  | 0, _, _, _, q, h => by cases h
  | n + 1, v1, I, J, q, h => sM_unsure_B18 d hd (mM_unsure_L18 n) (sM_unsure_L18 d hd n) v1 I J q h
def mM_unsure   (I : hI) (J : hJ) : Option (Int32 × hI × hJ) :=
  h_let (h_u I 0 0 (0 : Int32)) fun I1 =>
  (mM_isRefused (1 : Int32) (1 : Int32) I1).bind fun q2 =>
  if q2.1 = 0 then
    mM_unsure_L18 hF (0 : Int32) q2.2 J
  else
    some ((-1 : Int32), q2.2, J)
set_option maxHeartbeats 4000000 in
theorem sM_unsure (d : Nat) (hd : 105 + 1 ≤ d)  (I : hI) (J : hJ) (q : Int32 × hI × hJ) (h : mM_unsure I J = some q) : HMet hFT yX11_unsure cX11_unsure 2 (some .int) kdM d [.ref 0] (I, J, RMm) (some (.int q.1)) (q.2.1, q.2.2, RMm) := by
  obtain ⟨d0, rfl, hd0⟩ := h_mono hd
  refine HMet.of (by decide) (Nat.le_of_ble_eq_true rfl) ?_
  show AW hFT cX11_unsure 2 (some .int) RX11 kdM (d0 + 1) [(0, .ref 0)] 0 [] (I, J, RMm) (some (.int q.1)) (q.2.1, q.2.2, RMm)
  unfold mM_unsure at h
  refine a_aload_n dX11_unsure_0 rfl rfl ?_
  refine a_iconst dX11_unsure_1 ic_0 ?_
  refine b_putI hK_11 km_0 (i := 0) rfl fl_11_156 rfl rfl (h_NI _) dX11_unsure_2 ?_
  obtain ⟨I1, eI1, h⟩ := h_letS h
  refine a_memI eI1 ?_
  refine a_aload_n dX11_unsure_5 rfl rfl ?_
  refine a_iconst dX11_unsure_6 ic_1 ?_
  refine a_iconst dX11_unsure_7 ic_1 ?_
  obtain ⟨q2, cq2, h⟩ := h_bindS h
  refine a_callV1 [] yy_X11_isRefused ml_11_527 km_0 rfl (sM_isRefused _ (by omega) (1 : Int32) (1 : Int32) I1 J q2 cq2) rfl rfl (Nat.le_of_ble_eq_true rfl) dX11_unsure_8 ?_
  refine a_if_eq (tgt := 16) dX11_unsure_11 (by decide) (fun c => ?_) (fun c => ?_)
  · replace h := h_iteT c h
    refine a_iconst dX11_unsure_16 ic_0 ?_
    refine a_istore_n (lv' := [(1, .int (0 : Int32)), (0, .ref 0)]) dX11_unsure_17 rfl (by decide) rfl ?_
    refine a_sub (lv' := [(0, .ref 0), (1, .int (0 : Int32))]) [1, 0] rfl ?_
    exact sM_unsure_L18 (d0 + 1) (by omega) hF (0 : Int32) q2.2 J _ h
  · replace h := h_iteF c h
    refine a_iconst dX11_unsure_14 ic_m1 ?_
    cases h
    exact a_iret dX11_unsure_15
/-! CoinLoopsModel.plan(IZI)I -/
theorem dX11_plan_0 : decode cX11_plan 0 = .ok (.aload_n 0, 1) := by decide +kernel
theorem dX11_plan_1 : decode cX11_plan 1 = .ok (.iconst 0, 1) := by decide +kernel
theorem dX11_plan_2 : decode cX11_plan 2 = .ok (.putfield 156, 3) := by decide +kernel
theorem dX11_plan_5 : decode cX11_plan 5 = .ok (.aload_n 0, 1) := by decide +kernel
theorem dX11_plan_6 : decode cX11_plan 6 = .ok (.aload_n 0, 1) := by decide +kernel
theorem dX11_plan_7 : decode cX11_plan 7 = .ok (.iload_n 1, 1) := by decide +kernel
theorem dX11_plan_8 : decode cX11_plan 8 = .ok (.invokevirtual 537, 3) := by decide +kernel
theorem dX11_plan_11 : decode cX11_plan 11 = .ok (.ifCond .eq 15, 3) := by decide +kernel
theorem dX11_plan_14 : decode cX11_plan 14 = .ok (.aload_n 0, 1) := by decide +kernel
theorem dX11_plan_15 : decode cX11_plan 15 = .ok (.iload_n 3, 1) := by decide +kernel
theorem dX11_plan_16 : decode cX11_plan 16 = .ok (.invokevirtual 537, 3) := by decide +kernel
theorem dX11_plan_19 : decode cX11_plan 19 = .ok (.ifCond .eq 7, 3) := by decide +kernel
theorem dX11_plan_22 : decode cX11_plan 22 = .ok (.iconst 1, 1) := by decide +kernel
theorem dX11_plan_23 : decode cX11_plan 23 = .ok (.goto 4, 3) := by decide +kernel
theorem dX11_plan_26 : decode cX11_plan 26 = .ok (.iconst 0, 1) := by decide +kernel
theorem dX11_plan_27 : decode cX11_plan 27 = .ok (.iconst 1, 1) := by decide +kernel
theorem dX11_plan_28 : decode cX11_plan 28 = .ok (.invokevirtual 527, 3) := by decide +kernel
theorem dX11_plan_31 : decode cX11_plan 31 = .ok (.ifCond .eq 5, 3) := by decide +kernel
theorem dX11_plan_34 : decode cX11_plan 34 = .ok (.iconst (-1), 1) := by decide +kernel
theorem dX11_plan_35 : decode cX11_plan 35 = .ok (.ireturn, 1) := by decide +kernel
theorem dX11_plan_36 : decode cX11_plan 36 = .ok (.aload_n 0, 1) := by decide +kernel
theorem dX11_plan_37 : decode cX11_plan 37 = .ok (.iload_n 1, 1) := by decide +kernel
theorem dX11_plan_38 : decode cX11_plan 38 = .ok (.iload_n 2, 1) := by decide +kernel
theorem dX11_plan_39 : decode cX11_plan 39 = .ok (.iconst 1, 1) := by decide +kernel
theorem dX11_plan_40 : decode cX11_plan 40 = .ok (.invokevirtual 547, 3) := by decide +kernel
theorem dX11_plan_43 : decode cX11_plan 43 = .ok (.istore 4, 2) := by decide +kernel
theorem dX11_plan_45 : decode cX11_plan 45 = .ok (.aload_n 0, 1) := by decide +kernel
theorem dX11_plan_46 : decode cX11_plan 46 = .ok (.iload 4, 2) := by decide +kernel
theorem dX11_plan_48 : decode cX11_plan 48 = .ok (.invokevirtual 494, 3) := by decide +kernel
theorem dX11_plan_51 : decode cX11_plan 51 = .ok (.aload_n 0, 1) := by decide +kernel
theorem dX11_plan_52 : decode cX11_plan 52 = .ok (.iload_n 3, 1) := by decide +kernel
theorem dX11_plan_53 : decode cX11_plan 53 = .ok (.invokevirtual 463, 3) := by decide +kernel
theorem dX11_plan_56 : decode cX11_plan 56 = .ok (.ifCond .eq 12, 3) := by decide +kernel
theorem dX11_plan_59 : decode cX11_plan 59 = .ok (.aload_n 0, 1) := by decide +kernel
theorem dX11_plan_60 : decode cX11_plan 60 = .ok (.getfield 98, 3) := by decide +kernel
theorem dX11_plan_63 : decode cX11_plan 63 = .ok (.iload_n 3, 1) := by decide +kernel
theorem dX11_plan_64 : decode cX11_plan 64 = .ok (.iaload, 1) := by decide +kernel
theorem dX11_plan_65 : decode cX11_plan 65 = .ok (.goto 4, 3) := by decide +kernel
theorem dX11_plan_68 : decode cX11_plan 68 = .ok (.iconst (-1), 1) := by decide +kernel
theorem dX11_plan_69 : decode cX11_plan 69 = .ok (.ireturn, 1) := by decide +kernel
def mM_plan_27  (v1 : Int32) (v2 : Int32) (v3 : Int32) (vs1 : Int32) (I : hI) (J : hJ) : Option (Int32 × hI × hJ) :=
  (mM_isRefused vs1 (1 : Int32) I).bind fun q1 =>
  if q1.1 = 0 then
    ((mM_bestPlan v1 v2 (1 : Int32) q1.2 J).bind fun q2 =>
    h_let q2.1 fun v4x2 =>
    (mM_laysPlan v4x2 q2.2.1).bind fun q4 =>
    (mM_isInside v3 q4).bind fun q5 =>
    if q5 = 0 then
      some ((-1 : Int32), q4, q2.2.2)
    else
      (h_g (h_in v3 10) <|
      some ((q4 30 v3.toNatClampNeg), q4, q2.2.2)))
  else
    some ((-1 : Int32), q1.2, J)
set_option maxHeartbeats 4000000 in
theorem sM_plan_27 (d : Nat) (hd : 104 + 1 ≤ d) (v1 : Int32) (v2 : Int32) (v3 : Int32) (vs1 : Int32) (I : hI) (J : hJ) (q : Int32 × hI × hJ) (h : mM_plan_27 v1 v2 v3 vs1 I J = some q) : AW hFT cX11_plan 5 (some .int) RX11 kdM d [(0, .ref 0), (1, .int v1), (2, .int v2), (3, .int v3)] 27 [.int vs1, .ref 0] (I, J, RMm) (some (.int q.1)) (q.2.1, q.2.2, RMm) := by
  obtain ⟨d0, rfl, hd0⟩ := h_mono hd
  unfold mM_plan_27 at h
  refine a_iconst dX11_plan_27 ic_1 ?_
  obtain ⟨q1, cq1, h⟩ := h_bindS h
  refine a_callV1 [] yy_X11_isRefused ml_11_527 km_0 rfl (sM_isRefused _ (by omega) vs1 (1 : Int32) I J q1 cq1) rfl rfl (Nat.le_of_ble_eq_true rfl) dX11_plan_28 ?_
  refine a_if_eq (tgt := 36) dX11_plan_31 (by decide) (fun c => ?_) (fun c => ?_)
  · replace h := h_iteT c h
    refine a_aload_n dX11_plan_36 rfl rfl ?_
    refine a_iload_n dX11_plan_37 rfl rfl ?_
    refine a_iload_n dX11_plan_38 rfl rfl ?_
    refine a_iconst dX11_plan_39 ic_1 ?_
    obtain ⟨q2, cq2, h⟩ := h_bindS h
    refine a_callV1 [] yy_X11_bestPlan ml_11_547 km_0 rfl (sM_bestPlan _ (by omega) v1 v2 (1 : Int32) q1.2 J q2 cq2) rfl rfl (Nat.le_of_ble_eq_true rfl) dX11_plan_40 ?_
    obtain ⟨v4x2, ev4x2, h⟩ := h_letS h
    refine a_topI ev4x2 ?_
    refine a_istore (lv' := [(4, .int v4x2), (0, .ref 0), (1, .int v1), (2, .int v2), (3, .int v3)]) dX11_plan_43 (by decide) rfl ?_
    refine a_aload_n dX11_plan_45 rfl rfl ?_
    refine a_iload dX11_plan_46 rfl ?_
    obtain ⟨q4, cq4, h⟩ := h_bindS h
    refine a_callV0 [] yy_X11_laysPlan ml_11_494 km_0 rfl (sM_laysPlan _ (by omega) v4x2 q2.2.1 q2.2.2 q4 cq4) rfl rfl (Nat.le_of_ble_eq_true rfl) dX11_plan_48 ?_
    refine a_aload_n dX11_plan_51 rfl rfl ?_
    refine a_iload_n dX11_plan_52 rfl rfl ?_
    obtain ⟨q5, cq5, h⟩ := h_bindS h
    refine a_callV1 [] yy_X11_isInside ml_11_463 km_0 rfl (sM_isInside _ (by omega) v3 q4 q2.2.2 q5 cq5) rfl rfl (Nat.le_of_ble_eq_true rfl) dX11_plan_53 ?_
    refine a_if_eq (tgt := 68) dX11_plan_56 (by decide) (fun c => ?_) (fun c => ?_)
    · replace h := h_iteT c h
      refine a_iconst dX11_plan_68 ic_m1 ?_
      cases h
      exact a_iret dX11_plan_69
    · replace h := h_iteF c h
      refine a_aload_n dX11_plan_59 rfl rfl ?_
      refine b_getR hK_11 km_0 (i := 68) rfl fl_11_98 rfl rmm_68 dX11_plan_60 ?_
      refine a_iload_n dX11_plan_63 rfl rfl ?_
      obtain ⟨g6, h⟩ := h_gS h
      refine b_iaload km_30 (h_inV g6) dX11_plan_64 ?_
      refine a_goto (tgt := 69) dX11_plan_65 (by decide) ?_
      cases h
      exact a_iret dX11_plan_69
  · replace h := h_iteF c h
    refine a_iconst dX11_plan_34 ic_m1 ?_
    cases h
    exact a_iret dX11_plan_35
def mM_plan_26  (v1 : Int32) (v2 : Int32) (v3 : Int32) (I : hI) (J : hJ) : Option (Int32 × hI × hJ) :=
  mM_plan_27 v1 v2 v3 (0 : Int32) I J
set_option maxHeartbeats 4000000 in
theorem sM_plan_26 (d : Nat) (hd : 104 + 1 ≤ d) (v1 : Int32) (v2 : Int32) (v3 : Int32) (I : hI) (J : hJ) (q : Int32 × hI × hJ) (h : mM_plan_26 v1 v2 v3 I J = some q) : AW hFT cX11_plan 5 (some .int) RX11 kdM d [(0, .ref 0), (1, .int v1), (2, .int v2), (3, .int v3)] 26 [.ref 0] (I, J, RMm) (some (.int q.1)) (q.2.1, q.2.2, RMm) := by
  obtain ⟨d0, rfl, hd0⟩ := h_mono hd
  unfold mM_plan_26 at h
  refine a_iconst dX11_plan_26 ic_0 ?_
  exact sM_plan_27 (d0 + 1) (by omega) v1 v2 v3 (0 : Int32) I J _ h
def mM_plan  (v1 : Int32) (v2 : Int32) (v3 : Int32) (I : hI) (J : hJ) : Option (Int32 × hI × hJ) :=
  h_let (h_u I 0 0 (0 : Int32)) fun I1 =>
  (mM_isState v1 I1).bind fun q2 =>
  if q2 = 0 then
    mM_plan_26 v1 v2 v3 I1 J
  else
    ((mM_isState v3 I1).bind fun q3 =>
    if q3 = 0 then
      mM_plan_26 v1 v2 v3 I1 J
    else
      mM_plan_27 v1 v2 v3 (1 : Int32) I1 J)
set_option maxHeartbeats 4000000 in
theorem sM_plan (d : Nat) (hd : 104 + 1 ≤ d) (v1 : Int32) (v2 : Int32) (v3 : Int32) (I : hI) (J : hJ) (q : Int32 × hI × hJ) (h : mM_plan v1 v2 v3 I J = some q) : HMet hFT yX11_plan cX11_plan 5 (some .int) kdM d [.ref 0, .int v1, .int v2, .int v3] (I, J, RMm) (some (.int q.1)) (q.2.1, q.2.2, RMm) := by
  obtain ⟨d0, rfl, hd0⟩ := h_mono hd
  refine HMet.of (by decide) (Nat.le_of_ble_eq_true rfl) ?_
  show AW hFT cX11_plan 5 (some .int) RX11 kdM (d0 + 1) [(0, .ref 0), (1, .int v1), (2, .int v2), (3, .int v3)] 0 [] (I, J, RMm) (some (.int q.1)) (q.2.1, q.2.2, RMm)
  unfold mM_plan at h
  refine a_aload_n dX11_plan_0 rfl rfl ?_
  refine a_iconst dX11_plan_1 ic_0 ?_
  refine b_putI hK_11 km_0 (i := 0) rfl fl_11_156 rfl rfl (h_NI _) dX11_plan_2 ?_
  obtain ⟨I1, eI1, h⟩ := h_letS h
  refine a_memI eI1 ?_
  refine a_aload_n dX11_plan_5 rfl rfl ?_
  refine a_aload_n dX11_plan_6 rfl rfl ?_
  refine a_iload_n dX11_plan_7 rfl rfl ?_
  obtain ⟨q2, cq2, h⟩ := h_bindS h
  refine a_callV1 [.ref 0] yy_X11_isState ml_11_537 km_0 rfl (sM_isState _ (by omega) v1 I1 J q2 cq2) rfl rfl (Nat.le_of_ble_eq_true rfl) dX11_plan_8 ?_
  refine a_if_eq (tgt := 26) dX11_plan_11 (by decide) (fun c => ?_) (fun c => ?_)
  · replace h := h_iteT c h
    exact sM_plan_26 (d0 + 1) (by omega) v1 v2 v3 I1 J _ h
  · replace h := h_iteF c h
    refine a_aload_n dX11_plan_14 rfl rfl ?_
    refine a_iload_n dX11_plan_15 rfl rfl ?_
    obtain ⟨q3, cq3, h⟩ := h_bindS h
    refine a_callV1 [.ref 0] yy_X11_isState ml_11_537 km_0 rfl (sM_isState _ (by omega) v3 I1 J q3 cq3) rfl rfl (Nat.le_of_ble_eq_true rfl) dX11_plan_16 ?_
    refine a_if_eq (tgt := 26) dX11_plan_19 (by decide) (fun c => ?_) (fun c => ?_)
    · replace h := h_iteT c h
      exact sM_plan_26 (d0 + 1) (by omega) v1 v2 v3 I1 J _ h
    · replace h := h_iteF c h
      refine a_iconst dX11_plan_22 ic_1 ?_
      refine a_goto (tgt := 27) dX11_plan_23 (by decide) ?_
      exact sM_plan_27 (d0 + 1) (by omega) v1 v2 v3 (1 : Int32) I1 J _ h
/-! CoinLoopsModel.withinOf(IIZJ)J -/
theorem dX11_withinOf_0 : decode cX11_withinOf 0 = .ok (.aload_n 0, 1) := by decide +kernel
theorem dX11_withinOf_1 : decode cX11_withinOf 1 = .ok (.iload_n 1, 1) := by decide +kernel
theorem dX11_withinOf_2 : decode cX11_withinOf 2 = .ok (.iload_n 2, 1) := by decide +kernel
theorem dX11_withinOf_3 : decode cX11_withinOf 3 = .ok (.invokevirtual 433, 3) := by decide +kernel
theorem dX11_withinOf_6 : decode cX11_withinOf 6 = .ok (.istore 6, 2) := by decide +kernel
theorem dX11_withinOf_8 : decode cX11_withinOf 8 = .ok (.iload_n 3, 1) := by decide +kernel
theorem dX11_withinOf_9 : decode cX11_withinOf 9 = .ok (.ifCond .eq 13, 3) := by decide +kernel
theorem dX11_withinOf_12 : decode cX11_withinOf 12 = .ok (.aload_n 0, 1) := by decide +kernel
theorem dX11_withinOf_13 : decode cX11_withinOf 13 = .ok (.getfield 89, 3) := by decide +kernel
theorem dX11_withinOf_16 : decode cX11_withinOf 16 = .ok (.iload 6, 2) := by decide +kernel
theorem dX11_withinOf_18 : decode cX11_withinOf 18 = .ok (.iaload, 1) := by decide +kernel
theorem dX11_withinOf_19 : decode cX11_withinOf 19 = .ok (.goto 10, 3) := by decide +kernel
theorem dX11_withinOf_22 : decode cX11_withinOf 22 = .ok (.aload_n 0, 1) := by decide +kernel
theorem dX11_withinOf_23 : decode cX11_withinOf 23 = .ok (.getfield 92, 3) := by decide +kernel
theorem dX11_withinOf_26 : decode cX11_withinOf 26 = .ok (.iload 6, 2) := by decide +kernel
theorem dX11_withinOf_28 : decode cX11_withinOf 28 = .ok (.iaload, 1) := by decide +kernel
theorem dX11_withinOf_29 : decode cX11_withinOf 29 = .ok (.i2l, 1) := by decide +kernel
theorem dX11_withinOf_30 : decode cX11_withinOf 30 = .ok (.lload 4, 2) := by decide +kernel
theorem dX11_withinOf_32 : decode cX11_withinOf 32 = .ok (.lmul, 1) := by decide +kernel
theorem dX11_withinOf_33 : decode cX11_withinOf 33 = .ok (.lstore 7, 2) := by decide +kernel
theorem dX11_withinOf_35 : decode cX11_withinOf 35 = .ok (.iconst 0, 1) := by decide +kernel
theorem dX11_withinOf_36 : decode cX11_withinOf 36 = .ok (.istore 9, 2) := by decide +kernel
theorem dX11_withinOf_38 : decode cX11_withinOf 38 = .ok (.iload 9, 2) := by decide +kernel
theorem dX11_withinOf_40 : decode cX11_withinOf 40 = .ok (.aload_n 0, 1) := by decide +kernel
theorem dX11_withinOf_41 : decode cX11_withinOf 41 = .ok (.getfield 367, 3) := by decide +kernel
theorem dX11_withinOf_44 : decode cX11_withinOf 44 = .ok (.if_icmp .ge 36, 3) := by decide +kernel
theorem dX11_withinOf_47 : decode cX11_withinOf 47 = .ok (.lload 7, 2) := by decide +kernel
theorem dX11_withinOf_49 : decode cX11_withinOf 49 = .ok (.aload_n 0, 1) := by decide +kernel
theorem dX11_withinOf_50 : decode cX11_withinOf 50 = .ok (.getfield 95, 3) := by decide +kernel
theorem dX11_withinOf_53 : decode cX11_withinOf 53 = .ok (.bipush 10, 2) := by decide +kernel
theorem dX11_withinOf_55 : decode cX11_withinOf 55 = .ok (.iload 6, 2) := by decide +kernel
theorem dX11_withinOf_57 : decode cX11_withinOf 57 = .ok (.imul, 1) := by decide +kernel
theorem dX11_withinOf_58 : decode cX11_withinOf 58 = .ok (.iload 9, 2) := by decide +kernel
theorem dX11_withinOf_60 : decode cX11_withinOf 60 = .ok (.iadd, 1) := by decide +kernel
theorem dX11_withinOf_61 : decode cX11_withinOf 61 = .ok (.iaload, 1) := by decide +kernel
theorem dX11_withinOf_62 : decode cX11_withinOf 62 = .ok (.i2l, 1) := by decide +kernel
theorem dX11_withinOf_63 : decode cX11_withinOf 63 = .ok (.aload_n 0, 1) := by decide +kernel
theorem dX11_withinOf_64 : decode cX11_withinOf 64 = .ok (.getfield 141, 3) := by decide +kernel
theorem dX11_withinOf_67 : decode cX11_withinOf 67 = .ok (.iload 9, 2) := by decide +kernel
theorem dX11_withinOf_69 : decode cX11_withinOf 69 = .ok (.laload, 1) := by decide +kernel
theorem dX11_withinOf_70 : decode cX11_withinOf 70 = .ok (.lmul, 1) := by decide +kernel
theorem dX11_withinOf_71 : decode cX11_withinOf 71 = .ok (.ladd, 1) := by decide +kernel
theorem dX11_withinOf_72 : decode cX11_withinOf 72 = .ok (.lstore 7, 2) := by decide +kernel
theorem dX11_withinOf_74 : decode cX11_withinOf 74 = .ok (.iinc 9 1, 3) := by decide +kernel
theorem dX11_withinOf_77 : decode cX11_withinOf 77 = .ok (.goto (-39), 3) := by decide +kernel
theorem dX11_withinOf_80 : decode cX11_withinOf 80 = .ok (.lload 7, 2) := by decide +kernel
theorem dX11_withinOf_82 : decode cX11_withinOf 82 = .ok (.lreturn, 1) := by decide +kernel
def mM_withinOf_B38 (k38 : Int32 → Int64 → Int32 → hI → hJ → Option (Int64)) (v6 : Int32) (v7 : Int64) (v9 : Int32) (I : hI) (J : hJ) : Option (Int64) :=
  if (I 0 41) ≤ v9 then
    some v7
  else
    (h_g (h_in (((10 : Int32) * v6) + v9) 800) <|
    h_g (h_in v9 10) <|
    h_let (v7 + (((I 29 (((10 : Int32) * v6) + v9).toNatClampNeg).toInt64) * (J 44 v9.toNatClampNeg))) fun v7x2 =>
    k38 v6 v7x2 (v9 + (1 : Int32)) I J)
set_option maxHeartbeats 4000000 in
theorem sM_withinOf_B38 (d : Nat) (hd : 0 + 1 ≤ d) (k38 : Int32 → Int64 → Int32 → hI → hJ → Option (Int64)) (hk38 : ∀ (v6 : Int32) (v7 : Int64) (v9 : Int32) (I : hI) (J : hJ) (q : Int64), k38 v6 v7 v9 I J = some q → AW hFT cX11_withinOf 10 (some .long) RX11 kdM d [(0, .ref 0), (6, .int v6), (7, .long v7), (9, .int v9)] 38 [] (I, J, RMm) (some (.long q)) (I, J, RMm)) (v6 : Int32) (v7 : Int64) (v9 : Int32) (I : hI) (J : hJ) (q : Int64) (h : mM_withinOf_B38 k38 v6 v7 v9 I J = some q) : AW hFT cX11_withinOf 10 (some .long) RX11 kdM d [(0, .ref 0), (6, .int v6), (7, .long v7), (9, .int v9)] 38 [] (I, J, RMm) (some (.long q)) (I, J, RMm) := by
  obtain ⟨d0, rfl, hd0⟩ := h_mono hd
  unfold mM_withinOf_B38 at h
  refine a_iload dX11_withinOf_38 rfl ?_
  refine a_aload_n dX11_withinOf_40 rfl rfl ?_
  refine b_getI hK_11 km_0 (i := 41) rfl fl_11_367 rfl dX11_withinOf_41 ?_
  refine a_icmp_ge (tgt := 80) dX11_withinOf_44 (by decide) (fun c => ?_) (fun c => ?_)
  · replace h := h_iteT c h
    refine a_lload dX11_withinOf_80 rfl ?_
    cases h
    exact a_lret dX11_withinOf_82
  · replace h := h_iteF c h
    refine a_lload dX11_withinOf_47 rfl ?_
    refine a_aload_n dX11_withinOf_49 rfl rfl ?_
    refine b_getR hK_11 km_0 (i := 66) rfl fl_11_95 rfl rmm_66 dX11_withinOf_50 ?_
    refine a_bipush dX11_withinOf_53 bp_10 ?_
    refine a_iload dX11_withinOf_55 rfl ?_
    refine a_imul dX11_withinOf_57 ?_
    refine a_iload dX11_withinOf_58 rfl ?_
    refine a_iadd dX11_withinOf_60 ?_
    obtain ⟨g1, h⟩ := h_gS h
    refine b_iaload km_29 (h_inV g1) dX11_withinOf_61 ?_
    refine a_i2l dX11_withinOf_62 ?_
    refine a_aload_n dX11_withinOf_63 rfl rfl ?_
    refine b_getR hK_11 km_0 (i := 83) rfl fl_11_141 rfl rmm_83 dX11_withinOf_64 ?_
    refine a_iload dX11_withinOf_67 rfl ?_
    obtain ⟨g2, h⟩ := h_gS h
    refine b_laload km_44 (h_inV g2) dX11_withinOf_69 ?_
    refine a_lmul dX11_withinOf_70 ?_
    refine a_ladd dX11_withinOf_71 ?_
    obtain ⟨v7x2, ev7x2, h⟩ := h_letS h
    refine a_topJ ev7x2 ?_
    refine a_lstore (lv' := [(7, .long v7x2), (0, .ref 0), (6, .int v6), (9, .int v9)]) dX11_withinOf_72 (by decide) rfl ?_
    refine b_iinc (lv' := [(9, .int (v9 + (1 : Int32))), (7, .long v7x2), (0, .ref 0), (6, .int v6)]) dX11_withinOf_74 rfl ic_1 (by decide) rfl ?_
    refine a_goto (tgt := 38) dX11_withinOf_77 (by decide) ?_
    refine a_sub (lv' := [(0, .ref 0), (6, .int v6), (7, .long v7x2), (9, .int (v9 + (1 : Int32)))]) [2, 3, 1, 0] rfl ?_
    exact hk38 v6 v7x2 (v9 + (1 : Int32)) I J _ h
def mM_withinOf_L38  : Nat → Int32 → Int64 → Int32 → hI → hJ → Option (Int64)
  | 0 => fun _ _ _ _ _ => none
  | n + 1 => mM_withinOf_B38 (mM_withinOf_L38 n)
theorem sM_withinOf_L38 (d : Nat) (hd : 0 + 1 ≤ d) : ∀ (n : Nat) (v6 : Int32) (v7 : Int64) (v9 : Int32) (I : hI) (J : hJ) (q : Int64) (h : mM_withinOf_L38 n v6 v7 v9 I J = some q), AW hFT cX11_withinOf 10 (some .long) RX11 kdM d [(0, .ref 0), (6, .int v6), (7, .long v7), (9, .int v9)] 38 [] (I, J, RMm) (some (.long q)) (I, J, RMm)
  | 0, _, _, _, _, _, q, h => by cases h
  | n + 1, v6, v7, v9, I, J, q, h => sM_withinOf_B38 d hd (mM_withinOf_L38 n) (sM_withinOf_L38 d hd n) v6 v7 v9 I J q h
def mM_withinOf  (v1 : Int32) (v2 : Int32) (v3 : Int32) (v4 : Int64) (I : hI) (J : hJ) : Option (Int64) :=
  h_let (mM_choiceAt v1 v2) fun v6x0 =>
  if v3 = 0 then
    (h_g (h_in v6x0 80) <|
    h_let (((I 28 v6x0.toNatClampNeg).toInt64) * v4) fun v7x2 =>
    mM_withinOf_L38 hF v6x0 v7x2 (0 : Int32) I J)
  else
    (h_g (h_in v6x0 80) <|
    h_let (((I 27 v6x0.toNatClampNeg).toInt64) * v4) fun v7x2 =>
    mM_withinOf_L38 hF v6x0 v7x2 (0 : Int32) I J)
set_option maxHeartbeats 4000000 in
theorem sM_withinOf (d : Nat) (hd : 0 + 1 ≤ d) (v1 : Int32) (v2 : Int32) (v3 : Int32) (v4 : Int64) (I : hI) (J : hJ) (q : Int64) (h : mM_withinOf v1 v2 v3 v4 I J = some q) : HMet hFT yX11_withinOf cX11_withinOf 10 (some .long) kdM d [.ref 0, .int v1, .int v2, .int v3, .long v4] (I, J, RMm) (some (.long q)) (I, J, RMm) := by
  obtain ⟨d0, rfl, hd0⟩ := h_mono hd
  refine HMet.of (by decide) (Nat.le_of_ble_eq_true rfl) ?_
  show AW hFT cX11_withinOf 10 (some .long) RX11 kdM (d0 + 1) [(0, .ref 0), (1, .int v1), (2, .int v2), (3, .int v3), (4, .long v4)] 0 [] (I, J, RMm) (some (.long q)) (I, J, RMm)
  unfold mM_withinOf at h
  refine a_aload_n dX11_withinOf_0 rfl rfl ?_
  refine a_iload_n dX11_withinOf_1 rfl rfl ?_
  refine a_iload_n dX11_withinOf_2 rfl rfl ?_
  refine a_callV1 [] yy_X11_choiceAt ml_11_433 km_0 rfl (sM_choiceAt _ (by omega) v1 v2 I J _ rfl) rfl rfl (Nat.le_of_ble_eq_true rfl) dX11_withinOf_3 ?_
  obtain ⟨v6x0, ev6x0, h⟩ := h_letS h
  refine a_topI ev6x0 ?_
  refine a_istore (lv' := [(6, .int v6x0), (0, .ref 0), (1, .int v1), (2, .int v2), (3, .int v3), (4, .long v4)]) dX11_withinOf_6 (by decide) rfl ?_
  refine a_iload_n dX11_withinOf_8 rfl rfl ?_
  refine a_if_eq (tgt := 22) dX11_withinOf_9 (by decide) (fun c => ?_) (fun c => ?_)
  · replace h := h_iteT c h
    refine a_aload_n dX11_withinOf_22 rfl rfl ?_
    refine b_getR hK_11 km_0 (i := 65) rfl fl_11_92 rfl rmm_65 dX11_withinOf_23 ?_
    refine a_iload dX11_withinOf_26 rfl ?_
    obtain ⟨g2, h⟩ := h_gS h
    refine b_iaload km_28 (h_inV g2) dX11_withinOf_28 ?_
    refine a_i2l dX11_withinOf_29 ?_
    refine a_lload dX11_withinOf_30 rfl ?_
    refine a_lmul dX11_withinOf_32 ?_
    obtain ⟨v7x2, ev7x2, h⟩ := h_letS h
    refine a_topJ ev7x2 ?_
    refine a_lstore (lv' := [(7, .long v7x2), (6, .int v6x0), (0, .ref 0), (1, .int v1), (2, .int v2), (3, .int v3), (4, .long v4)]) dX11_withinOf_33 (by decide) rfl ?_
    refine a_iconst dX11_withinOf_35 ic_0 ?_
    refine a_istore (lv' := [(9, .int (0 : Int32)), (7, .long v7x2), (6, .int v6x0), (0, .ref 0), (1, .int v1), (2, .int v2), (3, .int v3), (4, .long v4)]) dX11_withinOf_36 (by decide) rfl ?_
    refine a_sub (lv' := [(0, .ref 0), (6, .int v6x0), (7, .long v7x2), (9, .int (0 : Int32))]) [3, 2, 1, 0] rfl ?_
    exact sM_withinOf_L38 (d0 + 1) (by omega) hF v6x0 v7x2 (0 : Int32) I J _ h
  · replace h := h_iteF c h
    refine a_aload_n dX11_withinOf_12 rfl rfl ?_
    refine b_getR hK_11 km_0 (i := 64) rfl fl_11_89 rfl rmm_64 dX11_withinOf_13 ?_
    refine a_iload dX11_withinOf_16 rfl ?_
    obtain ⟨g2, h⟩ := h_gS h
    refine b_iaload km_27 (h_inV g2) dX11_withinOf_18 ?_
    refine a_goto (tgt := 29) dX11_withinOf_19 (by decide) ?_
    refine a_i2l dX11_withinOf_29 ?_
    refine a_lload dX11_withinOf_30 rfl ?_
    refine a_lmul dX11_withinOf_32 ?_
    obtain ⟨v7x2, ev7x2, h⟩ := h_letS h
    refine a_topJ ev7x2 ?_
    refine a_lstore (lv' := [(7, .long v7x2), (6, .int v6x0), (0, .ref 0), (1, .int v1), (2, .int v2), (3, .int v3), (4, .long v4)]) dX11_withinOf_33 (by decide) rfl ?_
    refine a_iconst dX11_withinOf_35 ic_0 ?_
    refine a_istore (lv' := [(9, .int (0 : Int32)), (7, .long v7x2), (6, .int v6x0), (0, .ref 0), (1, .int v1), (2, .int v2), (3, .int v3), (4, .long v4)]) dX11_withinOf_36 (by decide) rfl ?_
    refine a_sub (lv' := [(0, .ref 0), (6, .int v6x0), (7, .long v7x2), (9, .int (0 : Int32))]) [3, 2, 1, 0] rfl ?_
    exact sM_withinOf_L38 (d0 + 1) (by omega) hF v6x0 v7x2 (0 : Int32) I J _ h
/-! CoinLoopsModel.laysWithin(IZZ)V -/
theorem dX11_laysWithin_0 : decode cX11_laysWithin 0 = .ok (.iconst 0, 1) := by decide +kernel
theorem dX11_laysWithin_1 : decode cX11_laysWithin 1 = .ok (.istore 4, 2) := by decide +kernel
theorem dX11_laysWithin_3 : decode cX11_laysWithin 3 = .ok (.iload 4, 2) := by decide +kernel
theorem dX11_laysWithin_5 : decode cX11_laysWithin 5 = .ok (.aload_n 0, 1) := by decide +kernel
theorem dX11_laysWithin_6 : decode cX11_laysWithin 6 = .ok (.getfield 367, 3) := by decide +kernel
theorem dX11_laysWithin_9 : decode cX11_laysWithin 9 = .ok (.if_icmp .ge 34, 3) := by decide +kernel
theorem dX11_laysWithin_12 : decode cX11_laysWithin 12 = .ok (.aload_n 0, 1) := by decide +kernel
theorem dX11_laysWithin_13 : decode cX11_laysWithin 13 = .ok (.getfield 141, 3) := by decide +kernel
theorem dX11_laysWithin_16 : decode cX11_laysWithin 16 = .ok (.iload 4, 2) := by decide +kernel
theorem dX11_laysWithin_18 : decode cX11_laysWithin 18 = .ok (.iload_n 3, 1) := by decide +kernel
theorem dX11_laysWithin_19 : decode cX11_laysWithin 19 = .ok (.ifCond .ne 12, 3) := by decide +kernel
theorem dX11_laysWithin_22 : decode cX11_laysWithin 22 = .ok (.aload_n 0, 1) := by decide +kernel
theorem dX11_laysWithin_23 : decode cX11_laysWithin 23 = .ok (.iload 4, 2) := by decide +kernel
theorem dX11_laysWithin_25 : decode cX11_laysWithin 25 = .ok (.invokevirtual 463, 3) := by decide +kernel
theorem dX11_laysWithin_28 : decode cX11_laysWithin 28 = .ok (.ifCond .eq 7, 3) := by decide +kernel
theorem dX11_laysWithin_31 : decode cX11_laysWithin 31 = .ok (.lconst 0, 1) := by decide +kernel
theorem dX11_laysWithin_32 : decode cX11_laysWithin 32 = .ok (.goto 4, 3) := by decide +kernel
theorem dX11_laysWithin_35 : decode cX11_laysWithin 35 = .ok (.lconst 1, 1) := by decide +kernel
theorem dX11_laysWithin_36 : decode cX11_laysWithin 36 = .ok (.lastore, 1) := by decide +kernel
theorem dX11_laysWithin_37 : decode cX11_laysWithin 37 = .ok (.iinc 4 1, 3) := by decide +kernel
theorem dX11_laysWithin_40 : decode cX11_laysWithin 40 = .ok (.goto (-37), 3) := by decide +kernel
theorem dX11_laysWithin_43 : decode cX11_laysWithin 43 = .ok (.lconst 1, 1) := by decide +kernel
theorem dX11_laysWithin_44 : decode cX11_laysWithin 44 = .ok (.lstore 4, 2) := by decide +kernel
theorem dX11_laysWithin_46 : decode cX11_laysWithin 46 = .ok (.iconst 0, 1) := by decide +kernel
theorem dX11_laysWithin_47 : decode cX11_laysWithin 47 = .ok (.istore 6, 2) := by decide +kernel
theorem dX11_laysWithin_49 : decode cX11_laysWithin 49 = .ok (.iload 6, 2) := by decide +kernel
theorem dX11_laysWithin_51 : decode cX11_laysWithin 51 = .ok (.iload_n 1, 1) := by decide +kernel
theorem dX11_laysWithin_52 : decode cX11_laysWithin 52 = .ok (.if_icmp .ge 179, 3) := by decide +kernel
theorem dX11_laysWithin_55 : decode cX11_laysWithin 55 = .ok (.iconst 0, 1) := by decide +kernel
theorem dX11_laysWithin_56 : decode cX11_laysWithin 56 = .ok (.istore 7, 2) := by decide +kernel
theorem dX11_laysWithin_58 : decode cX11_laysWithin 58 = .ok (.iload 7, 2) := by decide +kernel
theorem dX11_laysWithin_60 : decode cX11_laysWithin 60 = .ok (.aload_n 0, 1) := by decide +kernel
theorem dX11_laysWithin_61 : decode cX11_laysWithin 61 = .ok (.getfield 367, 3) := by decide +kernel
theorem dX11_laysWithin_64 : decode cX11_laysWithin 64 = .ok (.if_icmp .ge 121, 3) := by decide +kernel
theorem dX11_laysWithin_67 : decode cX11_laysWithin 67 = .ok (.aload_n 0, 1) := by decide +kernel
theorem dX11_laysWithin_68 : decode cX11_laysWithin 68 = .ok (.getfield 138, 3) := by decide +kernel
theorem dX11_laysWithin_71 : decode cX11_laysWithin 71 = .ok (.iload 7, 2) := by decide +kernel
theorem dX11_laysWithin_73 : decode cX11_laysWithin 73 = .ok (.aload_n 0, 1) := by decide +kernel
theorem dX11_laysWithin_74 : decode cX11_laysWithin 74 = .ok (.iload 7, 2) := by decide +kernel
theorem dX11_laysWithin_76 : decode cX11_laysWithin 76 = .ok (.invokevirtual 463, 3) := by decide +kernel
theorem dX11_laysWithin_79 : decode cX11_laysWithin 79 = .ok (.ifCond .eq 16, 3) := by decide +kernel
theorem dX11_laysWithin_82 : decode cX11_laysWithin 82 = .ok (.aload_n 0, 1) := by decide +kernel
theorem dX11_laysWithin_83 : decode cX11_laysWithin 83 = .ok (.iload 7, 2) := by decide +kernel
theorem dX11_laysWithin_85 : decode cX11_laysWithin 85 = .ok (.iconst 0, 1) := by decide +kernel
theorem dX11_laysWithin_86 : decode cX11_laysWithin 86 = .ok (.iload_n 3, 1) := by decide +kernel
theorem dX11_laysWithin_87 : decode cX11_laysWithin 87 = .ok (.lload 4, 2) := by decide +kernel
theorem dX11_laysWithin_89 : decode cX11_laysWithin 89 = .ok (.invokevirtual 557, 3) := by decide +kernel
theorem dX11_laysWithin_92 : decode cX11_laysWithin 92 = .ok (.goto 14, 3) := by decide +kernel
theorem dX11_laysWithin_95 : decode cX11_laysWithin 95 = .ok (.ldc2_w 561, 3) := by decide +kernel
theorem dX11_laysWithin_98 : decode cX11_laysWithin 98 = .ok (.aload_n 0, 1) := by decide +kernel
theorem dX11_laysWithin_99 : decode cX11_laysWithin 99 = .ok (.getfield 141, 3) := by decide +kernel
theorem dX11_laysWithin_102 : decode cX11_laysWithin 102 = .ok (.iload 7, 2) := by decide +kernel
theorem dX11_laysWithin_104 : decode cX11_laysWithin 104 = .ok (.laload, 1) := by decide +kernel
theorem dX11_laysWithin_105 : decode cX11_laysWithin 105 = .ok (.lmul, 1) := by decide +kernel
theorem dX11_laysWithin_106 : decode cX11_laysWithin 106 = .ok (.lastore, 1) := by decide +kernel
theorem dX11_laysWithin_107 : decode cX11_laysWithin 107 = .ok (.iconst 1, 1) := by decide +kernel
theorem dX11_laysWithin_108 : decode cX11_laysWithin 108 = .ok (.istore 8, 2) := by decide +kernel
theorem dX11_laysWithin_110 : decode cX11_laysWithin 110 = .ok (.iload 8, 2) := by decide +kernel
theorem dX11_laysWithin_112 : decode cX11_laysWithin 112 = .ok (.aload_n 0, 1) := by decide +kernel
theorem dX11_laysWithin_113 : decode cX11_laysWithin 113 = .ok (.getfield 83, 3) := by decide +kernel
theorem dX11_laysWithin_116 : decode cX11_laysWithin 116 = .ok (.iload 7, 2) := by decide +kernel
theorem dX11_laysWithin_118 : decode cX11_laysWithin 118 = .ok (.iaload, 1) := by decide +kernel
theorem dX11_laysWithin_119 : decode cX11_laysWithin 119 = .ok (.if_icmp .ge 60, 3) := by decide +kernel
theorem dX11_laysWithin_122 : decode cX11_laysWithin 122 = .ok (.aload_n 0, 1) := by decide +kernel
theorem dX11_laysWithin_123 : decode cX11_laysWithin 123 = .ok (.iload 7, 2) := by decide +kernel
theorem dX11_laysWithin_125 : decode cX11_laysWithin 125 = .ok (.iload 8, 2) := by decide +kernel
theorem dX11_laysWithin_127 : decode cX11_laysWithin 127 = .ok (.iload_n 3, 1) := by decide +kernel
theorem dX11_laysWithin_128 : decode cX11_laysWithin 128 = .ok (.lload 4, 2) := by decide +kernel
theorem dX11_laysWithin_130 : decode cX11_laysWithin 130 = .ok (.invokevirtual 557, 3) := by decide +kernel
theorem dX11_laysWithin_133 : decode cX11_laysWithin 133 = .ok (.lstore 9, 2) := by decide +kernel
theorem dX11_laysWithin_135 : decode cX11_laysWithin 135 = .ok (.aload_n 0, 1) := by decide +kernel
theorem dX11_laysWithin_136 : decode cX11_laysWithin 136 = .ok (.getfield 138, 3) := by decide +kernel
theorem dX11_laysWithin_139 : decode cX11_laysWithin 139 = .ok (.iload 7, 2) := by decide +kernel
theorem dX11_laysWithin_141 : decode cX11_laysWithin 141 = .ok (.iload_n 2, 1) := by decide +kernel
theorem dX11_laysWithin_142 : decode cX11_laysWithin 142 = .ok (.ifCond .eq 18, 3) := by decide +kernel
theorem dX11_laysWithin_145 : decode cX11_laysWithin 145 = .ok (.aload_n 0, 1) := by decide +kernel
theorem dX11_laysWithin_146 : decode cX11_laysWithin 146 = .ok (.getfield 138, 3) := by decide +kernel
theorem dX11_laysWithin_149 : decode cX11_laysWithin 149 = .ok (.iload 7, 2) := by decide +kernel
theorem dX11_laysWithin_151 : decode cX11_laysWithin 151 = .ok (.laload, 1) := by decide +kernel
theorem dX11_laysWithin_152 : decode cX11_laysWithin 152 = .ok (.lload 9, 2) := by decide +kernel
theorem dX11_laysWithin_154 : decode cX11_laysWithin 154 = .ok (.invokestatic 563, 3) := by decide +kernel
theorem dX11_laysWithin_157 : decode cX11_laysWithin 157 = .ok (.goto 15, 3) := by decide +kernel
theorem dX11_laysWithin_160 : decode cX11_laysWithin 160 = .ok (.aload_n 0, 1) := by decide +kernel
theorem dX11_laysWithin_161 : decode cX11_laysWithin 161 = .ok (.getfield 138, 3) := by decide +kernel
theorem dX11_laysWithin_164 : decode cX11_laysWithin 164 = .ok (.iload 7, 2) := by decide +kernel
theorem dX11_laysWithin_166 : decode cX11_laysWithin 166 = .ok (.laload, 1) := by decide +kernel
theorem dX11_laysWithin_167 : decode cX11_laysWithin 167 = .ok (.lload 9, 2) := by decide +kernel
theorem dX11_laysWithin_169 : decode cX11_laysWithin 169 = .ok (.invokestatic 565, 3) := by decide +kernel
theorem dX11_laysWithin_172 : decode cX11_laysWithin 172 = .ok (.lastore, 1) := by decide +kernel
theorem dX11_laysWithin_173 : decode cX11_laysWithin 173 = .ok (.iinc 8 1, 3) := by decide +kernel
theorem dX11_laysWithin_176 : decode cX11_laysWithin 176 = .ok (.goto (-66), 3) := by decide +kernel
theorem dX11_laysWithin_179 : decode cX11_laysWithin 179 = .ok (.iinc 7 1, 3) := by decide +kernel
theorem dX11_laysWithin_182 : decode cX11_laysWithin 182 = .ok (.goto (-124), 3) := by decide +kernel
theorem dX11_laysWithin_185 : decode cX11_laysWithin 185 = .ok (.lload 4, 2) := by decide +kernel
theorem dX11_laysWithin_187 : decode cX11_laysWithin 187 = .ok (.ldc2_w 561, 3) := by decide +kernel
theorem dX11_laysWithin_190 : decode cX11_laysWithin 190 = .ok (.lmul, 1) := by decide +kernel
theorem dX11_laysWithin_191 : decode cX11_laysWithin 191 = .ok (.lstore 4, 2) := by decide +kernel
theorem dX11_laysWithin_193 : decode cX11_laysWithin 193 = .ok (.iconst 0, 1) := by decide +kernel
theorem dX11_laysWithin_194 : decode cX11_laysWithin 194 = .ok (.istore 7, 2) := by decide +kernel
theorem dX11_laysWithin_196 : decode cX11_laysWithin 196 = .ok (.iload 7, 2) := by decide +kernel
theorem dX11_laysWithin_198 : decode cX11_laysWithin 198 = .ok (.aload_n 0, 1) := by decide +kernel
theorem dX11_laysWithin_199 : decode cX11_laysWithin 199 = .ok (.getfield 367, 3) := by decide +kernel
theorem dX11_laysWithin_202 : decode cX11_laysWithin 202 = .ok (.if_icmp .ge 23, 3) := by decide +kernel
theorem dX11_laysWithin_205 : decode cX11_laysWithin 205 = .ok (.aload_n 0, 1) := by decide +kernel
theorem dX11_laysWithin_206 : decode cX11_laysWithin 206 = .ok (.getfield 141, 3) := by decide +kernel
theorem dX11_laysWithin_209 : decode cX11_laysWithin 209 = .ok (.iload 7, 2) := by decide +kernel
theorem dX11_laysWithin_211 : decode cX11_laysWithin 211 = .ok (.aload_n 0, 1) := by decide +kernel
theorem dX11_laysWithin_212 : decode cX11_laysWithin 212 = .ok (.getfield 138, 3) := by decide +kernel
theorem dX11_laysWithin_215 : decode cX11_laysWithin 215 = .ok (.iload 7, 2) := by decide +kernel
theorem dX11_laysWithin_217 : decode cX11_laysWithin 217 = .ok (.laload, 1) := by decide +kernel
theorem dX11_laysWithin_218 : decode cX11_laysWithin 218 = .ok (.lastore, 1) := by decide +kernel
theorem dX11_laysWithin_219 : decode cX11_laysWithin 219 = .ok (.iinc 7 1, 3) := by decide +kernel
theorem dX11_laysWithin_222 : decode cX11_laysWithin 222 = .ok (.goto (-26), 3) := by decide +kernel
theorem dX11_laysWithin_225 : decode cX11_laysWithin 225 = .ok (.iinc 6 1, 3) := by decide +kernel
theorem dX11_laysWithin_228 : decode cX11_laysWithin 228 = .ok (.goto (-179), 3) := by decide +kernel
theorem dX11_laysWithin_231 : decode cX11_laysWithin 231 = .ok (.return_, 1) := by decide +kernel
def mM_laysWithin_B196 (k49 : Int32 → Int32 → Int32 → Int64 → Int32 → hI → hJ → Option (hJ)) (k196 : Int32 → Int32 → Int32 → Int64 → Int32 → Int32 → hI → hJ → Option (hJ)) (v1 : Int32) (v2 : Int32) (v3 : Int32) (v4 : Int64) (v6 : Int32) (v7 : Int32) (I : hI) (J : hJ) : Option (hJ) :=
  if (I 0 41) ≤ v7 then
    k49 v1 v2 v3 v4 (v6 + (1 : Int32)) I J
  else
    (h_g (h_in v7 10) <|
    h_g (h_in v7 10) <|
    h_let (h_u J 44 v7.toNatClampNeg (J 43 v7.toNatClampNeg)) fun J3 =>
    k196 v1 v2 v3 v4 v6 (v7 + (1 : Int32)) I J3)
set_option maxHeartbeats 4000000 in
theorem sM_laysWithin_B196 (d : Nat) (hd : 1 + 1 ≤ d) (k49 : Int32 → Int32 → Int32 → Int64 → Int32 → hI → hJ → Option (hJ)) (hk49 : ∀ (v1 : Int32) (v2 : Int32) (v3 : Int32) (v4 : Int64) (v6 : Int32) (I : hI) (J : hJ) (q : hJ), k49 v1 v2 v3 v4 v6 I J = some q → AW hFT cX11_laysWithin 11 none RX11 kdM d [(0, .ref 0), (1, .int v1), (2, .int v2), (3, .int v3), (4, .long v4), (6, .int v6)] 49 [] (I, J, RMm) none (I, q, RMm)) (k196 : Int32 → Int32 → Int32 → Int64 → Int32 → Int32 → hI → hJ → Option (hJ)) (hk196 : ∀ (v1 : Int32) (v2 : Int32) (v3 : Int32) (v4 : Int64) (v6 : Int32) (v7 : Int32) (I : hI) (J : hJ) (q : hJ), k196 v1 v2 v3 v4 v6 v7 I J = some q → AW hFT cX11_laysWithin 11 none RX11 kdM d [(0, .ref 0), (1, .int v1), (2, .int v2), (3, .int v3), (4, .long v4), (6, .int v6), (7, .int v7)] 196 [] (I, J, RMm) none (I, q, RMm)) (v1 : Int32) (v2 : Int32) (v3 : Int32) (v4 : Int64) (v6 : Int32) (v7 : Int32) (I : hI) (J : hJ) (q : hJ) (h : mM_laysWithin_B196 k49 k196 v1 v2 v3 v4 v6 v7 I J = some q) : AW hFT cX11_laysWithin 11 none RX11 kdM d [(0, .ref 0), (1, .int v1), (2, .int v2), (3, .int v3), (4, .long v4), (6, .int v6), (7, .int v7)] 196 [] (I, J, RMm) none (I, q, RMm) := by
  obtain ⟨d0, rfl, hd0⟩ := h_mono hd
  unfold mM_laysWithin_B196 at h
  refine a_iload dX11_laysWithin_196 rfl ?_
  refine a_aload_n dX11_laysWithin_198 rfl rfl ?_
  refine b_getI hK_11 km_0 (i := 41) rfl fl_11_367 rfl dX11_laysWithin_199 ?_
  refine a_icmp_ge (tgt := 225) dX11_laysWithin_202 (by decide) (fun c => ?_) (fun c => ?_)
  · replace h := h_iteT c h
    refine b_iinc (lv' := [(6, .int (v6 + (1 : Int32))), (0, .ref 0), (1, .int v1), (2, .int v2), (3, .int v3), (4, .long v4), (7, .int v7)]) dX11_laysWithin_225 rfl ic_1 (by decide) rfl ?_
    refine a_goto (tgt := 49) dX11_laysWithin_228 (by decide) ?_
    refine a_sub (lv' := [(0, .ref 0), (1, .int v1), (2, .int v2), (3, .int v3), (4, .long v4), (6, .int (v6 + (1 : Int32)))]) [1, 2, 3, 4, 5, 0] rfl ?_
    exact hk49 v1 v2 v3 v4 (v6 + (1 : Int32)) I J _ h
  · replace h := h_iteF c h
    refine a_aload_n dX11_laysWithin_205 rfl rfl ?_
    refine b_getR hK_11 km_0 (i := 83) rfl fl_11_141 rfl rmm_83 dX11_laysWithin_206 ?_
    refine a_iload dX11_laysWithin_209 rfl ?_
    refine a_aload_n dX11_laysWithin_211 rfl rfl ?_
    refine b_getR hK_11 km_0 (i := 82) rfl fl_11_138 rfl rmm_82 dX11_laysWithin_212 ?_
    refine a_iload dX11_laysWithin_215 rfl ?_
    obtain ⟨g1, h⟩ := h_gS h
    refine b_laload km_43 (h_inV g1) dX11_laysWithin_217 ?_
    obtain ⟨g2, h⟩ := h_gS h
    refine b_lastore km_44 (h_inV g2) dX11_laysWithin_218 ?_
    obtain ⟨J3, eJ3, h⟩ := h_letS h
    refine a_memJ eJ3 ?_
    refine b_iinc (lv' := [(7, .int (v7 + (1 : Int32))), (0, .ref 0), (1, .int v1), (2, .int v2), (3, .int v3), (4, .long v4), (6, .int v6)]) dX11_laysWithin_219 rfl ic_1 (by decide) rfl ?_
    refine a_goto (tgt := 196) dX11_laysWithin_222 (by decide) ?_
    refine a_sub (lv' := [(0, .ref 0), (1, .int v1), (2, .int v2), (3, .int v3), (4, .long v4), (6, .int v6), (7, .int (v7 + (1 : Int32)))]) [1, 2, 3, 4, 5, 6, 0] rfl ?_
    exact hk196 v1 v2 v3 v4 v6 (v7 + (1 : Int32)) I J3 _ h
def mM_laysWithin_L196 (k49 : Int32 → Int32 → Int32 → Int64 → Int32 → hI → hJ → Option (hJ)) : Nat → Int32 → Int32 → Int32 → Int64 → Int32 → Int32 → hI → hJ → Option (hJ)
  | 0 => fun _ _ _ _ _ _ _ _ => none
  | n + 1 => mM_laysWithin_B196 k49 (mM_laysWithin_L196 k49 n)
theorem sM_laysWithin_L196 (d : Nat) (hd : 1 + 1 ≤ d) (k49 : Int32 → Int32 → Int32 → Int64 → Int32 → hI → hJ → Option (hJ)) (hk49 : ∀ (v1 : Int32) (v2 : Int32) (v3 : Int32) (v4 : Int64) (v6 : Int32) (I : hI) (J : hJ) (q : hJ), k49 v1 v2 v3 v4 v6 I J = some q → AW hFT cX11_laysWithin 11 none RX11 kdM d [(0, .ref 0), (1, .int v1), (2, .int v2), (3, .int v3), (4, .long v4), (6, .int v6)] 49 [] (I, J, RMm) none (I, q, RMm)) : ∀ (n : Nat) (v1 : Int32) (v2 : Int32) (v3 : Int32) (v4 : Int64) (v6 : Int32) (v7 : Int32) (I : hI) (J : hJ) (q : hJ) (h : mM_laysWithin_L196 k49 n v1 v2 v3 v4 v6 v7 I J = some q), AW hFT cX11_laysWithin 11 none RX11 kdM d [(0, .ref 0), (1, .int v1), (2, .int v2), (3, .int v3), (4, .long v4), (6, .int v6), (7, .int v7)] 196 [] (I, J, RMm) none (I, q, RMm)
  | 0, _, _, _, _, _, _, _, _, q, h => by cases h
  | n + 1, v1, v2, v3, v4, v6, v7, I, J, q, h => sM_laysWithin_B196 d hd k49 hk49 (mM_laysWithin_L196 k49 n) (sM_laysWithin_L196 d hd k49 hk49 n) v1 v2 v3 v4 v6 v7 I J q h
def mM_laysWithin_172 (k49 : Int32 → Int32 → Int32 → Int64 → Int32 → hI → hJ → Option (hJ)) (k58 : Int32 → Int32 → Int32 → Int64 → Int32 → Int32 → hI → hJ → Option (hJ)) (k110 : Int32 → Int32 → Int32 → Int64 → Int32 → Int32 → Int32 → hI → hJ → Option (hJ)) (v1 : Int32) (v2 : Int32) (v3 : Int32) (v4 : Int64) (v6 : Int32) (v7 : Int32) (v8 : Int32) (vs1 : Int32) (vs2 : Int64) (I : hI) (J : hJ) : Option (hJ) :=
  h_g (h_in vs1 10) <|
  h_let (h_u J 43 vs1.toNatClampNeg vs2) fun J2 =>
  k110 v1 v2 v3 v4 v6 v7 (v8 + (1 : Int32)) I J2
set_option maxHeartbeats 4000000 in
theorem sM_laysWithin_172 (d : Nat) (hd : 1 + 1 ≤ d) (k49 : Int32 → Int32 → Int32 → Int64 → Int32 → hI → hJ → Option (hJ)) (hk49 : ∀ (v1 : Int32) (v2 : Int32) (v3 : Int32) (v4 : Int64) (v6 : Int32) (I : hI) (J : hJ) (q : hJ), k49 v1 v2 v3 v4 v6 I J = some q → AW hFT cX11_laysWithin 11 none RX11 kdM d [(0, .ref 0), (1, .int v1), (2, .int v2), (3, .int v3), (4, .long v4), (6, .int v6)] 49 [] (I, J, RMm) none (I, q, RMm)) (k58 : Int32 → Int32 → Int32 → Int64 → Int32 → Int32 → hI → hJ → Option (hJ)) (hk58 : ∀ (v1 : Int32) (v2 : Int32) (v3 : Int32) (v4 : Int64) (v6 : Int32) (v7 : Int32) (I : hI) (J : hJ) (q : hJ), k58 v1 v2 v3 v4 v6 v7 I J = some q → AW hFT cX11_laysWithin 11 none RX11 kdM d [(0, .ref 0), (1, .int v1), (2, .int v2), (3, .int v3), (4, .long v4), (6, .int v6), (7, .int v7)] 58 [] (I, J, RMm) none (I, q, RMm)) (k110 : Int32 → Int32 → Int32 → Int64 → Int32 → Int32 → Int32 → hI → hJ → Option (hJ)) (hk110 : ∀ (v1 : Int32) (v2 : Int32) (v3 : Int32) (v4 : Int64) (v6 : Int32) (v7 : Int32) (v8 : Int32) (I : hI) (J : hJ) (q : hJ), k110 v1 v2 v3 v4 v6 v7 v8 I J = some q → AW hFT cX11_laysWithin 11 none RX11 kdM d [(0, .ref 0), (1, .int v1), (2, .int v2), (3, .int v3), (4, .long v4), (6, .int v6), (7, .int v7), (8, .int v8)] 110 [] (I, J, RMm) none (I, q, RMm)) (v1 : Int32) (v2 : Int32) (v3 : Int32) (v4 : Int64) (v6 : Int32) (v7 : Int32) (v8 : Int32) (vs1 : Int32) (vs2 : Int64) (I : hI) (J : hJ) (q : hJ) (h : mM_laysWithin_172 k49 k58 k110 v1 v2 v3 v4 v6 v7 v8 vs1 vs2 I J = some q) : AW hFT cX11_laysWithin 11 none RX11 kdM d [(0, .ref 0), (1, .int v1), (2, .int v2), (3, .int v3), (4, .long v4), (6, .int v6), (7, .int v7), (8, .int v8)] 172 [.long vs2, .int vs1, .ref 43] (I, J, RMm) none (I, q, RMm) := by
  obtain ⟨d0, rfl, hd0⟩ := h_mono hd
  unfold mM_laysWithin_172 at h
  obtain ⟨g1, h⟩ := h_gS h
  refine b_lastore km_43 (h_inV g1) dX11_laysWithin_172 ?_
  obtain ⟨J2, eJ2, h⟩ := h_letS h
  refine a_memJ eJ2 ?_
  refine b_iinc (lv' := [(8, .int (v8 + (1 : Int32))), (0, .ref 0), (1, .int v1), (2, .int v2), (3, .int v3), (4, .long v4), (6, .int v6), (7, .int v7)]) dX11_laysWithin_173 rfl ic_1 (by decide) rfl ?_
  refine a_goto (tgt := 110) dX11_laysWithin_176 (by decide) ?_
  refine a_sub (lv' := [(0, .ref 0), (1, .int v1), (2, .int v2), (3, .int v3), (4, .long v4), (6, .int v6), (7, .int v7), (8, .int (v8 + (1 : Int32)))]) [1, 2, 3, 4, 5, 6, 7, 0] rfl ?_
  exact hk110 v1 v2 v3 v4 v6 v7 (v8 + (1 : Int32)) I J2 _ h
def mM_laysWithin_B110 (k49 : Int32 → Int32 → Int32 → Int64 → Int32 → hI → hJ → Option (hJ)) (k58 : Int32 → Int32 → Int32 → Int64 → Int32 → Int32 → hI → hJ → Option (hJ)) (k110 : Int32 → Int32 → Int32 → Int64 → Int32 → Int32 → Int32 → hI → hJ → Option (hJ)) (v1 : Int32) (v2 : Int32) (v3 : Int32) (v4 : Int64) (v6 : Int32) (v7 : Int32) (v8 : Int32) (I : hI) (J : hJ) : Option (hJ) :=
  h_g (h_in v7 10) <|
  if (I 25 v7.toNatClampNeg) ≤ v8 then
    k58 v1 v2 v3 v4 v6 (v7 + (1 : Int32)) I J
  else
    ((mM_withinOf v7 v8 v3 v4 I J).bind fun q2 =>
    if v2 = 0 then
      (h_g (h_in v7 10) <|
      mM_laysWithin_172 k49 k58 k110 v1 v2 v3 v4 v6 v7 v8 v7 (if q2 < (J 43 v7.toNatClampNeg) then q2 else (J 43 v7.toNatClampNeg)) I J)
    else
      (h_g (h_in v7 10) <|
      mM_laysWithin_172 k49 k58 k110 v1 v2 v3 v4 v6 v7 v8 v7 (if q2 < (J 43 v7.toNatClampNeg) then (J 43 v7.toNatClampNeg) else q2) I J))
set_option maxHeartbeats 4000000 in
theorem sM_laysWithin_B110 (d : Nat) (hd : 1 + 1 ≤ d) (k49 : Int32 → Int32 → Int32 → Int64 → Int32 → hI → hJ → Option (hJ)) (hk49 : ∀ (v1 : Int32) (v2 : Int32) (v3 : Int32) (v4 : Int64) (v6 : Int32) (I : hI) (J : hJ) (q : hJ), k49 v1 v2 v3 v4 v6 I J = some q → AW hFT cX11_laysWithin 11 none RX11 kdM d [(0, .ref 0), (1, .int v1), (2, .int v2), (3, .int v3), (4, .long v4), (6, .int v6)] 49 [] (I, J, RMm) none (I, q, RMm)) (k58 : Int32 → Int32 → Int32 → Int64 → Int32 → Int32 → hI → hJ → Option (hJ)) (hk58 : ∀ (v1 : Int32) (v2 : Int32) (v3 : Int32) (v4 : Int64) (v6 : Int32) (v7 : Int32) (I : hI) (J : hJ) (q : hJ), k58 v1 v2 v3 v4 v6 v7 I J = some q → AW hFT cX11_laysWithin 11 none RX11 kdM d [(0, .ref 0), (1, .int v1), (2, .int v2), (3, .int v3), (4, .long v4), (6, .int v6), (7, .int v7)] 58 [] (I, J, RMm) none (I, q, RMm)) (k110 : Int32 → Int32 → Int32 → Int64 → Int32 → Int32 → Int32 → hI → hJ → Option (hJ)) (hk110 : ∀ (v1 : Int32) (v2 : Int32) (v3 : Int32) (v4 : Int64) (v6 : Int32) (v7 : Int32) (v8 : Int32) (I : hI) (J : hJ) (q : hJ), k110 v1 v2 v3 v4 v6 v7 v8 I J = some q → AW hFT cX11_laysWithin 11 none RX11 kdM d [(0, .ref 0), (1, .int v1), (2, .int v2), (3, .int v3), (4, .long v4), (6, .int v6), (7, .int v7), (8, .int v8)] 110 [] (I, J, RMm) none (I, q, RMm)) (v1 : Int32) (v2 : Int32) (v3 : Int32) (v4 : Int64) (v6 : Int32) (v7 : Int32) (v8 : Int32) (I : hI) (J : hJ) (q : hJ) (h : mM_laysWithin_B110 k49 k58 k110 v1 v2 v3 v4 v6 v7 v8 I J = some q) : AW hFT cX11_laysWithin 11 none RX11 kdM d [(0, .ref 0), (1, .int v1), (2, .int v2), (3, .int v3), (4, .long v4), (6, .int v6), (7, .int v7), (8, .int v8)] 110 [] (I, J, RMm) none (I, q, RMm) := by
  obtain ⟨d0, rfl, hd0⟩ := h_mono hd
  unfold mM_laysWithin_B110 at h
  refine a_iload dX11_laysWithin_110 rfl ?_
  refine a_aload_n dX11_laysWithin_112 rfl rfl ?_
  refine b_getR hK_11 km_0 (i := 62) rfl fl_11_83 rfl rmm_62 dX11_laysWithin_113 ?_
  refine a_iload dX11_laysWithin_116 rfl ?_
  obtain ⟨g1, h⟩ := h_gS h
  refine b_iaload km_25 (h_inV g1) dX11_laysWithin_118 ?_
  refine a_icmp_ge (tgt := 179) dX11_laysWithin_119 (by decide) (fun c => ?_) (fun c => ?_)
  · replace h := h_iteT c h
    refine b_iinc (lv' := [(7, .int (v7 + (1 : Int32))), (0, .ref 0), (1, .int v1), (2, .int v2), (3, .int v3), (4, .long v4), (6, .int v6), (8, .int v8)]) dX11_laysWithin_179 rfl ic_1 (by decide) rfl ?_
    refine a_goto (tgt := 58) dX11_laysWithin_182 (by decide) ?_
    refine a_sub (lv' := [(0, .ref 0), (1, .int v1), (2, .int v2), (3, .int v3), (4, .long v4), (6, .int v6), (7, .int (v7 + (1 : Int32)))]) [1, 2, 3, 4, 5, 6, 0] rfl ?_
    exact hk58 v1 v2 v3 v4 v6 (v7 + (1 : Int32)) I J _ h
  · replace h := h_iteF c h
    refine a_aload_n dX11_laysWithin_122 rfl rfl ?_
    refine a_iload dX11_laysWithin_123 rfl ?_
    refine a_iload dX11_laysWithin_125 rfl ?_
    refine a_iload_n dX11_laysWithin_127 rfl rfl ?_
    refine a_lload dX11_laysWithin_128 rfl ?_
    obtain ⟨q2, cq2, h⟩ := h_bindS h
    refine a_callV1 [] yy_X11_withinOf ml_11_557 km_0 rfl (sM_withinOf _ (by omega) v7 v8 v3 v4 I J q2 cq2) rfl rfl (Nat.le_of_ble_eq_true rfl) dX11_laysWithin_130 ?_
    refine a_lstore (lv' := [(9, .long q2), (0, .ref 0), (1, .int v1), (2, .int v2), (3, .int v3), (4, .long v4), (6, .int v6), (7, .int v7), (8, .int v8)]) dX11_laysWithin_133 (by decide) rfl ?_
    refine a_aload_n dX11_laysWithin_135 rfl rfl ?_
    refine b_getR hK_11 km_0 (i := 82) rfl fl_11_138 rfl rmm_82 dX11_laysWithin_136 ?_
    refine a_iload dX11_laysWithin_139 rfl ?_
    refine a_iload_n dX11_laysWithin_141 rfl rfl ?_
    refine a_if_eq (tgt := 160) dX11_laysWithin_142 (by decide) (fun c => ?_) (fun c => ?_)
    · replace h := h_iteT c h
      refine a_aload_n dX11_laysWithin_160 rfl rfl ?_
      refine b_getR hK_11 km_0 (i := 82) rfl fl_11_138 rfl rmm_82 dX11_laysWithin_161 ?_
      refine a_iload dX11_laysWithin_164 rfl ?_
      obtain ⟨g3, h⟩ := h_gS h
      refine b_laload km_43 (h_inV g3) dX11_laysWithin_166 ?_
      refine a_lload dX11_laysWithin_167 rfl ?_
      refine a_mminL w_mminL ml_11_565 (Nat.le_of_ble_eq_true rfl) dX11_laysWithin_169 ?_
      refine a_sub (lv' := [(0, .ref 0), (1, .int v1), (2, .int v2), (3, .int v3), (4, .long v4), (6, .int v6), (7, .int v7), (8, .int v8)]) [1, 2, 3, 4, 5, 6, 7, 8] rfl ?_
      exact sM_laysWithin_172 (d0 + 1) (by omega) k49 hk49 k58 hk58 k110 hk110 v1 v2 v3 v4 v6 v7 v8 v7 (if q2 < (J 43 v7.toNatClampNeg) then q2 else (J 43 v7.toNatClampNeg)) I J _ h
    · replace h := h_iteF c h
      refine a_aload_n dX11_laysWithin_145 rfl rfl ?_
      refine b_getR hK_11 km_0 (i := 82) rfl fl_11_138 rfl rmm_82 dX11_laysWithin_146 ?_
      refine a_iload dX11_laysWithin_149 rfl ?_
      obtain ⟨g3, h⟩ := h_gS h
      refine b_laload km_43 (h_inV g3) dX11_laysWithin_151 ?_
      refine a_lload dX11_laysWithin_152 rfl ?_
      refine a_mmaxL w_mmaxL ml_11_563 (Nat.le_of_ble_eq_true rfl) dX11_laysWithin_154 ?_
      refine a_goto (tgt := 172) dX11_laysWithin_157 (by decide) ?_
      refine a_sub (lv' := [(0, .ref 0), (1, .int v1), (2, .int v2), (3, .int v3), (4, .long v4), (6, .int v6), (7, .int v7), (8, .int v8)]) [1, 2, 3, 4, 5, 6, 7, 8] rfl ?_
      exact sM_laysWithin_172 (d0 + 1) (by omega) k49 hk49 k58 hk58 k110 hk110 v1 v2 v3 v4 v6 v7 v8 v7 (if q2 < (J 43 v7.toNatClampNeg) then (J 43 v7.toNatClampNeg) else q2) I J _ h
def mM_laysWithin_L110 (k49 : Int32 → Int32 → Int32 → Int64 → Int32 → hI → hJ → Option (hJ)) (k58 : Int32 → Int32 → Int32 → Int64 → Int32 → Int32 → hI → hJ → Option (hJ)) : Nat → Int32 → Int32 → Int32 → Int64 → Int32 → Int32 → Int32 → hI → hJ → Option (hJ)
  | 0 => fun _ _ _ _ _ _ _ _ _ => none
  | n + 1 => mM_laysWithin_B110 k49 k58 (mM_laysWithin_L110 k49 k58 n)
theorem sM_laysWithin_L110 (d : Nat) (hd : 1 + 1 ≤ d) (k49 : Int32 → Int32 → Int32 → Int64 → Int32 → hI → hJ → Option (hJ)) (hk49 : ∀ (v1 : Int32) (v2 : Int32) (v3 : Int32) (v4 : Int64) (v6 : Int32) (I : hI) (J : hJ) (q : hJ), k49 v1 v2 v3 v4 v6 I J = some q → AW hFT cX11_laysWithin 11 none RX11 kdM d [(0, .ref 0), (1, .int v1), (2, .int v2), (3, .int v3), (4, .long v4), (6, .int v6)] 49 [] (I, J, RMm) none (I, q, RMm)) (k58 : Int32 → Int32 → Int32 → Int64 → Int32 → Int32 → hI → hJ → Option (hJ)) (hk58 : ∀ (v1 : Int32) (v2 : Int32) (v3 : Int32) (v4 : Int64) (v6 : Int32) (v7 : Int32) (I : hI) (J : hJ) (q : hJ), k58 v1 v2 v3 v4 v6 v7 I J = some q → AW hFT cX11_laysWithin 11 none RX11 kdM d [(0, .ref 0), (1, .int v1), (2, .int v2), (3, .int v3), (4, .long v4), (6, .int v6), (7, .int v7)] 58 [] (I, J, RMm) none (I, q, RMm)) : ∀ (n : Nat) (v1 : Int32) (v2 : Int32) (v3 : Int32) (v4 : Int64) (v6 : Int32) (v7 : Int32) (v8 : Int32) (I : hI) (J : hJ) (q : hJ) (h : mM_laysWithin_L110 k49 k58 n v1 v2 v3 v4 v6 v7 v8 I J = some q), AW hFT cX11_laysWithin 11 none RX11 kdM d [(0, .ref 0), (1, .int v1), (2, .int v2), (3, .int v3), (4, .long v4), (6, .int v6), (7, .int v7), (8, .int v8)] 110 [] (I, J, RMm) none (I, q, RMm)
  | 0, _, _, _, _, _, _, _, _, _, q, h => by cases h
  | n + 1, v1, v2, v3, v4, v6, v7, v8, I, J, q, h => sM_laysWithin_B110 d hd k49 hk49 k58 hk58 (mM_laysWithin_L110 k49 k58 n) (sM_laysWithin_L110 d hd k49 hk49 k58 hk58 n) v1 v2 v3 v4 v6 v7 v8 I J q h
def mM_laysWithin_106 (k49 : Int32 → Int32 → Int32 → Int64 → Int32 → hI → hJ → Option (hJ)) (k58 : Int32 → Int32 → Int32 → Int64 → Int32 → Int32 → hI → hJ → Option (hJ)) (v1 : Int32) (v2 : Int32) (v3 : Int32) (v4 : Int64) (v6 : Int32) (v7 : Int32) (vs1 : Int32) (vs2 : Int64) (I : hI) (J : hJ) : Option (hJ) :=
  h_g (h_in vs1 10) <|
  h_let (h_u J 43 vs1.toNatClampNeg vs2) fun J2 =>
  mM_laysWithin_L110 k49 k58 hF v1 v2 v3 v4 v6 v7 (1 : Int32) I J2
set_option maxHeartbeats 4000000 in
theorem sM_laysWithin_106 (d : Nat) (hd : 1 + 1 ≤ d) (k49 : Int32 → Int32 → Int32 → Int64 → Int32 → hI → hJ → Option (hJ)) (hk49 : ∀ (v1 : Int32) (v2 : Int32) (v3 : Int32) (v4 : Int64) (v6 : Int32) (I : hI) (J : hJ) (q : hJ), k49 v1 v2 v3 v4 v6 I J = some q → AW hFT cX11_laysWithin 11 none RX11 kdM d [(0, .ref 0), (1, .int v1), (2, .int v2), (3, .int v3), (4, .long v4), (6, .int v6)] 49 [] (I, J, RMm) none (I, q, RMm)) (k58 : Int32 → Int32 → Int32 → Int64 → Int32 → Int32 → hI → hJ → Option (hJ)) (hk58 : ∀ (v1 : Int32) (v2 : Int32) (v3 : Int32) (v4 : Int64) (v6 : Int32) (v7 : Int32) (I : hI) (J : hJ) (q : hJ), k58 v1 v2 v3 v4 v6 v7 I J = some q → AW hFT cX11_laysWithin 11 none RX11 kdM d [(0, .ref 0), (1, .int v1), (2, .int v2), (3, .int v3), (4, .long v4), (6, .int v6), (7, .int v7)] 58 [] (I, J, RMm) none (I, q, RMm)) (v1 : Int32) (v2 : Int32) (v3 : Int32) (v4 : Int64) (v6 : Int32) (v7 : Int32) (vs1 : Int32) (vs2 : Int64) (I : hI) (J : hJ) (q : hJ) (h : mM_laysWithin_106 k49 k58 v1 v2 v3 v4 v6 v7 vs1 vs2 I J = some q) : AW hFT cX11_laysWithin 11 none RX11 kdM d [(0, .ref 0), (1, .int v1), (2, .int v2), (3, .int v3), (4, .long v4), (6, .int v6), (7, .int v7)] 106 [.long vs2, .int vs1, .ref 43] (I, J, RMm) none (I, q, RMm) := by
  obtain ⟨d0, rfl, hd0⟩ := h_mono hd
  unfold mM_laysWithin_106 at h
  obtain ⟨g1, h⟩ := h_gS h
  refine b_lastore km_43 (h_inV g1) dX11_laysWithin_106 ?_
  obtain ⟨J2, eJ2, h⟩ := h_letS h
  refine a_memJ eJ2 ?_
  refine a_iconst dX11_laysWithin_107 ic_1 ?_
  refine a_istore (lv' := [(8, .int (1 : Int32)), (0, .ref 0), (1, .int v1), (2, .int v2), (3, .int v3), (4, .long v4), (6, .int v6), (7, .int v7)]) dX11_laysWithin_108 (by decide) rfl ?_
  refine a_sub (lv' := [(0, .ref 0), (1, .int v1), (2, .int v2), (3, .int v3), (4, .long v4), (6, .int v6), (7, .int v7), (8, .int (1 : Int32))]) [1, 2, 3, 4, 5, 6, 7, 0] rfl ?_
  exact sM_laysWithin_L110 (d0 + 1) (by omega) k49 hk49 k58 hk58 hF v1 v2 v3 v4 v6 v7 (1 : Int32) I J2 _ h
def mM_laysWithin_B58 (k49 : Int32 → Int32 → Int32 → Int64 → Int32 → hI → hJ → Option (hJ)) (k58 : Int32 → Int32 → Int32 → Int64 → Int32 → Int32 → hI → hJ → Option (hJ)) (v1 : Int32) (v2 : Int32) (v3 : Int32) (v4 : Int64) (v6 : Int32) (v7 : Int32) (I : hI) (J : hJ) : Option (hJ) :=
  if (I 0 41) ≤ v7 then
    (h_let (v4 * (4 : Int64)) fun v4x0 =>
    mM_laysWithin_L196 k49 hF v1 v2 v3 v4x0 v6 (0 : Int32) I J)
  else
    ((mM_isInside v7 I).bind fun q1 =>
    if q1 = 0 then
      (h_g (h_in v7 10) <|
      mM_laysWithin_106 k49 k58 v1 v2 v3 v4 v6 v7 v7 ((4 : Int64) * (J 44 v7.toNatClampNeg)) I J)
    else
      ((mM_withinOf v7 (0 : Int32) v3 v4 I J).bind fun q2 =>
      mM_laysWithin_106 k49 k58 v1 v2 v3 v4 v6 v7 v7 q2 I J))
set_option maxHeartbeats 4000000 in
theorem sM_laysWithin_B58 (d : Nat) (hd : 1 + 1 ≤ d) (k49 : Int32 → Int32 → Int32 → Int64 → Int32 → hI → hJ → Option (hJ)) (hk49 : ∀ (v1 : Int32) (v2 : Int32) (v3 : Int32) (v4 : Int64) (v6 : Int32) (I : hI) (J : hJ) (q : hJ), k49 v1 v2 v3 v4 v6 I J = some q → AW hFT cX11_laysWithin 11 none RX11 kdM d [(0, .ref 0), (1, .int v1), (2, .int v2), (3, .int v3), (4, .long v4), (6, .int v6)] 49 [] (I, J, RMm) none (I, q, RMm)) (k58 : Int32 → Int32 → Int32 → Int64 → Int32 → Int32 → hI → hJ → Option (hJ)) (hk58 : ∀ (v1 : Int32) (v2 : Int32) (v3 : Int32) (v4 : Int64) (v6 : Int32) (v7 : Int32) (I : hI) (J : hJ) (q : hJ), k58 v1 v2 v3 v4 v6 v7 I J = some q → AW hFT cX11_laysWithin 11 none RX11 kdM d [(0, .ref 0), (1, .int v1), (2, .int v2), (3, .int v3), (4, .long v4), (6, .int v6), (7, .int v7)] 58 [] (I, J, RMm) none (I, q, RMm)) (v1 : Int32) (v2 : Int32) (v3 : Int32) (v4 : Int64) (v6 : Int32) (v7 : Int32) (I : hI) (J : hJ) (q : hJ) (h : mM_laysWithin_B58 k49 k58 v1 v2 v3 v4 v6 v7 I J = some q) : AW hFT cX11_laysWithin 11 none RX11 kdM d [(0, .ref 0), (1, .int v1), (2, .int v2), (3, .int v3), (4, .long v4), (6, .int v6), (7, .int v7)] 58 [] (I, J, RMm) none (I, q, RMm) := by
  obtain ⟨d0, rfl, hd0⟩ := h_mono hd
  unfold mM_laysWithin_B58 at h
  refine a_iload dX11_laysWithin_58 rfl ?_
  refine a_aload_n dX11_laysWithin_60 rfl rfl ?_
  refine b_getI hK_11 km_0 (i := 41) rfl fl_11_367 rfl dX11_laysWithin_61 ?_
  refine a_icmp_ge (tgt := 185) dX11_laysWithin_64 (by decide) (fun c => ?_) (fun c => ?_)
  · replace h := h_iteT c h
    refine a_lload dX11_laysWithin_185 rfl ?_
    refine a_ldc2_w cn_11_561 dX11_laysWithin_187 ?_
    refine a_lmul dX11_laysWithin_190 ?_
    obtain ⟨v4x0, ev4x0, h⟩ := h_letS h
    refine a_topJ ev4x0 ?_
    refine a_lstore (lv' := [(4, .long v4x0), (0, .ref 0), (1, .int v1), (2, .int v2), (3, .int v3), (6, .int v6), (7, .int v7)]) dX11_laysWithin_191 (by decide) rfl ?_
    refine a_iconst dX11_laysWithin_193 ic_0 ?_
    refine a_istore (lv' := [(7, .int (0 : Int32)), (4, .long v4x0), (0, .ref 0), (1, .int v1), (2, .int v2), (3, .int v3), (6, .int v6)]) dX11_laysWithin_194 (by decide) rfl ?_
    refine a_sub (lv' := [(0, .ref 0), (1, .int v1), (2, .int v2), (3, .int v3), (4, .long v4x0), (6, .int v6), (7, .int (0 : Int32))]) [2, 3, 4, 5, 1, 6, 0] rfl ?_
    exact sM_laysWithin_L196 (d0 + 1) (by omega) k49 hk49 hF v1 v2 v3 v4x0 v6 (0 : Int32) I J _ h
  · replace h := h_iteF c h
    refine a_aload_n dX11_laysWithin_67 rfl rfl ?_
    refine b_getR hK_11 km_0 (i := 82) rfl fl_11_138 rfl rmm_82 dX11_laysWithin_68 ?_
    refine a_iload dX11_laysWithin_71 rfl ?_
    refine a_aload_n dX11_laysWithin_73 rfl rfl ?_
    refine a_iload dX11_laysWithin_74 rfl ?_
    obtain ⟨q1, cq1, h⟩ := h_bindS h
    refine a_callV1 [.int v7, .ref 43] yy_X11_isInside ml_11_463 km_0 rfl (sM_isInside _ (by omega) v7 I J q1 cq1) rfl rfl (Nat.le_of_ble_eq_true rfl) dX11_laysWithin_76 ?_
    refine a_if_eq (tgt := 95) dX11_laysWithin_79 (by decide) (fun c => ?_) (fun c => ?_)
    · replace h := h_iteT c h
      refine a_ldc2_w cn_11_561 dX11_laysWithin_95 ?_
      refine a_aload_n dX11_laysWithin_98 rfl rfl ?_
      refine b_getR hK_11 km_0 (i := 83) rfl fl_11_141 rfl rmm_83 dX11_laysWithin_99 ?_
      refine a_iload dX11_laysWithin_102 rfl ?_
      obtain ⟨g2, h⟩ := h_gS h
      refine b_laload km_44 (h_inV g2) dX11_laysWithin_104 ?_
      refine a_lmul dX11_laysWithin_105 ?_
      exact sM_laysWithin_106 (d0 + 1) (by omega) k49 hk49 k58 hk58 v1 v2 v3 v4 v6 v7 v7 ((4 : Int64) * (J 44 v7.toNatClampNeg)) I J _ h
    · replace h := h_iteF c h
      refine a_aload_n dX11_laysWithin_82 rfl rfl ?_
      refine a_iload dX11_laysWithin_83 rfl ?_
      refine a_iconst dX11_laysWithin_85 ic_0 ?_
      refine a_iload_n dX11_laysWithin_86 rfl rfl ?_
      refine a_lload dX11_laysWithin_87 rfl ?_
      obtain ⟨q2, cq2, h⟩ := h_bindS h
      refine a_callV1 [.int v7, .ref 43] yy_X11_withinOf ml_11_557 km_0 rfl (sM_withinOf _ (by omega) v7 (0 : Int32) v3 v4 I J q2 cq2) rfl rfl (Nat.le_of_ble_eq_true rfl) dX11_laysWithin_89 ?_
      refine a_goto (tgt := 106) dX11_laysWithin_92 (by decide) ?_
      exact sM_laysWithin_106 (d0 + 1) (by omega) k49 hk49 k58 hk58 v1 v2 v3 v4 v6 v7 v7 q2 I J _ h
def mM_laysWithin_L58 (k49 : Int32 → Int32 → Int32 → Int64 → Int32 → hI → hJ → Option (hJ)) : Nat → Int32 → Int32 → Int32 → Int64 → Int32 → Int32 → hI → hJ → Option (hJ)
  | 0 => fun _ _ _ _ _ _ _ _ => none
  | n + 1 => mM_laysWithin_B58 k49 (mM_laysWithin_L58 k49 n)
theorem sM_laysWithin_L58 (d : Nat) (hd : 1 + 1 ≤ d) (k49 : Int32 → Int32 → Int32 → Int64 → Int32 → hI → hJ → Option (hJ)) (hk49 : ∀ (v1 : Int32) (v2 : Int32) (v3 : Int32) (v4 : Int64) (v6 : Int32) (I : hI) (J : hJ) (q : hJ), k49 v1 v2 v3 v4 v6 I J = some q → AW hFT cX11_laysWithin 11 none RX11 kdM d [(0, .ref 0), (1, .int v1), (2, .int v2), (3, .int v3), (4, .long v4), (6, .int v6)] 49 [] (I, J, RMm) none (I, q, RMm)) : ∀ (n : Nat) (v1 : Int32) (v2 : Int32) (v3 : Int32) (v4 : Int64) (v6 : Int32) (v7 : Int32) (I : hI) (J : hJ) (q : hJ) (h : mM_laysWithin_L58 k49 n v1 v2 v3 v4 v6 v7 I J = some q), AW hFT cX11_laysWithin 11 none RX11 kdM d [(0, .ref 0), (1, .int v1), (2, .int v2), (3, .int v3), (4, .long v4), (6, .int v6), (7, .int v7)] 58 [] (I, J, RMm) none (I, q, RMm)
  | 0, _, _, _, _, _, _, _, _, q, h => by cases h
  | n + 1, v1, v2, v3, v4, v6, v7, I, J, q, h => sM_laysWithin_B58 d hd k49 hk49 (mM_laysWithin_L58 k49 n) (sM_laysWithin_L58 d hd k49 hk49 n) v1 v2 v3 v4 v6 v7 I J q h
def mM_laysWithin_B49 (k49 : Int32 → Int32 → Int32 → Int64 → Int32 → hI → hJ → Option (hJ)) (v1 : Int32) (v2 : Int32) (v3 : Int32) (v4 : Int64) (v6 : Int32) (I : hI) (J : hJ) : Option (hJ) :=
  if v1 ≤ v6 then
    some J
  else
    mM_laysWithin_L58 k49 hF v1 v2 v3 v4 v6 (0 : Int32) I J
set_option maxHeartbeats 4000000 in
theorem sM_laysWithin_B49 (d : Nat) (hd : 1 + 1 ≤ d) (k49 : Int32 → Int32 → Int32 → Int64 → Int32 → hI → hJ → Option (hJ)) (hk49 : ∀ (v1 : Int32) (v2 : Int32) (v3 : Int32) (v4 : Int64) (v6 : Int32) (I : hI) (J : hJ) (q : hJ), k49 v1 v2 v3 v4 v6 I J = some q → AW hFT cX11_laysWithin 11 none RX11 kdM d [(0, .ref 0), (1, .int v1), (2, .int v2), (3, .int v3), (4, .long v4), (6, .int v6)] 49 [] (I, J, RMm) none (I, q, RMm)) (v1 : Int32) (v2 : Int32) (v3 : Int32) (v4 : Int64) (v6 : Int32) (I : hI) (J : hJ) (q : hJ) (h : mM_laysWithin_B49 k49 v1 v2 v3 v4 v6 I J = some q) : AW hFT cX11_laysWithin 11 none RX11 kdM d [(0, .ref 0), (1, .int v1), (2, .int v2), (3, .int v3), (4, .long v4), (6, .int v6)] 49 [] (I, J, RMm) none (I, q, RMm) := by
  obtain ⟨d0, rfl, hd0⟩ := h_mono hd
  unfold mM_laysWithin_B49 at h
  refine a_iload dX11_laysWithin_49 rfl ?_
  refine a_iload_n dX11_laysWithin_51 rfl rfl ?_
  refine a_icmp_ge (tgt := 231) dX11_laysWithin_52 (by decide) (fun c => ?_) (fun c => ?_)
  · replace h := h_iteT c h
    cases h
    exact a_vret dX11_laysWithin_231
  · replace h := h_iteF c h
    refine a_iconst dX11_laysWithin_55 ic_0 ?_
    refine a_istore (lv' := [(7, .int (0 : Int32)), (0, .ref 0), (1, .int v1), (2, .int v2), (3, .int v3), (4, .long v4), (6, .int v6)]) dX11_laysWithin_56 (by decide) rfl ?_
    refine a_sub (lv' := [(0, .ref 0), (1, .int v1), (2, .int v2), (3, .int v3), (4, .long v4), (6, .int v6), (7, .int (0 : Int32))]) [1, 2, 3, 4, 5, 6, 0] rfl ?_
    exact sM_laysWithin_L58 (d0 + 1) (by omega) k49 hk49 hF v1 v2 v3 v4 v6 (0 : Int32) I J _ h
def mM_laysWithin_L49  : Nat → Int32 → Int32 → Int32 → Int64 → Int32 → hI → hJ → Option (hJ)
  | 0 => fun _ _ _ _ _ _ _ => none
  | n + 1 => mM_laysWithin_B49 (mM_laysWithin_L49 n)
theorem sM_laysWithin_L49 (d : Nat) (hd : 1 + 1 ≤ d) : ∀ (n : Nat) (v1 : Int32) (v2 : Int32) (v3 : Int32) (v4 : Int64) (v6 : Int32) (I : hI) (J : hJ) (q : hJ) (h : mM_laysWithin_L49 n v1 v2 v3 v4 v6 I J = some q), AW hFT cX11_laysWithin 11 none RX11 kdM d [(0, .ref 0), (1, .int v1), (2, .int v2), (3, .int v3), (4, .long v4), (6, .int v6)] 49 [] (I, J, RMm) none (I, q, RMm)
  | 0, _, _, _, _, _, _, _, q, h => by cases h
  | n + 1, v1, v2, v3, v4, v6, I, J, q, h => sM_laysWithin_B49 d hd (mM_laysWithin_L49 n) (sM_laysWithin_L49 d hd n) v1 v2 v3 v4 v6 I J q h
def mM_laysWithin_36 (k3 : Int32 → Int32 → Int32 → Int32 → hI → hJ → Option (hJ)) (v1 : Int32) (v2 : Int32) (v3 : Int32) (v4 : Int32) (vs1 : Int32) (vs2 : Int64) (I : hI) (J : hJ) : Option (hJ) :=
  h_g (h_in vs1 10) <|
  h_let (h_u J 44 vs1.toNatClampNeg vs2) fun J2 =>
  k3 v1 v2 v3 (v4 + (1 : Int32)) I J2
set_option maxHeartbeats 4000000 in
theorem sM_laysWithin_36 (d : Nat) (hd : 1 + 1 ≤ d) (k3 : Int32 → Int32 → Int32 → Int32 → hI → hJ → Option (hJ)) (hk3 : ∀ (v1 : Int32) (v2 : Int32) (v3 : Int32) (v4 : Int32) (I : hI) (J : hJ) (q : hJ), k3 v1 v2 v3 v4 I J = some q → AW hFT cX11_laysWithin 11 none RX11 kdM d [(0, .ref 0), (1, .int v1), (2, .int v2), (3, .int v3), (4, .int v4)] 3 [] (I, J, RMm) none (I, q, RMm)) (v1 : Int32) (v2 : Int32) (v3 : Int32) (v4 : Int32) (vs1 : Int32) (vs2 : Int64) (I : hI) (J : hJ) (q : hJ) (h : mM_laysWithin_36 k3 v1 v2 v3 v4 vs1 vs2 I J = some q) : AW hFT cX11_laysWithin 11 none RX11 kdM d [(0, .ref 0), (1, .int v1), (2, .int v2), (3, .int v3), (4, .int v4)] 36 [.long vs2, .int vs1, .ref 44] (I, J, RMm) none (I, q, RMm) := by
  obtain ⟨d0, rfl, hd0⟩ := h_mono hd
  unfold mM_laysWithin_36 at h
  obtain ⟨g1, h⟩ := h_gS h
  refine b_lastore km_44 (h_inV g1) dX11_laysWithin_36 ?_
  obtain ⟨J2, eJ2, h⟩ := h_letS h
  refine a_memJ eJ2 ?_
  refine b_iinc (lv' := [(4, .int (v4 + (1 : Int32))), (0, .ref 0), (1, .int v1), (2, .int v2), (3, .int v3)]) dX11_laysWithin_37 rfl ic_1 (by decide) rfl ?_
  refine a_goto (tgt := 3) dX11_laysWithin_40 (by decide) ?_
  refine a_sub (lv' := [(0, .ref 0), (1, .int v1), (2, .int v2), (3, .int v3), (4, .int (v4 + (1 : Int32)))]) [1, 2, 3, 4, 0] rfl ?_
  exact hk3 v1 v2 v3 (v4 + (1 : Int32)) I J2 _ h
def mM_laysWithin_B3 (k3 : Int32 → Int32 → Int32 → Int32 → hI → hJ → Option (hJ)) (v1 : Int32) (v2 : Int32) (v3 : Int32) (v4 : Int32) (I : hI) (J : hJ) : Option (hJ) :=
  if (I 0 41) ≤ v4 then
    mM_laysWithin_L49 hF v1 v2 v3 (1 : Int64) (0 : Int32) I J
  else
    (if v3 = 0 then
      ((mM_isInside v4 I).bind fun q1 =>
      if q1 = 0 then
        mM_laysWithin_36 k3 v1 v2 v3 v4 v4 (1 : Int64) I J
      else
        mM_laysWithin_36 k3 v1 v2 v3 v4 v4 (0 : Int64) I J)
    else
      mM_laysWithin_36 k3 v1 v2 v3 v4 v4 (0 : Int64) I J)
set_option maxHeartbeats 4000000 in
theorem sM_laysWithin_B3 (d : Nat) (hd : 1 + 1 ≤ d) (k3 : Int32 → Int32 → Int32 → Int32 → hI → hJ → Option (hJ)) (hk3 : ∀ (v1 : Int32) (v2 : Int32) (v3 : Int32) (v4 : Int32) (I : hI) (J : hJ) (q : hJ), k3 v1 v2 v3 v4 I J = some q → AW hFT cX11_laysWithin 11 none RX11 kdM d [(0, .ref 0), (1, .int v1), (2, .int v2), (3, .int v3), (4, .int v4)] 3 [] (I, J, RMm) none (I, q, RMm)) (v1 : Int32) (v2 : Int32) (v3 : Int32) (v4 : Int32) (I : hI) (J : hJ) (q : hJ) (h : mM_laysWithin_B3 k3 v1 v2 v3 v4 I J = some q) : AW hFT cX11_laysWithin 11 none RX11 kdM d [(0, .ref 0), (1, .int v1), (2, .int v2), (3, .int v3), (4, .int v4)] 3 [] (I, J, RMm) none (I, q, RMm) := by
  obtain ⟨d0, rfl, hd0⟩ := h_mono hd
  unfold mM_laysWithin_B3 at h
  refine a_iload dX11_laysWithin_3 rfl ?_
  refine a_aload_n dX11_laysWithin_5 rfl rfl ?_
  refine b_getI hK_11 km_0 (i := 41) rfl fl_11_367 rfl dX11_laysWithin_6 ?_
  refine a_icmp_ge (tgt := 43) dX11_laysWithin_9 (by decide) (fun c => ?_) (fun c => ?_)
  · replace h := h_iteT c h
    refine a_lconst dX11_laysWithin_43 lc_1 ?_
    refine a_lstore (lv' := [(4, .long (1 : Int64)), (0, .ref 0), (1, .int v1), (2, .int v2), (3, .int v3)]) dX11_laysWithin_44 (by decide) rfl ?_
    refine a_iconst dX11_laysWithin_46 ic_0 ?_
    refine a_istore (lv' := [(6, .int (0 : Int32)), (4, .long (1 : Int64)), (0, .ref 0), (1, .int v1), (2, .int v2), (3, .int v3)]) dX11_laysWithin_47 (by decide) rfl ?_
    refine a_sub (lv' := [(0, .ref 0), (1, .int v1), (2, .int v2), (3, .int v3), (4, .long (1 : Int64)), (6, .int (0 : Int32))]) [2, 3, 4, 5, 1, 0] rfl ?_
    exact sM_laysWithin_L49 (d0 + 1) (by omega) hF v1 v2 v3 (1 : Int64) (0 : Int32) I J _ h
  · replace h := h_iteF c h
    refine a_aload_n dX11_laysWithin_12 rfl rfl ?_
    refine b_getR hK_11 km_0 (i := 83) rfl fl_11_141 rfl rmm_83 dX11_laysWithin_13 ?_
    refine a_iload dX11_laysWithin_16 rfl ?_
    refine a_iload_n dX11_laysWithin_18 rfl rfl ?_
    refine a_if_ne (tgt := 31) dX11_laysWithin_19 (by decide) (fun c => ?_) (fun c => ?_)
    · replace h := h_iteF c h
      refine a_lconst dX11_laysWithin_31 lc_0 ?_
      refine a_goto (tgt := 36) dX11_laysWithin_32 (by decide) ?_
      exact sM_laysWithin_36 (d0 + 1) (by omega) k3 hk3 v1 v2 v3 v4 v4 (0 : Int64) I J _ h
    · replace h := h_iteT c h
      refine a_aload_n dX11_laysWithin_22 rfl rfl ?_
      refine a_iload dX11_laysWithin_23 rfl ?_
      obtain ⟨q1, cq1, h⟩ := h_bindS h
      refine a_callV1 [.int v4, .ref 44] yy_X11_isInside ml_11_463 km_0 rfl (sM_isInside _ (by omega) v4 I J q1 cq1) rfl rfl (Nat.le_of_ble_eq_true rfl) dX11_laysWithin_25 ?_
      refine a_if_eq (tgt := 35) dX11_laysWithin_28 (by decide) (fun c => ?_) (fun c => ?_)
      · replace h := h_iteT c h
        refine a_lconst dX11_laysWithin_35 lc_1 ?_
        exact sM_laysWithin_36 (d0 + 1) (by omega) k3 hk3 v1 v2 v3 v4 v4 (1 : Int64) I J _ h
      · replace h := h_iteF c h
        refine a_lconst dX11_laysWithin_31 lc_0 ?_
        refine a_goto (tgt := 36) dX11_laysWithin_32 (by decide) ?_
        exact sM_laysWithin_36 (d0 + 1) (by omega) k3 hk3 v1 v2 v3 v4 v4 (0 : Int64) I J _ h
def mM_laysWithin_L3  : Nat → Int32 → Int32 → Int32 → Int32 → hI → hJ → Option (hJ)
  | 0 => fun _ _ _ _ _ _ => none
  | n + 1 => mM_laysWithin_B3 (mM_laysWithin_L3 n)
theorem sM_laysWithin_L3 (d : Nat) (hd : 1 + 1 ≤ d) : ∀ (n : Nat) (v1 : Int32) (v2 : Int32) (v3 : Int32) (v4 : Int32) (I : hI) (J : hJ) (q : hJ) (h : mM_laysWithin_L3 n v1 v2 v3 v4 I J = some q), AW hFT cX11_laysWithin 11 none RX11 kdM d [(0, .ref 0), (1, .int v1), (2, .int v2), (3, .int v3), (4, .int v4)] 3 [] (I, J, RMm) none (I, q, RMm)
  | 0, _, _, _, _, _, _, q, h => by cases h
  | n + 1, v1, v2, v3, v4, I, J, q, h => sM_laysWithin_B3 d hd (mM_laysWithin_L3 n) (sM_laysWithin_L3 d hd n) v1 v2 v3 v4 I J q h
def mM_laysWithin  (v1 : Int32) (v2 : Int32) (v3 : Int32) (I : hI) (J : hJ) : Option (hJ) :=
  mM_laysWithin_L3 hF v1 v2 v3 (0 : Int32) I J
set_option maxHeartbeats 4000000 in
theorem sM_laysWithin (d : Nat) (hd : 1 + 1 ≤ d) (v1 : Int32) (v2 : Int32) (v3 : Int32) (I : hI) (J : hJ) (q : hJ) (h : mM_laysWithin v1 v2 v3 I J = some q) : HMet hFT yX11_laysWithin cX11_laysWithin 11 none kdM d [.ref 0, .int v1, .int v2, .int v3] (I, J, RMm) none (I, q, RMm) := by
  obtain ⟨d0, rfl, hd0⟩ := h_mono hd
  refine HMet.of (by decide) (Nat.le_of_ble_eq_true rfl) ?_
  show AW hFT cX11_laysWithin 11 none RX11 kdM (d0 + 1) [(0, .ref 0), (1, .int v1), (2, .int v2), (3, .int v3)] 0 [] (I, J, RMm) none (I, q, RMm)
  unfold mM_laysWithin at h
  refine a_iconst dX11_laysWithin_0 ic_0 ?_
  refine a_istore (lv' := [(4, .int (0 : Int32)), (0, .ref 0), (1, .int v1), (2, .int v2), (3, .int v3)]) dX11_laysWithin_1 (by decide) rfl ?_
  refine a_sub (lv' := [(0, .ref 0), (1, .int v1), (2, .int v2), (3, .int v3), (4, .int (0 : Int32))]) [1, 2, 3, 4, 0] rfl ?_
  exact sM_laysWithin_L3 (d0 + 1) (by omega) hF v1 v2 v3 (0 : Int32) I J _ h
