/-! CoinLoopsModel.byPlan(I)I -/
theorem dX11_byPlan_0 : decode cX11_byPlan 0 = .ok (.aload_n 0, 1) := by decide +kernel
theorem dX11_byPlan_1 : decode cX11_byPlan 1 = .ok (.iload_n 1, 1) := by decide +kernel
theorem dX11_byPlan_2 : decode cX11_byPlan 2 = .ok (.aload_n 0, 1) := by decide +kernel
theorem dX11_byPlan_3 : decode cX11_byPlan 3 = .ok (.getfield 98, 3) := by decide +kernel
theorem dX11_byPlan_6 : decode cX11_byPlan 6 = .ok (.iload_n 1, 1) := by decide +kernel
theorem dX11_byPlan_7 : decode cX11_byPlan 7 = .ok (.iaload, 1) := by decide +kernel
theorem dX11_byPlan_8 : decode cX11_byPlan 8 = .ok (.invokevirtual 433, 3) := by decide +kernel
theorem dX11_byPlan_11 : decode cX11_byPlan 11 = .ok (.ireturn, 1) := by decide +kernel
def mM_byPlan  (v1 : Int32) (I : hI) : Option (Int32) :=
  h_g (h_in v1 10) <|
  some (mM_choiceAt v1 (I 30 v1.toNatClampNeg))
set_option maxHeartbeats 4000000 in
theorem sM_byPlan (d : Nat) (hd : 0 + 1 ≤ d) (v1 : Int32) (I : hI) (J : hJ) (q : Int32) (h : mM_byPlan v1 I = some q) : HMet hFT yX11_byPlan cX11_byPlan 2 (some .int) kdM d [.ref 0, .int v1] (I, J, RMm) (some (.int q)) (I, J, RMm) := by
  obtain ⟨d0, rfl, hd0⟩ := h_mono hd
  refine HMet.of (by decide) (Nat.le_of_ble_eq_true rfl) ?_
  show AW hFT cX11_byPlan 2 (some .int) RX11 kdM (d0 + 1) [(0, .ref 0), (1, .int v1)] 0 [] (I, J, RMm) (some (.int q)) (I, J, RMm)
  unfold mM_byPlan at h
  refine a_aload_n dX11_byPlan_0 rfl rfl ?_
  refine a_iload_n dX11_byPlan_1 rfl rfl ?_
  refine a_aload_n dX11_byPlan_2 rfl rfl ?_
  refine b_getR hK_11 km_0 (i := 68) rfl fl_11_98 rfl rmm_68 dX11_byPlan_3 ?_
  refine a_iload_n dX11_byPlan_6 rfl rfl ?_
  obtain ⟨g1, h⟩ := h_gS h
  refine b_iaload km_30 (h_inV g1) dX11_byPlan_7 ?_
  refine a_callV1 [] yy_X11_choiceAt ml_11_433 km_0 rfl (sM_choiceAt _ (by omega) v1 (I 30 v1.toNatClampNeg) I J _ rfl) rfl rfl (Nat.le_of_ble_eq_true rfl) dX11_byPlan_8 ?_
  cases h
  exact a_iret dX11_byPlan_11
/-! CoinLoopsModel.isInside(I)Z -/
theorem dX11_isInside_0 : decode cX11_isInside 0 = .ok (.aload_n 0, 1) := by decide +kernel
theorem dX11_isInside_1 : decode cX11_isInside 1 = .ok (.getfield 83, 3) := by decide +kernel
theorem dX11_isInside_4 : decode cX11_isInside 4 = .ok (.iload_n 1, 1) := by decide +kernel
theorem dX11_isInside_5 : decode cX11_isInside 5 = .ok (.iaload, 1) := by decide +kernel
theorem dX11_isInside_6 : decode cX11_isInside 6 = .ok (.ifCond .le 7, 3) := by decide +kernel
theorem dX11_isInside_9 : decode cX11_isInside 9 = .ok (.iconst 1, 1) := by decide +kernel
theorem dX11_isInside_10 : decode cX11_isInside 10 = .ok (.goto 4, 3) := by decide +kernel
theorem dX11_isInside_13 : decode cX11_isInside 13 = .ok (.iconst 0, 1) := by decide +kernel
theorem dX11_isInside_14 : decode cX11_isInside 14 = .ok (.ireturn, 1) := by decide +kernel
def mM_isInside  (v1 : Int32) (I : hI) : Option (Int32) :=
  h_g (h_in v1 10) <|
  if (I 25 v1.toNatClampNeg) ≤ 0 then
    some (0 : Int32)
  else
    some (1 : Int32)
set_option maxHeartbeats 4000000 in
theorem sM_isInside (d : Nat) (hd : 0 ≤ d) (v1 : Int32) (I : hI) (J : hJ) (q : Int32) (h : mM_isInside v1 I = some q) : HMet hFT yX11_isInside cX11_isInside 2 (some .boolean) kdM d [.ref 0, .int v1] (I, J, RMm) (some (.int q)) (I, J, RMm) := by
  refine HMet.of (by decide) (Nat.le_of_ble_eq_true rfl) ?_
  show AW hFT cX11_isInside 2 (some .boolean) RX11 kdM d [(0, .ref 0), (1, .int v1)] 0 [] (I, J, RMm) (some (.int q)) (I, J, RMm)
  unfold mM_isInside at h
  refine a_aload_n dX11_isInside_0 rfl rfl ?_
  refine b_getR hK_11 km_0 (i := 62) rfl fl_11_83 rfl rmm_62 dX11_isInside_1 ?_
  refine a_iload_n dX11_isInside_4 rfl rfl ?_
  obtain ⟨g1, h⟩ := h_gS h
  refine b_iaload km_25 (h_inV g1) dX11_isInside_5 ?_
  refine a_if_le (tgt := 13) dX11_isInside_6 (by decide) (fun c => ?_) (fun c => ?_)
  · replace h := h_iteT c h
    refine a_iconst dX11_isInside_13 ic_0 ?_
    cases h
    exact a_zret (h_Z0.1) dX11_isInside_14
  · replace h := h_iteF c h
    refine a_iconst dX11_isInside_9 ic_1 ?_
    refine a_goto (tgt := 14) dX11_isInside_10 (by decide) ?_
    cases h
    exact a_zret (h_Z1.1) dX11_isInside_14
/-! CoinLoopsModel.toOf(II)I -/
theorem dX11_toOf_0 : decode cX11_toOf 0 = .ok (.aload_n 0, 1) := by decide +kernel
theorem dX11_toOf_1 : decode cX11_toOf 1 = .ok (.getfield 95, 3) := by decide +kernel
theorem dX11_toOf_4 : decode cX11_toOf 4 = .ok (.bipush 10, 2) := by decide +kernel
theorem dX11_toOf_6 : decode cX11_toOf 6 = .ok (.aload_n 0, 1) := by decide +kernel
theorem dX11_toOf_7 : decode cX11_toOf 7 = .ok (.iload_n 1, 1) := by decide +kernel
theorem dX11_toOf_8 : decode cX11_toOf 8 = .ok (.invokevirtual 459, 3) := by decide +kernel
theorem dX11_toOf_11 : decode cX11_toOf 11 = .ok (.imul, 1) := by decide +kernel
theorem dX11_toOf_12 : decode cX11_toOf 12 = .ok (.iload_n 2, 1) := by decide +kernel
theorem dX11_toOf_13 : decode cX11_toOf 13 = .ok (.iadd, 1) := by decide +kernel
theorem dX11_toOf_14 : decode cX11_toOf 14 = .ok (.iaload, 1) := by decide +kernel
theorem dX11_toOf_15 : decode cX11_toOf 15 = .ok (.ireturn, 1) := by decide +kernel
def mM_toOf  (v1 : Int32) (v2 : Int32) (I : hI) : Option (Int32) :=
  (mM_byPlan v1 I).bind fun q1 =>
  h_g (h_in (((10 : Int32) * q1) + v2) 800) <|
  some (I 29 (((10 : Int32) * q1) + v2).toNatClampNeg)
set_option maxHeartbeats 4000000 in
theorem sM_toOf (d : Nat) (hd : 1 + 1 ≤ d) (v1 : Int32) (v2 : Int32) (I : hI) (J : hJ) (q : Int32) (h : mM_toOf v1 v2 I = some q) : HMet hFT yX11_toOf cX11_toOf 3 (some .int) kdM d [.ref 0, .int v1, .int v2] (I, J, RMm) (some (.int q)) (I, J, RMm) := by
  obtain ⟨d0, rfl, hd0⟩ := h_mono hd
  refine HMet.of (by decide) (Nat.le_of_ble_eq_true rfl) ?_
  show AW hFT cX11_toOf 3 (some .int) RX11 kdM (d0 + 1) [(0, .ref 0), (1, .int v1), (2, .int v2)] 0 [] (I, J, RMm) (some (.int q)) (I, J, RMm)
  unfold mM_toOf at h
  refine a_aload_n dX11_toOf_0 rfl rfl ?_
  refine b_getR hK_11 km_0 (i := 66) rfl fl_11_95 rfl rmm_66 dX11_toOf_1 ?_
  refine a_bipush dX11_toOf_4 bp_10 ?_
  refine a_aload_n dX11_toOf_6 rfl rfl ?_
  refine a_iload_n dX11_toOf_7 rfl rfl ?_
  obtain ⟨q1, cq1, h⟩ := h_bindS h
  refine a_callV1 [.int (10 : Int32), .ref 29] yy_X11_byPlan ml_11_459 km_0 rfl (sM_byPlan _ (by omega) v1 I J q1 cq1) rfl rfl (Nat.le_of_ble_eq_true rfl) dX11_toOf_8 ?_
  refine a_imul dX11_toOf_11 ?_
  refine a_iload_n dX11_toOf_12 rfl rfl ?_
  refine a_iadd dX11_toOf_13 ?_
  obtain ⟨g2, h⟩ := h_gS h
  refine b_iaload km_29 (h_inV g2) dX11_toOf_14 ?_
  cases h
  exact a_iret dX11_toOf_15
/-! CoinLoopsModel.laysComing()V -/
theorem dX11_laysComing_0 : decode cX11_laysComing 0 = .ok (.iconst 0, 1) := by decide +kernel
theorem dX11_laysComing_1 : decode cX11_laysComing 1 = .ok (.istore_n 1, 1) := by decide +kernel
theorem dX11_laysComing_2 : decode cX11_laysComing 2 = .ok (.iload_n 1, 1) := by decide +kernel
theorem dX11_laysComing_3 : decode cX11_laysComing 3 = .ok (.aload_n 0, 1) := by decide +kernel
theorem dX11_laysComing_4 : decode cX11_laysComing 4 = .ok (.getfield 367, 3) := by decide +kernel
theorem dX11_laysComing_7 : decode cX11_laysComing 7 = .ok (.if_icmp .ge 71, 3) := by decide +kernel
theorem dX11_laysComing_10 : decode cX11_laysComing 10 = .ok (.iconst 0, 1) := by decide +kernel
theorem dX11_laysComing_11 : decode cX11_laysComing 11 = .ok (.istore_n 2, 1) := by decide +kernel
theorem dX11_laysComing_12 : decode cX11_laysComing 12 = .ok (.iload_n 2, 1) := by decide +kernel
theorem dX11_laysComing_13 : decode cX11_laysComing 13 = .ok (.aload_n 0, 1) := by decide +kernel
theorem dX11_laysComing_14 : decode cX11_laysComing 14 = .ok (.getfield 367, 3) := by decide +kernel
theorem dX11_laysComing_17 : decode cX11_laysComing 17 = .ok (.if_icmp .ge 55, 3) := by decide +kernel
theorem dX11_laysComing_20 : decode cX11_laysComing 20 = .ok (.aload_n 0, 1) := by decide +kernel
theorem dX11_laysComing_21 : decode cX11_laysComing 21 = .ok (.getfield 117, 3) := by decide +kernel
theorem dX11_laysComing_24 : decode cX11_laysComing 24 = .ok (.bipush 10, 2) := by decide +kernel
theorem dX11_laysComing_26 : decode cX11_laysComing 26 = .ok (.iload_n 1, 1) := by decide +kernel
theorem dX11_laysComing_27 : decode cX11_laysComing 27 = .ok (.imul, 1) := by decide +kernel
theorem dX11_laysComing_28 : decode cX11_laysComing 28 = .ok (.iload_n 2, 1) := by decide +kernel
theorem dX11_laysComing_29 : decode cX11_laysComing 29 = .ok (.iadd, 1) := by decide +kernel
theorem dX11_laysComing_30 : decode cX11_laysComing 30 = .ok (.iload_n 1, 1) := by decide +kernel
theorem dX11_laysComing_31 : decode cX11_laysComing 31 = .ok (.iload_n 2, 1) := by decide +kernel
theorem dX11_laysComing_32 : decode cX11_laysComing 32 = .ok (.if_icmp .eq 28, 3) := by decide +kernel
theorem dX11_laysComing_35 : decode cX11_laysComing 35 = .ok (.aload_n 0, 1) := by decide +kernel
theorem dX11_laysComing_36 : decode cX11_laysComing 36 = .ok (.iload_n 1, 1) := by decide +kernel
theorem dX11_laysComing_37 : decode cX11_laysComing 37 = .ok (.invokevirtual 463, 3) := by decide +kernel
theorem dX11_laysComing_40 : decode cX11_laysComing 40 = .ok (.ifCond .eq 24, 3) := by decide +kernel
theorem dX11_laysComing_43 : decode cX11_laysComing 43 = .ok (.aload_n 0, 1) := by decide +kernel
theorem dX11_laysComing_44 : decode cX11_laysComing 44 = .ok (.iload_n 2, 1) := by decide +kernel
theorem dX11_laysComing_45 : decode cX11_laysComing 45 = .ok (.invokevirtual 463, 3) := by decide +kernel
theorem dX11_laysComing_48 : decode cX11_laysComing 48 = .ok (.ifCond .eq 16, 3) := by decide +kernel
theorem dX11_laysComing_51 : decode cX11_laysComing 51 = .ok (.aload_n 0, 1) := by decide +kernel
theorem dX11_laysComing_52 : decode cX11_laysComing 52 = .ok (.iload_n 1, 1) := by decide +kernel
theorem dX11_laysComing_53 : decode cX11_laysComing 53 = .ok (.iload_n 2, 1) := by decide +kernel
theorem dX11_laysComing_54 : decode cX11_laysComing 54 = .ok (.invokevirtual 466, 3) := by decide +kernel
theorem dX11_laysComing_57 : decode cX11_laysComing 57 = .ok (.ifCond .le 7, 3) := by decide +kernel
theorem dX11_laysComing_60 : decode cX11_laysComing 60 = .ok (.iconst 1, 1) := by decide +kernel
theorem dX11_laysComing_61 : decode cX11_laysComing 61 = .ok (.goto 4, 3) := by decide +kernel
theorem dX11_laysComing_64 : decode cX11_laysComing 64 = .ok (.iconst 0, 1) := by decide +kernel
theorem dX11_laysComing_65 : decode cX11_laysComing 65 = .ok (.bastore, 1) := by decide +kernel
theorem dX11_laysComing_66 : decode cX11_laysComing 66 = .ok (.iinc 2 1, 3) := by decide +kernel
theorem dX11_laysComing_69 : decode cX11_laysComing 69 = .ok (.goto (-57), 3) := by decide +kernel
theorem dX11_laysComing_72 : decode cX11_laysComing 72 = .ok (.iinc 1 1, 3) := by decide +kernel
theorem dX11_laysComing_75 : decode cX11_laysComing 75 = .ok (.goto (-73), 3) := by decide +kernel
theorem dX11_laysComing_78 : decode cX11_laysComing 78 = .ok (.iconst 0, 1) := by decide +kernel
theorem dX11_laysComing_79 : decode cX11_laysComing 79 = .ok (.istore_n 1, 1) := by decide +kernel
theorem dX11_laysComing_80 : decode cX11_laysComing 80 = .ok (.iload_n 1, 1) := by decide +kernel
theorem dX11_laysComing_81 : decode cX11_laysComing 81 = .ok (.aload_n 0, 1) := by decide +kernel
theorem dX11_laysComing_82 : decode cX11_laysComing 82 = .ok (.getfield 367, 3) := by decide +kernel
theorem dX11_laysComing_85 : decode cX11_laysComing 85 = .ok (.if_icmp .ge 99, 3) := by decide +kernel
theorem dX11_laysComing_88 : decode cX11_laysComing 88 = .ok (.iconst 0, 1) := by decide +kernel
theorem dX11_laysComing_89 : decode cX11_laysComing 89 = .ok (.istore_n 2, 1) := by decide +kernel
theorem dX11_laysComing_90 : decode cX11_laysComing 90 = .ok (.iload_n 2, 1) := by decide +kernel
theorem dX11_laysComing_91 : decode cX11_laysComing 91 = .ok (.aload_n 0, 1) := by decide +kernel
theorem dX11_laysComing_92 : decode cX11_laysComing 92 = .ok (.getfield 367, 3) := by decide +kernel
theorem dX11_laysComing_95 : decode cX11_laysComing 95 = .ok (.if_icmp .ge 83, 3) := by decide +kernel
theorem dX11_laysComing_98 : decode cX11_laysComing 98 = .ok (.iconst 0, 1) := by decide +kernel
theorem dX11_laysComing_99 : decode cX11_laysComing 99 = .ok (.istore_n 3, 1) := by decide +kernel
theorem dX11_laysComing_100 : decode cX11_laysComing 100 = .ok (.iload_n 3, 1) := by decide +kernel
theorem dX11_laysComing_101 : decode cX11_laysComing 101 = .ok (.aload_n 0, 1) := by decide +kernel
theorem dX11_laysComing_102 : decode cX11_laysComing 102 = .ok (.getfield 367, 3) := by decide +kernel
theorem dX11_laysComing_105 : decode cX11_laysComing 105 = .ok (.if_icmp .ge 67, 3) := by decide +kernel
theorem dX11_laysComing_108 : decode cX11_laysComing 108 = .ok (.aload_n 0, 1) := by decide +kernel
theorem dX11_laysComing_109 : decode cX11_laysComing 109 = .ok (.getfield 117, 3) := by decide +kernel
theorem dX11_laysComing_112 : decode cX11_laysComing 112 = .ok (.bipush 10, 2) := by decide +kernel
theorem dX11_laysComing_114 : decode cX11_laysComing 114 = .ok (.iload_n 2, 1) := by decide +kernel
theorem dX11_laysComing_115 : decode cX11_laysComing 115 = .ok (.imul, 1) := by decide +kernel
theorem dX11_laysComing_116 : decode cX11_laysComing 116 = .ok (.iload_n 3, 1) := by decide +kernel
theorem dX11_laysComing_117 : decode cX11_laysComing 117 = .ok (.iadd, 1) := by decide +kernel
theorem dX11_laysComing_118 : decode cX11_laysComing 118 = .ok (.aload_n 0, 1) := by decide +kernel
theorem dX11_laysComing_119 : decode cX11_laysComing 119 = .ok (.getfield 117, 3) := by decide +kernel
theorem dX11_laysComing_122 : decode cX11_laysComing 122 = .ok (.bipush 10, 2) := by decide +kernel
theorem dX11_laysComing_124 : decode cX11_laysComing 124 = .ok (.iload_n 2, 1) := by decide +kernel
theorem dX11_laysComing_125 : decode cX11_laysComing 125 = .ok (.imul, 1) := by decide +kernel
theorem dX11_laysComing_126 : decode cX11_laysComing 126 = .ok (.iload_n 3, 1) := by decide +kernel
theorem dX11_laysComing_127 : decode cX11_laysComing 127 = .ok (.iadd, 1) := by decide +kernel
theorem dX11_laysComing_128 : decode cX11_laysComing 128 = .ok (.baload, 1) := by decide +kernel
theorem dX11_laysComing_129 : decode cX11_laysComing 129 = .ok (.ifCond .ne 31, 3) := by decide +kernel
theorem dX11_laysComing_132 : decode cX11_laysComing 132 = .ok (.aload_n 0, 1) := by decide +kernel
theorem dX11_laysComing_133 : decode cX11_laysComing 133 = .ok (.getfield 117, 3) := by decide +kernel
theorem dX11_laysComing_136 : decode cX11_laysComing 136 = .ok (.bipush 10, 2) := by decide +kernel
theorem dX11_laysComing_138 : decode cX11_laysComing 138 = .ok (.iload_n 2, 1) := by decide +kernel
theorem dX11_laysComing_139 : decode cX11_laysComing 139 = .ok (.imul, 1) := by decide +kernel
theorem dX11_laysComing_140 : decode cX11_laysComing 140 = .ok (.iload_n 1, 1) := by decide +kernel
theorem dX11_laysComing_141 : decode cX11_laysComing 141 = .ok (.iadd, 1) := by decide +kernel
theorem dX11_laysComing_142 : decode cX11_laysComing 142 = .ok (.baload, 1) := by decide +kernel
theorem dX11_laysComing_143 : decode cX11_laysComing 143 = .ok (.ifCond .eq 21, 3) := by decide +kernel
theorem dX11_laysComing_146 : decode cX11_laysComing 146 = .ok (.aload_n 0, 1) := by decide +kernel
theorem dX11_laysComing_147 : decode cX11_laysComing 147 = .ok (.getfield 117, 3) := by decide +kernel
theorem dX11_laysComing_150 : decode cX11_laysComing 150 = .ok (.bipush 10, 2) := by decide +kernel
theorem dX11_laysComing_152 : decode cX11_laysComing 152 = .ok (.iload_n 1, 1) := by decide +kernel
theorem dX11_laysComing_153 : decode cX11_laysComing 153 = .ok (.imul, 1) := by decide +kernel
theorem dX11_laysComing_154 : decode cX11_laysComing 154 = .ok (.iload_n 3, 1) := by decide +kernel
theorem dX11_laysComing_155 : decode cX11_laysComing 155 = .ok (.iadd, 1) := by decide +kernel
theorem dX11_laysComing_156 : decode cX11_laysComing 156 = .ok (.baload, 1) := by decide +kernel
theorem dX11_laysComing_157 : decode cX11_laysComing 157 = .ok (.ifCond .eq 7, 3) := by decide +kernel
theorem dX11_laysComing_160 : decode cX11_laysComing 160 = .ok (.iconst 1, 1) := by decide +kernel
theorem dX11_laysComing_161 : decode cX11_laysComing 161 = .ok (.goto 4, 3) := by decide +kernel
theorem dX11_laysComing_164 : decode cX11_laysComing 164 = .ok (.iconst 0, 1) := by decide +kernel
theorem dX11_laysComing_165 : decode cX11_laysComing 165 = .ok (.bastore, 1) := by decide +kernel
theorem dX11_laysComing_166 : decode cX11_laysComing 166 = .ok (.iinc 3 1, 3) := by decide +kernel
theorem dX11_laysComing_169 : decode cX11_laysComing 169 = .ok (.goto (-69), 3) := by decide +kernel
theorem dX11_laysComing_172 : decode cX11_laysComing 172 = .ok (.iinc 2 1, 3) := by decide +kernel
theorem dX11_laysComing_175 : decode cX11_laysComing 175 = .ok (.goto (-85), 3) := by decide +kernel
theorem dX11_laysComing_178 : decode cX11_laysComing 178 = .ok (.iinc 1 1, 3) := by decide +kernel
theorem dX11_laysComing_181 : decode cX11_laysComing 181 = .ok (.goto (-101), 3) := by decide +kernel
theorem dX11_laysComing_184 : decode cX11_laysComing 184 = .ok (.return_, 1) := by decide +kernel
def mM_laysComing_165 (k80 : Int32 → hI → Option (hI)) (k90 : Int32 → Int32 → hI → Option (hI)) (k100 : Int32 → Int32 → Int32 → hI → Option (hI)) (v1 : Int32) (v2 : Int32) (v3 : Int32) (vs1 : Int32) (vs2 : Int32) (I : hI) : Option (hI) :=
  h_g (h_in vs1 100) <|
  h_let (h_u I 36 vs1.toNatClampNeg (vp_nar .boolean vs2)) fun I2 =>
  k100 v1 v2 (v3 + (1 : Int32)) I2
set_option maxHeartbeats 4000000 in
theorem sM_laysComing_165 (d : Nat) (hd : 2 + 1 ≤ d) (k80 : Int32 → hI → Option (hI)) (hk80 : ∀ (v1 : Int32) (I : hI) (J : hJ) (q : hI), k80 v1 I = some q → AW hFT cX11_laysComing 4 none RX11 kdM d [(0, .ref 0), (1, .int v1)] 80 [] (I, J, RMm) none (q, J, RMm)) (k90 : Int32 → Int32 → hI → Option (hI)) (hk90 : ∀ (v1 : Int32) (v2 : Int32) (I : hI) (J : hJ) (q : hI), k90 v1 v2 I = some q → AW hFT cX11_laysComing 4 none RX11 kdM d [(0, .ref 0), (1, .int v1), (2, .int v2)] 90 [] (I, J, RMm) none (q, J, RMm)) (k100 : Int32 → Int32 → Int32 → hI → Option (hI)) (hk100 : ∀ (v1 : Int32) (v2 : Int32) (v3 : Int32) (I : hI) (J : hJ) (q : hI), k100 v1 v2 v3 I = some q → AW hFT cX11_laysComing 4 none RX11 kdM d [(0, .ref 0), (1, .int v1), (2, .int v2), (3, .int v3)] 100 [] (I, J, RMm) none (q, J, RMm)) (v1 : Int32) (v2 : Int32) (v3 : Int32) (vs1 : Int32) (vs2 : Int32) (I : hI) (J : hJ) (q : hI) (h : mM_laysComing_165 k80 k90 k100 v1 v2 v3 vs1 vs2 I = some q) : AW hFT cX11_laysComing 4 none RX11 kdM d [(0, .ref 0), (1, .int v1), (2, .int v2), (3, .int v3)] 165 [.int vs2, .int vs1, .ref 36] (I, J, RMm) none (q, J, RMm) := by
  obtain ⟨d0, rfl, hd0⟩ := h_mono hd
  unfold mM_laysComing_165 at h
  obtain ⟨g1, h⟩ := h_gS h
  refine b_zastore km_36 (h_inV g1) dX11_laysComing_165 ?_
  obtain ⟨I2, eI2, h⟩ := h_letS h
  refine a_memI eI2 ?_
  refine b_iinc (lv' := [(3, .int (v3 + (1 : Int32))), (0, .ref 0), (1, .int v1), (2, .int v2)]) dX11_laysComing_166 rfl ic_1 (by decide) rfl ?_
  refine a_goto (tgt := 100) dX11_laysComing_169 (by decide) ?_
  refine a_sub (lv' := [(0, .ref 0), (1, .int v1), (2, .int v2), (3, .int (v3 + (1 : Int32)))]) [1, 2, 3, 0] rfl ?_
  exact hk100 v1 v2 (v3 + (1 : Int32)) I2 J _ h
def mM_laysComing_164 (k80 : Int32 → hI → Option (hI)) (k90 : Int32 → Int32 → hI → Option (hI)) (k100 : Int32 → Int32 → Int32 → hI → Option (hI)) (v1 : Int32) (v2 : Int32) (v3 : Int32) (vs1 : Int32) (I : hI) : Option (hI) :=
  mM_laysComing_165 k80 k90 k100 v1 v2 v3 vs1 (0 : Int32) I
set_option maxHeartbeats 4000000 in
theorem sM_laysComing_164 (d : Nat) (hd : 2 + 1 ≤ d) (k80 : Int32 → hI → Option (hI)) (hk80 : ∀ (v1 : Int32) (I : hI) (J : hJ) (q : hI), k80 v1 I = some q → AW hFT cX11_laysComing 4 none RX11 kdM d [(0, .ref 0), (1, .int v1)] 80 [] (I, J, RMm) none (q, J, RMm)) (k90 : Int32 → Int32 → hI → Option (hI)) (hk90 : ∀ (v1 : Int32) (v2 : Int32) (I : hI) (J : hJ) (q : hI), k90 v1 v2 I = some q → AW hFT cX11_laysComing 4 none RX11 kdM d [(0, .ref 0), (1, .int v1), (2, .int v2)] 90 [] (I, J, RMm) none (q, J, RMm)) (k100 : Int32 → Int32 → Int32 → hI → Option (hI)) (hk100 : ∀ (v1 : Int32) (v2 : Int32) (v3 : Int32) (I : hI) (J : hJ) (q : hI), k100 v1 v2 v3 I = some q → AW hFT cX11_laysComing 4 none RX11 kdM d [(0, .ref 0), (1, .int v1), (2, .int v2), (3, .int v3)] 100 [] (I, J, RMm) none (q, J, RMm)) (v1 : Int32) (v2 : Int32) (v3 : Int32) (vs1 : Int32) (I : hI) (J : hJ) (q : hI) (h : mM_laysComing_164 k80 k90 k100 v1 v2 v3 vs1 I = some q) : AW hFT cX11_laysComing 4 none RX11 kdM d [(0, .ref 0), (1, .int v1), (2, .int v2), (3, .int v3)] 164 [.int vs1, .ref 36] (I, J, RMm) none (q, J, RMm) := by
  obtain ⟨d0, rfl, hd0⟩ := h_mono hd
  unfold mM_laysComing_164 at h
  refine a_iconst dX11_laysComing_164 ic_0 ?_
  exact sM_laysComing_165 (d0 + 1) (by omega) k80 hk80 k90 hk90 k100 hk100 v1 v2 v3 vs1 (0 : Int32) I J _ h
def mM_laysComing_B100 (k80 : Int32 → hI → Option (hI)) (k90 : Int32 → Int32 → hI → Option (hI)) (k100 : Int32 → Int32 → Int32 → hI → Option (hI)) (v1 : Int32) (v2 : Int32) (v3 : Int32) (I : hI) : Option (hI) :=
  if (I 0 41) ≤ v3 then
    k90 v1 (v2 + (1 : Int32)) I
  else
    (h_g (h_in (((10 : Int32) * v2) + v3) 100) <|
    if (I 36 (((10 : Int32) * v2) + v3).toNatClampNeg) = 0 then
      (h_g (h_in (((10 : Int32) * v2) + v1) 100) <|
      if (I 36 (((10 : Int32) * v2) + v1).toNatClampNeg) = 0 then
        mM_laysComing_164 k80 k90 k100 v1 v2 v3 (((10 : Int32) * v2) + v3) I
      else
        (h_g (h_in (((10 : Int32) * v1) + v3) 100) <|
        if (I 36 (((10 : Int32) * v1) + v3).toNatClampNeg) = 0 then
          mM_laysComing_164 k80 k90 k100 v1 v2 v3 (((10 : Int32) * v2) + v3) I
        else
          mM_laysComing_165 k80 k90 k100 v1 v2 v3 (((10 : Int32) * v2) + v3) (1 : Int32) I))
    else
      mM_laysComing_165 k80 k90 k100 v1 v2 v3 (((10 : Int32) * v2) + v3) (1 : Int32) I)
set_option maxHeartbeats 4000000 in
theorem sM_laysComing_B100 (d : Nat) (hd : 2 + 1 ≤ d) (k80 : Int32 → hI → Option (hI)) (hk80 : ∀ (v1 : Int32) (I : hI) (J : hJ) (q : hI), k80 v1 I = some q → AW hFT cX11_laysComing 4 none RX11 kdM d [(0, .ref 0), (1, .int v1)] 80 [] (I, J, RMm) none (q, J, RMm)) (k90 : Int32 → Int32 → hI → Option (hI)) (hk90 : ∀ (v1 : Int32) (v2 : Int32) (I : hI) (J : hJ) (q : hI), k90 v1 v2 I = some q → AW hFT cX11_laysComing 4 none RX11 kdM d [(0, .ref 0), (1, .int v1), (2, .int v2)] 90 [] (I, J, RMm) none (q, J, RMm)) (k100 : Int32 → Int32 → Int32 → hI → Option (hI)) (hk100 : ∀ (v1 : Int32) (v2 : Int32) (v3 : Int32) (I : hI) (J : hJ) (q : hI), k100 v1 v2 v3 I = some q → AW hFT cX11_laysComing 4 none RX11 kdM d [(0, .ref 0), (1, .int v1), (2, .int v2), (3, .int v3)] 100 [] (I, J, RMm) none (q, J, RMm)) (v1 : Int32) (v2 : Int32) (v3 : Int32) (I : hI) (J : hJ) (q : hI) (h : mM_laysComing_B100 k80 k90 k100 v1 v2 v3 I = some q) : AW hFT cX11_laysComing 4 none RX11 kdM d [(0, .ref 0), (1, .int v1), (2, .int v2), (3, .int v3)] 100 [] (I, J, RMm) none (q, J, RMm) := by
  obtain ⟨d0, rfl, hd0⟩ := h_mono hd
  unfold mM_laysComing_B100 at h
  refine a_iload_n dX11_laysComing_100 rfl rfl ?_
  refine a_aload_n dX11_laysComing_101 rfl rfl ?_
  refine b_getI hK_11 km_0 (i := 41) rfl fl_11_367 rfl dX11_laysComing_102 ?_
  refine a_icmp_ge (tgt := 172) dX11_laysComing_105 (by decide) (fun c => ?_) (fun c => ?_)
  · replace h := h_iteT c h
    refine b_iinc (lv' := [(2, .int (v2 + (1 : Int32))), (0, .ref 0), (1, .int v1), (3, .int v3)]) dX11_laysComing_172 rfl ic_1 (by decide) rfl ?_
    refine a_goto (tgt := 90) dX11_laysComing_175 (by decide) ?_
    refine a_sub (lv' := [(0, .ref 0), (1, .int v1), (2, .int (v2 + (1 : Int32)))]) [1, 2, 0] rfl ?_
    exact hk90 v1 (v2 + (1 : Int32)) I J _ h
  · replace h := h_iteF c h
    refine a_aload_n dX11_laysComing_108 rfl rfl ?_
    refine b_getR hK_11 km_0 (i := 74) rfl fl_11_117 rfl rmm_74 dX11_laysComing_109 ?_
    refine a_bipush dX11_laysComing_112 bp_10 ?_
    refine a_iload_n dX11_laysComing_114 rfl rfl ?_
    refine a_imul dX11_laysComing_115 ?_
    refine a_iload_n dX11_laysComing_116 rfl rfl ?_
    refine a_iadd dX11_laysComing_117 ?_
    refine a_aload_n dX11_laysComing_118 rfl rfl ?_
    refine b_getR hK_11 km_0 (i := 74) rfl fl_11_117 rfl rmm_74 dX11_laysComing_119 ?_
    refine a_bipush dX11_laysComing_122 bp_10 ?_
    refine a_iload_n dX11_laysComing_124 rfl rfl ?_
    refine a_imul dX11_laysComing_125 ?_
    refine a_iload_n dX11_laysComing_126 rfl rfl ?_
    refine a_iadd dX11_laysComing_127 ?_
    obtain ⟨g1, h⟩ := h_gS h
    refine b_zaload km_36 (h_inV g1) dX11_laysComing_128 ?_
    refine a_if_ne (tgt := 160) dX11_laysComing_129 (by decide) (fun c => ?_) (fun c => ?_)
    · replace h := h_iteF c h
      refine a_iconst dX11_laysComing_160 ic_1 ?_
      refine a_goto (tgt := 165) dX11_laysComing_161 (by decide) ?_
      exact sM_laysComing_165 (d0 + 1) (by omega) k80 hk80 k90 hk90 k100 hk100 v1 v2 v3 (((10 : Int32) * v2) + v3) (1 : Int32) I J _ h
    · replace h := h_iteT c h
      refine a_aload_n dX11_laysComing_132 rfl rfl ?_
      refine b_getR hK_11 km_0 (i := 74) rfl fl_11_117 rfl rmm_74 dX11_laysComing_133 ?_
      refine a_bipush dX11_laysComing_136 bp_10 ?_
      refine a_iload_n dX11_laysComing_138 rfl rfl ?_
      refine a_imul dX11_laysComing_139 ?_
      refine a_iload_n dX11_laysComing_140 rfl rfl ?_
      refine a_iadd dX11_laysComing_141 ?_
      obtain ⟨g2, h⟩ := h_gS h
      refine b_zaload km_36 (h_inV g2) dX11_laysComing_142 ?_
      refine a_if_eq (tgt := 164) dX11_laysComing_143 (by decide) (fun c => ?_) (fun c => ?_)
      · replace h := h_iteT c h
        exact sM_laysComing_164 (d0 + 1) (by omega) k80 hk80 k90 hk90 k100 hk100 v1 v2 v3 (((10 : Int32) * v2) + v3) I J _ h
      · replace h := h_iteF c h
        refine a_aload_n dX11_laysComing_146 rfl rfl ?_
        refine b_getR hK_11 km_0 (i := 74) rfl fl_11_117 rfl rmm_74 dX11_laysComing_147 ?_
        refine a_bipush dX11_laysComing_150 bp_10 ?_
        refine a_iload_n dX11_laysComing_152 rfl rfl ?_
        refine a_imul dX11_laysComing_153 ?_
        refine a_iload_n dX11_laysComing_154 rfl rfl ?_
        refine a_iadd dX11_laysComing_155 ?_
        obtain ⟨g3, h⟩ := h_gS h
        refine b_zaload km_36 (h_inV g3) dX11_laysComing_156 ?_
        refine a_if_eq (tgt := 164) dX11_laysComing_157 (by decide) (fun c => ?_) (fun c => ?_)
        · replace h := h_iteT c h
          exact sM_laysComing_164 (d0 + 1) (by omega) k80 hk80 k90 hk90 k100 hk100 v1 v2 v3 (((10 : Int32) * v2) + v3) I J _ h
        · replace h := h_iteF c h
          refine a_iconst dX11_laysComing_160 ic_1 ?_
          refine a_goto (tgt := 165) dX11_laysComing_161 (by decide) ?_
          exact sM_laysComing_165 (d0 + 1) (by omega) k80 hk80 k90 hk90 k100 hk100 v1 v2 v3 (((10 : Int32) * v2) + v3) (1 : Int32) I J _ h
def mM_laysComing_L100 (k80 : Int32 → hI → Option (hI)) (k90 : Int32 → Int32 → hI → Option (hI)) : Nat → Int32 → Int32 → Int32 → hI → Option (hI)
  | 0 => fun _ _ _ _ => none
  | n + 1 => mM_laysComing_B100 k80 k90 (mM_laysComing_L100 k80 k90 n)
theorem sM_laysComing_L100 (d : Nat) (hd : 2 + 1 ≤ d) (k80 : Int32 → hI → Option (hI)) (hk80 : ∀ (v1 : Int32) (I : hI) (J : hJ) (q : hI), k80 v1 I = some q → AW hFT cX11_laysComing 4 none RX11 kdM d [(0, .ref 0), (1, .int v1)] 80 [] (I, J, RMm) none (q, J, RMm)) (k90 : Int32 → Int32 → hI → Option (hI)) (hk90 : ∀ (v1 : Int32) (v2 : Int32) (I : hI) (J : hJ) (q : hI), k90 v1 v2 I = some q → AW hFT cX11_laysComing 4 none RX11 kdM d [(0, .ref 0), (1, .int v1), (2, .int v2)] 90 [] (I, J, RMm) none (q, J, RMm)) : ∀ (n : Nat) (v1 : Int32) (v2 : Int32) (v3 : Int32) (I : hI) (J : hJ) (q : hI) (h : mM_laysComing_L100 k80 k90 n v1 v2 v3 I = some q), AW hFT cX11_laysComing 4 none RX11 kdM d [(0, .ref 0), (1, .int v1), (2, .int v2), (3, .int v3)] 100 [] (I, J, RMm) none (q, J, RMm)
  | 0, _, _, _, _, _, q, h => by cases h
  | n + 1, v1, v2, v3, I, J, q, h => sM_laysComing_B100 d hd k80 hk80 k90 hk90 (mM_laysComing_L100 k80 k90 n) (sM_laysComing_L100 d hd k80 hk80 k90 hk90 n) v1 v2 v3 I J q h
def mM_laysComing_B90 (k80 : Int32 → hI → Option (hI)) (k90 : Int32 → Int32 → hI → Option (hI)) (v1 : Int32) (v2 : Int32) (I : hI) : Option (hI) :=
  if (I 0 41) ≤ v2 then
    k80 (v1 + (1 : Int32)) I
  else
    mM_laysComing_L100 k80 k90 hF v1 v2 (0 : Int32) I
set_option maxHeartbeats 4000000 in
theorem sM_laysComing_B90 (d : Nat) (hd : 2 + 1 ≤ d) (k80 : Int32 → hI → Option (hI)) (hk80 : ∀ (v1 : Int32) (I : hI) (J : hJ) (q : hI), k80 v1 I = some q → AW hFT cX11_laysComing 4 none RX11 kdM d [(0, .ref 0), (1, .int v1)] 80 [] (I, J, RMm) none (q, J, RMm)) (k90 : Int32 → Int32 → hI → Option (hI)) (hk90 : ∀ (v1 : Int32) (v2 : Int32) (I : hI) (J : hJ) (q : hI), k90 v1 v2 I = some q → AW hFT cX11_laysComing 4 none RX11 kdM d [(0, .ref 0), (1, .int v1), (2, .int v2)] 90 [] (I, J, RMm) none (q, J, RMm)) (v1 : Int32) (v2 : Int32) (I : hI) (J : hJ) (q : hI) (h : mM_laysComing_B90 k80 k90 v1 v2 I = some q) : AW hFT cX11_laysComing 4 none RX11 kdM d [(0, .ref 0), (1, .int v1), (2, .int v2)] 90 [] (I, J, RMm) none (q, J, RMm) := by
  obtain ⟨d0, rfl, hd0⟩ := h_mono hd
  unfold mM_laysComing_B90 at h
  refine a_iload_n dX11_laysComing_90 rfl rfl ?_
  refine a_aload_n dX11_laysComing_91 rfl rfl ?_
  refine b_getI hK_11 km_0 (i := 41) rfl fl_11_367 rfl dX11_laysComing_92 ?_
  refine a_icmp_ge (tgt := 178) dX11_laysComing_95 (by decide) (fun c => ?_) (fun c => ?_)
  · replace h := h_iteT c h
    refine b_iinc (lv' := [(1, .int (v1 + (1 : Int32))), (0, .ref 0), (2, .int v2)]) dX11_laysComing_178 rfl ic_1 (by decide) rfl ?_
    refine a_goto (tgt := 80) dX11_laysComing_181 (by decide) ?_
    refine a_sub (lv' := [(0, .ref 0), (1, .int (v1 + (1 : Int32)))]) [1, 0] rfl ?_
    exact hk80 (v1 + (1 : Int32)) I J _ h
  · replace h := h_iteF c h
    refine a_iconst dX11_laysComing_98 ic_0 ?_
    refine a_istore_n (lv' := [(3, .int (0 : Int32)), (0, .ref 0), (1, .int v1), (2, .int v2)]) dX11_laysComing_99 rfl (by decide) rfl ?_
    refine a_sub (lv' := [(0, .ref 0), (1, .int v1), (2, .int v2), (3, .int (0 : Int32))]) [1, 2, 3, 0] rfl ?_
    exact sM_laysComing_L100 (d0 + 1) (by omega) k80 hk80 k90 hk90 hF v1 v2 (0 : Int32) I J _ h
def mM_laysComing_L90 (k80 : Int32 → hI → Option (hI)) : Nat → Int32 → Int32 → hI → Option (hI)
  | 0 => fun _ _ _ => none
  | n + 1 => mM_laysComing_B90 k80 (mM_laysComing_L90 k80 n)
theorem sM_laysComing_L90 (d : Nat) (hd : 2 + 1 ≤ d) (k80 : Int32 → hI → Option (hI)) (hk80 : ∀ (v1 : Int32) (I : hI) (J : hJ) (q : hI), k80 v1 I = some q → AW hFT cX11_laysComing 4 none RX11 kdM d [(0, .ref 0), (1, .int v1)] 80 [] (I, J, RMm) none (q, J, RMm)) : ∀ (n : Nat) (v1 : Int32) (v2 : Int32) (I : hI) (J : hJ) (q : hI) (h : mM_laysComing_L90 k80 n v1 v2 I = some q), AW hFT cX11_laysComing 4 none RX11 kdM d [(0, .ref 0), (1, .int v1), (2, .int v2)] 90 [] (I, J, RMm) none (q, J, RMm)
  | 0, _, _, _, _, q, h => by cases h
  | n + 1, v1, v2, I, J, q, h => sM_laysComing_B90 d hd k80 hk80 (mM_laysComing_L90 k80 n) (sM_laysComing_L90 d hd k80 hk80 n) v1 v2 I J q h
def mM_laysComing_B80 (k80 : Int32 → hI → Option (hI)) (v1 : Int32) (I : hI) : Option (hI) :=
  if (I 0 41) ≤ v1 then
    some I
  else
    mM_laysComing_L90 k80 hF v1 (0 : Int32) I
set_option maxHeartbeats 4000000 in
theorem sM_laysComing_B80 (d : Nat) (hd : 2 + 1 ≤ d) (k80 : Int32 → hI → Option (hI)) (hk80 : ∀ (v1 : Int32) (I : hI) (J : hJ) (q : hI), k80 v1 I = some q → AW hFT cX11_laysComing 4 none RX11 kdM d [(0, .ref 0), (1, .int v1)] 80 [] (I, J, RMm) none (q, J, RMm)) (v1 : Int32) (I : hI) (J : hJ) (q : hI) (h : mM_laysComing_B80 k80 v1 I = some q) : AW hFT cX11_laysComing 4 none RX11 kdM d [(0, .ref 0), (1, .int v1)] 80 [] (I, J, RMm) none (q, J, RMm) := by
  obtain ⟨d0, rfl, hd0⟩ := h_mono hd
  unfold mM_laysComing_B80 at h
  refine a_iload_n dX11_laysComing_80 rfl rfl ?_
  refine a_aload_n dX11_laysComing_81 rfl rfl ?_
  refine b_getI hK_11 km_0 (i := 41) rfl fl_11_367 rfl dX11_laysComing_82 ?_
  refine a_icmp_ge (tgt := 184) dX11_laysComing_85 (by decide) (fun c => ?_) (fun c => ?_)
  · replace h := h_iteT c h
    cases h
    exact a_vret dX11_laysComing_184
  · replace h := h_iteF c h
    refine a_iconst dX11_laysComing_88 ic_0 ?_
    refine a_istore_n (lv' := [(2, .int (0 : Int32)), (0, .ref 0), (1, .int v1)]) dX11_laysComing_89 rfl (by decide) rfl ?_
    refine a_sub (lv' := [(0, .ref 0), (1, .int v1), (2, .int (0 : Int32))]) [1, 2, 0] rfl ?_
    exact sM_laysComing_L90 (d0 + 1) (by omega) k80 hk80 hF v1 (0 : Int32) I J _ h
def mM_laysComing_L80  : Nat → Int32 → hI → Option (hI)
  | 0 => fun _ _ => none
  | n + 1 => mM_laysComing_B80 (mM_laysComing_L80 n)
theorem sM_laysComing_L80 (d : Nat) (hd : 2 + 1 ≤ d) : ∀ (n : Nat) (v1 : Int32) (I : hI) (J : hJ) (q : hI) (h : mM_laysComing_L80 n v1 I = some q), AW hFT cX11_laysComing 4 none RX11 kdM d [(0, .ref 0), (1, .int v1)] 80 [] (I, J, RMm) none (q, J, RMm)
  | 0, _, _, _, q, h => by cases h
  | n + 1, v1, I, J, q, h => sM_laysComing_B80 d hd (mM_laysComing_L80 n) (sM_laysComing_L80 d hd n) v1 I J q h
def mM_laysComing_65 (k2 : Int32 → hI → Option (hI)) (k12 : Int32 → Int32 → hI → Option (hI)) (v1 : Int32) (v2 : Int32) (vs1 : Int32) (vs2 : Int32) (I : hI) : Option (hI) :=
  h_g (h_in vs1 100) <|
  h_let (h_u I 36 vs1.toNatClampNeg (vp_nar .boolean vs2)) fun I2 =>
  k12 v1 (v2 + (1 : Int32)) I2
set_option maxHeartbeats 4000000 in
theorem sM_laysComing_65 (d : Nat) (hd : 2 + 1 ≤ d) (k2 : Int32 → hI → Option (hI)) (hk2 : ∀ (v1 : Int32) (I : hI) (J : hJ) (q : hI), k2 v1 I = some q → AW hFT cX11_laysComing 4 none RX11 kdM d [(0, .ref 0), (1, .int v1)] 2 [] (I, J, RMm) none (q, J, RMm)) (k12 : Int32 → Int32 → hI → Option (hI)) (hk12 : ∀ (v1 : Int32) (v2 : Int32) (I : hI) (J : hJ) (q : hI), k12 v1 v2 I = some q → AW hFT cX11_laysComing 4 none RX11 kdM d [(0, .ref 0), (1, .int v1), (2, .int v2)] 12 [] (I, J, RMm) none (q, J, RMm)) (v1 : Int32) (v2 : Int32) (vs1 : Int32) (vs2 : Int32) (I : hI) (J : hJ) (q : hI) (h : mM_laysComing_65 k2 k12 v1 v2 vs1 vs2 I = some q) : AW hFT cX11_laysComing 4 none RX11 kdM d [(0, .ref 0), (1, .int v1), (2, .int v2)] 65 [.int vs2, .int vs1, .ref 36] (I, J, RMm) none (q, J, RMm) := by
  obtain ⟨d0, rfl, hd0⟩ := h_mono hd
  unfold mM_laysComing_65 at h
  obtain ⟨g1, h⟩ := h_gS h
  refine b_zastore km_36 (h_inV g1) dX11_laysComing_65 ?_
  obtain ⟨I2, eI2, h⟩ := h_letS h
  refine a_memI eI2 ?_
  refine b_iinc (lv' := [(2, .int (v2 + (1 : Int32))), (0, .ref 0), (1, .int v1)]) dX11_laysComing_66 rfl ic_1 (by decide) rfl ?_
  refine a_goto (tgt := 12) dX11_laysComing_69 (by decide) ?_
  refine a_sub (lv' := [(0, .ref 0), (1, .int v1), (2, .int (v2 + (1 : Int32)))]) [1, 2, 0] rfl ?_
  exact hk12 v1 (v2 + (1 : Int32)) I2 J _ h
def mM_laysComing_64 (k2 : Int32 → hI → Option (hI)) (k12 : Int32 → Int32 → hI → Option (hI)) (v1 : Int32) (v2 : Int32) (vs1 : Int32) (I : hI) : Option (hI) :=
  mM_laysComing_65 k2 k12 v1 v2 vs1 (0 : Int32) I
set_option maxHeartbeats 4000000 in
theorem sM_laysComing_64 (d : Nat) (hd : 2 + 1 ≤ d) (k2 : Int32 → hI → Option (hI)) (hk2 : ∀ (v1 : Int32) (I : hI) (J : hJ) (q : hI), k2 v1 I = some q → AW hFT cX11_laysComing 4 none RX11 kdM d [(0, .ref 0), (1, .int v1)] 2 [] (I, J, RMm) none (q, J, RMm)) (k12 : Int32 → Int32 → hI → Option (hI)) (hk12 : ∀ (v1 : Int32) (v2 : Int32) (I : hI) (J : hJ) (q : hI), k12 v1 v2 I = some q → AW hFT cX11_laysComing 4 none RX11 kdM d [(0, .ref 0), (1, .int v1), (2, .int v2)] 12 [] (I, J, RMm) none (q, J, RMm)) (v1 : Int32) (v2 : Int32) (vs1 : Int32) (I : hI) (J : hJ) (q : hI) (h : mM_laysComing_64 k2 k12 v1 v2 vs1 I = some q) : AW hFT cX11_laysComing 4 none RX11 kdM d [(0, .ref 0), (1, .int v1), (2, .int v2)] 64 [.int vs1, .ref 36] (I, J, RMm) none (q, J, RMm) := by
  obtain ⟨d0, rfl, hd0⟩ := h_mono hd
  unfold mM_laysComing_64 at h
  refine a_iconst dX11_laysComing_64 ic_0 ?_
  exact sM_laysComing_65 (d0 + 1) (by omega) k2 hk2 k12 hk12 v1 v2 vs1 (0 : Int32) I J _ h
def mM_laysComing_B12 (k2 : Int32 → hI → Option (hI)) (k12 : Int32 → Int32 → hI → Option (hI)) (v1 : Int32) (v2 : Int32) (I : hI) : Option (hI) :=
  if (I 0 41) ≤ v2 then
    k2 (v1 + (1 : Int32)) I
  else
    (if v1 = v2 then
      mM_laysComing_65 k2 k12 v1 v2 (((10 : Int32) * v1) + v2) (1 : Int32) I
    else
      ((mM_isInside v1 I).bind fun q1 =>
      if q1 = 0 then
        mM_laysComing_64 k2 k12 v1 v2 (((10 : Int32) * v1) + v2) I
      else
        ((mM_isInside v2 I).bind fun q2 =>
        if q2 = 0 then
          mM_laysComing_64 k2 k12 v1 v2 (((10 : Int32) * v1) + v2) I
        else
          ((mM_toOf v1 v2 I).bind fun q3 =>
          if q3 ≤ 0 then
            mM_laysComing_64 k2 k12 v1 v2 (((10 : Int32) * v1) + v2) I
          else
            mM_laysComing_65 k2 k12 v1 v2 (((10 : Int32) * v1) + v2) (1 : Int32) I))))
set_option maxHeartbeats 4000000 in
theorem sM_laysComing_B12 (d : Nat) (hd : 2 + 1 ≤ d) (k2 : Int32 → hI → Option (hI)) (hk2 : ∀ (v1 : Int32) (I : hI) (J : hJ) (q : hI), k2 v1 I = some q → AW hFT cX11_laysComing 4 none RX11 kdM d [(0, .ref 0), (1, .int v1)] 2 [] (I, J, RMm) none (q, J, RMm)) (k12 : Int32 → Int32 → hI → Option (hI)) (hk12 : ∀ (v1 : Int32) (v2 : Int32) (I : hI) (J : hJ) (q : hI), k12 v1 v2 I = some q → AW hFT cX11_laysComing 4 none RX11 kdM d [(0, .ref 0), (1, .int v1), (2, .int v2)] 12 [] (I, J, RMm) none (q, J, RMm)) (v1 : Int32) (v2 : Int32) (I : hI) (J : hJ) (q : hI) (h : mM_laysComing_B12 k2 k12 v1 v2 I = some q) : AW hFT cX11_laysComing 4 none RX11 kdM d [(0, .ref 0), (1, .int v1), (2, .int v2)] 12 [] (I, J, RMm) none (q, J, RMm) := by
  obtain ⟨d0, rfl, hd0⟩ := h_mono hd
  unfold mM_laysComing_B12 at h
  refine a_iload_n dX11_laysComing_12 rfl rfl ?_
  refine a_aload_n dX11_laysComing_13 rfl rfl ?_
  refine b_getI hK_11 km_0 (i := 41) rfl fl_11_367 rfl dX11_laysComing_14 ?_
  refine a_icmp_ge (tgt := 72) dX11_laysComing_17 (by decide) (fun c => ?_) (fun c => ?_)
  · replace h := h_iteT c h
    refine b_iinc (lv' := [(1, .int (v1 + (1 : Int32))), (0, .ref 0), (2, .int v2)]) dX11_laysComing_72 rfl ic_1 (by decide) rfl ?_
    refine a_goto (tgt := 2) dX11_laysComing_75 (by decide) ?_
    refine a_sub (lv' := [(0, .ref 0), (1, .int (v1 + (1 : Int32)))]) [1, 0] rfl ?_
    exact hk2 (v1 + (1 : Int32)) I J _ h
  · replace h := h_iteF c h
    refine a_aload_n dX11_laysComing_20 rfl rfl ?_
    refine b_getR hK_11 km_0 (i := 74) rfl fl_11_117 rfl rmm_74 dX11_laysComing_21 ?_
    refine a_bipush dX11_laysComing_24 bp_10 ?_
    refine a_iload_n dX11_laysComing_26 rfl rfl ?_
    refine a_imul dX11_laysComing_27 ?_
    refine a_iload_n dX11_laysComing_28 rfl rfl ?_
    refine a_iadd dX11_laysComing_29 ?_
    refine a_iload_n dX11_laysComing_30 rfl rfl ?_
    refine a_iload_n dX11_laysComing_31 rfl rfl ?_
    refine a_icmp_eq (tgt := 60) dX11_laysComing_32 (by decide) (fun c => ?_) (fun c => ?_)
    · replace h := h_iteT c h
      refine a_iconst dX11_laysComing_60 ic_1 ?_
      refine a_goto (tgt := 65) dX11_laysComing_61 (by decide) ?_
      exact sM_laysComing_65 (d0 + 1) (by omega) k2 hk2 k12 hk12 v1 v2 (((10 : Int32) * v1) + v2) (1 : Int32) I J _ h
    · replace h := h_iteF c h
      refine a_aload_n dX11_laysComing_35 rfl rfl ?_
      refine a_iload_n dX11_laysComing_36 rfl rfl ?_
      obtain ⟨q1, cq1, h⟩ := h_bindS h
      refine a_callV1 [.int (((10 : Int32) * v1) + v2), .ref 36] yy_X11_isInside ml_11_463 km_0 rfl (sM_isInside _ (by omega) v1 I J q1 cq1) rfl rfl (Nat.le_of_ble_eq_true rfl) dX11_laysComing_37 ?_
      refine a_if_eq (tgt := 64) dX11_laysComing_40 (by decide) (fun c => ?_) (fun c => ?_)
      · replace h := h_iteT c h
        exact sM_laysComing_64 (d0 + 1) (by omega) k2 hk2 k12 hk12 v1 v2 (((10 : Int32) * v1) + v2) I J _ h
      · replace h := h_iteF c h
        refine a_aload_n dX11_laysComing_43 rfl rfl ?_
        refine a_iload_n dX11_laysComing_44 rfl rfl ?_
        obtain ⟨q2, cq2, h⟩ := h_bindS h
        refine a_callV1 [.int (((10 : Int32) * v1) + v2), .ref 36] yy_X11_isInside ml_11_463 km_0 rfl (sM_isInside _ (by omega) v2 I J q2 cq2) rfl rfl (Nat.le_of_ble_eq_true rfl) dX11_laysComing_45 ?_
        refine a_if_eq (tgt := 64) dX11_laysComing_48 (by decide) (fun c => ?_) (fun c => ?_)
        · replace h := h_iteT c h
          exact sM_laysComing_64 (d0 + 1) (by omega) k2 hk2 k12 hk12 v1 v2 (((10 : Int32) * v1) + v2) I J _ h
        · replace h := h_iteF c h
          refine a_aload_n dX11_laysComing_51 rfl rfl ?_
          refine a_iload_n dX11_laysComing_52 rfl rfl ?_
          refine a_iload_n dX11_laysComing_53 rfl rfl ?_
          obtain ⟨q3, cq3, h⟩ := h_bindS h
          refine a_callV1 [.int (((10 : Int32) * v1) + v2), .ref 36] yy_X11_toOf ml_11_466 km_0 rfl (sM_toOf _ (by omega) v1 v2 I J q3 cq3) rfl rfl (Nat.le_of_ble_eq_true rfl) dX11_laysComing_54 ?_
          refine a_if_le (tgt := 64) dX11_laysComing_57 (by decide) (fun c => ?_) (fun c => ?_)
          · replace h := h_iteT c h
            exact sM_laysComing_64 (d0 + 1) (by omega) k2 hk2 k12 hk12 v1 v2 (((10 : Int32) * v1) + v2) I J _ h
          · replace h := h_iteF c h
            refine a_iconst dX11_laysComing_60 ic_1 ?_
            refine a_goto (tgt := 65) dX11_laysComing_61 (by decide) ?_
            exact sM_laysComing_65 (d0 + 1) (by omega) k2 hk2 k12 hk12 v1 v2 (((10 : Int32) * v1) + v2) (1 : Int32) I J _ h
def mM_laysComing_L12 (k2 : Int32 → hI → Option (hI)) : Nat → Int32 → Int32 → hI → Option (hI)
  | 0 => fun _ _ _ => none
  | n + 1 => mM_laysComing_B12 k2 (mM_laysComing_L12 k2 n)
theorem sM_laysComing_L12 (d : Nat) (hd : 2 + 1 ≤ d) (k2 : Int32 → hI → Option (hI)) (hk2 : ∀ (v1 : Int32) (I : hI) (J : hJ) (q : hI), k2 v1 I = some q → AW hFT cX11_laysComing 4 none RX11 kdM d [(0, .ref 0), (1, .int v1)] 2 [] (I, J, RMm) none (q, J, RMm)) : ∀ (n : Nat) (v1 : Int32) (v2 : Int32) (I : hI) (J : hJ) (q : hI) (h : mM_laysComing_L12 k2 n v1 v2 I = some q), AW hFT cX11_laysComing 4 none RX11 kdM d [(0, .ref 0), (1, .int v1), (2, .int v2)] 12 [] (I, J, RMm) none (q, J, RMm)
  | 0, _, _, _, _, q, h => by cases h
  | n + 1, v1, v2, I, J, q, h => sM_laysComing_B12 d hd k2 hk2 (mM_laysComing_L12 k2 n) (sM_laysComing_L12 d hd k2 hk2 n) v1 v2 I J q h
def mM_laysComing_B2 (k2 : Int32 → hI → Option (hI)) (v1 : Int32) (I : hI) : Option (hI) :=
  if (I 0 41) ≤ v1 then
    mM_laysComing_L80 hF (0 : Int32) I
  else
    mM_laysComing_L12 k2 hF v1 (0 : Int32) I
set_option maxHeartbeats 4000000 in
theorem sM_laysComing_B2 (d : Nat) (hd : 2 + 1 ≤ d) (k2 : Int32 → hI → Option (hI)) (hk2 : ∀ (v1 : Int32) (I : hI) (J : hJ) (q : hI), k2 v1 I = some q → AW hFT cX11_laysComing 4 none RX11 kdM d [(0, .ref 0), (1, .int v1)] 2 [] (I, J, RMm) none (q, J, RMm)) (v1 : Int32) (I : hI) (J : hJ) (q : hI) (h : mM_laysComing_B2 k2 v1 I = some q) : AW hFT cX11_laysComing 4 none RX11 kdM d [(0, .ref 0), (1, .int v1)] 2 [] (I, J, RMm) none (q, J, RMm) := by
  obtain ⟨d0, rfl, hd0⟩ := h_mono hd
  unfold mM_laysComing_B2 at h
  refine a_iload_n dX11_laysComing_2 rfl rfl ?_
  refine a_aload_n dX11_laysComing_3 rfl rfl ?_
  refine b_getI hK_11 km_0 (i := 41) rfl fl_11_367 rfl dX11_laysComing_4 ?_
  refine a_icmp_ge (tgt := 78) dX11_laysComing_7 (by decide) (fun c => ?_) (fun c => ?_)
  · replace h := h_iteT c h
    refine a_iconst dX11_laysComing_78 ic_0 ?_
    refine a_istore_n (lv' := [(1, .int (0 : Int32)), (0, .ref 0)]) dX11_laysComing_79 rfl (by decide) rfl ?_
    refine a_sub (lv' := [(0, .ref 0), (1, .int (0 : Int32))]) [1, 0] rfl ?_
    exact sM_laysComing_L80 (d0 + 1) (by omega) hF (0 : Int32) I J _ h
  · replace h := h_iteF c h
    refine a_iconst dX11_laysComing_10 ic_0 ?_
    refine a_istore_n (lv' := [(2, .int (0 : Int32)), (0, .ref 0), (1, .int v1)]) dX11_laysComing_11 rfl (by decide) rfl ?_
    refine a_sub (lv' := [(0, .ref 0), (1, .int v1), (2, .int (0 : Int32))]) [1, 2, 0] rfl ?_
    exact sM_laysComing_L12 (d0 + 1) (by omega) k2 hk2 hF v1 (0 : Int32) I J _ h
def mM_laysComing_L2  : Nat → Int32 → hI → Option (hI)
  | 0 => fun _ _ => none
  | n + 1 => mM_laysComing_B2 (mM_laysComing_L2 n)
theorem sM_laysComing_L2 (d : Nat) (hd : 2 + 1 ≤ d) : ∀ (n : Nat) (v1 : Int32) (I : hI) (J : hJ) (q : hI) (h : mM_laysComing_L2 n v1 I = some q), AW hFT cX11_laysComing 4 none RX11 kdM d [(0, .ref 0), (1, .int v1)] 2 [] (I, J, RMm) none (q, J, RMm)
  | 0, _, _, _, q, h => by cases h
  | n + 1, v1, I, J, q, h => sM_laysComing_B2 d hd (mM_laysComing_L2 n) (sM_laysComing_L2 d hd n) v1 I J q h
def mM_laysComing   (I : hI) : Option (hI) :=
  mM_laysComing_L2 hF (0 : Int32) I
set_option maxHeartbeats 4000000 in
theorem sM_laysComing (d : Nat) (hd : 2 + 1 ≤ d)  (I : hI) (J : hJ) (q : hI) (h : mM_laysComing I = some q) : HMet hFT yX11_laysComing cX11_laysComing 4 none kdM d [.ref 0] (I, J, RMm) none (q, J, RMm) := by
  obtain ⟨d0, rfl, hd0⟩ := h_mono hd
  refine HMet.of (by decide) (Nat.le_of_ble_eq_true rfl) ?_
  show AW hFT cX11_laysComing 4 none RX11 kdM (d0 + 1) [(0, .ref 0)] 0 [] (I, J, RMm) none (q, J, RMm)
  unfold mM_laysComing at h
  refine a_iconst dX11_laysComing_0 ic_0 ?_
  refine a_istore_n (lv' := [(1, .int (0 : Int32)), (0, .ref 0)]) dX11_laysComing_1 rfl (by decide) rfl ?_
  refine a_sub (lv' := [(0, .ref 0), (1, .int (0 : Int32))]) [1, 0] rfl ?_
  exact sM_laysComing_L2 (d0 + 1) (by omega) hF (0 : Int32) I J _ h
/-! CoinLoopsModel.endedOf(I)I -/
theorem dX11_endedOf_0 : decode cX11_endedOf 0 = .ok (.aload_n 0, 1) := by decide +kernel
theorem dX11_endedOf_1 : decode cX11_endedOf 1 = .ok (.getfield 92, 3) := by decide +kernel
theorem dX11_endedOf_4 : decode cX11_endedOf 4 = .ok (.aload_n 0, 1) := by decide +kernel
theorem dX11_endedOf_5 : decode cX11_endedOf 5 = .ok (.iload_n 1, 1) := by decide +kernel
theorem dX11_endedOf_6 : decode cX11_endedOf 6 = .ok (.invokevirtual 459, 3) := by decide +kernel
theorem dX11_endedOf_9 : decode cX11_endedOf 9 = .ok (.iaload, 1) := by decide +kernel
theorem dX11_endedOf_10 : decode cX11_endedOf 10 = .ok (.istore_n 2, 1) := by decide +kernel
theorem dX11_endedOf_11 : decode cX11_endedOf 11 = .ok (.iconst 0, 1) := by decide +kernel
theorem dX11_endedOf_12 : decode cX11_endedOf 12 = .ok (.istore_n 3, 1) := by decide +kernel
theorem dX11_endedOf_13 : decode cX11_endedOf 13 = .ok (.iload_n 3, 1) := by decide +kernel
theorem dX11_endedOf_14 : decode cX11_endedOf 14 = .ok (.aload_n 0, 1) := by decide +kernel
theorem dX11_endedOf_15 : decode cX11_endedOf 15 = .ok (.getfield 367, 3) := by decide +kernel
theorem dX11_endedOf_18 : decode cX11_endedOf 18 = .ok (.if_icmp .ge 30, 3) := by decide +kernel
theorem dX11_endedOf_21 : decode cX11_endedOf 21 = .ok (.iload_n 2, 1) := by decide +kernel
theorem dX11_endedOf_22 : decode cX11_endedOf 22 = .ok (.aload_n 0, 1) := by decide +kernel
theorem dX11_endedOf_23 : decode cX11_endedOf 23 = .ok (.iload_n 3, 1) := by decide +kernel
theorem dX11_endedOf_24 : decode cX11_endedOf 24 = .ok (.invokevirtual 463, 3) := by decide +kernel
theorem dX11_endedOf_27 : decode cX11_endedOf 27 = .ok (.ifCond .eq 7, 3) := by decide +kernel
theorem dX11_endedOf_30 : decode cX11_endedOf 30 = .ok (.iconst 0, 1) := by decide +kernel
theorem dX11_endedOf_31 : decode cX11_endedOf 31 = .ok (.goto 9, 3) := by decide +kernel
theorem dX11_endedOf_34 : decode cX11_endedOf 34 = .ok (.aload_n 0, 1) := by decide +kernel
theorem dX11_endedOf_35 : decode cX11_endedOf 35 = .ok (.iload_n 1, 1) := by decide +kernel
theorem dX11_endedOf_36 : decode cX11_endedOf 36 = .ok (.iload_n 3, 1) := by decide +kernel
theorem dX11_endedOf_37 : decode cX11_endedOf 37 = .ok (.invokevirtual 466, 3) := by decide +kernel
theorem dX11_endedOf_40 : decode cX11_endedOf 40 = .ok (.iadd, 1) := by decide +kernel
theorem dX11_endedOf_41 : decode cX11_endedOf 41 = .ok (.istore_n 2, 1) := by decide +kernel
theorem dX11_endedOf_42 : decode cX11_endedOf 42 = .ok (.iinc 3 1, 3) := by decide +kernel
theorem dX11_endedOf_45 : decode cX11_endedOf 45 = .ok (.goto (-32), 3) := by decide +kernel
theorem dX11_endedOf_48 : decode cX11_endedOf 48 = .ok (.iload_n 2, 1) := by decide +kernel
theorem dX11_endedOf_49 : decode cX11_endedOf 49 = .ok (.ireturn, 1) := by decide +kernel
def mM_endedOf_B13 (k13 : Int32 → Int32 → Int32 → hI → Option (Int32)) (v1 : Int32) (v2 : Int32) (v3 : Int32) (I : hI) : Option (Int32) :=
  if (I 0 41) ≤ v3 then
    some v2
  else
    ((mM_isInside v3 I).bind fun q1 =>
    if q1 = 0 then
      ((mM_toOf v1 v3 I).bind fun q2 =>
      h_let (v2 + q2) fun v2x2 =>
      k13 v1 v2x2 (v3 + (1 : Int32)) I)
    else
      (h_let (v2 + (0 : Int32)) fun v2x1 =>
      k13 v1 v2x1 (v3 + (1 : Int32)) I))
set_option maxHeartbeats 4000000 in
theorem sM_endedOf_B13 (d : Nat) (hd : 2 + 1 ≤ d) (k13 : Int32 → Int32 → Int32 → hI → Option (Int32)) (hk13 : ∀ (v1 : Int32) (v2 : Int32) (v3 : Int32) (I : hI) (J : hJ) (q : Int32), k13 v1 v2 v3 I = some q → AW hFT cX11_endedOf 4 (some .int) RX11 kdM d [(0, .ref 0), (1, .int v1), (2, .int v2), (3, .int v3)] 13 [] (I, J, RMm) (some (.int q)) (I, J, RMm)) (v1 : Int32) (v2 : Int32) (v3 : Int32) (I : hI) (J : hJ) (q : Int32) (h : mM_endedOf_B13 k13 v1 v2 v3 I = some q) : AW hFT cX11_endedOf 4 (some .int) RX11 kdM d [(0, .ref 0), (1, .int v1), (2, .int v2), (3, .int v3)] 13 [] (I, J, RMm) (some (.int q)) (I, J, RMm) := by
  obtain ⟨d0, rfl, hd0⟩ := h_mono hd
  unfold mM_endedOf_B13 at h
  refine a_iload_n dX11_endedOf_13 rfl rfl ?_
  refine a_aload_n dX11_endedOf_14 rfl rfl ?_
  refine b_getI hK_11 km_0 (i := 41) rfl fl_11_367 rfl dX11_endedOf_15 ?_
  refine a_icmp_ge (tgt := 48) dX11_endedOf_18 (by decide) (fun c => ?_) (fun c => ?_)
  · replace h := h_iteT c h
    refine a_iload_n dX11_endedOf_48 rfl rfl ?_
    cases h
    exact a_iret dX11_endedOf_49
  · replace h := h_iteF c h
    refine a_iload_n dX11_endedOf_21 rfl rfl ?_
    refine a_aload_n dX11_endedOf_22 rfl rfl ?_
    refine a_iload_n dX11_endedOf_23 rfl rfl ?_
    obtain ⟨q1, cq1, h⟩ := h_bindS h
    refine a_callV1 [.int v2] yy_X11_isInside ml_11_463 km_0 rfl (sM_isInside _ (by omega) v3 I J q1 cq1) rfl rfl (Nat.le_of_ble_eq_true rfl) dX11_endedOf_24 ?_
    refine a_if_eq (tgt := 34) dX11_endedOf_27 (by decide) (fun c => ?_) (fun c => ?_)
    · replace h := h_iteT c h
      refine a_aload_n dX11_endedOf_34 rfl rfl ?_
      refine a_iload_n dX11_endedOf_35 rfl rfl ?_
      refine a_iload_n dX11_endedOf_36 rfl rfl ?_
      obtain ⟨q2, cq2, h⟩ := h_bindS h
      refine a_callV1 [.int v2] yy_X11_toOf ml_11_466 km_0 rfl (sM_toOf _ (by omega) v1 v3 I J q2 cq2) rfl rfl (Nat.le_of_ble_eq_true rfl) dX11_endedOf_37 ?_
      refine a_iadd dX11_endedOf_40 ?_
      obtain ⟨v2x2, ev2x2, h⟩ := h_letS h
      refine a_topI ev2x2 ?_
      refine a_istore_n (lv' := [(2, .int v2x2), (0, .ref 0), (1, .int v1), (3, .int v3)]) dX11_endedOf_41 rfl (by decide) rfl ?_
      refine b_iinc (lv' := [(3, .int (v3 + (1 : Int32))), (2, .int v2x2), (0, .ref 0), (1, .int v1)]) dX11_endedOf_42 rfl ic_1 (by decide) rfl ?_
      refine a_goto (tgt := 13) dX11_endedOf_45 (by decide) ?_
      refine a_sub (lv' := [(0, .ref 0), (1, .int v1), (2, .int v2x2), (3, .int (v3 + (1 : Int32)))]) [2, 3, 1, 0] rfl ?_
      exact hk13 v1 v2x2 (v3 + (1 : Int32)) I J _ h
    · replace h := h_iteF c h
      refine a_iconst dX11_endedOf_30 ic_0 ?_
      refine a_goto (tgt := 40) dX11_endedOf_31 (by decide) ?_
      refine a_iadd dX11_endedOf_40 ?_
      obtain ⟨v2x1, ev2x1, h⟩ := h_letS h
      refine a_topI ev2x1 ?_
      refine a_istore_n (lv' := [(2, .int v2x1), (0, .ref 0), (1, .int v1), (3, .int v3)]) dX11_endedOf_41 rfl (by decide) rfl ?_
      refine b_iinc (lv' := [(3, .int (v3 + (1 : Int32))), (2, .int v2x1), (0, .ref 0), (1, .int v1)]) dX11_endedOf_42 rfl ic_1 (by decide) rfl ?_
      refine a_goto (tgt := 13) dX11_endedOf_45 (by decide) ?_
      refine a_sub (lv' := [(0, .ref 0), (1, .int v1), (2, .int v2x1), (3, .int (v3 + (1 : Int32)))]) [2, 3, 1, 0] rfl ?_
      exact hk13 v1 v2x1 (v3 + (1 : Int32)) I J _ h
def mM_endedOf_L13  : Nat → Int32 → Int32 → Int32 → hI → Option (Int32)
  | 0 => fun _ _ _ _ => none
  | n + 1 => mM_endedOf_B13 (mM_endedOf_L13 n)
theorem sM_endedOf_L13 (d : Nat) (hd : 2 + 1 ≤ d) : ∀ (n : Nat) (v1 : Int32) (v2 : Int32) (v3 : Int32) (I : hI) (J : hJ) (q : Int32) (h : mM_endedOf_L13 n v1 v2 v3 I = some q), AW hFT cX11_endedOf 4 (some .int) RX11 kdM d [(0, .ref 0), (1, .int v1), (2, .int v2), (3, .int v3)] 13 [] (I, J, RMm) (some (.int q)) (I, J, RMm)
  | 0, _, _, _, _, _, q, h => by cases h
  | n + 1, v1, v2, v3, I, J, q, h => sM_endedOf_B13 d hd (mM_endedOf_L13 n) (sM_endedOf_L13 d hd n) v1 v2 v3 I J q h
def mM_endedOf  (v1 : Int32) (I : hI) : Option (Int32) :=
  (mM_byPlan v1 I).bind fun q1 =>
  h_g (h_in q1 80) <|
  h_let (I 28 q1.toNatClampNeg) fun v2x2 =>
  mM_endedOf_L13 hF v1 v2x2 (0 : Int32) I
set_option maxHeartbeats 4000000 in
theorem sM_endedOf (d : Nat) (hd : 2 + 1 ≤ d) (v1 : Int32) (I : hI) (J : hJ) (q : Int32) (h : mM_endedOf v1 I = some q) : HMet hFT yX11_endedOf cX11_endedOf 4 (some .int) kdM d [.ref 0, .int v1] (I, J, RMm) (some (.int q)) (I, J, RMm) := by
  obtain ⟨d0, rfl, hd0⟩ := h_mono hd
  refine HMet.of (by decide) (Nat.le_of_ble_eq_true rfl) ?_
  show AW hFT cX11_endedOf 4 (some .int) RX11 kdM (d0 + 1) [(0, .ref 0), (1, .int v1)] 0 [] (I, J, RMm) (some (.int q)) (I, J, RMm)
  unfold mM_endedOf at h
  refine a_aload_n dX11_endedOf_0 rfl rfl ?_
  refine b_getR hK_11 km_0 (i := 65) rfl fl_11_92 rfl rmm_65 dX11_endedOf_1 ?_
  refine a_aload_n dX11_endedOf_4 rfl rfl ?_
  refine a_iload_n dX11_endedOf_5 rfl rfl ?_
  obtain ⟨q1, cq1, h⟩ := h_bindS h
  refine a_callV1 [.ref 28] yy_X11_byPlan ml_11_459 km_0 rfl (sM_byPlan _ (by omega) v1 I J q1 cq1) rfl rfl (Nat.le_of_ble_eq_true rfl) dX11_endedOf_6 ?_
  obtain ⟨g2, h⟩ := h_gS h
  refine b_iaload km_28 (h_inV g2) dX11_endedOf_9 ?_
  obtain ⟨v2x2, ev2x2, h⟩ := h_letS h
  refine a_topI ev2x2 ?_
  refine a_istore_n (lv' := [(2, .int v2x2), (0, .ref 0), (1, .int v1)]) dX11_endedOf_10 rfl (by decide) rfl ?_
  refine a_iconst dX11_endedOf_11 ic_0 ?_
  refine a_istore_n (lv' := [(3, .int (0 : Int32)), (2, .int v2x2), (0, .ref 0), (1, .int v1)]) dX11_endedOf_12 rfl (by decide) rfl ?_
  refine a_sub (lv' := [(0, .ref 0), (1, .int v1), (2, .int v2x2), (3, .int (0 : Int32))]) [2, 3, 1, 0] rfl ?_
  exact sM_endedOf_L13 (d0 + 1) (by omega) hF v1 v2x2 (0 : Int32) I J _ h
/-! CoinLoopsModel.laysLost()V -/
theorem dX11_laysLost_0 : decode cX11_laysLost 0 = .ok (.iconst 0, 1) := by decide +kernel
theorem dX11_laysLost_1 : decode cX11_laysLost 1 = .ok (.istore_n 1, 1) := by decide +kernel
theorem dX11_laysLost_2 : decode cX11_laysLost 2 = .ok (.iload_n 1, 1) := by decide +kernel
theorem dX11_laysLost_3 : decode cX11_laysLost 3 = .ok (.aload_n 0, 1) := by decide +kernel
theorem dX11_laysLost_4 : decode cX11_laysLost 4 = .ok (.getfield 367, 3) := by decide +kernel
theorem dX11_laysLost_7 : decode cX11_laysLost 7 = .ok (.if_icmp .ge 84, 3) := by decide +kernel
theorem dX11_laysLost_10 : decode cX11_laysLost 10 = .ok (.aload_n 0, 1) := by decide +kernel
theorem dX11_laysLost_11 : decode cX11_laysLost 11 = .ok (.iload_n 1, 1) := by decide +kernel
theorem dX11_laysLost_12 : decode cX11_laysLost 12 = .ok (.invokevirtual 463, 3) := by decide +kernel
theorem dX11_laysLost_15 : decode cX11_laysLost 15 = .ok (.istore_n 2, 1) := by decide +kernel
theorem dX11_laysLost_16 : decode cX11_laysLost 16 = .ok (.iconst 0, 1) := by decide +kernel
theorem dX11_laysLost_17 : decode cX11_laysLost 17 = .ok (.istore_n 3, 1) := by decide +kernel
theorem dX11_laysLost_18 : decode cX11_laysLost 18 = .ok (.iload_n 3, 1) := by decide +kernel
theorem dX11_laysLost_19 : decode cX11_laysLost 19 = .ok (.aload_n 0, 1) := by decide +kernel
theorem dX11_laysLost_20 : decode cX11_laysLost 20 = .ok (.getfield 367, 3) := by decide +kernel
theorem dX11_laysLost_23 : decode cX11_laysLost 23 = .ok (.if_icmp .ge 55, 3) := by decide +kernel
theorem dX11_laysLost_26 : decode cX11_laysLost 26 = .ok (.iload_n 2, 1) := by decide +kernel
theorem dX11_laysLost_27 : decode cX11_laysLost 27 = .ok (.ifCond .eq 51, 3) := by decide +kernel
theorem dX11_laysLost_30 : decode cX11_laysLost 30 = .ok (.aload_n 0, 1) := by decide +kernel
theorem dX11_laysLost_31 : decode cX11_laysLost 31 = .ok (.getfield 117, 3) := by decide +kernel
theorem dX11_laysLost_34 : decode cX11_laysLost 34 = .ok (.bipush 10, 2) := by decide +kernel
theorem dX11_laysLost_36 : decode cX11_laysLost 36 = .ok (.iload_n 1, 1) := by decide +kernel
theorem dX11_laysLost_37 : decode cX11_laysLost 37 = .ok (.imul, 1) := by decide +kernel
theorem dX11_laysLost_38 : decode cX11_laysLost 38 = .ok (.iload_n 3, 1) := by decide +kernel
theorem dX11_laysLost_39 : decode cX11_laysLost 39 = .ok (.iadd, 1) := by decide +kernel
theorem dX11_laysLost_40 : decode cX11_laysLost 40 = .ok (.baload, 1) := by decide +kernel
theorem dX11_laysLost_41 : decode cX11_laysLost 41 = .ok (.ifCond .eq 25, 3) := by decide +kernel
theorem dX11_laysLost_44 : decode cX11_laysLost 44 = .ok (.aload_n 0, 1) := by decide +kernel
theorem dX11_laysLost_45 : decode cX11_laysLost 45 = .ok (.getfield 117, 3) := by decide +kernel
theorem dX11_laysLost_48 : decode cX11_laysLost 48 = .ok (.bipush 10, 2) := by decide +kernel
theorem dX11_laysLost_50 : decode cX11_laysLost 50 = .ok (.iload_n 3, 1) := by decide +kernel
theorem dX11_laysLost_51 : decode cX11_laysLost 51 = .ok (.imul, 1) := by decide +kernel
theorem dX11_laysLost_52 : decode cX11_laysLost 52 = .ok (.iload_n 1, 1) := by decide +kernel
theorem dX11_laysLost_53 : decode cX11_laysLost 53 = .ok (.iadd, 1) := by decide +kernel
theorem dX11_laysLost_54 : decode cX11_laysLost 54 = .ok (.baload, 1) := by decide +kernel
theorem dX11_laysLost_55 : decode cX11_laysLost 55 = .ok (.ifCond .eq 15, 3) := by decide +kernel
theorem dX11_laysLost_58 : decode cX11_laysLost 58 = .ok (.aload_n 0, 1) := by decide +kernel
theorem dX11_laysLost_59 : decode cX11_laysLost 59 = .ok (.iload_n 3, 1) := by decide +kernel
theorem dX11_laysLost_60 : decode cX11_laysLost 60 = .ok (.invokevirtual 469, 3) := by decide +kernel
theorem dX11_laysLost_63 : decode cX11_laysLost 63 = .ok (.ifCond .ne 7, 3) := by decide +kernel
theorem dX11_laysLost_66 : decode cX11_laysLost 66 = .ok (.iconst 1, 1) := by decide +kernel
theorem dX11_laysLost_67 : decode cX11_laysLost 67 = .ok (.goto 4, 3) := by decide +kernel
theorem dX11_laysLost_70 : decode cX11_laysLost 70 = .ok (.iconst 0, 1) := by decide +kernel
theorem dX11_laysLost_71 : decode cX11_laysLost 71 = .ok (.istore_n 2, 1) := by decide +kernel
theorem dX11_laysLost_72 : decode cX11_laysLost 72 = .ok (.iinc 3 1, 3) := by decide +kernel
theorem dX11_laysLost_75 : decode cX11_laysLost 75 = .ok (.goto (-57), 3) := by decide +kernel
theorem dX11_laysLost_78 : decode cX11_laysLost 78 = .ok (.aload_n 0, 1) := by decide +kernel
theorem dX11_laysLost_79 : decode cX11_laysLost 79 = .ok (.getfield 120, 3) := by decide +kernel
theorem dX11_laysLost_82 : decode cX11_laysLost 82 = .ok (.iload_n 1, 1) := by decide +kernel
theorem dX11_laysLost_83 : decode cX11_laysLost 83 = .ok (.iload_n 2, 1) := by decide +kernel
theorem dX11_laysLost_84 : decode cX11_laysLost 84 = .ok (.bastore, 1) := by decide +kernel
theorem dX11_laysLost_85 : decode cX11_laysLost 85 = .ok (.iinc 1 1, 3) := by decide +kernel
theorem dX11_laysLost_88 : decode cX11_laysLost 88 = .ok (.goto (-86), 3) := by decide +kernel
theorem dX11_laysLost_91 : decode cX11_laysLost 91 = .ok (.return_, 1) := by decide +kernel
def mM_laysLost_78 (k2 : Int32 → hI → Option (hI)) (v1 : Int32) (v2 : Int32) (I : hI) : Option (hI) :=
  h_g (h_in v1 10) <|
  h_let (h_u I 37 v1.toNatClampNeg (vp_nar .boolean v2)) fun I2 =>
  k2 (v1 + (1 : Int32)) I2
set_option maxHeartbeats 4000000 in
theorem sM_laysLost_78 (d : Nat) (hd : 3 + 1 ≤ d) (k2 : Int32 → hI → Option (hI)) (hk2 : ∀ (v1 : Int32) (I : hI) (J : hJ) (q : hI), k2 v1 I = some q → AW hFT cX11_laysLost 4 none RX11 kdM d [(0, .ref 0), (1, .int v1)] 2 [] (I, J, RMm) none (q, J, RMm)) (v1 : Int32) (v2 : Int32) (I : hI) (J : hJ) (q : hI) (h : mM_laysLost_78 k2 v1 v2 I = some q) : AW hFT cX11_laysLost 4 none RX11 kdM d [(0, .ref 0), (1, .int v1), (2, .int v2)] 78 [] (I, J, RMm) none (q, J, RMm) := by
  obtain ⟨d0, rfl, hd0⟩ := h_mono hd
  unfold mM_laysLost_78 at h
  refine a_aload_n dX11_laysLost_78 rfl rfl ?_
  refine b_getR hK_11 km_0 (i := 75) rfl fl_11_120 rfl rmm_75 dX11_laysLost_79 ?_
  refine a_iload_n dX11_laysLost_82 rfl rfl ?_
  refine a_iload_n dX11_laysLost_83 rfl rfl ?_
  obtain ⟨g1, h⟩ := h_gS h
  refine b_zastore km_37 (h_inV g1) dX11_laysLost_84 ?_
  obtain ⟨I2, eI2, h⟩ := h_letS h
  refine a_memI eI2 ?_
  refine b_iinc (lv' := [(1, .int (v1 + (1 : Int32))), (0, .ref 0), (2, .int v2)]) dX11_laysLost_85 rfl ic_1 (by decide) rfl ?_
  refine a_goto (tgt := 2) dX11_laysLost_88 (by decide) ?_
  refine a_sub (lv' := [(0, .ref 0), (1, .int (v1 + (1 : Int32)))]) [1, 0] rfl ?_
  exact hk2 (v1 + (1 : Int32)) I2 J _ h
def mM_laysLost_B18 (k2 : Int32 → hI → Option (hI)) (k18 : Int32 → Int32 → Int32 → hI → Option (hI)) (v1 : Int32) (v2 : Int32) (v3 : Int32) (I : hI) : Option (hI) :=
  if (I 0 41) ≤ v3 then
    mM_laysLost_78 k2 v1 v2 I
  else
    (if v2 = 0 then
      mM_laysLost_78 k2 v1 v2 I
    else
      (h_g (h_in (((10 : Int32) * v1) + v3) 100) <|
      if (I 36 (((10 : Int32) * v1) + v3).toNatClampNeg) = 0 then
        k18 v1 (1 : Int32) (v3 + (1 : Int32)) I
      else
        (h_g (h_in (((10 : Int32) * v3) + v1) 100) <|
        if (I 36 (((10 : Int32) * v3) + v1).toNatClampNeg) = 0 then
          k18 v1 (0 : Int32) (v3 + (1 : Int32)) I
        else
          ((mM_endedOf v3 I).bind fun q3 =>
          if q3 = 0 then
            k18 v1 (1 : Int32) (v3 + (1 : Int32)) I
          else
            k18 v1 (0 : Int32) (v3 + (1 : Int32)) I))))
set_option maxHeartbeats 4000000 in
theorem sM_laysLost_B18 (d : Nat) (hd : 3 + 1 ≤ d) (k2 : Int32 → hI → Option (hI)) (hk2 : ∀ (v1 : Int32) (I : hI) (J : hJ) (q : hI), k2 v1 I = some q → AW hFT cX11_laysLost 4 none RX11 kdM d [(0, .ref 0), (1, .int v1)] 2 [] (I, J, RMm) none (q, J, RMm)) (k18 : Int32 → Int32 → Int32 → hI → Option (hI)) (hk18 : ∀ (v1 : Int32) (v2 : Int32) (v3 : Int32) (I : hI) (J : hJ) (q : hI), k18 v1 v2 v3 I = some q → AW hFT cX11_laysLost 4 none RX11 kdM d [(0, .ref 0), (1, .int v1), (2, .int v2), (3, .int v3)] 18 [] (I, J, RMm) none (q, J, RMm)) (v1 : Int32) (v2 : Int32) (v3 : Int32) (I : hI) (J : hJ) (q : hI) (h : mM_laysLost_B18 k2 k18 v1 v2 v3 I = some q) : AW hFT cX11_laysLost 4 none RX11 kdM d [(0, .ref 0), (1, .int v1), (2, .int v2), (3, .int v3)] 18 [] (I, J, RMm) none (q, J, RMm) := by
  obtain ⟨d0, rfl, hd0⟩ := h_mono hd
  unfold mM_laysLost_B18 at h
  refine a_iload_n dX11_laysLost_18 rfl rfl ?_
  refine a_aload_n dX11_laysLost_19 rfl rfl ?_
  refine b_getI hK_11 km_0 (i := 41) rfl fl_11_367 rfl dX11_laysLost_20 ?_
  refine a_icmp_ge (tgt := 78) dX11_laysLost_23 (by decide) (fun c => ?_) (fun c => ?_)
  · replace h := h_iteT c h
    refine a_sub (lv' := [(0, .ref 0), (1, .int v1), (2, .int v2)]) [0, 1, 2] rfl ?_
    exact sM_laysLost_78 (d0 + 1) (by omega) k2 hk2 v1 v2 I J _ h
  · replace h := h_iteF c h
    refine a_iload_n dX11_laysLost_26 rfl rfl ?_
    refine a_if_eq (tgt := 78) dX11_laysLost_27 (by decide) (fun c => ?_) (fun c => ?_)
    · replace h := h_iteT c h
      refine a_sub (lv' := [(0, .ref 0), (1, .int v1), (2, .int v2)]) [0, 1, 2] rfl ?_
      exact sM_laysLost_78 (d0 + 1) (by omega) k2 hk2 v1 v2 I J _ h
    · replace h := h_iteF c h
      refine a_aload_n dX11_laysLost_30 rfl rfl ?_
      refine b_getR hK_11 km_0 (i := 74) rfl fl_11_117 rfl rmm_74 dX11_laysLost_31 ?_
      refine a_bipush dX11_laysLost_34 bp_10 ?_
      refine a_iload_n dX11_laysLost_36 rfl rfl ?_
      refine a_imul dX11_laysLost_37 ?_
      refine a_iload_n dX11_laysLost_38 rfl rfl ?_
      refine a_iadd dX11_laysLost_39 ?_
      obtain ⟨g1, h⟩ := h_gS h
      refine b_zaload km_36 (h_inV g1) dX11_laysLost_40 ?_
      refine a_if_eq (tgt := 66) dX11_laysLost_41 (by decide) (fun c => ?_) (fun c => ?_)
      · replace h := h_iteT c h
        refine a_iconst dX11_laysLost_66 ic_1 ?_
        refine a_goto (tgt := 71) dX11_laysLost_67 (by decide) ?_
        refine a_istore_n (lv' := [(2, .int (1 : Int32)), (0, .ref 0), (1, .int v1), (3, .int v3)]) dX11_laysLost_71 rfl (by decide) rfl ?_
        refine b_iinc (lv' := [(3, .int (v3 + (1 : Int32))), (2, .int (1 : Int32)), (0, .ref 0), (1, .int v1)]) dX11_laysLost_72 rfl ic_1 (by decide) rfl ?_
        refine a_goto (tgt := 18) dX11_laysLost_75 (by decide) ?_
        refine a_sub (lv' := [(0, .ref 0), (1, .int v1), (2, .int (1 : Int32)), (3, .int (v3 + (1 : Int32)))]) [2, 3, 1, 0] rfl ?_
        exact hk18 v1 (1 : Int32) (v3 + (1 : Int32)) I J _ h
      · replace h := h_iteF c h
        refine a_aload_n dX11_laysLost_44 rfl rfl ?_
        refine b_getR hK_11 km_0 (i := 74) rfl fl_11_117 rfl rmm_74 dX11_laysLost_45 ?_
        refine a_bipush dX11_laysLost_48 bp_10 ?_
        refine a_iload_n dX11_laysLost_50 rfl rfl ?_
        refine a_imul dX11_laysLost_51 ?_
        refine a_iload_n dX11_laysLost_52 rfl rfl ?_
        refine a_iadd dX11_laysLost_53 ?_
        obtain ⟨g2, h⟩ := h_gS h
        refine b_zaload km_36 (h_inV g2) dX11_laysLost_54 ?_
        refine a_if_eq (tgt := 70) dX11_laysLost_55 (by decide) (fun c => ?_) (fun c => ?_)
        · replace h := h_iteT c h
          refine a_iconst dX11_laysLost_70 ic_0 ?_
          refine a_istore_n (lv' := [(2, .int (0 : Int32)), (0, .ref 0), (1, .int v1), (3, .int v3)]) dX11_laysLost_71 rfl (by decide) rfl ?_
          refine b_iinc (lv' := [(3, .int (v3 + (1 : Int32))), (2, .int (0 : Int32)), (0, .ref 0), (1, .int v1)]) dX11_laysLost_72 rfl ic_1 (by decide) rfl ?_
          refine a_goto (tgt := 18) dX11_laysLost_75 (by decide) ?_
          refine a_sub (lv' := [(0, .ref 0), (1, .int v1), (2, .int (0 : Int32)), (3, .int (v3 + (1 : Int32)))]) [2, 3, 1, 0] rfl ?_
          exact hk18 v1 (0 : Int32) (v3 + (1 : Int32)) I J _ h
        · replace h := h_iteF c h
          refine a_aload_n dX11_laysLost_58 rfl rfl ?_
          refine a_iload_n dX11_laysLost_59 rfl rfl ?_
          obtain ⟨q3, cq3, h⟩ := h_bindS h
          refine a_callV1 [] yy_X11_endedOf ml_11_469 km_0 rfl (sM_endedOf _ (by omega) v3 I J q3 cq3) rfl rfl (Nat.le_of_ble_eq_true rfl) dX11_laysLost_60 ?_
          refine a_if_ne (tgt := 70) dX11_laysLost_63 (by decide) (fun c => ?_) (fun c => ?_)
          · replace h := h_iteF c h
            refine a_iconst dX11_laysLost_70 ic_0 ?_
            refine a_istore_n (lv' := [(2, .int (0 : Int32)), (0, .ref 0), (1, .int v1), (3, .int v3)]) dX11_laysLost_71 rfl (by decide) rfl ?_
            refine b_iinc (lv' := [(3, .int (v3 + (1 : Int32))), (2, .int (0 : Int32)), (0, .ref 0), (1, .int v1)]) dX11_laysLost_72 rfl ic_1 (by decide) rfl ?_
            refine a_goto (tgt := 18) dX11_laysLost_75 (by decide) ?_
            refine a_sub (lv' := [(0, .ref 0), (1, .int v1), (2, .int (0 : Int32)), (3, .int (v3 + (1 : Int32)))]) [2, 3, 1, 0] rfl ?_
            exact hk18 v1 (0 : Int32) (v3 + (1 : Int32)) I J _ h
          · replace h := h_iteT c h
            refine a_iconst dX11_laysLost_66 ic_1 ?_
            refine a_goto (tgt := 71) dX11_laysLost_67 (by decide) ?_
            refine a_istore_n (lv' := [(2, .int (1 : Int32)), (0, .ref 0), (1, .int v1), (3, .int v3)]) dX11_laysLost_71 rfl (by decide) rfl ?_
            refine b_iinc (lv' := [(3, .int (v3 + (1 : Int32))), (2, .int (1 : Int32)), (0, .ref 0), (1, .int v1)]) dX11_laysLost_72 rfl ic_1 (by decide) rfl ?_
            refine a_goto (tgt := 18) dX11_laysLost_75 (by decide) ?_
            refine a_sub (lv' := [(0, .ref 0), (1, .int v1), (2, .int (1 : Int32)), (3, .int (v3 + (1 : Int32)))]) [2, 3, 1, 0] rfl ?_
            exact hk18 v1 (1 : Int32) (v3 + (1 : Int32)) I J _ h
def mM_laysLost_L18 (k2 : Int32 → hI → Option (hI)) : Nat → Int32 → Int32 → Int32 → hI → Option (hI)
  | 0 => fun _ _ _ _ => none
  | n + 1 => mM_laysLost_B18 k2 (mM_laysLost_L18 k2 n)
theorem sM_laysLost_L18 (d : Nat) (hd : 3 + 1 ≤ d) (k2 : Int32 → hI → Option (hI)) (hk2 : ∀ (v1 : Int32) (I : hI) (J : hJ) (q : hI), k2 v1 I = some q → AW hFT cX11_laysLost 4 none RX11 kdM d [(0, .ref 0), (1, .int v1)] 2 [] (I, J, RMm) none (q, J, RMm)) : ∀ (n : Nat) (v1 : Int32) (v2 : Int32) (v3 : Int32) (I : hI) (J : hJ) (q : hI) (h : mM_laysLost_L18 k2 n v1 v2 v3 I = some q), AW hFT cX11_laysLost 4 none RX11 kdM d [(0, .ref 0), (1, .int v1), (2, .int v2), (3, .int v3)] 18 [] (I, J, RMm) none (q, J, RMm)
  | 0, _, _, _, _, _, q, h => by cases h
  | n + 1, v1, v2, v3, I, J, q, h => sM_laysLost_B18 d hd k2 hk2 (mM_laysLost_L18 k2 n) (sM_laysLost_L18 d hd k2 hk2 n) v1 v2 v3 I J q h
def mM_laysLost_B2 (k2 : Int32 → hI → Option (hI)) (v1 : Int32) (I : hI) : Option (hI) :=
  if (I 0 41) ≤ v1 then
    some I
  else
    ((mM_isInside v1 I).bind fun q1 =>
    mM_laysLost_L18 k2 hF v1 q1 (0 : Int32) I)
set_option maxHeartbeats 4000000 in
theorem sM_laysLost_B2 (d : Nat) (hd : 3 + 1 ≤ d) (k2 : Int32 → hI → Option (hI)) (hk2 : ∀ (v1 : Int32) (I : hI) (J : hJ) (q : hI), k2 v1 I = some q → AW hFT cX11_laysLost 4 none RX11 kdM d [(0, .ref 0), (1, .int v1)] 2 [] (I, J, RMm) none (q, J, RMm)) (v1 : Int32) (I : hI) (J : hJ) (q : hI) (h : mM_laysLost_B2 k2 v1 I = some q) : AW hFT cX11_laysLost 4 none RX11 kdM d [(0, .ref 0), (1, .int v1)] 2 [] (I, J, RMm) none (q, J, RMm) := by
  obtain ⟨d0, rfl, hd0⟩ := h_mono hd
  unfold mM_laysLost_B2 at h
  refine a_iload_n dX11_laysLost_2 rfl rfl ?_
  refine a_aload_n dX11_laysLost_3 rfl rfl ?_
  refine b_getI hK_11 km_0 (i := 41) rfl fl_11_367 rfl dX11_laysLost_4 ?_
  refine a_icmp_ge (tgt := 91) dX11_laysLost_7 (by decide) (fun c => ?_) (fun c => ?_)
  · replace h := h_iteT c h
    cases h
    exact a_vret dX11_laysLost_91
  · replace h := h_iteF c h
    refine a_aload_n dX11_laysLost_10 rfl rfl ?_
    refine a_iload_n dX11_laysLost_11 rfl rfl ?_
    obtain ⟨q1, cq1, h⟩ := h_bindS h
    refine a_callV1 [] yy_X11_isInside ml_11_463 km_0 rfl (sM_isInside _ (by omega) v1 I J q1 cq1) rfl rfl (Nat.le_of_ble_eq_true rfl) dX11_laysLost_12 ?_
    refine a_istore_n (lv' := [(2, .int q1), (0, .ref 0), (1, .int v1)]) dX11_laysLost_15 rfl (by decide) rfl ?_
    refine a_iconst dX11_laysLost_16 ic_0 ?_
    refine a_istore_n (lv' := [(3, .int (0 : Int32)), (2, .int q1), (0, .ref 0), (1, .int v1)]) dX11_laysLost_17 rfl (by decide) rfl ?_
    refine a_sub (lv' := [(0, .ref 0), (1, .int v1), (2, .int q1), (3, .int (0 : Int32))]) [2, 3, 1, 0] rfl ?_
    exact sM_laysLost_L18 (d0 + 1) (by omega) k2 hk2 hF v1 q1 (0 : Int32) I J _ h
def mM_laysLost_L2  : Nat → Int32 → hI → Option (hI)
  | 0 => fun _ _ => none
  | n + 1 => mM_laysLost_B2 (mM_laysLost_L2 n)
theorem sM_laysLost_L2 (d : Nat) (hd : 3 + 1 ≤ d) : ∀ (n : Nat) (v1 : Int32) (I : hI) (J : hJ) (q : hI) (h : mM_laysLost_L2 n v1 I = some q), AW hFT cX11_laysLost 4 none RX11 kdM d [(0, .ref 0), (1, .int v1)] 2 [] (I, J, RMm) none (q, J, RMm)
  | 0, _, _, _, q, h => by cases h
  | n + 1, v1, I, J, q, h => sM_laysLost_B2 d hd (mM_laysLost_L2 n) (sM_laysLost_L2 d hd n) v1 I J q h
def mM_laysLost   (I : hI) : Option (hI) :=
  mM_laysLost_L2 hF (0 : Int32) I
set_option maxHeartbeats 4000000 in
theorem sM_laysLost (d : Nat) (hd : 3 + 1 ≤ d)  (I : hI) (J : hJ) (q : hI) (h : mM_laysLost I = some q) : HMet hFT yX11_laysLost cX11_laysLost 4 none kdM d [.ref 0] (I, J, RMm) none (q, J, RMm) := by
  obtain ⟨d0, rfl, hd0⟩ := h_mono hd
  refine HMet.of (by decide) (Nat.le_of_ble_eq_true rfl) ?_
  show AW hFT cX11_laysLost 4 none RX11 kdM (d0 + 1) [(0, .ref 0)] 0 [] (I, J, RMm) none (q, J, RMm)
  unfold mM_laysLost at h
  refine a_iconst dX11_laysLost_0 ic_0 ?_
  refine a_istore_n (lv' := [(1, .int (0 : Int32)), (0, .ref 0)]) dX11_laysLost_1 rfl (by decide) rfl ?_
  refine a_sub (lv' := [(0, .ref 0), (1, .int (0 : Int32))]) [1, 0] rfl ?_
  exact sM_laysLost_L2 (d0 + 1) (by omega) hF (0 : Int32) I J _ h
/-! CoinLoopsModel.goesOnPaying(I)Z -/
theorem dX11_goesOnPaying_0 : decode cX11_goesOnPaying 0 = .ok (.iconst 0, 1) := by decide +kernel
theorem dX11_goesOnPaying_1 : decode cX11_goesOnPaying 1 = .ok (.istore_n 2, 1) := by decide +kernel
theorem dX11_goesOnPaying_2 : decode cX11_goesOnPaying 2 = .ok (.iload_n 2, 1) := by decide +kernel
theorem dX11_goesOnPaying_3 : decode cX11_goesOnPaying 3 = .ok (.aload_n 0, 1) := by decide +kernel
theorem dX11_goesOnPaying_4 : decode cX11_goesOnPaying 4 = .ok (.getfield 367, 3) := by decide +kernel
theorem dX11_goesOnPaying_7 : decode cX11_goesOnPaying 7 = .ok (.if_icmp .ge 47, 3) := by decide +kernel
theorem dX11_goesOnPaying_10 : decode cX11_goesOnPaying 10 = .ok (.aload_n 0, 1) := by decide +kernel
theorem dX11_goesOnPaying_11 : decode cX11_goesOnPaying 11 = .ok (.getfield 117, 3) := by decide +kernel
theorem dX11_goesOnPaying_14 : decode cX11_goesOnPaying 14 = .ok (.bipush 10, 2) := by decide +kernel
theorem dX11_goesOnPaying_16 : decode cX11_goesOnPaying 16 = .ok (.iload_n 1, 1) := by decide +kernel
theorem dX11_goesOnPaying_17 : decode cX11_goesOnPaying 17 = .ok (.imul, 1) := by decide +kernel
theorem dX11_goesOnPaying_18 : decode cX11_goesOnPaying 18 = .ok (.iload_n 2, 1) := by decide +kernel
theorem dX11_goesOnPaying_19 : decode cX11_goesOnPaying 19 = .ok (.iadd, 1) := by decide +kernel
theorem dX11_goesOnPaying_20 : decode cX11_goesOnPaying 20 = .ok (.baload, 1) := by decide +kernel
theorem dX11_goesOnPaying_21 : decode cX11_goesOnPaying 21 = .ok (.ifCond .eq 27, 3) := by decide +kernel
theorem dX11_goesOnPaying_24 : decode cX11_goesOnPaying 24 = .ok (.aload_n 0, 1) := by decide +kernel
theorem dX11_goesOnPaying_25 : decode cX11_goesOnPaying 25 = .ok (.getfield 120, 3) := by decide +kernel
theorem dX11_goesOnPaying_28 : decode cX11_goesOnPaying 28 = .ok (.iload_n 2, 1) := by decide +kernel
theorem dX11_goesOnPaying_29 : decode cX11_goesOnPaying 29 = .ok (.baload, 1) := by decide +kernel
theorem dX11_goesOnPaying_30 : decode cX11_goesOnPaying 30 = .ok (.ifCond .eq 18, 3) := by decide +kernel
theorem dX11_goesOnPaying_33 : decode cX11_goesOnPaying 33 = .ok (.aload_n 0, 1) := by decide +kernel
theorem dX11_goesOnPaying_34 : decode cX11_goesOnPaying 34 = .ok (.getfield 89, 3) := by decide +kernel
theorem dX11_goesOnPaying_37 : decode cX11_goesOnPaying 37 = .ok (.aload_n 0, 1) := by decide +kernel
theorem dX11_goesOnPaying_38 : decode cX11_goesOnPaying 38 = .ok (.iload_n 2, 1) := by decide +kernel
theorem dX11_goesOnPaying_39 : decode cX11_goesOnPaying 39 = .ok (.invokevirtual 459, 3) := by decide +kernel
theorem dX11_goesOnPaying_42 : decode cX11_goesOnPaying 42 = .ok (.iaload, 1) := by decide +kernel
theorem dX11_goesOnPaying_43 : decode cX11_goesOnPaying 43 = .ok (.ifCond .le 5, 3) := by decide +kernel
theorem dX11_goesOnPaying_46 : decode cX11_goesOnPaying 46 = .ok (.iconst 1, 1) := by decide +kernel
theorem dX11_goesOnPaying_47 : decode cX11_goesOnPaying 47 = .ok (.ireturn, 1) := by decide +kernel
theorem dX11_goesOnPaying_48 : decode cX11_goesOnPaying 48 = .ok (.iinc 2 1, 3) := by decide +kernel
theorem dX11_goesOnPaying_51 : decode cX11_goesOnPaying 51 = .ok (.goto (-49), 3) := by decide +kernel
theorem dX11_goesOnPaying_54 : decode cX11_goesOnPaying 54 = .ok (.iconst 0, 1) := by decide +kernel
theorem dX11_goesOnPaying_55 : decode cX11_goesOnPaying 55 = .ok (.ireturn, 1) := by decide +kernel
def mM_goesOnPaying_B2 (k2 : Int32 → Int32 → hI → Option (Int32)) (v1 : Int32) (v2 : Int32) (I : hI) : Option (Int32) :=
  if (I 0 41) ≤ v2 then
    some (0 : Int32)
  else
    (h_g (h_in (((10 : Int32) * v1) + v2) 100) <|
    if (I 36 (((10 : Int32) * v1) + v2).toNatClampNeg) = 0 then
      k2 v1 (v2 + (1 : Int32)) I
    else
      (h_g (h_in v2 10) <|
      if (I 37 v2.toNatClampNeg) = 0 then
        k2 v1 (v2 + (1 : Int32)) I
      else
        ((mM_byPlan v2 I).bind fun q3 =>
        h_g (h_in q3 80) <|
        if (I 27 q3.toNatClampNeg) ≤ 0 then
          k2 v1 (v2 + (1 : Int32)) I
        else
          some (1 : Int32))))
set_option maxHeartbeats 4000000 in
theorem sM_goesOnPaying_B2 (d : Nat) (hd : 1 + 1 ≤ d) (k2 : Int32 → Int32 → hI → Option (Int32)) (hk2 : ∀ (v1 : Int32) (v2 : Int32) (I : hI) (J : hJ) (q : Int32), k2 v1 v2 I = some q → AW hFT cX11_goesOnPaying 3 (some .boolean) RX11 kdM d [(0, .ref 0), (1, .int v1), (2, .int v2)] 2 [] (I, J, RMm) (some (.int q)) (I, J, RMm)) (v1 : Int32) (v2 : Int32) (I : hI) (J : hJ) (q : Int32) (h : mM_goesOnPaying_B2 k2 v1 v2 I = some q) : AW hFT cX11_goesOnPaying 3 (some .boolean) RX11 kdM d [(0, .ref 0), (1, .int v1), (2, .int v2)] 2 [] (I, J, RMm) (some (.int q)) (I, J, RMm) := by
  obtain ⟨d0, rfl, hd0⟩ := h_mono hd
  unfold mM_goesOnPaying_B2 at h
  refine a_iload_n dX11_goesOnPaying_2 rfl rfl ?_
  refine a_aload_n dX11_goesOnPaying_3 rfl rfl ?_
  refine b_getI hK_11 km_0 (i := 41) rfl fl_11_367 rfl dX11_goesOnPaying_4 ?_
  refine a_icmp_ge (tgt := 54) dX11_goesOnPaying_7 (by decide) (fun c => ?_) (fun c => ?_)
  · replace h := h_iteT c h
    refine a_iconst dX11_goesOnPaying_54 ic_0 ?_
    cases h
    exact a_zret (h_Z0.1) dX11_goesOnPaying_55
  · replace h := h_iteF c h
    refine a_aload_n dX11_goesOnPaying_10 rfl rfl ?_
    refine b_getR hK_11 km_0 (i := 74) rfl fl_11_117 rfl rmm_74 dX11_goesOnPaying_11 ?_
    refine a_bipush dX11_goesOnPaying_14 bp_10 ?_
    refine a_iload_n dX11_goesOnPaying_16 rfl rfl ?_
    refine a_imul dX11_goesOnPaying_17 ?_
    refine a_iload_n dX11_goesOnPaying_18 rfl rfl ?_
    refine a_iadd dX11_goesOnPaying_19 ?_
    obtain ⟨g1, h⟩ := h_gS h
    refine b_zaload km_36 (h_inV g1) dX11_goesOnPaying_20 ?_
    refine a_if_eq (tgt := 48) dX11_goesOnPaying_21 (by decide) (fun c => ?_) (fun c => ?_)
    · replace h := h_iteT c h
      refine b_iinc (lv' := [(2, .int (v2 + (1 : Int32))), (0, .ref 0), (1, .int v1)]) dX11_goesOnPaying_48 rfl ic_1 (by decide) rfl ?_
      refine a_goto (tgt := 2) dX11_goesOnPaying_51 (by decide) ?_
      refine a_sub (lv' := [(0, .ref 0), (1, .int v1), (2, .int (v2 + (1 : Int32)))]) [1, 2, 0] rfl ?_
      exact hk2 v1 (v2 + (1 : Int32)) I J _ h
    · replace h := h_iteF c h
      refine a_aload_n dX11_goesOnPaying_24 rfl rfl ?_
      refine b_getR hK_11 km_0 (i := 75) rfl fl_11_120 rfl rmm_75 dX11_goesOnPaying_25 ?_
      refine a_iload_n dX11_goesOnPaying_28 rfl rfl ?_
      obtain ⟨g2, h⟩ := h_gS h
      refine b_zaload km_37 (h_inV g2) dX11_goesOnPaying_29 ?_
      refine a_if_eq (tgt := 48) dX11_goesOnPaying_30 (by decide) (fun c => ?_) (fun c => ?_)
      · replace h := h_iteT c h
        refine b_iinc (lv' := [(2, .int (v2 + (1 : Int32))), (0, .ref 0), (1, .int v1)]) dX11_goesOnPaying_48 rfl ic_1 (by decide) rfl ?_
        refine a_goto (tgt := 2) dX11_goesOnPaying_51 (by decide) ?_
        refine a_sub (lv' := [(0, .ref 0), (1, .int v1), (2, .int (v2 + (1 : Int32)))]) [1, 2, 0] rfl ?_
        exact hk2 v1 (v2 + (1 : Int32)) I J _ h
      · replace h := h_iteF c h
        refine a_aload_n dX11_goesOnPaying_33 rfl rfl ?_
        refine b_getR hK_11 km_0 (i := 64) rfl fl_11_89 rfl rmm_64 dX11_goesOnPaying_34 ?_
        refine a_aload_n dX11_goesOnPaying_37 rfl rfl ?_
        refine a_iload_n dX11_goesOnPaying_38 rfl rfl ?_
        obtain ⟨q3, cq3, h⟩ := h_bindS h
        refine a_callV1 [.ref 27] yy_X11_byPlan ml_11_459 km_0 rfl (sM_byPlan _ (by omega) v2 I J q3 cq3) rfl rfl (Nat.le_of_ble_eq_true rfl) dX11_goesOnPaying_39 ?_
        obtain ⟨g4, h⟩ := h_gS h
        refine b_iaload km_27 (h_inV g4) dX11_goesOnPaying_42 ?_
        refine a_if_le (tgt := 48) dX11_goesOnPaying_43 (by decide) (fun c => ?_) (fun c => ?_)
        · replace h := h_iteT c h
          refine b_iinc (lv' := [(2, .int (v2 + (1 : Int32))), (0, .ref 0), (1, .int v1)]) dX11_goesOnPaying_48 rfl ic_1 (by decide) rfl ?_
          refine a_goto (tgt := 2) dX11_goesOnPaying_51 (by decide) ?_
          refine a_sub (lv' := [(0, .ref 0), (1, .int v1), (2, .int (v2 + (1 : Int32)))]) [1, 2, 0] rfl ?_
          exact hk2 v1 (v2 + (1 : Int32)) I J _ h
        · replace h := h_iteF c h
          refine a_iconst dX11_goesOnPaying_46 ic_1 ?_
          cases h
          exact a_zret (h_Z1.1) dX11_goesOnPaying_47
def mM_goesOnPaying_L2  : Nat → Int32 → Int32 → hI → Option (Int32)
  | 0 => fun _ _ _ => none
  | n + 1 => mM_goesOnPaying_B2 (mM_goesOnPaying_L2 n)
theorem sM_goesOnPaying_L2 (d : Nat) (hd : 1 + 1 ≤ d) : ∀ (n : Nat) (v1 : Int32) (v2 : Int32) (I : hI) (J : hJ) (q : Int32) (h : mM_goesOnPaying_L2 n v1 v2 I = some q), AW hFT cX11_goesOnPaying 3 (some .boolean) RX11 kdM d [(0, .ref 0), (1, .int v1), (2, .int v2)] 2 [] (I, J, RMm) (some (.int q)) (I, J, RMm)
  | 0, _, _, _, _, q, h => by cases h
  | n + 1, v1, v2, I, J, q, h => sM_goesOnPaying_B2 d hd (mM_goesOnPaying_L2 n) (sM_goesOnPaying_L2 d hd n) v1 v2 I J q h
def mM_goesOnPaying  (v1 : Int32) (I : hI) : Option (Int32) :=
  mM_goesOnPaying_L2 hF v1 (0 : Int32) I
set_option maxHeartbeats 4000000 in
theorem sM_goesOnPaying (d : Nat) (hd : 1 + 1 ≤ d) (v1 : Int32) (I : hI) (J : hJ) (q : Int32) (h : mM_goesOnPaying v1 I = some q) : HMet hFT yX11_goesOnPaying cX11_goesOnPaying 3 (some .boolean) kdM d [.ref 0, .int v1] (I, J, RMm) (some (.int q)) (I, J, RMm) := by
  obtain ⟨d0, rfl, hd0⟩ := h_mono hd
  refine HMet.of (by decide) (Nat.le_of_ble_eq_true rfl) ?_
  show AW hFT cX11_goesOnPaying 3 (some .boolean) RX11 kdM (d0 + 1) [(0, .ref 0), (1, .int v1)] 0 [] (I, J, RMm) (some (.int q)) (I, J, RMm)
  unfold mM_goesOnPaying at h
  refine a_iconst dX11_goesOnPaying_0 ic_0 ?_
  refine a_istore_n (lv' := [(2, .int (0 : Int32)), (0, .ref 0), (1, .int v1)]) dX11_goesOnPaying_1 rfl (by decide) rfl ?_
  refine a_sub (lv' := [(0, .ref 0), (1, .int v1), (2, .int (0 : Int32))]) [1, 2, 0] rfl ?_
  exact sM_goesOnPaying_L2 (d0 + 1) (by omega) hF v1 (0 : Int32) I J _ h
/-! CoinLoopsModel.divisor(JJ)J -/
theorem dX11_divisor_0 : decode cX11_divisor 0 = .ok (.lload_n 2, 1) := by decide +kernel
theorem dX11_divisor_1 : decode cX11_divisor 1 = .ok (.lconst 0, 1) := by decide +kernel
theorem dX11_divisor_2 : decode cX11_divisor 2 = .ok (.lcmp, 1) := by decide +kernel
theorem dX11_divisor_3 : decode cX11_divisor 3 = .ok (.ifCond .ne 10, 3) := by decide +kernel
theorem dX11_divisor_6 : decode cX11_divisor 6 = .ok (.lload_n 0, 1) := by decide +kernel
theorem dX11_divisor_7 : decode cX11_divisor 7 = .ok (.invokestatic 472, 3) := by decide +kernel
theorem dX11_divisor_10 : decode cX11_divisor 10 = .ok (.goto 10, 3) := by decide +kernel
theorem dX11_divisor_13 : decode cX11_divisor 13 = .ok (.lload_n 2, 1) := by decide +kernel
theorem dX11_divisor_14 : decode cX11_divisor 14 = .ok (.lload_n 0, 1) := by decide +kernel
theorem dX11_divisor_15 : decode cX11_divisor 15 = .ok (.lload_n 2, 1) := by decide +kernel
theorem dX11_divisor_16 : decode cX11_divisor 16 = .ok (.lrem, 1) := by decide +kernel
theorem dX11_divisor_17 : decode cX11_divisor 17 = .ok (.invokestatic 476, 3) := by decide +kernel
theorem dX11_divisor_20 : decode cX11_divisor 20 = .ok (.lreturn, 1) := by decide +kernel
def mM_divisor_B (rec : Int64 → Int64 → Option (Int64))  (v0 : Int64) (v2 : Int64)  : Option (Int64) :=
  if v2 = (0 : Int64) then
    some (if 0 < v0 then v0 else -v0)
  else
    (h_g (h_nzL v2) <|
    (rec v2 (v0 - v0 / v2 * v2)).bind fun q2 =>
    some q2)
set_option maxHeartbeats 4000000 in
theorem sM_divisor_B (rec : Int64 → Int64 → Option (Int64)) (Dr : Nat) (hrec : ∀ d, Dr ≤ d → ∀ (v0 : Int64) (v2 : Int64) (I : hI) (J : hJ) (q : Int64), rec v0 v2 = some q → HMet hFT yX11_divisor cX11_divisor 4 (some .long) kdM d [.long v0, .long v2] (I, J, RMm) (some (.long q)) (I, J, RMm)) (d : Nat) (hd : (Dr + 0) + 1 ≤ d) (v0 : Int64) (v2 : Int64) (I : hI) (J : hJ) (q : Int64) (h : mM_divisor_B rec v0 v2 = some q) : HMet hFT yX11_divisor cX11_divisor 4 (some .long) kdM d [.long v0, .long v2] (I, J, RMm) (some (.long q)) (I, J, RMm) := by
  obtain ⟨d0, rfl, hd0⟩ := h_mono hd
  refine HMet.of (by decide) (Nat.le_of_ble_eq_true rfl) ?_
  show AW hFT cX11_divisor 4 (some .long) RX11 kdM (d0 + 1) [(0, .long v0), (2, .long v2)] 0 [] (I, J, RMm) (some (.long q)) (I, J, RMm)
  unfold mM_divisor_B at h
  refine a_lload_n dX11_divisor_0 rfl rfl ?_
  refine a_lconst dX11_divisor_1 lc_0 ?_
  refine a_lcmp_ne (tgt := 13) dX11_divisor_2 dX11_divisor_3 (by decide) (fun c => ?_) (fun c => ?_)
  · replace h := h_iteF c h
    refine a_lload_n dX11_divisor_13 rfl rfl ?_
    refine a_lload_n dX11_divisor_14 rfl rfl ?_
    refine a_lload_n dX11_divisor_15 rfl rfl ?_
    obtain ⟨g1, h⟩ := h_gS h
    refine a_lrem dX11_divisor_16 (h_nzLV g1) ?_
    obtain ⟨q2, cq2, h⟩ := h_bindS h
    refine a_callS1 [] yy_X11_divisor ml_11_476 (hrec _ (by omega) v2 (v0 - v0 / v2 * v2) I J q2 cq2) rfl rfl (Nat.le_of_ble_eq_true rfl) dX11_divisor_17 ?_
    cases h
    exact a_lret dX11_divisor_20
  · replace h := h_iteT c h
    refine a_lload_n dX11_divisor_6 rfl rfl ?_
    refine a_mabsL w_mabsL ml_11_472 (Nat.le_of_ble_eq_true rfl) dX11_divisor_7 ?_
    refine a_goto (tgt := 20) dX11_divisor_10 (by decide) ?_
    cases h
    exact a_lret dX11_divisor_20
def mM_divisor : Nat → Int64 → Int64 → Option (Int64)
  | 0 => fun _ _ => none
  | n + 1 => mM_divisor_B (mM_divisor n)
theorem sM_divisor : ∀ (n d : Nat), 1 * n + 1 ≤ d → ∀ (v0 : Int64) (v2 : Int64) (I : hI) (J : hJ) (q : Int64), mM_divisor n v0 v2 = some q → HMet hFT yX11_divisor cX11_divisor 4 (some .long) kdM d [.long v0, .long v2] (I, J, RMm) (some (.long q)) (I, J, RMm)
  | 0, d, hd, _, _, _, _, q, h => by cases h
  | n + 1, d, hd, v0, v2, I, J, q, h => sM_divisor_B (mM_divisor n) (1 * n + 1) (fun d hd => sM_divisor n d hd) d (by omega) v0 v2 I J q h
/-! CoinLoopsModel.determinant(I)J -/
theorem dX11_determinant_0 : decode cX11_determinant 0 = .ok (.lconst 1, 1) := by decide +kernel
theorem dX11_determinant_1 : decode cX11_determinant 1 = .ok (.lstore_n 2, 1) := by decide +kernel
theorem dX11_determinant_2 : decode cX11_determinant 2 = .ok (.lconst 1, 1) := by decide +kernel
theorem dX11_determinant_3 : decode cX11_determinant 3 = .ok (.lstore 4, 2) := by decide +kernel
theorem dX11_determinant_5 : decode cX11_determinant 5 = .ok (.iconst 0, 1) := by decide +kernel
theorem dX11_determinant_6 : decode cX11_determinant 6 = .ok (.istore 6, 2) := by decide +kernel
theorem dX11_determinant_8 : decode cX11_determinant 8 = .ok (.iload 6, 2) := by decide +kernel
theorem dX11_determinant_10 : decode cX11_determinant 10 = .ok (.iload_n 1, 1) := by decide +kernel
theorem dX11_determinant_11 : decode cX11_determinant 11 = .ok (.if_icmp .ge 265, 3) := by decide +kernel
theorem dX11_determinant_14 : decode cX11_determinant 14 = .ok (.iload 6, 2) := by decide +kernel
theorem dX11_determinant_16 : decode cX11_determinant 16 = .ok (.istore 7, 2) := by decide +kernel
theorem dX11_determinant_18 : decode cX11_determinant 18 = .ok (.iload 7, 2) := by decide +kernel
theorem dX11_determinant_20 : decode cX11_determinant 20 = .ok (.iload_n 1, 1) := by decide +kernel
theorem dX11_determinant_21 : decode cX11_determinant 21 = .ok (.if_icmp .ge 27, 3) := by decide +kernel
theorem dX11_determinant_24 : decode cX11_determinant 24 = .ok (.aload_n 0, 1) := by decide +kernel
theorem dX11_determinant_25 : decode cX11_determinant 25 = .ok (.getfield 132, 3) := by decide +kernel
theorem dX11_determinant_28 : decode cX11_determinant 28 = .ok (.bipush 10, 2) := by decide +kernel
theorem dX11_determinant_30 : decode cX11_determinant 30 = .ok (.iload 7, 2) := by decide +kernel
theorem dX11_determinant_32 : decode cX11_determinant 32 = .ok (.imul, 1) := by decide +kernel
theorem dX11_determinant_33 : decode cX11_determinant 33 = .ok (.iload 6, 2) := by decide +kernel
theorem dX11_determinant_35 : decode cX11_determinant 35 = .ok (.iadd, 1) := by decide +kernel
theorem dX11_determinant_36 : decode cX11_determinant 36 = .ok (.laload, 1) := by decide +kernel
theorem dX11_determinant_37 : decode cX11_determinant 37 = .ok (.lconst 0, 1) := by decide +kernel
theorem dX11_determinant_38 : decode cX11_determinant 38 = .ok (.lcmp, 1) := by decide +kernel
theorem dX11_determinant_39 : decode cX11_determinant 39 = .ok (.ifCond .ne 9, 3) := by decide +kernel
theorem dX11_determinant_42 : decode cX11_determinant 42 = .ok (.iinc 7 1, 3) := by decide +kernel
theorem dX11_determinant_45 : decode cX11_determinant 45 = .ok (.goto (-27), 3) := by decide +kernel
theorem dX11_determinant_48 : decode cX11_determinant 48 = .ok (.iload 7, 2) := by decide +kernel
theorem dX11_determinant_50 : decode cX11_determinant 50 = .ok (.iload_n 1, 1) := by decide +kernel
theorem dX11_determinant_51 : decode cX11_determinant 51 = .ok (.if_icmp .ne 5, 3) := by decide +kernel
theorem dX11_determinant_54 : decode cX11_determinant 54 = .ok (.lconst 0, 1) := by decide +kernel
theorem dX11_determinant_55 : decode cX11_determinant 55 = .ok (.lreturn, 1) := by decide +kernel
theorem dX11_determinant_56 : decode cX11_determinant 56 = .ok (.iconst 0, 1) := by decide +kernel
theorem dX11_determinant_57 : decode cX11_determinant 57 = .ok (.istore 8, 2) := by decide +kernel
theorem dX11_determinant_59 : decode cX11_determinant 59 = .ok (.iload 8, 2) := by decide +kernel
theorem dX11_determinant_61 : decode cX11_determinant 61 = .ok (.iload_n 1, 1) := by decide +kernel
theorem dX11_determinant_62 : decode cX11_determinant 62 = .ok (.if_icmp .ge 72, 3) := by decide +kernel
theorem dX11_determinant_65 : decode cX11_determinant 65 = .ok (.iload 7, 2) := by decide +kernel
theorem dX11_determinant_67 : decode cX11_determinant 67 = .ok (.iload 6, 2) := by decide +kernel
theorem dX11_determinant_69 : decode cX11_determinant 69 = .ok (.if_icmp .eq 65, 3) := by decide +kernel
theorem dX11_determinant_72 : decode cX11_determinant 72 = .ok (.aload_n 0, 1) := by decide +kernel
theorem dX11_determinant_73 : decode cX11_determinant 73 = .ok (.getfield 132, 3) := by decide +kernel
theorem dX11_determinant_76 : decode cX11_determinant 76 = .ok (.bipush 10, 2) := by decide +kernel
theorem dX11_determinant_78 : decode cX11_determinant 78 = .ok (.iload 7, 2) := by decide +kernel
theorem dX11_determinant_80 : decode cX11_determinant 80 = .ok (.imul, 1) := by decide +kernel
theorem dX11_determinant_81 : decode cX11_determinant 81 = .ok (.iload 8, 2) := by decide +kernel
theorem dX11_determinant_83 : decode cX11_determinant 83 = .ok (.iadd, 1) := by decide +kernel
theorem dX11_determinant_84 : decode cX11_determinant 84 = .ok (.laload, 1) := by decide +kernel
theorem dX11_determinant_85 : decode cX11_determinant 85 = .ok (.lstore 9, 2) := by decide +kernel
theorem dX11_determinant_87 : decode cX11_determinant 87 = .ok (.aload_n 0, 1) := by decide +kernel
theorem dX11_determinant_88 : decode cX11_determinant 88 = .ok (.getfield 132, 3) := by decide +kernel
theorem dX11_determinant_91 : decode cX11_determinant 91 = .ok (.bipush 10, 2) := by decide +kernel
theorem dX11_determinant_93 : decode cX11_determinant 93 = .ok (.iload 7, 2) := by decide +kernel
theorem dX11_determinant_95 : decode cX11_determinant 95 = .ok (.imul, 1) := by decide +kernel
theorem dX11_determinant_96 : decode cX11_determinant 96 = .ok (.iload 8, 2) := by decide +kernel
theorem dX11_determinant_98 : decode cX11_determinant 98 = .ok (.iadd, 1) := by decide +kernel
theorem dX11_determinant_99 : decode cX11_determinant 99 = .ok (.aload_n 0, 1) := by decide +kernel
theorem dX11_determinant_100 : decode cX11_determinant 100 = .ok (.getfield 132, 3) := by decide +kernel
theorem dX11_determinant_103 : decode cX11_determinant 103 = .ok (.bipush 10, 2) := by decide +kernel
theorem dX11_determinant_105 : decode cX11_determinant 105 = .ok (.iload 6, 2) := by decide +kernel
theorem dX11_determinant_107 : decode cX11_determinant 107 = .ok (.imul, 1) := by decide +kernel
theorem dX11_determinant_108 : decode cX11_determinant 108 = .ok (.iload 8, 2) := by decide +kernel
theorem dX11_determinant_110 : decode cX11_determinant 110 = .ok (.iadd, 1) := by decide +kernel
theorem dX11_determinant_111 : decode cX11_determinant 111 = .ok (.laload, 1) := by decide +kernel
theorem dX11_determinant_112 : decode cX11_determinant 112 = .ok (.lastore, 1) := by decide +kernel
theorem dX11_determinant_113 : decode cX11_determinant 113 = .ok (.aload_n 0, 1) := by decide +kernel
theorem dX11_determinant_114 : decode cX11_determinant 114 = .ok (.getfield 132, 3) := by decide +kernel
theorem dX11_determinant_117 : decode cX11_determinant 117 = .ok (.bipush 10, 2) := by decide +kernel
theorem dX11_determinant_119 : decode cX11_determinant 119 = .ok (.iload 6, 2) := by decide +kernel
theorem dX11_determinant_121 : decode cX11_determinant 121 = .ok (.imul, 1) := by decide +kernel
theorem dX11_determinant_122 : decode cX11_determinant 122 = .ok (.iload 8, 2) := by decide +kernel
theorem dX11_determinant_124 : decode cX11_determinant 124 = .ok (.iadd, 1) := by decide +kernel
theorem dX11_determinant_125 : decode cX11_determinant 125 = .ok (.lload 9, 2) := by decide +kernel
theorem dX11_determinant_127 : decode cX11_determinant 127 = .ok (.lastore, 1) := by decide +kernel
theorem dX11_determinant_128 : decode cX11_determinant 128 = .ok (.iinc 8 1, 3) := by decide +kernel
theorem dX11_determinant_131 : decode cX11_determinant 131 = .ok (.goto (-72), 3) := by decide +kernel
theorem dX11_determinant_134 : decode cX11_determinant 134 = .ok (.iload 7, 2) := by decide +kernel
theorem dX11_determinant_136 : decode cX11_determinant 136 = .ok (.iload 6, 2) := by decide +kernel
theorem dX11_determinant_138 : decode cX11_determinant 138 = .ok (.if_icmp .ne 7, 3) := by decide +kernel
theorem dX11_determinant_141 : decode cX11_determinant 141 = .ok (.lload_n 2, 1) := by decide +kernel
theorem dX11_determinant_142 : decode cX11_determinant 142 = .ok (.goto 5, 3) := by decide +kernel
theorem dX11_determinant_145 : decode cX11_determinant 145 = .ok (.lload_n 2, 1) := by decide +kernel
theorem dX11_determinant_146 : decode cX11_determinant 146 = .ok (.lneg, 1) := by decide +kernel
theorem dX11_determinant_147 : decode cX11_determinant 147 = .ok (.lstore_n 2, 1) := by decide +kernel
theorem dX11_determinant_148 : decode cX11_determinant 148 = .ok (.iload 6, 2) := by decide +kernel
theorem dX11_determinant_150 : decode cX11_determinant 150 = .ok (.iconst 1, 1) := by decide +kernel
theorem dX11_determinant_151 : decode cX11_determinant 151 = .ok (.iadd, 1) := by decide +kernel
theorem dX11_determinant_152 : decode cX11_determinant 152 = .ok (.istore 8, 2) := by decide +kernel
theorem dX11_determinant_154 : decode cX11_determinant 154 = .ok (.iload 8, 2) := by decide +kernel
theorem dX11_determinant_156 : decode cX11_determinant 156 = .ok (.iload_n 1, 1) := by decide +kernel
theorem dX11_determinant_157 : decode cX11_determinant 157 = .ok (.if_icmp .ge 98, 3) := by decide +kernel
theorem dX11_determinant_160 : decode cX11_determinant 160 = .ok (.iload 6, 2) := by decide +kernel
theorem dX11_determinant_162 : decode cX11_determinant 162 = .ok (.iconst 1, 1) := by decide +kernel
theorem dX11_determinant_163 : decode cX11_determinant 163 = .ok (.iadd, 1) := by decide +kernel
theorem dX11_determinant_164 : decode cX11_determinant 164 = .ok (.istore 9, 2) := by decide +kernel
theorem dX11_determinant_166 : decode cX11_determinant 166 = .ok (.iload 9, 2) := by decide +kernel
theorem dX11_determinant_168 : decode cX11_determinant 168 = .ok (.iload_n 1, 1) := by decide +kernel
theorem dX11_determinant_169 : decode cX11_determinant 169 = .ok (.if_icmp .ge 80, 3) := by decide +kernel
theorem dX11_determinant_172 : decode cX11_determinant 172 = .ok (.aload_n 0, 1) := by decide +kernel
theorem dX11_determinant_173 : decode cX11_determinant 173 = .ok (.getfield 132, 3) := by decide +kernel
theorem dX11_determinant_176 : decode cX11_determinant 176 = .ok (.bipush 10, 2) := by decide +kernel
theorem dX11_determinant_178 : decode cX11_determinant 178 = .ok (.iload 8, 2) := by decide +kernel
theorem dX11_determinant_180 : decode cX11_determinant 180 = .ok (.imul, 1) := by decide +kernel
theorem dX11_determinant_181 : decode cX11_determinant 181 = .ok (.iload 9, 2) := by decide +kernel
theorem dX11_determinant_183 : decode cX11_determinant 183 = .ok (.iadd, 1) := by decide +kernel
theorem dX11_determinant_184 : decode cX11_determinant 184 = .ok (.aload_n 0, 1) := by decide +kernel
theorem dX11_determinant_185 : decode cX11_determinant 185 = .ok (.getfield 132, 3) := by decide +kernel
theorem dX11_determinant_188 : decode cX11_determinant 188 = .ok (.bipush 10, 2) := by decide +kernel
theorem dX11_determinant_190 : decode cX11_determinant 190 = .ok (.iload 8, 2) := by decide +kernel
theorem dX11_determinant_192 : decode cX11_determinant 192 = .ok (.imul, 1) := by decide +kernel
theorem dX11_determinant_193 : decode cX11_determinant 193 = .ok (.iload 9, 2) := by decide +kernel
theorem dX11_determinant_195 : decode cX11_determinant 195 = .ok (.iadd, 1) := by decide +kernel
theorem dX11_determinant_196 : decode cX11_determinant 196 = .ok (.laload, 1) := by decide +kernel
theorem dX11_determinant_197 : decode cX11_determinant 197 = .ok (.aload_n 0, 1) := by decide +kernel
theorem dX11_determinant_198 : decode cX11_determinant 198 = .ok (.getfield 132, 3) := by decide +kernel
theorem dX11_determinant_201 : decode cX11_determinant 201 = .ok (.bipush 10, 2) := by decide +kernel
theorem dX11_determinant_203 : decode cX11_determinant 203 = .ok (.iload 6, 2) := by decide +kernel
theorem dX11_determinant_205 : decode cX11_determinant 205 = .ok (.imul, 1) := by decide +kernel
theorem dX11_determinant_206 : decode cX11_determinant 206 = .ok (.iload 6, 2) := by decide +kernel
theorem dX11_determinant_208 : decode cX11_determinant 208 = .ok (.iadd, 1) := by decide +kernel
theorem dX11_determinant_209 : decode cX11_determinant 209 = .ok (.laload, 1) := by decide +kernel
theorem dX11_determinant_210 : decode cX11_determinant 210 = .ok (.lmul, 1) := by decide +kernel
theorem dX11_determinant_211 : decode cX11_determinant 211 = .ok (.aload_n 0, 1) := by decide +kernel
theorem dX11_determinant_212 : decode cX11_determinant 212 = .ok (.getfield 132, 3) := by decide +kernel
theorem dX11_determinant_215 : decode cX11_determinant 215 = .ok (.bipush 10, 2) := by decide +kernel
theorem dX11_determinant_217 : decode cX11_determinant 217 = .ok (.iload 8, 2) := by decide +kernel
theorem dX11_determinant_219 : decode cX11_determinant 219 = .ok (.imul, 1) := by decide +kernel
theorem dX11_determinant_220 : decode cX11_determinant 220 = .ok (.iload 6, 2) := by decide +kernel
theorem dX11_determinant_222 : decode cX11_determinant 222 = .ok (.iadd, 1) := by decide +kernel
theorem dX11_determinant_223 : decode cX11_determinant 223 = .ok (.laload, 1) := by decide +kernel
theorem dX11_determinant_224 : decode cX11_determinant 224 = .ok (.aload_n 0, 1) := by decide +kernel
theorem dX11_determinant_225 : decode cX11_determinant 225 = .ok (.getfield 132, 3) := by decide +kernel
theorem dX11_determinant_228 : decode cX11_determinant 228 = .ok (.bipush 10, 2) := by decide +kernel
theorem dX11_determinant_230 : decode cX11_determinant 230 = .ok (.iload 6, 2) := by decide +kernel
theorem dX11_determinant_232 : decode cX11_determinant 232 = .ok (.imul, 1) := by decide +kernel
theorem dX11_determinant_233 : decode cX11_determinant 233 = .ok (.iload 9, 2) := by decide +kernel
theorem dX11_determinant_235 : decode cX11_determinant 235 = .ok (.iadd, 1) := by decide +kernel
theorem dX11_determinant_236 : decode cX11_determinant 236 = .ok (.laload, 1) := by decide +kernel
theorem dX11_determinant_237 : decode cX11_determinant 237 = .ok (.lmul, 1) := by decide +kernel
theorem dX11_determinant_238 : decode cX11_determinant 238 = .ok (.lsub, 1) := by decide +kernel
theorem dX11_determinant_239 : decode cX11_determinant 239 = .ok (.lload 4, 2) := by decide +kernel
theorem dX11_determinant_241 : decode cX11_determinant 241 = .ok (.ldiv, 1) := by decide +kernel
theorem dX11_determinant_242 : decode cX11_determinant 242 = .ok (.lastore, 1) := by decide +kernel
theorem dX11_determinant_243 : decode cX11_determinant 243 = .ok (.iinc 9 1, 3) := by decide +kernel
theorem dX11_determinant_246 : decode cX11_determinant 246 = .ok (.goto (-80), 3) := by decide +kernel
theorem dX11_determinant_249 : decode cX11_determinant 249 = .ok (.iinc 8 1, 3) := by decide +kernel
theorem dX11_determinant_252 : decode cX11_determinant 252 = .ok (.goto (-98), 3) := by decide +kernel
theorem dX11_determinant_255 : decode cX11_determinant 255 = .ok (.aload_n 0, 1) := by decide +kernel
theorem dX11_determinant_256 : decode cX11_determinant 256 = .ok (.getfield 132, 3) := by decide +kernel
theorem dX11_determinant_259 : decode cX11_determinant 259 = .ok (.bipush 10, 2) := by decide +kernel
theorem dX11_determinant_261 : decode cX11_determinant 261 = .ok (.iload 6, 2) := by decide +kernel
theorem dX11_determinant_263 : decode cX11_determinant 263 = .ok (.imul, 1) := by decide +kernel
theorem dX11_determinant_264 : decode cX11_determinant 264 = .ok (.iload 6, 2) := by decide +kernel
theorem dX11_determinant_266 : decode cX11_determinant 266 = .ok (.iadd, 1) := by decide +kernel
theorem dX11_determinant_267 : decode cX11_determinant 267 = .ok (.laload, 1) := by decide +kernel
theorem dX11_determinant_268 : decode cX11_determinant 268 = .ok (.lstore 4, 2) := by decide +kernel
theorem dX11_determinant_270 : decode cX11_determinant 270 = .ok (.iinc 6 1, 3) := by decide +kernel
theorem dX11_determinant_273 : decode cX11_determinant 273 = .ok (.goto (-265), 3) := by decide +kernel
theorem dX11_determinant_276 : decode cX11_determinant 276 = .ok (.iload_n 1, 1) := by decide +kernel
theorem dX11_determinant_277 : decode cX11_determinant 277 = .ok (.ifCond .ne 7, 3) := by decide +kernel
theorem dX11_determinant_280 : decode cX11_determinant 280 = .ok (.lconst 1, 1) := by decide +kernel
theorem dX11_determinant_281 : decode cX11_determinant 281 = .ok (.goto 7, 3) := by decide +kernel
theorem dX11_determinant_284 : decode cX11_determinant 284 = .ok (.lload_n 2, 1) := by decide +kernel
theorem dX11_determinant_285 : decode cX11_determinant 285 = .ok (.lload 4, 2) := by decide +kernel
theorem dX11_determinant_287 : decode cX11_determinant 287 = .ok (.lmul, 1) := by decide +kernel
theorem dX11_determinant_288 : decode cX11_determinant 288 = .ok (.lreturn, 1) := by decide +kernel
def mM_determinant_B166 (k8 : Int32 → Int64 → Int64 → Int32 → hJ → Option (Int64 × hJ)) (k154 : Int32 → Int64 → Int64 → Int32 → Int32 → hJ → Option (Int64 × hJ)) (k166 : Int32 → Int64 → Int64 → Int32 → Int32 → Int32 → hJ → Option (Int64 × hJ)) (v1 : Int32) (v2 : Int64) (v4 : Int64) (v6 : Int32) (v8 : Int32) (v9 : Int32) (J : hJ) : Option (Int64 × hJ) :=
  if v1 ≤ v9 then
    k154 v1 v2 v4 v6 (v8 + (1 : Int32)) J
  else
    (h_g (h_in (((10 : Int32) * v8) + v9) 100) <|
    h_g (h_in (((10 : Int32) * v6) + v6) 100) <|
    h_g (h_in (((10 : Int32) * v8) + v6) 100) <|
    h_g (h_in (((10 : Int32) * v6) + v9) 100) <|
    h_g (h_nzL v4) <|
    h_g (h_in (((10 : Int32) * v8) + v9) 100) <|
    h_let (h_u J 41 (((10 : Int32) * v8) + v9).toNatClampNeg ((((J 41 (((10 : Int32) * v8) + v9).toNatClampNeg) * (J 41 (((10 : Int32) * v6) + v6).toNatClampNeg)) - ((J 41 (((10 : Int32) * v8) + v6).toNatClampNeg) * (J 41 (((10 : Int32) * v6) + v9).toNatClampNeg))) / v4)) fun J7 =>
    k166 v1 v2 v4 v6 v8 (v9 + (1 : Int32)) J7)
set_option maxHeartbeats 4000000 in
theorem sM_determinant_B166 (d : Nat) (hd : 0 ≤ d) (k8 : Int32 → Int64 → Int64 → Int32 → hJ → Option (Int64 × hJ)) (hk8 : ∀ (v1 : Int32) (v2 : Int64) (v4 : Int64) (v6 : Int32) (I : hI) (J : hJ) (q : Int64 × hJ), k8 v1 v2 v4 v6 J = some q → AW hFT cX11_determinant 11 (some .long) RX11 kdM d [(0, .ref 0), (1, .int v1), (2, .long v2), (4, .long v4), (6, .int v6)] 8 [] (I, J, RMm) (some (.long q.1)) (I, q.2, RMm)) (k154 : Int32 → Int64 → Int64 → Int32 → Int32 → hJ → Option (Int64 × hJ)) (hk154 : ∀ (v1 : Int32) (v2 : Int64) (v4 : Int64) (v6 : Int32) (v8 : Int32) (I : hI) (J : hJ) (q : Int64 × hJ), k154 v1 v2 v4 v6 v8 J = some q → AW hFT cX11_determinant 11 (some .long) RX11 kdM d [(0, .ref 0), (1, .int v1), (2, .long v2), (4, .long v4), (6, .int v6), (8, .int v8)] 154 [] (I, J, RMm) (some (.long q.1)) (I, q.2, RMm)) (k166 : Int32 → Int64 → Int64 → Int32 → Int32 → Int32 → hJ → Option (Int64 × hJ)) (hk166 : ∀ (v1 : Int32) (v2 : Int64) (v4 : Int64) (v6 : Int32) (v8 : Int32) (v9 : Int32) (I : hI) (J : hJ) (q : Int64 × hJ), k166 v1 v2 v4 v6 v8 v9 J = some q → AW hFT cX11_determinant 11 (some .long) RX11 kdM d [(0, .ref 0), (1, .int v1), (2, .long v2), (4, .long v4), (6, .int v6), (8, .int v8), (9, .int v9)] 166 [] (I, J, RMm) (some (.long q.1)) (I, q.2, RMm)) (v1 : Int32) (v2 : Int64) (v4 : Int64) (v6 : Int32) (v8 : Int32) (v9 : Int32) (I : hI) (J : hJ) (q : Int64 × hJ) (h : mM_determinant_B166 k8 k154 k166 v1 v2 v4 v6 v8 v9 J = some q) : AW hFT cX11_determinant 11 (some .long) RX11 kdM d [(0, .ref 0), (1, .int v1), (2, .long v2), (4, .long v4), (6, .int v6), (8, .int v8), (9, .int v9)] 166 [] (I, J, RMm) (some (.long q.1)) (I, q.2, RMm) := by
  unfold mM_determinant_B166 at h
  refine a_iload dX11_determinant_166 rfl ?_
  refine a_iload_n dX11_determinant_168 rfl rfl ?_
  refine a_icmp_ge (tgt := 249) dX11_determinant_169 (by decide) (fun c => ?_) (fun c => ?_)
  · replace h := h_iteT c h
    refine b_iinc (lv' := [(8, .int (v8 + (1 : Int32))), (0, .ref 0), (1, .int v1), (2, .long v2), (4, .long v4), (6, .int v6), (9, .int v9)]) dX11_determinant_249 rfl ic_1 (by decide) rfl ?_
    refine a_goto (tgt := 154) dX11_determinant_252 (by decide) ?_
    refine a_sub (lv' := [(0, .ref 0), (1, .int v1), (2, .long v2), (4, .long v4), (6, .int v6), (8, .int (v8 + (1 : Int32)))]) [1, 2, 3, 4, 5, 0] rfl ?_
    exact hk154 v1 v2 v4 v6 (v8 + (1 : Int32)) I J _ h
  · replace h := h_iteF c h
    refine a_aload_n dX11_determinant_172 rfl rfl ?_
    refine b_getR hK_11 km_0 (i := 80) rfl fl_11_132 rfl rmm_80 dX11_determinant_173 ?_
    refine a_bipush dX11_determinant_176 bp_10 ?_
    refine a_iload dX11_determinant_178 rfl ?_
    refine a_imul dX11_determinant_180 ?_
    refine a_iload dX11_determinant_181 rfl ?_
    refine a_iadd dX11_determinant_183 ?_
    refine a_aload_n dX11_determinant_184 rfl rfl ?_
    refine b_getR hK_11 km_0 (i := 80) rfl fl_11_132 rfl rmm_80 dX11_determinant_185 ?_
    refine a_bipush dX11_determinant_188 bp_10 ?_
    refine a_iload dX11_determinant_190 rfl ?_
    refine a_imul dX11_determinant_192 ?_
    refine a_iload dX11_determinant_193 rfl ?_
    refine a_iadd dX11_determinant_195 ?_
    obtain ⟨g1, h⟩ := h_gS h
    refine b_laload km_41 (h_inV g1) dX11_determinant_196 ?_
    refine a_aload_n dX11_determinant_197 rfl rfl ?_
    refine b_getR hK_11 km_0 (i := 80) rfl fl_11_132 rfl rmm_80 dX11_determinant_198 ?_
    refine a_bipush dX11_determinant_201 bp_10 ?_
    refine a_iload dX11_determinant_203 rfl ?_
    refine a_imul dX11_determinant_205 ?_
    refine a_iload dX11_determinant_206 rfl ?_
    refine a_iadd dX11_determinant_208 ?_
    obtain ⟨g2, h⟩ := h_gS h
    refine b_laload km_41 (h_inV g2) dX11_determinant_209 ?_
    refine a_lmul dX11_determinant_210 ?_
    refine a_aload_n dX11_determinant_211 rfl rfl ?_
    refine b_getR hK_11 km_0 (i := 80) rfl fl_11_132 rfl rmm_80 dX11_determinant_212 ?_
    refine a_bipush dX11_determinant_215 bp_10 ?_
    refine a_iload dX11_determinant_217 rfl ?_
    refine a_imul dX11_determinant_219 ?_
    refine a_iload dX11_determinant_220 rfl ?_
    refine a_iadd dX11_determinant_222 ?_
    obtain ⟨g3, h⟩ := h_gS h
    refine b_laload km_41 (h_inV g3) dX11_determinant_223 ?_
    refine a_aload_n dX11_determinant_224 rfl rfl ?_
    refine b_getR hK_11 km_0 (i := 80) rfl fl_11_132 rfl rmm_80 dX11_determinant_225 ?_
    refine a_bipush dX11_determinant_228 bp_10 ?_
    refine a_iload dX11_determinant_230 rfl ?_
    refine a_imul dX11_determinant_232 ?_
    refine a_iload dX11_determinant_233 rfl ?_
    refine a_iadd dX11_determinant_235 ?_
    obtain ⟨g4, h⟩ := h_gS h
    refine b_laload km_41 (h_inV g4) dX11_determinant_236 ?_
    refine a_lmul dX11_determinant_237 ?_
    refine a_lsub dX11_determinant_238 ?_
    refine a_lload dX11_determinant_239 rfl ?_
    obtain ⟨g5, h⟩ := h_gS h
    refine a_ldiv dX11_determinant_241 (h_nzLV g5) ?_
    obtain ⟨g6, h⟩ := h_gS h
    refine b_lastore km_41 (h_inV g6) dX11_determinant_242 ?_
    obtain ⟨J7, eJ7, h⟩ := h_letS h
    refine a_memJ eJ7 ?_
    refine b_iinc (lv' := [(9, .int (v9 + (1 : Int32))), (0, .ref 0), (1, .int v1), (2, .long v2), (4, .long v4), (6, .int v6), (8, .int v8)]) dX11_determinant_243 rfl ic_1 (by decide) rfl ?_
    refine a_goto (tgt := 166) dX11_determinant_246 (by decide) ?_
    refine a_sub (lv' := [(0, .ref 0), (1, .int v1), (2, .long v2), (4, .long v4), (6, .int v6), (8, .int v8), (9, .int (v9 + (1 : Int32)))]) [1, 2, 3, 4, 5, 6, 0] rfl ?_
    exact hk166 v1 v2 v4 v6 v8 (v9 + (1 : Int32)) I J7 _ h
def mM_determinant_L166 (k8 : Int32 → Int64 → Int64 → Int32 → hJ → Option (Int64 × hJ)) (k154 : Int32 → Int64 → Int64 → Int32 → Int32 → hJ → Option (Int64 × hJ)) : Nat → Int32 → Int64 → Int64 → Int32 → Int32 → Int32 → hJ → Option (Int64 × hJ)
  | 0 => fun _ _ _ _ _ _ _ => none
  | n + 1 => mM_determinant_B166 k8 k154 (mM_determinant_L166 k8 k154 n)
theorem sM_determinant_L166 (d : Nat) (hd : 0 ≤ d) (k8 : Int32 → Int64 → Int64 → Int32 → hJ → Option (Int64 × hJ)) (hk8 : ∀ (v1 : Int32) (v2 : Int64) (v4 : Int64) (v6 : Int32) (I : hI) (J : hJ) (q : Int64 × hJ), k8 v1 v2 v4 v6 J = some q → AW hFT cX11_determinant 11 (some .long) RX11 kdM d [(0, .ref 0), (1, .int v1), (2, .long v2), (4, .long v4), (6, .int v6)] 8 [] (I, J, RMm) (some (.long q.1)) (I, q.2, RMm)) (k154 : Int32 → Int64 → Int64 → Int32 → Int32 → hJ → Option (Int64 × hJ)) (hk154 : ∀ (v1 : Int32) (v2 : Int64) (v4 : Int64) (v6 : Int32) (v8 : Int32) (I : hI) (J : hJ) (q : Int64 × hJ), k154 v1 v2 v4 v6 v8 J = some q → AW hFT cX11_determinant 11 (some .long) RX11 kdM d [(0, .ref 0), (1, .int v1), (2, .long v2), (4, .long v4), (6, .int v6), (8, .int v8)] 154 [] (I, J, RMm) (some (.long q.1)) (I, q.2, RMm)) : ∀ (n : Nat) (v1 : Int32) (v2 : Int64) (v4 : Int64) (v6 : Int32) (v8 : Int32) (v9 : Int32) (I : hI) (J : hJ) (q : Int64 × hJ) (h : mM_determinant_L166 k8 k154 n v1 v2 v4 v6 v8 v9 J = some q), AW hFT cX11_determinant 11 (some .long) RX11 kdM d [(0, .ref 0), (1, .int v1), (2, .long v2), (4, .long v4), (6, .int v6), (8, .int v8), (9, .int v9)] 166 [] (I, J, RMm) (some (.long q.1)) (I, q.2, RMm)
  | 0, _, _, _, _, _, _, _, _, q, h => by cases h
  | n + 1, v1, v2, v4, v6, v8, v9, I, J, q, h => sM_determinant_B166 d hd k8 hk8 k154 hk154 (mM_determinant_L166 k8 k154 n) (sM_determinant_L166 d hd k8 hk8 k154 hk154 n) v1 v2 v4 v6 v8 v9 I J q h
def mM_determinant_B154 (k8 : Int32 → Int64 → Int64 → Int32 → hJ → Option (Int64 × hJ)) (k154 : Int32 → Int64 → Int64 → Int32 → Int32 → hJ → Option (Int64 × hJ)) (v1 : Int32) (v2 : Int64) (v4 : Int64) (v6 : Int32) (v8 : Int32) (J : hJ) : Option (Int64 × hJ) :=
  if v1 ≤ v8 then
    (h_g (h_in (((10 : Int32) * v6) + v6) 100) <|
    h_let (J 41 (((10 : Int32) * v6) + v6).toNatClampNeg) fun v4x1 =>
    k8 v1 v2 v4x1 (v6 + (1 : Int32)) J)
  else
    (h_let (v6 + (1 : Int32)) fun v9x0 =>
    mM_determinant_L166 k8 k154 hF v1 v2 v4 v6 v8 v9x0 J)
set_option maxHeartbeats 4000000 in
theorem sM_determinant_B154 (d : Nat) (hd : 0 ≤ d) (k8 : Int32 → Int64 → Int64 → Int32 → hJ → Option (Int64 × hJ)) (hk8 : ∀ (v1 : Int32) (v2 : Int64) (v4 : Int64) (v6 : Int32) (I : hI) (J : hJ) (q : Int64 × hJ), k8 v1 v2 v4 v6 J = some q → AW hFT cX11_determinant 11 (some .long) RX11 kdM d [(0, .ref 0), (1, .int v1), (2, .long v2), (4, .long v4), (6, .int v6)] 8 [] (I, J, RMm) (some (.long q.1)) (I, q.2, RMm)) (k154 : Int32 → Int64 → Int64 → Int32 → Int32 → hJ → Option (Int64 × hJ)) (hk154 : ∀ (v1 : Int32) (v2 : Int64) (v4 : Int64) (v6 : Int32) (v8 : Int32) (I : hI) (J : hJ) (q : Int64 × hJ), k154 v1 v2 v4 v6 v8 J = some q → AW hFT cX11_determinant 11 (some .long) RX11 kdM d [(0, .ref 0), (1, .int v1), (2, .long v2), (4, .long v4), (6, .int v6), (8, .int v8)] 154 [] (I, J, RMm) (some (.long q.1)) (I, q.2, RMm)) (v1 : Int32) (v2 : Int64) (v4 : Int64) (v6 : Int32) (v8 : Int32) (I : hI) (J : hJ) (q : Int64 × hJ) (h : mM_determinant_B154 k8 k154 v1 v2 v4 v6 v8 J = some q) : AW hFT cX11_determinant 11 (some .long) RX11 kdM d [(0, .ref 0), (1, .int v1), (2, .long v2), (4, .long v4), (6, .int v6), (8, .int v8)] 154 [] (I, J, RMm) (some (.long q.1)) (I, q.2, RMm) := by
  unfold mM_determinant_B154 at h
  refine a_iload dX11_determinant_154 rfl ?_
  refine a_iload_n dX11_determinant_156 rfl rfl ?_
  refine a_icmp_ge (tgt := 255) dX11_determinant_157 (by decide) (fun c => ?_) (fun c => ?_)
  · replace h := h_iteT c h
    refine a_aload_n dX11_determinant_255 rfl rfl ?_
    refine b_getR hK_11 km_0 (i := 80) rfl fl_11_132 rfl rmm_80 dX11_determinant_256 ?_
    refine a_bipush dX11_determinant_259 bp_10 ?_
    refine a_iload dX11_determinant_261 rfl ?_
    refine a_imul dX11_determinant_263 ?_
    refine a_iload dX11_determinant_264 rfl ?_
    refine a_iadd dX11_determinant_266 ?_
    obtain ⟨g1, h⟩ := h_gS h
    refine b_laload km_41 (h_inV g1) dX11_determinant_267 ?_
    obtain ⟨v4x1, ev4x1, h⟩ := h_letS h
    refine a_topJ ev4x1 ?_
    refine a_lstore (lv' := [(4, .long v4x1), (0, .ref 0), (1, .int v1), (2, .long v2), (6, .int v6), (8, .int v8)]) dX11_determinant_268 (by decide) rfl ?_
    refine b_iinc (lv' := [(6, .int (v6 + (1 : Int32))), (4, .long v4x1), (0, .ref 0), (1, .int v1), (2, .long v2), (8, .int v8)]) dX11_determinant_270 rfl ic_1 (by decide) rfl ?_
    refine a_goto (tgt := 8) dX11_determinant_273 (by decide) ?_
    refine a_sub (lv' := [(0, .ref 0), (1, .int v1), (2, .long v2), (4, .long v4x1), (6, .int (v6 + (1 : Int32)))]) [2, 3, 4, 1, 0] rfl ?_
    exact hk8 v1 v2 v4x1 (v6 + (1 : Int32)) I J _ h
  · replace h := h_iteF c h
    refine a_iload dX11_determinant_160 rfl ?_
    refine a_iconst dX11_determinant_162 ic_1 ?_
    refine a_iadd dX11_determinant_163 ?_
    obtain ⟨v9x0, ev9x0, h⟩ := h_letS h
    refine a_topI ev9x0 ?_
    refine a_istore (lv' := [(9, .int v9x0), (0, .ref 0), (1, .int v1), (2, .long v2), (4, .long v4), (6, .int v6), (8, .int v8)]) dX11_determinant_164 (by decide) rfl ?_
    refine a_sub (lv' := [(0, .ref 0), (1, .int v1), (2, .long v2), (4, .long v4), (6, .int v6), (8, .int v8), (9, .int v9x0)]) [1, 2, 3, 4, 5, 6, 0] rfl ?_
    exact sM_determinant_L166 d (by omega) k8 hk8 k154 hk154 hF v1 v2 v4 v6 v8 v9x0 I J _ h
def mM_determinant_L154 (k8 : Int32 → Int64 → Int64 → Int32 → hJ → Option (Int64 × hJ)) : Nat → Int32 → Int64 → Int64 → Int32 → Int32 → hJ → Option (Int64 × hJ)
  | 0 => fun _ _ _ _ _ _ => none
  | n + 1 => mM_determinant_B154 k8 (mM_determinant_L154 k8 n)
theorem sM_determinant_L154 (d : Nat) (hd : 0 ≤ d) (k8 : Int32 → Int64 → Int64 → Int32 → hJ → Option (Int64 × hJ)) (hk8 : ∀ (v1 : Int32) (v2 : Int64) (v4 : Int64) (v6 : Int32) (I : hI) (J : hJ) (q : Int64 × hJ), k8 v1 v2 v4 v6 J = some q → AW hFT cX11_determinant 11 (some .long) RX11 kdM d [(0, .ref 0), (1, .int v1), (2, .long v2), (4, .long v4), (6, .int v6)] 8 [] (I, J, RMm) (some (.long q.1)) (I, q.2, RMm)) : ∀ (n : Nat) (v1 : Int32) (v2 : Int64) (v4 : Int64) (v6 : Int32) (v8 : Int32) (I : hI) (J : hJ) (q : Int64 × hJ) (h : mM_determinant_L154 k8 n v1 v2 v4 v6 v8 J = some q), AW hFT cX11_determinant 11 (some .long) RX11 kdM d [(0, .ref 0), (1, .int v1), (2, .long v2), (4, .long v4), (6, .int v6), (8, .int v8)] 154 [] (I, J, RMm) (some (.long q.1)) (I, q.2, RMm)
  | 0, _, _, _, _, _, _, _, q, h => by cases h
  | n + 1, v1, v2, v4, v6, v8, I, J, q, h => sM_determinant_B154 d hd k8 hk8 (mM_determinant_L154 k8 n) (sM_determinant_L154 d hd k8 hk8 n) v1 v2 v4 v6 v8 I J q h
def mM_determinant_134 (k8 : Int32 → Int64 → Int64 → Int32 → hJ → Option (Int64 × hJ)) (v1 : Int32) (v2 : Int64) (v4 : Int64) (v6 : Int32) (v7 : Int32) (J : hJ) : Option (Int64 × hJ) :=
  if v7 = v6 then
    (h_let (v6 + (1 : Int32)) fun v8x0 =>
    mM_determinant_L154 k8 hF v1 v2 v4 v6 v8x0 J)
  else
    (h_let (-v2) fun v2x0 =>
    h_let (v6 + (1 : Int32)) fun v8x1 =>
    mM_determinant_L154 k8 hF v1 v2x0 v4 v6 v8x1 J)
set_option maxHeartbeats 4000000 in
theorem sM_determinant_134 (d : Nat) (hd : 0 ≤ d) (k8 : Int32 → Int64 → Int64 → Int32 → hJ → Option (Int64 × hJ)) (hk8 : ∀ (v1 : Int32) (v2 : Int64) (v4 : Int64) (v6 : Int32) (I : hI) (J : hJ) (q : Int64 × hJ), k8 v1 v2 v4 v6 J = some q → AW hFT cX11_determinant 11 (some .long) RX11 kdM d [(0, .ref 0), (1, .int v1), (2, .long v2), (4, .long v4), (6, .int v6)] 8 [] (I, J, RMm) (some (.long q.1)) (I, q.2, RMm)) (v1 : Int32) (v2 : Int64) (v4 : Int64) (v6 : Int32) (v7 : Int32) (I : hI) (J : hJ) (q : Int64 × hJ) (h : mM_determinant_134 k8 v1 v2 v4 v6 v7 J = some q) : AW hFT cX11_determinant 11 (some .long) RX11 kdM d [(0, .ref 0), (1, .int v1), (2, .long v2), (4, .long v4), (6, .int v6), (7, .int v7)] 134 [] (I, J, RMm) (some (.long q.1)) (I, q.2, RMm) := by
  unfold mM_determinant_134 at h
  refine a_iload dX11_determinant_134 rfl ?_
  refine a_iload dX11_determinant_136 rfl ?_
  refine a_icmp_ne (tgt := 145) dX11_determinant_138 (by decide) (fun c => ?_) (fun c => ?_)
  · replace h := h_iteF c h
    refine a_lload_n dX11_determinant_145 rfl rfl ?_
    refine a_lneg dX11_determinant_146 ?_
    obtain ⟨v2x0, ev2x0, h⟩ := h_letS h
    refine a_topJ ev2x0 ?_
    refine a_lstore_n (lv' := [(2, .long v2x0), (0, .ref 0), (1, .int v1), (4, .long v4), (6, .int v6), (7, .int v7)]) dX11_determinant_147 rfl (by decide) rfl ?_
    refine a_iload dX11_determinant_148 rfl ?_
    refine a_iconst dX11_determinant_150 ic_1 ?_
    refine a_iadd dX11_determinant_151 ?_
    obtain ⟨v8x1, ev8x1, h⟩ := h_letS h
    refine a_topI ev8x1 ?_
    refine a_istore (lv' := [(8, .int v8x1), (2, .long v2x0), (0, .ref 0), (1, .int v1), (4, .long v4), (6, .int v6), (7, .int v7)]) dX11_determinant_152 (by decide) rfl ?_
    refine a_sub (lv' := [(0, .ref 0), (1, .int v1), (2, .long v2x0), (4, .long v4), (6, .int v6), (8, .int v8x1)]) [2, 3, 1, 4, 5, 0] rfl ?_
    exact sM_determinant_L154 d (by omega) k8 hk8 hF v1 v2x0 v4 v6 v8x1 I J _ h
  · replace h := h_iteT c h
    refine a_lload_n dX11_determinant_141 rfl rfl ?_
    refine a_goto (tgt := 147) dX11_determinant_142 (by decide) ?_
    refine a_lstore_n (lv' := [(2, .long v2), (0, .ref 0), (1, .int v1), (4, .long v4), (6, .int v6), (7, .int v7)]) dX11_determinant_147 rfl (by decide) rfl ?_
    refine a_iload dX11_determinant_148 rfl ?_
    refine a_iconst dX11_determinant_150 ic_1 ?_
    refine a_iadd dX11_determinant_151 ?_
    obtain ⟨v8x0, ev8x0, h⟩ := h_letS h
    refine a_topI ev8x0 ?_
    refine a_istore (lv' := [(8, .int v8x0), (2, .long v2), (0, .ref 0), (1, .int v1), (4, .long v4), (6, .int v6), (7, .int v7)]) dX11_determinant_152 (by decide) rfl ?_
    refine a_sub (lv' := [(0, .ref 0), (1, .int v1), (2, .long v2), (4, .long v4), (6, .int v6), (8, .int v8x0)]) [2, 3, 1, 4, 5, 0] rfl ?_
    exact sM_determinant_L154 d (by omega) k8 hk8 hF v1 v2 v4 v6 v8x0 I J _ h
def mM_determinant_B59 (k8 : Int32 → Int64 → Int64 → Int32 → hJ → Option (Int64 × hJ)) (k59 : Int32 → Int64 → Int64 → Int32 → Int32 → Int32 → hJ → Option (Int64 × hJ)) (v1 : Int32) (v2 : Int64) (v4 : Int64) (v6 : Int32) (v7 : Int32) (v8 : Int32) (J : hJ) : Option (Int64 × hJ) :=
  if v1 ≤ v8 then
    mM_determinant_134 k8 v1 v2 v4 v6 v7 J
  else
    (if v7 = v6 then
      mM_determinant_134 k8 v1 v2 v4 v6 v7 J
    else
      (h_g (h_in (((10 : Int32) * v7) + v8) 100) <|
      h_let (J 41 (((10 : Int32) * v7) + v8).toNatClampNeg) fun v9x1 =>
      h_g (h_in (((10 : Int32) * v6) + v8) 100) <|
      h_g (h_in (((10 : Int32) * v7) + v8) 100) <|
      h_let (h_u J 41 (((10 : Int32) * v7) + v8).toNatClampNeg (J 41 (((10 : Int32) * v6) + v8).toNatClampNeg)) fun J5 =>
      h_g (h_in (((10 : Int32) * v6) + v8) 100) <|
      h_let (h_u J5 41 (((10 : Int32) * v6) + v8).toNatClampNeg v9x1) fun J7 =>
      k59 v1 v2 v4 v6 v7 (v8 + (1 : Int32)) J7))
set_option maxHeartbeats 4000000 in
theorem sM_determinant_B59 (d : Nat) (hd : 0 ≤ d) (k8 : Int32 → Int64 → Int64 → Int32 → hJ → Option (Int64 × hJ)) (hk8 : ∀ (v1 : Int32) (v2 : Int64) (v4 : Int64) (v6 : Int32) (I : hI) (J : hJ) (q : Int64 × hJ), k8 v1 v2 v4 v6 J = some q → AW hFT cX11_determinant 11 (some .long) RX11 kdM d [(0, .ref 0), (1, .int v1), (2, .long v2), (4, .long v4), (6, .int v6)] 8 [] (I, J, RMm) (some (.long q.1)) (I, q.2, RMm)) (k59 : Int32 → Int64 → Int64 → Int32 → Int32 → Int32 → hJ → Option (Int64 × hJ)) (hk59 : ∀ (v1 : Int32) (v2 : Int64) (v4 : Int64) (v6 : Int32) (v7 : Int32) (v8 : Int32) (I : hI) (J : hJ) (q : Int64 × hJ), k59 v1 v2 v4 v6 v7 v8 J = some q → AW hFT cX11_determinant 11 (some .long) RX11 kdM d [(0, .ref 0), (1, .int v1), (2, .long v2), (4, .long v4), (6, .int v6), (7, .int v7), (8, .int v8)] 59 [] (I, J, RMm) (some (.long q.1)) (I, q.2, RMm)) (v1 : Int32) (v2 : Int64) (v4 : Int64) (v6 : Int32) (v7 : Int32) (v8 : Int32) (I : hI) (J : hJ) (q : Int64 × hJ) (h : mM_determinant_B59 k8 k59 v1 v2 v4 v6 v7 v8 J = some q) : AW hFT cX11_determinant 11 (some .long) RX11 kdM d [(0, .ref 0), (1, .int v1), (2, .long v2), (4, .long v4), (6, .int v6), (7, .int v7), (8, .int v8)] 59 [] (I, J, RMm) (some (.long q.1)) (I, q.2, RMm) := by
  unfold mM_determinant_B59 at h
  refine a_iload dX11_determinant_59 rfl ?_
  refine a_iload_n dX11_determinant_61 rfl rfl ?_
  refine a_icmp_ge (tgt := 134) dX11_determinant_62 (by decide) (fun c => ?_) (fun c => ?_)
  · replace h := h_iteT c h
    refine a_sub (lv' := [(0, .ref 0), (1, .int v1), (2, .long v2), (4, .long v4), (6, .int v6), (7, .int v7)]) [0, 1, 2, 3, 4, 5] rfl ?_
    exact sM_determinant_134 d (by omega) k8 hk8 v1 v2 v4 v6 v7 I J _ h
  · replace h := h_iteF c h
    refine a_iload dX11_determinant_65 rfl ?_
    refine a_iload dX11_determinant_67 rfl ?_
    refine a_icmp_eq (tgt := 134) dX11_determinant_69 (by decide) (fun c => ?_) (fun c => ?_)
    · replace h := h_iteT c h
      refine a_sub (lv' := [(0, .ref 0), (1, .int v1), (2, .long v2), (4, .long v4), (6, .int v6), (7, .int v7)]) [0, 1, 2, 3, 4, 5] rfl ?_
      exact sM_determinant_134 d (by omega) k8 hk8 v1 v2 v4 v6 v7 I J _ h
    · replace h := h_iteF c h
      refine a_aload_n dX11_determinant_72 rfl rfl ?_
      refine b_getR hK_11 km_0 (i := 80) rfl fl_11_132 rfl rmm_80 dX11_determinant_73 ?_
      refine a_bipush dX11_determinant_76 bp_10 ?_
      refine a_iload dX11_determinant_78 rfl ?_
      refine a_imul dX11_determinant_80 ?_
      refine a_iload dX11_determinant_81 rfl ?_
      refine a_iadd dX11_determinant_83 ?_
      obtain ⟨g1, h⟩ := h_gS h
      refine b_laload km_41 (h_inV g1) dX11_determinant_84 ?_
      obtain ⟨v9x1, ev9x1, h⟩ := h_letS h
      refine a_topJ ev9x1 ?_
      refine a_lstore (lv' := [(9, .long v9x1), (0, .ref 0), (1, .int v1), (2, .long v2), (4, .long v4), (6, .int v6), (7, .int v7), (8, .int v8)]) dX11_determinant_85 (by decide) rfl ?_
      refine a_aload_n dX11_determinant_87 rfl rfl ?_
      refine b_getR hK_11 km_0 (i := 80) rfl fl_11_132 rfl rmm_80 dX11_determinant_88 ?_
      refine a_bipush dX11_determinant_91 bp_10 ?_
      refine a_iload dX11_determinant_93 rfl ?_
      refine a_imul dX11_determinant_95 ?_
      refine a_iload dX11_determinant_96 rfl ?_
      refine a_iadd dX11_determinant_98 ?_
      refine a_aload_n dX11_determinant_99 rfl rfl ?_
      refine b_getR hK_11 km_0 (i := 80) rfl fl_11_132 rfl rmm_80 dX11_determinant_100 ?_
      refine a_bipush dX11_determinant_103 bp_10 ?_
      refine a_iload dX11_determinant_105 rfl ?_
      refine a_imul dX11_determinant_107 ?_
      refine a_iload dX11_determinant_108 rfl ?_
      refine a_iadd dX11_determinant_110 ?_
      obtain ⟨g3, h⟩ := h_gS h
      refine b_laload km_41 (h_inV g3) dX11_determinant_111 ?_
      obtain ⟨g4, h⟩ := h_gS h
      refine b_lastore km_41 (h_inV g4) dX11_determinant_112 ?_
      obtain ⟨J5, eJ5, h⟩ := h_letS h
      refine a_memJ eJ5 ?_
      refine a_aload_n dX11_determinant_113 rfl rfl ?_
      refine b_getR hK_11 km_0 (i := 80) rfl fl_11_132 rfl rmm_80 dX11_determinant_114 ?_
      refine a_bipush dX11_determinant_117 bp_10 ?_
      refine a_iload dX11_determinant_119 rfl ?_
      refine a_imul dX11_determinant_121 ?_
      refine a_iload dX11_determinant_122 rfl ?_
      refine a_iadd dX11_determinant_124 ?_
      refine a_lload dX11_determinant_125 rfl ?_
      obtain ⟨g6, h⟩ := h_gS h
      refine b_lastore km_41 (h_inV g6) dX11_determinant_127 ?_
      obtain ⟨J7, eJ7, h⟩ := h_letS h
      refine a_memJ eJ7 ?_
      refine b_iinc (lv' := [(8, .int (v8 + (1 : Int32))), (9, .long v9x1), (0, .ref 0), (1, .int v1), (2, .long v2), (4, .long v4), (6, .int v6), (7, .int v7)]) dX11_determinant_128 rfl ic_1 (by decide) rfl ?_
      refine a_goto (tgt := 59) dX11_determinant_131 (by decide) ?_
      refine a_sub (lv' := [(0, .ref 0), (1, .int v1), (2, .long v2), (4, .long v4), (6, .int v6), (7, .int v7), (8, .int (v8 + (1 : Int32)))]) [2, 3, 4, 5, 6, 7, 0] rfl ?_
      exact hk59 v1 v2 v4 v6 v7 (v8 + (1 : Int32)) I J7 _ h
def mM_determinant_L59 (k8 : Int32 → Int64 → Int64 → Int32 → hJ → Option (Int64 × hJ)) : Nat → Int32 → Int64 → Int64 → Int32 → Int32 → Int32 → hJ → Option (Int64 × hJ)
  | 0 => fun _ _ _ _ _ _ _ => none
  | n + 1 => mM_determinant_B59 k8 (mM_determinant_L59 k8 n)
theorem sM_determinant_L59 (d : Nat) (hd : 0 ≤ d) (k8 : Int32 → Int64 → Int64 → Int32 → hJ → Option (Int64 × hJ)) (hk8 : ∀ (v1 : Int32) (v2 : Int64) (v4 : Int64) (v6 : Int32) (I : hI) (J : hJ) (q : Int64 × hJ), k8 v1 v2 v4 v6 J = some q → AW hFT cX11_determinant 11 (some .long) RX11 kdM d [(0, .ref 0), (1, .int v1), (2, .long v2), (4, .long v4), (6, .int v6)] 8 [] (I, J, RMm) (some (.long q.1)) (I, q.2, RMm)) : ∀ (n : Nat) (v1 : Int32) (v2 : Int64) (v4 : Int64) (v6 : Int32) (v7 : Int32) (v8 : Int32) (I : hI) (J : hJ) (q : Int64 × hJ) (h : mM_determinant_L59 k8 n v1 v2 v4 v6 v7 v8 J = some q), AW hFT cX11_determinant 11 (some .long) RX11 kdM d [(0, .ref 0), (1, .int v1), (2, .long v2), (4, .long v4), (6, .int v6), (7, .int v7), (8, .int v8)] 59 [] (I, J, RMm) (some (.long q.1)) (I, q.2, RMm)
  | 0, _, _, _, _, _, _, _, _, q, h => by cases h
  | n + 1, v1, v2, v4, v6, v7, v8, I, J, q, h => sM_determinant_B59 d hd k8 hk8 (mM_determinant_L59 k8 n) (sM_determinant_L59 d hd k8 hk8 n) v1 v2 v4 v6 v7 v8 I J q h
def mM_determinant_48 (k8 : Int32 → Int64 → Int64 → Int32 → hJ → Option (Int64 × hJ)) (v1 : Int32) (v2 : Int64) (v4 : Int64) (v6 : Int32) (v7 : Int32) (J : hJ) : Option (Int64 × hJ) :=
  if v7 = v1 then
    some ((0 : Int64), J)
  else
    mM_determinant_L59 k8 hF v1 v2 v4 v6 v7 (0 : Int32) J
set_option maxHeartbeats 4000000 in
theorem sM_determinant_48 (d : Nat) (hd : 0 ≤ d) (k8 : Int32 → Int64 → Int64 → Int32 → hJ → Option (Int64 × hJ)) (hk8 : ∀ (v1 : Int32) (v2 : Int64) (v4 : Int64) (v6 : Int32) (I : hI) (J : hJ) (q : Int64 × hJ), k8 v1 v2 v4 v6 J = some q → AW hFT cX11_determinant 11 (some .long) RX11 kdM d [(0, .ref 0), (1, .int v1), (2, .long v2), (4, .long v4), (6, .int v6)] 8 [] (I, J, RMm) (some (.long q.1)) (I, q.2, RMm)) (v1 : Int32) (v2 : Int64) (v4 : Int64) (v6 : Int32) (v7 : Int32) (I : hI) (J : hJ) (q : Int64 × hJ) (h : mM_determinant_48 k8 v1 v2 v4 v6 v7 J = some q) : AW hFT cX11_determinant 11 (some .long) RX11 kdM d [(0, .ref 0), (1, .int v1), (2, .long v2), (4, .long v4), (6, .int v6), (7, .int v7)] 48 [] (I, J, RMm) (some (.long q.1)) (I, q.2, RMm) := by
  unfold mM_determinant_48 at h
  refine a_iload dX11_determinant_48 rfl ?_
  refine a_iload_n dX11_determinant_50 rfl rfl ?_
  refine a_icmp_ne (tgt := 56) dX11_determinant_51 (by decide) (fun c => ?_) (fun c => ?_)
  · replace h := h_iteF c h
    refine a_iconst dX11_determinant_56 ic_0 ?_
    refine a_istore (lv' := [(8, .int (0 : Int32)), (0, .ref 0), (1, .int v1), (2, .long v2), (4, .long v4), (6, .int v6), (7, .int v7)]) dX11_determinant_57 (by decide) rfl ?_
    refine a_sub (lv' := [(0, .ref 0), (1, .int v1), (2, .long v2), (4, .long v4), (6, .int v6), (7, .int v7), (8, .int (0 : Int32))]) [1, 2, 3, 4, 5, 6, 0] rfl ?_
    exact sM_determinant_L59 d (by omega) k8 hk8 hF v1 v2 v4 v6 v7 (0 : Int32) I J _ h
  · replace h := h_iteT c h
    refine a_lconst dX11_determinant_54 lc_0 ?_
    cases h
    exact a_lret dX11_determinant_55
def mM_determinant_B18 (k8 : Int32 → Int64 → Int64 → Int32 → hJ → Option (Int64 × hJ)) (k18 : Int32 → Int64 → Int64 → Int32 → Int32 → hJ → Option (Int64 × hJ)) (v1 : Int32) (v2 : Int64) (v4 : Int64) (v6 : Int32) (v7 : Int32) (J : hJ) : Option (Int64 × hJ) :=
  if v1 ≤ v7 then
    mM_determinant_48 k8 v1 v2 v4 v6 v7 J
  else
    (h_g (h_in (((10 : Int32) * v7) + v6) 100) <|
    if (J 41 (((10 : Int32) * v7) + v6).toNatClampNeg) = (0 : Int64) then
      k18 v1 v2 v4 v6 (v7 + (1 : Int32)) J
    else
      mM_determinant_48 k8 v1 v2 v4 v6 v7 J)
set_option maxHeartbeats 4000000 in
theorem sM_determinant_B18 (d : Nat) (hd : 0 ≤ d) (k8 : Int32 → Int64 → Int64 → Int32 → hJ → Option (Int64 × hJ)) (hk8 : ∀ (v1 : Int32) (v2 : Int64) (v4 : Int64) (v6 : Int32) (I : hI) (J : hJ) (q : Int64 × hJ), k8 v1 v2 v4 v6 J = some q → AW hFT cX11_determinant 11 (some .long) RX11 kdM d [(0, .ref 0), (1, .int v1), (2, .long v2), (4, .long v4), (6, .int v6)] 8 [] (I, J, RMm) (some (.long q.1)) (I, q.2, RMm)) (k18 : Int32 → Int64 → Int64 → Int32 → Int32 → hJ → Option (Int64 × hJ)) (hk18 : ∀ (v1 : Int32) (v2 : Int64) (v4 : Int64) (v6 : Int32) (v7 : Int32) (I : hI) (J : hJ) (q : Int64 × hJ), k18 v1 v2 v4 v6 v7 J = some q → AW hFT cX11_determinant 11 (some .long) RX11 kdM d [(0, .ref 0), (1, .int v1), (2, .long v2), (4, .long v4), (6, .int v6), (7, .int v7)] 18 [] (I, J, RMm) (some (.long q.1)) (I, q.2, RMm)) (v1 : Int32) (v2 : Int64) (v4 : Int64) (v6 : Int32) (v7 : Int32) (I : hI) (J : hJ) (q : Int64 × hJ) (h : mM_determinant_B18 k8 k18 v1 v2 v4 v6 v7 J = some q) : AW hFT cX11_determinant 11 (some .long) RX11 kdM d [(0, .ref 0), (1, .int v1), (2, .long v2), (4, .long v4), (6, .int v6), (7, .int v7)] 18 [] (I, J, RMm) (some (.long q.1)) (I, q.2, RMm) := by
  unfold mM_determinant_B18 at h
  refine a_iload dX11_determinant_18 rfl ?_
  refine a_iload_n dX11_determinant_20 rfl rfl ?_
  refine a_icmp_ge (tgt := 48) dX11_determinant_21 (by decide) (fun c => ?_) (fun c => ?_)
  · replace h := h_iteT c h
    exact sM_determinant_48 d (by omega) k8 hk8 v1 v2 v4 v6 v7 I J _ h
  · replace h := h_iteF c h
    refine a_aload_n dX11_determinant_24 rfl rfl ?_
    refine b_getR hK_11 km_0 (i := 80) rfl fl_11_132 rfl rmm_80 dX11_determinant_25 ?_
    refine a_bipush dX11_determinant_28 bp_10 ?_
    refine a_iload dX11_determinant_30 rfl ?_
    refine a_imul dX11_determinant_32 ?_
    refine a_iload dX11_determinant_33 rfl ?_
    refine a_iadd dX11_determinant_35 ?_
    obtain ⟨g1, h⟩ := h_gS h
    refine b_laload km_41 (h_inV g1) dX11_determinant_36 ?_
    refine a_lconst dX11_determinant_37 lc_0 ?_
    refine a_lcmp_ne (tgt := 48) dX11_determinant_38 dX11_determinant_39 (by decide) (fun c => ?_) (fun c => ?_)
    · replace h := h_iteF c h
      exact sM_determinant_48 d (by omega) k8 hk8 v1 v2 v4 v6 v7 I J _ h
    · replace h := h_iteT c h
      refine b_iinc (lv' := [(7, .int (v7 + (1 : Int32))), (0, .ref 0), (1, .int v1), (2, .long v2), (4, .long v4), (6, .int v6)]) dX11_determinant_42 rfl ic_1 (by decide) rfl ?_
      refine a_goto (tgt := 18) dX11_determinant_45 (by decide) ?_
      refine a_sub (lv' := [(0, .ref 0), (1, .int v1), (2, .long v2), (4, .long v4), (6, .int v6), (7, .int (v7 + (1 : Int32)))]) [1, 2, 3, 4, 5, 0] rfl ?_
      exact hk18 v1 v2 v4 v6 (v7 + (1 : Int32)) I J _ h
def mM_determinant_L18 (k8 : Int32 → Int64 → Int64 → Int32 → hJ → Option (Int64 × hJ)) : Nat → Int32 → Int64 → Int64 → Int32 → Int32 → hJ → Option (Int64 × hJ)
  | 0 => fun _ _ _ _ _ _ => none
  | n + 1 => mM_determinant_B18 k8 (mM_determinant_L18 k8 n)
theorem sM_determinant_L18 (d : Nat) (hd : 0 ≤ d) (k8 : Int32 → Int64 → Int64 → Int32 → hJ → Option (Int64 × hJ)) (hk8 : ∀ (v1 : Int32) (v2 : Int64) (v4 : Int64) (v6 : Int32) (I : hI) (J : hJ) (q : Int64 × hJ), k8 v1 v2 v4 v6 J = some q → AW hFT cX11_determinant 11 (some .long) RX11 kdM d [(0, .ref 0), (1, .int v1), (2, .long v2), (4, .long v4), (6, .int v6)] 8 [] (I, J, RMm) (some (.long q.1)) (I, q.2, RMm)) : ∀ (n : Nat) (v1 : Int32) (v2 : Int64) (v4 : Int64) (v6 : Int32) (v7 : Int32) (I : hI) (J : hJ) (q : Int64 × hJ) (h : mM_determinant_L18 k8 n v1 v2 v4 v6 v7 J = some q), AW hFT cX11_determinant 11 (some .long) RX11 kdM d [(0, .ref 0), (1, .int v1), (2, .long v2), (4, .long v4), (6, .int v6), (7, .int v7)] 18 [] (I, J, RMm) (some (.long q.1)) (I, q.2, RMm)
  | 0, _, _, _, _, _, _, _, q, h => by cases h
  | n + 1, v1, v2, v4, v6, v7, I, J, q, h => sM_determinant_B18 d hd k8 hk8 (mM_determinant_L18 k8 n) (sM_determinant_L18 d hd k8 hk8 n) v1 v2 v4 v6 v7 I J q h
def mM_determinant_B8 (k8 : Int32 → Int64 → Int64 → Int32 → hJ → Option (Int64 × hJ)) (v1 : Int32) (v2 : Int64) (v4 : Int64) (v6 : Int32) (J : hJ) : Option (Int64 × hJ) :=
  if v1 ≤ v6 then
    (if v1 = 0 then
      some ((1 : Int64), J)
    else
      some ((v2 * v4), J))
  else
    mM_determinant_L18 k8 hF v1 v2 v4 v6 v6 J
set_option maxHeartbeats 4000000 in
theorem sM_determinant_B8 (d : Nat) (hd : 0 ≤ d) (k8 : Int32 → Int64 → Int64 → Int32 → hJ → Option (Int64 × hJ)) (hk8 : ∀ (v1 : Int32) (v2 : Int64) (v4 : Int64) (v6 : Int32) (I : hI) (J : hJ) (q : Int64 × hJ), k8 v1 v2 v4 v6 J = some q → AW hFT cX11_determinant 11 (some .long) RX11 kdM d [(0, .ref 0), (1, .int v1), (2, .long v2), (4, .long v4), (6, .int v6)] 8 [] (I, J, RMm) (some (.long q.1)) (I, q.2, RMm)) (v1 : Int32) (v2 : Int64) (v4 : Int64) (v6 : Int32) (I : hI) (J : hJ) (q : Int64 × hJ) (h : mM_determinant_B8 k8 v1 v2 v4 v6 J = some q) : AW hFT cX11_determinant 11 (some .long) RX11 kdM d [(0, .ref 0), (1, .int v1), (2, .long v2), (4, .long v4), (6, .int v6)] 8 [] (I, J, RMm) (some (.long q.1)) (I, q.2, RMm) := by
  unfold mM_determinant_B8 at h
  refine a_iload dX11_determinant_8 rfl ?_
  refine a_iload_n dX11_determinant_10 rfl rfl ?_
  refine a_icmp_ge (tgt := 276) dX11_determinant_11 (by decide) (fun c => ?_) (fun c => ?_)
  · replace h := h_iteT c h
    refine a_iload_n dX11_determinant_276 rfl rfl ?_
    refine a_if_ne (tgt := 284) dX11_determinant_277 (by decide) (fun c => ?_) (fun c => ?_)
    · replace h := h_iteF c h
      refine a_lload_n dX11_determinant_284 rfl rfl ?_
      refine a_lload dX11_determinant_285 rfl ?_
      refine a_lmul dX11_determinant_287 ?_
      cases h
      exact a_lret dX11_determinant_288
    · replace h := h_iteT c h
      refine a_lconst dX11_determinant_280 lc_1 ?_
      refine a_goto (tgt := 288) dX11_determinant_281 (by decide) ?_
      cases h
      exact a_lret dX11_determinant_288
  · replace h := h_iteF c h
    refine a_iload dX11_determinant_14 rfl ?_
    refine a_istore (lv' := [(7, .int v6), (0, .ref 0), (1, .int v1), (2, .long v2), (4, .long v4), (6, .int v6)]) dX11_determinant_16 (by decide) rfl ?_
    refine a_sub (lv' := [(0, .ref 0), (1, .int v1), (2, .long v2), (4, .long v4), (6, .int v6), (7, .int v6)]) [1, 2, 3, 4, 5, 0] rfl ?_
    exact sM_determinant_L18 d (by omega) k8 hk8 hF v1 v2 v4 v6 v6 I J _ h
def mM_determinant_L8  : Nat → Int32 → Int64 → Int64 → Int32 → hJ → Option (Int64 × hJ)
  | 0 => fun _ _ _ _ _ => none
  | n + 1 => mM_determinant_B8 (mM_determinant_L8 n)
theorem sM_determinant_L8 (d : Nat) (hd : 0 ≤ d) : ∀ (n : Nat) (v1 : Int32) (v2 : Int64) (v4 : Int64) (v6 : Int32) (I : hI) (J : hJ) (q : Int64 × hJ) (h : mM_determinant_L8 n v1 v2 v4 v6 J = some q), AW hFT cX11_determinant 11 (some .long) RX11 kdM d [(0, .ref 0), (1, .int v1), (2, .long v2), (4, .long v4), (6, .int v6)] 8 [] (I, J, RMm) (some (.long q.1)) (I, q.2, RMm)
  | 0, _, _, _, _, _, _, q, h => by cases h
  | n + 1, v1, v2, v4, v6, I, J, q, h => sM_determinant_B8 d hd (mM_determinant_L8 n) (sM_determinant_L8 d hd n) v1 v2 v4 v6 I J q h
def mM_determinant  (v1 : Int32) (J : hJ) : Option (Int64 × hJ) :=
  mM_determinant_L8 hF v1 (1 : Int64) (1 : Int64) (0 : Int32) J
set_option maxHeartbeats 4000000 in
theorem sM_determinant (d : Nat) (hd : 0 ≤ d) (v1 : Int32) (I : hI) (J : hJ) (q : Int64 × hJ) (h : mM_determinant v1 J = some q) : HMet hFT yX11_determinant cX11_determinant 11 (some .long) kdM d [.ref 0, .int v1] (I, J, RMm) (some (.long q.1)) (I, q.2, RMm) := by
  refine HMet.of (by decide) (Nat.le_of_ble_eq_true rfl) ?_
  show AW hFT cX11_determinant 11 (some .long) RX11 kdM d [(0, .ref 0), (1, .int v1)] 0 [] (I, J, RMm) (some (.long q.1)) (I, q.2, RMm)
  unfold mM_determinant at h
  refine a_lconst dX11_determinant_0 lc_1 ?_
  refine a_lstore_n (lv' := [(2, .long (1 : Int64)), (0, .ref 0), (1, .int v1)]) dX11_determinant_1 rfl (by decide) rfl ?_
  refine a_lconst dX11_determinant_2 lc_1 ?_
  refine a_lstore (lv' := [(4, .long (1 : Int64)), (2, .long (1 : Int64)), (0, .ref 0), (1, .int v1)]) dX11_determinant_3 (by decide) rfl ?_
  refine a_iconst dX11_determinant_5 ic_0 ?_
  refine a_istore (lv' := [(6, .int (0 : Int32)), (4, .long (1 : Int64)), (2, .long (1 : Int64)), (0, .ref 0), (1, .int v1)]) dX11_determinant_6 (by decide) rfl ?_
  refine a_sub (lv' := [(0, .ref 0), (1, .int v1), (2, .long (1 : Int64)), (4, .long (1 : Int64)), (6, .int (0 : Int32))]) [3, 4, 2, 1, 0] rfl ?_
  exact sM_determinant_L8 d (by omega) hF v1 (1 : Int64) (1 : Int64) (0 : Int32) I J _ h
/-! CoinLoopsModel.determinantWith(I)J -/
theorem dX11_determinantWith_0 : decode cX11_determinantWith 0 = .ok (.iconst 0, 1) := by decide +kernel
theorem dX11_determinantWith_1 : decode cX11_determinantWith 1 = .ok (.istore_n 2, 1) := by decide +kernel
theorem dX11_determinantWith_2 : decode cX11_determinantWith 2 = .ok (.iload_n 2, 1) := by decide +kernel
theorem dX11_determinantWith_3 : decode cX11_determinantWith 3 = .ok (.aload_n 0, 1) := by decide +kernel
theorem dX11_determinantWith_4 : decode cX11_determinantWith 4 = .ok (.getfield 480, 3) := by decide +kernel
theorem dX11_determinantWith_7 : decode cX11_determinantWith 7 = .ok (.if_icmp .ge 57, 3) := by decide +kernel
theorem dX11_determinantWith_10 : decode cX11_determinantWith 10 = .ok (.iconst 0, 1) := by decide +kernel
theorem dX11_determinantWith_11 : decode cX11_determinantWith 11 = .ok (.istore_n 3, 1) := by decide +kernel
theorem dX11_determinantWith_12 : decode cX11_determinantWith 12 = .ok (.iload_n 3, 1) := by decide +kernel
theorem dX11_determinantWith_13 : decode cX11_determinantWith 13 = .ok (.aload_n 0, 1) := by decide +kernel
theorem dX11_determinantWith_14 : decode cX11_determinantWith 14 = .ok (.getfield 480, 3) := by decide +kernel
theorem dX11_determinantWith_17 : decode cX11_determinantWith 17 = .ok (.if_icmp .ge 41, 3) := by decide +kernel
theorem dX11_determinantWith_20 : decode cX11_determinantWith 20 = .ok (.aload_n 0, 1) := by decide +kernel
theorem dX11_determinantWith_21 : decode cX11_determinantWith 21 = .ok (.getfield 132, 3) := by decide +kernel
theorem dX11_determinantWith_24 : decode cX11_determinantWith 24 = .ok (.bipush 10, 2) := by decide +kernel
theorem dX11_determinantWith_26 : decode cX11_determinantWith 26 = .ok (.iload_n 2, 1) := by decide +kernel
theorem dX11_determinantWith_27 : decode cX11_determinantWith 27 = .ok (.imul, 1) := by decide +kernel
theorem dX11_determinantWith_28 : decode cX11_determinantWith 28 = .ok (.iload_n 3, 1) := by decide +kernel
theorem dX11_determinantWith_29 : decode cX11_determinantWith 29 = .ok (.iadd, 1) := by decide +kernel
theorem dX11_determinantWith_30 : decode cX11_determinantWith 30 = .ok (.aload_n 0, 1) := by decide +kernel
theorem dX11_determinantWith_31 : decode cX11_determinantWith 31 = .ok (.getfield 129, 3) := by decide +kernel
theorem dX11_determinantWith_34 : decode cX11_determinantWith 34 = .ok (.bipush 11, 2) := by decide +kernel
theorem dX11_determinantWith_36 : decode cX11_determinantWith 36 = .ok (.iload_n 2, 1) := by decide +kernel
theorem dX11_determinantWith_37 : decode cX11_determinantWith 37 = .ok (.imul, 1) := by decide +kernel
theorem dX11_determinantWith_38 : decode cX11_determinantWith 38 = .ok (.iload_n 3, 1) := by decide +kernel
theorem dX11_determinantWith_39 : decode cX11_determinantWith 39 = .ok (.iload_n 1, 1) := by decide +kernel
theorem dX11_determinantWith_40 : decode cX11_determinantWith 40 = .ok (.if_icmp .ne 8, 3) := by decide +kernel
theorem dX11_determinantWith_43 : decode cX11_determinantWith 43 = .ok (.bipush 10, 2) := by decide +kernel
theorem dX11_determinantWith_45 : decode cX11_determinantWith 45 = .ok (.goto 4, 3) := by decide +kernel
theorem dX11_determinantWith_48 : decode cX11_determinantWith 48 = .ok (.iload_n 3, 1) := by decide +kernel
theorem dX11_determinantWith_49 : decode cX11_determinantWith 49 = .ok (.iadd, 1) := by decide +kernel
theorem dX11_determinantWith_50 : decode cX11_determinantWith 50 = .ok (.laload, 1) := by decide +kernel
theorem dX11_determinantWith_51 : decode cX11_determinantWith 51 = .ok (.lastore, 1) := by decide +kernel
theorem dX11_determinantWith_52 : decode cX11_determinantWith 52 = .ok (.iinc 3 1, 3) := by decide +kernel
theorem dX11_determinantWith_55 : decode cX11_determinantWith 55 = .ok (.goto (-43), 3) := by decide +kernel
theorem dX11_determinantWith_58 : decode cX11_determinantWith 58 = .ok (.iinc 2 1, 3) := by decide +kernel
theorem dX11_determinantWith_61 : decode cX11_determinantWith 61 = .ok (.goto (-59), 3) := by decide +kernel
theorem dX11_determinantWith_64 : decode cX11_determinantWith 64 = .ok (.aload_n 0, 1) := by decide +kernel
theorem dX11_determinantWith_65 : decode cX11_determinantWith 65 = .ok (.aload_n 0, 1) := by decide +kernel
theorem dX11_determinantWith_66 : decode cX11_determinantWith 66 = .ok (.getfield 480, 3) := by decide +kernel
theorem dX11_determinantWith_69 : decode cX11_determinantWith 69 = .ok (.invokevirtual 483, 3) := by decide +kernel
theorem dX11_determinantWith_72 : decode cX11_determinantWith 72 = .ok (.lreturn, 1) := by decide +kernel
def mM_determinantWith_49 (k2 : Int32 → Int32 → hI → hJ → Option (Int64 × hJ)) (k12 : Int32 → Int32 → Int32 → hI → hJ → Option (Int64 × hJ)) (v1 : Int32) (v2 : Int32) (v3 : Int32) (vs1 : Int32) (vs3 : Int32) (vs4 : Int32) (I : hI) (J : hJ) : Option (Int64 × hJ) :=
  h_g (h_in (vs3 + vs4) 110) <|
  h_g (h_in vs1 100) <|
  h_let (h_u J 41 vs1.toNatClampNeg (J 40 (vs3 + vs4).toNatClampNeg)) fun J3 =>
  k12 v1 v2 (v3 + (1 : Int32)) I J3
set_option maxHeartbeats 4000000 in
theorem sM_determinantWith_49 (d : Nat) (hd : 0 + 1 ≤ d) (k2 : Int32 → Int32 → hI → hJ → Option (Int64 × hJ)) (hk2 : ∀ (v1 : Int32) (v2 : Int32) (I : hI) (J : hJ) (q : Int64 × hJ), k2 v1 v2 I J = some q → AW hFT cX11_determinantWith 4 (some .long) RX11 kdM d [(0, .ref 0), (1, .int v1), (2, .int v2)] 2 [] (I, J, RMm) (some (.long q.1)) (I, q.2, RMm)) (k12 : Int32 → Int32 → Int32 → hI → hJ → Option (Int64 × hJ)) (hk12 : ∀ (v1 : Int32) (v2 : Int32) (v3 : Int32) (I : hI) (J : hJ) (q : Int64 × hJ), k12 v1 v2 v3 I J = some q → AW hFT cX11_determinantWith 4 (some .long) RX11 kdM d [(0, .ref 0), (1, .int v1), (2, .int v2), (3, .int v3)] 12 [] (I, J, RMm) (some (.long q.1)) (I, q.2, RMm)) (v1 : Int32) (v2 : Int32) (v3 : Int32) (vs1 : Int32) (vs3 : Int32) (vs4 : Int32) (I : hI) (J : hJ) (q : Int64 × hJ) (h : mM_determinantWith_49 k2 k12 v1 v2 v3 vs1 vs3 vs4 I J = some q) : AW hFT cX11_determinantWith 4 (some .long) RX11 kdM d [(0, .ref 0), (1, .int v1), (2, .int v2), (3, .int v3)] 49 [.int vs4, .int vs3, .ref 40, .int vs1, .ref 41] (I, J, RMm) (some (.long q.1)) (I, q.2, RMm) := by
  obtain ⟨d0, rfl, hd0⟩ := h_mono hd
  unfold mM_determinantWith_49 at h
  refine a_iadd dX11_determinantWith_49 ?_
  obtain ⟨g1, h⟩ := h_gS h
  refine b_laload km_40 (h_inV g1) dX11_determinantWith_50 ?_
  obtain ⟨g2, h⟩ := h_gS h
  refine b_lastore km_41 (h_inV g2) dX11_determinantWith_51 ?_
  obtain ⟨J3, eJ3, h⟩ := h_letS h
  refine a_memJ eJ3 ?_
  refine b_iinc (lv' := [(3, .int (v3 + (1 : Int32))), (0, .ref 0), (1, .int v1), (2, .int v2)]) dX11_determinantWith_52 rfl ic_1 (by decide) rfl ?_
  refine a_goto (tgt := 12) dX11_determinantWith_55 (by decide) ?_
  refine a_sub (lv' := [(0, .ref 0), (1, .int v1), (2, .int v2), (3, .int (v3 + (1 : Int32)))]) [1, 2, 3, 0] rfl ?_
  exact hk12 v1 v2 (v3 + (1 : Int32)) I J3 _ h
def mM_determinantWith_B12 (k2 : Int32 → Int32 → hI → hJ → Option (Int64 × hJ)) (k12 : Int32 → Int32 → Int32 → hI → hJ → Option (Int64 × hJ)) (v1 : Int32) (v2 : Int32) (v3 : Int32) (I : hI) (J : hJ) : Option (Int64 × hJ) :=
  if (I 0 78) ≤ v3 then
    k2 v1 (v2 + (1 : Int32)) I J
  else
    (if v3 = v1 then
      mM_determinantWith_49 k2 k12 v1 v2 v3 (((10 : Int32) * v2) + v3) ((11 : Int32) * v2) (10 : Int32) I J
    else
      mM_determinantWith_49 k2 k12 v1 v2 v3 (((10 : Int32) * v2) + v3) ((11 : Int32) * v2) v3 I J)
set_option maxHeartbeats 4000000 in
theorem sM_determinantWith_B12 (d : Nat) (hd : 0 + 1 ≤ d) (k2 : Int32 → Int32 → hI → hJ → Option (Int64 × hJ)) (hk2 : ∀ (v1 : Int32) (v2 : Int32) (I : hI) (J : hJ) (q : Int64 × hJ), k2 v1 v2 I J = some q → AW hFT cX11_determinantWith 4 (some .long) RX11 kdM d [(0, .ref 0), (1, .int v1), (2, .int v2)] 2 [] (I, J, RMm) (some (.long q.1)) (I, q.2, RMm)) (k12 : Int32 → Int32 → Int32 → hI → hJ → Option (Int64 × hJ)) (hk12 : ∀ (v1 : Int32) (v2 : Int32) (v3 : Int32) (I : hI) (J : hJ) (q : Int64 × hJ), k12 v1 v2 v3 I J = some q → AW hFT cX11_determinantWith 4 (some .long) RX11 kdM d [(0, .ref 0), (1, .int v1), (2, .int v2), (3, .int v3)] 12 [] (I, J, RMm) (some (.long q.1)) (I, q.2, RMm)) (v1 : Int32) (v2 : Int32) (v3 : Int32) (I : hI) (J : hJ) (q : Int64 × hJ) (h : mM_determinantWith_B12 k2 k12 v1 v2 v3 I J = some q) : AW hFT cX11_determinantWith 4 (some .long) RX11 kdM d [(0, .ref 0), (1, .int v1), (2, .int v2), (3, .int v3)] 12 [] (I, J, RMm) (some (.long q.1)) (I, q.2, RMm) := by
  obtain ⟨d0, rfl, hd0⟩ := h_mono hd
  unfold mM_determinantWith_B12 at h
  refine a_iload_n dX11_determinantWith_12 rfl rfl ?_
  refine a_aload_n dX11_determinantWith_13 rfl rfl ?_
  refine b_getI hK_11 km_0 (i := 78) rfl fl_11_480 rfl dX11_determinantWith_14 ?_
  refine a_icmp_ge (tgt := 58) dX11_determinantWith_17 (by decide) (fun c => ?_) (fun c => ?_)
  · replace h := h_iteT c h
    refine b_iinc (lv' := [(2, .int (v2 + (1 : Int32))), (0, .ref 0), (1, .int v1), (3, .int v3)]) dX11_determinantWith_58 rfl ic_1 (by decide) rfl ?_
    refine a_goto (tgt := 2) dX11_determinantWith_61 (by decide) ?_
    refine a_sub (lv' := [(0, .ref 0), (1, .int v1), (2, .int (v2 + (1 : Int32)))]) [1, 2, 0] rfl ?_
    exact hk2 v1 (v2 + (1 : Int32)) I J _ h
  · replace h := h_iteF c h
    refine a_aload_n dX11_determinantWith_20 rfl rfl ?_
    refine b_getR hK_11 km_0 (i := 80) rfl fl_11_132 rfl rmm_80 dX11_determinantWith_21 ?_
    refine a_bipush dX11_determinantWith_24 bp_10 ?_
    refine a_iload_n dX11_determinantWith_26 rfl rfl ?_
    refine a_imul dX11_determinantWith_27 ?_
    refine a_iload_n dX11_determinantWith_28 rfl rfl ?_
    refine a_iadd dX11_determinantWith_29 ?_
    refine a_aload_n dX11_determinantWith_30 rfl rfl ?_
    refine b_getR hK_11 km_0 (i := 79) rfl fl_11_129 rfl rmm_79 dX11_determinantWith_31 ?_
    refine a_bipush dX11_determinantWith_34 bp_11 ?_
    refine a_iload_n dX11_determinantWith_36 rfl rfl ?_
    refine a_imul dX11_determinantWith_37 ?_
    refine a_iload_n dX11_determinantWith_38 rfl rfl ?_
    refine a_iload_n dX11_determinantWith_39 rfl rfl ?_
    refine a_icmp_ne (tgt := 48) dX11_determinantWith_40 (by decide) (fun c => ?_) (fun c => ?_)
    · replace h := h_iteF c h
      refine a_iload_n dX11_determinantWith_48 rfl rfl ?_
      exact sM_determinantWith_49 (d0 + 1) (by omega) k2 hk2 k12 hk12 v1 v2 v3 (((10 : Int32) * v2) + v3) ((11 : Int32) * v2) v3 I J _ h
    · replace h := h_iteT c h
      refine a_bipush dX11_determinantWith_43 bp_10 ?_
      refine a_goto (tgt := 49) dX11_determinantWith_45 (by decide) ?_
      exact sM_determinantWith_49 (d0 + 1) (by omega) k2 hk2 k12 hk12 v1 v2 v3 (((10 : Int32) * v2) + v3) ((11 : Int32) * v2) (10 : Int32) I J _ h
def mM_determinantWith_L12 (k2 : Int32 → Int32 → hI → hJ → Option (Int64 × hJ)) : Nat → Int32 → Int32 → Int32 → hI → hJ → Option (Int64 × hJ)
  | 0 => fun _ _ _ _ _ => none
  | n + 1 => mM_determinantWith_B12 k2 (mM_determinantWith_L12 k2 n)
theorem sM_determinantWith_L12 (d : Nat) (hd : 0 + 1 ≤ d) (k2 : Int32 → Int32 → hI → hJ → Option (Int64 × hJ)) (hk2 : ∀ (v1 : Int32) (v2 : Int32) (I : hI) (J : hJ) (q : Int64 × hJ), k2 v1 v2 I J = some q → AW hFT cX11_determinantWith 4 (some .long) RX11 kdM d [(0, .ref 0), (1, .int v1), (2, .int v2)] 2 [] (I, J, RMm) (some (.long q.1)) (I, q.2, RMm)) : ∀ (n : Nat) (v1 : Int32) (v2 : Int32) (v3 : Int32) (I : hI) (J : hJ) (q : Int64 × hJ) (h : mM_determinantWith_L12 k2 n v1 v2 v3 I J = some q), AW hFT cX11_determinantWith 4 (some .long) RX11 kdM d [(0, .ref 0), (1, .int v1), (2, .int v2), (3, .int v3)] 12 [] (I, J, RMm) (some (.long q.1)) (I, q.2, RMm)
  | 0, _, _, _, _, _, q, h => by cases h
  | n + 1, v1, v2, v3, I, J, q, h => sM_determinantWith_B12 d hd k2 hk2 (mM_determinantWith_L12 k2 n) (sM_determinantWith_L12 d hd k2 hk2 n) v1 v2 v3 I J q h
def mM_determinantWith_B2 (k2 : Int32 → Int32 → hI → hJ → Option (Int64 × hJ)) (v1 : Int32) (v2 : Int32) (I : hI) (J : hJ) : Option (Int64 × hJ) :=
  if (I 0 78) ≤ v2 then
    ((mM_determinant (I 0 78) J).bind fun q1 =>
    some (q1.1, q1.2))
  else
    mM_determinantWith_L12 k2 hF v1 v2 (0 : Int32) I J
set_option maxHeartbeats 4000000 in
theorem sM_determinantWith_B2 (d : Nat) (hd : 0 + 1 ≤ d) (k2 : Int32 → Int32 → hI → hJ → Option (Int64 × hJ)) (hk2 : ∀ (v1 : Int32) (v2 : Int32) (I : hI) (J : hJ) (q : Int64 × hJ), k2 v1 v2 I J = some q → AW hFT cX11_determinantWith 4 (some .long) RX11 kdM d [(0, .ref 0), (1, .int v1), (2, .int v2)] 2 [] (I, J, RMm) (some (.long q.1)) (I, q.2, RMm)) (v1 : Int32) (v2 : Int32) (I : hI) (J : hJ) (q : Int64 × hJ) (h : mM_determinantWith_B2 k2 v1 v2 I J = some q) : AW hFT cX11_determinantWith 4 (some .long) RX11 kdM d [(0, .ref 0), (1, .int v1), (2, .int v2)] 2 [] (I, J, RMm) (some (.long q.1)) (I, q.2, RMm) := by
  obtain ⟨d0, rfl, hd0⟩ := h_mono hd
  unfold mM_determinantWith_B2 at h
  refine a_iload_n dX11_determinantWith_2 rfl rfl ?_
  refine a_aload_n dX11_determinantWith_3 rfl rfl ?_
  refine b_getI hK_11 km_0 (i := 78) rfl fl_11_480 rfl dX11_determinantWith_4 ?_
  refine a_icmp_ge (tgt := 64) dX11_determinantWith_7 (by decide) (fun c => ?_) (fun c => ?_)
  · replace h := h_iteT c h
    refine a_aload_n dX11_determinantWith_64 rfl rfl ?_
    refine a_aload_n dX11_determinantWith_65 rfl rfl ?_
    refine b_getI hK_11 km_0 (i := 78) rfl fl_11_480 rfl dX11_determinantWith_66 ?_
    obtain ⟨q1, cq1, h⟩ := h_bindS h
    refine a_callV1 [] yy_X11_determinant ml_11_483 km_0 rfl (sM_determinant _ (by omega) (I 0 78) I J q1 cq1) rfl rfl (Nat.le_of_ble_eq_true rfl) dX11_determinantWith_69 ?_
    cases h
    exact a_lret dX11_determinantWith_72
  · replace h := h_iteF c h
    refine a_iconst dX11_determinantWith_10 ic_0 ?_
    refine a_istore_n (lv' := [(3, .int (0 : Int32)), (0, .ref 0), (1, .int v1), (2, .int v2)]) dX11_determinantWith_11 rfl (by decide) rfl ?_
    refine a_sub (lv' := [(0, .ref 0), (1, .int v1), (2, .int v2), (3, .int (0 : Int32))]) [1, 2, 3, 0] rfl ?_
    exact sM_determinantWith_L12 (d0 + 1) (by omega) k2 hk2 hF v1 v2 (0 : Int32) I J _ h
def mM_determinantWith_L2  : Nat → Int32 → Int32 → hI → hJ → Option (Int64 × hJ)
  | 0 => fun _ _ _ _ => none
  | n + 1 => mM_determinantWith_B2 (mM_determinantWith_L2 n)
theorem sM_determinantWith_L2 (d : Nat) (hd : 0 + 1 ≤ d) : ∀ (n : Nat) (v1 : Int32) (v2 : Int32) (I : hI) (J : hJ) (q : Int64 × hJ) (h : mM_determinantWith_L2 n v1 v2 I J = some q), AW hFT cX11_determinantWith 4 (some .long) RX11 kdM d [(0, .ref 0), (1, .int v1), (2, .int v2)] 2 [] (I, J, RMm) (some (.long q.1)) (I, q.2, RMm)
  | 0, _, _, _, _, q, h => by cases h
  | n + 1, v1, v2, I, J, q, h => sM_determinantWith_B2 d hd (mM_determinantWith_L2 n) (sM_determinantWith_L2 d hd n) v1 v2 I J q h
def mM_determinantWith  (v1 : Int32) (I : hI) (J : hJ) : Option (Int64 × hJ) :=
  mM_determinantWith_L2 hF v1 (0 : Int32) I J
set_option maxHeartbeats 4000000 in
theorem sM_determinantWith (d : Nat) (hd : 0 + 1 ≤ d) (v1 : Int32) (I : hI) (J : hJ) (q : Int64 × hJ) (h : mM_determinantWith v1 I J = some q) : HMet hFT yX11_determinantWith cX11_determinantWith 4 (some .long) kdM d [.ref 0, .int v1] (I, J, RMm) (some (.long q.1)) (I, q.2, RMm) := by
  obtain ⟨d0, rfl, hd0⟩ := h_mono hd
  refine HMet.of (by decide) (Nat.le_of_ble_eq_true rfl) ?_
  show AW hFT cX11_determinantWith 4 (some .long) RX11 kdM (d0 + 1) [(0, .ref 0), (1, .int v1)] 0 [] (I, J, RMm) (some (.long q.1)) (I, q.2, RMm)
  unfold mM_determinantWith at h
  refine a_iconst dX11_determinantWith_0 ic_0 ?_
  refine a_istore_n (lv' := [(2, .int (0 : Int32)), (0, .ref 0), (1, .int v1)]) dX11_determinantWith_1 rfl (by decide) rfl ?_
  refine a_sub (lv' := [(0, .ref 0), (1, .int v1), (2, .int (0 : Int32))]) [1, 2, 0] rfl ?_
  exact sM_determinantWith_L2 (d0 + 1) (by omega) hF v1 (0 : Int32) I J _ h
/-! CoinLoopsModel.laysEquations(IZ)V -/
theorem dX11_laysEquations_0 : decode cX11_laysEquations 0 = .ok (.aload_n 0, 1) := by decide +kernel
theorem dX11_laysEquations_1 : decode cX11_laysEquations 1 = .ok (.iconst 0, 1) := by decide +kernel
theorem dX11_laysEquations_2 : decode cX11_laysEquations 2 = .ok (.putfield 480, 3) := by decide +kernel
theorem dX11_laysEquations_5 : decode cX11_laysEquations 5 = .ok (.iconst 0, 1) := by decide +kernel
theorem dX11_laysEquations_6 : decode cX11_laysEquations 6 = .ok (.istore_n 3, 1) := by decide +kernel
theorem dX11_laysEquations_7 : decode cX11_laysEquations 7 = .ok (.iload_n 3, 1) := by decide +kernel
theorem dX11_laysEquations_8 : decode cX11_laysEquations 8 = .ok (.aload_n 0, 1) := by decide +kernel
theorem dX11_laysEquations_9 : decode cX11_laysEquations 9 = .ok (.getfield 367, 3) := by decide +kernel
theorem dX11_laysEquations_12 : decode cX11_laysEquations 12 = .ok (.if_icmp .ge 84, 3) := by decide +kernel
theorem dX11_laysEquations_15 : decode cX11_laysEquations 15 = .ok (.aload_n 0, 1) := by decide +kernel
theorem dX11_laysEquations_16 : decode cX11_laysEquations 16 = .ok (.iload_n 3, 1) := by decide +kernel
theorem dX11_laysEquations_17 : decode cX11_laysEquations 17 = .ok (.invokevirtual 463, 3) := by decide +kernel
theorem dX11_laysEquations_20 : decode cX11_laysEquations 20 = .ok (.ifCond .eq 63, 3) := by decide +kernel
theorem dX11_laysEquations_23 : decode cX11_laysEquations 23 = .ok (.aload_n 0, 1) := by decide +kernel
theorem dX11_laysEquations_24 : decode cX11_laysEquations 24 = .ok (.getfield 120, 3) := by decide +kernel
theorem dX11_laysEquations_27 : decode cX11_laysEquations 27 = .ok (.iload_n 3, 1) := by decide +kernel
theorem dX11_laysEquations_28 : decode cX11_laysEquations 28 = .ok (.baload, 1) := by decide +kernel
theorem dX11_laysEquations_29 : decode cX11_laysEquations 29 = .ok (.ifCond .ne 54, 3) := by decide +kernel
theorem dX11_laysEquations_32 : decode cX11_laysEquations 32 = .ok (.iload_n 2, 1) := by decide +kernel
theorem dX11_laysEquations_33 : decode cX11_laysEquations 33 = .ok (.ifCond .eq 17, 3) := by decide +kernel
theorem dX11_laysEquations_36 : decode cX11_laysEquations 36 = .ok (.aload_n 0, 1) := by decide +kernel
theorem dX11_laysEquations_37 : decode cX11_laysEquations 37 = .ok (.getfield 114, 3) := by decide +kernel
theorem dX11_laysEquations_40 : decode cX11_laysEquations 40 = .ok (.bipush 10, 2) := by decide +kernel
theorem dX11_laysEquations_42 : decode cX11_laysEquations 42 = .ok (.iload_n 1, 1) := by decide +kernel
theorem dX11_laysEquations_43 : decode cX11_laysEquations 43 = .ok (.imul, 1) := by decide +kernel
theorem dX11_laysEquations_44 : decode cX11_laysEquations 44 = .ok (.iload_n 3, 1) := by decide +kernel
theorem dX11_laysEquations_45 : decode cX11_laysEquations 45 = .ok (.iadd, 1) := by decide +kernel
theorem dX11_laysEquations_46 : decode cX11_laysEquations 46 = .ok (.baload, 1) := by decide +kernel
theorem dX11_laysEquations_47 : decode cX11_laysEquations 47 = .ok (.ifCond .ne 36, 3) := by decide +kernel
theorem dX11_laysEquations_50 : decode cX11_laysEquations 50 = .ok (.aload_n 0, 1) := by decide +kernel
theorem dX11_laysEquations_51 : decode cX11_laysEquations 51 = .ok (.getfield 123, 3) := by decide +kernel
theorem dX11_laysEquations_54 : decode cX11_laysEquations 54 = .ok (.aload_n 0, 1) := by decide +kernel
theorem dX11_laysEquations_55 : decode cX11_laysEquations 55 = .ok (.getfield 480, 3) := by decide +kernel
theorem dX11_laysEquations_58 : decode cX11_laysEquations 58 = .ok (.iload_n 3, 1) := by decide +kernel
theorem dX11_laysEquations_59 : decode cX11_laysEquations 59 = .ok (.iastore, 1) := by decide +kernel
theorem dX11_laysEquations_60 : decode cX11_laysEquations 60 = .ok (.aload_n 0, 1) := by decide +kernel
theorem dX11_laysEquations_61 : decode cX11_laysEquations 61 = .ok (.getfield 126, 3) := by decide +kernel
theorem dX11_laysEquations_64 : decode cX11_laysEquations 64 = .ok (.iload_n 3, 1) := by decide +kernel
theorem dX11_laysEquations_65 : decode cX11_laysEquations 65 = .ok (.aload_n 0, 1) := by decide +kernel
theorem dX11_laysEquations_66 : decode cX11_laysEquations 66 = .ok (.getfield 480, 3) := by decide +kernel
theorem dX11_laysEquations_69 : decode cX11_laysEquations 69 = .ok (.iastore, 1) := by decide +kernel
theorem dX11_laysEquations_70 : decode cX11_laysEquations 70 = .ok (.aload_n 0, 1) := by decide +kernel
theorem dX11_laysEquations_71 : decode cX11_laysEquations 71 = .ok (.dup, 1) := by decide +kernel
theorem dX11_laysEquations_72 : decode cX11_laysEquations 72 = .ok (.getfield 480, 3) := by decide +kernel
theorem dX11_laysEquations_75 : decode cX11_laysEquations 75 = .ok (.iconst 1, 1) := by decide +kernel
theorem dX11_laysEquations_76 : decode cX11_laysEquations 76 = .ok (.iadd, 1) := by decide +kernel
theorem dX11_laysEquations_77 : decode cX11_laysEquations 77 = .ok (.putfield 480, 3) := by decide +kernel
theorem dX11_laysEquations_80 : decode cX11_laysEquations 80 = .ok (.goto 10, 3) := by decide +kernel
theorem dX11_laysEquations_83 : decode cX11_laysEquations 83 = .ok (.aload_n 0, 1) := by decide +kernel
theorem dX11_laysEquations_84 : decode cX11_laysEquations 84 = .ok (.getfield 126, 3) := by decide +kernel
theorem dX11_laysEquations_87 : decode cX11_laysEquations 87 = .ok (.iload_n 3, 1) := by decide +kernel
theorem dX11_laysEquations_88 : decode cX11_laysEquations 88 = .ok (.iconst (-1), 1) := by decide +kernel
theorem dX11_laysEquations_89 : decode cX11_laysEquations 89 = .ok (.iastore, 1) := by decide +kernel
theorem dX11_laysEquations_90 : decode cX11_laysEquations 90 = .ok (.iinc 3 1, 3) := by decide +kernel
theorem dX11_laysEquations_93 : decode cX11_laysEquations 93 = .ok (.goto (-86), 3) := by decide +kernel
theorem dX11_laysEquations_96 : decode cX11_laysEquations 96 = .ok (.iconst 0, 1) := by decide +kernel
theorem dX11_laysEquations_97 : decode cX11_laysEquations 97 = .ok (.istore_n 3, 1) := by decide +kernel
theorem dX11_laysEquations_98 : decode cX11_laysEquations 98 = .ok (.iload_n 3, 1) := by decide +kernel
theorem dX11_laysEquations_99 : decode cX11_laysEquations 99 = .ok (.aload_n 0, 1) := by decide +kernel
theorem dX11_laysEquations_100 : decode cX11_laysEquations 100 = .ok (.getfield 480, 3) := by decide +kernel
theorem dX11_laysEquations_103 : decode cX11_laysEquations 103 = .ok (.if_icmp .ge 111, 3) := by decide +kernel
theorem dX11_laysEquations_106 : decode cX11_laysEquations 106 = .ok (.aload_n 0, 1) := by decide +kernel
theorem dX11_laysEquations_107 : decode cX11_laysEquations 107 = .ok (.getfield 123, 3) := by decide +kernel
theorem dX11_laysEquations_110 : decode cX11_laysEquations 110 = .ok (.iload_n 3, 1) := by decide +kernel
theorem dX11_laysEquations_111 : decode cX11_laysEquations 111 = .ok (.iaload, 1) := by decide +kernel
theorem dX11_laysEquations_112 : decode cX11_laysEquations 112 = .ok (.istore 4, 2) := by decide +kernel
theorem dX11_laysEquations_114 : decode cX11_laysEquations 114 = .ok (.iconst 0, 1) := by decide +kernel
theorem dX11_laysEquations_115 : decode cX11_laysEquations 115 = .ok (.istore 5, 2) := by decide +kernel
theorem dX11_laysEquations_117 : decode cX11_laysEquations 117 = .ok (.iload 5, 2) := by decide +kernel
theorem dX11_laysEquations_119 : decode cX11_laysEquations 119 = .ok (.aload_n 0, 1) := by decide +kernel
theorem dX11_laysEquations_120 : decode cX11_laysEquations 120 = .ok (.getfield 480, 3) := by decide +kernel
theorem dX11_laysEquations_123 : decode cX11_laysEquations 123 = .ok (.if_icmp .ge 47, 3) := by decide +kernel
theorem dX11_laysEquations_126 : decode cX11_laysEquations 126 = .ok (.aload_n 0, 1) := by decide +kernel
theorem dX11_laysEquations_127 : decode cX11_laysEquations 127 = .ok (.getfield 129, 3) := by decide +kernel
theorem dX11_laysEquations_130 : decode cX11_laysEquations 130 = .ok (.bipush 11, 2) := by decide +kernel
theorem dX11_laysEquations_132 : decode cX11_laysEquations 132 = .ok (.iload_n 3, 1) := by decide +kernel
theorem dX11_laysEquations_133 : decode cX11_laysEquations 133 = .ok (.imul, 1) := by decide +kernel
theorem dX11_laysEquations_134 : decode cX11_laysEquations 134 = .ok (.iload 5, 2) := by decide +kernel
theorem dX11_laysEquations_136 : decode cX11_laysEquations 136 = .ok (.iadd, 1) := by decide +kernel
theorem dX11_laysEquations_137 : decode cX11_laysEquations 137 = .ok (.iload 5, 2) := by decide +kernel
theorem dX11_laysEquations_139 : decode cX11_laysEquations 139 = .ok (.iload_n 3, 1) := by decide +kernel
theorem dX11_laysEquations_140 : decode cX11_laysEquations 140 = .ok (.if_icmp .ne 7, 3) := by decide +kernel
theorem dX11_laysEquations_143 : decode cX11_laysEquations 143 = .ok (.iconst 4, 1) := by decide +kernel
theorem dX11_laysEquations_144 : decode cX11_laysEquations 144 = .ok (.goto 4, 3) := by decide +kernel
theorem dX11_laysEquations_147 : decode cX11_laysEquations 147 = .ok (.iconst 0, 1) := by decide +kernel
theorem dX11_laysEquations_148 : decode cX11_laysEquations 148 = .ok (.aload_n 0, 1) := by decide +kernel
theorem dX11_laysEquations_149 : decode cX11_laysEquations 149 = .ok (.iload 4, 2) := by decide +kernel
theorem dX11_laysEquations_151 : decode cX11_laysEquations 151 = .ok (.aload_n 0, 1) := by decide +kernel
theorem dX11_laysEquations_152 : decode cX11_laysEquations 152 = .ok (.getfield 123, 3) := by decide +kernel
theorem dX11_laysEquations_155 : decode cX11_laysEquations 155 = .ok (.iload 5, 2) := by decide +kernel
theorem dX11_laysEquations_157 : decode cX11_laysEquations 157 = .ok (.iaload, 1) := by decide +kernel
theorem dX11_laysEquations_158 : decode cX11_laysEquations 158 = .ok (.invokevirtual 466, 3) := by decide +kernel
theorem dX11_laysEquations_161 : decode cX11_laysEquations 161 = .ok (.isub, 1) := by decide +kernel
theorem dX11_laysEquations_162 : decode cX11_laysEquations 162 = .ok (.i2l, 1) := by decide +kernel
theorem dX11_laysEquations_163 : decode cX11_laysEquations 163 = .ok (.lastore, 1) := by decide +kernel
theorem dX11_laysEquations_164 : decode cX11_laysEquations 164 = .ok (.iinc 5 1, 3) := by decide +kernel
theorem dX11_laysEquations_167 : decode cX11_laysEquations 167 = .ok (.goto (-50), 3) := by decide +kernel
theorem dX11_laysEquations_170 : decode cX11_laysEquations 170 = .ok (.aload_n 0, 1) := by decide +kernel
theorem dX11_laysEquations_171 : decode cX11_laysEquations 171 = .ok (.getfield 129, 3) := by decide +kernel
theorem dX11_laysEquations_174 : decode cX11_laysEquations 174 = .ok (.bipush 11, 2) := by decide +kernel
theorem dX11_laysEquations_176 : decode cX11_laysEquations 176 = .ok (.iload_n 3, 1) := by decide +kernel
theorem dX11_laysEquations_177 : decode cX11_laysEquations 177 = .ok (.imul, 1) := by decide +kernel
theorem dX11_laysEquations_178 : decode cX11_laysEquations 178 = .ok (.bipush 10, 2) := by decide +kernel
theorem dX11_laysEquations_180 : decode cX11_laysEquations 180 = .ok (.iadd, 1) := by decide +kernel
theorem dX11_laysEquations_181 : decode cX11_laysEquations 181 = .ok (.iload_n 2, 1) := by decide +kernel
theorem dX11_laysEquations_182 : decode cX11_laysEquations 182 = .ok (.ifCond .eq 18, 3) := by decide +kernel
theorem dX11_laysEquations_185 : decode cX11_laysEquations 185 = .ok (.aload_n 0, 1) := by decide +kernel
theorem dX11_laysEquations_186 : decode cX11_laysEquations 186 = .ok (.getfield 89, 3) := by decide +kernel
theorem dX11_laysEquations_189 : decode cX11_laysEquations 189 = .ok (.aload_n 0, 1) := by decide +kernel
theorem dX11_laysEquations_190 : decode cX11_laysEquations 190 = .ok (.iload 4, 2) := by decide +kernel
theorem dX11_laysEquations_192 : decode cX11_laysEquations 192 = .ok (.invokevirtual 459, 3) := by decide +kernel
theorem dX11_laysEquations_195 : decode cX11_laysEquations 195 = .ok (.iaload, 1) := by decide +kernel
theorem dX11_laysEquations_196 : decode cX11_laysEquations 196 = .ok (.i2l, 1) := by decide +kernel
theorem dX11_laysEquations_197 : decode cX11_laysEquations 197 = .ok (.goto 10, 3) := by decide +kernel
theorem dX11_laysEquations_200 : decode cX11_laysEquations 200 = .ok (.aload_n 0, 1) := by decide +kernel
theorem dX11_laysEquations_201 : decode cX11_laysEquations 201 = .ok (.iload 4, 2) := by decide +kernel
theorem dX11_laysEquations_203 : decode cX11_laysEquations 203 = .ok (.invokevirtual 469, 3) := by decide +kernel
theorem dX11_laysEquations_206 : decode cX11_laysEquations 206 = .ok (.i2l, 1) := by decide +kernel
theorem dX11_laysEquations_207 : decode cX11_laysEquations 207 = .ok (.lastore, 1) := by decide +kernel
theorem dX11_laysEquations_208 : decode cX11_laysEquations 208 = .ok (.iinc 3 1, 3) := by decide +kernel
theorem dX11_laysEquations_211 : decode cX11_laysEquations 211 = .ok (.goto (-113), 3) := by decide +kernel
theorem dX11_laysEquations_214 : decode cX11_laysEquations 214 = .ok (.return_, 1) := by decide +kernel
def mM_laysEquations_207 (k98 : Int32 → Int32 → hI → hJ → Option (hI × hJ)) (v2 : Int32) (v3 : Int32) (vs1 : Int32) (vs2 : Int64) (I : hI) (J : hJ) : Option (hI × hJ) :=
  h_g (h_in vs1 110) <|
  h_let (h_u J 40 vs1.toNatClampNeg vs2) fun J2 =>
  k98 v2 (v3 + (1 : Int32)) I J2
set_option maxHeartbeats 4000000 in
theorem sM_laysEquations_207 (d : Nat) (hd : 3 + 1 ≤ d) (k98 : Int32 → Int32 → hI → hJ → Option (hI × hJ)) (hk98 : ∀ (v2 : Int32) (v3 : Int32) (I : hI) (J : hJ) (q : hI × hJ), k98 v2 v3 I J = some q → AW hFT cX11_laysEquations 6 none RX11 kdM d [(0, .ref 0), (2, .int v2), (3, .int v3)] 98 [] (I, J, RMm) none (q.1, q.2, RMm)) (v2 : Int32) (v3 : Int32) (vs1 : Int32) (vs2 : Int64) (I : hI) (J : hJ) (q : hI × hJ) (h : mM_laysEquations_207 k98 v2 v3 vs1 vs2 I J = some q) : AW hFT cX11_laysEquations 6 none RX11 kdM d [(0, .ref 0), (2, .int v2), (3, .int v3)] 207 [.long vs2, .int vs1, .ref 40] (I, J, RMm) none (q.1, q.2, RMm) := by
  obtain ⟨d0, rfl, hd0⟩ := h_mono hd
  unfold mM_laysEquations_207 at h
  obtain ⟨g1, h⟩ := h_gS h
  refine b_lastore km_40 (h_inV g1) dX11_laysEquations_207 ?_
  obtain ⟨J2, eJ2, h⟩ := h_letS h
  refine a_memJ eJ2 ?_
  refine b_iinc (lv' := [(3, .int (v3 + (1 : Int32))), (0, .ref 0), (2, .int v2)]) dX11_laysEquations_208 rfl ic_1 (by decide) rfl ?_
  refine a_goto (tgt := 98) dX11_laysEquations_211 (by decide) ?_
  refine a_sub (lv' := [(0, .ref 0), (2, .int v2), (3, .int (v3 + (1 : Int32)))]) [1, 2, 0] rfl ?_
  exact hk98 v2 (v3 + (1 : Int32)) I J2 _ h
def mM_laysEquations_148 (k98 : Int32 → Int32 → hI → hJ → Option (hI × hJ)) (k117 : Int32 → Int32 → Int32 → Int32 → hI → hJ → Option (hI × hJ)) (v2 : Int32) (v3 : Int32) (v4 : Int32) (v5 : Int32) (vs1 : Int32) (vs2 : Int32) (I : hI) (J : hJ) : Option (hI × hJ) :=
  h_g (h_in v5 10) <|
  (mM_toOf v4 (I 38 v5.toNatClampNeg) I).bind fun q2 =>
  h_g (h_in vs1 110) <|
  h_let (h_u J 40 vs1.toNatClampNeg ((vs2 - q2).toInt64)) fun J4 =>
  k117 v2 v3 v4 (v5 + (1 : Int32)) I J4
set_option maxHeartbeats 4000000 in
theorem sM_laysEquations_148 (d : Nat) (hd : 3 + 1 ≤ d) (k98 : Int32 → Int32 → hI → hJ → Option (hI × hJ)) (hk98 : ∀ (v2 : Int32) (v3 : Int32) (I : hI) (J : hJ) (q : hI × hJ), k98 v2 v3 I J = some q → AW hFT cX11_laysEquations 6 none RX11 kdM d [(0, .ref 0), (2, .int v2), (3, .int v3)] 98 [] (I, J, RMm) none (q.1, q.2, RMm)) (k117 : Int32 → Int32 → Int32 → Int32 → hI → hJ → Option (hI × hJ)) (hk117 : ∀ (v2 : Int32) (v3 : Int32) (v4 : Int32) (v5 : Int32) (I : hI) (J : hJ) (q : hI × hJ), k117 v2 v3 v4 v5 I J = some q → AW hFT cX11_laysEquations 6 none RX11 kdM d [(0, .ref 0), (2, .int v2), (3, .int v3), (4, .int v4), (5, .int v5)] 117 [] (I, J, RMm) none (q.1, q.2, RMm)) (v2 : Int32) (v3 : Int32) (v4 : Int32) (v5 : Int32) (vs1 : Int32) (vs2 : Int32) (I : hI) (J : hJ) (q : hI × hJ) (h : mM_laysEquations_148 k98 k117 v2 v3 v4 v5 vs1 vs2 I J = some q) : AW hFT cX11_laysEquations 6 none RX11 kdM d [(0, .ref 0), (2, .int v2), (3, .int v3), (4, .int v4), (5, .int v5)] 148 [.int vs2, .int vs1, .ref 40] (I, J, RMm) none (q.1, q.2, RMm) := by
  obtain ⟨d0, rfl, hd0⟩ := h_mono hd
  unfold mM_laysEquations_148 at h
  refine a_aload_n dX11_laysEquations_148 rfl rfl ?_
  refine a_iload dX11_laysEquations_149 rfl ?_
  refine a_aload_n dX11_laysEquations_151 rfl rfl ?_
  refine b_getR hK_11 km_0 (i := 76) rfl fl_11_123 rfl rmm_76 dX11_laysEquations_152 ?_
  refine a_iload dX11_laysEquations_155 rfl ?_
  obtain ⟨g1, h⟩ := h_gS h
  refine b_iaload km_38 (h_inV g1) dX11_laysEquations_157 ?_
  obtain ⟨q2, cq2, h⟩ := h_bindS h
  refine a_callV1 [.int vs2, .int vs1, .ref 40] yy_X11_toOf ml_11_466 km_0 rfl (sM_toOf _ (by omega) v4 (I 38 v5.toNatClampNeg) I J q2 cq2) rfl rfl (Nat.le_of_ble_eq_true rfl) dX11_laysEquations_158 ?_
  refine a_isub dX11_laysEquations_161 ?_
  refine a_i2l dX11_laysEquations_162 ?_
  obtain ⟨g3, h⟩ := h_gS h
  refine b_lastore km_40 (h_inV g3) dX11_laysEquations_163 ?_
  obtain ⟨J4, eJ4, h⟩ := h_letS h
  refine a_memJ eJ4 ?_
  refine b_iinc (lv' := [(5, .int (v5 + (1 : Int32))), (0, .ref 0), (2, .int v2), (3, .int v3), (4, .int v4)]) dX11_laysEquations_164 rfl ic_1 (by decide) rfl ?_
  refine a_goto (tgt := 117) dX11_laysEquations_167 (by decide) ?_
  refine a_sub (lv' := [(0, .ref 0), (2, .int v2), (3, .int v3), (4, .int v4), (5, .int (v5 + (1 : Int32)))]) [1, 2, 3, 4, 0] rfl ?_
  exact hk117 v2 v3 v4 (v5 + (1 : Int32)) I J4 _ h
def mM_laysEquations_B117 (k98 : Int32 → Int32 → hI → hJ → Option (hI × hJ)) (k117 : Int32 → Int32 → Int32 → Int32 → hI → hJ → Option (hI × hJ)) (v2 : Int32) (v3 : Int32) (v4 : Int32) (v5 : Int32) (I : hI) (J : hJ) : Option (hI × hJ) :=
  if (I 0 78) ≤ v5 then
    (if v2 = 0 then
      ((mM_endedOf v4 I).bind fun q1 =>
      mM_laysEquations_207 k98 v2 v3 (((11 : Int32) * v3) + (10 : Int32)) q1.toInt64 I J)
    else
      ((mM_byPlan v4 I).bind fun q1 =>
      h_g (h_in q1 80) <|
      mM_laysEquations_207 k98 v2 v3 (((11 : Int32) * v3) + (10 : Int32)) ((I 27 q1.toNatClampNeg).toInt64) I J))
  else
    (if v5 = v3 then
      mM_laysEquations_148 k98 k117 v2 v3 v4 v5 (((11 : Int32) * v3) + v5) (4 : Int32) I J
    else
      mM_laysEquations_148 k98 k117 v2 v3 v4 v5 (((11 : Int32) * v3) + v5) (0 : Int32) I J)
set_option maxHeartbeats 4000000 in
theorem sM_laysEquations_B117 (d : Nat) (hd : 3 + 1 ≤ d) (k98 : Int32 → Int32 → hI → hJ → Option (hI × hJ)) (hk98 : ∀ (v2 : Int32) (v3 : Int32) (I : hI) (J : hJ) (q : hI × hJ), k98 v2 v3 I J = some q → AW hFT cX11_laysEquations 6 none RX11 kdM d [(0, .ref 0), (2, .int v2), (3, .int v3)] 98 [] (I, J, RMm) none (q.1, q.2, RMm)) (k117 : Int32 → Int32 → Int32 → Int32 → hI → hJ → Option (hI × hJ)) (hk117 : ∀ (v2 : Int32) (v3 : Int32) (v4 : Int32) (v5 : Int32) (I : hI) (J : hJ) (q : hI × hJ), k117 v2 v3 v4 v5 I J = some q → AW hFT cX11_laysEquations 6 none RX11 kdM d [(0, .ref 0), (2, .int v2), (3, .int v3), (4, .int v4), (5, .int v5)] 117 [] (I, J, RMm) none (q.1, q.2, RMm)) (v2 : Int32) (v3 : Int32) (v4 : Int32) (v5 : Int32) (I : hI) (J : hJ) (q : hI × hJ) (h : mM_laysEquations_B117 k98 k117 v2 v3 v4 v5 I J = some q) : AW hFT cX11_laysEquations 6 none RX11 kdM d [(0, .ref 0), (2, .int v2), (3, .int v3), (4, .int v4), (5, .int v5)] 117 [] (I, J, RMm) none (q.1, q.2, RMm) := by
  obtain ⟨d0, rfl, hd0⟩ := h_mono hd
  unfold mM_laysEquations_B117 at h
  refine a_iload dX11_laysEquations_117 rfl ?_
  refine a_aload_n dX11_laysEquations_119 rfl rfl ?_
  refine b_getI hK_11 km_0 (i := 78) rfl fl_11_480 rfl dX11_laysEquations_120 ?_
  refine a_icmp_ge (tgt := 170) dX11_laysEquations_123 (by decide) (fun c => ?_) (fun c => ?_)
  · replace h := h_iteT c h
    refine a_aload_n dX11_laysEquations_170 rfl rfl ?_
    refine b_getR hK_11 km_0 (i := 79) rfl fl_11_129 rfl rmm_79 dX11_laysEquations_171 ?_
    refine a_bipush dX11_laysEquations_174 bp_11 ?_
    refine a_iload_n dX11_laysEquations_176 rfl rfl ?_
    refine a_imul dX11_laysEquations_177 ?_
    refine a_bipush dX11_laysEquations_178 bp_10 ?_
    refine a_iadd dX11_laysEquations_180 ?_
    refine a_iload_n dX11_laysEquations_181 rfl rfl ?_
    refine a_if_eq (tgt := 200) dX11_laysEquations_182 (by decide) (fun c => ?_) (fun c => ?_)
    · replace h := h_iteT c h
      refine a_aload_n dX11_laysEquations_200 rfl rfl ?_
      refine a_iload dX11_laysEquations_201 rfl ?_
      obtain ⟨q1, cq1, h⟩ := h_bindS h
      refine a_callV1 [.int (((11 : Int32) * v3) + (10 : Int32)), .ref 40] yy_X11_endedOf ml_11_469 km_0 rfl (sM_endedOf _ (by omega) v4 I J q1 cq1) rfl rfl (Nat.le_of_ble_eq_true rfl) dX11_laysEquations_203 ?_
      refine a_i2l dX11_laysEquations_206 ?_
      refine a_sub (lv' := [(0, .ref 0), (2, .int v2), (3, .int v3)]) [0, 1, 2] rfl ?_
      exact sM_laysEquations_207 (d0 + 1) (by omega) k98 hk98 v2 v3 (((11 : Int32) * v3) + (10 : Int32)) q1.toInt64 I J _ h
    · replace h := h_iteF c h
      refine a_aload_n dX11_laysEquations_185 rfl rfl ?_
      refine b_getR hK_11 km_0 (i := 64) rfl fl_11_89 rfl rmm_64 dX11_laysEquations_186 ?_
      refine a_aload_n dX11_laysEquations_189 rfl rfl ?_
      refine a_iload dX11_laysEquations_190 rfl ?_
      obtain ⟨q1, cq1, h⟩ := h_bindS h
      refine a_callV1 [.ref 27, .int (((11 : Int32) * v3) + (10 : Int32)), .ref 40] yy_X11_byPlan ml_11_459 km_0 rfl (sM_byPlan _ (by omega) v4 I J q1 cq1) rfl rfl (Nat.le_of_ble_eq_true rfl) dX11_laysEquations_192 ?_
      obtain ⟨g2, h⟩ := h_gS h
      refine b_iaload km_27 (h_inV g2) dX11_laysEquations_195 ?_
      refine a_i2l dX11_laysEquations_196 ?_
      refine a_goto (tgt := 207) dX11_laysEquations_197 (by decide) ?_
      refine a_sub (lv' := [(0, .ref 0), (2, .int v2), (3, .int v3)]) [0, 1, 2] rfl ?_
      exact sM_laysEquations_207 (d0 + 1) (by omega) k98 hk98 v2 v3 (((11 : Int32) * v3) + (10 : Int32)) ((I 27 q1.toNatClampNeg).toInt64) I J _ h
  · replace h := h_iteF c h
    refine a_aload_n dX11_laysEquations_126 rfl rfl ?_
    refine b_getR hK_11 km_0 (i := 79) rfl fl_11_129 rfl rmm_79 dX11_laysEquations_127 ?_
    refine a_bipush dX11_laysEquations_130 bp_11 ?_
    refine a_iload_n dX11_laysEquations_132 rfl rfl ?_
    refine a_imul dX11_laysEquations_133 ?_
    refine a_iload dX11_laysEquations_134 rfl ?_
    refine a_iadd dX11_laysEquations_136 ?_
    refine a_iload dX11_laysEquations_137 rfl ?_
    refine a_iload_n dX11_laysEquations_139 rfl rfl ?_
    refine a_icmp_ne (tgt := 147) dX11_laysEquations_140 (by decide) (fun c => ?_) (fun c => ?_)
    · replace h := h_iteF c h
      refine a_iconst dX11_laysEquations_147 ic_0 ?_
      exact sM_laysEquations_148 (d0 + 1) (by omega) k98 hk98 k117 hk117 v2 v3 v4 v5 (((11 : Int32) * v3) + v5) (0 : Int32) I J _ h
    · replace h := h_iteT c h
      refine a_iconst dX11_laysEquations_143 ic_4 ?_
      refine a_goto (tgt := 148) dX11_laysEquations_144 (by decide) ?_
      exact sM_laysEquations_148 (d0 + 1) (by omega) k98 hk98 k117 hk117 v2 v3 v4 v5 (((11 : Int32) * v3) + v5) (4 : Int32) I J _ h
def mM_laysEquations_L117 (k98 : Int32 → Int32 → hI → hJ → Option (hI × hJ)) : Nat → Int32 → Int32 → Int32 → Int32 → hI → hJ → Option (hI × hJ)
  | 0 => fun _ _ _ _ _ _ => none
  | n + 1 => mM_laysEquations_B117 k98 (mM_laysEquations_L117 k98 n)
theorem sM_laysEquations_L117 (d : Nat) (hd : 3 + 1 ≤ d) (k98 : Int32 → Int32 → hI → hJ → Option (hI × hJ)) (hk98 : ∀ (v2 : Int32) (v3 : Int32) (I : hI) (J : hJ) (q : hI × hJ), k98 v2 v3 I J = some q → AW hFT cX11_laysEquations 6 none RX11 kdM d [(0, .ref 0), (2, .int v2), (3, .int v3)] 98 [] (I, J, RMm) none (q.1, q.2, RMm)) : ∀ (n : Nat) (v2 : Int32) (v3 : Int32) (v4 : Int32) (v5 : Int32) (I : hI) (J : hJ) (q : hI × hJ) (h : mM_laysEquations_L117 k98 n v2 v3 v4 v5 I J = some q), AW hFT cX11_laysEquations 6 none RX11 kdM d [(0, .ref 0), (2, .int v2), (3, .int v3), (4, .int v4), (5, .int v5)] 117 [] (I, J, RMm) none (q.1, q.2, RMm)
  | 0, _, _, _, _, _, _, q, h => by cases h
  | n + 1, v2, v3, v4, v5, I, J, q, h => sM_laysEquations_B117 d hd k98 hk98 (mM_laysEquations_L117 k98 n) (sM_laysEquations_L117 d hd k98 hk98 n) v2 v3 v4 v5 I J q h
def mM_laysEquations_B98 (k98 : Int32 → Int32 → hI → hJ → Option (hI × hJ)) (v2 : Int32) (v3 : Int32) (I : hI) (J : hJ) : Option (hI × hJ) :=
  if (I 0 78) ≤ v3 then
    some (I, J)
  else
    (h_g (h_in v3 10) <|
    h_let (I 38 v3.toNatClampNeg) fun v4x1 =>
    mM_laysEquations_L117 k98 hF v2 v3 v4x1 (0 : Int32) I J)
set_option maxHeartbeats 4000000 in
theorem sM_laysEquations_B98 (d : Nat) (hd : 3 + 1 ≤ d) (k98 : Int32 → Int32 → hI → hJ → Option (hI × hJ)) (hk98 : ∀ (v2 : Int32) (v3 : Int32) (I : hI) (J : hJ) (q : hI × hJ), k98 v2 v3 I J = some q → AW hFT cX11_laysEquations 6 none RX11 kdM d [(0, .ref 0), (2, .int v2), (3, .int v3)] 98 [] (I, J, RMm) none (q.1, q.2, RMm)) (v2 : Int32) (v3 : Int32) (I : hI) (J : hJ) (q : hI × hJ) (h : mM_laysEquations_B98 k98 v2 v3 I J = some q) : AW hFT cX11_laysEquations 6 none RX11 kdM d [(0, .ref 0), (2, .int v2), (3, .int v3)] 98 [] (I, J, RMm) none (q.1, q.2, RMm) := by
  obtain ⟨d0, rfl, hd0⟩ := h_mono hd
  unfold mM_laysEquations_B98 at h
  refine a_iload_n dX11_laysEquations_98 rfl rfl ?_
  refine a_aload_n dX11_laysEquations_99 rfl rfl ?_
  refine b_getI hK_11 km_0 (i := 78) rfl fl_11_480 rfl dX11_laysEquations_100 ?_
  refine a_icmp_ge (tgt := 214) dX11_laysEquations_103 (by decide) (fun c => ?_) (fun c => ?_)
  · replace h := h_iteT c h
    cases h
    exact a_vret dX11_laysEquations_214
  · replace h := h_iteF c h
    refine a_aload_n dX11_laysEquations_106 rfl rfl ?_
    refine b_getR hK_11 km_0 (i := 76) rfl fl_11_123 rfl rmm_76 dX11_laysEquations_107 ?_
    refine a_iload_n dX11_laysEquations_110 rfl rfl ?_
    obtain ⟨g1, h⟩ := h_gS h
    refine b_iaload km_38 (h_inV g1) dX11_laysEquations_111 ?_
    obtain ⟨v4x1, ev4x1, h⟩ := h_letS h
    refine a_topI ev4x1 ?_
    refine a_istore (lv' := [(4, .int v4x1), (0, .ref 0), (2, .int v2), (3, .int v3)]) dX11_laysEquations_112 (by decide) rfl ?_
    refine a_iconst dX11_laysEquations_114 ic_0 ?_
    refine a_istore (lv' := [(5, .int (0 : Int32)), (4, .int v4x1), (0, .ref 0), (2, .int v2), (3, .int v3)]) dX11_laysEquations_115 (by decide) rfl ?_
    refine a_sub (lv' := [(0, .ref 0), (2, .int v2), (3, .int v3), (4, .int v4x1), (5, .int (0 : Int32))]) [2, 3, 4, 1, 0] rfl ?_
    exact sM_laysEquations_L117 (d0 + 1) (by omega) k98 hk98 hF v2 v3 v4x1 (0 : Int32) I J _ h
def mM_laysEquations_L98  : Nat → Int32 → Int32 → hI → hJ → Option (hI × hJ)
  | 0 => fun _ _ _ _ => none
  | n + 1 => mM_laysEquations_B98 (mM_laysEquations_L98 n)
theorem sM_laysEquations_L98 (d : Nat) (hd : 3 + 1 ≤ d) : ∀ (n : Nat) (v2 : Int32) (v3 : Int32) (I : hI) (J : hJ) (q : hI × hJ) (h : mM_laysEquations_L98 n v2 v3 I J = some q), AW hFT cX11_laysEquations 6 none RX11 kdM d [(0, .ref 0), (2, .int v2), (3, .int v3)] 98 [] (I, J, RMm) none (q.1, q.2, RMm)
  | 0, _, _, _, _, q, h => by cases h
  | n + 1, v2, v3, I, J, q, h => sM_laysEquations_B98 d hd (mM_laysEquations_L98 n) (sM_laysEquations_L98 d hd n) v2 v3 I J q h
def mM_laysEquations_83 (k7 : Int32 → Int32 → Int32 → hI → hJ → Option (hI × hJ)) (v1 : Int32) (v2 : Int32) (v3 : Int32) (I : hI) (J : hJ) : Option (hI × hJ) :=
  h_g (h_in v3 10) <|
  h_let (h_u I 39 v3.toNatClampNeg (-1 : Int32)) fun I2 =>
  k7 v1 v2 (v3 + (1 : Int32)) I2 J
set_option maxHeartbeats 4000000 in
theorem sM_laysEquations_83 (d : Nat) (hd : 3 + 1 ≤ d) (k7 : Int32 → Int32 → Int32 → hI → hJ → Option (hI × hJ)) (hk7 : ∀ (v1 : Int32) (v2 : Int32) (v3 : Int32) (I : hI) (J : hJ) (q : hI × hJ), k7 v1 v2 v3 I J = some q → AW hFT cX11_laysEquations 6 none RX11 kdM d [(0, .ref 0), (1, .int v1), (2, .int v2), (3, .int v3)] 7 [] (I, J, RMm) none (q.1, q.2, RMm)) (v1 : Int32) (v2 : Int32) (v3 : Int32) (I : hI) (J : hJ) (q : hI × hJ) (h : mM_laysEquations_83 k7 v1 v2 v3 I J = some q) : AW hFT cX11_laysEquations 6 none RX11 kdM d [(0, .ref 0), (1, .int v1), (2, .int v2), (3, .int v3)] 83 [] (I, J, RMm) none (q.1, q.2, RMm) := by
  obtain ⟨d0, rfl, hd0⟩ := h_mono hd
  unfold mM_laysEquations_83 at h
  refine a_aload_n dX11_laysEquations_83 rfl rfl ?_
  refine b_getR hK_11 km_0 (i := 77) rfl fl_11_126 rfl rmm_77 dX11_laysEquations_84 ?_
  refine a_iload_n dX11_laysEquations_87 rfl rfl ?_
  refine a_iconst dX11_laysEquations_88 ic_m1 ?_
  obtain ⟨g1, h⟩ := h_gS h
  refine b_iastore km_39 (h_inV g1) dX11_laysEquations_89 ?_
  obtain ⟨I2, eI2, h⟩ := h_letS h
  refine a_memI eI2 ?_
  refine b_iinc (lv' := [(3, .int (v3 + (1 : Int32))), (0, .ref 0), (1, .int v1), (2, .int v2)]) dX11_laysEquations_90 rfl ic_1 (by decide) rfl ?_
  refine a_goto (tgt := 7) dX11_laysEquations_93 (by decide) ?_
  refine a_sub (lv' := [(0, .ref 0), (1, .int v1), (2, .int v2), (3, .int (v3 + (1 : Int32)))]) [1, 2, 3, 0] rfl ?_
  exact hk7 v1 v2 (v3 + (1 : Int32)) I2 J _ h
def mM_laysEquations_50 (k7 : Int32 → Int32 → Int32 → hI → hJ → Option (hI × hJ)) (v1 : Int32) (v2 : Int32) (v3 : Int32) (I : hI) (J : hJ) : Option (hI × hJ) :=
  h_g (h_in (I 0 78) 10) <|
  h_let (h_u I 38 (I 0 78).toNatClampNeg v3) fun I2 =>
  h_g (h_in v3 10) <|
  h_let (h_u I2 39 v3.toNatClampNeg (I2 0 78)) fun I4 =>
  h_let (h_u I4 0 78 ((I4 0 78) + (1 : Int32))) fun I5 =>
  k7 v1 v2 (v3 + (1 : Int32)) I5 J
set_option maxHeartbeats 4000000 in
theorem sM_laysEquations_50 (d : Nat) (hd : 3 + 1 ≤ d) (k7 : Int32 → Int32 → Int32 → hI → hJ → Option (hI × hJ)) (hk7 : ∀ (v1 : Int32) (v2 : Int32) (v3 : Int32) (I : hI) (J : hJ) (q : hI × hJ), k7 v1 v2 v3 I J = some q → AW hFT cX11_laysEquations 6 none RX11 kdM d [(0, .ref 0), (1, .int v1), (2, .int v2), (3, .int v3)] 7 [] (I, J, RMm) none (q.1, q.2, RMm)) (v1 : Int32) (v2 : Int32) (v3 : Int32) (I : hI) (J : hJ) (q : hI × hJ) (h : mM_laysEquations_50 k7 v1 v2 v3 I J = some q) : AW hFT cX11_laysEquations 6 none RX11 kdM d [(0, .ref 0), (1, .int v1), (2, .int v2), (3, .int v3)] 50 [] (I, J, RMm) none (q.1, q.2, RMm) := by
  obtain ⟨d0, rfl, hd0⟩ := h_mono hd
  unfold mM_laysEquations_50 at h
  refine a_aload_n dX11_laysEquations_50 rfl rfl ?_
  refine b_getR hK_11 km_0 (i := 76) rfl fl_11_123 rfl rmm_76 dX11_laysEquations_51 ?_
  refine a_aload_n dX11_laysEquations_54 rfl rfl ?_
  refine b_getI hK_11 km_0 (i := 78) rfl fl_11_480 rfl dX11_laysEquations_55 ?_
  refine a_iload_n dX11_laysEquations_58 rfl rfl ?_
  obtain ⟨g1, h⟩ := h_gS h
  refine b_iastore km_38 (h_inV g1) dX11_laysEquations_59 ?_
  obtain ⟨I2, eI2, h⟩ := h_letS h
  refine a_memI eI2 ?_
  refine a_aload_n dX11_laysEquations_60 rfl rfl ?_
  refine b_getR hK_11 km_0 (i := 77) rfl fl_11_126 rfl rmm_77 dX11_laysEquations_61 ?_
  refine a_iload_n dX11_laysEquations_64 rfl rfl ?_
  refine a_aload_n dX11_laysEquations_65 rfl rfl ?_
  refine b_getI hK_11 km_0 (i := 78) rfl fl_11_480 rfl dX11_laysEquations_66 ?_
  obtain ⟨g3, h⟩ := h_gS h
  refine b_iastore km_39 (h_inV g3) dX11_laysEquations_69 ?_
  obtain ⟨I4, eI4, h⟩ := h_letS h
  refine a_memI eI4 ?_
  refine a_aload_n dX11_laysEquations_70 rfl rfl ?_
  refine a_dup dX11_laysEquations_71 rfl ?_
  refine b_getI hK_11 km_0 (i := 78) rfl fl_11_480 rfl dX11_laysEquations_72 ?_
  refine a_iconst dX11_laysEquations_75 ic_1 ?_
  refine a_iadd dX11_laysEquations_76 ?_
  refine b_putI hK_11 km_0 (i := 78) rfl fl_11_480 rfl rfl (h_NI _) dX11_laysEquations_77 ?_
  obtain ⟨I5, eI5, h⟩ := h_letS h
  refine a_memI eI5 ?_
  refine a_goto (tgt := 90) dX11_laysEquations_80 (by decide) ?_
  refine b_iinc (lv' := [(3, .int (v3 + (1 : Int32))), (0, .ref 0), (1, .int v1), (2, .int v2)]) dX11_laysEquations_90 rfl ic_1 (by decide) rfl ?_
  refine a_goto (tgt := 7) dX11_laysEquations_93 (by decide) ?_
  refine a_sub (lv' := [(0, .ref 0), (1, .int v1), (2, .int v2), (3, .int (v3 + (1 : Int32)))]) [1, 2, 3, 0] rfl ?_
  exact hk7 v1 v2 (v3 + (1 : Int32)) I5 J _ h
def mM_laysEquations_B7 (k7 : Int32 → Int32 → Int32 → hI → hJ → Option (hI × hJ)) (v1 : Int32) (v2 : Int32) (v3 : Int32) (I : hI) (J : hJ) : Option (hI × hJ) :=
  if (I 0 41) ≤ v3 then
    mM_laysEquations_L98 hF v2 (0 : Int32) I J
  else
    ((mM_isInside v3 I).bind fun q1 =>
    if q1 = 0 then
      mM_laysEquations_83 k7 v1 v2 v3 I J
    else
      (h_g (h_in v3 10) <|
      if (I 37 v3.toNatClampNeg) = 0 then
        (if v2 = 0 then
          mM_laysEquations_50 k7 v1 v2 v3 I J
        else
          (h_g (h_in (((10 : Int32) * v1) + v3) 640) <|
          if (I 35 (((10 : Int32) * v1) + v3).toNatClampNeg) = 0 then
            mM_laysEquations_50 k7 v1 v2 v3 I J
          else
            mM_laysEquations_83 k7 v1 v2 v3 I J))
      else
        mM_laysEquations_83 k7 v1 v2 v3 I J))
set_option maxHeartbeats 4000000 in
theorem sM_laysEquations_B7 (d : Nat) (hd : 3 + 1 ≤ d) (k7 : Int32 → Int32 → Int32 → hI → hJ → Option (hI × hJ)) (hk7 : ∀ (v1 : Int32) (v2 : Int32) (v3 : Int32) (I : hI) (J : hJ) (q : hI × hJ), k7 v1 v2 v3 I J = some q → AW hFT cX11_laysEquations 6 none RX11 kdM d [(0, .ref 0), (1, .int v1), (2, .int v2), (3, .int v3)] 7 [] (I, J, RMm) none (q.1, q.2, RMm)) (v1 : Int32) (v2 : Int32) (v3 : Int32) (I : hI) (J : hJ) (q : hI × hJ) (h : mM_laysEquations_B7 k7 v1 v2 v3 I J = some q) : AW hFT cX11_laysEquations 6 none RX11 kdM d [(0, .ref 0), (1, .int v1), (2, .int v2), (3, .int v3)] 7 [] (I, J, RMm) none (q.1, q.2, RMm) := by
  obtain ⟨d0, rfl, hd0⟩ := h_mono hd
  unfold mM_laysEquations_B7 at h
  refine a_iload_n dX11_laysEquations_7 rfl rfl ?_
  refine a_aload_n dX11_laysEquations_8 rfl rfl ?_
  refine b_getI hK_11 km_0 (i := 41) rfl fl_11_367 rfl dX11_laysEquations_9 ?_
  refine a_icmp_ge (tgt := 96) dX11_laysEquations_12 (by decide) (fun c => ?_) (fun c => ?_)
  · replace h := h_iteT c h
    refine a_iconst dX11_laysEquations_96 ic_0 ?_
    refine a_istore_n (lv' := [(3, .int (0 : Int32)), (0, .ref 0), (1, .int v1), (2, .int v2)]) dX11_laysEquations_97 rfl (by decide) rfl ?_
    refine a_sub (lv' := [(0, .ref 0), (2, .int v2), (3, .int (0 : Int32))]) [1, 3, 0] rfl ?_
    exact sM_laysEquations_L98 (d0 + 1) (by omega) hF v2 (0 : Int32) I J _ h
  · replace h := h_iteF c h
    refine a_aload_n dX11_laysEquations_15 rfl rfl ?_
    refine a_iload_n dX11_laysEquations_16 rfl rfl ?_
    obtain ⟨q1, cq1, h⟩ := h_bindS h
    refine a_callV1 [] yy_X11_isInside ml_11_463 km_0 rfl (sM_isInside _ (by omega) v3 I J q1 cq1) rfl rfl (Nat.le_of_ble_eq_true rfl) dX11_laysEquations_17 ?_
    refine a_if_eq (tgt := 83) dX11_laysEquations_20 (by decide) (fun c => ?_) (fun c => ?_)
    · replace h := h_iteT c h
      exact sM_laysEquations_83 (d0 + 1) (by omega) k7 hk7 v1 v2 v3 I J _ h
    · replace h := h_iteF c h
      refine a_aload_n dX11_laysEquations_23 rfl rfl ?_
      refine b_getR hK_11 km_0 (i := 75) rfl fl_11_120 rfl rmm_75 dX11_laysEquations_24 ?_
      refine a_iload_n dX11_laysEquations_27 rfl rfl ?_
      obtain ⟨g2, h⟩ := h_gS h
      refine b_zaload km_37 (h_inV g2) dX11_laysEquations_28 ?_
      refine a_if_ne (tgt := 83) dX11_laysEquations_29 (by decide) (fun c => ?_) (fun c => ?_)
      · replace h := h_iteF c h
        exact sM_laysEquations_83 (d0 + 1) (by omega) k7 hk7 v1 v2 v3 I J _ h
      · replace h := h_iteT c h
        refine a_iload_n dX11_laysEquations_32 rfl rfl ?_
        refine a_if_eq (tgt := 50) dX11_laysEquations_33 (by decide) (fun c => ?_) (fun c => ?_)
        · replace h := h_iteT c h
          exact sM_laysEquations_50 (d0 + 1) (by omega) k7 hk7 v1 v2 v3 I J _ h
        · replace h := h_iteF c h
          refine a_aload_n dX11_laysEquations_36 rfl rfl ?_
          refine b_getR hK_11 km_0 (i := 73) rfl fl_11_114 rfl rmm_73 dX11_laysEquations_37 ?_
          refine a_bipush dX11_laysEquations_40 bp_10 ?_
          refine a_iload_n dX11_laysEquations_42 rfl rfl ?_
          refine a_imul dX11_laysEquations_43 ?_
          refine a_iload_n dX11_laysEquations_44 rfl rfl ?_
          refine a_iadd dX11_laysEquations_45 ?_
          obtain ⟨g3, h⟩ := h_gS h
          refine b_zaload km_35 (h_inV g3) dX11_laysEquations_46 ?_
          refine a_if_ne (tgt := 83) dX11_laysEquations_47 (by decide) (fun c => ?_) (fun c => ?_)
          · replace h := h_iteF c h
            exact sM_laysEquations_83 (d0 + 1) (by omega) k7 hk7 v1 v2 v3 I J _ h
          · replace h := h_iteT c h
            exact sM_laysEquations_50 (d0 + 1) (by omega) k7 hk7 v1 v2 v3 I J _ h
def mM_laysEquations_L7  : Nat → Int32 → Int32 → Int32 → hI → hJ → Option (hI × hJ)
  | 0 => fun _ _ _ _ _ => none
  | n + 1 => mM_laysEquations_B7 (mM_laysEquations_L7 n)
theorem sM_laysEquations_L7 (d : Nat) (hd : 3 + 1 ≤ d) : ∀ (n : Nat) (v1 : Int32) (v2 : Int32) (v3 : Int32) (I : hI) (J : hJ) (q : hI × hJ) (h : mM_laysEquations_L7 n v1 v2 v3 I J = some q), AW hFT cX11_laysEquations 6 none RX11 kdM d [(0, .ref 0), (1, .int v1), (2, .int v2), (3, .int v3)] 7 [] (I, J, RMm) none (q.1, q.2, RMm)
  | 0, _, _, _, _, _, q, h => by cases h
  | n + 1, v1, v2, v3, I, J, q, h => sM_laysEquations_B7 d hd (mM_laysEquations_L7 n) (sM_laysEquations_L7 d hd n) v1 v2 v3 I J q h
def mM_laysEquations  (v1 : Int32) (v2 : Int32) (I : hI) (J : hJ) : Option (hI × hJ) :=
  h_let (h_u I 0 78 (0 : Int32)) fun I1 =>
  mM_laysEquations_L7 hF v1 v2 (0 : Int32) I1 J
set_option maxHeartbeats 4000000 in
theorem sM_laysEquations (d : Nat) (hd : 3 + 1 ≤ d) (v1 : Int32) (v2 : Int32) (I : hI) (J : hJ) (q : hI × hJ) (h : mM_laysEquations v1 v2 I J = some q) : HMet hFT yX11_laysEquations cX11_laysEquations 6 none kdM d [.ref 0, .int v1, .int v2] (I, J, RMm) none (q.1, q.2, RMm) := by
  obtain ⟨d0, rfl, hd0⟩ := h_mono hd
  refine HMet.of (by decide) (Nat.le_of_ble_eq_true rfl) ?_
  show AW hFT cX11_laysEquations 6 none RX11 kdM (d0 + 1) [(0, .ref 0), (1, .int v1), (2, .int v2)] 0 [] (I, J, RMm) none (q.1, q.2, RMm)
  unfold mM_laysEquations at h
  refine a_aload_n dX11_laysEquations_0 rfl rfl ?_
  refine a_iconst dX11_laysEquations_1 ic_0 ?_
  refine b_putI hK_11 km_0 (i := 78) rfl fl_11_480 rfl rfl (h_NI _) dX11_laysEquations_2 ?_
  obtain ⟨I1, eI1, h⟩ := h_letS h
  refine a_memI eI1 ?_
  refine a_iconst dX11_laysEquations_5 ic_0 ?_
  refine a_istore_n (lv' := [(3, .int (0 : Int32)), (0, .ref 0), (1, .int v1), (2, .int v2)]) dX11_laysEquations_6 rfl (by decide) rfl ?_
  refine a_sub (lv' := [(0, .ref 0), (1, .int v1), (2, .int v2), (3, .int (0 : Int32))]) [1, 2, 3, 0] rfl ?_
  exact sM_laysEquations_L7 (d0 + 1) (by omega) hF v1 v2 (0 : Int32) I1 J _ h
/-! CoinLoopsModel.laysFractions(IZ[J[J)V -/
theorem dX11_laysFractions_0 : decode cX11_laysFractions 0 = .ok (.iconst 0, 1) := by decide +kernel
theorem dX11_laysFractions_1 : decode cX11_laysFractions 1 = .ok (.istore 5, 2) := by decide +kernel
theorem dX11_laysFractions_3 : decode cX11_laysFractions 3 = .ok (.iload 5, 2) := by decide +kernel
theorem dX11_laysFractions_5 : decode cX11_laysFractions 5 = .ok (.aload_n 0, 1) := by decide +kernel
theorem dX11_laysFractions_6 : decode cX11_laysFractions 6 = .ok (.getfield 367, 3) := by decide +kernel
theorem dX11_laysFractions_9 : decode cX11_laysFractions 9 = .ok (.if_icmp .ge 47, 3) := by decide +kernel
theorem dX11_laysFractions_12 : decode cX11_laysFractions 12 = .ok (.aload_n 3, 1) := by decide +kernel
theorem dX11_laysFractions_13 : decode cX11_laysFractions 13 = .ok (.bipush 10, 2) := by decide +kernel
theorem dX11_laysFractions_15 : decode cX11_laysFractions 15 = .ok (.iload_n 1, 1) := by decide +kernel
theorem dX11_laysFractions_16 : decode cX11_laysFractions 16 = .ok (.imul, 1) := by decide +kernel
theorem dX11_laysFractions_17 : decode cX11_laysFractions 17 = .ok (.iload 5, 2) := by decide +kernel
theorem dX11_laysFractions_19 : decode cX11_laysFractions 19 = .ok (.iadd, 1) := by decide +kernel
theorem dX11_laysFractions_20 : decode cX11_laysFractions 20 = .ok (.iload_n 2, 1) := by decide +kernel
theorem dX11_laysFractions_21 : decode cX11_laysFractions 21 = .ok (.ifCond .ne 16, 3) := by decide +kernel
theorem dX11_laysFractions_24 : decode cX11_laysFractions 24 = .ok (.aload_n 0, 1) := by decide +kernel
theorem dX11_laysFractions_25 : decode cX11_laysFractions 25 = .ok (.iload 5, 2) := by decide +kernel
theorem dX11_laysFractions_27 : decode cX11_laysFractions 27 = .ok (.invokevirtual 463, 3) := by decide +kernel
theorem dX11_laysFractions_30 : decode cX11_laysFractions 30 = .ok (.ifCond .ne 7, 3) := by decide +kernel
theorem dX11_laysFractions_33 : decode cX11_laysFractions 33 = .ok (.lconst 1, 1) := by decide +kernel
theorem dX11_laysFractions_34 : decode cX11_laysFractions 34 = .ok (.goto 4, 3) := by decide +kernel
theorem dX11_laysFractions_37 : decode cX11_laysFractions 37 = .ok (.lconst 0, 1) := by decide +kernel
theorem dX11_laysFractions_38 : decode cX11_laysFractions 38 = .ok (.lastore, 1) := by decide +kernel
theorem dX11_laysFractions_39 : decode cX11_laysFractions 39 = .ok (.aload 4, 2) := by decide +kernel
theorem dX11_laysFractions_41 : decode cX11_laysFractions 41 = .ok (.bipush 10, 2) := by decide +kernel
theorem dX11_laysFractions_43 : decode cX11_laysFractions 43 = .ok (.iload_n 1, 1) := by decide +kernel
theorem dX11_laysFractions_44 : decode cX11_laysFractions 44 = .ok (.imul, 1) := by decide +kernel
theorem dX11_laysFractions_45 : decode cX11_laysFractions 45 = .ok (.iload 5, 2) := by decide +kernel
theorem dX11_laysFractions_47 : decode cX11_laysFractions 47 = .ok (.iadd, 1) := by decide +kernel
theorem dX11_laysFractions_48 : decode cX11_laysFractions 48 = .ok (.lconst 1, 1) := by decide +kernel
theorem dX11_laysFractions_49 : decode cX11_laysFractions 49 = .ok (.lastore, 1) := by decide +kernel
theorem dX11_laysFractions_50 : decode cX11_laysFractions 50 = .ok (.iinc 5 1, 3) := by decide +kernel
theorem dX11_laysFractions_53 : decode cX11_laysFractions 53 = .ok (.goto (-50), 3) := by decide +kernel
theorem dX11_laysFractions_56 : decode cX11_laysFractions 56 = .ok (.aload_n 0, 1) := by decide +kernel
theorem dX11_laysFractions_57 : decode cX11_laysFractions 57 = .ok (.iload_n 1, 1) := by decide +kernel
theorem dX11_laysFractions_58 : decode cX11_laysFractions 58 = .ok (.iload_n 2, 1) := by decide +kernel
theorem dX11_laysFractions_59 : decode cX11_laysFractions 59 = .ok (.invokevirtual 487, 3) := by decide +kernel
theorem dX11_laysFractions_62 : decode cX11_laysFractions 62 = .ok (.aload_n 0, 1) := by decide +kernel
theorem dX11_laysFractions_63 : decode cX11_laysFractions 63 = .ok (.iconst (-1), 1) := by decide +kernel
theorem dX11_laysFractions_64 : decode cX11_laysFractions 64 = .ok (.invokevirtual 491, 3) := by decide +kernel
theorem dX11_laysFractions_67 : decode cX11_laysFractions 67 = .ok (.lstore 5, 2) := by decide +kernel
theorem dX11_laysFractions_69 : decode cX11_laysFractions 69 = .ok (.iconst 0, 1) := by decide +kernel
theorem dX11_laysFractions_70 : decode cX11_laysFractions 70 = .ok (.istore 7, 2) := by decide +kernel
theorem dX11_laysFractions_72 : decode cX11_laysFractions 72 = .ok (.iload 7, 2) := by decide +kernel
theorem dX11_laysFractions_74 : decode cX11_laysFractions 74 = .ok (.aload_n 0, 1) := by decide +kernel
theorem dX11_laysFractions_75 : decode cX11_laysFractions 75 = .ok (.getfield 480, 3) := by decide +kernel
theorem dX11_laysFractions_78 : decode cX11_laysFractions 78 = .ok (.if_icmp .ge 82, 3) := by decide +kernel
theorem dX11_laysFractions_81 : decode cX11_laysFractions 81 = .ok (.aload_n 0, 1) := by decide +kernel
theorem dX11_laysFractions_82 : decode cX11_laysFractions 82 = .ok (.iload 7, 2) := by decide +kernel
theorem dX11_laysFractions_84 : decode cX11_laysFractions 84 = .ok (.invokevirtual 491, 3) := by decide +kernel
theorem dX11_laysFractions_87 : decode cX11_laysFractions 87 = .ok (.lstore 8, 2) := by decide +kernel
theorem dX11_laysFractions_89 : decode cX11_laysFractions 89 = .ok (.lload 8, 2) := by decide +kernel
theorem dX11_laysFractions_91 : decode cX11_laysFractions 91 = .ok (.lload 5, 2) := by decide +kernel
theorem dX11_laysFractions_93 : decode cX11_laysFractions 93 = .ok (.invokestatic 476, 3) := by decide +kernel
theorem dX11_laysFractions_96 : decode cX11_laysFractions 96 = .ok (.lstore 10, 2) := by decide +kernel
theorem dX11_laysFractions_98 : decode cX11_laysFractions 98 = .ok (.lload 5, 2) := by decide +kernel
theorem dX11_laysFractions_100 : decode cX11_laysFractions 100 = .ok (.lconst 0, 1) := by decide +kernel
theorem dX11_laysFractions_101 : decode cX11_laysFractions 101 = .ok (.lcmp, 1) := by decide +kernel
theorem dX11_laysFractions_102 : decode cX11_laysFractions 102 = .ok (.ifCond .ge 9, 3) := by decide +kernel
theorem dX11_laysFractions_105 : decode cX11_laysFractions 105 = .ok (.lload 10, 2) := by decide +kernel
theorem dX11_laysFractions_107 : decode cX11_laysFractions 107 = .ok (.lneg, 1) := by decide +kernel
theorem dX11_laysFractions_108 : decode cX11_laysFractions 108 = .ok (.goto 5, 3) := by decide +kernel
theorem dX11_laysFractions_111 : decode cX11_laysFractions 111 = .ok (.lload 10, 2) := by decide +kernel
theorem dX11_laysFractions_113 : decode cX11_laysFractions 113 = .ok (.lstore 10, 2) := by decide +kernel
theorem dX11_laysFractions_115 : decode cX11_laysFractions 115 = .ok (.aload_n 3, 1) := by decide +kernel
theorem dX11_laysFractions_116 : decode cX11_laysFractions 116 = .ok (.bipush 10, 2) := by decide +kernel
theorem dX11_laysFractions_118 : decode cX11_laysFractions 118 = .ok (.iload_n 1, 1) := by decide +kernel
theorem dX11_laysFractions_119 : decode cX11_laysFractions 119 = .ok (.imul, 1) := by decide +kernel
theorem dX11_laysFractions_120 : decode cX11_laysFractions 120 = .ok (.aload_n 0, 1) := by decide +kernel
theorem dX11_laysFractions_121 : decode cX11_laysFractions 121 = .ok (.getfield 123, 3) := by decide +kernel
theorem dX11_laysFractions_124 : decode cX11_laysFractions 124 = .ok (.iload 7, 2) := by decide +kernel
theorem dX11_laysFractions_126 : decode cX11_laysFractions 126 = .ok (.iaload, 1) := by decide +kernel
theorem dX11_laysFractions_127 : decode cX11_laysFractions 127 = .ok (.iadd, 1) := by decide +kernel
theorem dX11_laysFractions_128 : decode cX11_laysFractions 128 = .ok (.lload 8, 2) := by decide +kernel
theorem dX11_laysFractions_130 : decode cX11_laysFractions 130 = .ok (.lload 10, 2) := by decide +kernel
theorem dX11_laysFractions_132 : decode cX11_laysFractions 132 = .ok (.ldiv, 1) := by decide +kernel
theorem dX11_laysFractions_133 : decode cX11_laysFractions 133 = .ok (.lastore, 1) := by decide +kernel
theorem dX11_laysFractions_134 : decode cX11_laysFractions 134 = .ok (.aload 4, 2) := by decide +kernel
theorem dX11_laysFractions_136 : decode cX11_laysFractions 136 = .ok (.bipush 10, 2) := by decide +kernel
theorem dX11_laysFractions_138 : decode cX11_laysFractions 138 = .ok (.iload_n 1, 1) := by decide +kernel
theorem dX11_laysFractions_139 : decode cX11_laysFractions 139 = .ok (.imul, 1) := by decide +kernel
theorem dX11_laysFractions_140 : decode cX11_laysFractions 140 = .ok (.aload_n 0, 1) := by decide +kernel
theorem dX11_laysFractions_141 : decode cX11_laysFractions 141 = .ok (.getfield 123, 3) := by decide +kernel
theorem dX11_laysFractions_144 : decode cX11_laysFractions 144 = .ok (.iload 7, 2) := by decide +kernel
theorem dX11_laysFractions_146 : decode cX11_laysFractions 146 = .ok (.iaload, 1) := by decide +kernel
theorem dX11_laysFractions_147 : decode cX11_laysFractions 147 = .ok (.iadd, 1) := by decide +kernel
theorem dX11_laysFractions_148 : decode cX11_laysFractions 148 = .ok (.lload 5, 2) := by decide +kernel
theorem dX11_laysFractions_150 : decode cX11_laysFractions 150 = .ok (.lload 10, 2) := by decide +kernel
theorem dX11_laysFractions_152 : decode cX11_laysFractions 152 = .ok (.ldiv, 1) := by decide +kernel
theorem dX11_laysFractions_153 : decode cX11_laysFractions 153 = .ok (.lastore, 1) := by decide +kernel
theorem dX11_laysFractions_154 : decode cX11_laysFractions 154 = .ok (.iinc 7 1, 3) := by decide +kernel
theorem dX11_laysFractions_157 : decode cX11_laysFractions 157 = .ok (.goto (-85), 3) := by decide +kernel
theorem dX11_laysFractions_160 : decode cX11_laysFractions 160 = .ok (.return_, 1) := by decide +kernel
def mM_laysFractions_113 (k72 : Int32 → Nat → Nat → Int64 → Int32 → hI → hJ → Option (hI × hJ)) (v1 : Int32) (a3 : Nat) (a4 : Nat) (v5 : Int64) (v7 : Int32) (v8 : Int64) (vs0 : Int64) (I : hI) (J : hJ) : Option (hI × hJ) :=
  h_g (h_in v7 10) <|
  h_g (h_nzL vs0) <|
  h_g (h_in (((10 : Int32) * v1) + (I 38 v7.toNatClampNeg)) 640) <|
  h_let (h_u J a3 (((10 : Int32) * v1) + (I 38 v7.toNatClampNeg)).toNatClampNeg (v8 / vs0)) fun J4 =>
  h_g (h_in v7 10) <|
  h_g (h_nzL vs0) <|
  h_g (h_in (((10 : Int32) * v1) + (I 38 v7.toNatClampNeg)) 640) <|
  h_let (h_u J4 a4 (((10 : Int32) * v1) + (I 38 v7.toNatClampNeg)).toNatClampNeg (v5 / vs0)) fun J8 =>
  k72 v1 a3 a4 v5 (v7 + (1 : Int32)) I J8
set_option maxHeartbeats 4000000 in
theorem sM_laysFractions_113 (d : Nat) (hd : 101 + 1 ≤ d) (k72 : Int32 → Nat → Nat → Int64 → Int32 → hI → hJ → Option (hI × hJ)) (hk72 : ∀ (v1 : Int32) (a3 : Nat) (ha3 : kdM[a3]? = some (1, 640)) (a4 : Nat) (ha4 : kdM[a4]? = some (1, 640)) (v5 : Int64) (v7 : Int32) (I : hI) (J : hJ) (q : hI × hJ), k72 v1 a3 a4 v5 v7 I J = some q → AW hFT cX11_laysFractions 12 none RX11 kdM d [(0, .ref 0), (1, .int v1), (3, .ref a3), (4, .ref a4), (5, .long v5), (7, .int v7)] 72 [] (I, J, RMm) none (q.1, q.2, RMm)) (v1 : Int32) (a3 : Nat) (ha3 : kdM[a3]? = some (1, 640)) (a4 : Nat) (ha4 : kdM[a4]? = some (1, 640)) (v5 : Int64) (v7 : Int32) (v8 : Int64) (vs0 : Int64) (I : hI) (J : hJ) (q : hI × hJ) (h : mM_laysFractions_113 k72 v1 a3 a4 v5 v7 v8 vs0 I J = some q) : AW hFT cX11_laysFractions 12 none RX11 kdM d [(0, .ref 0), (1, .int v1), (3, .ref a3), (4, .ref a4), (5, .long v5), (7, .int v7), (8, .long v8)] 113 [.long vs0] (I, J, RMm) none (q.1, q.2, RMm) := by
  obtain ⟨d0, rfl, hd0⟩ := h_mono hd
  unfold mM_laysFractions_113 at h
  refine a_lstore (lv' := [(10, .long vs0), (0, .ref 0), (1, .int v1), (3, .ref a3), (4, .ref a4), (5, .long v5), (7, .int v7), (8, .long v8)]) dX11_laysFractions_113 (by decide) rfl ?_
  refine a_aload_n dX11_laysFractions_115 rfl rfl ?_
  refine a_bipush dX11_laysFractions_116 bp_10 ?_
  refine a_iload_n dX11_laysFractions_118 rfl rfl ?_
  refine a_imul dX11_laysFractions_119 ?_
  refine a_aload_n dX11_laysFractions_120 rfl rfl ?_
  refine b_getR hK_11 km_0 (i := 76) rfl fl_11_123 rfl rmm_76 dX11_laysFractions_121 ?_
  refine a_iload dX11_laysFractions_124 rfl ?_
  obtain ⟨g1, h⟩ := h_gS h
  refine b_iaload km_38 (h_inV g1) dX11_laysFractions_126 ?_
  refine a_iadd dX11_laysFractions_127 ?_
  refine a_lload dX11_laysFractions_128 rfl ?_
  refine a_lload dX11_laysFractions_130 rfl ?_
  obtain ⟨g2, h⟩ := h_gS h
  refine a_ldiv dX11_laysFractions_132 (h_nzLV g2) ?_
  obtain ⟨g3, h⟩ := h_gS h
  refine b_lastore ha3 (h_inV g3) dX11_laysFractions_133 ?_
  obtain ⟨J4, eJ4, h⟩ := h_letS h
  refine a_memJ eJ4 ?_
  refine a_aload dX11_laysFractions_134 rfl ?_
  refine a_bipush dX11_laysFractions_136 bp_10 ?_
  refine a_iload_n dX11_laysFractions_138 rfl rfl ?_
  refine a_imul dX11_laysFractions_139 ?_
  refine a_aload_n dX11_laysFractions_140 rfl rfl ?_
  refine b_getR hK_11 km_0 (i := 76) rfl fl_11_123 rfl rmm_76 dX11_laysFractions_141 ?_
  refine a_iload dX11_laysFractions_144 rfl ?_
  obtain ⟨g5, h⟩ := h_gS h
  refine b_iaload km_38 (h_inV g5) dX11_laysFractions_146 ?_
  refine a_iadd dX11_laysFractions_147 ?_
  refine a_lload dX11_laysFractions_148 rfl ?_
  refine a_lload dX11_laysFractions_150 rfl ?_
  obtain ⟨g6, h⟩ := h_gS h
  refine a_ldiv dX11_laysFractions_152 (h_nzLV g6) ?_
  obtain ⟨g7, h⟩ := h_gS h
  refine b_lastore ha4 (h_inV g7) dX11_laysFractions_153 ?_
  obtain ⟨J8, eJ8, h⟩ := h_letS h
  refine a_memJ eJ8 ?_
  refine b_iinc (lv' := [(7, .int (v7 + (1 : Int32))), (10, .long vs0), (0, .ref 0), (1, .int v1), (3, .ref a3), (4, .ref a4), (5, .long v5), (8, .long v8)]) dX11_laysFractions_154 rfl ic_1 (by decide) rfl ?_
  refine a_goto (tgt := 72) dX11_laysFractions_157 (by decide) ?_
  refine a_sub (lv' := [(0, .ref 0), (1, .int v1), (3, .ref a3), (4, .ref a4), (5, .long v5), (7, .int (v7 + (1 : Int32)))]) [2, 3, 4, 5, 6, 0] rfl ?_
  exact hk72 v1 a3 ha3 a4 ha4 v5 (v7 + (1 : Int32)) I J8 _ h
def mM_laysFractions_B72 (k72 : Int32 → Nat → Nat → Int64 → Int32 → hI → hJ → Option (hI × hJ)) (v1 : Int32) (a3 : Nat) (a4 : Nat) (v5 : Int64) (v7 : Int32) (I : hI) (J : hJ) : Option (hI × hJ) :=
  if (I 0 78) ≤ v7 then
    some (I, J)
  else
    ((mM_determinantWith v7 I J).bind fun q1 =>
    h_let q1.1 fun v8x1 =>
    (mM_divisor 100 v8x1 v5).bind fun q3 =>
    if (0 : Int64) ≤ v5 then
      mM_laysFractions_113 k72 v1 a3 a4 v5 v7 v8x1 q3 I q1.2
    else
      mM_laysFractions_113 k72 v1 a3 a4 v5 v7 v8x1 (-q3) I q1.2)
set_option maxHeartbeats 4000000 in
theorem sM_laysFractions_B72 (d : Nat) (hd : 101 + 1 ≤ d) (k72 : Int32 → Nat → Nat → Int64 → Int32 → hI → hJ → Option (hI × hJ)) (hk72 : ∀ (v1 : Int32) (a3 : Nat) (ha3 : kdM[a3]? = some (1, 640)) (a4 : Nat) (ha4 : kdM[a4]? = some (1, 640)) (v5 : Int64) (v7 : Int32) (I : hI) (J : hJ) (q : hI × hJ), k72 v1 a3 a4 v5 v7 I J = some q → AW hFT cX11_laysFractions 12 none RX11 kdM d [(0, .ref 0), (1, .int v1), (3, .ref a3), (4, .ref a4), (5, .long v5), (7, .int v7)] 72 [] (I, J, RMm) none (q.1, q.2, RMm)) (v1 : Int32) (a3 : Nat) (ha3 : kdM[a3]? = some (1, 640)) (a4 : Nat) (ha4 : kdM[a4]? = some (1, 640)) (v5 : Int64) (v7 : Int32) (I : hI) (J : hJ) (q : hI × hJ) (h : mM_laysFractions_B72 k72 v1 a3 a4 v5 v7 I J = some q) : AW hFT cX11_laysFractions 12 none RX11 kdM d [(0, .ref 0), (1, .int v1), (3, .ref a3), (4, .ref a4), (5, .long v5), (7, .int v7)] 72 [] (I, J, RMm) none (q.1, q.2, RMm) := by
  obtain ⟨d0, rfl, hd0⟩ := h_mono hd
  unfold mM_laysFractions_B72 at h
  refine a_iload dX11_laysFractions_72 rfl ?_
  refine a_aload_n dX11_laysFractions_74 rfl rfl ?_
  refine b_getI hK_11 km_0 (i := 78) rfl fl_11_480 rfl dX11_laysFractions_75 ?_
  refine a_icmp_ge (tgt := 160) dX11_laysFractions_78 (by decide) (fun c => ?_) (fun c => ?_)
  · replace h := h_iteT c h
    cases h
    exact a_vret dX11_laysFractions_160
  · replace h := h_iteF c h
    refine a_aload_n dX11_laysFractions_81 rfl rfl ?_
    refine a_iload dX11_laysFractions_82 rfl ?_
    obtain ⟨q1, cq1, h⟩ := h_bindS h
    refine a_callV1 [] yy_X11_determinantWith ml_11_491 km_0 rfl (sM_determinantWith _ (by omega) v7 I J q1 cq1) rfl rfl (Nat.le_of_ble_eq_true rfl) dX11_laysFractions_84 ?_
    obtain ⟨v8x1, ev8x1, h⟩ := h_letS h
    refine a_topJ ev8x1 ?_
    refine a_lstore (lv' := [(8, .long v8x1), (0, .ref 0), (1, .int v1), (3, .ref a3), (4, .ref a4), (5, .long v5), (7, .int v7)]) dX11_laysFractions_87 (by decide) rfl ?_
    refine a_lload dX11_laysFractions_89 rfl ?_
    refine a_lload dX11_laysFractions_91 rfl ?_
    obtain ⟨q3, cq3, h⟩ := h_bindS h
    refine a_callS1 [] yy_X11_divisor ml_11_476 (sM_divisor 100 _ (by omega) v8x1 v5 I q1.2 q3 cq3) rfl rfl (Nat.le_of_ble_eq_true rfl) dX11_laysFractions_93 ?_
    refine a_lstore (lv' := [(10, .long q3), (8, .long v8x1), (0, .ref 0), (1, .int v1), (3, .ref a3), (4, .ref a4), (5, .long v5), (7, .int v7)]) dX11_laysFractions_96 (by decide) rfl ?_
    refine a_lload dX11_laysFractions_98 rfl ?_
    refine a_lconst dX11_laysFractions_100 lc_0 ?_
    refine a_lcmp_ge (tgt := 111) dX11_laysFractions_101 dX11_laysFractions_102 (by decide) (fun c => ?_) (fun c => ?_)
    · replace h := h_iteT c h
      refine a_lload dX11_laysFractions_111 rfl ?_
      refine a_sub (lv' := [(0, .ref 0), (1, .int v1), (3, .ref a3), (4, .ref a4), (5, .long v5), (7, .int v7), (8, .long v8x1)]) [2, 3, 4, 5, 6, 7, 1] rfl ?_
      exact sM_laysFractions_113 (d0 + 1) (by omega) k72 hk72 v1 a3 ha3 a4 ha4 v5 v7 v8x1 q3 I q1.2 _ h
    · replace h := h_iteF c h
      refine a_lload dX11_laysFractions_105 rfl ?_
      refine a_lneg dX11_laysFractions_107 ?_
      refine a_goto (tgt := 113) dX11_laysFractions_108 (by decide) ?_
      refine a_sub (lv' := [(0, .ref 0), (1, .int v1), (3, .ref a3), (4, .ref a4), (5, .long v5), (7, .int v7), (8, .long v8x1)]) [2, 3, 4, 5, 6, 7, 1] rfl ?_
      exact sM_laysFractions_113 (d0 + 1) (by omega) k72 hk72 v1 a3 ha3 a4 ha4 v5 v7 v8x1 (-q3) I q1.2 _ h
def mM_laysFractions_L72  : Nat → Int32 → Nat → Nat → Int64 → Int32 → hI → hJ → Option (hI × hJ)
  | 0 => fun _ _ _ _ _ _ _ => none
  | n + 1 => mM_laysFractions_B72 (mM_laysFractions_L72 n)
theorem sM_laysFractions_L72 (d : Nat) (hd : 101 + 1 ≤ d) : ∀ (n : Nat) (v1 : Int32) (a3 : Nat) (ha3 : kdM[a3]? = some (1, 640)) (a4 : Nat) (ha4 : kdM[a4]? = some (1, 640)) (v5 : Int64) (v7 : Int32) (I : hI) (J : hJ) (q : hI × hJ) (h : mM_laysFractions_L72 n v1 a3 a4 v5 v7 I J = some q), AW hFT cX11_laysFractions 12 none RX11 kdM d [(0, .ref 0), (1, .int v1), (3, .ref a3), (4, .ref a4), (5, .long v5), (7, .int v7)] 72 [] (I, J, RMm) none (q.1, q.2, RMm)
  | 0, _, _, _, _, _, _, _, _, _, q, h => by cases h
  | n + 1, v1, a3, ha3, a4, ha4, v5, v7, I, J, q, h => sM_laysFractions_B72 d hd (mM_laysFractions_L72 n) (sM_laysFractions_L72 d hd n) v1 a3 ha3 a4 ha4 v5 v7 I J q h
def mM_laysFractions_38 (k3 : Int32 → Int32 → Nat → Nat → Int32 → hI → hJ → Option (hI × hJ)) (v1 : Int32) (v2 : Int32) (a3 : Nat) (a4 : Nat) (v5 : Int32) (as0 : Nat) (vs1 : Int32) (vs2 : Int64) (I : hI) (J : hJ) : Option (hI × hJ) :=
  h_g (h_in vs1 640) <|
  h_let (h_u J as0 vs1.toNatClampNeg vs2) fun J2 =>
  h_g (h_in (((10 : Int32) * v1) + v5) 640) <|
  h_let (h_u J2 a4 (((10 : Int32) * v1) + v5).toNatClampNeg (1 : Int64)) fun J4 =>
  k3 v1 v2 a3 a4 (v5 + (1 : Int32)) I J4
set_option maxHeartbeats 4000000 in
theorem sM_laysFractions_38 (d : Nat) (hd : 101 + 1 ≤ d) (k3 : Int32 → Int32 → Nat → Nat → Int32 → hI → hJ → Option (hI × hJ)) (hk3 : ∀ (v1 : Int32) (v2 : Int32) (a3 : Nat) (ha3 : kdM[a3]? = some (1, 640)) (a4 : Nat) (ha4 : kdM[a4]? = some (1, 640)) (v5 : Int32) (I : hI) (J : hJ) (q : hI × hJ), k3 v1 v2 a3 a4 v5 I J = some q → AW hFT cX11_laysFractions 12 none RX11 kdM d [(0, .ref 0), (1, .int v1), (2, .int v2), (3, .ref a3), (4, .ref a4), (5, .int v5)] 3 [] (I, J, RMm) none (q.1, q.2, RMm)) (v1 : Int32) (v2 : Int32) (a3 : Nat) (ha3 : kdM[a3]? = some (1, 640)) (a4 : Nat) (ha4 : kdM[a4]? = some (1, 640)) (v5 : Int32) (as0 : Nat) (has0 : kdM[as0]? = some (1, 640)) (vs1 : Int32) (vs2 : Int64) (I : hI) (J : hJ) (q : hI × hJ) (h : mM_laysFractions_38 k3 v1 v2 a3 a4 v5 as0 vs1 vs2 I J = some q) : AW hFT cX11_laysFractions 12 none RX11 kdM d [(0, .ref 0), (1, .int v1), (2, .int v2), (3, .ref a3), (4, .ref a4), (5, .int v5)] 38 [.long vs2, .int vs1, .ref as0] (I, J, RMm) none (q.1, q.2, RMm) := by
  obtain ⟨d0, rfl, hd0⟩ := h_mono hd
  unfold mM_laysFractions_38 at h
  obtain ⟨g1, h⟩ := h_gS h
  refine b_lastore has0 (h_inV g1) dX11_laysFractions_38 ?_
  obtain ⟨J2, eJ2, h⟩ := h_letS h
  refine a_memJ eJ2 ?_
  refine a_aload dX11_laysFractions_39 rfl ?_
  refine a_bipush dX11_laysFractions_41 bp_10 ?_
  refine a_iload_n dX11_laysFractions_43 rfl rfl ?_
  refine a_imul dX11_laysFractions_44 ?_
  refine a_iload dX11_laysFractions_45 rfl ?_
  refine a_iadd dX11_laysFractions_47 ?_
  refine a_lconst dX11_laysFractions_48 lc_1 ?_
  obtain ⟨g3, h⟩ := h_gS h
  refine b_lastore ha4 (h_inV g3) dX11_laysFractions_49 ?_
  obtain ⟨J4, eJ4, h⟩ := h_letS h
  refine a_memJ eJ4 ?_
  refine b_iinc (lv' := [(5, .int (v5 + (1 : Int32))), (0, .ref 0), (1, .int v1), (2, .int v2), (3, .ref a3), (4, .ref a4)]) dX11_laysFractions_50 rfl ic_1 (by decide) rfl ?_
  refine a_goto (tgt := 3) dX11_laysFractions_53 (by decide) ?_
  refine a_sub (lv' := [(0, .ref 0), (1, .int v1), (2, .int v2), (3, .ref a3), (4, .ref a4), (5, .int (v5 + (1 : Int32)))]) [1, 2, 3, 4, 5, 0] rfl ?_
  exact hk3 v1 v2 a3 ha3 a4 ha4 (v5 + (1 : Int32)) I J4 _ h
def mM_laysFractions_37 (k3 : Int32 → Int32 → Nat → Nat → Int32 → hI → hJ → Option (hI × hJ)) (v1 : Int32) (v2 : Int32) (a3 : Nat) (a4 : Nat) (v5 : Int32) (as0 : Nat) (vs1 : Int32) (I : hI) (J : hJ) : Option (hI × hJ) :=
  mM_laysFractions_38 k3 v1 v2 a3 a4 v5 as0 vs1 (0 : Int64) I J
set_option maxHeartbeats 4000000 in
theorem sM_laysFractions_37 (d : Nat) (hd : 101 + 1 ≤ d) (k3 : Int32 → Int32 → Nat → Nat → Int32 → hI → hJ → Option (hI × hJ)) (hk3 : ∀ (v1 : Int32) (v2 : Int32) (a3 : Nat) (ha3 : kdM[a3]? = some (1, 640)) (a4 : Nat) (ha4 : kdM[a4]? = some (1, 640)) (v5 : Int32) (I : hI) (J : hJ) (q : hI × hJ), k3 v1 v2 a3 a4 v5 I J = some q → AW hFT cX11_laysFractions 12 none RX11 kdM d [(0, .ref 0), (1, .int v1), (2, .int v2), (3, .ref a3), (4, .ref a4), (5, .int v5)] 3 [] (I, J, RMm) none (q.1, q.2, RMm)) (v1 : Int32) (v2 : Int32) (a3 : Nat) (ha3 : kdM[a3]? = some (1, 640)) (a4 : Nat) (ha4 : kdM[a4]? = some (1, 640)) (v5 : Int32) (as0 : Nat) (has0 : kdM[as0]? = some (1, 640)) (vs1 : Int32) (I : hI) (J : hJ) (q : hI × hJ) (h : mM_laysFractions_37 k3 v1 v2 a3 a4 v5 as0 vs1 I J = some q) : AW hFT cX11_laysFractions 12 none RX11 kdM d [(0, .ref 0), (1, .int v1), (2, .int v2), (3, .ref a3), (4, .ref a4), (5, .int v5)] 37 [.int vs1, .ref as0] (I, J, RMm) none (q.1, q.2, RMm) := by
  obtain ⟨d0, rfl, hd0⟩ := h_mono hd
  unfold mM_laysFractions_37 at h
  refine a_lconst dX11_laysFractions_37 lc_0 ?_
  exact sM_laysFractions_38 (d0 + 1) (by omega) k3 hk3 v1 v2 a3 ha3 a4 ha4 v5 as0 has0 vs1 (0 : Int64) I J _ h
def mM_laysFractions_B3 (k3 : Int32 → Int32 → Nat → Nat → Int32 → hI → hJ → Option (hI × hJ)) (v1 : Int32) (v2 : Int32) (a3 : Nat) (a4 : Nat) (v5 : Int32) (I : hI) (J : hJ) : Option (hI × hJ) :=
  if (I 0 41) ≤ v5 then
    ((mM_laysEquations v1 v2 I J).bind fun q1 =>
    (mM_determinantWith (-1 : Int32) q1.1 q1.2).bind fun q2 =>
    h_let q2.1 fun v5x2 =>
    mM_laysFractions_L72 hF v1 a3 a4 v5x2 (0 : Int32) q1.1 q2.2)
  else
    (if v2 = 0 then
      ((mM_isInside v5 I).bind fun q1 =>
      if q1 = 0 then
        mM_laysFractions_38 k3 v1 v2 a3 a4 v5 a3 (((10 : Int32) * v1) + v5) (1 : Int64) I J
      else
        mM_laysFractions_37 k3 v1 v2 a3 a4 v5 a3 (((10 : Int32) * v1) + v5) I J)
    else
      mM_laysFractions_37 k3 v1 v2 a3 a4 v5 a3 (((10 : Int32) * v1) + v5) I J)
set_option maxHeartbeats 4000000 in
theorem sM_laysFractions_B3 (d : Nat) (hd : 101 + 1 ≤ d) (k3 : Int32 → Int32 → Nat → Nat → Int32 → hI → hJ → Option (hI × hJ)) (hk3 : ∀ (v1 : Int32) (v2 : Int32) (a3 : Nat) (ha3 : kdM[a3]? = some (1, 640)) (a4 : Nat) (ha4 : kdM[a4]? = some (1, 640)) (v5 : Int32) (I : hI) (J : hJ) (q : hI × hJ), k3 v1 v2 a3 a4 v5 I J = some q → AW hFT cX11_laysFractions 12 none RX11 kdM d [(0, .ref 0), (1, .int v1), (2, .int v2), (3, .ref a3), (4, .ref a4), (5, .int v5)] 3 [] (I, J, RMm) none (q.1, q.2, RMm)) (v1 : Int32) (v2 : Int32) (a3 : Nat) (ha3 : kdM[a3]? = some (1, 640)) (a4 : Nat) (ha4 : kdM[a4]? = some (1, 640)) (v5 : Int32) (I : hI) (J : hJ) (q : hI × hJ) (h : mM_laysFractions_B3 k3 v1 v2 a3 a4 v5 I J = some q) : AW hFT cX11_laysFractions 12 none RX11 kdM d [(0, .ref 0), (1, .int v1), (2, .int v2), (3, .ref a3), (4, .ref a4), (5, .int v5)] 3 [] (I, J, RMm) none (q.1, q.2, RMm) := by
  obtain ⟨d0, rfl, hd0⟩ := h_mono hd
  unfold mM_laysFractions_B3 at h
  refine a_iload dX11_laysFractions_3 rfl ?_
  refine a_aload_n dX11_laysFractions_5 rfl rfl ?_
  refine b_getI hK_11 km_0 (i := 41) rfl fl_11_367 rfl dX11_laysFractions_6 ?_
  refine a_icmp_ge (tgt := 56) dX11_laysFractions_9 (by decide) (fun c => ?_) (fun c => ?_)
  · replace h := h_iteT c h
    refine a_aload_n dX11_laysFractions_56 rfl rfl ?_
    refine a_iload_n dX11_laysFractions_57 rfl rfl ?_
    refine a_iload_n dX11_laysFractions_58 rfl rfl ?_
    obtain ⟨q1, cq1, h⟩ := h_bindS h
    refine a_callV0 [] yy_X11_laysEquations ml_11_487 km_0 rfl (sM_laysEquations _ (by omega) v1 v2 I J q1 cq1) rfl rfl (Nat.le_of_ble_eq_true rfl) dX11_laysFractions_59 ?_
    refine a_aload_n dX11_laysFractions_62 rfl rfl ?_
    refine a_iconst dX11_laysFractions_63 ic_m1 ?_
    obtain ⟨q2, cq2, h⟩ := h_bindS h
    refine a_callV1 [] yy_X11_determinantWith ml_11_491 km_0 rfl (sM_determinantWith _ (by omega) (-1 : Int32) q1.1 q1.2 q2 cq2) rfl rfl (Nat.le_of_ble_eq_true rfl) dX11_laysFractions_64 ?_
    obtain ⟨v5x2, ev5x2, h⟩ := h_letS h
    refine a_topJ ev5x2 ?_
    refine a_lstore (lv' := [(5, .long v5x2), (0, .ref 0), (1, .int v1), (2, .int v2), (3, .ref a3), (4, .ref a4)]) dX11_laysFractions_67 (by decide) rfl ?_
    refine a_iconst dX11_laysFractions_69 ic_0 ?_
    refine a_istore (lv' := [(7, .int (0 : Int32)), (5, .long v5x2), (0, .ref 0), (1, .int v1), (2, .int v2), (3, .ref a3), (4, .ref a4)]) dX11_laysFractions_70 (by decide) rfl ?_
    refine a_sub (lv' := [(0, .ref 0), (1, .int v1), (3, .ref a3), (4, .ref a4), (5, .long v5x2), (7, .int (0 : Int32))]) [2, 3, 5, 6, 1, 0] rfl ?_
    exact sM_laysFractions_L72 (d0 + 1) (by omega) hF v1 a3 ha3 a4 ha4 v5x2 (0 : Int32) q1.1 q2.2 _ h
  · replace h := h_iteF c h
    refine a_aload_n dX11_laysFractions_12 rfl rfl ?_
    refine a_bipush dX11_laysFractions_13 bp_10 ?_
    refine a_iload_n dX11_laysFractions_15 rfl rfl ?_
    refine a_imul dX11_laysFractions_16 ?_
    refine a_iload dX11_laysFractions_17 rfl ?_
    refine a_iadd dX11_laysFractions_19 ?_
    refine a_iload_n dX11_laysFractions_20 rfl rfl ?_
    refine a_if_ne (tgt := 37) dX11_laysFractions_21 (by decide) (fun c => ?_) (fun c => ?_)
    · replace h := h_iteF c h
      exact sM_laysFractions_37 (d0 + 1) (by omega) k3 hk3 v1 v2 a3 ha3 a4 ha4 v5 a3 ha3 (((10 : Int32) * v1) + v5) I J _ h
    · replace h := h_iteT c h
      refine a_aload_n dX11_laysFractions_24 rfl rfl ?_
      refine a_iload dX11_laysFractions_25 rfl ?_
      obtain ⟨q1, cq1, h⟩ := h_bindS h
      refine a_callV1 [.int (((10 : Int32) * v1) + v5), .ref a3] yy_X11_isInside ml_11_463 km_0 rfl (sM_isInside _ (by omega) v5 I J q1 cq1) rfl rfl (Nat.le_of_ble_eq_true rfl) dX11_laysFractions_27 ?_
      refine a_if_ne (tgt := 37) dX11_laysFractions_30 (by decide) (fun c => ?_) (fun c => ?_)
      · replace h := h_iteF c h
        exact sM_laysFractions_37 (d0 + 1) (by omega) k3 hk3 v1 v2 a3 ha3 a4 ha4 v5 a3 ha3 (((10 : Int32) * v1) + v5) I J _ h
      · replace h := h_iteT c h
        refine a_lconst dX11_laysFractions_33 lc_1 ?_
        refine a_goto (tgt := 38) dX11_laysFractions_34 (by decide) ?_
        exact sM_laysFractions_38 (d0 + 1) (by omega) k3 hk3 v1 v2 a3 ha3 a4 ha4 v5 a3 ha3 (((10 : Int32) * v1) + v5) (1 : Int64) I J _ h
def mM_laysFractions_L3  : Nat → Int32 → Int32 → Nat → Nat → Int32 → hI → hJ → Option (hI × hJ)
  | 0 => fun _ _ _ _ _ _ _ => none
  | n + 1 => mM_laysFractions_B3 (mM_laysFractions_L3 n)
theorem sM_laysFractions_L3 (d : Nat) (hd : 101 + 1 ≤ d) : ∀ (n : Nat) (v1 : Int32) (v2 : Int32) (a3 : Nat) (ha3 : kdM[a3]? = some (1, 640)) (a4 : Nat) (ha4 : kdM[a4]? = some (1, 640)) (v5 : Int32) (I : hI) (J : hJ) (q : hI × hJ) (h : mM_laysFractions_L3 n v1 v2 a3 a4 v5 I J = some q), AW hFT cX11_laysFractions 12 none RX11 kdM d [(0, .ref 0), (1, .int v1), (2, .int v2), (3, .ref a3), (4, .ref a4), (5, .int v5)] 3 [] (I, J, RMm) none (q.1, q.2, RMm)
  | 0, _, _, _, _, _, _, _, _, _, q, h => by cases h
  | n + 1, v1, v2, a3, ha3, a4, ha4, v5, I, J, q, h => sM_laysFractions_B3 d hd (mM_laysFractions_L3 n) (sM_laysFractions_L3 d hd n) v1 v2 a3 ha3 a4 ha4 v5 I J q h
def mM_laysFractions  (v1 : Int32) (v2 : Int32) (a3 : Nat) (a4 : Nat) (I : hI) (J : hJ) : Option (hI × hJ) :=
  mM_laysFractions_L3 hF v1 v2 a3 a4 (0 : Int32) I J
set_option maxHeartbeats 4000000 in
theorem sM_laysFractions (d : Nat) (hd : 101 + 1 ≤ d) (v1 : Int32) (v2 : Int32) (a3 : Nat) (ha3 : kdM[a3]? = some (1, 640)) (a4 : Nat) (ha4 : kdM[a4]? = some (1, 640)) (I : hI) (J : hJ) (q : hI × hJ) (h : mM_laysFractions v1 v2 a3 a4 I J = some q) : HMet hFT yX11_laysFractions cX11_laysFractions 12 none kdM d [.ref 0, .int v1, .int v2, .ref a3, .ref a4] (I, J, RMm) none (q.1, q.2, RMm) := by
  obtain ⟨d0, rfl, hd0⟩ := h_mono hd
  refine HMet.of (by decide) (Nat.le_of_ble_eq_true rfl) ?_
  show AW hFT cX11_laysFractions 12 none RX11 kdM (d0 + 1) [(0, .ref 0), (1, .int v1), (2, .int v2), (3, .ref a3), (4, .ref a4)] 0 [] (I, J, RMm) none (q.1, q.2, RMm)
  unfold mM_laysFractions at h
  refine a_iconst dX11_laysFractions_0 ic_0 ?_
  refine a_istore (lv' := [(5, .int (0 : Int32)), (0, .ref 0), (1, .int v1), (2, .int v2), (3, .ref a3), (4, .ref a4)]) dX11_laysFractions_1 (by decide) rfl ?_
  refine a_sub (lv' := [(0, .ref 0), (1, .int v1), (2, .int v2), (3, .ref a3), (4, .ref a4), (5, .int (0 : Int32))]) [1, 2, 3, 4, 5, 0] rfl ?_
  exact sM_laysFractions_L3 (d0 + 1) (by omega) hF v1 v2 a3 ha3 a4 ha4 (0 : Int32) I J _ h
/-! CoinLoopsModel.laysPlans()V -/
theorem dX11_laysPlans_0 : decode cX11_laysPlans 0 = .ok (.aload_n 0, 1) := by decide +kernel
theorem dX11_laysPlans_1 : decode cX11_laysPlans 1 = .ok (.getfield 443, 3) := by decide +kernel
theorem dX11_laysPlans_4 : decode cX11_laysPlans 4 = .ok (.ifCond .eq 4, 3) := by decide +kernel
theorem dX11_laysPlans_7 : decode cX11_laysPlans 7 = .ok (.return_, 1) := by decide +kernel
theorem dX11_laysPlans_8 : decode cX11_laysPlans 8 = .ok (.aload_n 0, 1) := by decide +kernel
theorem dX11_laysPlans_9 : decode cX11_laysPlans 9 = .ok (.iconst 1, 1) := by decide +kernel
theorem dX11_laysPlans_10 : decode cX11_laysPlans 10 = .ok (.putfield 443, 3) := by decide +kernel
theorem dX11_laysPlans_13 : decode cX11_laysPlans 13 = .ok (.aload_n 0, 1) := by decide +kernel
theorem dX11_laysPlans_14 : decode cX11_laysPlans 14 = .ok (.invokevirtual 456, 3) := by decide +kernel
theorem dX11_laysPlans_17 : decode cX11_laysPlans 17 = .ok (.istore_n 1, 1) := by decide +kernel
theorem dX11_laysPlans_18 : decode cX11_laysPlans 18 = .ok (.iconst 0, 1) := by decide +kernel
theorem dX11_laysPlans_19 : decode cX11_laysPlans 19 = .ok (.istore_n 2, 1) := by decide +kernel
theorem dX11_laysPlans_20 : decode cX11_laysPlans 20 = .ok (.iload_n 2, 1) := by decide +kernel
theorem dX11_laysPlans_21 : decode cX11_laysPlans 21 = .ok (.iload_n 1, 1) := by decide +kernel
theorem dX11_laysPlans_22 : decode cX11_laysPlans 22 = .ok (.if_icmp .ge 98, 3) := by decide +kernel
theorem dX11_laysPlans_25 : decode cX11_laysPlans 25 = .ok (.aload_n 0, 1) := by decide +kernel
theorem dX11_laysPlans_26 : decode cX11_laysPlans 26 = .ok (.iload_n 2, 1) := by decide +kernel
theorem dX11_laysPlans_27 : decode cX11_laysPlans 27 = .ok (.invokevirtual 494, 3) := by decide +kernel
theorem dX11_laysPlans_30 : decode cX11_laysPlans 30 = .ok (.aload_n 0, 1) := by decide +kernel
theorem dX11_laysPlans_31 : decode cX11_laysPlans 31 = .ok (.invokevirtual 497, 3) := by decide +kernel
theorem dX11_laysPlans_34 : decode cX11_laysPlans 34 = .ok (.aload_n 0, 1) := by decide +kernel
theorem dX11_laysPlans_35 : decode cX11_laysPlans 35 = .ok (.invokevirtual 500, 3) := by decide +kernel
theorem dX11_laysPlans_38 : decode cX11_laysPlans 38 = .ok (.iconst 0, 1) := by decide +kernel
theorem dX11_laysPlans_39 : decode cX11_laysPlans 39 = .ok (.istore_n 3, 1) := by decide +kernel
theorem dX11_laysPlans_40 : decode cX11_laysPlans 40 = .ok (.iload_n 3, 1) := by decide +kernel
theorem dX11_laysPlans_41 : decode cX11_laysPlans 41 = .ok (.aload_n 0, 1) := by decide +kernel
theorem dX11_laysPlans_42 : decode cX11_laysPlans 42 = .ok (.getfield 367, 3) := by decide +kernel
theorem dX11_laysPlans_45 : decode cX11_laysPlans 45 = .ok (.if_icmp .ge 41, 3) := by decide +kernel
theorem dX11_laysPlans_48 : decode cX11_laysPlans 48 = .ok (.aload_n 0, 1) := by decide +kernel
theorem dX11_laysPlans_49 : decode cX11_laysPlans 49 = .ok (.getfield 114, 3) := by decide +kernel
theorem dX11_laysPlans_52 : decode cX11_laysPlans 52 = .ok (.bipush 10, 2) := by decide +kernel
theorem dX11_laysPlans_54 : decode cX11_laysPlans 54 = .ok (.iload_n 2, 1) := by decide +kernel
theorem dX11_laysPlans_55 : decode cX11_laysPlans 55 = .ok (.imul, 1) := by decide +kernel
theorem dX11_laysPlans_56 : decode cX11_laysPlans 56 = .ok (.iload_n 3, 1) := by decide +kernel
theorem dX11_laysPlans_57 : decode cX11_laysPlans 57 = .ok (.iadd, 1) := by decide +kernel
theorem dX11_laysPlans_58 : decode cX11_laysPlans 58 = .ok (.aload_n 0, 1) := by decide +kernel
theorem dX11_laysPlans_59 : decode cX11_laysPlans 59 = .ok (.iload_n 3, 1) := by decide +kernel
theorem dX11_laysPlans_60 : decode cX11_laysPlans 60 = .ok (.invokevirtual 463, 3) := by decide +kernel
theorem dX11_laysPlans_63 : decode cX11_laysPlans 63 = .ok (.ifCond .eq 15, 3) := by decide +kernel
theorem dX11_laysPlans_66 : decode cX11_laysPlans 66 = .ok (.aload_n 0, 1) := by decide +kernel
theorem dX11_laysPlans_67 : decode cX11_laysPlans 67 = .ok (.iload_n 3, 1) := by decide +kernel
theorem dX11_laysPlans_68 : decode cX11_laysPlans 68 = .ok (.invokevirtual 503, 3) := by decide +kernel
theorem dX11_laysPlans_71 : decode cX11_laysPlans 71 = .ok (.ifCond .eq 7, 3) := by decide +kernel
theorem dX11_laysPlans_74 : decode cX11_laysPlans 74 = .ok (.iconst 1, 1) := by decide +kernel
theorem dX11_laysPlans_75 : decode cX11_laysPlans 75 = .ok (.goto 4, 3) := by decide +kernel
theorem dX11_laysPlans_78 : decode cX11_laysPlans 78 = .ok (.iconst 0, 1) := by decide +kernel
theorem dX11_laysPlans_79 : decode cX11_laysPlans 79 = .ok (.bastore, 1) := by decide +kernel
theorem dX11_laysPlans_80 : decode cX11_laysPlans 80 = .ok (.iinc 3 1, 3) := by decide +kernel
theorem dX11_laysPlans_83 : decode cX11_laysPlans 83 = .ok (.goto (-43), 3) := by decide +kernel
theorem dX11_laysPlans_86 : decode cX11_laysPlans 86 = .ok (.aload_n 0, 1) := by decide +kernel
theorem dX11_laysPlans_87 : decode cX11_laysPlans 87 = .ok (.iload_n 2, 1) := by decide +kernel
theorem dX11_laysPlans_88 : decode cX11_laysPlans 88 = .ok (.iconst 1, 1) := by decide +kernel
theorem dX11_laysPlans_89 : decode cX11_laysPlans 89 = .ok (.aload_n 0, 1) := by decide +kernel
theorem dX11_laysPlans_90 : decode cX11_laysPlans 90 = .ok (.getfield 101, 3) := by decide +kernel
theorem dX11_laysPlans_93 : decode cX11_laysPlans 93 = .ok (.aload_n 0, 1) := by decide +kernel
theorem dX11_laysPlans_94 : decode cX11_laysPlans 94 = .ok (.getfield 105, 3) := by decide +kernel
theorem dX11_laysPlans_97 : decode cX11_laysPlans 97 = .ok (.invokevirtual 506, 3) := by decide +kernel
theorem dX11_laysPlans_100 : decode cX11_laysPlans 100 = .ok (.aload_n 0, 1) := by decide +kernel
theorem dX11_laysPlans_101 : decode cX11_laysPlans 101 = .ok (.iload_n 2, 1) := by decide +kernel
theorem dX11_laysPlans_102 : decode cX11_laysPlans 102 = .ok (.iconst 0, 1) := by decide +kernel
theorem dX11_laysPlans_103 : decode cX11_laysPlans 103 = .ok (.aload_n 0, 1) := by decide +kernel
theorem dX11_laysPlans_104 : decode cX11_laysPlans 104 = .ok (.getfield 108, 3) := by decide +kernel
theorem dX11_laysPlans_107 : decode cX11_laysPlans 107 = .ok (.aload_n 0, 1) := by decide +kernel
theorem dX11_laysPlans_108 : decode cX11_laysPlans 108 = .ok (.getfield 111, 3) := by decide +kernel
theorem dX11_laysPlans_111 : decode cX11_laysPlans 111 = .ok (.invokevirtual 506, 3) := by decide +kernel
theorem dX11_laysPlans_114 : decode cX11_laysPlans 114 = .ok (.iinc 2 1, 3) := by decide +kernel
theorem dX11_laysPlans_117 : decode cX11_laysPlans 117 = .ok (.goto (-97), 3) := by decide +kernel
theorem dX11_laysPlans_120 : decode cX11_laysPlans 120 = .ok (.return_, 1) := by decide +kernel
def mM_laysPlans_79 (k20 : Int32 → Int32 → hI → hJ → Option (hI × hJ)) (k40 : Int32 → Int32 → Int32 → hI → hJ → Option (hI × hJ)) (v1 : Int32) (v2 : Int32) (v3 : Int32) (vs1 : Int32) (vs2 : Int32) (I : hI) (J : hJ) : Option (hI × hJ) :=
  h_g (h_in vs1 640) <|
  h_let (h_u I 35 vs1.toNatClampNeg (vp_nar .boolean vs2)) fun I2 =>
  k40 v1 v2 (v3 + (1 : Int32)) I2 J
set_option maxHeartbeats 4000000 in
theorem sM_laysPlans_79 (d : Nat) (hd : 102 + 1 ≤ d) (k20 : Int32 → Int32 → hI → hJ → Option (hI × hJ)) (hk20 : ∀ (v1 : Int32) (v2 : Int32) (I : hI) (J : hJ) (q : hI × hJ), k20 v1 v2 I J = some q → AW hFT cX11_laysPlans 4 none RX11 kdM d [(0, .ref 0), (1, .int v1), (2, .int v2)] 20 [] (I, J, RMm) none (q.1, q.2, RMm)) (k40 : Int32 → Int32 → Int32 → hI → hJ → Option (hI × hJ)) (hk40 : ∀ (v1 : Int32) (v2 : Int32) (v3 : Int32) (I : hI) (J : hJ) (q : hI × hJ), k40 v1 v2 v3 I J = some q → AW hFT cX11_laysPlans 4 none RX11 kdM d [(0, .ref 0), (1, .int v1), (2, .int v2), (3, .int v3)] 40 [] (I, J, RMm) none (q.1, q.2, RMm)) (v1 : Int32) (v2 : Int32) (v3 : Int32) (vs1 : Int32) (vs2 : Int32) (I : hI) (J : hJ) (q : hI × hJ) (h : mM_laysPlans_79 k20 k40 v1 v2 v3 vs1 vs2 I J = some q) : AW hFT cX11_laysPlans 4 none RX11 kdM d [(0, .ref 0), (1, .int v1), (2, .int v2), (3, .int v3)] 79 [.int vs2, .int vs1, .ref 35] (I, J, RMm) none (q.1, q.2, RMm) := by
  obtain ⟨d0, rfl, hd0⟩ := h_mono hd
  unfold mM_laysPlans_79 at h
  obtain ⟨g1, h⟩ := h_gS h
  refine b_zastore km_35 (h_inV g1) dX11_laysPlans_79 ?_
  obtain ⟨I2, eI2, h⟩ := h_letS h
  refine a_memI eI2 ?_
  refine b_iinc (lv' := [(3, .int (v3 + (1 : Int32))), (0, .ref 0), (1, .int v1), (2, .int v2)]) dX11_laysPlans_80 rfl ic_1 (by decide) rfl ?_
  refine a_goto (tgt := 40) dX11_laysPlans_83 (by decide) ?_
  refine a_sub (lv' := [(0, .ref 0), (1, .int v1), (2, .int v2), (3, .int (v3 + (1 : Int32)))]) [1, 2, 3, 0] rfl ?_
  exact hk40 v1 v2 (v3 + (1 : Int32)) I2 J _ h
def mM_laysPlans_78 (k20 : Int32 → Int32 → hI → hJ → Option (hI × hJ)) (k40 : Int32 → Int32 → Int32 → hI → hJ → Option (hI × hJ)) (v1 : Int32) (v2 : Int32) (v3 : Int32) (vs1 : Int32) (I : hI) (J : hJ) : Option (hI × hJ) :=
  mM_laysPlans_79 k20 k40 v1 v2 v3 vs1 (0 : Int32) I J
set_option maxHeartbeats 4000000 in
theorem sM_laysPlans_78 (d : Nat) (hd : 102 + 1 ≤ d) (k20 : Int32 → Int32 → hI → hJ → Option (hI × hJ)) (hk20 : ∀ (v1 : Int32) (v2 : Int32) (I : hI) (J : hJ) (q : hI × hJ), k20 v1 v2 I J = some q → AW hFT cX11_laysPlans 4 none RX11 kdM d [(0, .ref 0), (1, .int v1), (2, .int v2)] 20 [] (I, J, RMm) none (q.1, q.2, RMm)) (k40 : Int32 → Int32 → Int32 → hI → hJ → Option (hI × hJ)) (hk40 : ∀ (v1 : Int32) (v2 : Int32) (v3 : Int32) (I : hI) (J : hJ) (q : hI × hJ), k40 v1 v2 v3 I J = some q → AW hFT cX11_laysPlans 4 none RX11 kdM d [(0, .ref 0), (1, .int v1), (2, .int v2), (3, .int v3)] 40 [] (I, J, RMm) none (q.1, q.2, RMm)) (v1 : Int32) (v2 : Int32) (v3 : Int32) (vs1 : Int32) (I : hI) (J : hJ) (q : hI × hJ) (h : mM_laysPlans_78 k20 k40 v1 v2 v3 vs1 I J = some q) : AW hFT cX11_laysPlans 4 none RX11 kdM d [(0, .ref 0), (1, .int v1), (2, .int v2), (3, .int v3)] 78 [.int vs1, .ref 35] (I, J, RMm) none (q.1, q.2, RMm) := by
  obtain ⟨d0, rfl, hd0⟩ := h_mono hd
  unfold mM_laysPlans_78 at h
  refine a_iconst dX11_laysPlans_78 ic_0 ?_
  exact sM_laysPlans_79 (d0 + 1) (by omega) k20 hk20 k40 hk40 v1 v2 v3 vs1 (0 : Int32) I J _ h
def mM_laysPlans_B40 (k20 : Int32 → Int32 → hI → hJ → Option (hI × hJ)) (k40 : Int32 → Int32 → Int32 → hI → hJ → Option (hI × hJ)) (v1 : Int32) (v2 : Int32) (v3 : Int32) (I : hI) (J : hJ) : Option (hI × hJ) :=
  if (I 0 41) ≤ v3 then
    ((mM_laysFractions v2 (1 : Int32) 31 32 I J).bind fun q1 =>
    (mM_laysFractions v2 (0 : Int32) 33 34 q1.1 q1.2).bind fun q2 =>
    k20 v1 (v2 + (1 : Int32)) q2.1 q2.2)
  else
    ((mM_isInside v3 I).bind fun q1 =>
    if q1 = 0 then
      mM_laysPlans_78 k20 k40 v1 v2 v3 (((10 : Int32) * v2) + v3) I J
    else
      ((mM_goesOnPaying v3 I).bind fun q2 =>
      if q2 = 0 then
        mM_laysPlans_78 k20 k40 v1 v2 v3 (((10 : Int32) * v2) + v3) I J
      else
        mM_laysPlans_79 k20 k40 v1 v2 v3 (((10 : Int32) * v2) + v3) (1 : Int32) I J))
set_option maxHeartbeats 4000000 in
theorem sM_laysPlans_B40 (d : Nat) (hd : 102 + 1 ≤ d) (k20 : Int32 → Int32 → hI → hJ → Option (hI × hJ)) (hk20 : ∀ (v1 : Int32) (v2 : Int32) (I : hI) (J : hJ) (q : hI × hJ), k20 v1 v2 I J = some q → AW hFT cX11_laysPlans 4 none RX11 kdM d [(0, .ref 0), (1, .int v1), (2, .int v2)] 20 [] (I, J, RMm) none (q.1, q.2, RMm)) (k40 : Int32 → Int32 → Int32 → hI → hJ → Option (hI × hJ)) (hk40 : ∀ (v1 : Int32) (v2 : Int32) (v3 : Int32) (I : hI) (J : hJ) (q : hI × hJ), k40 v1 v2 v3 I J = some q → AW hFT cX11_laysPlans 4 none RX11 kdM d [(0, .ref 0), (1, .int v1), (2, .int v2), (3, .int v3)] 40 [] (I, J, RMm) none (q.1, q.2, RMm)) (v1 : Int32) (v2 : Int32) (v3 : Int32) (I : hI) (J : hJ) (q : hI × hJ) (h : mM_laysPlans_B40 k20 k40 v1 v2 v3 I J = some q) : AW hFT cX11_laysPlans 4 none RX11 kdM d [(0, .ref 0), (1, .int v1), (2, .int v2), (3, .int v3)] 40 [] (I, J, RMm) none (q.1, q.2, RMm) := by
  obtain ⟨d0, rfl, hd0⟩ := h_mono hd
  unfold mM_laysPlans_B40 at h
  refine a_iload_n dX11_laysPlans_40 rfl rfl ?_
  refine a_aload_n dX11_laysPlans_41 rfl rfl ?_
  refine b_getI hK_11 km_0 (i := 41) rfl fl_11_367 rfl dX11_laysPlans_42 ?_
  refine a_icmp_ge (tgt := 86) dX11_laysPlans_45 (by decide) (fun c => ?_) (fun c => ?_)
  · replace h := h_iteT c h
    refine a_aload_n dX11_laysPlans_86 rfl rfl ?_
    refine a_iload_n dX11_laysPlans_87 rfl rfl ?_
    refine a_iconst dX11_laysPlans_88 ic_1 ?_
    refine a_aload_n dX11_laysPlans_89 rfl rfl ?_
    refine b_getR hK_11 km_0 (i := 69) rfl fl_11_101 rfl rmm_69 dX11_laysPlans_90 ?_
    refine a_aload_n dX11_laysPlans_93 rfl rfl ?_
    refine b_getR hK_11 km_0 (i := 70) rfl fl_11_105 rfl rmm_70 dX11_laysPlans_94 ?_
    obtain ⟨q1, cq1, h⟩ := h_bindS h
    refine a_callV0 [] yy_X11_laysFractions ml_11_506 km_0 rfl (sM_laysFractions _ (by omega) v2 (1 : Int32) 31 km_31 32 km_32 I J q1 cq1) rfl rfl (Nat.le_of_ble_eq_true rfl) dX11_laysPlans_97 ?_
    refine a_aload_n dX11_laysPlans_100 rfl rfl ?_
    refine a_iload_n dX11_laysPlans_101 rfl rfl ?_
    refine a_iconst dX11_laysPlans_102 ic_0 ?_
    refine a_aload_n dX11_laysPlans_103 rfl rfl ?_
    refine b_getR hK_11 km_0 (i := 71) rfl fl_11_108 rfl rmm_71 dX11_laysPlans_104 ?_
    refine a_aload_n dX11_laysPlans_107 rfl rfl ?_
    refine b_getR hK_11 km_0 (i := 72) rfl fl_11_111 rfl rmm_72 dX11_laysPlans_108 ?_
    obtain ⟨q2, cq2, h⟩ := h_bindS h
    refine a_callV0 [] yy_X11_laysFractions ml_11_506 km_0 rfl (sM_laysFractions _ (by omega) v2 (0 : Int32) 33 km_33 34 km_34 q1.1 q1.2 q2 cq2) rfl rfl (Nat.le_of_ble_eq_true rfl) dX11_laysPlans_111 ?_
    refine b_iinc (lv' := [(2, .int (v2 + (1 : Int32))), (0, .ref 0), (1, .int v1), (3, .int v3)]) dX11_laysPlans_114 rfl ic_1 (by decide) rfl ?_
    refine a_goto (tgt := 20) dX11_laysPlans_117 (by decide) ?_
    refine a_sub (lv' := [(0, .ref 0), (1, .int v1), (2, .int (v2 + (1 : Int32)))]) [1, 2, 0] rfl ?_
    exact hk20 v1 (v2 + (1 : Int32)) q2.1 q2.2 _ h
  · replace h := h_iteF c h
    refine a_aload_n dX11_laysPlans_48 rfl rfl ?_
    refine b_getR hK_11 km_0 (i := 73) rfl fl_11_114 rfl rmm_73 dX11_laysPlans_49 ?_
    refine a_bipush dX11_laysPlans_52 bp_10 ?_
    refine a_iload_n dX11_laysPlans_54 rfl rfl ?_
    refine a_imul dX11_laysPlans_55 ?_
    refine a_iload_n dX11_laysPlans_56 rfl rfl ?_
    refine a_iadd dX11_laysPlans_57 ?_
    refine a_aload_n dX11_laysPlans_58 rfl rfl ?_
    refine a_iload_n dX11_laysPlans_59 rfl rfl ?_
    obtain ⟨q1, cq1, h⟩ := h_bindS h
    refine a_callV1 [.int (((10 : Int32) * v2) + v3), .ref 35] yy_X11_isInside ml_11_463 km_0 rfl (sM_isInside _ (by omega) v3 I J q1 cq1) rfl rfl (Nat.le_of_ble_eq_true rfl) dX11_laysPlans_60 ?_
    refine a_if_eq (tgt := 78) dX11_laysPlans_63 (by decide) (fun c => ?_) (fun c => ?_)
    · replace h := h_iteT c h
      exact sM_laysPlans_78 (d0 + 1) (by omega) k20 hk20 k40 hk40 v1 v2 v3 (((10 : Int32) * v2) + v3) I J _ h
    · replace h := h_iteF c h
      refine a_aload_n dX11_laysPlans_66 rfl rfl ?_
      refine a_iload_n dX11_laysPlans_67 rfl rfl ?_
      obtain ⟨q2, cq2, h⟩ := h_bindS h
      refine a_callV1 [.int (((10 : Int32) * v2) + v3), .ref 35] yy_X11_goesOnPaying ml_11_503 km_0 rfl (sM_goesOnPaying _ (by omega) v3 I J q2 cq2) rfl rfl (Nat.le_of_ble_eq_true rfl) dX11_laysPlans_68 ?_
      refine a_if_eq (tgt := 78) dX11_laysPlans_71 (by decide) (fun c => ?_) (fun c => ?_)
      · replace h := h_iteT c h
        exact sM_laysPlans_78 (d0 + 1) (by omega) k20 hk20 k40 hk40 v1 v2 v3 (((10 : Int32) * v2) + v3) I J _ h
      · replace h := h_iteF c h
        refine a_iconst dX11_laysPlans_74 ic_1 ?_
        refine a_goto (tgt := 79) dX11_laysPlans_75 (by decide) ?_
        exact sM_laysPlans_79 (d0 + 1) (by omega) k20 hk20 k40 hk40 v1 v2 v3 (((10 : Int32) * v2) + v3) (1 : Int32) I J _ h
def mM_laysPlans_L40 (k20 : Int32 → Int32 → hI → hJ → Option (hI × hJ)) : Nat → Int32 → Int32 → Int32 → hI → hJ → Option (hI × hJ)
  | 0 => fun _ _ _ _ _ => none
  | n + 1 => mM_laysPlans_B40 k20 (mM_laysPlans_L40 k20 n)
theorem sM_laysPlans_L40 (d : Nat) (hd : 102 + 1 ≤ d) (k20 : Int32 → Int32 → hI → hJ → Option (hI × hJ)) (hk20 : ∀ (v1 : Int32) (v2 : Int32) (I : hI) (J : hJ) (q : hI × hJ), k20 v1 v2 I J = some q → AW hFT cX11_laysPlans 4 none RX11 kdM d [(0, .ref 0), (1, .int v1), (2, .int v2)] 20 [] (I, J, RMm) none (q.1, q.2, RMm)) : ∀ (n : Nat) (v1 : Int32) (v2 : Int32) (v3 : Int32) (I : hI) (J : hJ) (q : hI × hJ) (h : mM_laysPlans_L40 k20 n v1 v2 v3 I J = some q), AW hFT cX11_laysPlans 4 none RX11 kdM d [(0, .ref 0), (1, .int v1), (2, .int v2), (3, .int v3)] 40 [] (I, J, RMm) none (q.1, q.2, RMm)
  | 0, _, _, _, _, _, q, h => by cases h
  | n + 1, v1, v2, v3, I, J, q, h => sM_laysPlans_B40 d hd k20 hk20 (mM_laysPlans_L40 k20 n) (sM_laysPlans_L40 d hd k20 hk20 n) v1 v2 v3 I J q h
def mM_laysPlans_B20 (k20 : Int32 → Int32 → hI → hJ → Option (hI × hJ)) (v1 : Int32) (v2 : Int32) (I : hI) (J : hJ) : Option (hI × hJ) :=
  if v1 ≤ v2 then
    some (I, J)
  else
    ((mM_laysPlan v2 I).bind fun q1 =>
    (mM_laysComing q1).bind fun q2 =>
    (mM_laysLost q2).bind fun q3 =>
    mM_laysPlans_L40 k20 hF v1 v2 (0 : Int32) q3 J)
set_option maxHeartbeats 4000000 in
theorem sM_laysPlans_B20 (d : Nat) (hd : 102 + 1 ≤ d) (k20 : Int32 → Int32 → hI → hJ → Option (hI × hJ)) (hk20 : ∀ (v1 : Int32) (v2 : Int32) (I : hI) (J : hJ) (q : hI × hJ), k20 v1 v2 I J = some q → AW hFT cX11_laysPlans 4 none RX11 kdM d [(0, .ref 0), (1, .int v1), (2, .int v2)] 20 [] (I, J, RMm) none (q.1, q.2, RMm)) (v1 : Int32) (v2 : Int32) (I : hI) (J : hJ) (q : hI × hJ) (h : mM_laysPlans_B20 k20 v1 v2 I J = some q) : AW hFT cX11_laysPlans 4 none RX11 kdM d [(0, .ref 0), (1, .int v1), (2, .int v2)] 20 [] (I, J, RMm) none (q.1, q.2, RMm) := by
  obtain ⟨d0, rfl, hd0⟩ := h_mono hd
  unfold mM_laysPlans_B20 at h
  refine a_iload_n dX11_laysPlans_20 rfl rfl ?_
  refine a_iload_n dX11_laysPlans_21 rfl rfl ?_
  refine a_icmp_ge (tgt := 120) dX11_laysPlans_22 (by decide) (fun c => ?_) (fun c => ?_)
  · replace h := h_iteT c h
    cases h
    exact a_vret dX11_laysPlans_120
  · replace h := h_iteF c h
    refine a_aload_n dX11_laysPlans_25 rfl rfl ?_
    refine a_iload_n dX11_laysPlans_26 rfl rfl ?_
    obtain ⟨q1, cq1, h⟩ := h_bindS h
    refine a_callV0 [] yy_X11_laysPlan ml_11_494 km_0 rfl (sM_laysPlan _ (by omega) v2 I J q1 cq1) rfl rfl (Nat.le_of_ble_eq_true rfl) dX11_laysPlans_27 ?_
    refine a_aload_n dX11_laysPlans_30 rfl rfl ?_
    obtain ⟨q2, cq2, h⟩ := h_bindS h
    refine a_callV0 [] yy_X11_laysComing ml_11_497 km_0 rfl (sM_laysComing _ (by omega)  q1 J q2 cq2) rfl rfl (Nat.le_of_ble_eq_true rfl) dX11_laysPlans_31 ?_
    refine a_aload_n dX11_laysPlans_34 rfl rfl ?_
    obtain ⟨q3, cq3, h⟩ := h_bindS h
    refine a_callV0 [] yy_X11_laysLost ml_11_500 km_0 rfl (sM_laysLost _ (by omega)  q2 J q3 cq3) rfl rfl (Nat.le_of_ble_eq_true rfl) dX11_laysPlans_35 ?_
    refine a_iconst dX11_laysPlans_38 ic_0 ?_
    refine a_istore_n (lv' := [(3, .int (0 : Int32)), (0, .ref 0), (1, .int v1), (2, .int v2)]) dX11_laysPlans_39 rfl (by decide) rfl ?_
    refine a_sub (lv' := [(0, .ref 0), (1, .int v1), (2, .int v2), (3, .int (0 : Int32))]) [1, 2, 3, 0] rfl ?_
    exact sM_laysPlans_L40 (d0 + 1) (by omega) k20 hk20 hF v1 v2 (0 : Int32) q3 J _ h
def mM_laysPlans_L20  : Nat → Int32 → Int32 → hI → hJ → Option (hI × hJ)
  | 0 => fun _ _ _ _ => none
  | n + 1 => mM_laysPlans_B20 (mM_laysPlans_L20 n)
theorem sM_laysPlans_L20 (d : Nat) (hd : 102 + 1 ≤ d) : ∀ (n : Nat) (v1 : Int32) (v2 : Int32) (I : hI) (J : hJ) (q : hI × hJ) (h : mM_laysPlans_L20 n v1 v2 I J = some q), AW hFT cX11_laysPlans 4 none RX11 kdM d [(0, .ref 0), (1, .int v1), (2, .int v2)] 20 [] (I, J, RMm) none (q.1, q.2, RMm)
  | 0, _, _, _, _, q, h => by cases h
  | n + 1, v1, v2, I, J, q, h => sM_laysPlans_B20 d hd (mM_laysPlans_L20 n) (sM_laysPlans_L20 d hd n) v1 v2 I J q h
def mM_laysPlans   (I : hI) (J : hJ) : Option (hI × hJ) :=
  if (I 0 67) = 0 then
    (h_let (h_u I 0 67 (1 : Int32)) fun I1 =>
    (mM_plans I1).bind fun q2 =>
    mM_laysPlans_L20 hF q2 (0 : Int32) I1 J)
  else
    some (I, J)
set_option maxHeartbeats 4000000 in
theorem sM_laysPlans (d : Nat) (hd : 102 + 1 ≤ d)  (I : hI) (J : hJ) (q : hI × hJ) (h : mM_laysPlans I J = some q) : HMet hFT yX11_laysPlans cX11_laysPlans 4 none kdM d [.ref 0] (I, J, RMm) none (q.1, q.2, RMm) := by
  obtain ⟨d0, rfl, hd0⟩ := h_mono hd
  refine HMet.of (by decide) (Nat.le_of_ble_eq_true rfl) ?_
  show AW hFT cX11_laysPlans 4 none RX11 kdM (d0 + 1) [(0, .ref 0)] 0 [] (I, J, RMm) none (q.1, q.2, RMm)
  unfold mM_laysPlans at h
  refine a_aload_n dX11_laysPlans_0 rfl rfl ?_
  refine b_getI hK_11 km_0 (i := 67) rfl fl_11_443 rfl dX11_laysPlans_1 ?_
  refine a_if_eq (tgt := 8) dX11_laysPlans_4 (by decide) (fun c => ?_) (fun c => ?_)
  · replace h := h_iteT c h
    refine a_aload_n dX11_laysPlans_8 rfl rfl ?_
    refine a_iconst dX11_laysPlans_9 ic_1 ?_
    refine b_putI hK_11 km_0 (i := 67) rfl fl_11_443 rfl rfl h_Z1 dX11_laysPlans_10 ?_
    obtain ⟨I1, eI1, h⟩ := h_letS h
    refine a_memI eI1 ?_
    refine a_aload_n dX11_laysPlans_13 rfl rfl ?_
    obtain ⟨q2, cq2, h⟩ := h_bindS h
    refine a_callV1 [] yy_X11_plans ml_11_456 km_0 rfl (sM_plans _ (by omega)  I1 J q2 cq2) rfl rfl (Nat.le_of_ble_eq_true rfl) dX11_laysPlans_14 ?_
    refine a_istore_n (lv' := [(1, .int q2), (0, .ref 0)]) dX11_laysPlans_17 rfl (by decide) rfl ?_
    refine a_iconst dX11_laysPlans_18 ic_0 ?_
    refine a_istore_n (lv' := [(2, .int (0 : Int32)), (1, .int q2), (0, .ref 0)]) dX11_laysPlans_19 rfl (by decide) rfl ?_
    refine a_sub (lv' := [(0, .ref 0), (1, .int q2), (2, .int (0 : Int32))]) [2, 1, 0] rfl ?_
    exact sM_laysPlans_L20 (d0 + 1) (by omega) hF q2 (0 : Int32) I1 J _ h
  · replace h := h_iteF c h
    cases h
    exact a_vret dX11_laysPlans_7
