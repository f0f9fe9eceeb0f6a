/-! CoinLoops$Conditions.add(IIIIZ)V -/
theorem dX0_add_0 : decode cX0_add 0 = .ok (.aload_n 0, 1) := by decide +kernel
theorem dX0_add_1 : decode cX0_add 1 = .ok (.getfield 28, 3) := by decide +kernel
theorem dX0_add_4 : decode cX0_add 4 = .ok (.ifCond .lt 15, 3) := by decide +kernel
theorem dX0_add_7 : decode cX0_add 7 = .ok (.aload_n 0, 1) := by decide +kernel
theorem dX0_add_8 : decode cX0_add 8 = .ok (.getfield 28, 3) := by decide +kernel
theorem dX0_add_11 : decode cX0_add 11 = .ok (.aload_n 0, 1) := by decide +kernel
theorem dX0_add_12 : decode cX0_add 12 = .ok (.getfield 9, 3) := by decide +kernel
theorem dX0_add_15 : decode cX0_add 15 = .ok (.arraylength, 1) := by decide +kernel
theorem dX0_add_16 : decode cX0_add 16 = .ok (.if_icmp .lt 4, 3) := by decide +kernel
theorem dX0_add_19 : decode cX0_add 19 = .ok (.return_, 1) := by decide +kernel
theorem dX0_add_20 : decode cX0_add 20 = .ok (.aload_n 0, 1) := by decide +kernel
theorem dX0_add_21 : decode cX0_add 21 = .ok (.getfield 9, 3) := by decide +kernel
theorem dX0_add_24 : decode cX0_add 24 = .ok (.aload_n 0, 1) := by decide +kernel
theorem dX0_add_25 : decode cX0_add 25 = .ok (.getfield 28, 3) := by decide +kernel
theorem dX0_add_28 : decode cX0_add 28 = .ok (.iload_n 1, 1) := by decide +kernel
theorem dX0_add_29 : decode cX0_add 29 = .ok (.iastore, 1) := by decide +kernel
theorem dX0_add_30 : decode cX0_add 30 = .ok (.aload_n 0, 1) := by decide +kernel
theorem dX0_add_31 : decode cX0_add 31 = .ok (.getfield 15, 3) := by decide +kernel
theorem dX0_add_34 : decode cX0_add 34 = .ok (.aload_n 0, 1) := by decide +kernel
theorem dX0_add_35 : decode cX0_add 35 = .ok (.getfield 28, 3) := by decide +kernel
theorem dX0_add_38 : decode cX0_add 38 = .ok (.iload_n 2, 1) := by decide +kernel
theorem dX0_add_39 : decode cX0_add 39 = .ok (.iastore, 1) := by decide +kernel
theorem dX0_add_40 : decode cX0_add 40 = .ok (.aload_n 0, 1) := by decide +kernel
theorem dX0_add_41 : decode cX0_add 41 = .ok (.getfield 18, 3) := by decide +kernel
theorem dX0_add_44 : decode cX0_add 44 = .ok (.aload_n 0, 1) := by decide +kernel
theorem dX0_add_45 : decode cX0_add 45 = .ok (.getfield 28, 3) := by decide +kernel
theorem dX0_add_48 : decode cX0_add 48 = .ok (.iload_n 3, 1) := by decide +kernel
theorem dX0_add_49 : decode cX0_add 49 = .ok (.iastore, 1) := by decide +kernel
theorem dX0_add_50 : decode cX0_add 50 = .ok (.aload_n 0, 1) := by decide +kernel
theorem dX0_add_51 : decode cX0_add 51 = .ok (.getfield 21, 3) := by decide +kernel
theorem dX0_add_54 : decode cX0_add 54 = .ok (.aload_n 0, 1) := by decide +kernel
theorem dX0_add_55 : decode cX0_add 55 = .ok (.getfield 28, 3) := by decide +kernel
theorem dX0_add_58 : decode cX0_add 58 = .ok (.iload 4, 2) := by decide +kernel
theorem dX0_add_60 : decode cX0_add 60 = .ok (.iastore, 1) := by decide +kernel
theorem dX0_add_61 : decode cX0_add 61 = .ok (.aload_n 0, 1) := by decide +kernel
theorem dX0_add_62 : decode cX0_add 62 = .ok (.getfield 24, 3) := by decide +kernel
theorem dX0_add_65 : decode cX0_add 65 = .ok (.aload_n 0, 1) := by decide +kernel
theorem dX0_add_66 : decode cX0_add 66 = .ok (.getfield 28, 3) := by decide +kernel
theorem dX0_add_69 : decode cX0_add 69 = .ok (.iload 5, 2) := by decide +kernel
theorem dX0_add_71 : decode cX0_add 71 = .ok (.bastore, 1) := by decide +kernel
theorem dX0_add_72 : decode cX0_add 72 = .ok (.aload_n 0, 1) := by decide +kernel
theorem dX0_add_73 : decode cX0_add 73 = .ok (.dup, 1) := by decide +kernel
theorem dX0_add_74 : decode cX0_add 74 = .ok (.getfield 28, 3) := by decide +kernel
theorem dX0_add_77 : decode cX0_add 77 = .ok (.iconst 1, 1) := by decide +kernel
theorem dX0_add_78 : decode cX0_add 78 = .ok (.iadd, 1) := by decide +kernel
theorem dX0_add_79 : decode cX0_add 79 = .ok (.putfield 28, 3) := by decide +kernel
theorem dX0_add_82 : decode cX0_add 82 = .ok (.return_, 1) := by decide +kernel
def mCd_add  (t0 : Nat) (v1 : Int32) (v2 : Int32) (v3 : Int32) (v4 : Int32) (v5 : Int32) (I : hI) : Option (hI) :=
  if (I t0 5) < 0 then
    some I
  else
    (if (I t0 5) < (166 : Int32) then
      (h_g (h_in (I t0 5) 166) <|
      h_let (h_u I (t0 + 1) (I t0 5).toNatClampNeg v1) fun I2 =>
      h_g (h_in (I2 t0 5) 166) <|
      h_let (h_u I2 (t0 + 2) (I2 t0 5).toNatClampNeg v2) fun I4 =>
      h_g (h_in (I4 t0 5) 166) <|
      h_let (h_u I4 (t0 + 3) (I4 t0 5).toNatClampNeg v3) fun I6 =>
      h_g (h_in (I6 t0 5) 166) <|
      h_let (h_u I6 (t0 + 4) (I6 t0 5).toNatClampNeg v4) fun I8 =>
      h_g (h_in (I8 t0 5) 166) <|
      h_let (h_u I8 (t0 + 5) (I8 t0 5).toNatClampNeg (vp_nar .boolean v5)) fun I10 =>
      h_let (h_u I10 t0 5 ((I10 t0 5) + (1 : Int32))) fun I11 =>
      some I11)
    else
      some I)
set_option maxHeartbeats 4000000 in
theorem sCd_add (d : Nat) (hd : 0 ≤ d) (t0 : Nat) (ht0 : h_CD t0) (v1 : Int32) (v2 : Int32) (v3 : Int32) (v4 : Int32) (v5 : Int32) (I : hI) (J : hJ) (B : Bool × Bool) (q : hI) (h : mCd_add t0 v1 v2 v3 v4 v5 I = some q) : HMet hFT yX0_add cX0_add 6 none kdC d [.ref t0, .int v1, .int v2, .int v3, .int v4, .int v5] (I, J, RM B) none (q, J, RM B) := by
  refine HMet.of (by decide) (Nat.le_of_ble_eq_true rfl) ?_
  show AW hFT cX0_add 6 none RX0 kdC d [(0, .ref t0), (1, .int v1), (2, .int v2), (3, .int v3), (4, .int v4), (5, .int v5)] 0 [] (I, J, RM B) none (q, J, RM B)
  unfold mCd_add at h
  refine a_aload_n dX0_add_0 rfl rfl ?_
  refine b_getI hK_0 (k_CD ht0) (i := 5) rfl fl_0_28 rfl dX0_add_1 ?_
  refine a_if_lt (tgt := 19) dX0_add_4 (by decide) (fun c => ?_) (fun c => ?_)
  · replace h := h_iteT c h
    cases h
    exact a_vret dX0_add_19
  · replace h := h_iteF c h
    refine a_aload_n dX0_add_7 rfl rfl ?_
    refine b_getI hK_0 (k_CD ht0) (i := 5) rfl fl_0_28 rfl dX0_add_8 ?_
    refine a_aload_n dX0_add_11 rfl rfl ?_
    refine b_getR hK_0 (k_CD ht0) (i := 0) rfl fl_0_9 rfl (rm_CD_0 B ht0) dX0_add_12 ?_
    refine a_alen0 (k_CD1 ht0) (v := 166) (by decide) dX0_add_15 ?_
    refine a_icmp_lt (tgt := 20) dX0_add_16 (by decide) (fun c => ?_) (fun c => ?_)
    · replace h := h_iteT c h
      refine a_aload_n dX0_add_20 rfl rfl ?_
      refine b_getR hK_0 (k_CD ht0) (i := 0) rfl fl_0_9 rfl (rm_CD_0 B ht0) dX0_add_21 ?_
      refine a_aload_n dX0_add_24 rfl rfl ?_
      refine b_getI hK_0 (k_CD ht0) (i := 5) rfl fl_0_28 rfl dX0_add_25 ?_
      refine a_iload_n dX0_add_28 rfl rfl ?_
      obtain ⟨g1, h⟩ := h_gS h
      refine b_iastore (k_CD1 ht0) (h_inV g1) dX0_add_29 ?_
      obtain ⟨I2, eI2, h⟩ := h_letS h
      refine a_memI eI2 ?_
      refine a_aload_n dX0_add_30 rfl rfl ?_
      refine b_getR hK_0 (k_CD ht0) (i := 1) rfl fl_0_15 rfl (rm_CD_1 B ht0) dX0_add_31 ?_
      refine a_aload_n dX0_add_34 rfl rfl ?_
      refine b_getI hK_0 (k_CD ht0) (i := 5) rfl fl_0_28 rfl dX0_add_35 ?_
      refine a_iload_n dX0_add_38 rfl rfl ?_
      obtain ⟨g3, h⟩ := h_gS h
      refine b_iastore (k_CD2 ht0) (h_inV g3) dX0_add_39 ?_
      obtain ⟨I4, eI4, h⟩ := h_letS h
      refine a_memI eI4 ?_
      refine a_aload_n dX0_add_40 rfl rfl ?_
      refine b_getR hK_0 (k_CD ht0) (i := 2) rfl fl_0_18 rfl (rm_CD_2 B ht0) dX0_add_41 ?_
      refine a_aload_n dX0_add_44 rfl rfl ?_
      refine b_getI hK_0 (k_CD ht0) (i := 5) rfl fl_0_28 rfl dX0_add_45 ?_
      refine a_iload_n dX0_add_48 rfl rfl ?_
      obtain ⟨g5, h⟩ := h_gS h
      refine b_iastore (k_CD3 ht0) (h_inV g5) dX0_add_49 ?_
      obtain ⟨I6, eI6, h⟩ := h_letS h
      refine a_memI eI6 ?_
      refine a_aload_n dX0_add_50 rfl rfl ?_
      refine b_getR hK_0 (k_CD ht0) (i := 3) rfl fl_0_21 rfl (rm_CD_3 B ht0) dX0_add_51 ?_
      refine a_aload_n dX0_add_54 rfl rfl ?_
      refine b_getI hK_0 (k_CD ht0) (i := 5) rfl fl_0_28 rfl dX0_add_55 ?_
      refine a_iload dX0_add_58 rfl ?_
      obtain ⟨g7, h⟩ := h_gS h
      refine b_iastore (k_CD4 ht0) (h_inV g7) dX0_add_60 ?_
      obtain ⟨I8, eI8, h⟩ := h_letS h
      refine a_memI eI8 ?_
      refine a_aload_n dX0_add_61 rfl rfl ?_
      refine b_getR hK_0 (k_CD ht0) (i := 4) rfl fl_0_24 rfl (rm_CD_4 B ht0) dX0_add_62 ?_
      refine a_aload_n dX0_add_65 rfl rfl ?_
      refine b_getI hK_0 (k_CD ht0) (i := 5) rfl fl_0_28 rfl dX0_add_66 ?_
      refine a_iload dX0_add_69 rfl ?_
      obtain ⟨g9, h⟩ := h_gS h
      refine b_zastore (k_CD5 ht0) (h_inV g9) dX0_add_71 ?_
      obtain ⟨I10, eI10, h⟩ := h_letS h
      refine a_memI eI10 ?_
      refine a_aload_n dX0_add_72 rfl rfl ?_
      refine a_dup dX0_add_73 rfl ?_
      refine b_getI hK_0 (k_CD ht0) (i := 5) rfl fl_0_28 rfl dX0_add_74 ?_
      refine a_iconst dX0_add_77 ic_1 ?_
      refine a_iadd dX0_add_78 ?_
      refine b_putI hK_0 (k_CD ht0) (i := 5) rfl fl_0_28 rfl rfl (h_NI _) dX0_add_79 ?_
      obtain ⟨I11, eI11, h⟩ := h_letS h
      refine a_memI eI11 ?_
      cases h
      exact a_vret dX0_add_82
    · replace h := h_iteF c h
      cases h
      exact a_vret dX0_add_19
/-! CoinLoops$Conditions.hold(IIII)Z -/
theorem dX0_hold_0 : decode cX0_hold 0 = .ok (.iconst 0, 1) := by decide +kernel
theorem dX0_hold_1 : decode cX0_hold 1 = .ok (.istore 5, 2) := by decide +kernel
theorem dX0_hold_3 : decode cX0_hold 3 = .ok (.iload_n 1, 1) := by decide +kernel
theorem dX0_hold_4 : decode cX0_hold 4 = .ok (.iconst 0, 1) := by decide +kernel
theorem dX0_hold_5 : decode cX0_hold 5 = .ok (.invokestatic 32, 3) := by decide +kernel
theorem dX0_hold_8 : decode cX0_hold 8 = .ok (.istore 6, 2) := by decide +kernel
theorem dX0_hold_10 : decode cX0_hold 10 = .ok (.iload 6, 2) := by decide +kernel
theorem dX0_hold_12 : decode cX0_hold 12 = .ok (.iload_n 2, 1) := by decide +kernel
theorem dX0_hold_13 : decode cX0_hold 13 = .ok (.if_icmp .ge 138, 3) := by decide +kernel
theorem dX0_hold_16 : decode cX0_hold 16 = .ok (.iload 6, 2) := by decide +kernel
theorem dX0_hold_18 : decode cX0_hold 18 = .ok (.aload_n 0, 1) := by decide +kernel
theorem dX0_hold_19 : decode cX0_hold 19 = .ok (.getfield 9, 3) := by decide +kernel
theorem dX0_hold_22 : decode cX0_hold 22 = .ok (.arraylength, 1) := by decide +kernel
theorem dX0_hold_23 : decode cX0_hold 23 = .ok (.if_icmp .ge 128, 3) := by decide +kernel
theorem dX0_hold_26 : decode cX0_hold 26 = .ok (.aload_n 0, 1) := by decide +kernel
theorem dX0_hold_27 : decode cX0_hold 27 = .ok (.getfield 24, 3) := by decide +kernel
theorem dX0_hold_30 : decode cX0_hold 30 = .ok (.iload 6, 2) := by decide +kernel
theorem dX0_hold_32 : decode cX0_hold 32 = .ok (.baload, 1) := by decide +kernel
theorem dX0_hold_33 : decode cX0_hold 33 = .ok (.ifCond .eq 13, 3) := by decide +kernel
theorem dX0_hold_36 : decode cX0_hold 36 = .ok (.iload 5, 2) := by decide +kernel
theorem dX0_hold_38 : decode cX0_hold 38 = .ok (.ifCond .eq 5, 3) := by decide +kernel
theorem dX0_hold_41 : decode cX0_hold 41 = .ok (.iconst 1, 1) := by decide +kernel
theorem dX0_hold_42 : decode cX0_hold 42 = .ok (.ireturn, 1) := by decide +kernel
theorem dX0_hold_43 : decode cX0_hold 43 = .ok (.iconst 1, 1) := by decide +kernel
theorem dX0_hold_44 : decode cX0_hold 44 = .ok (.istore 5, 2) := by decide +kernel
theorem dX0_hold_46 : decode cX0_hold 46 = .ok (.aload_n 0, 1) := by decide +kernel
theorem dX0_hold_47 : decode cX0_hold 47 = .ok (.getfield 9, 3) := by decide +kernel
theorem dX0_hold_50 : decode cX0_hold 50 = .ok (.iload 6, 2) := by decide +kernel
theorem dX0_hold_52 : decode cX0_hold 52 = .ok (.iaload, 1) := by decide +kernel
theorem dX0_hold_53 : decode cX0_hold 53 = .ok (.iload_n 3, 1) := by decide +kernel
theorem dX0_hold_54 : decode cX0_hold 54 = .ok (.imul, 1) := by decide +kernel
theorem dX0_hold_55 : decode cX0_hold 55 = .ok (.aload_n 0, 1) := by decide +kernel
theorem dX0_hold_56 : decode cX0_hold 56 = .ok (.getfield 15, 3) := by decide +kernel
theorem dX0_hold_59 : decode cX0_hold 59 = .ok (.iload 6, 2) := by decide +kernel
theorem dX0_hold_61 : decode cX0_hold 61 = .ok (.iaload, 1) := by decide +kernel
theorem dX0_hold_62 : decode cX0_hold 62 = .ok (.iload 4, 2) := by decide +kernel
theorem dX0_hold_64 : decode cX0_hold 64 = .ok (.imul, 1) := by decide +kernel
theorem dX0_hold_65 : decode cX0_hold 65 = .ok (.iadd, 1) := by decide +kernel
theorem dX0_hold_66 : decode cX0_hold 66 = .ok (.aload_n 0, 1) := by decide +kernel
theorem dX0_hold_67 : decode cX0_hold 67 = .ok (.getfield 18, 3) := by decide +kernel
theorem dX0_hold_70 : decode cX0_hold 70 = .ok (.iload 6, 2) := by decide +kernel
theorem dX0_hold_72 : decode cX0_hold 72 = .ok (.iaload, 1) := by decide +kernel
theorem dX0_hold_73 : decode cX0_hold 73 = .ok (.iadd, 1) := by decide +kernel
theorem dX0_hold_74 : decode cX0_hold 74 = .ok (.istore 7, 2) := by decide +kernel
theorem dX0_hold_76 : decode cX0_hold 76 = .ok (.aload_n 0, 1) := by decide +kernel
theorem dX0_hold_77 : decode cX0_hold 77 = .ok (.getfield 21, 3) := by decide +kernel
theorem dX0_hold_80 : decode cX0_hold 80 = .ok (.iload 6, 2) := by decide +kernel
theorem dX0_hold_82 : decode cX0_hold 82 = .ok (.iaload, 1) := by decide +kernel
theorem dX0_hold_83 : decode cX0_hold 83 = .ok (.bipush 60, 2) := by decide +kernel
theorem dX0_hold_85 : decode cX0_hold 85 = .ok (.if_icmp .ne 23, 3) := by decide +kernel
theorem dX0_hold_88 : decode cX0_hold 88 = .ok (.iload 5, 2) := by decide +kernel
theorem dX0_hold_90 : decode cX0_hold 90 = .ok (.ifCond .eq 12, 3) := by decide +kernel
theorem dX0_hold_93 : decode cX0_hold 93 = .ok (.iload 7, 2) := by decide +kernel
theorem dX0_hold_95 : decode cX0_hold 95 = .ok (.ifCond .ge 7, 3) := by decide +kernel
theorem dX0_hold_98 : decode cX0_hold 98 = .ok (.iconst 1, 1) := by decide +kernel
theorem dX0_hold_99 : decode cX0_hold 99 = .ok (.goto 4, 3) := by decide +kernel
theorem dX0_hold_102 : decode cX0_hold 102 = .ok (.iconst 0, 1) := by decide +kernel
theorem dX0_hold_103 : decode cX0_hold 103 = .ok (.istore 5, 2) := by decide +kernel
theorem dX0_hold_105 : decode cX0_hold 105 = .ok (.goto 40, 3) := by decide +kernel
theorem dX0_hold_108 : decode cX0_hold 108 = .ok (.iload 5, 2) := by decide +kernel
theorem dX0_hold_110 : decode cX0_hold 110 = .ok (.ifCond .eq 32, 3) := by decide +kernel
theorem dX0_hold_113 : decode cX0_hold 113 = .ok (.aload_n 0, 1) := by decide +kernel
theorem dX0_hold_114 : decode cX0_hold 114 = .ok (.getfield 21, 3) := by decide +kernel
theorem dX0_hold_117 : decode cX0_hold 117 = .ok (.iload 6, 2) := by decide +kernel
theorem dX0_hold_119 : decode cX0_hold 119 = .ok (.iaload, 1) := by decide +kernel
theorem dX0_hold_120 : decode cX0_hold 120 = .ok (.bipush 61, 2) := by decide +kernel
theorem dX0_hold_122 : decode cX0_hold 122 = .ok (.if_icmp .ne 11, 3) := by decide +kernel
theorem dX0_hold_125 : decode cX0_hold 125 = .ok (.iload 7, 2) := by decide +kernel
theorem dX0_hold_127 : decode cX0_hold 127 = .ok (.ifCond .ne 15, 3) := by decide +kernel
theorem dX0_hold_130 : decode cX0_hold 130 = .ok (.goto 8, 3) := by decide +kernel
theorem dX0_hold_133 : decode cX0_hold 133 = .ok (.iload 7, 2) := by decide +kernel
theorem dX0_hold_135 : decode cX0_hold 135 = .ok (.ifCond .le 7, 3) := by decide +kernel
theorem dX0_hold_138 : decode cX0_hold 138 = .ok (.iconst 1, 1) := by decide +kernel
theorem dX0_hold_139 : decode cX0_hold 139 = .ok (.goto 4, 3) := by decide +kernel
theorem dX0_hold_142 : decode cX0_hold 142 = .ok (.iconst 0, 1) := by decide +kernel
theorem dX0_hold_143 : decode cX0_hold 143 = .ok (.istore 5, 2) := by decide +kernel
theorem dX0_hold_145 : decode cX0_hold 145 = .ok (.iinc 6 1, 3) := by decide +kernel
theorem dX0_hold_148 : decode cX0_hold 148 = .ok (.goto (-138), 3) := by decide +kernel
theorem dX0_hold_151 : decode cX0_hold 151 = .ok (.iload 5, 2) := by decide +kernel
theorem dX0_hold_153 : decode cX0_hold 153 = .ok (.ireturn, 1) := by decide +kernel
def mCd_hold_46 (k10 : Nat → Int32 → Int32 → Int32 → Int32 → Int32 → hI → Option (Int32)) (t0 : Nat) (v2 : Int32) (v3 : Int32) (v4 : Int32) (v5 : Int32) (v6 : Int32) (I : hI) : Option (Int32) :=
  h_g (h_in v6 166) <|
  h_g (h_in v6 166) <|
  h_g (h_in v6 166) <|
  h_let ((((I (t0 + 1) v6.toNatClampNeg) * v3) + ((I (t0 + 2) v6.toNatClampNeg) * v4)) + (I (t0 + 3) v6.toNatClampNeg)) fun v7x3 =>
  h_g (h_in v6 166) <|
  if (I (t0 + 4) v6.toNatClampNeg) = (60 : Int32) then
    (if v5 = 0 then
      k10 t0 v2 v3 v4 (0 : Int32) (v6 + (1 : Int32)) I
    else
      (if 0 ≤ v7x3 then
        k10 t0 v2 v3 v4 (0 : Int32) (v6 + (1 : Int32)) I
      else
        k10 t0 v2 v3 v4 (1 : Int32) (v6 + (1 : Int32)) I))
  else
    (if v5 = 0 then
      k10 t0 v2 v3 v4 (0 : Int32) (v6 + (1 : Int32)) I
    else
      (h_g (h_in v6 166) <|
      if (I (t0 + 4) v6.toNatClampNeg) = (61 : Int32) then
        (if v7x3 = 0 then
          k10 t0 v2 v3 v4 (1 : Int32) (v6 + (1 : Int32)) I
        else
          k10 t0 v2 v3 v4 (0 : Int32) (v6 + (1 : Int32)) I)
      else
        (if v7x3 ≤ 0 then
          k10 t0 v2 v3 v4 (0 : Int32) (v6 + (1 : Int32)) I
        else
          k10 t0 v2 v3 v4 (1 : Int32) (v6 + (1 : Int32)) I)))
set_option maxHeartbeats 4000000 in
theorem sCd_hold_46 (d : Nat) (hd : 0 + 1 ≤ d) (k10 : Nat → Int32 → Int32 → Int32 → Int32 → Int32 → hI → Option (Int32)) (hk10 : ∀ (t0 : Nat) (ht0 : h_CD t0) (v2 : Int32) (v3 : Int32) (v4 : Int32) (v5 : Int32) (v6 : Int32) (I : hI) (J : hJ) (B : Bool × Bool) (q : Int32), k10 t0 v2 v3 v4 v5 v6 I = some q → AW hFT cX0_hold 8 (some .boolean) RX0 kdC d [(0, .ref t0), (2, .int v2), (3, .int v3), (4, .int v4), (5, .int v5), (6, .int v6)] 10 [] (I, J, RM B) (some (.int q)) (I, J, RM B)) (t0 : Nat) (ht0 : h_CD t0) (v2 : Int32) (v3 : Int32) (v4 : Int32) (v5 : Int32) (v6 : Int32) (I : hI) (J : hJ) (B : Bool × Bool) (q : Int32) (h : mCd_hold_46 k10 t0 v2 v3 v4 v5 v6 I = some q) : AW hFT cX0_hold 8 (some .boolean) RX0 kdC d [(0, .ref t0), (2, .int v2), (3, .int v3), (4, .int v4), (5, .int v5), (6, .int v6)] 46 [] (I, J, RM B) (some (.int q)) (I, J, RM B) := by
  obtain ⟨d0, rfl, hd0⟩ := h_mono hd
  unfold mCd_hold_46 at h
  refine a_aload_n dX0_hold_46 rfl rfl ?_
  refine b_getR hK_0 (k_CD ht0) (i := 0) rfl fl_0_9 rfl (rm_CD_0 B ht0) dX0_hold_47 ?_
  refine a_iload dX0_hold_50 rfl ?_
  obtain ⟨g1, h⟩ := h_gS h
  refine b_iaload (k_CD1 ht0) (h_inV g1) dX0_hold_52 ?_
  refine a_iload_n dX0_hold_53 rfl rfl ?_
  refine a_imul dX0_hold_54 ?_
  refine a_aload_n dX0_hold_55 rfl rfl ?_
  refine b_getR hK_0 (k_CD ht0) (i := 1) rfl fl_0_15 rfl (rm_CD_1 B ht0) dX0_hold_56 ?_
  refine a_iload dX0_hold_59 rfl ?_
  obtain ⟨g2, h⟩ := h_gS h
  refine b_iaload (k_CD2 ht0) (h_inV g2) dX0_hold_61 ?_
  refine a_iload dX0_hold_62 rfl ?_
  refine a_imul dX0_hold_64 ?_
  refine a_iadd dX0_hold_65 ?_
  refine a_aload_n dX0_hold_66 rfl rfl ?_
  refine b_getR hK_0 (k_CD ht0) (i := 2) rfl fl_0_18 rfl (rm_CD_2 B ht0) dX0_hold_67 ?_
  refine a_iload dX0_hold_70 rfl ?_
  obtain ⟨g3, h⟩ := h_gS h
  refine b_iaload (k_CD3 ht0) (h_inV g3) dX0_hold_72 ?_
  refine a_iadd dX0_hold_73 ?_
  obtain ⟨v7x3, ev7x3, h⟩ := h_letS h
  refine a_topI ev7x3 ?_
  refine a_istore (lv' := [(7, .int v7x3), (0, .ref t0), (2, .int v2), (3, .int v3), (4, .int v4), (5, .int v5), (6, .int v6)]) dX0_hold_74 (by decide) rfl ?_
  refine a_aload_n dX0_hold_76 rfl rfl ?_
  refine b_getR hK_0 (k_CD ht0) (i := 3) rfl fl_0_21 rfl (rm_CD_3 B ht0) dX0_hold_77 ?_
  refine a_iload dX0_hold_80 rfl ?_
  obtain ⟨g5, h⟩ := h_gS h
  refine b_iaload (k_CD4 ht0) (h_inV g5) dX0_hold_82 ?_
  refine a_bipush dX0_hold_83 bp_60 ?_
  refine a_icmp_ne (tgt := 108) dX0_hold_85 (by decide) (fun c => ?_) (fun c => ?_)
  · replace h := h_iteF c h
    refine a_iload dX0_hold_108 rfl ?_
    refine a_if_eq (tgt := 142) dX0_hold_110 (by decide) (fun c => ?_) (fun c => ?_)
    · replace h := h_iteT c h
      refine a_iconst dX0_hold_142 ic_0 ?_
      refine a_istore (lv' := [(5, .int (0 : Int32)), (7, .int v7x3), (0, .ref t0), (2, .int v2), (3, .int v3), (4, .int v4), (6, .int v6)]) dX0_hold_143 (by decide) rfl ?_
      refine b_iinc (lv' := [(6, .int (v6 + (1 : Int32))), (5, .int (0 : Int32)), (7, .int v7x3), (0, .ref t0), (2, .int v2), (3, .int v3), (4, .int v4)]) dX0_hold_145 rfl ic_1 (by decide) rfl ?_
      refine a_goto (tgt := 10) dX0_hold_148 (by decide) ?_
      refine a_sub (lv' := [(0, .ref t0), (2, .int v2), (3, .int v3), (4, .int v4), (5, .int (0 : Int32)), (6, .int (v6 + (1 : Int32)))]) [3, 4, 5, 6, 1, 0] rfl ?_
      exact hk10 t0 ht0 v2 v3 v4 (0 : Int32) (v6 + (1 : Int32)) I J B _ h
    · replace h := h_iteF c h
      refine a_aload_n dX0_hold_113 rfl rfl ?_
      refine b_getR hK_0 (k_CD ht0) (i := 3) rfl fl_0_21 rfl (rm_CD_3 B ht0) dX0_hold_114 ?_
      refine a_iload dX0_hold_117 rfl ?_
      obtain ⟨g6, h⟩ := h_gS h
      refine b_iaload (k_CD4 ht0) (h_inV g6) dX0_hold_119 ?_
      refine a_bipush dX0_hold_120 bp_61 ?_
      refine a_icmp_ne (tgt := 133) dX0_hold_122 (by decide) (fun c => ?_) (fun c => ?_)
      · replace h := h_iteF c h
        refine a_iload dX0_hold_133 rfl ?_
        refine a_if_le (tgt := 142) dX0_hold_135 (by decide) (fun c => ?_) (fun c => ?_)
        · replace h := h_iteT c h
          refine a_iconst dX0_hold_142 ic_0 ?_
          refine a_istore (lv' := [(5, .int (0 : Int32)), (7, .int v7x3), (0, .ref t0), (2, .int v2), (3, .int v3), (4, .int v4), (6, .int v6)]) dX0_hold_143 (by decide) rfl ?_
          refine b_iinc (lv' := [(6, .int (v6 + (1 : Int32))), (5, .int (0 : Int32)), (7, .int v7x3), (0, .ref t0), (2, .int v2), (3, .int v3), (4, .int v4)]) dX0_hold_145 rfl ic_1 (by decide) rfl ?_
          refine a_goto (tgt := 10) dX0_hold_148 (by decide) ?_
          refine a_sub (lv' := [(0, .ref t0), (2, .int v2), (3, .int v3), (4, .int v4), (5, .int (0 : Int32)), (6, .int (v6 + (1 : Int32)))]) [3, 4, 5, 6, 1, 0] rfl ?_
          exact hk10 t0 ht0 v2 v3 v4 (0 : Int32) (v6 + (1 : Int32)) I J B _ h
        · replace h := h_iteF c h
          refine a_iconst dX0_hold_138 ic_1 ?_
          refine a_goto (tgt := 143) dX0_hold_139 (by decide) ?_
          refine a_istore (lv' := [(5, .int (1 : Int32)), (7, .int v7x3), (0, .ref t0), (2, .int v2), (3, .int v3), (4, .int v4), (6, .int v6)]) dX0_hold_143 (by decide) rfl ?_
          refine b_iinc (lv' := [(6, .int (v6 + (1 : Int32))), (5, .int (1 : Int32)), (7, .int v7x3), (0, .ref t0), (2, .int v2), (3, .int v3), (4, .int v4)]) dX0_hold_145 rfl ic_1 (by decide) rfl ?_
          refine a_goto (tgt := 10) dX0_hold_148 (by decide) ?_
          refine a_sub (lv' := [(0, .ref t0), (2, .int v2), (3, .int v3), (4, .int v4), (5, .int (1 : Int32)), (6, .int (v6 + (1 : Int32)))]) [3, 4, 5, 6, 1, 0] rfl ?_
          exact hk10 t0 ht0 v2 v3 v4 (1 : Int32) (v6 + (1 : Int32)) I J B _ h
      · replace h := h_iteT c h
        refine a_iload dX0_hold_125 rfl ?_
        refine a_if_ne (tgt := 142) dX0_hold_127 (by decide) (fun c => ?_) (fun c => ?_)
        · replace h := h_iteF c h
          refine a_iconst dX0_hold_142 ic_0 ?_
          refine a_istore (lv' := [(5, .int (0 : Int32)), (7, .int v7x3), (0, .ref t0), (2, .int v2), (3, .int v3), (4, .int v4), (6, .int v6)]) dX0_hold_143 (by decide) rfl ?_
          refine b_iinc (lv' := [(6, .int (v6 + (1 : Int32))), (5, .int (0 : Int32)), (7, .int v7x3), (0, .ref t0), (2, .int v2), (3, .int v3), (4, .int v4)]) dX0_hold_145 rfl ic_1 (by decide) rfl ?_
          refine a_goto (tgt := 10) dX0_hold_148 (by decide) ?_
          refine a_sub (lv' := [(0, .ref t0), (2, .int v2), (3, .int v3), (4, .int v4), (5, .int (0 : Int32)), (6, .int (v6 + (1 : Int32)))]) [3, 4, 5, 6, 1, 0] rfl ?_
          exact hk10 t0 ht0 v2 v3 v4 (0 : Int32) (v6 + (1 : Int32)) I J B _ h
        · replace h := h_iteT c h
          refine a_goto (tgt := 138) dX0_hold_130 (by decide) ?_
          refine a_iconst dX0_hold_138 ic_1 ?_
          refine a_goto (tgt := 143) dX0_hold_139 (by decide) ?_
          refine a_istore (lv' := [(5, .int (1 : Int32)), (7, .int v7x3), (0, .ref t0), (2, .int v2), (3, .int v3), (4, .int v4), (6, .int v6)]) dX0_hold_143 (by decide) rfl ?_
          refine b_iinc (lv' := [(6, .int (v6 + (1 : Int32))), (5, .int (1 : Int32)), (7, .int v7x3), (0, .ref t0), (2, .int v2), (3, .int v3), (4, .int v4)]) dX0_hold_145 rfl ic_1 (by decide) rfl ?_
          refine a_goto (tgt := 10) dX0_hold_148 (by decide) ?_
          refine a_sub (lv' := [(0, .ref t0), (2, .int v2), (3, .int v3), (4, .int v4), (5, .int (1 : Int32)), (6, .int (v6 + (1 : Int32)))]) [3, 4, 5, 6, 1, 0] rfl ?_
          exact hk10 t0 ht0 v2 v3 v4 (1 : Int32) (v6 + (1 : Int32)) I J B _ h
  · replace h := h_iteT c h
    refine a_iload dX0_hold_88 rfl ?_
    refine a_if_eq (tgt := 102) dX0_hold_90 (by decide) (fun c => ?_) (fun c => ?_)
    · replace h := h_iteT c h
      refine a_iconst dX0_hold_102 ic_0 ?_
      refine a_istore (lv' := [(5, .int (0 : Int32)), (7, .int v7x3), (0, .ref t0), (2, .int v2), (3, .int v3), (4, .int v4), (6, .int v6)]) dX0_hold_103 (by decide) rfl ?_
      refine a_goto (tgt := 145) dX0_hold_105 (by decide) ?_
      refine b_iinc (lv' := [(6, .int (v6 + (1 : Int32))), (5, .int (0 : Int32)), (7, .int v7x3), (0, .ref t0), (2, .int v2), (3, .int v3), (4, .int v4)]) dX0_hold_145 rfl ic_1 (by decide) rfl ?_
      refine a_goto (tgt := 10) dX0_hold_148 (by decide) ?_
      refine a_sub (lv' := [(0, .ref t0), (2, .int v2), (3, .int v3), (4, .int v4), (5, .int (0 : Int32)), (6, .int (v6 + (1 : Int32)))]) [3, 4, 5, 6, 1, 0] rfl ?_
      exact hk10 t0 ht0 v2 v3 v4 (0 : Int32) (v6 + (1 : Int32)) I J B _ h
    · replace h := h_iteF c h
      refine a_iload dX0_hold_93 rfl ?_
      refine a_if_ge (tgt := 102) dX0_hold_95 (by decide) (fun c => ?_) (fun c => ?_)
      · replace h := h_iteT c h
        refine a_iconst dX0_hold_102 ic_0 ?_
        refine a_istore (lv' := [(5, .int (0 : Int32)), (7, .int v7x3), (0, .ref t0), (2, .int v2), (3, .int v3), (4, .int v4), (6, .int v6)]) dX0_hold_103 (by decide) rfl ?_
        refine a_goto (tgt := 145) dX0_hold_105 (by decide) ?_
        refine b_iinc (lv' := [(6, .int (v6 + (1 : Int32))), (5, .int (0 : Int32)), (7, .int v7x3), (0, .ref t0), (2, .int v2), (3, .int v3), (4, .int v4)]) dX0_hold_145 rfl ic_1 (by decide) rfl ?_
        refine a_goto (tgt := 10) dX0_hold_148 (by decide) ?_
        refine a_sub (lv' := [(0, .ref t0), (2, .int v2), (3, .int v3), (4, .int v4), (5, .int (0 : Int32)), (6, .int (v6 + (1 : Int32)))]) [3, 4, 5, 6, 1, 0] rfl ?_
        exact hk10 t0 ht0 v2 v3 v4 (0 : Int32) (v6 + (1 : Int32)) I J B _ h
      · replace h := h_iteF c h
        refine a_iconst dX0_hold_98 ic_1 ?_
        refine a_goto (tgt := 103) dX0_hold_99 (by decide) ?_
        refine a_istore (lv' := [(5, .int (1 : Int32)), (7, .int v7x3), (0, .ref t0), (2, .int v2), (3, .int v3), (4, .int v4), (6, .int v6)]) dX0_hold_103 (by decide) rfl ?_
        refine a_goto (tgt := 145) dX0_hold_105 (by decide) ?_
        refine b_iinc (lv' := [(6, .int (v6 + (1 : Int32))), (5, .int (1 : Int32)), (7, .int v7x3), (0, .ref t0), (2, .int v2), (3, .int v3), (4, .int v4)]) dX0_hold_145 rfl ic_1 (by decide) rfl ?_
        refine a_goto (tgt := 10) dX0_hold_148 (by decide) ?_
        refine a_sub (lv' := [(0, .ref t0), (2, .int v2), (3, .int v3), (4, .int v4), (5, .int (1 : Int32)), (6, .int (v6 + (1 : Int32)))]) [3, 4, 5, 6, 1, 0] rfl ?_
        exact hk10 t0 ht0 v2 v3 v4 (1 : Int32) (v6 + (1 : Int32)) I J B _ h
def mCd_hold_B10 (k10 : Nat → Int32 → Int32 → Int32 → Int32 → Int32 → hI → Option (Int32)) (t0 : Nat) (v2 : Int32) (v3 : Int32) (v4 : Int32) (v5 : Int32) (v6 : Int32) (I : hI) : Option (Int32) :=
  if v2 ≤ v6 then
    (h_g (h_isZ v5) <|
    some v5)
  else
    (if (166 : Int32) ≤ v6 then
      (h_g (h_isZ v5) <|
      some v5)
    else
      (h_g (h_in v6 166) <|
      if (I (t0 + 5) v6.toNatClampNeg) = 0 then
        mCd_hold_46 k10 t0 v2 v3 v4 v5 v6 I
      else
        (if v5 = 0 then
          mCd_hold_46 k10 t0 v2 v3 v4 (1 : Int32) v6 I
        else
          some (1 : Int32))))
set_option maxHeartbeats 4000000 in
theorem sCd_hold_B10 (d : Nat) (hd : 0 + 1 ≤ d) (k10 : Nat → Int32 → Int32 → Int32 → Int32 → Int32 → hI → Option (Int32)) (hk10 : ∀ (t0 : Nat) (ht0 : h_CD t0) (v2 : Int32) (v3 : Int32) (v4 : Int32) (v5 : Int32) (v6 : Int32) (I : hI) (J : hJ) (B : Bool × Bool) (q : Int32), k10 t0 v2 v3 v4 v5 v6 I = some q → AW hFT cX0_hold 8 (some .boolean) RX0 kdC d [(0, .ref t0), (2, .int v2), (3, .int v3), (4, .int v4), (5, .int v5), (6, .int v6)] 10 [] (I, J, RM B) (some (.int q)) (I, J, RM B)) (t0 : Nat) (ht0 : h_CD t0) (v2 : Int32) (v3 : Int32) (v4 : Int32) (v5 : Int32) (v6 : Int32) (I : hI) (J : hJ) (B : Bool × Bool) (q : Int32) (h : mCd_hold_B10 k10 t0 v2 v3 v4 v5 v6 I = some q) : AW hFT cX0_hold 8 (some .boolean) RX0 kdC d [(0, .ref t0), (2, .int v2), (3, .int v3), (4, .int v4), (5, .int v5), (6, .int v6)] 10 [] (I, J, RM B) (some (.int q)) (I, J, RM B) := by
  obtain ⟨d0, rfl, hd0⟩ := h_mono hd
  unfold mCd_hold_B10 at h
  refine a_iload dX0_hold_10 rfl ?_
  refine a_iload_n dX0_hold_12 rfl rfl ?_
  refine a_icmp_ge (tgt := 151) dX0_hold_13 (by decide) (fun c => ?_) (fun c => ?_)
  · replace h := h_iteT c h
    refine a_iload dX0_hold_151 rfl ?_
    obtain ⟨g1, h⟩ := h_gS h
    cases h
    exact a_zret ((h_isZV g1).1) dX0_hold_153
  · replace h := h_iteF c h
    refine a_iload dX0_hold_16 rfl ?_
    refine a_aload_n dX0_hold_18 rfl rfl ?_
    refine b_getR hK_0 (k_CD ht0) (i := 0) rfl fl_0_9 rfl (rm_CD_0 B ht0) dX0_hold_19 ?_
    refine a_alen0 (k_CD1 ht0) (v := 166) (by decide) dX0_hold_22 ?_
    refine a_icmp_ge (tgt := 151) dX0_hold_23 (by decide) (fun c => ?_) (fun c => ?_)
    · replace h := h_iteT c h
      refine a_iload dX0_hold_151 rfl ?_
      obtain ⟨g1, h⟩ := h_gS h
      cases h
      exact a_zret ((h_isZV g1).1) dX0_hold_153
    · replace h := h_iteF c h
      refine a_aload_n dX0_hold_26 rfl rfl ?_
      refine b_getR hK_0 (k_CD ht0) (i := 4) rfl fl_0_24 rfl (rm_CD_4 B ht0) dX0_hold_27 ?_
      refine a_iload dX0_hold_30 rfl ?_
      obtain ⟨g1, h⟩ := h_gS h
      refine b_zaload (k_CD5 ht0) (h_inV g1) dX0_hold_32 ?_
      refine a_if_eq (tgt := 46) dX0_hold_33 (by decide) (fun c => ?_) (fun c => ?_)
      · replace h := h_iteT c h
        exact sCd_hold_46 (d0 + 1) (by omega) k10 hk10 t0 ht0 v2 v3 v4 v5 v6 I J B _ h
      · replace h := h_iteF c h
        refine a_iload dX0_hold_36 rfl ?_
        refine a_if_eq (tgt := 43) dX0_hold_38 (by decide) (fun c => ?_) (fun c => ?_)
        · replace h := h_iteT c h
          refine a_iconst dX0_hold_43 ic_1 ?_
          refine a_istore (lv' := [(5, .int (1 : Int32)), (0, .ref t0), (2, .int v2), (3, .int v3), (4, .int v4), (6, .int v6)]) dX0_hold_44 (by decide) rfl ?_
          refine a_sub (lv' := [(0, .ref t0), (2, .int v2), (3, .int v3), (4, .int v4), (5, .int (1 : Int32)), (6, .int v6)]) [1, 2, 3, 4, 0, 5] rfl ?_
          exact sCd_hold_46 (d0 + 1) (by omega) k10 hk10 t0 ht0 v2 v3 v4 (1 : Int32) v6 I J B _ h
        · replace h := h_iteF c h
          refine a_iconst dX0_hold_41 ic_1 ?_
          cases h
          exact a_zret (h_Z1.1) dX0_hold_42
def mCd_hold_L10  : Nat → Nat → Int32 → Int32 → Int32 → Int32 → Int32 → hI → Option (Int32)
  | 0 => fun _ _ _ _ _ _ _ => none
  | n + 1 => mCd_hold_B10 (mCd_hold_L10 n)
theorem sCd_hold_L10 (d : Nat) (hd : 0 + 1 ≤ d) : ∀ (n : Nat) (t0 : Nat) (ht0 : h_CD t0) (v2 : Int32) (v3 : Int32) (v4 : Int32) (v5 : Int32) (v6 : Int32) (I : hI) (J : hJ) (B : Bool × Bool) (q : Int32) (h : mCd_hold_L10 n t0 v2 v3 v4 v5 v6 I = some q), AW hFT cX0_hold 8 (some .boolean) RX0 kdC d [(0, .ref t0), (2, .int v2), (3, .int v3), (4, .int v4), (5, .int v5), (6, .int v6)] 10 [] (I, J, RM B) (some (.int q)) (I, J, RM B)
  | 0, _, _, _, _, _, _, _, _, _, _, q, h => by cases h
  | n + 1, t0, ht0, v2, v3, v4, v5, v6, I, J, B, q, h => sCd_hold_B10 d hd (mCd_hold_L10 n) (sCd_hold_L10 d hd n) t0 ht0 v2 v3 v4 v5 v6 I J B q h
def mCd_hold  (t0 : Nat) (v1 : Int32) (v2 : Int32) (v3 : Int32) (v4 : Int32) (I : hI) : Option (Int32) :=
  h_let (if v1 < (0 : Int32) then (0 : Int32) else v1) fun v6x0 =>
  mCd_hold_L10 hF t0 v2 v3 v4 (0 : Int32) v6x0 I
set_option maxHeartbeats 4000000 in
theorem sCd_hold (d : Nat) (hd : 0 + 1 ≤ d) (t0 : Nat) (ht0 : h_CD t0) (v1 : Int32) (v2 : Int32) (v3 : Int32) (v4 : Int32) (I : hI) (J : hJ) (B : Bool × Bool) (q : Int32) (h : mCd_hold t0 v1 v2 v3 v4 I = some q) : HMet hFT yX0_hold cX0_hold 8 (some .boolean) kdC d [.ref t0, .int v1, .int v2, .int v3, .int v4] (I, J, RM B) (some (.int q)) (I, J, RM B) := by
  obtain ⟨d0, rfl, hd0⟩ := h_mono hd
  refine HMet.of (by decide) (Nat.le_of_ble_eq_true rfl) ?_
  show AW hFT cX0_hold 8 (some .boolean) RX0 kdC (d0 + 1) [(0, .ref t0), (1, .int v1), (2, .int v2), (3, .int v3), (4, .int v4)] 0 [] (I, J, RM B) (some (.int q)) (I, J, RM B)
  unfold mCd_hold at h
  refine a_iconst dX0_hold_0 ic_0 ?_
  refine a_istore (lv' := [(5, .int (0 : Int32)), (0, .ref t0), (1, .int v1), (2, .int v2), (3, .int v3), (4, .int v4)]) dX0_hold_1 (by decide) rfl ?_
  refine a_iload_n dX0_hold_3 rfl rfl ?_
  refine a_iconst dX0_hold_4 ic_0 ?_
  refine a_mmax w_mmax ml_0_32 (Nat.le_of_ble_eq_true rfl) dX0_hold_5 ?_
  obtain ⟨v6x0, ev6x0, h⟩ := h_letS h
  refine a_topI ev6x0 ?_
  refine a_istore (lv' := [(6, .int v6x0), (5, .int (0 : Int32)), (0, .ref t0), (1, .int v1), (2, .int v2), (3, .int v3), (4, .int v4)]) dX0_hold_8 (by decide) rfl ?_
  refine a_sub (lv' := [(0, .ref t0), (2, .int v2), (3, .int v3), (4, .int v4), (5, .int (0 : Int32)), (6, .int v6x0)]) [2, 4, 5, 6, 1, 0] rfl ?_
  exact sCd_hold_L10 (d0 + 1) (by omega) hF t0 ht0 v2 v3 v4 (0 : Int32) v6x0 I J B _ h
/-! CoinLoops.isOutside(II)Z -/
theorem dX10_isOutside_0 : decode cX10_isOutside 0 = .ok (.iload_n 0, 1) := by decide +kernel
theorem dX10_isOutside_1 : decode cX10_isOutside 1 = .ok (.ifCond .lt 8, 3) := by decide +kernel
theorem dX10_isOutside_4 : decode cX10_isOutside 4 = .ok (.iload_n 0, 1) := by decide +kernel
theorem dX10_isOutside_5 : decode cX10_isOutside 5 = .ok (.iload_n 1, 1) := by decide +kernel
theorem dX10_isOutside_6 : decode cX10_isOutside 6 = .ok (.if_icmp .lt 7, 3) := by decide +kernel
theorem dX10_isOutside_9 : decode cX10_isOutside 9 = .ok (.iconst 1, 1) := by decide +kernel
theorem dX10_isOutside_10 : decode cX10_isOutside 10 = .ok (.goto 4, 3) := by decide +kernel
theorem dX10_isOutside_13 : decode cX10_isOutside 13 = .ok (.iconst 0, 1) := by decide +kernel
theorem dX10_isOutside_14 : decode cX10_isOutside 14 = .ok (.ireturn, 1) := by decide +kernel
def mC_isOutside  (v0 : Int32) (v1 : Int32)  : Int32 :=
  if v0 < 0 then
    (1 : Int32)
  else
    (if v0 < v1 then
      (0 : Int32)
    else
      (1 : Int32))
set_option maxHeartbeats 4000000 in
theorem sC_isOutside (d : Nat) (hd : 0 ≤ d) (v0 : Int32) (v1 : Int32) (I : hI) (J : hJ) (B : Bool × Bool) (q : Int32) (h : mC_isOutside v0 v1 = q) : HMet hFT yX10_isOutside cX10_isOutside 2 (some .boolean) kdC d [.int v0, .int v1] (I, J, RM B) (some (.int q)) (I, J, RM B) := by
  refine HMet.of (by decide) (Nat.le_of_ble_eq_true rfl) ?_
  show AW hFT cX10_isOutside 2 (some .boolean) RX10 kdC d [(0, .int v0), (1, .int v1)] 0 [] (I, J, RM B) (some (.int q)) (I, J, RM B)
  unfold mC_isOutside at h
  refine a_iload_n dX10_isOutside_0 rfl rfl ?_
  refine a_if_lt (tgt := 9) dX10_isOutside_1 (by decide) (fun c => ?_) (fun c => ?_)
  · replace h := h_iteT c h
    refine a_iconst dX10_isOutside_9 ic_1 ?_
    refine a_goto (tgt := 14) dX10_isOutside_10 (by decide) ?_
    cases h
    exact a_zret (h_Z1.1) dX10_isOutside_14
  · replace h := h_iteF c h
    refine a_iload_n dX10_isOutside_4 rfl rfl ?_
    refine a_iload_n dX10_isOutside_5 rfl rfl ?_
    refine a_icmp_lt (tgt := 13) dX10_isOutside_6 (by decide) (fun c => ?_) (fun c => ?_)
    · replace h := h_iteT c h
      refine a_iconst dX10_isOutside_13 ic_0 ?_
      cases h
      exact a_zret (h_Z0.1) dX10_isOutside_14
    · replace h := h_iteF c h
      refine a_iconst dX10_isOutside_9 ic_1 ?_
      refine a_goto (tgt := 14) dX10_isOutside_10 (by decide) ?_
      cases h
      exact a_zret (h_Z1.1) dX10_isOutside_14
/-! CoinLoops$Corners.addRow(IIII)V -/
theorem dX1_addRow_0 : decode cX1_addRow 0 = .ok (.aload_n 0, 1) := by decide +kernel
theorem dX1_addRow_1 : decode cX1_addRow 1 = .ok (.getfield 53, 3) := by decide +kernel
theorem dX1_addRow_4 : decode cX1_addRow 4 = .ok (.bipush 92, 2) := by decide +kernel
theorem dX1_addRow_6 : decode cX1_addRow 6 = .ok (.invokestatic 67, 3) := by decide +kernel
theorem dX1_addRow_9 : decode cX1_addRow 9 = .ok (.ifCond .eq 4, 3) := by decide +kernel
theorem dX1_addRow_12 : decode cX1_addRow 12 = .ok (.return_, 1) := by decide +kernel
theorem dX1_addRow_13 : decode cX1_addRow 13 = .ok (.aload_n 0, 1) := by decide +kernel
theorem dX1_addRow_14 : decode cX1_addRow 14 = .ok (.getfield 11, 3) := by decide +kernel
theorem dX1_addRow_17 : decode cX1_addRow 17 = .ok (.iconst 0, 1) := by decide +kernel
theorem dX1_addRow_18 : decode cX1_addRow 18 = .ok (.aaload, 1) := by decide +kernel
theorem dX1_addRow_19 : decode cX1_addRow 19 = .ok (.aload_n 0, 1) := by decide +kernel
theorem dX1_addRow_20 : decode cX1_addRow 20 = .ok (.getfield 53, 3) := by decide +kernel
theorem dX1_addRow_23 : decode cX1_addRow 23 = .ok (.iload_n 1, 1) := by decide +kernel
theorem dX1_addRow_24 : decode cX1_addRow 24 = .ok (.i2l, 1) := by decide +kernel
theorem dX1_addRow_25 : decode cX1_addRow 25 = .ok (.lastore, 1) := by decide +kernel
theorem dX1_addRow_26 : decode cX1_addRow 26 = .ok (.aload_n 0, 1) := by decide +kernel
theorem dX1_addRow_27 : decode cX1_addRow 27 = .ok (.getfield 11, 3) := by decide +kernel
theorem dX1_addRow_30 : decode cX1_addRow 30 = .ok (.iconst 1, 1) := by decide +kernel
theorem dX1_addRow_31 : decode cX1_addRow 31 = .ok (.aaload, 1) := by decide +kernel
theorem dX1_addRow_32 : decode cX1_addRow 32 = .ok (.aload_n 0, 1) := by decide +kernel
theorem dX1_addRow_33 : decode cX1_addRow 33 = .ok (.getfield 53, 3) := by decide +kernel
theorem dX1_addRow_36 : decode cX1_addRow 36 = .ok (.iload_n 2, 1) := by decide +kernel
theorem dX1_addRow_37 : decode cX1_addRow 37 = .ok (.i2l, 1) := by decide +kernel
theorem dX1_addRow_38 : decode cX1_addRow 38 = .ok (.lastore, 1) := by decide +kernel
theorem dX1_addRow_39 : decode cX1_addRow 39 = .ok (.aload_n 0, 1) := by decide +kernel
theorem dX1_addRow_40 : decode cX1_addRow 40 = .ok (.getfield 11, 3) := by decide +kernel
theorem dX1_addRow_43 : decode cX1_addRow 43 = .ok (.iconst 2, 1) := by decide +kernel
theorem dX1_addRow_44 : decode cX1_addRow 44 = .ok (.aaload, 1) := by decide +kernel
theorem dX1_addRow_45 : decode cX1_addRow 45 = .ok (.aload_n 0, 1) := by decide +kernel
theorem dX1_addRow_46 : decode cX1_addRow 46 = .ok (.getfield 53, 3) := by decide +kernel
theorem dX1_addRow_49 : decode cX1_addRow 49 = .ok (.iload_n 3, 1) := by decide +kernel
theorem dX1_addRow_50 : decode cX1_addRow 50 = .ok (.i2l, 1) := by decide +kernel
theorem dX1_addRow_51 : decode cX1_addRow 51 = .ok (.lastore, 1) := by decide +kernel
theorem dX1_addRow_52 : decode cX1_addRow 52 = .ok (.aload_n 0, 1) := by decide +kernel
theorem dX1_addRow_53 : decode cX1_addRow 53 = .ok (.getfield 11, 3) := by decide +kernel
theorem dX1_addRow_56 : decode cX1_addRow 56 = .ok (.iconst 3, 1) := by decide +kernel
theorem dX1_addRow_57 : decode cX1_addRow 57 = .ok (.aaload, 1) := by decide +kernel
theorem dX1_addRow_58 : decode cX1_addRow 58 = .ok (.aload_n 0, 1) := by decide +kernel
theorem dX1_addRow_59 : decode cX1_addRow 59 = .ok (.getfield 53, 3) := by decide +kernel
theorem dX1_addRow_62 : decode cX1_addRow 62 = .ok (.iload 4, 2) := by decide +kernel
theorem dX1_addRow_64 : decode cX1_addRow 64 = .ok (.i2l, 1) := by decide +kernel
theorem dX1_addRow_65 : decode cX1_addRow 65 = .ok (.lastore, 1) := by decide +kernel
theorem dX1_addRow_66 : decode cX1_addRow 66 = .ok (.aload_n 0, 1) := by decide +kernel
theorem dX1_addRow_67 : decode cX1_addRow 67 = .ok (.dup, 1) := by decide +kernel
theorem dX1_addRow_68 : decode cX1_addRow 68 = .ok (.getfield 53, 3) := by decide +kernel
theorem dX1_addRow_71 : decode cX1_addRow 71 = .ok (.iconst 1, 1) := by decide +kernel
theorem dX1_addRow_72 : decode cX1_addRow 72 = .ok (.iadd, 1) := by decide +kernel
theorem dX1_addRow_73 : decode cX1_addRow 73 = .ok (.putfield 53, 3) := by decide +kernel
theorem dX1_addRow_76 : decode cX1_addRow 76 = .ok (.return_, 1) := by decide +kernel
def mCo_addRow  (v1 : Int32) (v2 : Int32) (v3 : Int32) (v4 : Int32) (I : hI) (J : hJ) : Option (hI × hJ) :=
  if (mC_isOutside (I 38 4) (92 : Int32)) = 0 then
    (h_g (h_in (0 : Int32) 4) <|
    h_g (h_in (I 38 4) 92) <|
    h_let (h_u J (40 + (0 : Int32).toNatClampNeg) (I 38 4).toNatClampNeg v1.toInt64) fun J3 =>
    h_g (h_in (1 : Int32) 4) <|
    h_g (h_in (I 38 4) 92) <|
    h_let (h_u J3 (40 + (1 : Int32).toNatClampNeg) (I 38 4).toNatClampNeg v2.toInt64) fun J6 =>
    h_g (h_in (2 : Int32) 4) <|
    h_g (h_in (I 38 4) 92) <|
    h_let (h_u J6 (40 + (2 : Int32).toNatClampNeg) (I 38 4).toNatClampNeg v3.toInt64) fun J9 =>
    h_g (h_in (3 : Int32) 4) <|
    h_g (h_in (I 38 4) 92) <|
    h_let (h_u J9 (40 + (3 : Int32).toNatClampNeg) (I 38 4).toNatClampNeg v4.toInt64) fun J12 =>
    h_let (h_u I 38 4 ((I 38 4) + (1 : Int32))) fun I13 =>
    some (I13, J12))
  else
    some (I, J)
set_option maxHeartbeats 4000000 in
theorem sCo_addRow (d : Nat) (hd : 0 + 1 ≤ d) (v1 : Int32) (v2 : Int32) (v3 : Int32) (v4 : Int32) (I : hI) (J : hJ) (B : Bool × Bool) (q : hI × hJ) (h : mCo_addRow v1 v2 v3 v4 I J = some q) : HMet hFT yX1_addRow cX1_addRow 5 none kdC d [.ref 38, .int v1, .int v2, .int v3, .int v4] (I, J, RM B) none (q.1, q.2, RM B) := by
  obtain ⟨d0, rfl, hd0⟩ := h_mono hd
  refine HMet.of (by decide) (Nat.le_of_ble_eq_true rfl) ?_
  show AW hFT cX1_addRow 5 none RX1 kdC (d0 + 1) [(0, .ref 38), (1, .int v1), (2, .int v2), (3, .int v3), (4, .int v4)] 0 [] (I, J, RM B) none (q.1, q.2, RM B)
  unfold mCo_addRow at h
  refine a_aload_n dX1_addRow_0 rfl rfl ?_
  refine b_getI hK_1 kc_38 (i := 4) rfl fl_1_53 rfl dX1_addRow_1 ?_
  refine a_bipush dX1_addRow_4 bp_92 ?_
  refine a_callSN1 [] yy_X10_isOutside ml_1_67 (sC_isOutside _ (by omega) (I 38 4) (92 : Int32) I J B _ rfl) rfl rfl (Nat.le_of_ble_eq_true rfl) dX1_addRow_6 ?_
  refine a_if_eq (tgt := 13) dX1_addRow_9 (by decide) (fun c => ?_) (fun c => ?_)
  · replace h := h_iteT c h
    refine a_aload_n dX1_addRow_13 rfl rfl ?_
    refine b_getR hK_1 kc_38 (i := 3) rfl fl_1_11 rfl (rm_38_3 B) dX1_addRow_14 ?_
    refine a_iconst dX1_addRow_17 ic_0 ?_
    obtain ⟨g1, h⟩ := h_gS h
    refine b_aaload4 kc_39 (h_inV g1) (rm_JJ_39 B _ (h_in_lt (h_inV g1))) dX1_addRow_18 ?_
    refine a_aload_n dX1_addRow_19 rfl rfl ?_
    refine b_getI hK_1 kc_38 (i := 4) rfl fl_1_53 rfl dX1_addRow_20 ?_
    refine a_iload_n dX1_addRow_23 rfl rfl ?_
    refine a_i2l dX1_addRow_24 ?_
    obtain ⟨g2, h⟩ := h_gS h
    refine b_lastore (k_JJ_39 _ (h_in_lt (h_inV g1))) (h_inV g2) dX1_addRow_25 ?_
    obtain ⟨J3, eJ3, h⟩ := h_letS h
    refine a_memJ eJ3 ?_
    refine a_aload_n dX1_addRow_26 rfl rfl ?_
    refine b_getR hK_1 kc_38 (i := 3) rfl fl_1_11 rfl (rm_38_3 B) dX1_addRow_27 ?_
    refine a_iconst dX1_addRow_30 ic_1 ?_
    obtain ⟨g4, h⟩ := h_gS h
    refine b_aaload4 kc_39 (h_inV g4) (rm_JJ_39 B _ (h_in_lt (h_inV g4))) dX1_addRow_31 ?_
    refine a_aload_n dX1_addRow_32 rfl rfl ?_
    refine b_getI hK_1 kc_38 (i := 4) rfl fl_1_53 rfl dX1_addRow_33 ?_
    refine a_iload_n dX1_addRow_36 rfl rfl ?_
    refine a_i2l dX1_addRow_37 ?_
    obtain ⟨g5, h⟩ := h_gS h
    refine b_lastore (k_JJ_39 _ (h_in_lt (h_inV g4))) (h_inV g5) dX1_addRow_38 ?_
    obtain ⟨J6, eJ6, h⟩ := h_letS h
    refine a_memJ eJ6 ?_
    refine a_aload_n dX1_addRow_39 rfl rfl ?_
    refine b_getR hK_1 kc_38 (i := 3) rfl fl_1_11 rfl (rm_38_3 B) dX1_addRow_40 ?_
    refine a_iconst dX1_addRow_43 ic_2 ?_
    obtain ⟨g7, h⟩ := h_gS h
    refine b_aaload4 kc_39 (h_inV g7) (rm_JJ_39 B _ (h_in_lt (h_inV g7))) dX1_addRow_44 ?_
    refine a_aload_n dX1_addRow_45 rfl rfl ?_
    refine b_getI hK_1 kc_38 (i := 4) rfl fl_1_53 rfl dX1_addRow_46 ?_
    refine a_iload_n dX1_addRow_49 rfl rfl ?_
    refine a_i2l dX1_addRow_50 ?_
    obtain ⟨g8, h⟩ := h_gS h
    refine b_lastore (k_JJ_39 _ (h_in_lt (h_inV g7))) (h_inV g8) dX1_addRow_51 ?_
    obtain ⟨J9, eJ9, h⟩ := h_letS h
    refine a_memJ eJ9 ?_
    refine a_aload_n dX1_addRow_52 rfl rfl ?_
    refine b_getR hK_1 kc_38 (i := 3) rfl fl_1_11 rfl (rm_38_3 B) dX1_addRow_53 ?_
    refine a_iconst dX1_addRow_56 ic_3 ?_
    obtain ⟨g10, h⟩ := h_gS h
    refine b_aaload4 kc_39 (h_inV g10) (rm_JJ_39 B _ (h_in_lt (h_inV g10))) dX1_addRow_57 ?_
    refine a_aload_n dX1_addRow_58 rfl rfl ?_
    refine b_getI hK_1 kc_38 (i := 4) rfl fl_1_53 rfl dX1_addRow_59 ?_
    refine a_iload dX1_addRow_62 rfl ?_
    refine a_i2l dX1_addRow_64 ?_
    obtain ⟨g11, h⟩ := h_gS h
    refine b_lastore (k_JJ_39 _ (h_in_lt (h_inV g10))) (h_inV g11) dX1_addRow_65 ?_
    obtain ⟨J12, eJ12, h⟩ := h_letS h
    refine a_memJ eJ12 ?_
    refine a_aload_n dX1_addRow_66 rfl rfl ?_
    refine a_dup dX1_addRow_67 rfl ?_
    refine b_getI hK_1 kc_38 (i := 4) rfl fl_1_53 rfl dX1_addRow_68 ?_
    refine a_iconst dX1_addRow_71 ic_1 ?_
    refine a_iadd dX1_addRow_72 ?_
    refine b_putI hK_1 kc_38 (i := 4) rfl fl_1_53 rfl rfl (h_NI _) dX1_addRow_73 ?_
    obtain ⟨I13, eI13, h⟩ := h_letS h
    refine a_memI eI13 ?_
    cases h
    exact a_vret dX1_addRow_76
  · replace h := h_iteF c h
    cases h
    exact a_vret dX1_addRow_12
/-! CoinLoops$Rounds.isIn(I)Z -/
theorem dX7_isIn_0 : decode cX7_isIn 0 = .ok (.iload_n 1, 1) := by decide +kernel
theorem dX7_isIn_1 : decode cX7_isIn 1 = .ok (.ifCond .lt 26, 3) := by decide +kernel
theorem dX7_isIn_4 : decode cX7_isIn 4 = .ok (.iload_n 1, 1) := by decide +kernel
theorem dX7_isIn_5 : decode cX7_isIn 5 = .ok (.aload_n 0, 1) := by decide +kernel
theorem dX7_isIn_6 : decode cX7_isIn 6 = .ok (.getfield 44, 3) := by decide +kernel
theorem dX7_isIn_9 : decode cX7_isIn 9 = .ok (.if_icmp .ge 18, 3) := by decide +kernel
theorem dX7_isIn_12 : decode cX7_isIn 12 = .ok (.aload_n 0, 1) := by decide +kernel
theorem dX7_isIn_13 : decode cX7_isIn 13 = .ok (.getfield 47, 3) := by decide +kernel
theorem dX7_isIn_16 : decode cX7_isIn 16 = .ok (.iload_n 1, 1) := by decide +kernel
theorem dX7_isIn_17 : decode cX7_isIn 17 = .ok (.ishr, 1) := by decide +kernel
theorem dX7_isIn_18 : decode cX7_isIn 18 = .ok (.iconst 1, 1) := by decide +kernel
theorem dX7_isIn_19 : decode cX7_isIn 19 = .ok (.iand, 1) := by decide +kernel
theorem dX7_isIn_20 : decode cX7_isIn 20 = .ok (.ifCond .eq 7, 3) := by decide +kernel
theorem dX7_isIn_23 : decode cX7_isIn 23 = .ok (.iconst 1, 1) := by decide +kernel
theorem dX7_isIn_24 : decode cX7_isIn 24 = .ok (.goto 4, 3) := by decide +kernel
theorem dX7_isIn_27 : decode cX7_isIn 27 = .ok (.iconst 0, 1) := by decide +kernel
theorem dX7_isIn_28 : decode cX7_isIn 28 = .ok (.ireturn, 1) := by decide +kernel
def mRo_isIn  (v1 : Int32) (I : hI) : Int32 :=
  if v1 < 0 then
    (0 : Int32)
  else
    (if (I 7 5) ≤ v1 then
      (0 : Int32)
    else
      (if (((I 7 6) >>> (v1 &&& 31)) &&& (1 : Int32)) = 0 then
        (0 : Int32)
      else
        (1 : Int32)))
set_option maxHeartbeats 4000000 in
theorem sRo_isIn (d : Nat) (hd : 0 ≤ d) (v1 : Int32) (I : hI) (J : hJ) (B : Bool × Bool) (q : Int32) (h : mRo_isIn v1 I = q) : HMet hFT yX7_isIn cX7_isIn 2 (some .boolean) kdC d [.ref 7, .int v1] (I, J, RM B) (some (.int q)) (I, J, RM B) := by
  refine HMet.of (by decide) (Nat.le_of_ble_eq_true rfl) ?_
  show AW hFT cX7_isIn 2 (some .boolean) RX7 kdC d [(0, .ref 7), (1, .int v1)] 0 [] (I, J, RM B) (some (.int q)) (I, J, RM B)
  unfold mRo_isIn at h
  refine a_iload_n dX7_isIn_0 rfl rfl ?_
  refine a_if_lt (tgt := 27) dX7_isIn_1 (by decide) (fun c => ?_) (fun c => ?_)
  · replace h := h_iteT c h
    refine a_iconst dX7_isIn_27 ic_0 ?_
    cases h
    exact a_zret (h_Z0.1) dX7_isIn_28
  · replace h := h_iteF c h
    refine a_iload_n dX7_isIn_4 rfl rfl ?_
    refine a_aload_n dX7_isIn_5 rfl rfl ?_
    refine b_getI hK_7 kc_7 (i := 5) rfl fl_7_44 rfl dX7_isIn_6 ?_
    refine a_icmp_ge (tgt := 27) dX7_isIn_9 (by decide) (fun c => ?_) (fun c => ?_)
    · replace h := h_iteT c h
      refine a_iconst dX7_isIn_27 ic_0 ?_
      cases h
      exact a_zret (h_Z0.1) dX7_isIn_28
    · replace h := h_iteF c h
      refine a_aload_n dX7_isIn_12 rfl rfl ?_
      refine b_getI hK_7 kc_7 (i := 6) rfl fl_7_47 rfl dX7_isIn_13 ?_
      refine a_iload_n dX7_isIn_16 rfl rfl ?_
      refine a_ishr dX7_isIn_17 ?_
      refine a_iconst dX7_isIn_18 ic_1 ?_
      refine a_iand dX7_isIn_19 ?_
      refine a_if_eq (tgt := 27) dX7_isIn_20 (by decide) (fun c => ?_) (fun c => ?_)
      · replace h := h_iteT c h
        refine a_iconst dX7_isIn_27 ic_0 ?_
        cases h
        exact a_zret (h_Z0.1) dX7_isIn_28
      · replace h := h_iteF c h
        refine a_iconst dX7_isIn_23 ic_1 ?_
        refine a_goto (tgt := 28) dX7_isIn_24 (by decide) ?_
        cases h
        exact a_zret (h_Z1.1) dX7_isIn_28
/-! CoinLoops$Rounds.xOf(I)I -/
theorem dX7_xOf_0 : decode cX7_xOf 0 = .ok (.aload_n 0, 1) := by decide +kernel
theorem dX7_xOf_1 : decode cX7_xOf 1 = .ok (.getfield 33, 3) := by decide +kernel
theorem dX7_xOf_4 : decode cX7_xOf 4 = .ok (.ifCond .ge 7, 3) := by decide +kernel
theorem dX7_xOf_7 : decode cX7_xOf 7 = .ok (.iconst 0, 1) := by decide +kernel
theorem dX7_xOf_8 : decode cX7_xOf 8 = .ok (.goto 11, 3) := by decide +kernel
theorem dX7_xOf_11 : decode cX7_xOf 11 = .ok (.iload_n 1, 1) := by decide +kernel
theorem dX7_xOf_12 : decode cX7_xOf 12 = .ok (.aload_n 0, 1) := by decide +kernel
theorem dX7_xOf_13 : decode cX7_xOf 13 = .ok (.getfield 33, 3) := by decide +kernel
theorem dX7_xOf_16 : decode cX7_xOf 16 = .ok (.iconst 1, 1) := by decide +kernel
theorem dX7_xOf_17 : decode cX7_xOf 17 = .ok (.iadd, 1) := by decide +kernel
theorem dX7_xOf_18 : decode cX7_xOf 18 = .ok (.irem, 1) := by decide +kernel
theorem dX7_xOf_19 : decode cX7_xOf 19 = .ok (.ireturn, 1) := by decide +kernel
def mRo_xOf  (v1 : Int32) (I : hI) : Option (Int32) :=
  if 0 ≤ (I 7 7) then
    (h_g (h_nz ((I 7 7) + (1 : Int32))) <|
    some (v1 - v1 / ((I 7 7) + (1 : Int32)) * ((I 7 7) + (1 : Int32))))
  else
    some (0 : Int32)
set_option maxHeartbeats 4000000 in
theorem sRo_xOf (d : Nat) (hd : 0 ≤ d) (v1 : Int32) (I : hI) (J : hJ) (B : Bool × Bool) (q : Int32) (h : mRo_xOf v1 I = some q) : HMet hFT yX7_xOf cX7_xOf 2 (some .int) kdC d [.ref 7, .int v1] (I, J, RM B) (some (.int q)) (I, J, RM B) := by
  refine HMet.of (by decide) (Nat.le_of_ble_eq_true rfl) ?_
  show AW hFT cX7_xOf 2 (some .int) RX7 kdC d [(0, .ref 7), (1, .int v1)] 0 [] (I, J, RM B) (some (.int q)) (I, J, RM B)
  unfold mRo_xOf at h
  refine a_aload_n dX7_xOf_0 rfl rfl ?_
  refine b_getI hK_7 kc_7 (i := 7) rfl fl_7_33 rfl dX7_xOf_1 ?_
  refine a_if_ge (tgt := 11) dX7_xOf_4 (by decide) (fun c => ?_) (fun c => ?_)
  · replace h := h_iteT c h
    refine a_iload_n dX7_xOf_11 rfl rfl ?_
    refine a_aload_n dX7_xOf_12 rfl rfl ?_
    refine b_getI hK_7 kc_7 (i := 7) rfl fl_7_33 rfl dX7_xOf_13 ?_
    refine a_iconst dX7_xOf_16 ic_1 ?_
    refine a_iadd dX7_xOf_17 ?_
    obtain ⟨g1, h⟩ := h_gS h
    refine a_irem dX7_xOf_18 (h_nzV g1) ?_
    cases h
    exact a_iret dX7_xOf_19
  · replace h := h_iteF c h
    refine a_iconst dX7_xOf_7 ic_0 ?_
    refine a_goto (tgt := 19) dX7_xOf_8 (by decide) ?_
    cases h
    exact a_iret dX7_xOf_19
/-! CoinLoops$Rounds.yOf(I)I -/
theorem dX7_yOf_0 : decode cX7_yOf 0 = .ok (.aload_n 0, 1) := by decide +kernel
theorem dX7_yOf_1 : decode cX7_yOf 1 = .ok (.getfield 33, 3) := by decide +kernel
theorem dX7_yOf_4 : decode cX7_yOf 4 = .ok (.ifCond .ge 7, 3) := by decide +kernel
theorem dX7_yOf_7 : decode cX7_yOf 7 = .ok (.iconst 0, 1) := by decide +kernel
theorem dX7_yOf_8 : decode cX7_yOf 8 = .ok (.goto 11, 3) := by decide +kernel
theorem dX7_yOf_11 : decode cX7_yOf 11 = .ok (.iload_n 1, 1) := by decide +kernel
theorem dX7_yOf_12 : decode cX7_yOf 12 = .ok (.aload_n 0, 1) := by decide +kernel
theorem dX7_yOf_13 : decode cX7_yOf 13 = .ok (.getfield 33, 3) := by decide +kernel
theorem dX7_yOf_16 : decode cX7_yOf 16 = .ok (.iconst 1, 1) := by decide +kernel
theorem dX7_yOf_17 : decode cX7_yOf 17 = .ok (.iadd, 1) := by decide +kernel
theorem dX7_yOf_18 : decode cX7_yOf 18 = .ok (.idiv, 1) := by decide +kernel
theorem dX7_yOf_19 : decode cX7_yOf 19 = .ok (.ireturn, 1) := by decide +kernel
def mRo_yOf  (v1 : Int32) (I : hI) : Option (Int32) :=
  if 0 ≤ (I 7 7) then
    (h_g (h_nz ((I 7 7) + (1 : Int32))) <|
    some (v1 / ((I 7 7) + (1 : Int32))))
  else
    some (0 : Int32)
set_option maxHeartbeats 4000000 in
theorem sRo_yOf (d : Nat) (hd : 0 ≤ d) (v1 : Int32) (I : hI) (J : hJ) (B : Bool × Bool) (q : Int32) (h : mRo_yOf v1 I = some q) : HMet hFT yX7_yOf cX7_yOf 2 (some .int) kdC d [.ref 7, .int v1] (I, J, RM B) (some (.int q)) (I, J, RM B) := by
  refine HMet.of (by decide) (Nat.le_of_ble_eq_true rfl) ?_
  show AW hFT cX7_yOf 2 (some .int) RX7 kdC d [(0, .ref 7), (1, .int v1)] 0 [] (I, J, RM B) (some (.int q)) (I, J, RM B)
  unfold mRo_yOf at h
  refine a_aload_n dX7_yOf_0 rfl rfl ?_
  refine b_getI hK_7 kc_7 (i := 7) rfl fl_7_33 rfl dX7_yOf_1 ?_
  refine a_if_ge (tgt := 11) dX7_yOf_4 (by decide) (fun c => ?_) (fun c => ?_)
  · replace h := h_iteT c h
    refine a_iload_n dX7_yOf_11 rfl rfl ?_
    refine a_aload_n dX7_yOf_12 rfl rfl ?_
    refine b_getI hK_7 kc_7 (i := 7) rfl fl_7_33 rfl dX7_yOf_13 ?_
    refine a_iconst dX7_yOf_16 ic_1 ?_
    refine a_iadd dX7_yOf_17 ?_
    obtain ⟨g1, h⟩ := h_gS h
    refine a_idiv dX7_yOf_18 (h_nzV g1) ?_
    cases h
    exact a_iret dX7_yOf_19
  · replace h := h_iteF c h
    refine a_iconst dX7_yOf_7 ic_0 ?_
    refine a_goto (tgt := 19) dX7_yOf_8 (by decide) ?_
    cases h
    exact a_iret dX7_yOf_19
/-! CoinLoops$Rounds.isChoice(II)Z -/
theorem dX7_isChoice_0 : decode cX7_isChoice 0 = .ok (.iload_n 1, 1) := by decide +kernel
theorem dX7_isChoice_1 : decode cX7_isChoice 1 = .ok (.ifCond .lt 35, 3) := by decide +kernel
theorem dX7_isChoice_4 : decode cX7_isChoice 4 = .ok (.iload_n 1, 1) := by decide +kernel
theorem dX7_isChoice_5 : decode cX7_isChoice 5 = .ok (.aload_n 0, 1) := by decide +kernel
theorem dX7_isChoice_6 : decode cX7_isChoice 6 = .ok (.getfield 44, 3) := by decide +kernel
theorem dX7_isChoice_9 : decode cX7_isChoice 9 = .ok (.if_icmp .ge 27, 3) := by decide +kernel
theorem dX7_isChoice_12 : decode cX7_isChoice 12 = .ok (.iload_n 1, 1) := by decide +kernel
theorem dX7_isChoice_13 : decode cX7_isChoice 13 = .ok (.bipush 10, 2) := by decide +kernel
theorem dX7_isChoice_15 : decode cX7_isChoice 15 = .ok (.if_icmp .ge 21, 3) := by decide +kernel
theorem dX7_isChoice_18 : decode cX7_isChoice 18 = .ok (.iload_n 2, 1) := by decide +kernel
theorem dX7_isChoice_19 : decode cX7_isChoice 19 = .ok (.ifCond .lt 17, 3) := by decide +kernel
theorem dX7_isChoice_22 : decode cX7_isChoice 22 = .ok (.iload_n 2, 1) := by decide +kernel
theorem dX7_isChoice_23 : decode cX7_isChoice 23 = .ok (.aload_n 0, 1) := by decide +kernel
theorem dX7_isChoice_24 : decode cX7_isChoice 24 = .ok (.getfield 9, 3) := by decide +kernel
theorem dX7_isChoice_27 : decode cX7_isChoice 27 = .ok (.iload_n 1, 1) := by decide +kernel
theorem dX7_isChoice_28 : decode cX7_isChoice 28 = .ok (.iaload, 1) := by decide +kernel
theorem dX7_isChoice_29 : decode cX7_isChoice 29 = .ok (.if_icmp .ge 7, 3) := by decide +kernel
theorem dX7_isChoice_32 : decode cX7_isChoice 32 = .ok (.iconst 1, 1) := by decide +kernel
theorem dX7_isChoice_33 : decode cX7_isChoice 33 = .ok (.goto 4, 3) := by decide +kernel
theorem dX7_isChoice_36 : decode cX7_isChoice 36 = .ok (.iconst 0, 1) := by decide +kernel
theorem dX7_isChoice_37 : decode cX7_isChoice 37 = .ok (.ireturn, 1) := by decide +kernel
def mRo_isChoice  (v1 : Int32) (v2 : Int32) (I : hI) : Option (Int32) :=
  if v1 < 0 then
    some (0 : Int32)
  else
    (if (I 7 5) ≤ v1 then
      some (0 : Int32)
    else
      (if (10 : Int32) ≤ v1 then
        some (0 : Int32)
      else
        (if v2 < 0 then
          some (0 : Int32)
        else
          (h_g (h_in v1 10) <|
          if (I 8 v1.toNatClampNeg) ≤ v2 then
            some (0 : Int32)
          else
            some (1 : Int32)))))
set_option maxHeartbeats 4000000 in
theorem sRo_isChoice (d : Nat) (hd : 0 ≤ d) (v1 : Int32) (v2 : Int32) (I : hI) (J : hJ) (B : Bool × Bool) (q : Int32) (h : mRo_isChoice v1 v2 I = some q) : HMet hFT yX7_isChoice cX7_isChoice 3 (some .boolean) kdC d [.ref 7, .int v1, .int v2] (I, J, RM B) (some (.int q)) (I, J, RM B) := by
  refine HMet.of (by decide) (Nat.le_of_ble_eq_true rfl) ?_
  show AW hFT cX7_isChoice 3 (some .boolean) RX7 kdC d [(0, .ref 7), (1, .int v1), (2, .int v2)] 0 [] (I, J, RM B) (some (.int q)) (I, J, RM B)
  unfold mRo_isChoice at h
  refine a_iload_n dX7_isChoice_0 rfl rfl ?_
  refine a_if_lt (tgt := 36) dX7_isChoice_1 (by decide) (fun c => ?_) (fun c => ?_)
  · replace h := h_iteT c h
    refine a_iconst dX7_isChoice_36 ic_0 ?_
    cases h
    exact a_zret (h_Z0.1) dX7_isChoice_37
  · replace h := h_iteF c h
    refine a_iload_n dX7_isChoice_4 rfl rfl ?_
    refine a_aload_n dX7_isChoice_5 rfl rfl ?_
    refine b_getI hK_7 kc_7 (i := 5) rfl fl_7_44 rfl dX7_isChoice_6 ?_
    refine a_icmp_ge (tgt := 36) dX7_isChoice_9 (by decide) (fun c => ?_) (fun c => ?_)
    · replace h := h_iteT c h
      refine a_iconst dX7_isChoice_36 ic_0 ?_
      cases h
      exact a_zret (h_Z0.1) dX7_isChoice_37
    · replace h := h_iteF c h
      refine a_iload_n dX7_isChoice_12 rfl rfl ?_
      refine a_bipush dX7_isChoice_13 bp_10 ?_
      refine a_icmp_ge (tgt := 36) dX7_isChoice_15 (by decide) (fun c => ?_) (fun c => ?_)
      · replace h := h_iteT c h
        refine a_iconst dX7_isChoice_36 ic_0 ?_
        cases h
        exact a_zret (h_Z0.1) dX7_isChoice_37
      · replace h := h_iteF c h
        refine a_iload_n dX7_isChoice_18 rfl rfl ?_
        refine a_if_lt (tgt := 36) dX7_isChoice_19 (by decide) (fun c => ?_) (fun c => ?_)
        · replace h := h_iteT c h
          refine a_iconst dX7_isChoice_36 ic_0 ?_
          cases h
          exact a_zret (h_Z0.1) dX7_isChoice_37
        · replace h := h_iteF c h
          refine a_iload_n dX7_isChoice_22 rfl rfl ?_
          refine a_aload_n dX7_isChoice_23 rfl rfl ?_
          refine b_getR hK_7 kc_7 (i := 0) rfl fl_7_9 rfl (rm_7_0 B) dX7_isChoice_24 ?_
          refine a_iload_n dX7_isChoice_27 rfl rfl ?_
          obtain ⟨g1, h⟩ := h_gS h
          refine b_iaload kc_8 (h_inV g1) dX7_isChoice_28 ?_
          refine a_icmp_ge (tgt := 36) dX7_isChoice_29 (by decide) (fun c => ?_) (fun c => ?_)
          · replace h := h_iteT c h
            refine a_iconst dX7_isChoice_36 ic_0 ?_
            cases h
            exact a_zret (h_Z0.1) dX7_isChoice_37
          · replace h := h_iteF c h
            refine a_iconst dX7_isChoice_32 ic_1 ?_
            refine a_goto (tgt := 37) dX7_isChoice_33 (by decide) ?_
            cases h
            exact a_zret (h_Z1.1) dX7_isChoice_37
/-! CoinLoops$Rounds.quarters(II)I -/
theorem dX7_quarters_0 : decode cX7_quarters 0 = .ok (.iload_n 1, 1) := by decide +kernel
theorem dX7_quarters_1 : decode cX7_quarters 1 = .ok (.ifCond .lt 21, 3) := by decide +kernel
theorem dX7_quarters_4 : decode cX7_quarters 4 = .ok (.iload_n 1, 1) := by decide +kernel
theorem dX7_quarters_5 : decode cX7_quarters 5 = .ok (.bipush 80, 2) := by decide +kernel
theorem dX7_quarters_7 : decode cX7_quarters 7 = .ok (.if_icmp .ge 15, 3) := by decide +kernel
theorem dX7_quarters_10 : decode cX7_quarters 10 = .ok (.iload_n 2, 1) := by decide +kernel
theorem dX7_quarters_11 : decode cX7_quarters 11 = .ok (.ifCond .lt 11, 3) := by decide +kernel
theorem dX7_quarters_14 : decode cX7_quarters 14 = .ok (.iload_n 2, 1) := by decide +kernel
theorem dX7_quarters_15 : decode cX7_quarters 15 = .ok (.aload_n 0, 1) := by decide +kernel
theorem dX7_quarters_16 : decode cX7_quarters 16 = .ok (.getfield 44, 3) := by decide +kernel
theorem dX7_quarters_19 : decode cX7_quarters 19 = .ok (.if_icmp .lt 5, 3) := by decide +kernel
theorem dX7_quarters_22 : decode cX7_quarters 22 = .ok (.iconst 0, 1) := by decide +kernel
theorem dX7_quarters_23 : decode cX7_quarters 23 = .ok (.ireturn, 1) := by decide +kernel
theorem dX7_quarters_24 : decode cX7_quarters 24 = .ok (.aload_n 0, 1) := by decide +kernel
theorem dX7_quarters_25 : decode cX7_quarters 25 = .ok (.getfield 24, 3) := by decide +kernel
theorem dX7_quarters_28 : decode cX7_quarters 28 = .ok (.iload_n 1, 1) := by decide +kernel
theorem dX7_quarters_29 : decode cX7_quarters 29 = .ok (.bipush 10, 2) := by decide +kernel
theorem dX7_quarters_31 : decode cX7_quarters 31 = .ok (.imul, 1) := by decide +kernel
theorem dX7_quarters_32 : decode cX7_quarters 32 = .ok (.iload_n 2, 1) := by decide +kernel
theorem dX7_quarters_33 : decode cX7_quarters 33 = .ok (.iadd, 1) := by decide +kernel
theorem dX7_quarters_34 : decode cX7_quarters 34 = .ok (.iaload, 1) := by decide +kernel
theorem dX7_quarters_35 : decode cX7_quarters 35 = .ok (.ireturn, 1) := by decide +kernel
def mRo_quarters  (v1 : Int32) (v2 : Int32) (I : hI) : Option (Int32) :=
  if v1 < 0 then
    some (0 : Int32)
  else
    (if (80 : Int32) ≤ v1 then
      some (0 : Int32)
    else
      (if v2 < 0 then
        some (0 : Int32)
      else
        (if v2 < (I 7 5) then
          (h_g (h_in ((v1 * (10 : Int32)) + v2) 800) <|
          some (I 12 ((v1 * (10 : Int32)) + v2).toNatClampNeg))
        else
          some (0 : Int32))))
set_option maxHeartbeats 4000000 in
theorem sRo_quarters (d : Nat) (hd : 0 ≤ d) (v1 : Int32) (v2 : Int32) (I : hI) (J : hJ) (B : Bool × Bool) (q : Int32) (h : mRo_quarters v1 v2 I = some q) : HMet hFT yX7_quarters cX7_quarters 3 (some .int) kdC d [.ref 7, .int v1, .int v2] (I, J, RM B) (some (.int q)) (I, J, RM B) := by
  refine HMet.of (by decide) (Nat.le_of_ble_eq_true rfl) ?_
  show AW hFT cX7_quarters 3 (some .int) RX7 kdC d [(0, .ref 7), (1, .int v1), (2, .int v2)] 0 [] (I, J, RM B) (some (.int q)) (I, J, RM B)
  unfold mRo_quarters at h
  refine a_iload_n dX7_quarters_0 rfl rfl ?_
  refine a_if_lt (tgt := 22) dX7_quarters_1 (by decide) (fun c => ?_) (fun c => ?_)
  · replace h := h_iteT c h
    refine a_iconst dX7_quarters_22 ic_0 ?_
    cases h
    exact a_iret dX7_quarters_23
  · replace h := h_iteF c h
    refine a_iload_n dX7_quarters_4 rfl rfl ?_
    refine a_bipush dX7_quarters_5 bp_80 ?_
    refine a_icmp_ge (tgt := 22) dX7_quarters_7 (by decide) (fun c => ?_) (fun c => ?_)
    · replace h := h_iteT c h
      refine a_iconst dX7_quarters_22 ic_0 ?_
      cases h
      exact a_iret dX7_quarters_23
    · replace h := h_iteF c h
      refine a_iload_n dX7_quarters_10 rfl rfl ?_
      refine a_if_lt (tgt := 22) dX7_quarters_11 (by decide) (fun c => ?_) (fun c => ?_)
      · replace h := h_iteT c h
        refine a_iconst dX7_quarters_22 ic_0 ?_
        cases h
        exact a_iret dX7_quarters_23
      · replace h := h_iteF c h
        refine a_iload_n dX7_quarters_14 rfl rfl ?_
        refine a_aload_n dX7_quarters_15 rfl rfl ?_
        refine b_getI hK_7 kc_7 (i := 5) rfl fl_7_44 rfl dX7_quarters_16 ?_
        refine a_icmp_lt (tgt := 24) dX7_quarters_19 (by decide) (fun c => ?_) (fun c => ?_)
        · replace h := h_iteT c h
          refine a_aload_n dX7_quarters_24 rfl rfl ?_
          refine b_getR hK_7 kc_7 (i := 4) rfl fl_7_24 rfl (rm_7_4 B) dX7_quarters_25 ?_
          refine a_iload_n dX7_quarters_28 rfl rfl ?_
          refine a_bipush dX7_quarters_29 bp_10 ?_
          refine a_imul dX7_quarters_31 ?_
          refine a_iload_n dX7_quarters_32 rfl rfl ?_
          refine a_iadd dX7_quarters_33 ?_
          obtain ⟨g1, h⟩ := h_gS h
          refine b_iaload kc_12 (h_inV g1) dX7_quarters_34 ?_
          cases h
          exact a_iret dX7_quarters_35
        · replace h := h_iteF c h
          refine a_iconst dX7_quarters_22 ic_0 ?_
          cases h
          exact a_iret dX7_quarters_23
/-! CoinLoops$Corners.addChoice(II)V -/
theorem dX1_addChoice_0 : decode cX1_addChoice 0 = .ok (.iload_n 2, 1) := by decide +kernel
theorem dX1_addChoice_1 : decode cX1_addChoice 1 = .ok (.bipush 80, 2) := by decide +kernel
theorem dX1_addChoice_3 : decode cX1_addChoice 3 = .ok (.invokestatic 67, 3) := by decide +kernel
theorem dX1_addChoice_6 : decode cX1_addChoice 6 = .ok (.ifCond .eq 4, 3) := by decide +kernel
theorem dX1_addChoice_9 : decode cX1_addChoice 9 = .ok (.return_, 1) := by decide +kernel
theorem dX1_addChoice_10 : decode cX1_addChoice 10 = .ok (.iconst 4, 1) := by decide +kernel
theorem dX1_addChoice_11 : decode cX1_addChoice 11 = .ok (.aload_n 0, 1) := by decide +kernel
theorem dX1_addChoice_12 : decode cX1_addChoice 12 = .ok (.getfield 35, 3) := by decide +kernel
theorem dX1_addChoice_15 : decode cX1_addChoice 15 = .ok (.iload_n 1, 1) := by decide +kernel
theorem dX1_addChoice_16 : decode cX1_addChoice 16 = .ok (.invokevirtual 99, 3) := by decide +kernel
theorem dX1_addChoice_19 : decode cX1_addChoice 19 = .ok (.imul, 1) := by decide +kernel
theorem dX1_addChoice_20 : decode cX1_addChoice 20 = .ok (.istore_n 3, 1) := by decide +kernel
theorem dX1_addChoice_21 : decode cX1_addChoice 21 = .ok (.iconst 4, 1) := by decide +kernel
theorem dX1_addChoice_22 : decode cX1_addChoice 22 = .ok (.aload_n 0, 1) := by decide +kernel
theorem dX1_addChoice_23 : decode cX1_addChoice 23 = .ok (.getfield 35, 3) := by decide +kernel
theorem dX1_addChoice_26 : decode cX1_addChoice 26 = .ok (.iload_n 1, 1) := by decide +kernel
theorem dX1_addChoice_27 : decode cX1_addChoice 27 = .ok (.invokevirtual 103, 3) := by decide +kernel
theorem dX1_addChoice_30 : decode cX1_addChoice 30 = .ok (.imul, 1) := by decide +kernel
theorem dX1_addChoice_31 : decode cX1_addChoice 31 = .ok (.istore 4, 2) := by decide +kernel
theorem dX1_addChoice_33 : decode cX1_addChoice 33 = .ok (.iconst 4, 1) := by decide +kernel
theorem dX1_addChoice_34 : decode cX1_addChoice 34 = .ok (.istore 5, 2) := by decide +kernel
theorem dX1_addChoice_36 : decode cX1_addChoice 36 = .ok (.iconst 0, 1) := by decide +kernel
theorem dX1_addChoice_37 : decode cX1_addChoice 37 = .ok (.istore 6, 2) := by decide +kernel
theorem dX1_addChoice_39 : decode cX1_addChoice 39 = .ok (.iload 6, 2) := by decide +kernel
theorem dX1_addChoice_41 : decode cX1_addChoice 41 = .ok (.aload_n 0, 1) := by decide +kernel
theorem dX1_addChoice_42 : decode cX1_addChoice 42 = .ok (.getfield 35, 3) := by decide +kernel
theorem dX1_addChoice_45 : decode cX1_addChoice 45 = .ok (.getfield 92, 3) := by decide +kernel
theorem dX1_addChoice_48 : decode cX1_addChoice 48 = .ok (.if_icmp .ge 72, 3) := by decide +kernel
theorem dX1_addChoice_51 : decode cX1_addChoice 51 = .ok (.aload_n 0, 1) := by decide +kernel
theorem dX1_addChoice_52 : decode cX1_addChoice 52 = .ok (.getfield 35, 3) := by decide +kernel
theorem dX1_addChoice_55 : decode cX1_addChoice 55 = .ok (.iload 6, 2) := by decide +kernel
theorem dX1_addChoice_57 : decode cX1_addChoice 57 = .ok (.invokevirtual 95, 3) := by decide +kernel
theorem dX1_addChoice_60 : decode cX1_addChoice 60 = .ok (.ifCond .eq 54, 3) := by decide +kernel
theorem dX1_addChoice_63 : decode cX1_addChoice 63 = .ok (.aload_n 0, 1) := by decide +kernel
theorem dX1_addChoice_64 : decode cX1_addChoice 64 = .ok (.getfield 35, 3) := by decide +kernel
theorem dX1_addChoice_67 : decode cX1_addChoice 67 = .ok (.iload_n 2, 1) := by decide +kernel
theorem dX1_addChoice_68 : decode cX1_addChoice 68 = .ok (.iload 6, 2) := by decide +kernel
theorem dX1_addChoice_70 : decode cX1_addChoice 70 = .ok (.invokevirtual 113, 3) := by decide +kernel
theorem dX1_addChoice_73 : decode cX1_addChoice 73 = .ok (.istore 7, 2) := by decide +kernel
theorem dX1_addChoice_75 : decode cX1_addChoice 75 = .ok (.iload_n 3, 1) := by decide +kernel
theorem dX1_addChoice_76 : decode cX1_addChoice 76 = .ok (.iload 7, 2) := by decide +kernel
theorem dX1_addChoice_78 : decode cX1_addChoice 78 = .ok (.aload_n 0, 1) := by decide +kernel
theorem dX1_addChoice_79 : decode cX1_addChoice 79 = .ok (.getfield 35, 3) := by decide +kernel
theorem dX1_addChoice_82 : decode cX1_addChoice 82 = .ok (.iload 6, 2) := by decide +kernel
theorem dX1_addChoice_84 : decode cX1_addChoice 84 = .ok (.invokevirtual 99, 3) := by decide +kernel
theorem dX1_addChoice_87 : decode cX1_addChoice 87 = .ok (.imul, 1) := by decide +kernel
theorem dX1_addChoice_88 : decode cX1_addChoice 88 = .ok (.isub, 1) := by decide +kernel
theorem dX1_addChoice_89 : decode cX1_addChoice 89 = .ok (.istore_n 3, 1) := by decide +kernel
theorem dX1_addChoice_90 : decode cX1_addChoice 90 = .ok (.iload 4, 2) := by decide +kernel
theorem dX1_addChoice_92 : decode cX1_addChoice 92 = .ok (.iload 7, 2) := by decide +kernel
theorem dX1_addChoice_94 : decode cX1_addChoice 94 = .ok (.aload_n 0, 1) := by decide +kernel
theorem dX1_addChoice_95 : decode cX1_addChoice 95 = .ok (.getfield 35, 3) := by decide +kernel
theorem dX1_addChoice_98 : decode cX1_addChoice 98 = .ok (.iload 6, 2) := by decide +kernel
theorem dX1_addChoice_100 : decode cX1_addChoice 100 = .ok (.invokevirtual 103, 3) := by decide +kernel
theorem dX1_addChoice_103 : decode cX1_addChoice 103 = .ok (.imul, 1) := by decide +kernel
theorem dX1_addChoice_104 : decode cX1_addChoice 104 = .ok (.isub, 1) := by decide +kernel
theorem dX1_addChoice_105 : decode cX1_addChoice 105 = .ok (.istore 4, 2) := by decide +kernel
theorem dX1_addChoice_107 : decode cX1_addChoice 107 = .ok (.iload 5, 2) := by decide +kernel
theorem dX1_addChoice_109 : decode cX1_addChoice 109 = .ok (.iload 7, 2) := by decide +kernel
theorem dX1_addChoice_111 : decode cX1_addChoice 111 = .ok (.isub, 1) := by decide +kernel
theorem dX1_addChoice_112 : decode cX1_addChoice 112 = .ok (.istore 5, 2) := by decide +kernel
theorem dX1_addChoice_114 : decode cX1_addChoice 114 = .ok (.iinc 6 1, 3) := by decide +kernel
theorem dX1_addChoice_117 : decode cX1_addChoice 117 = .ok (.goto (-78), 3) := by decide +kernel
theorem dX1_addChoice_120 : decode cX1_addChoice 120 = .ok (.aload_n 0, 1) := by decide +kernel
theorem dX1_addChoice_121 : decode cX1_addChoice 121 = .ok (.iload_n 3, 1) := by decide +kernel
theorem dX1_addChoice_122 : decode cX1_addChoice 122 = .ok (.iload 4, 2) := by decide +kernel
theorem dX1_addChoice_124 : decode cX1_addChoice 124 = .ok (.iload 5, 2) := by decide +kernel
theorem dX1_addChoice_126 : decode cX1_addChoice 126 = .ok (.aload_n 0, 1) := by decide +kernel
theorem dX1_addChoice_127 : decode cX1_addChoice 127 = .ok (.getfield 35, 3) := by decide +kernel
theorem dX1_addChoice_130 : decode cX1_addChoice 130 = .ok (.getfield 117, 3) := by decide +kernel
theorem dX1_addChoice_133 : decode cX1_addChoice 133 = .ok (.iload_n 2, 1) := by decide +kernel
theorem dX1_addChoice_134 : decode cX1_addChoice 134 = .ok (.iaload, 1) := by decide +kernel
theorem dX1_addChoice_135 : decode cX1_addChoice 135 = .ok (.invokevirtual 85, 3) := by decide +kernel
theorem dX1_addChoice_138 : decode cX1_addChoice 138 = .ok (.return_, 1) := by decide +kernel
def mCo_addChoice_B39 (k39 : Int32 → Int32 → Int32 → Int32 → Int32 → hI → hJ → Option (hI × hJ)) (v2 : Int32) (v3 : Int32) (v4 : Int32) (v5 : Int32) (v6 : Int32) (I : hI) (J : hJ) : Option (hI × hJ) :=
  if (I 7 5) ≤ v6 then
    (h_g (h_in v2 80) <|
    (mCo_addRow v3 v4 v5 (I 10 v2.toNatClampNeg) I J).bind fun q2 =>
    some (q2.1, q2.2))
  else
    (if (mRo_isIn v6 I) = 0 then
      k39 v2 v3 v4 v5 (v6 + (1 : Int32)) I J
    else
      ((mRo_quarters v2 v6 I).bind fun q1 =>
      (mRo_xOf v6 I).bind fun q2 =>
      h_let (v3 - (q1 * q2)) fun v3x2 =>
      (mRo_yOf v6 I).bind fun q4 =>
      h_let (v4 - (q1 * q4)) fun v4x4 =>
      h_let (v5 - q1) fun v5x5 =>
      k39 v2 v3x2 v4x4 v5x5 (v6 + (1 : Int32)) I J))
set_option maxHeartbeats 4000000 in
theorem sCo_addChoice_B39 (d : Nat) (hd : 1 + 1 ≤ d) (k39 : Int32 → Int32 → Int32 → Int32 → Int32 → hI → hJ → Option (hI × hJ)) (hk39 : ∀ (v2 : Int32) (v3 : Int32) (v4 : Int32) (v5 : Int32) (v6 : Int32) (I : hI) (J : hJ) (B : Bool × Bool) (q : hI × hJ), k39 v2 v3 v4 v5 v6 I J = some q → AW hFT cX1_addChoice 8 none RX1 kdC d [(0, .ref 38), (2, .int v2), (3, .int v3), (4, .int v4), (5, .int v5), (6, .int v6)] 39 [] (I, J, RM B) none (q.1, q.2, RM B)) (v2 : Int32) (v3 : Int32) (v4 : Int32) (v5 : Int32) (v6 : Int32) (I : hI) (J : hJ) (B : Bool × Bool) (q : hI × hJ) (h : mCo_addChoice_B39 k39 v2 v3 v4 v5 v6 I J = some q) : AW hFT cX1_addChoice 8 none RX1 kdC d [(0, .ref 38), (2, .int v2), (3, .int v3), (4, .int v4), (5, .int v5), (6, .int v6)] 39 [] (I, J, RM B) none (q.1, q.2, RM B) := by
  obtain ⟨d0, rfl, hd0⟩ := h_mono hd
  unfold mCo_addChoice_B39 at h
  refine a_iload dX1_addChoice_39 rfl ?_
  refine a_aload_n dX1_addChoice_41 rfl rfl ?_
  refine b_getR hK_1 kc_38 (i := 0) rfl fl_1_35 rfl (rm_38_0 B) dX1_addChoice_42 ?_
  refine b_getI hK_7 kc_7 (i := 5) rfl fl_1_92 rfl dX1_addChoice_45 ?_
  refine a_icmp_ge (tgt := 120) dX1_addChoice_48 (by decide) (fun c => ?_) (fun c => ?_)
  · replace h := h_iteT c h
    refine a_aload_n dX1_addChoice_120 rfl rfl ?_
    refine a_iload_n dX1_addChoice_121 rfl rfl ?_
    refine a_iload dX1_addChoice_122 rfl ?_
    refine a_iload dX1_addChoice_124 rfl ?_
    refine a_aload_n dX1_addChoice_126 rfl rfl ?_
    refine b_getR hK_1 kc_38 (i := 0) rfl fl_1_35 rfl (rm_38_0 B) dX1_addChoice_127 ?_
    refine b_getR hK_7 kc_7 (i := 2) rfl fl_1_117 rfl (rm_7_2 B) dX1_addChoice_130 ?_
    refine a_iload_n dX1_addChoice_133 rfl rfl ?_
    obtain ⟨g1, h⟩ := h_gS h
    refine b_iaload kc_10 (h_inV g1) dX1_addChoice_134 ?_
    obtain ⟨q2, cq2, h⟩ := h_bindS h
    refine a_callV0 [] yy_X1_addRow ml_1_85 kc_38 rfl (sCo_addRow _ (by omega) v3 v4 v5 (I 10 v2.toNatClampNeg) I J B q2 cq2) rfl rfl (Nat.le_of_ble_eq_true rfl) dX1_addChoice_135 ?_
    cases h
    exact a_vret dX1_addChoice_138
  · replace h := h_iteF c h
    refine a_aload_n dX1_addChoice_51 rfl rfl ?_
    refine b_getR hK_1 kc_38 (i := 0) rfl fl_1_35 rfl (rm_38_0 B) dX1_addChoice_52 ?_
    refine a_iload dX1_addChoice_55 rfl ?_
    refine a_callV1 [] yy_X7_isIn ml_1_95 kc_7 rfl (sRo_isIn _ (by omega) v6 I J B _ rfl) rfl rfl (Nat.le_of_ble_eq_true rfl) dX1_addChoice_57 ?_
    refine a_if_eq (tgt := 114) dX1_addChoice_60 (by decide) (fun c => ?_) (fun c => ?_)
    · replace h := h_iteT c h
      refine b_iinc (lv' := [(6, .int (v6 + (1 : Int32))), (0, .ref 38), (2, .int v2), (3, .int v3), (4, .int v4), (5, .int v5)]) dX1_addChoice_114 rfl ic_1 (by decide) rfl ?_
      refine a_goto (tgt := 39) dX1_addChoice_117 (by decide) ?_
      refine a_sub (lv' := [(0, .ref 38), (2, .int v2), (3, .int v3), (4, .int v4), (5, .int v5), (6, .int (v6 + (1 : Int32)))]) [1, 2, 3, 4, 5, 0] rfl ?_
      exact hk39 v2 v3 v4 v5 (v6 + (1 : Int32)) I J B _ h
    · replace h := h_iteF c h
      refine a_aload_n dX1_addChoice_63 rfl rfl ?_
      refine b_getR hK_1 kc_38 (i := 0) rfl fl_1_35 rfl (rm_38_0 B) dX1_addChoice_64 ?_
      refine a_iload_n dX1_addChoice_67 rfl rfl ?_
      refine a_iload dX1_addChoice_68 rfl ?_
      obtain ⟨q1, cq1, h⟩ := h_bindS h
      refine a_callV1 [] yy_X7_quarters ml_1_113 kc_7 rfl (sRo_quarters _ (by omega) v2 v6 I J B q1 cq1) rfl rfl (Nat.le_of_ble_eq_true rfl) dX1_addChoice_70 ?_
      refine a_istore (lv' := [(7, .int q1), (0, .ref 38), (2, .int v2), (3, .int v3), (4, .int v4), (5, .int v5), (6, .int v6)]) dX1_addChoice_73 (by decide) rfl ?_
      refine a_iload_n dX1_addChoice_75 rfl rfl ?_
      refine a_iload dX1_addChoice_76 rfl ?_
      refine a_aload_n dX1_addChoice_78 rfl rfl ?_
      refine b_getR hK_1 kc_38 (i := 0) rfl fl_1_35 rfl (rm_38_0 B) dX1_addChoice_79 ?_
      refine a_iload dX1_addChoice_82 rfl ?_
      obtain ⟨q2, cq2, h⟩ := h_bindS h
      refine a_callV1 [.int q1, .int v3] yy_X7_xOf ml_1_99 kc_7 rfl (sRo_xOf _ (by omega) v6 I J B q2 cq2) rfl rfl (Nat.le_of_ble_eq_true rfl) dX1_addChoice_84 ?_
      refine a_imul dX1_addChoice_87 ?_
      refine a_isub dX1_addChoice_88 ?_
      obtain ⟨v3x2, ev3x2, h⟩ := h_letS h
      refine a_topI ev3x2 ?_
      refine a_istore_n (lv' := [(3, .int v3x2), (7, .int q1), (0, .ref 38), (2, .int v2), (4, .int v4), (5, .int v5), (6, .int v6)]) dX1_addChoice_89 rfl (by decide) rfl ?_
      refine a_iload dX1_addChoice_90 rfl ?_
      refine a_iload dX1_addChoice_92 rfl ?_
      refine a_aload_n dX1_addChoice_94 rfl rfl ?_
      refine b_getR hK_1 kc_38 (i := 0) rfl fl_1_35 rfl (rm_38_0 B) dX1_addChoice_95 ?_
      refine a_iload dX1_addChoice_98 rfl ?_
      obtain ⟨q4, cq4, h⟩ := h_bindS h
      refine a_callV1 [.int q1, .int v4] yy_X7_yOf ml_1_103 kc_7 rfl (sRo_yOf _ (by omega) v6 I J B q4 cq4) rfl rfl (Nat.le_of_ble_eq_true rfl) dX1_addChoice_100 ?_
      refine a_imul dX1_addChoice_103 ?_
      refine a_isub dX1_addChoice_104 ?_
      obtain ⟨v4x4, ev4x4, h⟩ := h_letS h
      refine a_topI ev4x4 ?_
      refine a_istore (lv' := [(4, .int v4x4), (3, .int v3x2), (7, .int q1), (0, .ref 38), (2, .int v2), (5, .int v5), (6, .int v6)]) dX1_addChoice_105 (by decide) rfl ?_
      refine a_iload dX1_addChoice_107 rfl ?_
      refine a_iload dX1_addChoice_109 rfl ?_
      refine a_isub dX1_addChoice_111 ?_
      obtain ⟨v5x5, ev5x5, h⟩ := h_letS h
      refine a_topI ev5x5 ?_
      refine a_istore (lv' := [(5, .int v5x5), (4, .int v4x4), (3, .int v3x2), (7, .int q1), (0, .ref 38), (2, .int v2), (6, .int v6)]) dX1_addChoice_112 (by decide) rfl ?_
      refine b_iinc (lv' := [(6, .int (v6 + (1 : Int32))), (5, .int v5x5), (4, .int v4x4), (3, .int v3x2), (7, .int q1), (0, .ref 38), (2, .int v2)]) dX1_addChoice_114 rfl ic_1 (by decide) rfl ?_
      refine a_goto (tgt := 39) dX1_addChoice_117 (by decide) ?_
      refine a_sub (lv' := [(0, .ref 38), (2, .int v2), (3, .int v3x2), (4, .int v4x4), (5, .int v5x5), (6, .int (v6 + (1 : Int32)))]) [5, 6, 3, 2, 1, 0] rfl ?_
      exact hk39 v2 v3x2 v4x4 v5x5 (v6 + (1 : Int32)) I J B _ h
def mCo_addChoice_L39  : Nat → Int32 → Int32 → Int32 → Int32 → Int32 → hI → hJ → Option (hI × hJ)
  | 0 => fun _ _ _ _ _ _ _ => none
  | n + 1 => mCo_addChoice_B39 (mCo_addChoice_L39 n)
theorem sCo_addChoice_L39 (d : Nat) (hd : 1 + 1 ≤ d) : ∀ (n : Nat) (v2 : Int32) (v3 : Int32) (v4 : Int32) (v5 : Int32) (v6 : Int32) (I : hI) (J : hJ) (B : Bool × Bool) (q : hI × hJ) (h : mCo_addChoice_L39 n v2 v3 v4 v5 v6 I J = some q), AW hFT cX1_addChoice 8 none RX1 kdC d [(0, .ref 38), (2, .int v2), (3, .int v3), (4, .int v4), (5, .int v5), (6, .int v6)] 39 [] (I, J, RM B) none (q.1, q.2, RM B)
  | 0, _, _, _, _, _, _, _, _, q, h => by cases h
  | n + 1, v2, v3, v4, v5, v6, I, J, B, q, h => sCo_addChoice_B39 d hd (mCo_addChoice_L39 n) (sCo_addChoice_L39 d hd n) v2 v3 v4 v5 v6 I J B q h
def mCo_addChoice  (v1 : Int32) (v2 : Int32) (I : hI) (J : hJ) : Option (hI × hJ) :=
  if (mC_isOutside v2 (80 : Int32)) = 0 then
    ((mRo_xOf v1 I).bind fun q1 =>
    h_let ((4 : Int32) * q1) fun v3x1 =>
    (mRo_yOf v1 I).bind fun q3 =>
    h_let ((4 : Int32) * q3) fun v4x3 =>
    mCo_addChoice_L39 hF v2 v3x1 v4x3 (4 : Int32) (0 : Int32) I J)
  else
    some (I, J)
set_option maxHeartbeats 4000000 in
theorem sCo_addChoice (d : Nat) (hd : 1 + 1 ≤ d) (v1 : Int32) (v2 : Int32) (I : hI) (J : hJ) (B : Bool × Bool) (q : hI × hJ) (h : mCo_addChoice v1 v2 I J = some q) : HMet hFT yX1_addChoice cX1_addChoice 8 none kdC d [.ref 38, .int v1, .int v2] (I, J, RM B) none (q.1, q.2, RM B) := by
  obtain ⟨d0, rfl, hd0⟩ := h_mono hd
  refine HMet.of (by decide) (Nat.le_of_ble_eq_true rfl) ?_
  show AW hFT cX1_addChoice 8 none RX1 kdC (d0 + 1) [(0, .ref 38), (1, .int v1), (2, .int v2)] 0 [] (I, J, RM B) none (q.1, q.2, RM B)
  unfold mCo_addChoice at h
  refine a_iload_n dX1_addChoice_0 rfl rfl ?_
  refine a_bipush dX1_addChoice_1 bp_80 ?_
  refine a_callSN1 [] yy_X10_isOutside ml_1_67 (sC_isOutside _ (by omega) v2 (80 : Int32) I J B _ rfl) rfl rfl (Nat.le_of_ble_eq_true rfl) dX1_addChoice_3 ?_
  refine a_if_eq (tgt := 10) dX1_addChoice_6 (by decide) (fun c => ?_) (fun c => ?_)
  · replace h := h_iteT c h
    refine a_iconst dX1_addChoice_10 ic_4 ?_
    refine a_aload_n dX1_addChoice_11 rfl rfl ?_
    refine b_getR hK_1 kc_38 (i := 0) rfl fl_1_35 rfl (rm_38_0 B) dX1_addChoice_12 ?_
    refine a_iload_n dX1_addChoice_15 rfl rfl ?_
    obtain ⟨q1, cq1, h⟩ := h_bindS h
    refine a_callV1 [.int (4 : Int32)] yy_X7_xOf ml_1_99 kc_7 rfl (sRo_xOf _ (by omega) v1 I J B q1 cq1) rfl rfl (Nat.le_of_ble_eq_true rfl) dX1_addChoice_16 ?_
    refine a_imul dX1_addChoice_19 ?_
    obtain ⟨v3x1, ev3x1, h⟩ := h_letS h
    refine a_topI ev3x1 ?_
    refine a_istore_n (lv' := [(3, .int v3x1), (0, .ref 38), (1, .int v1), (2, .int v2)]) dX1_addChoice_20 rfl (by decide) rfl ?_
    refine a_iconst dX1_addChoice_21 ic_4 ?_
    refine a_aload_n dX1_addChoice_22 rfl rfl ?_
    refine b_getR hK_1 kc_38 (i := 0) rfl fl_1_35 rfl (rm_38_0 B) dX1_addChoice_23 ?_
    refine a_iload_n dX1_addChoice_26 rfl rfl ?_
    obtain ⟨q3, cq3, h⟩ := h_bindS h
    refine a_callV1 [.int (4 : Int32)] yy_X7_yOf ml_1_103 kc_7 rfl (sRo_yOf _ (by omega) v1 I J B q3 cq3) rfl rfl (Nat.le_of_ble_eq_true rfl) dX1_addChoice_27 ?_
    refine a_imul dX1_addChoice_30 ?_
    obtain ⟨v4x3, ev4x3, h⟩ := h_letS h
    refine a_topI ev4x3 ?_
    refine a_istore (lv' := [(4, .int v4x3), (3, .int v3x1), (0, .ref 38), (1, .int v1), (2, .int v2)]) dX1_addChoice_31 (by decide) rfl ?_
    refine a_iconst dX1_addChoice_33 ic_4 ?_
    refine a_istore (lv' := [(5, .int (4 : Int32)), (4, .int v4x3), (3, .int v3x1), (0, .ref 38), (1, .int v1), (2, .int v2)]) dX1_addChoice_34 (by decide) rfl ?_
    refine a_iconst dX1_addChoice_36 ic_0 ?_
    refine a_istore (lv' := [(6, .int (0 : Int32)), (5, .int (4 : Int32)), (4, .int v4x3), (3, .int v3x1), (0, .ref 38), (1, .int v1), (2, .int v2)]) dX1_addChoice_37 (by decide) rfl ?_
    refine a_sub (lv' := [(0, .ref 38), (2, .int v2), (3, .int v3x1), (4, .int v4x3), (5, .int (4 : Int32)), (6, .int (0 : Int32))]) [4, 6, 3, 2, 1, 0] rfl ?_
    exact sCo_addChoice_L39 (d0 + 1) (by omega) hF v2 v3x1 v4x3 (4 : Int32) (0 : Int32) I J B _ h
  · replace h := h_iteF c h
    cases h
    exact a_vret dX1_addChoice_9
/-! CoinLoops$Corners.makeConditions()V -/
theorem dX1_makeConditions_0 : decode cX1_makeConditions 0 = .ok (.aload_n 0, 1) := by decide +kernel
theorem dX1_makeConditions_1 : decode cX1_makeConditions 1 = .ok (.iconst 0, 1) := by decide +kernel
theorem dX1_makeConditions_2 : decode cX1_makeConditions 2 = .ok (.putfield 53, 3) := by decide +kernel
theorem dX1_makeConditions_5 : decode cX1_makeConditions 5 = .ok (.aload_n 0, 1) := by decide +kernel
theorem dX1_makeConditions_6 : decode cX1_makeConditions 6 = .ok (.getfield 35, 3) := by decide +kernel
theorem dX1_makeConditions_9 : decode cX1_makeConditions 9 = .ok (.getfield 80, 3) := by decide +kernel
theorem dX1_makeConditions_12 : decode cX1_makeConditions 12 = .ok (.ifCond .ne 11, 3) := by decide +kernel
theorem dX1_makeConditions_15 : decode cX1_makeConditions 15 = .ok (.aload_n 0, 1) := by decide +kernel
theorem dX1_makeConditions_16 : decode cX1_makeConditions 16 = .ok (.iconst 1, 1) := by decide +kernel
theorem dX1_makeConditions_17 : decode cX1_makeConditions 17 = .ok (.iconst 0, 1) := by decide +kernel
theorem dX1_makeConditions_18 : decode cX1_makeConditions 18 = .ok (.iconst 0, 1) := by decide +kernel
theorem dX1_makeConditions_19 : decode cX1_makeConditions 19 = .ok (.iconst 0, 1) := by decide +kernel
theorem dX1_makeConditions_20 : decode cX1_makeConditions 20 = .ok (.invokevirtual 85, 3) := by decide +kernel
theorem dX1_makeConditions_23 : decode cX1_makeConditions 23 = .ok (.aload_n 0, 1) := by decide +kernel
theorem dX1_makeConditions_24 : decode cX1_makeConditions 24 = .ok (.getfield 35, 3) := by decide +kernel
theorem dX1_makeConditions_27 : decode cX1_makeConditions 27 = .ok (.getfield 89, 3) := by decide +kernel
theorem dX1_makeConditions_30 : decode cX1_makeConditions 30 = .ok (.ifCond .ne 11, 3) := by decide +kernel
theorem dX1_makeConditions_33 : decode cX1_makeConditions 33 = .ok (.aload_n 0, 1) := by decide +kernel
theorem dX1_makeConditions_34 : decode cX1_makeConditions 34 = .ok (.iconst 0, 1) := by decide +kernel
theorem dX1_makeConditions_35 : decode cX1_makeConditions 35 = .ok (.iconst 1, 1) := by decide +kernel
theorem dX1_makeConditions_36 : decode cX1_makeConditions 36 = .ok (.iconst 0, 1) := by decide +kernel
theorem dX1_makeConditions_37 : decode cX1_makeConditions 37 = .ok (.iconst 0, 1) := by decide +kernel
theorem dX1_makeConditions_38 : decode cX1_makeConditions 38 = .ok (.invokevirtual 85, 3) := by decide +kernel
theorem dX1_makeConditions_41 : decode cX1_makeConditions 41 = .ok (.aload_n 0, 1) := by decide +kernel
theorem dX1_makeConditions_42 : decode cX1_makeConditions 42 = .ok (.aload_n 0, 1) := by decide +kernel
theorem dX1_makeConditions_43 : decode cX1_makeConditions 43 = .ok (.getfield 53, 3) := by decide +kernel
theorem dX1_makeConditions_46 : decode cX1_makeConditions 46 = .ok (.putfield 49, 3) := by decide +kernel
theorem dX1_makeConditions_49 : decode cX1_makeConditions 49 = .ok (.iconst 0, 1) := by decide +kernel
theorem dX1_makeConditions_50 : decode cX1_makeConditions 50 = .ok (.istore_n 1, 1) := by decide +kernel
theorem dX1_makeConditions_51 : decode cX1_makeConditions 51 = .ok (.iload_n 1, 1) := by decide +kernel
theorem dX1_makeConditions_52 : decode cX1_makeConditions 52 = .ok (.aload_n 0, 1) := by decide +kernel
theorem dX1_makeConditions_53 : decode cX1_makeConditions 53 = .ok (.getfield 35, 3) := by decide +kernel
theorem dX1_makeConditions_56 : decode cX1_makeConditions 56 = .ok (.getfield 92, 3) := by decide +kernel
theorem dX1_makeConditions_59 : decode cX1_makeConditions 59 = .ok (.if_icmp .ge 79, 3) := by decide +kernel
theorem dX1_makeConditions_62 : decode cX1_makeConditions 62 = .ok (.aload_n 0, 1) := by decide +kernel
theorem dX1_makeConditions_63 : decode cX1_makeConditions 63 = .ok (.getfield 35, 3) := by decide +kernel
theorem dX1_makeConditions_66 : decode cX1_makeConditions 66 = .ok (.iload_n 1, 1) := by decide +kernel
theorem dX1_makeConditions_67 : decode cX1_makeConditions 67 = .ok (.invokevirtual 95, 3) := by decide +kernel
theorem dX1_makeConditions_70 : decode cX1_makeConditions 70 = .ok (.ifCond .eq 25, 3) := by decide +kernel
theorem dX1_makeConditions_73 : decode cX1_makeConditions 73 = .ok (.aload_n 0, 1) := by decide +kernel
theorem dX1_makeConditions_74 : decode cX1_makeConditions 74 = .ok (.aload_n 0, 1) := by decide +kernel
theorem dX1_makeConditions_75 : decode cX1_makeConditions 75 = .ok (.getfield 35, 3) := by decide +kernel
theorem dX1_makeConditions_78 : decode cX1_makeConditions 78 = .ok (.iload_n 1, 1) := by decide +kernel
theorem dX1_makeConditions_79 : decode cX1_makeConditions 79 = .ok (.invokevirtual 99, 3) := by decide +kernel
theorem dX1_makeConditions_82 : decode cX1_makeConditions 82 = .ok (.aload_n 0, 1) := by decide +kernel
theorem dX1_makeConditions_83 : decode cX1_makeConditions 83 = .ok (.getfield 35, 3) := by decide +kernel
theorem dX1_makeConditions_86 : decode cX1_makeConditions 86 = .ok (.iload_n 1, 1) := by decide +kernel
theorem dX1_makeConditions_87 : decode cX1_makeConditions 87 = .ok (.invokevirtual 103, 3) := by decide +kernel
theorem dX1_makeConditions_90 : decode cX1_makeConditions 90 = .ok (.iconst 1, 1) := by decide +kernel
theorem dX1_makeConditions_91 : decode cX1_makeConditions 91 = .ok (.iconst 0, 1) := by decide +kernel
theorem dX1_makeConditions_92 : decode cX1_makeConditions 92 = .ok (.invokevirtual 85, 3) := by decide +kernel
theorem dX1_makeConditions_95 : decode cX1_makeConditions 95 = .ok (.iconst 0, 1) := by decide +kernel
theorem dX1_makeConditions_96 : decode cX1_makeConditions 96 = .ok (.istore_n 2, 1) := by decide +kernel
theorem dX1_makeConditions_97 : decode cX1_makeConditions 97 = .ok (.aload_n 0, 1) := by decide +kernel
theorem dX1_makeConditions_98 : decode cX1_makeConditions 98 = .ok (.getfield 35, 3) := by decide +kernel
theorem dX1_makeConditions_101 : decode cX1_makeConditions 101 = .ok (.iload_n 1, 1) := by decide +kernel
theorem dX1_makeConditions_102 : decode cX1_makeConditions 102 = .ok (.iload_n 2, 1) := by decide +kernel
theorem dX1_makeConditions_103 : decode cX1_makeConditions 103 = .ok (.invokevirtual 106, 3) := by decide +kernel
theorem dX1_makeConditions_106 : decode cX1_makeConditions 106 = .ok (.ifCond .eq 26, 3) := by decide +kernel
theorem dX1_makeConditions_109 : decode cX1_makeConditions 109 = .ok (.iload_n 2, 1) := by decide +kernel
theorem dX1_makeConditions_110 : decode cX1_makeConditions 110 = .ok (.bipush 8, 2) := by decide +kernel
theorem dX1_makeConditions_112 : decode cX1_makeConditions 112 = .ok (.if_icmp .ge 20, 3) := by decide +kernel
theorem dX1_makeConditions_115 : decode cX1_makeConditions 115 = .ok (.aload_n 0, 1) := by decide +kernel
theorem dX1_makeConditions_116 : decode cX1_makeConditions 116 = .ok (.iload_n 1, 1) := by decide +kernel
theorem dX1_makeConditions_117 : decode cX1_makeConditions 117 = .ok (.iload_n 1, 1) := by decide +kernel
theorem dX1_makeConditions_118 : decode cX1_makeConditions 118 = .ok (.bipush 8, 2) := by decide +kernel
theorem dX1_makeConditions_120 : decode cX1_makeConditions 120 = .ok (.imul, 1) := by decide +kernel
theorem dX1_makeConditions_121 : decode cX1_makeConditions 121 = .ok (.iload_n 2, 1) := by decide +kernel
theorem dX1_makeConditions_122 : decode cX1_makeConditions 122 = .ok (.iadd, 1) := by decide +kernel
theorem dX1_makeConditions_123 : decode cX1_makeConditions 123 = .ok (.invokevirtual 109, 3) := by decide +kernel
theorem dX1_makeConditions_126 : decode cX1_makeConditions 126 = .ok (.iinc 2 1, 3) := by decide +kernel
theorem dX1_makeConditions_129 : decode cX1_makeConditions 129 = .ok (.goto (-32), 3) := by decide +kernel
theorem dX1_makeConditions_132 : decode cX1_makeConditions 132 = .ok (.iinc 1 1, 3) := by decide +kernel
theorem dX1_makeConditions_135 : decode cX1_makeConditions 135 = .ok (.goto (-84), 3) := by decide +kernel
theorem dX1_makeConditions_138 : decode cX1_makeConditions 138 = .ok (.return_, 1) := by decide +kernel
def mCo_makeConditions_B97 (k51 : Int32 → hI → hJ → Option (hI × hJ)) (k97 : Int32 → Int32 → hI → hJ → Option (hI × hJ)) (v1 : Int32) (v2 : Int32) (I : hI) (J : hJ) : Option (hI × hJ) :=
  (mRo_isChoice v1 v2 I).bind fun q1 =>
  if q1 = 0 then
    k51 (v1 + (1 : Int32)) I J
  else
    (if (8 : Int32) ≤ v2 then
      k51 (v1 + (1 : Int32)) I J
    else
      ((mCo_addChoice v1 ((v1 * (8 : Int32)) + v2) I J).bind fun q2 =>
      k97 v1 (v2 + (1 : Int32)) q2.1 q2.2))
set_option maxHeartbeats 4000000 in
theorem sCo_makeConditions_B97 (d : Nat) (hd : 2 + 1 ≤ d) (k51 : Int32 → hI → hJ → Option (hI × hJ)) (hk51 : ∀ (v1 : Int32) (I : hI) (J : hJ) (B : Bool × Bool) (q : hI × hJ), k51 v1 I J = some q → AW hFT cX1_makeConditions 3 none RX1 kdC d [(0, .ref 38), (1, .int v1)] 51 [] (I, J, RM B) none (q.1, q.2, RM B)) (k97 : Int32 → Int32 → hI → hJ → Option (hI × hJ)) (hk97 : ∀ (v1 : Int32) (v2 : Int32) (I : hI) (J : hJ) (B : Bool × Bool) (q : hI × hJ), k97 v1 v2 I J = some q → AW hFT cX1_makeConditions 3 none RX1 kdC d [(0, .ref 38), (1, .int v1), (2, .int v2)] 97 [] (I, J, RM B) none (q.1, q.2, RM B)) (v1 : Int32) (v2 : Int32) (I : hI) (J : hJ) (B : Bool × Bool) (q : hI × hJ) (h : mCo_makeConditions_B97 k51 k97 v1 v2 I J = some q) : AW hFT cX1_makeConditions 3 none RX1 kdC d [(0, .ref 38), (1, .int v1), (2, .int v2)] 97 [] (I, J, RM B) none (q.1, q.2, RM B) := by
  obtain ⟨d0, rfl, hd0⟩ := h_mono hd
  unfold mCo_makeConditions_B97 at h
  refine a_aload_n dX1_makeConditions_97 rfl rfl ?_
  refine b_getR hK_1 kc_38 (i := 0) rfl fl_1_35 rfl (rm_38_0 B) dX1_makeConditions_98 ?_
  refine a_iload_n dX1_makeConditions_101 rfl rfl ?_
  refine a_iload_n dX1_makeConditions_102 rfl rfl ?_
  obtain ⟨q1, cq1, h⟩ := h_bindS h
  refine a_callV1 [] yy_X7_isChoice ml_1_106 kc_7 rfl (sRo_isChoice _ (by omega) v1 v2 I J B q1 cq1) rfl rfl (Nat.le_of_ble_eq_true rfl) dX1_makeConditions_103 ?_
  refine a_if_eq (tgt := 132) dX1_makeConditions_106 (by decide) (fun c => ?_) (fun c => ?_)
  · replace h := h_iteT c h
    refine b_iinc (lv' := [(1, .int (v1 + (1 : Int32))), (0, .ref 38), (2, .int v2)]) dX1_makeConditions_132 rfl ic_1 (by decide) rfl ?_
    refine a_goto (tgt := 51) dX1_makeConditions_135 (by decide) ?_
    refine a_sub (lv' := [(0, .ref 38), (1, .int (v1 + (1 : Int32)))]) [1, 0] rfl ?_
    exact hk51 (v1 + (1 : Int32)) I J B _ h
  · replace h := h_iteF c h
    refine a_iload_n dX1_makeConditions_109 rfl rfl ?_
    refine a_bipush dX1_makeConditions_110 bp_8 ?_
    refine a_icmp_ge (tgt := 132) dX1_makeConditions_112 (by decide) (fun c => ?_) (fun c => ?_)
    · replace h := h_iteT c h
      refine b_iinc (lv' := [(1, .int (v1 + (1 : Int32))), (0, .ref 38), (2, .int v2)]) dX1_makeConditions_132 rfl ic_1 (by decide) rfl ?_
      refine a_goto (tgt := 51) dX1_makeConditions_135 (by decide) ?_
      refine a_sub (lv' := [(0, .ref 38), (1, .int (v1 + (1 : Int32)))]) [1, 0] rfl ?_
      exact hk51 (v1 + (1 : Int32)) I J B _ h
    · replace h := h_iteF c h
      refine a_aload_n dX1_makeConditions_115 rfl rfl ?_
      refine a_iload_n dX1_makeConditions_116 rfl rfl ?_
      refine a_iload_n dX1_makeConditions_117 rfl rfl ?_
      refine a_bipush dX1_makeConditions_118 bp_8 ?_
      refine a_imul dX1_makeConditions_120 ?_
      refine a_iload_n dX1_makeConditions_121 rfl rfl ?_
      refine a_iadd dX1_makeConditions_122 ?_
      obtain ⟨q2, cq2, h⟩ := h_bindS h
      refine a_callV0 [] yy_X1_addChoice ml_1_109 kc_38 rfl (sCo_addChoice _ (by omega) v1 ((v1 * (8 : Int32)) + v2) I J B q2 cq2) rfl rfl (Nat.le_of_ble_eq_true rfl) dX1_makeConditions_123 ?_
      refine b_iinc (lv' := [(2, .int (v2 + (1 : Int32))), (0, .ref 38), (1, .int v1)]) dX1_makeConditions_126 rfl ic_1 (by decide) rfl ?_
      refine a_goto (tgt := 97) dX1_makeConditions_129 (by decide) ?_
      refine a_sub (lv' := [(0, .ref 38), (1, .int v1), (2, .int (v2 + (1 : Int32)))]) [1, 2, 0] rfl ?_
      exact hk97 v1 (v2 + (1 : Int32)) q2.1 q2.2 B _ h
def mCo_makeConditions_L97 (k51 : Int32 → hI → hJ → Option (hI × hJ)) : Nat → Int32 → Int32 → hI → hJ → Option (hI × hJ)
  | 0 => fun _ _ _ _ => none
  | n + 1 => mCo_makeConditions_B97 k51 (mCo_makeConditions_L97 k51 n)
theorem sCo_makeConditions_L97 (d : Nat) (hd : 2 + 1 ≤ d) (k51 : Int32 → hI → hJ → Option (hI × hJ)) (hk51 : ∀ (v1 : Int32) (I : hI) (J : hJ) (B : Bool × Bool) (q : hI × hJ), k51 v1 I J = some q → AW hFT cX1_makeConditions 3 none RX1 kdC d [(0, .ref 38), (1, .int v1)] 51 [] (I, J, RM B) none (q.1, q.2, RM B)) : ∀ (n : Nat) (v1 : Int32) (v2 : Int32) (I : hI) (J : hJ) (B : Bool × Bool) (q : hI × hJ) (h : mCo_makeConditions_L97 k51 n v1 v2 I J = some q), AW hFT cX1_makeConditions 3 none RX1 kdC d [(0, .ref 38), (1, .int v1), (2, .int v2)] 97 [] (I, J, RM B) none (q.1, q.2, RM B)
  | 0, _, _, _, _, _, q, h => by cases h
  | n + 1, v1, v2, I, J, B, q, h => sCo_makeConditions_B97 d hd k51 hk51 (mCo_makeConditions_L97 k51 n) (sCo_makeConditions_L97 d hd k51 hk51 n) v1 v2 I J B q h
def mCo_makeConditions_B51 (k51 : Int32 → hI → hJ → Option (hI × hJ)) (v1 : Int32) (I : hI) (J : hJ) : Option (hI × hJ) :=
  if (I 7 5) ≤ v1 then
    some (I, J)
  else
    (if (mRo_isIn v1 I) = 0 then
      mCo_makeConditions_L97 k51 hF v1 (0 : Int32) I J
    else
      ((mRo_xOf v1 I).bind fun q1 =>
      (mRo_yOf v1 I).bind fun q2 =>
      (mCo_addRow q1 q2 (1 : Int32) (0 : Int32) I J).bind fun q3 =>
      mCo_makeConditions_L97 k51 hF v1 (0 : Int32) q3.1 q3.2))
set_option maxHeartbeats 4000000 in
theorem sCo_makeConditions_B51 (d : Nat) (hd : 2 + 1 ≤ d) (k51 : Int32 → hI → hJ → Option (hI × hJ)) (hk51 : ∀ (v1 : Int32) (I : hI) (J : hJ) (B : Bool × Bool) (q : hI × hJ), k51 v1 I J = some q → AW hFT cX1_makeConditions 3 none RX1 kdC d [(0, .ref 38), (1, .int v1)] 51 [] (I, J, RM B) none (q.1, q.2, RM B)) (v1 : Int32) (I : hI) (J : hJ) (B : Bool × Bool) (q : hI × hJ) (h : mCo_makeConditions_B51 k51 v1 I J = some q) : AW hFT cX1_makeConditions 3 none RX1 kdC d [(0, .ref 38), (1, .int v1)] 51 [] (I, J, RM B) none (q.1, q.2, RM B) := by
  obtain ⟨d0, rfl, hd0⟩ := h_mono hd
  unfold mCo_makeConditions_B51 at h
  refine a_iload_n dX1_makeConditions_51 rfl rfl ?_
  refine a_aload_n dX1_makeConditions_52 rfl rfl ?_
  refine b_getR hK_1 kc_38 (i := 0) rfl fl_1_35 rfl (rm_38_0 B) dX1_makeConditions_53 ?_
  refine b_getI hK_7 kc_7 (i := 5) rfl fl_1_92 rfl dX1_makeConditions_56 ?_
  refine a_icmp_ge (tgt := 138) dX1_makeConditions_59 (by decide) (fun c => ?_) (fun c => ?_)
  · replace h := h_iteT c h
    cases h
    exact a_vret dX1_makeConditions_138
  · replace h := h_iteF c h
    refine a_aload_n dX1_makeConditions_62 rfl rfl ?_
    refine b_getR hK_1 kc_38 (i := 0) rfl fl_1_35 rfl (rm_38_0 B) dX1_makeConditions_63 ?_
    refine a_iload_n dX1_makeConditions_66 rfl rfl ?_
    refine a_callV1 [] yy_X7_isIn ml_1_95 kc_7 rfl (sRo_isIn _ (by omega) v1 I J B _ rfl) rfl rfl (Nat.le_of_ble_eq_true rfl) dX1_makeConditions_67 ?_
    refine a_if_eq (tgt := 95) dX1_makeConditions_70 (by decide) (fun c => ?_) (fun c => ?_)
    · replace h := h_iteT c h
      refine a_iconst dX1_makeConditions_95 ic_0 ?_
      refine a_istore_n (lv' := [(2, .int (0 : Int32)), (0, .ref 38), (1, .int v1)]) dX1_makeConditions_96 rfl (by decide) rfl ?_
      refine a_sub (lv' := [(0, .ref 38), (1, .int v1), (2, .int (0 : Int32))]) [1, 2, 0] rfl ?_
      exact sCo_makeConditions_L97 (d0 + 1) (by omega) k51 hk51 hF v1 (0 : Int32) I J B _ h
    · replace h := h_iteF c h
      refine a_aload_n dX1_makeConditions_73 rfl rfl ?_
      refine a_aload_n dX1_makeConditions_74 rfl rfl ?_
      refine b_getR hK_1 kc_38 (i := 0) rfl fl_1_35 rfl (rm_38_0 B) dX1_makeConditions_75 ?_
      refine a_iload_n dX1_makeConditions_78 rfl rfl ?_
      obtain ⟨q1, cq1, h⟩ := h_bindS h
      refine a_callV1 [.ref 38] yy_X7_xOf ml_1_99 kc_7 rfl (sRo_xOf _ (by omega) v1 I J B q1 cq1) rfl rfl (Nat.le_of_ble_eq_true rfl) dX1_makeConditions_79 ?_
      refine a_aload_n dX1_makeConditions_82 rfl rfl ?_
      refine b_getR hK_1 kc_38 (i := 0) rfl fl_1_35 rfl (rm_38_0 B) dX1_makeConditions_83 ?_
      refine a_iload_n dX1_makeConditions_86 rfl rfl ?_
      obtain ⟨q2, cq2, h⟩ := h_bindS h
      refine a_callV1 [.int q1, .ref 38] yy_X7_yOf ml_1_103 kc_7 rfl (sRo_yOf _ (by omega) v1 I J B q2 cq2) rfl rfl (Nat.le_of_ble_eq_true rfl) dX1_makeConditions_87 ?_
      refine a_iconst dX1_makeConditions_90 ic_1 ?_
      refine a_iconst dX1_makeConditions_91 ic_0 ?_
      obtain ⟨q3, cq3, h⟩ := h_bindS h
      refine a_callV0 [] yy_X1_addRow ml_1_85 kc_38 rfl (sCo_addRow _ (by omega) q1 q2 (1 : Int32) (0 : Int32) I J B q3 cq3) rfl rfl (Nat.le_of_ble_eq_true rfl) dX1_makeConditions_92 ?_
      refine a_iconst dX1_makeConditions_95 ic_0 ?_
      refine a_istore_n (lv' := [(2, .int (0 : Int32)), (0, .ref 38), (1, .int v1)]) dX1_makeConditions_96 rfl (by decide) rfl ?_
      refine a_sub (lv' := [(0, .ref 38), (1, .int v1), (2, .int (0 : Int32))]) [1, 2, 0] rfl ?_
      exact sCo_makeConditions_L97 (d0 + 1) (by omega) k51 hk51 hF v1 (0 : Int32) q3.1 q3.2 B _ h
def mCo_makeConditions_L51  : Nat → Int32 → hI → hJ → Option (hI × hJ)
  | 0 => fun _ _ _ => none
  | n + 1 => mCo_makeConditions_B51 (mCo_makeConditions_L51 n)
theorem sCo_makeConditions_L51 (d : Nat) (hd : 2 + 1 ≤ d) : ∀ (n : Nat) (v1 : Int32) (I : hI) (J : hJ) (B : Bool × Bool) (q : hI × hJ) (h : mCo_makeConditions_L51 n v1 I J = some q), AW hFT cX1_makeConditions 3 none RX1 kdC d [(0, .ref 38), (1, .int v1)] 51 [] (I, J, RM B) none (q.1, q.2, RM B)
  | 0, _, _, _, _, q, h => by cases h
  | n + 1, v1, I, J, B, q, h => sCo_makeConditions_B51 d hd (mCo_makeConditions_L51 n) (sCo_makeConditions_L51 d hd n) v1 I J B q h
def mCo_makeConditions_41   (I : hI) (J : hJ) : Option (hI × hJ) :=
  h_let (h_u I 38 5 (I 38 4)) fun I1 =>
  mCo_makeConditions_L51 hF (0 : Int32) I1 J
set_option maxHeartbeats 4000000 in
theorem sCo_makeConditions_41 (d : Nat) (hd : 2 + 1 ≤ d)  (I : hI) (J : hJ) (B : Bool × Bool) (q : hI × hJ) (h : mCo_makeConditions_41 I J = some q) : AW hFT cX1_makeConditions 3 none RX1 kdC d [(0, .ref 38)] 41 [] (I, J, RM B) none (q.1, q.2, RM B) := by
  obtain ⟨d0, rfl, hd0⟩ := h_mono hd
  unfold mCo_makeConditions_41 at h
  refine a_aload_n dX1_makeConditions_41 rfl rfl ?_
  refine a_aload_n dX1_makeConditions_42 rfl rfl ?_
  refine b_getI hK_1 kc_38 (i := 4) rfl fl_1_53 rfl dX1_makeConditions_43 ?_
  refine b_putI hK_1 kc_38 (i := 5) rfl fl_1_49 rfl rfl (h_NI _) dX1_makeConditions_46 ?_
  obtain ⟨I1, eI1, h⟩ := h_letS h
  refine a_memI eI1 ?_
  refine a_iconst dX1_makeConditions_49 ic_0 ?_
  refine a_istore_n (lv' := [(1, .int (0 : Int32)), (0, .ref 38)]) dX1_makeConditions_50 rfl (by decide) rfl ?_
  refine a_sub (lv' := [(0, .ref 38), (1, .int (0 : Int32))]) [1, 0] rfl ?_
  exact sCo_makeConditions_L51 (d0 + 1) (by omega) hF (0 : Int32) I1 J B _ h
def mCo_makeConditions_23   (I : hI) (J : hJ) : Option (hI × hJ) :=
  if (I 7 8) = 0 then
    ((mCo_addRow (0 : Int32) (1 : Int32) (0 : Int32) (0 : Int32) I J).bind fun q1 =>
    mCo_makeConditions_41 q1.1 q1.2)
  else
    mCo_makeConditions_41 I J
set_option maxHeartbeats 4000000 in
theorem sCo_makeConditions_23 (d : Nat) (hd : 2 + 1 ≤ d)  (I : hI) (J : hJ) (B : Bool × Bool) (q : hI × hJ) (h : mCo_makeConditions_23 I J = some q) : AW hFT cX1_makeConditions 3 none RX1 kdC d [(0, .ref 38)] 23 [] (I, J, RM B) none (q.1, q.2, RM B) := by
  obtain ⟨d0, rfl, hd0⟩ := h_mono hd
  unfold mCo_makeConditions_23 at h
  refine a_aload_n dX1_makeConditions_23 rfl rfl ?_
  refine b_getR hK_1 kc_38 (i := 0) rfl fl_1_35 rfl (rm_38_0 B) dX1_makeConditions_24 ?_
  refine b_getI hK_7 kc_7 (i := 8) rfl fl_1_89 rfl dX1_makeConditions_27 ?_
  refine a_if_ne (tgt := 41) dX1_makeConditions_30 (by decide) (fun c => ?_) (fun c => ?_)
  · replace h := h_iteF c h
    exact sCo_makeConditions_41 (d0 + 1) (by omega)  I J B _ h
  · replace h := h_iteT c h
    refine a_aload_n dX1_makeConditions_33 rfl rfl ?_
    refine a_iconst dX1_makeConditions_34 ic_0 ?_
    refine a_iconst dX1_makeConditions_35 ic_1 ?_
    refine a_iconst dX1_makeConditions_36 ic_0 ?_
    refine a_iconst dX1_makeConditions_37 ic_0 ?_
    obtain ⟨q1, cq1, h⟩ := h_bindS h
    refine a_callV0 [] yy_X1_addRow ml_1_85 kc_38 rfl (sCo_addRow _ (by omega) (0 : Int32) (1 : Int32) (0 : Int32) (0 : Int32) I J B q1 cq1) rfl rfl (Nat.le_of_ble_eq_true rfl) dX1_makeConditions_38 ?_
    exact sCo_makeConditions_41 (d0 + 1) (by omega)  q1.1 q1.2 B _ h
def mCo_makeConditions   (I : hI) (J : hJ) : Option (hI × hJ) :=
  h_let (h_u I 38 4 (0 : Int32)) fun I1 =>
  if (I1 7 7) = 0 then
    ((mCo_addRow (1 : Int32) (0 : Int32) (0 : Int32) (0 : Int32) I1 J).bind fun q2 =>
    mCo_makeConditions_23 q2.1 q2.2)
  else
    mCo_makeConditions_23 I1 J
set_option maxHeartbeats 4000000 in
theorem sCo_makeConditions (d : Nat) (hd : 2 + 1 ≤ d)  (I : hI) (J : hJ) (B : Bool × Bool) (q : hI × hJ) (h : mCo_makeConditions I J = some q) : HMet hFT yX1_makeConditions cX1_makeConditions 3 none kdC d [.ref 38] (I, J, RM B) none (q.1, q.2, RM B) := by
  obtain ⟨d0, rfl, hd0⟩ := h_mono hd
  refine HMet.of (by decide) (Nat.le_of_ble_eq_true rfl) ?_
  show AW hFT cX1_makeConditions 3 none RX1 kdC (d0 + 1) [(0, .ref 38)] 0 [] (I, J, RM B) none (q.1, q.2, RM B)
  unfold mCo_makeConditions at h
  refine a_aload_n dX1_makeConditions_0 rfl rfl ?_
  refine a_iconst dX1_makeConditions_1 ic_0 ?_
  refine b_putI hK_1 kc_38 (i := 4) rfl fl_1_53 rfl rfl (h_NI _) dX1_makeConditions_2 ?_
  obtain ⟨I1, eI1, h⟩ := h_letS h
  refine a_memI eI1 ?_
  refine a_aload_n dX1_makeConditions_5 rfl rfl ?_
  refine b_getR hK_1 kc_38 (i := 0) rfl fl_1_35 rfl (rm_38_0 B) dX1_makeConditions_6 ?_
  refine b_getI hK_7 kc_7 (i := 7) rfl fl_1_80 rfl dX1_makeConditions_9 ?_
  refine a_if_ne (tgt := 23) dX1_makeConditions_12 (by decide) (fun c => ?_) (fun c => ?_)
  · replace h := h_iteF c h
    exact sCo_makeConditions_23 (d0 + 1) (by omega)  I1 J B _ h
  · replace h := h_iteT c h
    refine a_aload_n dX1_makeConditions_15 rfl rfl ?_
    refine a_iconst dX1_makeConditions_16 ic_1 ?_
    refine a_iconst dX1_makeConditions_17 ic_0 ?_
    refine a_iconst dX1_makeConditions_18 ic_0 ?_
    refine a_iconst dX1_makeConditions_19 ic_0 ?_
    obtain ⟨q2, cq2, h⟩ := h_bindS h
    refine a_callV0 [] yy_X1_addRow ml_1_85 kc_38 rfl (sCo_addRow _ (by omega) (1 : Int32) (0 : Int32) (0 : Int32) (0 : Int32) I1 J B q2 cq2) rfl rfl (Nat.le_of_ble_eq_true rfl) dX1_makeConditions_20 ?_
    exact sCo_makeConditions_23 (d0 + 1) (by omega)  q2.1 q2.2 B _ h
/-! CoinLoops$Corners.makeLine(II)Z -/
theorem dX1_makeLine_0 : decode cX1_makeLine 0 = .ok (.iload_n 1, 1) := by decide +kernel
theorem dX1_makeLine_1 : decode cX1_makeLine 1 = .ok (.bipush 92, 2) := by decide +kernel
theorem dX1_makeLine_3 : decode cX1_makeLine 3 = .ok (.invokestatic 67, 3) := by decide +kernel
theorem dX1_makeLine_6 : decode cX1_makeLine 6 = .ok (.ifCond .ne 12, 3) := by decide +kernel
theorem dX1_makeLine_9 : decode cX1_makeLine 9 = .ok (.iload_n 2, 1) := by decide +kernel
theorem dX1_makeLine_10 : decode cX1_makeLine 10 = .ok (.bipush 92, 2) := by decide +kernel
theorem dX1_makeLine_12 : decode cX1_makeLine 12 = .ok (.invokestatic 67, 3) := by decide +kernel
theorem dX1_makeLine_15 : decode cX1_makeLine 15 = .ok (.ifCond .eq 5, 3) := by decide +kernel
theorem dX1_makeLine_18 : decode cX1_makeLine 18 = .ok (.iconst 0, 1) := by decide +kernel
theorem dX1_makeLine_19 : decode cX1_makeLine 19 = .ok (.ireturn, 1) := by decide +kernel
theorem dX1_makeLine_20 : decode cX1_makeLine 20 = .ok (.aload_n 0, 1) := by decide +kernel
theorem dX1_makeLine_21 : decode cX1_makeLine 21 = .ok (.lconst 0, 1) := by decide +kernel
theorem dX1_makeLine_22 : decode cX1_makeLine 22 = .ok (.putfield 121, 3) := by decide +kernel
theorem dX1_makeLine_25 : decode cX1_makeLine 25 = .ok (.iconst 0, 1) := by decide +kernel
theorem dX1_makeLine_26 : decode cX1_makeLine 26 = .ok (.istore_n 3, 1) := by decide +kernel
theorem dX1_makeLine_27 : decode cX1_makeLine 27 = .ok (.iload_n 3, 1) := by decide +kernel
theorem dX1_makeLine_28 : decode cX1_makeLine 28 = .ok (.iconst 3, 1) := by decide +kernel
theorem dX1_makeLine_29 : decode cX1_makeLine 29 = .ok (.if_icmp .ge 90, 3) := by decide +kernel
theorem dX1_makeLine_32 : decode cX1_makeLine 32 = .ok (.iload_n 3, 1) := by decide +kernel
theorem dX1_makeLine_33 : decode cX1_makeLine 33 = .ok (.iconst 1, 1) := by decide +kernel
theorem dX1_makeLine_34 : decode cX1_makeLine 34 = .ok (.iadd, 1) := by decide +kernel
theorem dX1_makeLine_35 : decode cX1_makeLine 35 = .ok (.iconst 3, 1) := by decide +kernel
theorem dX1_makeLine_36 : decode cX1_makeLine 36 = .ok (.irem, 1) := by decide +kernel
theorem dX1_makeLine_37 : decode cX1_makeLine 37 = .ok (.istore 4, 2) := by decide +kernel
theorem dX1_makeLine_39 : decode cX1_makeLine 39 = .ok (.iload_n 3, 1) := by decide +kernel
theorem dX1_makeLine_40 : decode cX1_makeLine 40 = .ok (.iconst 2, 1) := by decide +kernel
theorem dX1_makeLine_41 : decode cX1_makeLine 41 = .ok (.iadd, 1) := by decide +kernel
theorem dX1_makeLine_42 : decode cX1_makeLine 42 = .ok (.iconst 3, 1) := by decide +kernel
theorem dX1_makeLine_43 : decode cX1_makeLine 43 = .ok (.irem, 1) := by decide +kernel
theorem dX1_makeLine_44 : decode cX1_makeLine 44 = .ok (.istore 5, 2) := by decide +kernel
theorem dX1_makeLine_46 : decode cX1_makeLine 46 = .ok (.aload_n 0, 1) := by decide +kernel
theorem dX1_makeLine_47 : decode cX1_makeLine 47 = .ok (.getfield 20, 3) := by decide +kernel
theorem dX1_makeLine_50 : decode cX1_makeLine 50 = .ok (.iload_n 3, 1) := by decide +kernel
theorem dX1_makeLine_51 : decode cX1_makeLine 51 = .ok (.aload_n 0, 1) := by decide +kernel
theorem dX1_makeLine_52 : decode cX1_makeLine 52 = .ok (.getfield 11, 3) := by decide +kernel
theorem dX1_makeLine_55 : decode cX1_makeLine 55 = .ok (.iload 4, 2) := by decide +kernel
theorem dX1_makeLine_57 : decode cX1_makeLine 57 = .ok (.aaload, 1) := by decide +kernel
theorem dX1_makeLine_58 : decode cX1_makeLine 58 = .ok (.iload_n 1, 1) := by decide +kernel
theorem dX1_makeLine_59 : decode cX1_makeLine 59 = .ok (.laload, 1) := by decide +kernel
theorem dX1_makeLine_60 : decode cX1_makeLine 60 = .ok (.aload_n 0, 1) := by decide +kernel
theorem dX1_makeLine_61 : decode cX1_makeLine 61 = .ok (.getfield 11, 3) := by decide +kernel
theorem dX1_makeLine_64 : decode cX1_makeLine 64 = .ok (.iload 5, 2) := by decide +kernel
theorem dX1_makeLine_66 : decode cX1_makeLine 66 = .ok (.aaload, 1) := by decide +kernel
theorem dX1_makeLine_67 : decode cX1_makeLine 67 = .ok (.iload_n 2, 1) := by decide +kernel
theorem dX1_makeLine_68 : decode cX1_makeLine 68 = .ok (.laload, 1) := by decide +kernel
theorem dX1_makeLine_69 : decode cX1_makeLine 69 = .ok (.lmul, 1) := by decide +kernel
theorem dX1_makeLine_70 : decode cX1_makeLine 70 = .ok (.aload_n 0, 1) := by decide +kernel
theorem dX1_makeLine_71 : decode cX1_makeLine 71 = .ok (.getfield 11, 3) := by decide +kernel
theorem dX1_makeLine_74 : decode cX1_makeLine 74 = .ok (.iload 5, 2) := by decide +kernel
theorem dX1_makeLine_76 : decode cX1_makeLine 76 = .ok (.aaload, 1) := by decide +kernel
theorem dX1_makeLine_77 : decode cX1_makeLine 77 = .ok (.iload_n 1, 1) := by decide +kernel
theorem dX1_makeLine_78 : decode cX1_makeLine 78 = .ok (.laload, 1) := by decide +kernel
theorem dX1_makeLine_79 : decode cX1_makeLine 79 = .ok (.aload_n 0, 1) := by decide +kernel
theorem dX1_makeLine_80 : decode cX1_makeLine 80 = .ok (.getfield 11, 3) := by decide +kernel
theorem dX1_makeLine_83 : decode cX1_makeLine 83 = .ok (.iload 4, 2) := by decide +kernel
theorem dX1_makeLine_85 : decode cX1_makeLine 85 = .ok (.aaload, 1) := by decide +kernel
theorem dX1_makeLine_86 : decode cX1_makeLine 86 = .ok (.iload_n 2, 1) := by decide +kernel
theorem dX1_makeLine_87 : decode cX1_makeLine 87 = .ok (.laload, 1) := by decide +kernel
theorem dX1_makeLine_88 : decode cX1_makeLine 88 = .ok (.lmul, 1) := by decide +kernel
theorem dX1_makeLine_89 : decode cX1_makeLine 89 = .ok (.lsub, 1) := by decide +kernel
theorem dX1_makeLine_90 : decode cX1_makeLine 90 = .ok (.lastore, 1) := by decide +kernel
theorem dX1_makeLine_91 : decode cX1_makeLine 91 = .ok (.aload_n 0, 1) := by decide +kernel
theorem dX1_makeLine_92 : decode cX1_makeLine 92 = .ok (.dup, 1) := by decide +kernel
theorem dX1_makeLine_93 : decode cX1_makeLine 93 = .ok (.getfield 121, 3) := by decide +kernel
theorem dX1_makeLine_96 : decode cX1_makeLine 96 = .ok (.aload_n 0, 1) := by decide +kernel
theorem dX1_makeLine_97 : decode cX1_makeLine 97 = .ok (.getfield 20, 3) := by decide +kernel
theorem dX1_makeLine_100 : decode cX1_makeLine 100 = .ok (.iload_n 3, 1) := by decide +kernel
theorem dX1_makeLine_101 : decode cX1_makeLine 101 = .ok (.laload, 1) := by decide +kernel
theorem dX1_makeLine_102 : decode cX1_makeLine 102 = .ok (.aload_n 0, 1) := by decide +kernel
theorem dX1_makeLine_103 : decode cX1_makeLine 103 = .ok (.getfield 20, 3) := by decide +kernel
theorem dX1_makeLine_106 : decode cX1_makeLine 106 = .ok (.iload_n 3, 1) := by decide +kernel
theorem dX1_makeLine_107 : decode cX1_makeLine 107 = .ok (.laload, 1) := by decide +kernel
theorem dX1_makeLine_108 : decode cX1_makeLine 108 = .ok (.lmul, 1) := by decide +kernel
theorem dX1_makeLine_109 : decode cX1_makeLine 109 = .ok (.ladd, 1) := by decide +kernel
theorem dX1_makeLine_110 : decode cX1_makeLine 110 = .ok (.putfield 121, 3) := by decide +kernel
theorem dX1_makeLine_113 : decode cX1_makeLine 113 = .ok (.iinc 3 1, 3) := by decide +kernel
theorem dX1_makeLine_116 : decode cX1_makeLine 116 = .ok (.goto (-89), 3) := by decide +kernel
theorem dX1_makeLine_119 : decode cX1_makeLine 119 = .ok (.iconst 0, 1) := by decide +kernel
theorem dX1_makeLine_120 : decode cX1_makeLine 120 = .ok (.istore_n 3, 1) := by decide +kernel
theorem dX1_makeLine_121 : decode cX1_makeLine 121 = .ok (.iload_n 3, 1) := by decide +kernel
theorem dX1_makeLine_122 : decode cX1_makeLine 122 = .ok (.iconst 3, 1) := by decide +kernel
theorem dX1_makeLine_123 : decode cX1_makeLine 123 = .ok (.if_icmp .ge 126, 3) := by decide +kernel
theorem dX1_makeLine_126 : decode cX1_makeLine 126 = .ok (.iload_n 3, 1) := by decide +kernel
theorem dX1_makeLine_127 : decode cX1_makeLine 127 = .ok (.iconst 1, 1) := by decide +kernel
theorem dX1_makeLine_128 : decode cX1_makeLine 128 = .ok (.iadd, 1) := by decide +kernel
theorem dX1_makeLine_129 : decode cX1_makeLine 129 = .ok (.iconst 3, 1) := by decide +kernel
theorem dX1_makeLine_130 : decode cX1_makeLine 130 = .ok (.irem, 1) := by decide +kernel
theorem dX1_makeLine_131 : decode cX1_makeLine 131 = .ok (.istore 4, 2) := by decide +kernel
theorem dX1_makeLine_133 : decode cX1_makeLine 133 = .ok (.iload_n 3, 1) := by decide +kernel
theorem dX1_makeLine_134 : decode cX1_makeLine 134 = .ok (.iconst 2, 1) := by decide +kernel
theorem dX1_makeLine_135 : decode cX1_makeLine 135 = .ok (.iadd, 1) := by decide +kernel
theorem dX1_makeLine_136 : decode cX1_makeLine 136 = .ok (.iconst 3, 1) := by decide +kernel
theorem dX1_makeLine_137 : decode cX1_makeLine 137 = .ok (.irem, 1) := by decide +kernel
theorem dX1_makeLine_138 : decode cX1_makeLine 138 = .ok (.istore 5, 2) := by decide +kernel
theorem dX1_makeLine_140 : decode cX1_makeLine 140 = .ok (.aload_n 0, 1) := by decide +kernel
theorem dX1_makeLine_141 : decode cX1_makeLine 141 = .ok (.getfield 11, 3) := by decide +kernel
theorem dX1_makeLine_144 : decode cX1_makeLine 144 = .ok (.iload 4, 2) := by decide +kernel
theorem dX1_makeLine_146 : decode cX1_makeLine 146 = .ok (.aaload, 1) := by decide +kernel
theorem dX1_makeLine_147 : decode cX1_makeLine 147 = .ok (.iload_n 2, 1) := by decide +kernel
theorem dX1_makeLine_148 : decode cX1_makeLine 148 = .ok (.laload, 1) := by decide +kernel
theorem dX1_makeLine_149 : decode cX1_makeLine 149 = .ok (.aload_n 0, 1) := by decide +kernel
theorem dX1_makeLine_150 : decode cX1_makeLine 150 = .ok (.getfield 20, 3) := by decide +kernel
theorem dX1_makeLine_153 : decode cX1_makeLine 153 = .ok (.iload 5, 2) := by decide +kernel
theorem dX1_makeLine_155 : decode cX1_makeLine 155 = .ok (.laload, 1) := by decide +kernel
theorem dX1_makeLine_156 : decode cX1_makeLine 156 = .ok (.lmul, 1) := by decide +kernel
theorem dX1_makeLine_157 : decode cX1_makeLine 157 = .ok (.aload_n 0, 1) := by decide +kernel
theorem dX1_makeLine_158 : decode cX1_makeLine 158 = .ok (.getfield 11, 3) := by decide +kernel
theorem dX1_makeLine_161 : decode cX1_makeLine 161 = .ok (.iload 5, 2) := by decide +kernel
theorem dX1_makeLine_163 : decode cX1_makeLine 163 = .ok (.aaload, 1) := by decide +kernel
theorem dX1_makeLine_164 : decode cX1_makeLine 164 = .ok (.iload_n 2, 1) := by decide +kernel
theorem dX1_makeLine_165 : decode cX1_makeLine 165 = .ok (.laload, 1) := by decide +kernel
theorem dX1_makeLine_166 : decode cX1_makeLine 166 = .ok (.aload_n 0, 1) := by decide +kernel
theorem dX1_makeLine_167 : decode cX1_makeLine 167 = .ok (.getfield 20, 3) := by decide +kernel
theorem dX1_makeLine_170 : decode cX1_makeLine 170 = .ok (.iload 4, 2) := by decide +kernel
theorem dX1_makeLine_172 : decode cX1_makeLine 172 = .ok (.laload, 1) := by decide +kernel
theorem dX1_makeLine_173 : decode cX1_makeLine 173 = .ok (.lmul, 1) := by decide +kernel
theorem dX1_makeLine_174 : decode cX1_makeLine 174 = .ok (.lsub, 1) := by decide +kernel
theorem dX1_makeLine_175 : decode cX1_makeLine 175 = .ok (.lstore 6, 2) := by decide +kernel
theorem dX1_makeLine_177 : decode cX1_makeLine 177 = .ok (.aload_n 0, 1) := by decide +kernel
theorem dX1_makeLine_178 : decode cX1_makeLine 178 = .ok (.getfield 11, 3) := by decide +kernel
theorem dX1_makeLine_181 : decode cX1_makeLine 181 = .ok (.iload 5, 2) := by decide +kernel
theorem dX1_makeLine_183 : decode cX1_makeLine 183 = .ok (.aaload, 1) := by decide +kernel
theorem dX1_makeLine_184 : decode cX1_makeLine 184 = .ok (.iload_n 1, 1) := by decide +kernel
theorem dX1_makeLine_185 : decode cX1_makeLine 185 = .ok (.laload, 1) := by decide +kernel
theorem dX1_makeLine_186 : decode cX1_makeLine 186 = .ok (.aload_n 0, 1) := by decide +kernel
theorem dX1_makeLine_187 : decode cX1_makeLine 187 = .ok (.getfield 20, 3) := by decide +kernel
theorem dX1_makeLine_190 : decode cX1_makeLine 190 = .ok (.iload 4, 2) := by decide +kernel
theorem dX1_makeLine_192 : decode cX1_makeLine 192 = .ok (.laload, 1) := by decide +kernel
theorem dX1_makeLine_193 : decode cX1_makeLine 193 = .ok (.lmul, 1) := by decide +kernel
theorem dX1_makeLine_194 : decode cX1_makeLine 194 = .ok (.aload_n 0, 1) := by decide +kernel
theorem dX1_makeLine_195 : decode cX1_makeLine 195 = .ok (.getfield 11, 3) := by decide +kernel
theorem dX1_makeLine_198 : decode cX1_makeLine 198 = .ok (.iload 4, 2) := by decide +kernel
theorem dX1_makeLine_200 : decode cX1_makeLine 200 = .ok (.aaload, 1) := by decide +kernel
theorem dX1_makeLine_201 : decode cX1_makeLine 201 = .ok (.iload_n 1, 1) := by decide +kernel
theorem dX1_makeLine_202 : decode cX1_makeLine 202 = .ok (.laload, 1) := by decide +kernel
theorem dX1_makeLine_203 : decode cX1_makeLine 203 = .ok (.aload_n 0, 1) := by decide +kernel
theorem dX1_makeLine_204 : decode cX1_makeLine 204 = .ok (.getfield 20, 3) := by decide +kernel
theorem dX1_makeLine_207 : decode cX1_makeLine 207 = .ok (.iload 5, 2) := by decide +kernel
theorem dX1_makeLine_209 : decode cX1_makeLine 209 = .ok (.laload, 1) := by decide +kernel
theorem dX1_makeLine_210 : decode cX1_makeLine 210 = .ok (.lmul, 1) := by decide +kernel
theorem dX1_makeLine_211 : decode cX1_makeLine 211 = .ok (.lsub, 1) := by decide +kernel
theorem dX1_makeLine_212 : decode cX1_makeLine 212 = .ok (.lstore 8, 2) := by decide +kernel
theorem dX1_makeLine_214 : decode cX1_makeLine 214 = .ok (.aload_n 0, 1) := by decide +kernel
theorem dX1_makeLine_215 : decode cX1_makeLine 215 = .ok (.getfield 16, 3) := by decide +kernel
theorem dX1_makeLine_218 : decode cX1_makeLine 218 = .ok (.iload_n 3, 1) := by decide +kernel
theorem dX1_makeLine_219 : decode cX1_makeLine 219 = .ok (.aload_n 0, 1) := by decide +kernel
theorem dX1_makeLine_220 : decode cX1_makeLine 220 = .ok (.getfield 11, 3) := by decide +kernel
theorem dX1_makeLine_223 : decode cX1_makeLine 223 = .ok (.iconst 3, 1) := by decide +kernel
theorem dX1_makeLine_224 : decode cX1_makeLine 224 = .ok (.aaload, 1) := by decide +kernel
theorem dX1_makeLine_225 : decode cX1_makeLine 225 = .ok (.iload_n 1, 1) := by decide +kernel
theorem dX1_makeLine_226 : decode cX1_makeLine 226 = .ok (.laload, 1) := by decide +kernel
theorem dX1_makeLine_227 : decode cX1_makeLine 227 = .ok (.lload 6, 2) := by decide +kernel
theorem dX1_makeLine_229 : decode cX1_makeLine 229 = .ok (.lmul, 1) := by decide +kernel
theorem dX1_makeLine_230 : decode cX1_makeLine 230 = .ok (.aload_n 0, 1) := by decide +kernel
theorem dX1_makeLine_231 : decode cX1_makeLine 231 = .ok (.getfield 11, 3) := by decide +kernel
theorem dX1_makeLine_234 : decode cX1_makeLine 234 = .ok (.iconst 3, 1) := by decide +kernel
theorem dX1_makeLine_235 : decode cX1_makeLine 235 = .ok (.aaload, 1) := by decide +kernel
theorem dX1_makeLine_236 : decode cX1_makeLine 236 = .ok (.iload_n 2, 1) := by decide +kernel
theorem dX1_makeLine_237 : decode cX1_makeLine 237 = .ok (.laload, 1) := by decide +kernel
theorem dX1_makeLine_238 : decode cX1_makeLine 238 = .ok (.lload 8, 2) := by decide +kernel
theorem dX1_makeLine_240 : decode cX1_makeLine 240 = .ok (.lmul, 1) := by decide +kernel
theorem dX1_makeLine_241 : decode cX1_makeLine 241 = .ok (.ladd, 1) := by decide +kernel
theorem dX1_makeLine_242 : decode cX1_makeLine 242 = .ok (.lastore, 1) := by decide +kernel
theorem dX1_makeLine_243 : decode cX1_makeLine 243 = .ok (.iinc 3 1, 3) := by decide +kernel
theorem dX1_makeLine_246 : decode cX1_makeLine 246 = .ok (.goto (-125), 3) := by decide +kernel
theorem dX1_makeLine_249 : decode cX1_makeLine 249 = .ok (.aload_n 0, 1) := by decide +kernel
theorem dX1_makeLine_250 : decode cX1_makeLine 250 = .ok (.getfield 121, 3) := by decide +kernel
theorem dX1_makeLine_253 : decode cX1_makeLine 253 = .ok (.lconst 0, 1) := by decide +kernel
theorem dX1_makeLine_254 : decode cX1_makeLine 254 = .ok (.lcmp, 1) := by decide +kernel
theorem dX1_makeLine_255 : decode cX1_makeLine 255 = .ok (.ifCond .eq 7, 3) := by decide +kernel
theorem dX1_makeLine_258 : decode cX1_makeLine 258 = .ok (.iconst 1, 1) := by decide +kernel
theorem dX1_makeLine_259 : decode cX1_makeLine 259 = .ok (.goto 4, 3) := by decide +kernel
theorem dX1_makeLine_262 : decode cX1_makeLine 262 = .ok (.iconst 0, 1) := by decide +kernel
theorem dX1_makeLine_263 : decode cX1_makeLine 263 = .ok (.ireturn, 1) := by decide +kernel
def mCo_makeLine_B121 (k121 : Int32 → Int32 → Int32 → hJ → Option (Int32 × hJ)) (v1 : Int32) (v2 : Int32) (v3 : Int32) (J : hJ) : Option (Int32 × hJ) :=
  if (3 : Int32) ≤ v3 then
    (if (J 38 8) = (0 : Int64) then
      some ((0 : Int32), J)
    else
      some ((1 : Int32), J))
  else
    (h_let ((v3 + (1 : Int32)) - (v3 + (1 : Int32)) / (3 : Int32) * (3 : Int32)) fun v4x0 =>
    h_let ((v3 + (2 : Int32)) - (v3 + (2 : Int32)) / (3 : Int32) * (3 : Int32)) fun v5x1 =>
    h_g (h_in v4x0 4) <|
    h_g (h_in v2 92) <|
    h_g (h_in v5x1 3) <|
    h_g (h_in v5x1 4) <|
    h_g (h_in v2 92) <|
    h_g (h_in v4x0 3) <|
    h_let (((J (40 + v4x0.toNatClampNeg) v2.toNatClampNeg) * (J 45 v5x1.toNatClampNeg)) - ((J (40 + v5x1.toNatClampNeg) v2.toNatClampNeg) * (J 45 v4x0.toNatClampNeg))) fun v6x8 =>
    h_g (h_in v5x1 4) <|
    h_g (h_in v1 92) <|
    h_g (h_in v4x0 3) <|
    h_g (h_in v4x0 4) <|
    h_g (h_in v1 92) <|
    h_g (h_in v5x1 3) <|
    h_let (((J (40 + v5x1.toNatClampNeg) v1.toNatClampNeg) * (J 45 v4x0.toNatClampNeg)) - ((J (40 + v4x0.toNatClampNeg) v1.toNatClampNeg) * (J 45 v5x1.toNatClampNeg))) fun v8x15 =>
    h_g (h_in (3 : Int32) 4) <|
    h_g (h_in v1 92) <|
    h_g (h_in (3 : Int32) 4) <|
    h_g (h_in v2 92) <|
    h_g (h_in v3 3) <|
    h_let (h_u J 44 v3.toNatClampNeg (((J (40 + (3 : Int32).toNatClampNeg) v1.toNatClampNeg) * v6x8) + ((J (40 + (3 : Int32).toNatClampNeg) v2.toNatClampNeg) * v8x15))) fun J22 =>
    k121 v1 v2 (v3 + (1 : Int32)) J22)
set_option maxHeartbeats 4000000 in
theorem sCo_makeLine_B121 (d : Nat) (hd : 0 + 1 ≤ d) (k121 : Int32 → Int32 → Int32 → hJ → Option (Int32 × hJ)) (hk121 : ∀ (v1 : Int32) (v2 : Int32) (v3 : Int32) (I : hI) (J : hJ) (B : Bool × Bool) (q : Int32 × hJ), k121 v1 v2 v3 J = some q → AW hFT cX1_makeLine 10 (some .boolean) RX1 kdC d [(0, .ref 38), (1, .int v1), (2, .int v2), (3, .int v3)] 121 [] (I, J, RM B) (some (.int q.1)) (I, q.2, RM B)) (v1 : Int32) (v2 : Int32) (v3 : Int32) (I : hI) (J : hJ) (B : Bool × Bool) (q : Int32 × hJ) (h : mCo_makeLine_B121 k121 v1 v2 v3 J = some q) : AW hFT cX1_makeLine 10 (some .boolean) RX1 kdC d [(0, .ref 38), (1, .int v1), (2, .int v2), (3, .int v3)] 121 [] (I, J, RM B) (some (.int q.1)) (I, q.2, RM B) := by
  obtain ⟨d0, rfl, hd0⟩ := h_mono hd
  unfold mCo_makeLine_B121 at h
  refine a_iload_n dX1_makeLine_121 rfl rfl ?_
  refine a_iconst dX1_makeLine_122 ic_3 ?_
  refine a_icmp_ge (tgt := 249) dX1_makeLine_123 (by decide) (fun c => ?_) (fun c => ?_)
  · replace h := h_iteT c h
    refine a_aload_n dX1_makeLine_249 rfl rfl ?_
    refine b_getJ hK_1 kc_38 (i := 8) rfl fl_1_121 rfl dX1_makeLine_250 ?_
    refine a_lconst dX1_makeLine_253 lc_0 ?_
    refine a_lcmp_eq (tgt := 262) dX1_makeLine_254 dX1_makeLine_255 (by decide) (fun c => ?_) (fun c => ?_)
    · replace h := h_iteT c h
      refine a_iconst dX1_makeLine_262 ic_0 ?_
      cases h
      exact a_zret (h_Z0.1) dX1_makeLine_263
    · replace h := h_iteF c h
      refine a_iconst dX1_makeLine_258 ic_1 ?_
      refine a_goto (tgt := 263) dX1_makeLine_259 (by decide) ?_
      cases h
      exact a_zret (h_Z1.1) dX1_makeLine_263
  · replace h := h_iteF c h
    refine a_iload_n dX1_makeLine_126 rfl rfl ?_
    refine a_iconst dX1_makeLine_127 ic_1 ?_
    refine a_iadd dX1_makeLine_128 ?_
    refine a_iconst dX1_makeLine_129 ic_3 ?_
    refine a_irem dX1_makeLine_130 (by decide) ?_
    obtain ⟨v4x0, ev4x0, h⟩ := h_letS h
    refine a_topI ev4x0 ?_
    refine a_istore (lv' := [(4, .int v4x0), (0, .ref 38), (1, .int v1), (2, .int v2), (3, .int v3)]) dX1_makeLine_131 (by decide) rfl ?_
    refine a_iload_n dX1_makeLine_133 rfl rfl ?_
    refine a_iconst dX1_makeLine_134 ic_2 ?_
    refine a_iadd dX1_makeLine_135 ?_
    refine a_iconst dX1_makeLine_136 ic_3 ?_
    refine a_irem dX1_makeLine_137 (by decide) ?_
    obtain ⟨v5x1, ev5x1, h⟩ := h_letS h
    refine a_topI ev5x1 ?_
    refine a_istore (lv' := [(5, .int v5x1), (4, .int v4x0), (0, .ref 38), (1, .int v1), (2, .int v2), (3, .int v3)]) dX1_makeLine_138 (by decide) rfl ?_
    refine a_aload_n dX1_makeLine_140 rfl rfl ?_
    refine b_getR hK_1 kc_38 (i := 3) rfl fl_1_11 rfl (rm_38_3 B) dX1_makeLine_141 ?_
    refine a_iload dX1_makeLine_144 rfl ?_
    obtain ⟨g3, h⟩ := h_gS h
    refine b_aaload4 kc_39 (h_inV g3) (rm_JJ_39 B _ (h_in_lt (h_inV g3))) dX1_makeLine_146 ?_
    refine a_iload_n dX1_makeLine_147 rfl rfl ?_
    obtain ⟨g4, h⟩ := h_gS h
    refine b_laload (k_JJ_39 _ (h_in_lt (h_inV g3))) (h_inV g4) dX1_makeLine_148 ?_
    refine a_aload_n dX1_makeLine_149 rfl rfl ?_
    refine b_getR hK_1 kc_38 (i := 7) rfl fl_1_20 rfl (rm_38_7 B) dX1_makeLine_150 ?_
    refine a_iload dX1_makeLine_153 rfl ?_
    obtain ⟨g5, h⟩ := h_gS h
    refine b_laload kc_45 (h_inV g5) dX1_makeLine_155 ?_
    refine a_lmul dX1_makeLine_156 ?_
    refine a_aload_n dX1_makeLine_157 rfl rfl ?_
    refine b_getR hK_1 kc_38 (i := 3) rfl fl_1_11 rfl (rm_38_3 B) dX1_makeLine_158 ?_
    refine a_iload dX1_makeLine_161 rfl ?_
    obtain ⟨g6, h⟩ := h_gS h
    refine b_aaload4 kc_39 (h_inV g6) (rm_JJ_39 B _ (h_in_lt (h_inV g6))) dX1_makeLine_163 ?_
    refine a_iload_n dX1_makeLine_164 rfl rfl ?_
    obtain ⟨g7, h⟩ := h_gS h
    refine b_laload (k_JJ_39 _ (h_in_lt (h_inV g6))) (h_inV g7) dX1_makeLine_165 ?_
    refine a_aload_n dX1_makeLine_166 rfl rfl ?_
    refine b_getR hK_1 kc_38 (i := 7) rfl fl_1_20 rfl (rm_38_7 B) dX1_makeLine_167 ?_
    refine a_iload dX1_makeLine_170 rfl ?_
    obtain ⟨g8, h⟩ := h_gS h
    refine b_laload kc_45 (h_inV g8) dX1_makeLine_172 ?_
    refine a_lmul dX1_makeLine_173 ?_
    refine a_lsub dX1_makeLine_174 ?_
    obtain ⟨v6x8, ev6x8, h⟩ := h_letS h
    refine a_topJ ev6x8 ?_
    refine a_lstore (lv' := [(6, .long v6x8), (5, .int v5x1), (4, .int v4x0), (0, .ref 38), (1, .int v1), (2, .int v2), (3, .int v3)]) dX1_makeLine_175 (by decide) rfl ?_
    refine a_aload_n dX1_makeLine_177 rfl rfl ?_
    refine b_getR hK_1 kc_38 (i := 3) rfl fl_1_11 rfl (rm_38_3 B) dX1_makeLine_178 ?_
    refine a_iload dX1_makeLine_181 rfl ?_
    obtain ⟨g10, h⟩ := h_gS h
    refine b_aaload4 kc_39 (h_inV g10) (rm_JJ_39 B _ (h_in_lt (h_inV g10))) dX1_makeLine_183 ?_
    refine a_iload_n dX1_makeLine_184 rfl rfl ?_
    obtain ⟨g11, h⟩ := h_gS h
    refine b_laload (k_JJ_39 _ (h_in_lt (h_inV g10))) (h_inV g11) dX1_makeLine_185 ?_
    refine a_aload_n dX1_makeLine_186 rfl rfl ?_
    refine b_getR hK_1 kc_38 (i := 7) rfl fl_1_20 rfl (rm_38_7 B) dX1_makeLine_187 ?_
    refine a_iload dX1_makeLine_190 rfl ?_
    obtain ⟨g12, h⟩ := h_gS h
    refine b_laload kc_45 (h_inV g12) dX1_makeLine_192 ?_
    refine a_lmul dX1_makeLine_193 ?_
    refine a_aload_n dX1_makeLine_194 rfl rfl ?_
    refine b_getR hK_1 kc_38 (i := 3) rfl fl_1_11 rfl (rm_38_3 B) dX1_makeLine_195 ?_
    refine a_iload dX1_makeLine_198 rfl ?_
    obtain ⟨g13, h⟩ := h_gS h
    refine b_aaload4 kc_39 (h_inV g13) (rm_JJ_39 B _ (h_in_lt (h_inV g13))) dX1_makeLine_200 ?_
    refine a_iload_n dX1_makeLine_201 rfl rfl ?_
    obtain ⟨g14, h⟩ := h_gS h
    refine b_laload (k_JJ_39 _ (h_in_lt (h_inV g13))) (h_inV g14) dX1_makeLine_202 ?_
    refine a_aload_n dX1_makeLine_203 rfl rfl ?_
    refine b_getR hK_1 kc_38 (i := 7) rfl fl_1_20 rfl (rm_38_7 B) dX1_makeLine_204 ?_
    refine a_iload dX1_makeLine_207 rfl ?_
    obtain ⟨g15, h⟩ := h_gS h
    refine b_laload kc_45 (h_inV g15) dX1_makeLine_209 ?_
    refine a_lmul dX1_makeLine_210 ?_
    refine a_lsub dX1_makeLine_211 ?_
    obtain ⟨v8x15, ev8x15, h⟩ := h_letS h
    refine a_topJ ev8x15 ?_
    refine a_lstore (lv' := [(8, .long v8x15), (6, .long v6x8), (5, .int v5x1), (4, .int v4x0), (0, .ref 38), (1, .int v1), (2, .int v2), (3, .int v3)]) dX1_makeLine_212 (by decide) rfl ?_
    refine a_aload_n dX1_makeLine_214 rfl rfl ?_
    refine b_getR hK_1 kc_38 (i := 6) rfl fl_1_16 rfl (rm_38_6 B) dX1_makeLine_215 ?_
    refine a_iload_n dX1_makeLine_218 rfl rfl ?_
    refine a_aload_n dX1_makeLine_219 rfl rfl ?_
    refine b_getR hK_1 kc_38 (i := 3) rfl fl_1_11 rfl (rm_38_3 B) dX1_makeLine_220 ?_
    refine a_iconst dX1_makeLine_223 ic_3 ?_
    obtain ⟨g17, h⟩ := h_gS h
    refine b_aaload4 kc_39 (h_inV g17) (rm_JJ_39 B _ (h_in_lt (h_inV g17))) dX1_makeLine_224 ?_
    refine a_iload_n dX1_makeLine_225 rfl rfl ?_
    obtain ⟨g18, h⟩ := h_gS h
    refine b_laload (k_JJ_39 _ (h_in_lt (h_inV g17))) (h_inV g18) dX1_makeLine_226 ?_
    refine a_lload dX1_makeLine_227 rfl ?_
    refine a_lmul dX1_makeLine_229 ?_
    refine a_aload_n dX1_makeLine_230 rfl rfl ?_
    refine b_getR hK_1 kc_38 (i := 3) rfl fl_1_11 rfl (rm_38_3 B) dX1_makeLine_231 ?_
    refine a_iconst dX1_makeLine_234 ic_3 ?_
    obtain ⟨g19, h⟩ := h_gS h
    refine b_aaload4 kc_39 (h_inV g19) (rm_JJ_39 B _ (h_in_lt (h_inV g19))) dX1_makeLine_235 ?_
    refine a_iload_n dX1_makeLine_236 rfl rfl ?_
    obtain ⟨g20, h⟩ := h_gS h
    refine b_laload (k_JJ_39 _ (h_in_lt (h_inV g19))) (h_inV g20) dX1_makeLine_237 ?_
    refine a_lload dX1_makeLine_238 rfl ?_
    refine a_lmul dX1_makeLine_240 ?_
    refine a_ladd dX1_makeLine_241 ?_
    obtain ⟨g21, h⟩ := h_gS h
    refine b_lastore kc_44 (h_inV g21) dX1_makeLine_242 ?_
    obtain ⟨J22, eJ22, h⟩ := h_letS h
    refine a_memJ eJ22 ?_
    refine b_iinc (lv' := [(3, .int (v3 + (1 : Int32))), (8, .long v8x15), (6, .long v6x8), (5, .int v5x1), (4, .int v4x0), (0, .ref 38), (1, .int v1), (2, .int v2)]) dX1_makeLine_243 rfl ic_1 (by decide) rfl ?_
    refine a_goto (tgt := 121) dX1_makeLine_246 (by decide) ?_
    refine a_sub (lv' := [(0, .ref 38), (1, .int v1), (2, .int v2), (3, .int (v3 + (1 : Int32)))]) [5, 6, 7, 0] rfl ?_
    exact hk121 v1 v2 (v3 + (1 : Int32)) I J22 B _ h
def mCo_makeLine_L121  : Nat → Int32 → Int32 → Int32 → hJ → Option (Int32 × hJ)
  | 0 => fun _ _ _ _ => none
  | n + 1 => mCo_makeLine_B121 (mCo_makeLine_L121 n)
theorem sCo_makeLine_L121 (d : Nat) (hd : 0 + 1 ≤ d) : ∀ (n : Nat) (v1 : Int32) (v2 : Int32) (v3 : Int32) (I : hI) (J : hJ) (B : Bool × Bool) (q : Int32 × hJ) (h : mCo_makeLine_L121 n v1 v2 v3 J = some q), AW hFT cX1_makeLine 10 (some .boolean) RX1 kdC d [(0, .ref 38), (1, .int v1), (2, .int v2), (3, .int v3)] 121 [] (I, J, RM B) (some (.int q.1)) (I, q.2, RM B)
  | 0, _, _, _, _, _, _, q, h => by cases h
  | n + 1, v1, v2, v3, I, J, B, q, h => sCo_makeLine_B121 d hd (mCo_makeLine_L121 n) (sCo_makeLine_L121 d hd n) v1 v2 v3 I J B q h
def mCo_makeLine_B27 (k27 : Int32 → Int32 → Int32 → hJ → Option (Int32 × hJ)) (v1 : Int32) (v2 : Int32) (v3 : Int32) (J : hJ) : Option (Int32 × hJ) :=
  if (3 : Int32) ≤ v3 then
    mCo_makeLine_L121 hF v1 v2 (0 : Int32) J
  else
    (h_let ((v3 + (1 : Int32)) - (v3 + (1 : Int32)) / (3 : Int32) * (3 : Int32)) fun v4x0 =>
    h_let ((v3 + (2 : Int32)) - (v3 + (2 : Int32)) / (3 : Int32) * (3 : Int32)) fun v5x1 =>
    h_g (h_in v4x0 4) <|
    h_g (h_in v1 92) <|
    h_g (h_in v5x1 4) <|
    h_g (h_in v2 92) <|
    h_g (h_in v5x1 4) <|
    h_g (h_in v1 92) <|
    h_g (h_in v4x0 4) <|
    h_g (h_in v2 92) <|
    h_g (h_in v3 3) <|
    h_let (h_u J 45 v3.toNatClampNeg (((J (40 + v4x0.toNatClampNeg) v1.toNatClampNeg) * (J (40 + v5x1.toNatClampNeg) v2.toNatClampNeg)) - ((J (40 + v5x1.toNatClampNeg) v1.toNatClampNeg) * (J (40 + v4x0.toNatClampNeg) v2.toNatClampNeg)))) fun J12 =>
    h_g (h_in v3 3) <|
    h_g (h_in v3 3) <|
    h_let (h_u J12 38 8 ((J12 38 8) + ((J12 45 v3.toNatClampNeg) * (J12 45 v3.toNatClampNeg)))) fun J15 =>
    k27 v1 v2 (v3 + (1 : Int32)) J15)
set_option maxHeartbeats 4000000 in
theorem sCo_makeLine_B27 (d : Nat) (hd : 0 + 1 ≤ d) (k27 : Int32 → Int32 → Int32 → hJ → Option (Int32 × hJ)) (hk27 : ∀ (v1 : Int32) (v2 : Int32) (v3 : Int32) (I : hI) (J : hJ) (B : Bool × Bool) (q : Int32 × hJ), k27 v1 v2 v3 J = some q → AW hFT cX1_makeLine 10 (some .boolean) RX1 kdC d [(0, .ref 38), (1, .int v1), (2, .int v2), (3, .int v3)] 27 [] (I, J, RM B) (some (.int q.1)) (I, q.2, RM B)) (v1 : Int32) (v2 : Int32) (v3 : Int32) (I : hI) (J : hJ) (B : Bool × Bool) (q : Int32 × hJ) (h : mCo_makeLine_B27 k27 v1 v2 v3 J = some q) : AW hFT cX1_makeLine 10 (some .boolean) RX1 kdC d [(0, .ref 38), (1, .int v1), (2, .int v2), (3, .int v3)] 27 [] (I, J, RM B) (some (.int q.1)) (I, q.2, RM B) := by
  obtain ⟨d0, rfl, hd0⟩ := h_mono hd
  unfold mCo_makeLine_B27 at h
  refine a_iload_n dX1_makeLine_27 rfl rfl ?_
  refine a_iconst dX1_makeLine_28 ic_3 ?_
  refine a_icmp_ge (tgt := 119) dX1_makeLine_29 (by decide) (fun c => ?_) (fun c => ?_)
  · replace h := h_iteT c h
    refine a_iconst dX1_makeLine_119 ic_0 ?_
    refine a_istore_n (lv' := [(3, .int (0 : Int32)), (0, .ref 38), (1, .int v1), (2, .int v2)]) dX1_makeLine_120 rfl (by decide) rfl ?_
    refine a_sub (lv' := [(0, .ref 38), (1, .int v1), (2, .int v2), (3, .int (0 : Int32))]) [1, 2, 3, 0] rfl ?_
    exact sCo_makeLine_L121 (d0 + 1) (by omega) hF v1 v2 (0 : Int32) I J B _ h
  · replace h := h_iteF c h
    refine a_iload_n dX1_makeLine_32 rfl rfl ?_
    refine a_iconst dX1_makeLine_33 ic_1 ?_
    refine a_iadd dX1_makeLine_34 ?_
    refine a_iconst dX1_makeLine_35 ic_3 ?_
    refine a_irem dX1_makeLine_36 (by decide) ?_
    obtain ⟨v4x0, ev4x0, h⟩ := h_letS h
    refine a_topI ev4x0 ?_
    refine a_istore (lv' := [(4, .int v4x0), (0, .ref 38), (1, .int v1), (2, .int v2), (3, .int v3)]) dX1_makeLine_37 (by decide) rfl ?_
    refine a_iload_n dX1_makeLine_39 rfl rfl ?_
    refine a_iconst dX1_makeLine_40 ic_2 ?_
    refine a_iadd dX1_makeLine_41 ?_
    refine a_iconst dX1_makeLine_42 ic_3 ?_
    refine a_irem dX1_makeLine_43 (by decide) ?_
    obtain ⟨v5x1, ev5x1, h⟩ := h_letS h
    refine a_topI ev5x1 ?_
    refine a_istore (lv' := [(5, .int v5x1), (4, .int v4x0), (0, .ref 38), (1, .int v1), (2, .int v2), (3, .int v3)]) dX1_makeLine_44 (by decide) rfl ?_
    refine a_aload_n dX1_makeLine_46 rfl rfl ?_
    refine b_getR hK_1 kc_38 (i := 7) rfl fl_1_20 rfl (rm_38_7 B) dX1_makeLine_47 ?_
    refine a_iload_n dX1_makeLine_50 rfl rfl ?_
    refine a_aload_n dX1_makeLine_51 rfl rfl ?_
    refine b_getR hK_1 kc_38 (i := 3) rfl fl_1_11 rfl (rm_38_3 B) dX1_makeLine_52 ?_
    refine a_iload dX1_makeLine_55 rfl ?_
    obtain ⟨g3, h⟩ := h_gS h
    refine b_aaload4 kc_39 (h_inV g3) (rm_JJ_39 B _ (h_in_lt (h_inV g3))) dX1_makeLine_57 ?_
    refine a_iload_n dX1_makeLine_58 rfl rfl ?_
    obtain ⟨g4, h⟩ := h_gS h
    refine b_laload (k_JJ_39 _ (h_in_lt (h_inV g3))) (h_inV g4) dX1_makeLine_59 ?_
    refine a_aload_n dX1_makeLine_60 rfl rfl ?_
    refine b_getR hK_1 kc_38 (i := 3) rfl fl_1_11 rfl (rm_38_3 B) dX1_makeLine_61 ?_
    refine a_iload dX1_makeLine_64 rfl ?_
    obtain ⟨g5, h⟩ := h_gS h
    refine b_aaload4 kc_39 (h_inV g5) (rm_JJ_39 B _ (h_in_lt (h_inV g5))) dX1_makeLine_66 ?_
    refine a_iload_n dX1_makeLine_67 rfl rfl ?_
    obtain ⟨g6, h⟩ := h_gS h
    refine b_laload (k_JJ_39 _ (h_in_lt (h_inV g5))) (h_inV g6) dX1_makeLine_68 ?_
    refine a_lmul dX1_makeLine_69 ?_
    refine a_aload_n dX1_makeLine_70 rfl rfl ?_
    refine b_getR hK_1 kc_38 (i := 3) rfl fl_1_11 rfl (rm_38_3 B) dX1_makeLine_71 ?_
    refine a_iload dX1_makeLine_74 rfl ?_
    obtain ⟨g7, h⟩ := h_gS h
    refine b_aaload4 kc_39 (h_inV g7) (rm_JJ_39 B _ (h_in_lt (h_inV g7))) dX1_makeLine_76 ?_
    refine a_iload_n dX1_makeLine_77 rfl rfl ?_
    obtain ⟨g8, h⟩ := h_gS h
    refine b_laload (k_JJ_39 _ (h_in_lt (h_inV g7))) (h_inV g8) dX1_makeLine_78 ?_
    refine a_aload_n dX1_makeLine_79 rfl rfl ?_
    refine b_getR hK_1 kc_38 (i := 3) rfl fl_1_11 rfl (rm_38_3 B) dX1_makeLine_80 ?_
    refine a_iload dX1_makeLine_83 rfl ?_
    obtain ⟨g9, h⟩ := h_gS h
    refine b_aaload4 kc_39 (h_inV g9) (rm_JJ_39 B _ (h_in_lt (h_inV g9))) dX1_makeLine_85 ?_
    refine a_iload_n dX1_makeLine_86 rfl rfl ?_
    obtain ⟨g10, h⟩ := h_gS h
    refine b_laload (k_JJ_39 _ (h_in_lt (h_inV g9))) (h_inV g10) dX1_makeLine_87 ?_
    refine a_lmul dX1_makeLine_88 ?_
    refine a_lsub dX1_makeLine_89 ?_
    obtain ⟨g11, h⟩ := h_gS h
    refine b_lastore kc_45 (h_inV g11) dX1_makeLine_90 ?_
    obtain ⟨J12, eJ12, h⟩ := h_letS h
    refine a_memJ eJ12 ?_
    refine a_aload_n dX1_makeLine_91 rfl rfl ?_
    refine a_dup dX1_makeLine_92 rfl ?_
    refine b_getJ hK_1 kc_38 (i := 8) rfl fl_1_121 rfl dX1_makeLine_93 ?_
    refine a_aload_n dX1_makeLine_96 rfl rfl ?_
    refine b_getR hK_1 kc_38 (i := 7) rfl fl_1_20 rfl (rm_38_7 B) dX1_makeLine_97 ?_
    refine a_iload_n dX1_makeLine_100 rfl rfl ?_
    obtain ⟨g13, h⟩ := h_gS h
    refine b_laload kc_45 (h_inV g13) dX1_makeLine_101 ?_
    refine a_aload_n dX1_makeLine_102 rfl rfl ?_
    refine b_getR hK_1 kc_38 (i := 7) rfl fl_1_20 rfl (rm_38_7 B) dX1_makeLine_103 ?_
    refine a_iload_n dX1_makeLine_106 rfl rfl ?_
    obtain ⟨g14, h⟩ := h_gS h
    refine b_laload kc_45 (h_inV g14) dX1_makeLine_107 ?_
    refine a_lmul dX1_makeLine_108 ?_
    refine a_ladd dX1_makeLine_109 ?_
    refine b_putJ hK_1 kc_38 (i := 8) rfl fl_1_121 rfl rfl (h_NJ _) dX1_makeLine_110 ?_
    obtain ⟨J15, eJ15, h⟩ := h_letS h
    refine a_memJ eJ15 ?_
    refine b_iinc (lv' := [(3, .int (v3 + (1 : Int32))), (5, .int v5x1), (4, .int v4x0), (0, .ref 38), (1, .int v1), (2, .int v2)]) dX1_makeLine_113 rfl ic_1 (by decide) rfl ?_
    refine a_goto (tgt := 27) dX1_makeLine_116 (by decide) ?_
    refine a_sub (lv' := [(0, .ref 38), (1, .int v1), (2, .int v2), (3, .int (v3 + (1 : Int32)))]) [3, 4, 5, 0] rfl ?_
    exact hk27 v1 v2 (v3 + (1 : Int32)) I J15 B _ h
def mCo_makeLine_L27  : Nat → Int32 → Int32 → Int32 → hJ → Option (Int32 × hJ)
  | 0 => fun _ _ _ _ => none
  | n + 1 => mCo_makeLine_B27 (mCo_makeLine_L27 n)
theorem sCo_makeLine_L27 (d : Nat) (hd : 0 + 1 ≤ d) : ∀ (n : Nat) (v1 : Int32) (v2 : Int32) (v3 : Int32) (I : hI) (J : hJ) (B : Bool × Bool) (q : Int32 × hJ) (h : mCo_makeLine_L27 n v1 v2 v3 J = some q), AW hFT cX1_makeLine 10 (some .boolean) RX1 kdC d [(0, .ref 38), (1, .int v1), (2, .int v2), (3, .int v3)] 27 [] (I, J, RM B) (some (.int q.1)) (I, q.2, RM B)
  | 0, _, _, _, _, _, _, q, h => by cases h
  | n + 1, v1, v2, v3, I, J, B, q, h => sCo_makeLine_B27 d hd (mCo_makeLine_L27 n) (sCo_makeLine_L27 d hd n) v1 v2 v3 I J B q h
def mCo_makeLine  (v1 : Int32) (v2 : Int32) (J : hJ) : Option (Int32 × hJ) :=
  if (mC_isOutside v1 (92 : Int32)) = 0 then
    (if (mC_isOutside v2 (92 : Int32)) = 0 then
      (h_let (h_u J 38 8 (0 : Int64)) fun J1 =>
      mCo_makeLine_L27 hF v1 v2 (0 : Int32) J1)
    else
      some ((0 : Int32), J))
  else
    some ((0 : Int32), J)
set_option maxHeartbeats 4000000 in
theorem sCo_makeLine (d : Nat) (hd : 0 + 1 ≤ d) (v1 : Int32) (v2 : Int32) (I : hI) (J : hJ) (B : Bool × Bool) (q : Int32 × hJ) (h : mCo_makeLine v1 v2 J = some q) : HMet hFT yX1_makeLine cX1_makeLine 10 (some .boolean) kdC d [.ref 38, .int v1, .int v2] (I, J, RM B) (some (.int q.1)) (I, q.2, RM B) := by
  obtain ⟨d0, rfl, hd0⟩ := h_mono hd
  refine HMet.of (by decide) (Nat.le_of_ble_eq_true rfl) ?_
  show AW hFT cX1_makeLine 10 (some .boolean) RX1 kdC (d0 + 1) [(0, .ref 38), (1, .int v1), (2, .int v2)] 0 [] (I, J, RM B) (some (.int q.1)) (I, q.2, RM B)
  unfold mCo_makeLine at h
  refine a_iload_n dX1_makeLine_0 rfl rfl ?_
  refine a_bipush dX1_makeLine_1 bp_92 ?_
  refine a_callSN1 [] yy_X10_isOutside ml_1_67 (sC_isOutside _ (by omega) v1 (92 : Int32) I J B _ rfl) rfl rfl (Nat.le_of_ble_eq_true rfl) dX1_makeLine_3 ?_
  refine a_if_ne (tgt := 18) dX1_makeLine_6 (by decide) (fun c => ?_) (fun c => ?_)
  · replace h := h_iteF c h
    refine a_iconst dX1_makeLine_18 ic_0 ?_
    cases h
    exact a_zret (h_Z0.1) dX1_makeLine_19
  · replace h := h_iteT c h
    refine a_iload_n dX1_makeLine_9 rfl rfl ?_
    refine a_bipush dX1_makeLine_10 bp_92 ?_
    refine a_callSN1 [] yy_X10_isOutside ml_1_67 (sC_isOutside _ (by omega) v2 (92 : Int32) I J B _ rfl) rfl rfl (Nat.le_of_ble_eq_true rfl) dX1_makeLine_12 ?_
    refine a_if_eq (tgt := 20) dX1_makeLine_15 (by decide) (fun c => ?_) (fun c => ?_)
    · replace h := h_iteT c h
      refine a_aload_n dX1_makeLine_20 rfl rfl ?_
      refine a_lconst dX1_makeLine_21 lc_0 ?_
      refine b_putJ hK_1 kc_38 (i := 8) rfl fl_1_121 rfl rfl (h_NJ _) dX1_makeLine_22 ?_
      obtain ⟨J1, eJ1, h⟩ := h_letS h
      refine a_memJ eJ1 ?_
      refine a_iconst dX1_makeLine_25 ic_0 ?_
      refine a_istore_n (lv' := [(3, .int (0 : Int32)), (0, .ref 38), (1, .int v1), (2, .int v2)]) dX1_makeLine_26 rfl (by decide) rfl ?_
      refine a_sub (lv' := [(0, .ref 38), (1, .int v1), (2, .int v2), (3, .int (0 : Int32))]) [1, 2, 3, 0] rfl ?_
      exact sCo_makeLine_L27 (d0 + 1) (by omega) hF v1 v2 (0 : Int32) I J1 B _ h
    · replace h := h_iteF c h
      refine a_iconst dX1_makeLine_18 ic_0 ?_
      cases h
      exact a_zret (h_Z0.1) dX1_makeLine_19
/-! CoinLoops$Corners.raiseLow(JJ)V -/
theorem dX1_raiseLow_0 : decode cX1_raiseLow 0 = .ok (.aload_n 0, 1) := by decide +kernel
theorem dX1_raiseLow_1 : decode cX1_raiseLow 1 = .ok (.getfield 125, 3) := by decide +kernel
theorem dX1_raiseLow_4 : decode cX1_raiseLow 4 = .ok (.ifCond .eq 23, 3) := by decide +kernel
theorem dX1_raiseLow_7 : decode cX1_raiseLow 7 = .ok (.lload_n 1, 1) := by decide +kernel
theorem dX1_raiseLow_8 : decode cX1_raiseLow 8 = .ok (.aload_n 0, 1) := by decide +kernel
theorem dX1_raiseLow_9 : decode cX1_raiseLow 9 = .ok (.getfield 23, 3) := by decide +kernel
theorem dX1_raiseLow_12 : decode cX1_raiseLow 12 = .ok (.iconst 1, 1) := by decide +kernel
theorem dX1_raiseLow_13 : decode cX1_raiseLow 13 = .ok (.laload, 1) := by decide +kernel
theorem dX1_raiseLow_14 : decode cX1_raiseLow 14 = .ok (.lmul, 1) := by decide +kernel
theorem dX1_raiseLow_15 : decode cX1_raiseLow 15 = .ok (.aload_n 0, 1) := by decide +kernel
theorem dX1_raiseLow_16 : decode cX1_raiseLow 16 = .ok (.getfield 23, 3) := by decide +kernel
theorem dX1_raiseLow_19 : decode cX1_raiseLow 19 = .ok (.iconst 0, 1) := by decide +kernel
theorem dX1_raiseLow_20 : decode cX1_raiseLow 20 = .ok (.laload, 1) := by decide +kernel
theorem dX1_raiseLow_21 : decode cX1_raiseLow 21 = .ok (.lload_n 3, 1) := by decide +kernel
theorem dX1_raiseLow_22 : decode cX1_raiseLow 22 = .ok (.lmul, 1) := by decide +kernel
theorem dX1_raiseLow_23 : decode cX1_raiseLow 23 = .ok (.lcmp, 1) := by decide +kernel
theorem dX1_raiseLow_24 : decode cX1_raiseLow 24 = .ok (.ifCond .le 22, 3) := by decide +kernel
theorem dX1_raiseLow_27 : decode cX1_raiseLow 27 = .ok (.aload_n 0, 1) := by decide +kernel
theorem dX1_raiseLow_28 : decode cX1_raiseLow 28 = .ok (.iconst 1, 1) := by decide +kernel
theorem dX1_raiseLow_29 : decode cX1_raiseLow 29 = .ok (.putfield 125, 3) := by decide +kernel
theorem dX1_raiseLow_32 : decode cX1_raiseLow 32 = .ok (.aload_n 0, 1) := by decide +kernel
theorem dX1_raiseLow_33 : decode cX1_raiseLow 33 = .ok (.getfield 23, 3) := by decide +kernel
theorem dX1_raiseLow_36 : decode cX1_raiseLow 36 = .ok (.iconst 0, 1) := by decide +kernel
theorem dX1_raiseLow_37 : decode cX1_raiseLow 37 = .ok (.lload_n 1, 1) := by decide +kernel
theorem dX1_raiseLow_38 : decode cX1_raiseLow 38 = .ok (.lastore, 1) := by decide +kernel
theorem dX1_raiseLow_39 : decode cX1_raiseLow 39 = .ok (.aload_n 0, 1) := by decide +kernel
theorem dX1_raiseLow_40 : decode cX1_raiseLow 40 = .ok (.getfield 23, 3) := by decide +kernel
theorem dX1_raiseLow_43 : decode cX1_raiseLow 43 = .ok (.iconst 1, 1) := by decide +kernel
theorem dX1_raiseLow_44 : decode cX1_raiseLow 44 = .ok (.lload_n 3, 1) := by decide +kernel
theorem dX1_raiseLow_45 : decode cX1_raiseLow 45 = .ok (.lastore, 1) := by decide +kernel
theorem dX1_raiseLow_46 : decode cX1_raiseLow 46 = .ok (.return_, 1) := by decide +kernel
def mCo_raiseLow_27  (v1 : Int64) (v3 : Int64) (I : hI) (J : hJ) : Option (hI × hJ) :=
  h_let (h_u I 38 9 (1 : Int32)) fun I1 =>
  h_g (h_in (0 : Int32) 2) <|
  h_let (h_u J 46 (0 : Int32).toNatClampNeg v1) fun J3 =>
  h_g (h_in (1 : Int32) 2) <|
  h_let (h_u J3 46 (1 : Int32).toNatClampNeg v3) fun J5 =>
  some (I1, J5)
set_option maxHeartbeats 4000000 in
theorem sCo_raiseLow_27 (d : Nat) (hd : 0 ≤ d) (v1 : Int64) (v3 : Int64) (I : hI) (J : hJ) (B : Bool × Bool) (q : hI × hJ) (h : mCo_raiseLow_27 v1 v3 I J = some q) : AW hFT cX1_raiseLow 5 none RX1 kdC d [(0, .ref 38), (1, .long v1), (3, .long v3)] 27 [] (I, J, RM B) none (q.1, q.2, RM B) := by
  unfold mCo_raiseLow_27 at h
  refine a_aload_n dX1_raiseLow_27 rfl rfl ?_
  refine a_iconst dX1_raiseLow_28 ic_1 ?_
  refine b_putI hK_1 kc_38 (i := 9) rfl fl_1_125 rfl rfl h_Z1 dX1_raiseLow_29 ?_
  obtain ⟨I1, eI1, h⟩ := h_letS h
  refine a_memI eI1 ?_
  refine a_aload_n dX1_raiseLow_32 rfl rfl ?_
  refine b_getR hK_1 kc_38 (i := 11) rfl fl_1_23 rfl (rm_38_11 B) dX1_raiseLow_33 ?_
  refine a_iconst dX1_raiseLow_36 ic_0 ?_
  refine a_lload_n dX1_raiseLow_37 rfl rfl ?_
  obtain ⟨g2, h⟩ := h_gS h
  refine b_lastore kc_46 (h_inV g2) dX1_raiseLow_38 ?_
  obtain ⟨J3, eJ3, h⟩ := h_letS h
  refine a_memJ eJ3 ?_
  refine a_aload_n dX1_raiseLow_39 rfl rfl ?_
  refine b_getR hK_1 kc_38 (i := 11) rfl fl_1_23 rfl (rm_38_11 B) dX1_raiseLow_40 ?_
  refine a_iconst dX1_raiseLow_43 ic_1 ?_
  refine a_lload_n dX1_raiseLow_44 rfl rfl ?_
  obtain ⟨g4, h⟩ := h_gS h
  refine b_lastore kc_46 (h_inV g4) dX1_raiseLow_45 ?_
  obtain ⟨J5, eJ5, h⟩ := h_letS h
  refine a_memJ eJ5 ?_
  cases h
  exact a_vret dX1_raiseLow_46
def mCo_raiseLow  (v1 : Int64) (v3 : Int64) (I : hI) (J : hJ) : Option (hI × hJ) :=
  if (I 38 9) = 0 then
    mCo_raiseLow_27 v1 v3 I J
  else
    (h_g (h_in (1 : Int32) 2) <|
    h_g (h_in (0 : Int32) 2) <|
    if (v1 * (J 46 (1 : Int32).toNatClampNeg)) ≤ ((J 46 (0 : Int32).toNatClampNeg) * v3) then
      some (I, J)
    else
      mCo_raiseLow_27 v1 v3 I J)
set_option maxHeartbeats 4000000 in
theorem sCo_raiseLow (d : Nat) (hd : 0 ≤ d) (v1 : Int64) (v3 : Int64) (I : hI) (J : hJ) (B : Bool × Bool) (q : hI × hJ) (h : mCo_raiseLow v1 v3 I J = some q) : HMet hFT yX1_raiseLow cX1_raiseLow 5 none kdC d [.ref 38, .long v1, .long v3] (I, J, RM B) none (q.1, q.2, RM B) := by
  refine HMet.of (by decide) (Nat.le_of_ble_eq_true rfl) ?_
  show AW hFT cX1_raiseLow 5 none RX1 kdC d [(0, .ref 38), (1, .long v1), (3, .long v3)] 0 [] (I, J, RM B) none (q.1, q.2, RM B)
  unfold mCo_raiseLow at h
  refine a_aload_n dX1_raiseLow_0 rfl rfl ?_
  refine b_getI hK_1 kc_38 (i := 9) rfl fl_1_125 rfl dX1_raiseLow_1 ?_
  refine a_if_eq (tgt := 27) dX1_raiseLow_4 (by decide) (fun c => ?_) (fun c => ?_)
  · replace h := h_iteT c h
    exact sCo_raiseLow_27 d (by omega) v1 v3 I J B _ h
  · replace h := h_iteF c h
    refine a_lload_n dX1_raiseLow_7 rfl rfl ?_
    refine a_aload_n dX1_raiseLow_8 rfl rfl ?_
    refine b_getR hK_1 kc_38 (i := 11) rfl fl_1_23 rfl (rm_38_11 B) dX1_raiseLow_9 ?_
    refine a_iconst dX1_raiseLow_12 ic_1 ?_
    obtain ⟨g1, h⟩ := h_gS h
    refine b_laload kc_46 (h_inV g1) dX1_raiseLow_13 ?_
    refine a_lmul dX1_raiseLow_14 ?_
    refine a_aload_n dX1_raiseLow_15 rfl rfl ?_
    refine b_getR hK_1 kc_38 (i := 11) rfl fl_1_23 rfl (rm_38_11 B) dX1_raiseLow_16 ?_
    refine a_iconst dX1_raiseLow_19 ic_0 ?_
    obtain ⟨g2, h⟩ := h_gS h
    refine b_laload kc_46 (h_inV g2) dX1_raiseLow_20 ?_
    refine a_lload_n dX1_raiseLow_21 rfl rfl ?_
    refine a_lmul dX1_raiseLow_22 ?_
    refine a_lcmp_le (tgt := 46) dX1_raiseLow_23 dX1_raiseLow_24 (by decide) (fun c => ?_) (fun c => ?_)
    · replace h := h_iteT c h
      cases h
      exact a_vret dX1_raiseLow_46
    · replace h := h_iteF c h
      exact sCo_raiseLow_27 d (by omega) v1 v3 I J B _ h
/-! CoinLoops$Corners.sinkHigh(JJ)V -/
theorem dX1_sinkHigh_0 : decode cX1_sinkHigh 0 = .ok (.aload_n 0, 1) := by decide +kernel
theorem dX1_sinkHigh_1 : decode cX1_sinkHigh 1 = .ok (.getfield 128, 3) := by decide +kernel
theorem dX1_sinkHigh_4 : decode cX1_sinkHigh 4 = .ok (.ifCond .eq 23, 3) := by decide +kernel
theorem dX1_sinkHigh_7 : decode cX1_sinkHigh 7 = .ok (.lload_n 1, 1) := by decide +kernel
theorem dX1_sinkHigh_8 : decode cX1_sinkHigh 8 = .ok (.aload_n 0, 1) := by decide +kernel
theorem dX1_sinkHigh_9 : decode cX1_sinkHigh 9 = .ok (.getfield 26, 3) := by decide +kernel
theorem dX1_sinkHigh_12 : decode cX1_sinkHigh 12 = .ok (.iconst 1, 1) := by decide +kernel
theorem dX1_sinkHigh_13 : decode cX1_sinkHigh 13 = .ok (.laload, 1) := by decide +kernel
theorem dX1_sinkHigh_14 : decode cX1_sinkHigh 14 = .ok (.lmul, 1) := by decide +kernel
theorem dX1_sinkHigh_15 : decode cX1_sinkHigh 15 = .ok (.aload_n 0, 1) := by decide +kernel
theorem dX1_sinkHigh_16 : decode cX1_sinkHigh 16 = .ok (.getfield 26, 3) := by decide +kernel
theorem dX1_sinkHigh_19 : decode cX1_sinkHigh 19 = .ok (.iconst 0, 1) := by decide +kernel
theorem dX1_sinkHigh_20 : decode cX1_sinkHigh 20 = .ok (.laload, 1) := by decide +kernel
theorem dX1_sinkHigh_21 : decode cX1_sinkHigh 21 = .ok (.lload_n 3, 1) := by decide +kernel
theorem dX1_sinkHigh_22 : decode cX1_sinkHigh 22 = .ok (.lmul, 1) := by decide +kernel
theorem dX1_sinkHigh_23 : decode cX1_sinkHigh 23 = .ok (.lcmp, 1) := by decide +kernel
theorem dX1_sinkHigh_24 : decode cX1_sinkHigh 24 = .ok (.ifCond .ge 22, 3) := by decide +kernel
theorem dX1_sinkHigh_27 : decode cX1_sinkHigh 27 = .ok (.aload_n 0, 1) := by decide +kernel
theorem dX1_sinkHigh_28 : decode cX1_sinkHigh 28 = .ok (.iconst 1, 1) := by decide +kernel
theorem dX1_sinkHigh_29 : decode cX1_sinkHigh 29 = .ok (.putfield 128, 3) := by decide +kernel
theorem dX1_sinkHigh_32 : decode cX1_sinkHigh 32 = .ok (.aload_n 0, 1) := by decide +kernel
theorem dX1_sinkHigh_33 : decode cX1_sinkHigh 33 = .ok (.getfield 26, 3) := by decide +kernel
theorem dX1_sinkHigh_36 : decode cX1_sinkHigh 36 = .ok (.iconst 0, 1) := by decide +kernel
theorem dX1_sinkHigh_37 : decode cX1_sinkHigh 37 = .ok (.lload_n 1, 1) := by decide +kernel
theorem dX1_sinkHigh_38 : decode cX1_sinkHigh 38 = .ok (.lastore, 1) := by decide +kernel
theorem dX1_sinkHigh_39 : decode cX1_sinkHigh 39 = .ok (.aload_n 0, 1) := by decide +kernel
theorem dX1_sinkHigh_40 : decode cX1_sinkHigh 40 = .ok (.getfield 26, 3) := by decide +kernel
theorem dX1_sinkHigh_43 : decode cX1_sinkHigh 43 = .ok (.iconst 1, 1) := by decide +kernel
theorem dX1_sinkHigh_44 : decode cX1_sinkHigh 44 = .ok (.lload_n 3, 1) := by decide +kernel
theorem dX1_sinkHigh_45 : decode cX1_sinkHigh 45 = .ok (.lastore, 1) := by decide +kernel
theorem dX1_sinkHigh_46 : decode cX1_sinkHigh 46 = .ok (.return_, 1) := by decide +kernel
def mCo_sinkHigh_27  (v1 : Int64) (v3 : Int64) (I : hI) (J : hJ) : Option (hI × hJ) :=
  h_let (h_u I 38 10 (1 : Int32)) fun I1 =>
  h_g (h_in (0 : Int32) 2) <|
  h_let (h_u J 47 (0 : Int32).toNatClampNeg v1) fun J3 =>
  h_g (h_in (1 : Int32) 2) <|
  h_let (h_u J3 47 (1 : Int32).toNatClampNeg v3) fun J5 =>
  some (I1, J5)
set_option maxHeartbeats 4000000 in
theorem sCo_sinkHigh_27 (d : Nat) (hd : 0 ≤ d) (v1 : Int64) (v3 : Int64) (I : hI) (J : hJ) (B : Bool × Bool) (q : hI × hJ) (h : mCo_sinkHigh_27 v1 v3 I J = some q) : AW hFT cX1_sinkHigh 5 none RX1 kdC d [(0, .ref 38), (1, .long v1), (3, .long v3)] 27 [] (I, J, RM B) none (q.1, q.2, RM B) := by
  unfold mCo_sinkHigh_27 at h
  refine a_aload_n dX1_sinkHigh_27 rfl rfl ?_
  refine a_iconst dX1_sinkHigh_28 ic_1 ?_
  refine b_putI hK_1 kc_38 (i := 10) rfl fl_1_128 rfl rfl h_Z1 dX1_sinkHigh_29 ?_
  obtain ⟨I1, eI1, h⟩ := h_letS h
  refine a_memI eI1 ?_
  refine a_aload_n dX1_sinkHigh_32 rfl rfl ?_
  refine b_getR hK_1 kc_38 (i := 12) rfl fl_1_26 rfl (rm_38_12 B) dX1_sinkHigh_33 ?_
  refine a_iconst dX1_sinkHigh_36 ic_0 ?_
  refine a_lload_n dX1_sinkHigh_37 rfl rfl ?_
  obtain ⟨g2, h⟩ := h_gS h
  refine b_lastore kc_47 (h_inV g2) dX1_sinkHigh_38 ?_
  obtain ⟨J3, eJ3, h⟩ := h_letS h
  refine a_memJ eJ3 ?_
  refine a_aload_n dX1_sinkHigh_39 rfl rfl ?_
  refine b_getR hK_1 kc_38 (i := 12) rfl fl_1_26 rfl (rm_38_12 B) dX1_sinkHigh_40 ?_
  refine a_iconst dX1_sinkHigh_43 ic_1 ?_
  refine a_lload_n dX1_sinkHigh_44 rfl rfl ?_
  obtain ⟨g4, h⟩ := h_gS h
  refine b_lastore kc_47 (h_inV g4) dX1_sinkHigh_45 ?_
  obtain ⟨J5, eJ5, h⟩ := h_letS h
  refine a_memJ eJ5 ?_
  cases h
  exact a_vret dX1_sinkHigh_46
def mCo_sinkHigh  (v1 : Int64) (v3 : Int64) (I : hI) (J : hJ) : Option (hI × hJ) :=
  if (I 38 10) = 0 then
    mCo_sinkHigh_27 v1 v3 I J
  else
    (h_g (h_in (1 : Int32) 2) <|
    h_g (h_in (0 : Int32) 2) <|
    if ((J 47 (0 : Int32).toNatClampNeg) * v3) ≤ (v1 * (J 47 (1 : Int32).toNatClampNeg)) then
      some (I, J)
    else
      mCo_sinkHigh_27 v1 v3 I J)
set_option maxHeartbeats 4000000 in
theorem sCo_sinkHigh (d : Nat) (hd : 0 ≤ d) (v1 : Int64) (v3 : Int64) (I : hI) (J : hJ) (B : Bool × Bool) (q : hI × hJ) (h : mCo_sinkHigh v1 v3 I J = some q) : HMet hFT yX1_sinkHigh cX1_sinkHigh 5 none kdC d [.ref 38, .long v1, .long v3] (I, J, RM B) none (q.1, q.2, RM B) := by
  refine HMet.of (by decide) (Nat.le_of_ble_eq_true rfl) ?_
  show AW hFT cX1_sinkHigh 5 none RX1 kdC d [(0, .ref 38), (1, .long v1), (3, .long v3)] 0 [] (I, J, RM B) none (q.1, q.2, RM B)
  unfold mCo_sinkHigh at h
  refine a_aload_n dX1_sinkHigh_0 rfl rfl ?_
  refine b_getI hK_1 kc_38 (i := 10) rfl fl_1_128 rfl dX1_sinkHigh_1 ?_
  refine a_if_eq (tgt := 27) dX1_sinkHigh_4 (by decide) (fun c => ?_) (fun c => ?_)
  · replace h := h_iteT c h
    exact sCo_sinkHigh_27 d (by omega) v1 v3 I J B _ h
  · replace h := h_iteF c h
    refine a_lload_n dX1_sinkHigh_7 rfl rfl ?_
    refine a_aload_n dX1_sinkHigh_8 rfl rfl ?_
    refine b_getR hK_1 kc_38 (i := 12) rfl fl_1_26 rfl (rm_38_12 B) dX1_sinkHigh_9 ?_
    refine a_iconst dX1_sinkHigh_12 ic_1 ?_
    obtain ⟨g1, h⟩ := h_gS h
    refine b_laload kc_47 (h_inV g1) dX1_sinkHigh_13 ?_
    refine a_lmul dX1_sinkHigh_14 ?_
    refine a_aload_n dX1_sinkHigh_15 rfl rfl ?_
    refine b_getR hK_1 kc_38 (i := 12) rfl fl_1_26 rfl (rm_38_12 B) dX1_sinkHigh_16 ?_
    refine a_iconst dX1_sinkHigh_19 ic_0 ?_
    obtain ⟨g2, h⟩ := h_gS h
    refine b_laload kc_47 (h_inV g2) dX1_sinkHigh_20 ?_
    refine a_lload_n dX1_sinkHigh_21 rfl rfl ?_
    refine a_lmul dX1_sinkHigh_22 ?_
    refine a_lcmp_ge (tgt := 46) dX1_sinkHigh_23 dX1_sinkHigh_24 (by decide) (fun c => ?_) (fun c => ?_)
    · replace h := h_iteT c h
      cases h
      exact a_vret dX1_sinkHigh_46
    · replace h := h_iteF c h
      exact sCo_sinkHigh_27 d (by omega) v1 v3 I J B _ h
/-! CoinLoops$Corners.cutLine()Z -/
theorem dX1_cutLine_0 : decode cX1_cutLine 0 = .ok (.aload_n 0, 1) := by decide +kernel
theorem dX1_cutLine_1 : decode cX1_cutLine 1 = .ok (.iconst 0, 1) := by decide +kernel
theorem dX1_cutLine_2 : decode cX1_cutLine 2 = .ok (.putfield 125, 3) := by decide +kernel
theorem dX1_cutLine_5 : decode cX1_cutLine 5 = .ok (.aload_n 0, 1) := by decide +kernel
theorem dX1_cutLine_6 : decode cX1_cutLine 6 = .ok (.iconst 0, 1) := by decide +kernel
theorem dX1_cutLine_7 : decode cX1_cutLine 7 = .ok (.putfield 128, 3) := by decide +kernel
theorem dX1_cutLine_10 : decode cX1_cutLine 10 = .ok (.aload_n 0, 1) := by decide +kernel
theorem dX1_cutLine_11 : decode cX1_cutLine 11 = .ok (.getfield 49, 3) := by decide +kernel
theorem dX1_cutLine_14 : decode cX1_cutLine 14 = .ok (.istore_n 1, 1) := by decide +kernel
theorem dX1_cutLine_15 : decode cX1_cutLine 15 = .ok (.iload_n 1, 1) := by decide +kernel
theorem dX1_cutLine_16 : decode cX1_cutLine 16 = .ok (.aload_n 0, 1) := by decide +kernel
theorem dX1_cutLine_17 : decode cX1_cutLine 17 = .ok (.getfield 53, 3) := by decide +kernel
theorem dX1_cutLine_20 : decode cX1_cutLine 20 = .ok (.if_icmp .ge 181, 3) := by decide +kernel
theorem dX1_cutLine_23 : decode cX1_cutLine 23 = .ok (.iload_n 1, 1) := by decide +kernel
theorem dX1_cutLine_24 : decode cX1_cutLine 24 = .ok (.bipush 92, 2) := by decide +kernel
theorem dX1_cutLine_26 : decode cX1_cutLine 26 = .ok (.if_icmp .ge 175, 3) := by decide +kernel
theorem dX1_cutLine_29 : decode cX1_cutLine 29 = .ok (.lconst 0, 1) := by decide +kernel
theorem dX1_cutLine_30 : decode cX1_cutLine 30 = .ok (.lstore_n 2, 1) := by decide +kernel
theorem dX1_cutLine_31 : decode cX1_cutLine 31 = .ok (.aload_n 0, 1) := by decide +kernel
theorem dX1_cutLine_32 : decode cX1_cutLine 32 = .ok (.getfield 11, 3) := by decide +kernel
theorem dX1_cutLine_35 : decode cX1_cutLine 35 = .ok (.iconst 3, 1) := by decide +kernel
theorem dX1_cutLine_36 : decode cX1_cutLine 36 = .ok (.aaload, 1) := by decide +kernel
theorem dX1_cutLine_37 : decode cX1_cutLine 37 = .ok (.iload_n 1, 1) := by decide +kernel
theorem dX1_cutLine_38 : decode cX1_cutLine 38 = .ok (.laload, 1) := by decide +kernel
theorem dX1_cutLine_39 : decode cX1_cutLine 39 = .ok (.aload_n 0, 1) := by decide +kernel
theorem dX1_cutLine_40 : decode cX1_cutLine 40 = .ok (.getfield 121, 3) := by decide +kernel
theorem dX1_cutLine_43 : decode cX1_cutLine 43 = .ok (.lmul, 1) := by decide +kernel
theorem dX1_cutLine_44 : decode cX1_cutLine 44 = .ok (.lstore 4, 2) := by decide +kernel
theorem dX1_cutLine_46 : decode cX1_cutLine 46 = .ok (.iconst 0, 1) := by decide +kernel
theorem dX1_cutLine_47 : decode cX1_cutLine 47 = .ok (.istore 6, 2) := by decide +kernel
theorem dX1_cutLine_49 : decode cX1_cutLine 49 = .ok (.iload 6, 2) := by decide +kernel
theorem dX1_cutLine_51 : decode cX1_cutLine 51 = .ok (.iconst 3, 1) := by decide +kernel
theorem dX1_cutLine_52 : decode cX1_cutLine 52 = .ok (.if_icmp .ge 51, 3) := by decide +kernel
theorem dX1_cutLine_55 : decode cX1_cutLine 55 = .ok (.lload_n 2, 1) := by decide +kernel
theorem dX1_cutLine_56 : decode cX1_cutLine 56 = .ok (.aload_n 0, 1) := by decide +kernel
theorem dX1_cutLine_57 : decode cX1_cutLine 57 = .ok (.getfield 11, 3) := by decide +kernel
theorem dX1_cutLine_60 : decode cX1_cutLine 60 = .ok (.iload 6, 2) := by decide +kernel
theorem dX1_cutLine_62 : decode cX1_cutLine 62 = .ok (.aaload, 1) := by decide +kernel
theorem dX1_cutLine_63 : decode cX1_cutLine 63 = .ok (.iload_n 1, 1) := by decide +kernel
theorem dX1_cutLine_64 : decode cX1_cutLine 64 = .ok (.laload, 1) := by decide +kernel
theorem dX1_cutLine_65 : decode cX1_cutLine 65 = .ok (.aload_n 0, 1) := by decide +kernel
theorem dX1_cutLine_66 : decode cX1_cutLine 66 = .ok (.getfield 20, 3) := by decide +kernel
theorem dX1_cutLine_69 : decode cX1_cutLine 69 = .ok (.iload 6, 2) := by decide +kernel
theorem dX1_cutLine_71 : decode cX1_cutLine 71 = .ok (.laload, 1) := by decide +kernel
theorem dX1_cutLine_72 : decode cX1_cutLine 72 = .ok (.lmul, 1) := by decide +kernel
theorem dX1_cutLine_73 : decode cX1_cutLine 73 = .ok (.ladd, 1) := by decide +kernel
theorem dX1_cutLine_74 : decode cX1_cutLine 74 = .ok (.lstore_n 2, 1) := by decide +kernel
theorem dX1_cutLine_75 : decode cX1_cutLine 75 = .ok (.lload 4, 2) := by decide +kernel
theorem dX1_cutLine_77 : decode cX1_cutLine 77 = .ok (.aload_n 0, 1) := by decide +kernel
theorem dX1_cutLine_78 : decode cX1_cutLine 78 = .ok (.getfield 11, 3) := by decide +kernel
theorem dX1_cutLine_81 : decode cX1_cutLine 81 = .ok (.iload 6, 2) := by decide +kernel
theorem dX1_cutLine_83 : decode cX1_cutLine 83 = .ok (.aaload, 1) := by decide +kernel
theorem dX1_cutLine_84 : decode cX1_cutLine 84 = .ok (.iload_n 1, 1) := by decide +kernel
theorem dX1_cutLine_85 : decode cX1_cutLine 85 = .ok (.laload, 1) := by decide +kernel
theorem dX1_cutLine_86 : decode cX1_cutLine 86 = .ok (.aload_n 0, 1) := by decide +kernel
theorem dX1_cutLine_87 : decode cX1_cutLine 87 = .ok (.getfield 16, 3) := by decide +kernel
theorem dX1_cutLine_90 : decode cX1_cutLine 90 = .ok (.iload 6, 2) := by decide +kernel
theorem dX1_cutLine_92 : decode cX1_cutLine 92 = .ok (.laload, 1) := by decide +kernel
theorem dX1_cutLine_93 : decode cX1_cutLine 93 = .ok (.lmul, 1) := by decide +kernel
theorem dX1_cutLine_94 : decode cX1_cutLine 94 = .ok (.lsub, 1) := by decide +kernel
theorem dX1_cutLine_95 : decode cX1_cutLine 95 = .ok (.lstore 4, 2) := by decide +kernel
theorem dX1_cutLine_97 : decode cX1_cutLine 97 = .ok (.iinc 6 1, 3) := by decide +kernel
theorem dX1_cutLine_100 : decode cX1_cutLine 100 = .ok (.goto (-51), 3) := by decide +kernel
theorem dX1_cutLine_103 : decode cX1_cutLine 103 = .ok (.lload_n 2, 1) := by decide +kernel
theorem dX1_cutLine_104 : decode cX1_cutLine 104 = .ok (.lconst 0, 1) := by decide +kernel
theorem dX1_cutLine_105 : decode cX1_cutLine 105 = .ok (.lcmp, 1) := by decide +kernel
theorem dX1_cutLine_106 : decode cX1_cutLine 106 = .ok (.ifCond .ne 12, 3) := by decide +kernel
theorem dX1_cutLine_109 : decode cX1_cutLine 109 = .ok (.lload 4, 2) := by decide +kernel
theorem dX1_cutLine_111 : decode cX1_cutLine 111 = .ok (.lconst 0, 1) := by decide +kernel
theorem dX1_cutLine_112 : decode cX1_cutLine 112 = .ok (.lcmp, 1) := by decide +kernel
theorem dX1_cutLine_113 : decode cX1_cutLine 113 = .ok (.ifCond .le 5, 3) := by decide +kernel
theorem dX1_cutLine_116 : decode cX1_cutLine 116 = .ok (.iconst 0, 1) := by decide +kernel
theorem dX1_cutLine_117 : decode cX1_cutLine 117 = .ok (.ireturn, 1) := by decide +kernel
theorem dX1_cutLine_118 : decode cX1_cutLine 118 = .ok (.lload_n 2, 1) := by decide +kernel
theorem dX1_cutLine_119 : decode cX1_cutLine 119 = .ok (.lconst 0, 1) := by decide +kernel
theorem dX1_cutLine_120 : decode cX1_cutLine 120 = .ok (.lcmp, 1) := by decide +kernel
theorem dX1_cutLine_121 : decode cX1_cutLine 121 = .ok (.ifCond .le 13, 3) := by decide +kernel
theorem dX1_cutLine_124 : decode cX1_cutLine 124 = .ok (.aload_n 0, 1) := by decide +kernel
theorem dX1_cutLine_125 : decode cX1_cutLine 125 = .ok (.lload 4, 2) := by decide +kernel
theorem dX1_cutLine_127 : decode cX1_cutLine 127 = .ok (.lload_n 2, 1) := by decide +kernel
theorem dX1_cutLine_128 : decode cX1_cutLine 128 = .ok (.invokevirtual 131, 3) := by decide +kernel
theorem dX1_cutLine_131 : decode cX1_cutLine 131 = .ok (.goto 18, 3) := by decide +kernel
theorem dX1_cutLine_134 : decode cX1_cutLine 134 = .ok (.lload_n 2, 1) := by decide +kernel
theorem dX1_cutLine_135 : decode cX1_cutLine 135 = .ok (.lconst 0, 1) := by decide +kernel
theorem dX1_cutLine_136 : decode cX1_cutLine 136 = .ok (.lcmp, 1) := by decide +kernel
theorem dX1_cutLine_137 : decode cX1_cutLine 137 = .ok (.ifCond .ge 12, 3) := by decide +kernel
theorem dX1_cutLine_140 : decode cX1_cutLine 140 = .ok (.aload_n 0, 1) := by decide +kernel
theorem dX1_cutLine_141 : decode cX1_cutLine 141 = .ok (.lload 4, 2) := by decide +kernel
theorem dX1_cutLine_143 : decode cX1_cutLine 143 = .ok (.lneg, 1) := by decide +kernel
theorem dX1_cutLine_144 : decode cX1_cutLine 144 = .ok (.lload_n 2, 1) := by decide +kernel
theorem dX1_cutLine_145 : decode cX1_cutLine 145 = .ok (.lneg, 1) := by decide +kernel
theorem dX1_cutLine_146 : decode cX1_cutLine 146 = .ok (.invokevirtual 135, 3) := by decide +kernel
theorem dX1_cutLine_149 : decode cX1_cutLine 149 = .ok (.aload_n 0, 1) := by decide +kernel
theorem dX1_cutLine_150 : decode cX1_cutLine 150 = .ok (.getfield 125, 3) := by decide +kernel
theorem dX1_cutLine_153 : decode cX1_cutLine 153 = .ok (.ifCond .eq 42, 3) := by decide +kernel
theorem dX1_cutLine_156 : decode cX1_cutLine 156 = .ok (.aload_n 0, 1) := by decide +kernel
theorem dX1_cutLine_157 : decode cX1_cutLine 157 = .ok (.getfield 128, 3) := by decide +kernel
theorem dX1_cutLine_160 : decode cX1_cutLine 160 = .ok (.ifCond .eq 35, 3) := by decide +kernel
theorem dX1_cutLine_163 : decode cX1_cutLine 163 = .ok (.aload_n 0, 1) := by decide +kernel
theorem dX1_cutLine_164 : decode cX1_cutLine 164 = .ok (.getfield 23, 3) := by decide +kernel
theorem dX1_cutLine_167 : decode cX1_cutLine 167 = .ok (.iconst 0, 1) := by decide +kernel
theorem dX1_cutLine_168 : decode cX1_cutLine 168 = .ok (.laload, 1) := by decide +kernel
theorem dX1_cutLine_169 : decode cX1_cutLine 169 = .ok (.aload_n 0, 1) := by decide +kernel
theorem dX1_cutLine_170 : decode cX1_cutLine 170 = .ok (.getfield 26, 3) := by decide +kernel
theorem dX1_cutLine_173 : decode cX1_cutLine 173 = .ok (.iconst 1, 1) := by decide +kernel
theorem dX1_cutLine_174 : decode cX1_cutLine 174 = .ok (.laload, 1) := by decide +kernel
theorem dX1_cutLine_175 : decode cX1_cutLine 175 = .ok (.lmul, 1) := by decide +kernel
theorem dX1_cutLine_176 : decode cX1_cutLine 176 = .ok (.aload_n 0, 1) := by decide +kernel
theorem dX1_cutLine_177 : decode cX1_cutLine 177 = .ok (.getfield 26, 3) := by decide +kernel
theorem dX1_cutLine_180 : decode cX1_cutLine 180 = .ok (.iconst 0, 1) := by decide +kernel
theorem dX1_cutLine_181 : decode cX1_cutLine 181 = .ok (.laload, 1) := by decide +kernel
theorem dX1_cutLine_182 : decode cX1_cutLine 182 = .ok (.aload_n 0, 1) := by decide +kernel
theorem dX1_cutLine_183 : decode cX1_cutLine 183 = .ok (.getfield 23, 3) := by decide +kernel
theorem dX1_cutLine_186 : decode cX1_cutLine 186 = .ok (.iconst 1, 1) := by decide +kernel
theorem dX1_cutLine_187 : decode cX1_cutLine 187 = .ok (.laload, 1) := by decide +kernel
theorem dX1_cutLine_188 : decode cX1_cutLine 188 = .ok (.lmul, 1) := by decide +kernel
theorem dX1_cutLine_189 : decode cX1_cutLine 189 = .ok (.lcmp, 1) := by decide +kernel
theorem dX1_cutLine_190 : decode cX1_cutLine 190 = .ok (.ifCond .le 5, 3) := by decide +kernel
theorem dX1_cutLine_193 : decode cX1_cutLine 193 = .ok (.iconst 0, 1) := by decide +kernel
theorem dX1_cutLine_194 : decode cX1_cutLine 194 = .ok (.ireturn, 1) := by decide +kernel
theorem dX1_cutLine_195 : decode cX1_cutLine 195 = .ok (.iinc 1 1, 3) := by decide +kernel
theorem dX1_cutLine_198 : decode cX1_cutLine 198 = .ok (.goto (-183), 3) := by decide +kernel
theorem dX1_cutLine_201 : decode cX1_cutLine 201 = .ok (.iconst 1, 1) := by decide +kernel
theorem dX1_cutLine_202 : decode cX1_cutLine 202 = .ok (.ireturn, 1) := by decide +kernel
def mCo_cutLine_149 (k15 : Int32 → hI → hJ → Option (Int32 × hI × hJ)) (v1 : Int32) (I : hI) (J : hJ) : Option (Int32 × hI × hJ) :=
  if (I 38 9) = 0 then
    k15 (v1 + (1 : Int32)) I J
  else
    (if (I 38 10) = 0 then
      k15 (v1 + (1 : Int32)) I J
    else
      (h_g (h_in (0 : Int32) 2) <|
      h_g (h_in (1 : Int32) 2) <|
      h_g (h_in (0 : Int32) 2) <|
      h_g (h_in (1 : Int32) 2) <|
      if ((J 46 (0 : Int32).toNatClampNeg) * (J 47 (1 : Int32).toNatClampNeg)) ≤ ((J 47 (0 : Int32).toNatClampNeg) * (J 46 (1 : Int32).toNatClampNeg)) then
        k15 (v1 + (1 : Int32)) I J
      else
        some ((0 : Int32), I, J)))
set_option maxHeartbeats 4000000 in
theorem sCo_cutLine_149 (d : Nat) (hd : 0 + 1 ≤ d) (k15 : Int32 → hI → hJ → Option (Int32 × hI × hJ)) (hk15 : ∀ (v1 : Int32) (I : hI) (J : hJ) (B : Bool × Bool) (q : Int32 × hI × hJ), k15 v1 I J = some q → AW hFT cX1_cutLine 7 (some .boolean) RX1 kdC d [(0, .ref 38), (1, .int v1)] 15 [] (I, J, RM B) (some (.int q.1)) (q.2.1, q.2.2, RM B)) (v1 : Int32) (I : hI) (J : hJ) (B : Bool × Bool) (q : Int32 × hI × hJ) (h : mCo_cutLine_149 k15 v1 I J = some q) : AW hFT cX1_cutLine 7 (some .boolean) RX1 kdC d [(0, .ref 38), (1, .int v1)] 149 [] (I, J, RM B) (some (.int q.1)) (q.2.1, q.2.2, RM B) := by
  obtain ⟨d0, rfl, hd0⟩ := h_mono hd
  unfold mCo_cutLine_149 at h
  refine a_aload_n dX1_cutLine_149 rfl rfl ?_
  refine b_getI hK_1 kc_38 (i := 9) rfl fl_1_125 rfl dX1_cutLine_150 ?_
  refine a_if_eq (tgt := 195) dX1_cutLine_153 (by decide) (fun c => ?_) (fun c => ?_)
  · replace h := h_iteT c h
    refine b_iinc (lv' := [(1, .int (v1 + (1 : Int32))), (0, .ref 38)]) dX1_cutLine_195 rfl ic_1 (by decide) rfl ?_
    refine a_goto (tgt := 15) dX1_cutLine_198 (by decide) ?_
    refine a_sub (lv' := [(0, .ref 38), (1, .int (v1 + (1 : Int32)))]) [1, 0] rfl ?_
    exact hk15 (v1 + (1 : Int32)) I J B _ h
  · replace h := h_iteF c h
    refine a_aload_n dX1_cutLine_156 rfl rfl ?_
    refine b_getI hK_1 kc_38 (i := 10) rfl fl_1_128 rfl dX1_cutLine_157 ?_
    refine a_if_eq (tgt := 195) dX1_cutLine_160 (by decide) (fun c => ?_) (fun c => ?_)
    · replace h := h_iteT c h
      refine b_iinc (lv' := [(1, .int (v1 + (1 : Int32))), (0, .ref 38)]) dX1_cutLine_195 rfl ic_1 (by decide) rfl ?_
      refine a_goto (tgt := 15) dX1_cutLine_198 (by decide) ?_
      refine a_sub (lv' := [(0, .ref 38), (1, .int (v1 + (1 : Int32)))]) [1, 0] rfl ?_
      exact hk15 (v1 + (1 : Int32)) I J B _ h
    · replace h := h_iteF c h
      refine a_aload_n dX1_cutLine_163 rfl rfl ?_
      refine b_getR hK_1 kc_38 (i := 11) rfl fl_1_23 rfl (rm_38_11 B) dX1_cutLine_164 ?_
      refine a_iconst dX1_cutLine_167 ic_0 ?_
      obtain ⟨g1, h⟩ := h_gS h
      refine b_laload kc_46 (h_inV g1) dX1_cutLine_168 ?_
      refine a_aload_n dX1_cutLine_169 rfl rfl ?_
      refine b_getR hK_1 kc_38 (i := 12) rfl fl_1_26 rfl (rm_38_12 B) dX1_cutLine_170 ?_
      refine a_iconst dX1_cutLine_173 ic_1 ?_
      obtain ⟨g2, h⟩ := h_gS h
      refine b_laload kc_47 (h_inV g2) dX1_cutLine_174 ?_
      refine a_lmul dX1_cutLine_175 ?_
      refine a_aload_n dX1_cutLine_176 rfl rfl ?_
      refine b_getR hK_1 kc_38 (i := 12) rfl fl_1_26 rfl (rm_38_12 B) dX1_cutLine_177 ?_
      refine a_iconst dX1_cutLine_180 ic_0 ?_
      obtain ⟨g3, h⟩ := h_gS h
      refine b_laload kc_47 (h_inV g3) dX1_cutLine_181 ?_
      refine a_aload_n dX1_cutLine_182 rfl rfl ?_
      refine b_getR hK_1 kc_38 (i := 11) rfl fl_1_23 rfl (rm_38_11 B) dX1_cutLine_183 ?_
      refine a_iconst dX1_cutLine_186 ic_1 ?_
      obtain ⟨g4, h⟩ := h_gS h
      refine b_laload kc_46 (h_inV g4) dX1_cutLine_187 ?_
      refine a_lmul dX1_cutLine_188 ?_
      refine a_lcmp_le (tgt := 195) dX1_cutLine_189 dX1_cutLine_190 (by decide) (fun c => ?_) (fun c => ?_)
      · replace h := h_iteT c h
        refine b_iinc (lv' := [(1, .int (v1 + (1 : Int32))), (0, .ref 38)]) dX1_cutLine_195 rfl ic_1 (by decide) rfl ?_
        refine a_goto (tgt := 15) dX1_cutLine_198 (by decide) ?_
        refine a_sub (lv' := [(0, .ref 38), (1, .int (v1 + (1 : Int32)))]) [1, 0] rfl ?_
        exact hk15 (v1 + (1 : Int32)) I J B _ h
      · replace h := h_iteF c h
        refine a_iconst dX1_cutLine_193 ic_0 ?_
        cases h
        exact a_zret (h_Z0.1) dX1_cutLine_194
def mCo_cutLine_118 (k15 : Int32 → hI → hJ → Option (Int32 × hI × hJ)) (v1 : Int32) (v2 : Int64) (v4 : Int64) (I : hI) (J : hJ) : Option (Int32 × hI × hJ) :=
  if v2 ≤ (0 : Int64) then
    (if (0 : Int64) ≤ v2 then
      mCo_cutLine_149 k15 v1 I J
    else
      ((mCo_sinkHigh (-v4) (-v2) I J).bind fun q1 =>
      mCo_cutLine_149 k15 v1 q1.1 q1.2))
  else
    ((mCo_raiseLow v4 v2 I J).bind fun q1 =>
    mCo_cutLine_149 k15 v1 q1.1 q1.2)
set_option maxHeartbeats 4000000 in
theorem sCo_cutLine_118 (d : Nat) (hd : 0 + 1 ≤ d) (k15 : Int32 → hI → hJ → Option (Int32 × hI × hJ)) (hk15 : ∀ (v1 : Int32) (I : hI) (J : hJ) (B : Bool × Bool) (q : Int32 × hI × hJ), k15 v1 I J = some q → AW hFT cX1_cutLine 7 (some .boolean) RX1 kdC d [(0, .ref 38), (1, .int v1)] 15 [] (I, J, RM B) (some (.int q.1)) (q.2.1, q.2.2, RM B)) (v1 : Int32) (v2 : Int64) (v4 : Int64) (I : hI) (J : hJ) (B : Bool × Bool) (q : Int32 × hI × hJ) (h : mCo_cutLine_118 k15 v1 v2 v4 I J = some q) : AW hFT cX1_cutLine 7 (some .boolean) RX1 kdC d [(0, .ref 38), (1, .int v1), (2, .long v2), (4, .long v4)] 118 [] (I, J, RM B) (some (.int q.1)) (q.2.1, q.2.2, RM B) := by
  obtain ⟨d0, rfl, hd0⟩ := h_mono hd
  unfold mCo_cutLine_118 at h
  refine a_lload_n dX1_cutLine_118 rfl rfl ?_
  refine a_lconst dX1_cutLine_119 lc_0 ?_
  refine a_lcmp_le (tgt := 134) dX1_cutLine_120 dX1_cutLine_121 (by decide) (fun c => ?_) (fun c => ?_)
  · replace h := h_iteT c h
    refine a_lload_n dX1_cutLine_134 rfl rfl ?_
    refine a_lconst dX1_cutLine_135 lc_0 ?_
    refine a_lcmp_ge (tgt := 149) dX1_cutLine_136 dX1_cutLine_137 (by decide) (fun c => ?_) (fun c => ?_)
    · replace h := h_iteT c h
      refine a_sub (lv' := [(0, .ref 38), (1, .int v1)]) [0, 1] rfl ?_
      exact sCo_cutLine_149 (d0 + 1) (by omega) k15 hk15 v1 I J B _ h
    · replace h := h_iteF c h
      refine a_aload_n dX1_cutLine_140 rfl rfl ?_
      refine a_lload dX1_cutLine_141 rfl ?_
      refine a_lneg dX1_cutLine_143 ?_
      refine a_lload_n dX1_cutLine_144 rfl rfl ?_
      refine a_lneg dX1_cutLine_145 ?_
      obtain ⟨q1, cq1, h⟩ := h_bindS h
      refine a_callV0 [] yy_X1_sinkHigh ml_1_135 kc_38 rfl (sCo_sinkHigh _ (by omega) (-v4) (-v2) I J B q1 cq1) rfl rfl (Nat.le_of_ble_eq_true rfl) dX1_cutLine_146 ?_
      refine a_sub (lv' := [(0, .ref 38), (1, .int v1)]) [0, 1] rfl ?_
      exact sCo_cutLine_149 (d0 + 1) (by omega) k15 hk15 v1 q1.1 q1.2 B _ h
  · replace h := h_iteF c h
    refine a_aload_n dX1_cutLine_124 rfl rfl ?_
    refine a_lload dX1_cutLine_125 rfl ?_
    refine a_lload_n dX1_cutLine_127 rfl rfl ?_
    obtain ⟨q1, cq1, h⟩ := h_bindS h
    refine a_callV0 [] yy_X1_raiseLow ml_1_131 kc_38 rfl (sCo_raiseLow _ (by omega) v4 v2 I J B q1 cq1) rfl rfl (Nat.le_of_ble_eq_true rfl) dX1_cutLine_128 ?_
    refine a_goto (tgt := 149) dX1_cutLine_131 (by decide) ?_
    refine a_sub (lv' := [(0, .ref 38), (1, .int v1)]) [0, 1] rfl ?_
    exact sCo_cutLine_149 (d0 + 1) (by omega) k15 hk15 v1 q1.1 q1.2 B _ h
def mCo_cutLine_B49 (k15 : Int32 → hI → hJ → Option (Int32 × hI × hJ)) (k49 : Int32 → Int64 → Int64 → Int32 → hI → hJ → Option (Int32 × hI × hJ)) (v1 : Int32) (v2 : Int64) (v4 : Int64) (v6 : Int32) (I : hI) (J : hJ) : Option (Int32 × hI × hJ) :=
  if (3 : Int32) ≤ v6 then
    (if v2 = (0 : Int64) then
      (if v4 ≤ (0 : Int64) then
        mCo_cutLine_118 k15 v1 v2 v4 I J
      else
        some ((0 : Int32), I, J))
    else
      mCo_cutLine_118 k15 v1 v2 v4 I J)
  else
    (h_g (h_in v6 4) <|
    h_g (h_in v1 92) <|
    h_g (h_in v6 3) <|
    h_let (v2 + ((J (40 + v6.toNatClampNeg) v1.toNatClampNeg) * (J 45 v6.toNatClampNeg))) fun v2x3 =>
    h_g (h_in v6 4) <|
    h_g (h_in v1 92) <|
    h_g (h_in v6 3) <|
    h_let (v4 - ((J (40 + v6.toNatClampNeg) v1.toNatClampNeg) * (J 44 v6.toNatClampNeg))) fun v4x7 =>
    k49 v1 v2x3 v4x7 (v6 + (1 : Int32)) I J)
set_option maxHeartbeats 4000000 in
theorem sCo_cutLine_B49 (d : Nat) (hd : 0 + 1 ≤ d) (k15 : Int32 → hI → hJ → Option (Int32 × hI × hJ)) (hk15 : ∀ (v1 : Int32) (I : hI) (J : hJ) (B : Bool × Bool) (q : Int32 × hI × hJ), k15 v1 I J = some q → AW hFT cX1_cutLine 7 (some .boolean) RX1 kdC d [(0, .ref 38), (1, .int v1)] 15 [] (I, J, RM B) (some (.int q.1)) (q.2.1, q.2.2, RM B)) (k49 : Int32 → Int64 → Int64 → Int32 → hI → hJ → Option (Int32 × hI × hJ)) (hk49 : ∀ (v1 : Int32) (v2 : Int64) (v4 : Int64) (v6 : Int32) (I : hI) (J : hJ) (B : Bool × Bool) (q : Int32 × hI × hJ), k49 v1 v2 v4 v6 I J = some q → AW hFT cX1_cutLine 7 (some .boolean) RX1 kdC d [(0, .ref 38), (1, .int v1), (2, .long v2), (4, .long v4), (6, .int v6)] 49 [] (I, J, RM B) (some (.int q.1)) (q.2.1, q.2.2, RM B)) (v1 : Int32) (v2 : Int64) (v4 : Int64) (v6 : Int32) (I : hI) (J : hJ) (B : Bool × Bool) (q : Int32 × hI × hJ) (h : mCo_cutLine_B49 k15 k49 v1 v2 v4 v6 I J = some q) : AW hFT cX1_cutLine 7 (some .boolean) RX1 kdC d [(0, .ref 38), (1, .int v1), (2, .long v2), (4, .long v4), (6, .int v6)] 49 [] (I, J, RM B) (some (.int q.1)) (q.2.1, q.2.2, RM B) := by
  obtain ⟨d0, rfl, hd0⟩ := h_mono hd
  unfold mCo_cutLine_B49 at h
  refine a_iload dX1_cutLine_49 rfl ?_
  refine a_iconst dX1_cutLine_51 ic_3 ?_
  refine a_icmp_ge (tgt := 103) dX1_cutLine_52 (by decide) (fun c => ?_) (fun c => ?_)
  · replace h := h_iteT c h
    refine a_lload_n dX1_cutLine_103 rfl rfl ?_
    refine a_lconst dX1_cutLine_104 lc_0 ?_
    refine a_lcmp_ne (tgt := 118) dX1_cutLine_105 dX1_cutLine_106 (by decide) (fun c => ?_) (fun c => ?_)
    · replace h := h_iteF c h
      refine a_sub (lv' := [(0, .ref 38), (1, .int v1), (2, .long v2), (4, .long v4)]) [0, 1, 2, 3] rfl ?_
      exact sCo_cutLine_118 (d0 + 1) (by omega) k15 hk15 v1 v2 v4 I J B _ h
    · replace h := h_iteT c h
      refine a_lload dX1_cutLine_109 rfl ?_
      refine a_lconst dX1_cutLine_111 lc_0 ?_
      refine a_lcmp_le (tgt := 118) dX1_cutLine_112 dX1_cutLine_113 (by decide) (fun c => ?_) (fun c => ?_)
      · replace h := h_iteT c h
        refine a_sub (lv' := [(0, .ref 38), (1, .int v1), (2, .long v2), (4, .long v4)]) [0, 1, 2, 3] rfl ?_
        exact sCo_cutLine_118 (d0 + 1) (by omega) k15 hk15 v1 v2 v4 I J B _ h
      · replace h := h_iteF c h
        refine a_iconst dX1_cutLine_116 ic_0 ?_
        cases h
        exact a_zret (h_Z0.1) dX1_cutLine_117
  · replace h := h_iteF c h
    refine a_lload_n dX1_cutLine_55 rfl rfl ?_
    refine a_aload_n dX1_cutLine_56 rfl rfl ?_
    refine b_getR hK_1 kc_38 (i := 3) rfl fl_1_11 rfl (rm_38_3 B) dX1_cutLine_57 ?_
    refine a_iload dX1_cutLine_60 rfl ?_
    obtain ⟨g1, h⟩ := h_gS h
    refine b_aaload4 kc_39 (h_inV g1) (rm_JJ_39 B _ (h_in_lt (h_inV g1))) dX1_cutLine_62 ?_
    refine a_iload_n dX1_cutLine_63 rfl rfl ?_
    obtain ⟨g2, h⟩ := h_gS h
    refine b_laload (k_JJ_39 _ (h_in_lt (h_inV g1))) (h_inV g2) dX1_cutLine_64 ?_
    refine a_aload_n dX1_cutLine_65 rfl rfl ?_
    refine b_getR hK_1 kc_38 (i := 7) rfl fl_1_20 rfl (rm_38_7 B) dX1_cutLine_66 ?_
    refine a_iload dX1_cutLine_69 rfl ?_
    obtain ⟨g3, h⟩ := h_gS h
    refine b_laload kc_45 (h_inV g3) dX1_cutLine_71 ?_
    refine a_lmul dX1_cutLine_72 ?_
    refine a_ladd dX1_cutLine_73 ?_
    obtain ⟨v2x3, ev2x3, h⟩ := h_letS h
    refine a_topJ ev2x3 ?_
    refine a_lstore_n (lv' := [(2, .long v2x3), (0, .ref 38), (1, .int v1), (4, .long v4), (6, .int v6)]) dX1_cutLine_74 rfl (by decide) rfl ?_
    refine a_lload dX1_cutLine_75 rfl ?_
    refine a_aload_n dX1_cutLine_77 rfl rfl ?_
    refine b_getR hK_1 kc_38 (i := 3) rfl fl_1_11 rfl (rm_38_3 B) dX1_cutLine_78 ?_
    refine a_iload dX1_cutLine_81 rfl ?_
    obtain ⟨g5, h⟩ := h_gS h
    refine b_aaload4 kc_39 (h_inV g5) (rm_JJ_39 B _ (h_in_lt (h_inV g5))) dX1_cutLine_83 ?_
    refine a_iload_n dX1_cutLine_84 rfl rfl ?_
    obtain ⟨g6, h⟩ := h_gS h
    refine b_laload (k_JJ_39 _ (h_in_lt (h_inV g5))) (h_inV g6) dX1_cutLine_85 ?_
    refine a_aload_n dX1_cutLine_86 rfl rfl ?_
    refine b_getR hK_1 kc_38 (i := 6) rfl fl_1_16 rfl (rm_38_6 B) dX1_cutLine_87 ?_
    refine a_iload dX1_cutLine_90 rfl ?_
    obtain ⟨g7, h⟩ := h_gS h
    refine b_laload kc_44 (h_inV g7) dX1_cutLine_92 ?_
    refine a_lmul dX1_cutLine_93 ?_
    refine a_lsub dX1_cutLine_94 ?_
    obtain ⟨v4x7, ev4x7, h⟩ := h_letS h
    refine a_topJ ev4x7 ?_
    refine a_lstore (lv' := [(4, .long v4x7), (2, .long v2x3), (0, .ref 38), (1, .int v1), (6, .int v6)]) dX1_cutLine_95 (by decide) rfl ?_
    refine b_iinc (lv' := [(6, .int (v6 + (1 : Int32))), (4, .long v4x7), (2, .long v2x3), (0, .ref 38), (1, .int v1)]) dX1_cutLine_97 rfl ic_1 (by decide) rfl ?_
    refine a_goto (tgt := 49) dX1_cutLine_100 (by decide) ?_
    refine a_sub (lv' := [(0, .ref 38), (1, .int v1), (2, .long v2x3), (4, .long v4x7), (6, .int (v6 + (1 : Int32)))]) [3, 4, 2, 1, 0] rfl ?_
    exact hk49 v1 v2x3 v4x7 (v6 + (1 : Int32)) I J B _ h
def mCo_cutLine_L49 (k15 : Int32 → hI → hJ → Option (Int32 × hI × hJ)) : Nat → Int32 → Int64 → Int64 → Int32 → hI → hJ → Option (Int32 × hI × hJ)
  | 0 => fun _ _ _ _ _ _ => none
  | n + 1 => mCo_cutLine_B49 k15 (mCo_cutLine_L49 k15 n)
theorem sCo_cutLine_L49 (d : Nat) (hd : 0 + 1 ≤ d) (k15 : Int32 → hI → hJ → Option (Int32 × hI × hJ)) (hk15 : ∀ (v1 : Int32) (I : hI) (J : hJ) (B : Bool × Bool) (q : Int32 × hI × hJ), k15 v1 I J = some q → AW hFT cX1_cutLine 7 (some .boolean) RX1 kdC d [(0, .ref 38), (1, .int v1)] 15 [] (I, J, RM B) (some (.int q.1)) (q.2.1, q.2.2, RM B)) : ∀ (n : Nat) (v1 : Int32) (v2 : Int64) (v4 : Int64) (v6 : Int32) (I : hI) (J : hJ) (B : Bool × Bool) (q : Int32 × hI × hJ) (h : mCo_cutLine_L49 k15 n v1 v2 v4 v6 I J = some q), AW hFT cX1_cutLine 7 (some .boolean) RX1 kdC d [(0, .ref 38), (1, .int v1), (2, .long v2), (4, .long v4), (6, .int v6)] 49 [] (I, J, RM B) (some (.int q.1)) (q.2.1, q.2.2, RM B)
  | 0, _, _, _, _, _, _, _, q, h => by cases h
  | n + 1, v1, v2, v4, v6, I, J, B, q, h => sCo_cutLine_B49 d hd k15 hk15 (mCo_cutLine_L49 k15 n) (sCo_cutLine_L49 d hd k15 hk15 n) v1 v2 v4 v6 I J B q h
def mCo_cutLine_B15 (k15 : Int32 → hI → hJ → Option (Int32 × hI × hJ)) (v1 : Int32) (I : hI) (J : hJ) : Option (Int32 × hI × hJ) :=
  if (I 38 4) ≤ v1 then
    some ((1 : Int32), I, J)
  else
    (if (92 : Int32) ≤ v1 then
      some ((1 : Int32), I, J)
    else
      (h_g (h_in (3 : Int32) 4) <|
      h_g (h_in v1 92) <|
      h_let ((J (40 + (3 : Int32).toNatClampNeg) v1.toNatClampNeg) * (J 38 8)) fun v4x2 =>
      mCo_cutLine_L49 k15 hF v1 (0 : Int64) v4x2 (0 : Int32) I J))
set_option maxHeartbeats 4000000 in
theorem sCo_cutLine_B15 (d : Nat) (hd : 0 + 1 ≤ d) (k15 : Int32 → hI → hJ → Option (Int32 × hI × hJ)) (hk15 : ∀ (v1 : Int32) (I : hI) (J : hJ) (B : Bool × Bool) (q : Int32 × hI × hJ), k15 v1 I J = some q → AW hFT cX1_cutLine 7 (some .boolean) RX1 kdC d [(0, .ref 38), (1, .int v1)] 15 [] (I, J, RM B) (some (.int q.1)) (q.2.1, q.2.2, RM B)) (v1 : Int32) (I : hI) (J : hJ) (B : Bool × Bool) (q : Int32 × hI × hJ) (h : mCo_cutLine_B15 k15 v1 I J = some q) : AW hFT cX1_cutLine 7 (some .boolean) RX1 kdC d [(0, .ref 38), (1, .int v1)] 15 [] (I, J, RM B) (some (.int q.1)) (q.2.1, q.2.2, RM B) := by
  obtain ⟨d0, rfl, hd0⟩ := h_mono hd
  unfold mCo_cutLine_B15 at h
  refine a_iload_n dX1_cutLine_15 rfl rfl ?_
  refine a_aload_n dX1_cutLine_16 rfl rfl ?_
  refine b_getI hK_1 kc_38 (i := 4) rfl fl_1_53 rfl dX1_cutLine_17 ?_
  refine a_icmp_ge (tgt := 201) dX1_cutLine_20 (by decide) (fun c => ?_) (fun c => ?_)
  · replace h := h_iteT c h
    refine a_iconst dX1_cutLine_201 ic_1 ?_
    cases h
    exact a_zret (h_Z1.1) dX1_cutLine_202
  · replace h := h_iteF c h
    refine a_iload_n dX1_cutLine_23 rfl rfl ?_
    refine a_bipush dX1_cutLine_24 bp_92 ?_
    refine a_icmp_ge (tgt := 201) dX1_cutLine_26 (by decide) (fun c => ?_) (fun c => ?_)
    · replace h := h_iteT c h
      refine a_iconst dX1_cutLine_201 ic_1 ?_
      cases h
      exact a_zret (h_Z1.1) dX1_cutLine_202
    · replace h := h_iteF c h
      refine a_lconst dX1_cutLine_29 lc_0 ?_
      refine a_lstore_n (lv' := [(2, .long (0 : Int64)), (0, .ref 38), (1, .int v1)]) dX1_cutLine_30 rfl (by decide) rfl ?_
      refine a_aload_n dX1_cutLine_31 rfl rfl ?_
      refine b_getR hK_1 kc_38 (i := 3) rfl fl_1_11 rfl (rm_38_3 B) dX1_cutLine_32 ?_
      refine a_iconst dX1_cutLine_35 ic_3 ?_
      obtain ⟨g1, h⟩ := h_gS h
      refine b_aaload4 kc_39 (h_inV g1) (rm_JJ_39 B _ (h_in_lt (h_inV g1))) dX1_cutLine_36 ?_
      refine a_iload_n dX1_cutLine_37 rfl rfl ?_
      obtain ⟨g2, h⟩ := h_gS h
      refine b_laload (k_JJ_39 _ (h_in_lt (h_inV g1))) (h_inV g2) dX1_cutLine_38 ?_
      refine a_aload_n dX1_cutLine_39 rfl rfl ?_
      refine b_getJ hK_1 kc_38 (i := 8) rfl fl_1_121 rfl dX1_cutLine_40 ?_
      refine a_lmul dX1_cutLine_43 ?_
      obtain ⟨v4x2, ev4x2, h⟩ := h_letS h
      refine a_topJ ev4x2 ?_
      refine a_lstore (lv' := [(4, .long v4x2), (2, .long (0 : Int64)), (0, .ref 38), (1, .int v1)]) dX1_cutLine_44 (by decide) rfl ?_
      refine a_iconst dX1_cutLine_46 ic_0 ?_
      refine a_istore (lv' := [(6, .int (0 : Int32)), (4, .long v4x2), (2, .long (0 : Int64)), (0, .ref 38), (1, .int v1)]) dX1_cutLine_47 (by decide) rfl ?_
      refine a_sub (lv' := [(0, .ref 38), (1, .int v1), (2, .long (0 : Int64)), (4, .long v4x2), (6, .int (0 : Int32))]) [3, 4, 2, 1, 0] rfl ?_
      exact sCo_cutLine_L49 (d0 + 1) (by omega) k15 hk15 hF v1 (0 : Int64) v4x2 (0 : Int32) I J B _ h
def mCo_cutLine_L15  : Nat → Int32 → hI → hJ → Option (Int32 × hI × hJ)
  | 0 => fun _ _ _ => none
  | n + 1 => mCo_cutLine_B15 (mCo_cutLine_L15 n)
theorem sCo_cutLine_L15 (d : Nat) (hd : 0 + 1 ≤ d) : ∀ (n : Nat) (v1 : Int32) (I : hI) (J : hJ) (B : Bool × Bool) (q : Int32 × hI × hJ) (h : mCo_cutLine_L15 n v1 I J = some q), AW hFT cX1_cutLine 7 (some .boolean) RX1 kdC d [(0, .ref 38), (1, .int v1)] 15 [] (I, J, RM B) (some (.int q.1)) (q.2.1, q.2.2, RM B)
  | 0, _, _, _, _, q, h => by cases h
  | n + 1, v1, I, J, B, q, h => sCo_cutLine_B15 d hd (mCo_cutLine_L15 n) (sCo_cutLine_L15 d hd n) v1 I J B q h
def mCo_cutLine   (I : hI) (J : hJ) : Option (Int32 × hI × hJ) :=
  h_let (h_u I 38 9 (0 : Int32)) fun I1 =>
  h_let (h_u I1 38 10 (0 : Int32)) fun I2 =>
  h_let (I2 38 5) fun v1x2 =>
  mCo_cutLine_L15 hF v1x2 I2 J
set_option maxHeartbeats 4000000 in
theorem sCo_cutLine (d : Nat) (hd : 0 + 1 ≤ d)  (I : hI) (J : hJ) (B : Bool × Bool) (q : Int32 × hI × hJ) (h : mCo_cutLine I J = some q) : HMet hFT yX1_cutLine cX1_cutLine 7 (some .boolean) kdC d [.ref 38] (I, J, RM B) (some (.int q.1)) (q.2.1, q.2.2, RM B) := by
  obtain ⟨d0, rfl, hd0⟩ := h_mono hd
  refine HMet.of (by decide) (Nat.le_of_ble_eq_true rfl) ?_
  show AW hFT cX1_cutLine 7 (some .boolean) RX1 kdC (d0 + 1) [(0, .ref 38)] 0 [] (I, J, RM B) (some (.int q.1)) (q.2.1, q.2.2, RM B)
  unfold mCo_cutLine at h
  refine a_aload_n dX1_cutLine_0 rfl rfl ?_
  refine a_iconst dX1_cutLine_1 ic_0 ?_
  refine b_putI hK_1 kc_38 (i := 9) rfl fl_1_125 rfl rfl h_Z0 dX1_cutLine_2 ?_
  obtain ⟨I1, eI1, h⟩ := h_letS h
  refine a_memI eI1 ?_
  refine a_aload_n dX1_cutLine_5 rfl rfl ?_
  refine a_iconst dX1_cutLine_6 ic_0 ?_
  refine b_putI hK_1 kc_38 (i := 10) rfl fl_1_128 rfl rfl h_Z0 dX1_cutLine_7 ?_
  obtain ⟨I2, eI2, h⟩ := h_letS h
  refine a_memI eI2 ?_
  refine a_aload_n dX1_cutLine_10 rfl rfl ?_
  refine b_getI hK_1 kc_38 (i := 5) rfl fl_1_49 rfl dX1_cutLine_11 ?_
  obtain ⟨v1x2, ev1x2, h⟩ := h_letS h
  refine a_topI ev1x2 ?_
  refine a_istore_n (lv' := [(1, .int v1x2), (0, .ref 38)]) dX1_cutLine_14 rfl (by decide) rfl ?_
  refine a_sub (lv' := [(0, .ref 38), (1, .int v1x2)]) [1, 0] rfl ?_
  exact sCo_cutLine_L15 (d0 + 1) (by omega) hF v1x2 I2 J B _ h
