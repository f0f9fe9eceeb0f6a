/-! CoinLoops$Plans.makeRows()V -/
theorem dX5_makeRows_0 : decode cX5_makeRows 0 = .ok (.aload_n 0, 1) := by decide +kernel
theorem dX5_makeRows_1 : decode cX5_makeRows 1 = .ok (.iconst 0, 1) := by decide +kernel
theorem dX5_makeRows_2 : decode cX5_makeRows 2 = .ok (.putfield 122, 3) := by decide +kernel
theorem dX5_makeRows_5 : decode cX5_makeRows 5 = .ok (.iconst 0, 1) := by decide +kernel
theorem dX5_makeRows_6 : decode cX5_makeRows 6 = .ok (.istore_n 1, 1) := by decide +kernel
theorem dX5_makeRows_7 : decode cX5_makeRows 7 = .ok (.iload_n 1, 1) := by decide +kernel
theorem dX5_makeRows_8 : decode cX5_makeRows 8 = .ok (.aload_n 0, 1) := by decide +kernel
theorem dX5_makeRows_9 : decode cX5_makeRows 9 = .ok (.getfield 36, 3) := by decide +kernel
theorem dX5_makeRows_12 : decode cX5_makeRows 12 = .ok (.getfield 63, 3) := by decide +kernel
theorem dX5_makeRows_15 : decode cX5_makeRows 15 = .ok (.if_icmp .ge 69, 3) := by decide +kernel
theorem dX5_makeRows_18 : decode cX5_makeRows 18 = .ok (.aload_n 0, 1) := by decide +kernel
theorem dX5_makeRows_19 : decode cX5_makeRows 19 = .ok (.getfield 36, 3) := by decide +kernel
theorem dX5_makeRows_22 : decode cX5_makeRows 22 = .ok (.iload_n 1, 1) := by decide +kernel
theorem dX5_makeRows_23 : decode cX5_makeRows 23 = .ok (.invokevirtual 88, 3) := by decide +kernel
theorem dX5_makeRows_26 : decode cX5_makeRows 26 = .ok (.ifCond .eq 18, 3) := by decide +kernel
theorem dX5_makeRows_29 : decode cX5_makeRows 29 = .ok (.aload_n 0, 1) := by decide +kernel
theorem dX5_makeRows_30 : decode cX5_makeRows 30 = .ok (.getfield 116, 3) := by decide +kernel
theorem dX5_makeRows_33 : decode cX5_makeRows 33 = .ok (.iload_n 1, 1) := by decide +kernel
theorem dX5_makeRows_34 : decode cX5_makeRows 34 = .ok (.ishr, 1) := by decide +kernel
theorem dX5_makeRows_35 : decode cX5_makeRows 35 = .ok (.iconst 1, 1) := by decide +kernel
theorem dX5_makeRows_36 : decode cX5_makeRows 36 = .ok (.iand, 1) := by decide +kernel
theorem dX5_makeRows_37 : decode cX5_makeRows 37 = .ok (.ifCond .ne 7, 3) := by decide +kernel
theorem dX5_makeRows_40 : decode cX5_makeRows 40 = .ok (.iconst 1, 1) := by decide +kernel
theorem dX5_makeRows_41 : decode cX5_makeRows 41 = .ok (.goto 4, 3) := by decide +kernel
theorem dX5_makeRows_44 : decode cX5_makeRows 44 = .ok (.iconst 0, 1) := by decide +kernel
theorem dX5_makeRows_45 : decode cX5_makeRows 45 = .ok (.istore_n 2, 1) := by decide +kernel
theorem dX5_makeRows_46 : decode cX5_makeRows 46 = .ok (.aload_n 0, 1) := by decide +kernel
theorem dX5_makeRows_47 : decode cX5_makeRows 47 = .ok (.getfield 28, 3) := by decide +kernel
theorem dX5_makeRows_50 : decode cX5_makeRows 50 = .ok (.iload_n 1, 1) := by decide +kernel
theorem dX5_makeRows_51 : decode cX5_makeRows 51 = .ok (.iload_n 2, 1) := by decide +kernel
theorem dX5_makeRows_52 : decode cX5_makeRows 52 = .ok (.ifCond .eq 10, 3) := by decide +kernel
theorem dX5_makeRows_55 : decode cX5_makeRows 55 = .ok (.aload_n 0, 1) := by decide +kernel
theorem dX5_makeRows_56 : decode cX5_makeRows 56 = .ok (.getfield 122, 3) := by decide +kernel
theorem dX5_makeRows_59 : decode cX5_makeRows 59 = .ok (.goto 4, 3) := by decide +kernel
theorem dX5_makeRows_62 : decode cX5_makeRows 62 = .ok (.iconst (-1), 1) := by decide +kernel
theorem dX5_makeRows_63 : decode cX5_makeRows 63 = .ok (.iastore, 1) := by decide +kernel
theorem dX5_makeRows_64 : decode cX5_makeRows 64 = .ok (.iload_n 2, 1) := by decide +kernel
theorem dX5_makeRows_65 : decode cX5_makeRows 65 = .ok (.ifCond .eq 13, 3) := by decide +kernel
theorem dX5_makeRows_68 : decode cX5_makeRows 68 = .ok (.aload_n 0, 1) := by decide +kernel
theorem dX5_makeRows_69 : decode cX5_makeRows 69 = .ok (.dup, 1) := by decide +kernel
theorem dX5_makeRows_70 : decode cX5_makeRows 70 = .ok (.getfield 122, 3) := by decide +kernel
theorem dX5_makeRows_73 : decode cX5_makeRows 73 = .ok (.iconst 1, 1) := by decide +kernel
theorem dX5_makeRows_74 : decode cX5_makeRows 74 = .ok (.iadd, 1) := by decide +kernel
theorem dX5_makeRows_75 : decode cX5_makeRows 75 = .ok (.putfield 122, 3) := by decide +kernel
theorem dX5_makeRows_78 : decode cX5_makeRows 78 = .ok (.iinc 1 1, 3) := by decide +kernel
theorem dX5_makeRows_81 : decode cX5_makeRows 81 = .ok (.goto (-74), 3) := by decide +kernel
theorem dX5_makeRows_84 : decode cX5_makeRows 84 = .ok (.iconst 0, 1) := by decide +kernel
theorem dX5_makeRows_85 : decode cX5_makeRows 85 = .ok (.istore_n 1, 1) := by decide +kernel
theorem dX5_makeRows_86 : decode cX5_makeRows 86 = .ok (.iload_n 1, 1) := by decide +kernel
theorem dX5_makeRows_87 : decode cX5_makeRows 87 = .ok (.aload_n 0, 1) := by decide +kernel
theorem dX5_makeRows_88 : decode cX5_makeRows 88 = .ok (.getfield 36, 3) := by decide +kernel
theorem dX5_makeRows_91 : decode cX5_makeRows 91 = .ok (.getfield 63, 3) := by decide +kernel
theorem dX5_makeRows_94 : decode cX5_makeRows 94 = .ok (.if_icmp .ge 50, 3) := by decide +kernel
theorem dX5_makeRows_97 : decode cX5_makeRows 97 = .ok (.aload_n 0, 1) := by decide +kernel
theorem dX5_makeRows_98 : decode cX5_makeRows 98 = .ok (.getfield 28, 3) := by decide +kernel
theorem dX5_makeRows_101 : decode cX5_makeRows 101 = .ok (.iload_n 1, 1) := by decide +kernel
theorem dX5_makeRows_102 : decode cX5_makeRows 102 = .ok (.iaload, 1) := by decide +kernel
theorem dX5_makeRows_103 : decode cX5_makeRows 103 = .ok (.bipush 10, 2) := by decide +kernel
theorem dX5_makeRows_105 : decode cX5_makeRows 105 = .ok (.invokestatic 70, 3) := by decide +kernel
theorem dX5_makeRows_108 : decode cX5_makeRows 108 = .ok (.ifCond .ne 30, 3) := by decide +kernel
theorem dX5_makeRows_111 : decode cX5_makeRows 111 = .ok (.aload_n 0, 1) := by decide +kernel
theorem dX5_makeRows_112 : decode cX5_makeRows 112 = .ok (.aload_n 0, 1) := by decide +kernel
theorem dX5_makeRows_113 : decode cX5_makeRows 113 = .ok (.getfield 33, 3) := by decide +kernel
theorem dX5_makeRows_116 : decode cX5_makeRows 116 = .ok (.aload_n 0, 1) := by decide +kernel
theorem dX5_makeRows_117 : decode cX5_makeRows 117 = .ok (.getfield 28, 3) := by decide +kernel
theorem dX5_makeRows_120 : decode cX5_makeRows 120 = .ok (.iload_n 1, 1) := by decide +kernel
theorem dX5_makeRows_121 : decode cX5_makeRows 121 = .ok (.iaload, 1) := by decide +kernel
theorem dX5_makeRows_122 : decode cX5_makeRows 122 = .ok (.aaload, 1) := by decide +kernel
theorem dX5_makeRows_123 : decode cX5_makeRows 123 = .ok (.aload_n 0, 1) := by decide +kernel
theorem dX5_makeRows_124 : decode cX5_makeRows 124 = .ok (.getfield 28, 3) := by decide +kernel
theorem dX5_makeRows_127 : decode cX5_makeRows 127 = .ok (.iload_n 1, 1) := by decide +kernel
theorem dX5_makeRows_128 : decode cX5_makeRows 128 = .ok (.iaload, 1) := by decide +kernel
theorem dX5_makeRows_129 : decode cX5_makeRows 129 = .ok (.aload_n 0, 1) := by decide +kernel
theorem dX5_makeRows_130 : decode cX5_makeRows 130 = .ok (.getfield 22, 3) := by decide +kernel
theorem dX5_makeRows_133 : decode cX5_makeRows 133 = .ok (.iload_n 1, 1) := by decide +kernel
theorem dX5_makeRows_134 : decode cX5_makeRows 134 = .ok (.iaload, 1) := by decide +kernel
theorem dX5_makeRows_135 : decode cX5_makeRows 135 = .ok (.invokevirtual 125, 3) := by decide +kernel
theorem dX5_makeRows_138 : decode cX5_makeRows 138 = .ok (.iinc 1 1, 3) := by decide +kernel
theorem dX5_makeRows_141 : decode cX5_makeRows 141 = .ok (.goto (-55), 3) := by decide +kernel
theorem dX5_makeRows_144 : decode cX5_makeRows 144 = .ok (.return_, 1) := by decide +kernel
def mPl_makeRows_B86 (k86 : Int32 → hI → hJ → Option (hI × hJ)) (v1 : Int32) (I : hI) (J : hJ) : Option (hI × hJ) :=
  if (I 7 5) ≤ v1 then
    some (I, J)
  else
    (h_g (h_in v1 10) <|
    if (mC_isOutside (I 19 v1.toNatClampNeg) (10 : Int32)) = 0 then
      (h_g (h_in v1 10) <|
      h_g (h_in (I 19 v1.toNatClampNeg) 10) <|
      h_g (h_in v1 10) <|
      h_g (h_in v1 10) <|
      (mPl_makeRow (21 + (I 19 v1.toNatClampNeg).toNatClampNeg) (I 19 v1.toNatClampNeg) (I 17 v1.toNatClampNeg) I J).bind fun q6 =>
      k86 (v1 + (1 : Int32)) I q6)
    else
      k86 (v1 + (1 : Int32)) I J)
set_option maxHeartbeats 4000000 in
theorem sPl_makeRows_B86 (d : Nat) (hd : 1 + 1 ≤ d) (k86 : Int32 → hI → hJ → Option (hI × hJ)) (hk86 : ∀ (v1 : Int32) (I : hI) (J : hJ) (B : Bool × Bool) (q : hI × hJ), k86 v1 I J = some q → AW hFT cX5_makeRows 3 none RX5 kdC d [(0, .ref 13), (1, .int v1)] 86 [] (I, J, RM B) none (q.1, q.2, RM B)) (v1 : Int32) (I : hI) (J : hJ) (B : Bool × Bool) (q : hI × hJ) (h : mPl_makeRows_B86 k86 v1 I J = some q) : AW hFT cX5_makeRows 3 none RX5 kdC d [(0, .ref 13), (1, .int v1)] 86 [] (I, J, RM B) none (q.1, q.2, RM B) := by
  obtain ⟨d0, rfl, hd0⟩ := h_mono hd
  unfold mPl_makeRows_B86 at h
  refine a_iload_n dX5_makeRows_86 rfl rfl ?_
  refine a_aload_n dX5_makeRows_87 rfl rfl ?_
  refine b_getR hK_5 kc_13 (i := 0) rfl fl_5_36 rfl (rm_13_0 B) dX5_makeRows_88 ?_
  refine b_getI hK_7 kc_7 (i := 5) rfl fl_5_63 rfl dX5_makeRows_91 ?_
  refine a_icmp_ge (tgt := 144) dX5_makeRows_94 (by decide) (fun c => ?_) (fun c => ?_)
  · replace h := h_iteT c h
    cases h
    exact a_vret dX5_makeRows_144
  · replace h := h_iteF c h
    refine a_aload_n dX5_makeRows_97 rfl rfl ?_
    refine b_getR hK_5 kc_13 (i := 7) rfl fl_5_28 rfl (rm_13_7 B) dX5_makeRows_98 ?_
    refine a_iload_n dX5_makeRows_101 rfl rfl ?_
    obtain ⟨g1, h⟩ := h_gS h
    refine b_iaload kc_19 (h_inV g1) dX5_makeRows_102 ?_
    refine a_bipush dX5_makeRows_103 bp_10 ?_
    refine a_callSN1 [] yy_X10_isOutside ml_5_70 (sC_isOutside _ (by omega) (I 19 v1.toNatClampNeg) (10 : Int32) I J B _ rfl) rfl rfl (Nat.le_of_ble_eq_true rfl) dX5_makeRows_105 ?_
    refine a_if_ne (tgt := 138) dX5_makeRows_108 (by decide) (fun c => ?_) (fun c => ?_)
    · replace h := h_iteF c h
      refine b_iinc (lv' := [(1, .int (v1 + (1 : Int32))), (0, .ref 13)]) dX5_makeRows_138 rfl ic_1 (by decide) rfl ?_
      refine a_goto (tgt := 86) dX5_makeRows_141 (by decide) ?_
      refine a_sub (lv' := [(0, .ref 13), (1, .int (v1 + (1 : Int32)))]) [1, 0] rfl ?_
      exact hk86 (v1 + (1 : Int32)) I J B _ h
    · replace h := h_iteT c h
      refine a_aload_n dX5_makeRows_111 rfl rfl ?_
      refine a_aload_n dX5_makeRows_112 rfl rfl ?_
      refine b_getR hK_5 kc_13 (i := 8) rfl fl_5_33 rfl (rm_13_8 B) dX5_makeRows_113 ?_
      refine a_aload_n dX5_makeRows_116 rfl rfl ?_
      refine b_getR hK_5 kc_13 (i := 7) rfl fl_5_28 rfl (rm_13_7 B) dX5_makeRows_117 ?_
      refine a_iload_n dX5_makeRows_120 rfl rfl ?_
      obtain ⟨g2, h⟩ := h_gS h
      refine b_iaload kc_19 (h_inV g2) dX5_makeRows_121 ?_
      obtain ⟨g3, h⟩ := h_gS h
      refine b_aaload4 kc_20 (h_inV g3) (rm_JJ_20 B _ (h_in_lt (h_inV g3))) dX5_makeRows_122 ?_
      refine a_aload_n dX5_makeRows_123 rfl rfl ?_
      refine b_getR hK_5 kc_13 (i := 7) rfl fl_5_28 rfl (rm_13_7 B) dX5_makeRows_124 ?_
      refine a_iload_n dX5_makeRows_127 rfl rfl ?_
      obtain ⟨g4, h⟩ := h_gS h
      refine b_iaload kc_19 (h_inV g4) dX5_makeRows_128 ?_
      refine a_aload_n dX5_makeRows_129 rfl rfl ?_
      refine b_getR hK_5 kc_13 (i := 5) rfl fl_5_22 rfl (rm_13_5 B) dX5_makeRows_130 ?_
      refine a_iload_n dX5_makeRows_133 rfl rfl ?_
      obtain ⟨g5, h⟩ := h_gS h
      refine b_iaload kc_17 (h_inV g5) dX5_makeRows_134 ?_
      obtain ⟨q6, cq6, h⟩ := h_bindS h
      refine a_callV0 [] yy_X5_makeRow ml_5_125 kc_13 rfl (sPl_makeRow _ (by omega) (21 + (I 19 v1.toNatClampNeg).toNatClampNeg) (k_JJ_20 _ (h_in_lt (h_inV g3))) (I 19 v1.toNatClampNeg) (I 17 v1.toNatClampNeg) I J B q6 cq6) rfl rfl (Nat.le_of_ble_eq_true rfl) dX5_makeRows_135 ?_
      refine b_iinc (lv' := [(1, .int (v1 + (1 : Int32))), (0, .ref 13)]) dX5_makeRows_138 rfl ic_1 (by decide) rfl ?_
      refine a_goto (tgt := 86) dX5_makeRows_141 (by decide) ?_
      refine a_sub (lv' := [(0, .ref 13), (1, .int (v1 + (1 : Int32)))]) [1, 0] rfl ?_
      exact hk86 (v1 + (1 : Int32)) I q6 B _ h
def mPl_makeRows_L86  : Nat → Int32 → hI → hJ → Option (hI × hJ)
  | 0 => fun _ _ _ => none
  | n + 1 => mPl_makeRows_B86 (mPl_makeRows_L86 n)
theorem sPl_makeRows_L86 (d : Nat) (hd : 1 + 1 ≤ d) : ∀ (n : Nat) (v1 : Int32) (I : hI) (J : hJ) (B : Bool × Bool) (q : hI × hJ) (h : mPl_makeRows_L86 n v1 I J = some q), AW hFT cX5_makeRows 3 none RX5 kdC d [(0, .ref 13), (1, .int v1)] 86 [] (I, J, RM B) none (q.1, q.2, RM B)
  | 0, _, _, _, _, q, h => by cases h
  | n + 1, v1, I, J, B, q, h => sPl_makeRows_B86 d hd (mPl_makeRows_L86 n) (sPl_makeRows_L86 d hd n) v1 I J B q h
def mPl_makeRows_63 (k7 : Int32 → hI → hJ → Option (hI × hJ)) (v1 : Int32) (v2 : Int32) (vs1 : Int32) (vs2 : Int32) (I : hI) (J : hJ) : Option (hI × hJ) :=
  h_g (h_in vs1 10) <|
  h_let (h_u I 19 vs1.toNatClampNeg vs2) fun I2 =>
  if v2 = 0 then
    k7 (v1 + (1 : Int32)) I2 J
  else
    (h_let (h_u I2 13 11 ((I2 13 11) + (1 : Int32))) fun I3 =>
    k7 (v1 + (1 : Int32)) I3 J)
set_option maxHeartbeats 4000000 in
theorem sPl_makeRows_63 (d : Nat) (hd : 1 + 1 ≤ d) (k7 : Int32 → hI → hJ → Option (hI × hJ)) (hk7 : ∀ (v1 : Int32) (I : hI) (J : hJ) (B : Bool × Bool) (q : hI × hJ), k7 v1 I J = some q → AW hFT cX5_makeRows 3 none RX5 kdC d [(0, .ref 13), (1, .int v1)] 7 [] (I, J, RM B) none (q.1, q.2, RM B)) (v1 : Int32) (v2 : Int32) (vs1 : Int32) (vs2 : Int32) (I : hI) (J : hJ) (B : Bool × Bool) (q : hI × hJ) (h : mPl_makeRows_63 k7 v1 v2 vs1 vs2 I J = some q) : AW hFT cX5_makeRows 3 none RX5 kdC d [(0, .ref 13), (1, .int v1), (2, .int v2)] 63 [.int vs2, .int vs1, .ref 19] (I, J, RM B) none (q.1, q.2, RM B) := by
  obtain ⟨d0, rfl, hd0⟩ := h_mono hd
  unfold mPl_makeRows_63 at h
  obtain ⟨g1, h⟩ := h_gS h
  refine b_iastore kc_19 (h_inV g1) dX5_makeRows_63 ?_
  obtain ⟨I2, eI2, h⟩ := h_letS h
  refine a_memI eI2 ?_
  refine a_iload_n dX5_makeRows_64 rfl rfl ?_
  refine a_if_eq (tgt := 78) dX5_makeRows_65 (by decide) (fun c => ?_) (fun c => ?_)
  · replace h := h_iteT c h
    refine b_iinc (lv' := [(1, .int (v1 + (1 : Int32))), (0, .ref 13), (2, .int v2)]) dX5_makeRows_78 rfl ic_1 (by decide) rfl ?_
    refine a_goto (tgt := 7) dX5_makeRows_81 (by decide) ?_
    refine a_sub (lv' := [(0, .ref 13), (1, .int (v1 + (1 : Int32)))]) [1, 0] rfl ?_
    exact hk7 (v1 + (1 : Int32)) I2 J B _ h
  · replace h := h_iteF c h
    refine a_aload_n dX5_makeRows_68 rfl rfl ?_
    refine a_dup dX5_makeRows_69 rfl ?_
    refine b_getI hK_5 kc_13 (i := 11) rfl fl_5_122 rfl dX5_makeRows_70 ?_
    refine a_iconst dX5_makeRows_73 ic_1 ?_
    refine a_iadd dX5_makeRows_74 ?_
    refine b_putI hK_5 kc_13 (i := 11) rfl fl_5_122 rfl rfl (h_NI _) dX5_makeRows_75 ?_
    obtain ⟨I3, eI3, h⟩ := h_letS h
    refine a_memI eI3 ?_
    refine b_iinc (lv' := [(1, .int (v1 + (1 : Int32))), (0, .ref 13), (2, .int v2)]) dX5_makeRows_78 rfl ic_1 (by decide) rfl ?_
    refine a_goto (tgt := 7) dX5_makeRows_81 (by decide) ?_
    refine a_sub (lv' := [(0, .ref 13), (1, .int (v1 + (1 : Int32)))]) [1, 0] rfl ?_
    exact hk7 (v1 + (1 : Int32)) I3 J B _ h
def mPl_makeRows_45 (k7 : Int32 → hI → hJ → Option (hI × hJ)) (v1 : Int32) (vs0 : Int32) (I : hI) (J : hJ) : Option (hI × hJ) :=
  if vs0 = 0 then
    mPl_makeRows_63 k7 v1 vs0 v1 (-1 : Int32) I J
  else
    mPl_makeRows_63 k7 v1 vs0 v1 (I 13 11) I J
set_option maxHeartbeats 4000000 in
theorem sPl_makeRows_45 (d : Nat) (hd : 1 + 1 ≤ d) (k7 : Int32 → hI → hJ → Option (hI × hJ)) (hk7 : ∀ (v1 : Int32) (I : hI) (J : hJ) (B : Bool × Bool) (q : hI × hJ), k7 v1 I J = some q → AW hFT cX5_makeRows 3 none RX5 kdC d [(0, .ref 13), (1, .int v1)] 7 [] (I, J, RM B) none (q.1, q.2, RM B)) (v1 : Int32) (vs0 : Int32) (I : hI) (J : hJ) (B : Bool × Bool) (q : hI × hJ) (h : mPl_makeRows_45 k7 v1 vs0 I J = some q) : AW hFT cX5_makeRows 3 none RX5 kdC d [(0, .ref 13), (1, .int v1)] 45 [.int vs0] (I, J, RM B) none (q.1, q.2, RM B) := by
  obtain ⟨d0, rfl, hd0⟩ := h_mono hd
  unfold mPl_makeRows_45 at h
  refine a_istore_n (lv' := [(2, .int vs0), (0, .ref 13), (1, .int v1)]) dX5_makeRows_45 rfl (by decide) rfl ?_
  refine a_aload_n dX5_makeRows_46 rfl rfl ?_
  refine b_getR hK_5 kc_13 (i := 7) rfl fl_5_28 rfl (rm_13_7 B) dX5_makeRows_47 ?_
  refine a_iload_n dX5_makeRows_50 rfl rfl ?_
  refine a_iload_n dX5_makeRows_51 rfl rfl ?_
  refine a_if_eq (tgt := 62) dX5_makeRows_52 (by decide) (fun c => ?_) (fun c => ?_)
  · replace h := h_iteT c h
    refine a_iconst dX5_makeRows_62 ic_m1 ?_
    refine a_sub (lv' := [(0, .ref 13), (1, .int v1), (2, .int vs0)]) [1, 2, 0] rfl ?_
    exact sPl_makeRows_63 (d0 + 1) (by omega) k7 hk7 v1 vs0 v1 (-1 : Int32) I J B _ h
  · replace h := h_iteF c h
    refine a_aload_n dX5_makeRows_55 rfl rfl ?_
    refine b_getI hK_5 kc_13 (i := 11) rfl fl_5_122 rfl dX5_makeRows_56 ?_
    refine a_goto (tgt := 63) dX5_makeRows_59 (by decide) ?_
    refine a_sub (lv' := [(0, .ref 13), (1, .int v1), (2, .int vs0)]) [1, 2, 0] rfl ?_
    exact sPl_makeRows_63 (d0 + 1) (by omega) k7 hk7 v1 vs0 v1 (I 13 11) I J B _ h
def mPl_makeRows_44 (k7 : Int32 → hI → hJ → Option (hI × hJ)) (v1 : Int32) (I : hI) (J : hJ) : Option (hI × hJ) :=
  mPl_makeRows_45 k7 v1 (0 : Int32) I J
set_option maxHeartbeats 4000000 in
theorem sPl_makeRows_44 (d : Nat) (hd : 1 + 1 ≤ d) (k7 : Int32 → hI → hJ → Option (hI × hJ)) (hk7 : ∀ (v1 : Int32) (I : hI) (J : hJ) (B : Bool × Bool) (q : hI × hJ), k7 v1 I J = some q → AW hFT cX5_makeRows 3 none RX5 kdC d [(0, .ref 13), (1, .int v1)] 7 [] (I, J, RM B) none (q.1, q.2, RM B)) (v1 : Int32) (I : hI) (J : hJ) (B : Bool × Bool) (q : hI × hJ) (h : mPl_makeRows_44 k7 v1 I J = some q) : AW hFT cX5_makeRows 3 none RX5 kdC d [(0, .ref 13), (1, .int v1)] 44 [] (I, J, RM B) none (q.1, q.2, RM B) := by
  obtain ⟨d0, rfl, hd0⟩ := h_mono hd
  unfold mPl_makeRows_44 at h
  refine a_iconst dX5_makeRows_44 ic_0 ?_
  exact sPl_makeRows_45 (d0 + 1) (by omega) k7 hk7 v1 (0 : Int32) I J B _ h
def mPl_makeRows_B7 (k7 : Int32 → hI → hJ → Option (hI × hJ)) (v1 : Int32) (I : hI) (J : hJ) : Option (hI × hJ) :=
  if (I 7 5) ≤ v1 then
    mPl_makeRows_L86 hF (0 : Int32) I J
  else
    (if (mRo_isIn v1 I) = 0 then
      mPl_makeRows_44 k7 v1 I J
    else
      (if (((I 13 10) >>> (v1 &&& 31)) &&& (1 : Int32)) = 0 then
        mPl_makeRows_45 k7 v1 (1 : Int32) I J
      else
        mPl_makeRows_44 k7 v1 I J))
set_option maxHeartbeats 4000000 in
theorem sPl_makeRows_B7 (d : Nat) (hd : 1 + 1 ≤ d) (k7 : Int32 → hI → hJ → Option (hI × hJ)) (hk7 : ∀ (v1 : Int32) (I : hI) (J : hJ) (B : Bool × Bool) (q : hI × hJ), k7 v1 I J = some q → AW hFT cX5_makeRows 3 none RX5 kdC d [(0, .ref 13), (1, .int v1)] 7 [] (I, J, RM B) none (q.1, q.2, RM B)) (v1 : Int32) (I : hI) (J : hJ) (B : Bool × Bool) (q : hI × hJ) (h : mPl_makeRows_B7 k7 v1 I J = some q) : AW hFT cX5_makeRows 3 none RX5 kdC d [(0, .ref 13), (1, .int v1)] 7 [] (I, J, RM B) none (q.1, q.2, RM B) := by
  obtain ⟨d0, rfl, hd0⟩ := h_mono hd
  unfold mPl_makeRows_B7 at h
  refine a_iload_n dX5_makeRows_7 rfl rfl ?_
  refine a_aload_n dX5_makeRows_8 rfl rfl ?_
  refine b_getR hK_5 kc_13 (i := 0) rfl fl_5_36 rfl (rm_13_0 B) dX5_makeRows_9 ?_
  refine b_getI hK_7 kc_7 (i := 5) rfl fl_5_63 rfl dX5_makeRows_12 ?_
  refine a_icmp_ge (tgt := 84) dX5_makeRows_15 (by decide) (fun c => ?_) (fun c => ?_)
  · replace h := h_iteT c h
    refine a_iconst dX5_makeRows_84 ic_0 ?_
    refine a_istore_n (lv' := [(1, .int (0 : Int32)), (0, .ref 13)]) dX5_makeRows_85 rfl (by decide) rfl ?_
    refine a_sub (lv' := [(0, .ref 13), (1, .int (0 : Int32))]) [1, 0] rfl ?_
    exact sPl_makeRows_L86 (d0 + 1) (by omega) hF (0 : Int32) I J B _ h
  · replace h := h_iteF c h
    refine a_aload_n dX5_makeRows_18 rfl rfl ?_
    refine b_getR hK_5 kc_13 (i := 0) rfl fl_5_36 rfl (rm_13_0 B) dX5_makeRows_19 ?_
    refine a_iload_n dX5_makeRows_22 rfl rfl ?_
    refine a_callV1 [] yy_X7_isIn ml_5_88 kc_7 rfl (sRo_isIn _ (by omega) v1 I J B _ rfl) rfl rfl (Nat.le_of_ble_eq_true rfl) dX5_makeRows_23 ?_
    refine a_if_eq (tgt := 44) dX5_makeRows_26 (by decide) (fun c => ?_) (fun c => ?_)
    · replace h := h_iteT c h
      exact sPl_makeRows_44 (d0 + 1) (by omega) k7 hk7 v1 I J B _ h
    · replace h := h_iteF c h
      refine a_aload_n dX5_makeRows_29 rfl rfl ?_
      refine b_getI hK_5 kc_13 (i := 10) rfl fl_5_116 rfl dX5_makeRows_30 ?_
      refine a_iload_n dX5_makeRows_33 rfl rfl ?_
      refine a_ishr dX5_makeRows_34 ?_
      refine a_iconst dX5_makeRows_35 ic_1 ?_
      refine a_iand dX5_makeRows_36 ?_
      refine a_if_ne (tgt := 44) dX5_makeRows_37 (by decide) (fun c => ?_) (fun c => ?_)
      · replace h := h_iteF c h
        exact sPl_makeRows_44 (d0 + 1) (by omega) k7 hk7 v1 I J B _ h
      · replace h := h_iteT c h
        refine a_iconst dX5_makeRows_40 ic_1 ?_
        refine a_goto (tgt := 45) dX5_makeRows_41 (by decide) ?_
        exact sPl_makeRows_45 (d0 + 1) (by omega) k7 hk7 v1 (1 : Int32) I J B _ h
def mPl_makeRows_L7  : Nat → Int32 → hI → hJ → Option (hI × hJ)
  | 0 => fun _ _ _ => none
  | n + 1 => mPl_makeRows_B7 (mPl_makeRows_L7 n)
theorem sPl_makeRows_L7 (d : Nat) (hd : 1 + 1 ≤ d) : ∀ (n : Nat) (v1 : Int32) (I : hI) (J : hJ) (B : Bool × Bool) (q : hI × hJ) (h : mPl_makeRows_L7 n v1 I J = some q), AW hFT cX5_makeRows 3 none RX5 kdC d [(0, .ref 13), (1, .int v1)] 7 [] (I, J, RM B) none (q.1, q.2, RM B)
  | 0, _, _, _, _, q, h => by cases h
  | n + 1, v1, I, J, B, q, h => sPl_makeRows_B7 d hd (mPl_makeRows_L7 n) (sPl_makeRows_L7 d hd n) v1 I J B q h
def mPl_makeRows   (I : hI) (J : hJ) : Option (hI × hJ) :=
  h_let (h_u I 13 11 (0 : Int32)) fun I1 =>
  mPl_makeRows_L7 hF (0 : Int32) I1 J
set_option maxHeartbeats 4000000 in
theorem sPl_makeRows (d : Nat) (hd : 1 + 1 ≤ d)  (I : hI) (J : hJ) (B : Bool × Bool) (q : hI × hJ) (h : mPl_makeRows I J = some q) : HMet hFT yX5_makeRows cX5_makeRows 3 none kdC d [.ref 13] (I, J, RM B) none (q.1, q.2, RM B) := by
  obtain ⟨d0, rfl, hd0⟩ := h_mono hd
  refine HMet.of (by decide) (Nat.le_of_ble_eq_true rfl) ?_
  show AW hFT cX5_makeRows 3 none RX5 kdC (d0 + 1) [(0, .ref 13)] 0 [] (I, J, RM B) none (q.1, q.2, RM B)
  unfold mPl_makeRows at h
  refine a_aload_n dX5_makeRows_0 rfl rfl ?_
  refine a_iconst dX5_makeRows_1 ic_0 ?_
  refine b_putI hK_5 kc_13 (i := 11) rfl fl_5_122 rfl rfl (h_NI _) dX5_makeRows_2 ?_
  obtain ⟨I1, eI1, h⟩ := h_letS h
  refine a_memI eI1 ?_
  refine a_iconst dX5_makeRows_5 ic_0 ?_
  refine a_istore_n (lv' := [(1, .int (0 : Int32)), (0, .ref 13)]) dX5_makeRows_6 rfl (by decide) rfl ?_
  refine a_sub (lv' := [(0, .ref 13), (1, .int (0 : Int32))]) [1, 0] rfl ?_
  exact sPl_makeRows_L7 (d0 + 1) (by omega) hF (0 : Int32) I1 J B _ h
/-! CoinLoops$Plans.clearRow([J[JIJ)V -/
theorem dX5_clearRow_0 : decode cX5_clearRow 0 = .ok (.iload_n 3, 1) := by decide +kernel
theorem dX5_clearRow_1 : decode cX5_clearRow 1 = .ok (.aload_n 1, 1) := by decide +kernel
theorem dX5_clearRow_2 : decode cX5_clearRow 2 = .ok (.arraylength, 1) := by decide +kernel
theorem dX5_clearRow_3 : decode cX5_clearRow 3 = .ok (.invokestatic 70, 3) := by decide +kernel
theorem dX5_clearRow_6 : decode cX5_clearRow 6 = .ok (.ifCond .ne 19, 3) := by decide +kernel
theorem dX5_clearRow_9 : decode cX5_clearRow 9 = .ok (.iload_n 3, 1) := by decide +kernel
theorem dX5_clearRow_10 : decode cX5_clearRow 10 = .ok (.aload_n 2, 1) := by decide +kernel
theorem dX5_clearRow_11 : decode cX5_clearRow 11 = .ok (.arraylength, 1) := by decide +kernel
theorem dX5_clearRow_12 : decode cX5_clearRow 12 = .ok (.invokestatic 70, 3) := by decide +kernel
theorem dX5_clearRow_15 : decode cX5_clearRow 15 = .ok (.ifCond .ne 10, 3) := by decide +kernel
theorem dX5_clearRow_18 : decode cX5_clearRow 18 = .ok (.lload 4, 2) := by decide +kernel
theorem dX5_clearRow_20 : decode cX5_clearRow 20 = .ok (.lconst 0, 1) := by decide +kernel
theorem dX5_clearRow_21 : decode cX5_clearRow 21 = .ok (.lcmp, 1) := by decide +kernel
theorem dX5_clearRow_22 : decode cX5_clearRow 22 = .ok (.ifCond .ne 4, 3) := by decide +kernel
theorem dX5_clearRow_25 : decode cX5_clearRow 25 = .ok (.return_, 1) := by decide +kernel
theorem dX5_clearRow_26 : decode cX5_clearRow 26 = .ok (.aload_n 2, 1) := by decide +kernel
theorem dX5_clearRow_27 : decode cX5_clearRow 27 = .ok (.iload_n 3, 1) := by decide +kernel
theorem dX5_clearRow_28 : decode cX5_clearRow 28 = .ok (.laload, 1) := by decide +kernel
theorem dX5_clearRow_29 : decode cX5_clearRow 29 = .ok (.lstore 6, 2) := by decide +kernel
theorem dX5_clearRow_31 : decode cX5_clearRow 31 = .ok (.aload_n 1, 1) := by decide +kernel
theorem dX5_clearRow_32 : decode cX5_clearRow 32 = .ok (.iload_n 3, 1) := by decide +kernel
theorem dX5_clearRow_33 : decode cX5_clearRow 33 = .ok (.laload, 1) := by decide +kernel
theorem dX5_clearRow_34 : decode cX5_clearRow 34 = .ok (.lstore 8, 2) := by decide +kernel
theorem dX5_clearRow_36 : decode cX5_clearRow 36 = .ok (.iconst 0, 1) := by decide +kernel
theorem dX5_clearRow_37 : decode cX5_clearRow 37 = .ok (.istore 10, 2) := by decide +kernel
theorem dX5_clearRow_39 : decode cX5_clearRow 39 = .ok (.iload 10, 2) := by decide +kernel
theorem dX5_clearRow_41 : decode cX5_clearRow 41 = .ok (.aload_n 0, 1) := by decide +kernel
theorem dX5_clearRow_42 : decode cX5_clearRow 42 = .ok (.getfield 122, 3) := by decide +kernel
theorem dX5_clearRow_45 : decode cX5_clearRow 45 = .ok (.iconst 2, 1) := by decide +kernel
theorem dX5_clearRow_46 : decode cX5_clearRow 46 = .ok (.iadd, 1) := by decide +kernel
theorem dX5_clearRow_47 : decode cX5_clearRow 47 = .ok (.if_icmp .ge 45, 3) := by decide +kernel
theorem dX5_clearRow_50 : decode cX5_clearRow 50 = .ok (.iload 10, 2) := by decide +kernel
theorem dX5_clearRow_52 : decode cX5_clearRow 52 = .ok (.aload_n 1, 1) := by decide +kernel
theorem dX5_clearRow_53 : decode cX5_clearRow 53 = .ok (.arraylength, 1) := by decide +kernel
theorem dX5_clearRow_54 : decode cX5_clearRow 54 = .ok (.if_icmp .ge 38, 3) := by decide +kernel
theorem dX5_clearRow_57 : decode cX5_clearRow 57 = .ok (.iload 10, 2) := by decide +kernel
theorem dX5_clearRow_59 : decode cX5_clearRow 59 = .ok (.aload_n 2, 1) := by decide +kernel
theorem dX5_clearRow_60 : decode cX5_clearRow 60 = .ok (.arraylength, 1) := by decide +kernel
theorem dX5_clearRow_61 : decode cX5_clearRow 61 = .ok (.if_icmp .ge 31, 3) := by decide +kernel
theorem dX5_clearRow_64 : decode cX5_clearRow 64 = .ok (.aload_n 1, 1) := by decide +kernel
theorem dX5_clearRow_65 : decode cX5_clearRow 65 = .ok (.iload 10, 2) := by decide +kernel
theorem dX5_clearRow_67 : decode cX5_clearRow 67 = .ok (.lload 6, 2) := by decide +kernel
theorem dX5_clearRow_69 : decode cX5_clearRow 69 = .ok (.aload_n 1, 1) := by decide +kernel
theorem dX5_clearRow_70 : decode cX5_clearRow 70 = .ok (.iload 10, 2) := by decide +kernel
theorem dX5_clearRow_72 : decode cX5_clearRow 72 = .ok (.laload, 1) := by decide +kernel
theorem dX5_clearRow_73 : decode cX5_clearRow 73 = .ok (.lmul, 1) := by decide +kernel
theorem dX5_clearRow_74 : decode cX5_clearRow 74 = .ok (.lload 8, 2) := by decide +kernel
theorem dX5_clearRow_76 : decode cX5_clearRow 76 = .ok (.aload_n 2, 1) := by decide +kernel
theorem dX5_clearRow_77 : decode cX5_clearRow 77 = .ok (.iload 10, 2) := by decide +kernel
theorem dX5_clearRow_79 : decode cX5_clearRow 79 = .ok (.laload, 1) := by decide +kernel
theorem dX5_clearRow_80 : decode cX5_clearRow 80 = .ok (.lmul, 1) := by decide +kernel
theorem dX5_clearRow_81 : decode cX5_clearRow 81 = .ok (.lsub, 1) := by decide +kernel
theorem dX5_clearRow_82 : decode cX5_clearRow 82 = .ok (.lload 4, 2) := by decide +kernel
theorem dX5_clearRow_84 : decode cX5_clearRow 84 = .ok (.ldiv, 1) := by decide +kernel
theorem dX5_clearRow_85 : decode cX5_clearRow 85 = .ok (.lastore, 1) := by decide +kernel
theorem dX5_clearRow_86 : decode cX5_clearRow 86 = .ok (.iinc 10 1, 3) := by decide +kernel
theorem dX5_clearRow_89 : decode cX5_clearRow 89 = .ok (.goto (-50), 3) := by decide +kernel
theorem dX5_clearRow_92 : decode cX5_clearRow 92 = .ok (.return_, 1) := by decide +kernel
def mPl_clearRow_B39 (k39 : Nat → Nat → Int64 → Int64 → Int64 → Int32 → hI → hJ → Option (hJ)) (a1 : Nat) (a2 : Nat) (v4 : Int64) (v6 : Int64) (v8 : Int64) (v10 : Int32) (I : hI) (J : hJ) : Option (hJ) :=
  if ((I 13 11) + (2 : Int32)) ≤ v10 then
    some J
  else
    (if (12 : Int32) ≤ v10 then
      some J
    else
      (if (12 : Int32) ≤ v10 then
        some J
      else
        (h_g (h_in v10 12) <|
        h_g (h_in v10 12) <|
        h_g (h_nzL v4) <|
        h_g (h_in v10 12) <|
        h_let (h_u J a1 v10.toNatClampNeg (((v6 * (J a1 v10.toNatClampNeg)) - (v8 * (J a2 v10.toNatClampNeg))) / v4)) fun J5 =>
        k39 a1 a2 v4 v6 v8 (v10 + (1 : Int32)) I J5)))
set_option maxHeartbeats 4000000 in
theorem sPl_clearRow_B39 (d : Nat) (hd : 0 + 1 ≤ d) (k39 : Nat → Nat → Int64 → Int64 → Int64 → Int32 → hI → hJ → Option (hJ)) (hk39 : ∀ (a1 : Nat) (ha1 : kdC[a1]? = some (1, 12)) (a2 : Nat) (ha2 : kdC[a2]? = some (1, 12)) (v4 : Int64) (v6 : Int64) (v8 : Int64) (v10 : Int32) (I : hI) (J : hJ) (B : Bool × Bool) (q : hJ), k39 a1 a2 v4 v6 v8 v10 I J = some q → AW hFT cX5_clearRow 11 none RX5 kdC d [(0, .ref 13), (1, .ref a1), (2, .ref a2), (4, .long v4), (6, .long v6), (8, .long v8), (10, .int v10)] 39 [] (I, J, RM B) none (I, q, RM B)) (a1 : Nat) (ha1 : kdC[a1]? = some (1, 12)) (a2 : Nat) (ha2 : kdC[a2]? = some (1, 12)) (v4 : Int64) (v6 : Int64) (v8 : Int64) (v10 : Int32) (I : hI) (J : hJ) (B : Bool × Bool) (q : hJ) (h : mPl_clearRow_B39 k39 a1 a2 v4 v6 v8 v10 I J = some q) : AW hFT cX5_clearRow 11 none RX5 kdC d [(0, .ref 13), (1, .ref a1), (2, .ref a2), (4, .long v4), (6, .long v6), (8, .long v8), (10, .int v10)] 39 [] (I, J, RM B) none (I, q, RM B) := by
  obtain ⟨d0, rfl, hd0⟩ := h_mono hd
  unfold mPl_clearRow_B39 at h
  refine a_iload dX5_clearRow_39 rfl ?_
  refine a_aload_n dX5_clearRow_41 rfl rfl ?_
  refine b_getI hK_5 kc_13 (i := 11) rfl fl_5_122 rfl dX5_clearRow_42 ?_
  refine a_iconst dX5_clearRow_45 ic_2 ?_
  refine a_iadd dX5_clearRow_46 ?_
  refine a_icmp_ge (tgt := 92) dX5_clearRow_47 (by decide) (fun c => ?_) (fun c => ?_)
  · replace h := h_iteT c h
    cases h
    exact a_vret dX5_clearRow_92
  · replace h := h_iteF c h
    refine a_iload dX5_clearRow_50 rfl ?_
    refine a_aload_n dX5_clearRow_52 rfl rfl ?_
    refine a_alen1 ha1 (v := 12) (by decide) dX5_clearRow_53 ?_
    refine a_icmp_ge (tgt := 92) dX5_clearRow_54 (by decide) (fun c => ?_) (fun c => ?_)
    · replace h := h_iteT c h
      cases h
      exact a_vret dX5_clearRow_92
    · replace h := h_iteF c h
      refine a_iload dX5_clearRow_57 rfl ?_
      refine a_aload_n dX5_clearRow_59 rfl rfl ?_
      refine a_alen1 ha2 (v := 12) (by decide) dX5_clearRow_60 ?_
      refine a_icmp_ge (tgt := 92) dX5_clearRow_61 (by decide) (fun c => ?_) (fun c => ?_)
      · replace h := h_iteT c h
        cases h
        exact a_vret dX5_clearRow_92
      · replace h := h_iteF c h
        refine a_aload_n dX5_clearRow_64 rfl rfl ?_
        refine a_iload dX5_clearRow_65 rfl ?_
        refine a_lload dX5_clearRow_67 rfl ?_
        refine a_aload_n dX5_clearRow_69 rfl rfl ?_
        refine a_iload dX5_clearRow_70 rfl ?_
        obtain ⟨g1, h⟩ := h_gS h
        refine b_laload ha1 (h_inV g1) dX5_clearRow_72 ?_
        refine a_lmul dX5_clearRow_73 ?_
        refine a_lload dX5_clearRow_74 rfl ?_
        refine a_aload_n dX5_clearRow_76 rfl rfl ?_
        refine a_iload dX5_clearRow_77 rfl ?_
        obtain ⟨g2, h⟩ := h_gS h
        refine b_laload ha2 (h_inV g2) dX5_clearRow_79 ?_
        refine a_lmul dX5_clearRow_80 ?_
        refine a_lsub dX5_clearRow_81 ?_
        refine a_lload dX5_clearRow_82 rfl ?_
        obtain ⟨g3, h⟩ := h_gS h
        refine a_ldiv dX5_clearRow_84 (h_nzLV g3) ?_
        obtain ⟨g4, h⟩ := h_gS h
        refine b_lastore ha1 (h_inV g4) dX5_clearRow_85 ?_
        obtain ⟨J5, eJ5, h⟩ := h_letS h
        refine a_memJ eJ5 ?_
        refine b_iinc (lv' := [(10, .int (v10 + (1 : Int32))), (0, .ref 13), (1, .ref a1), (2, .ref a2), (4, .long v4), (6, .long v6), (8, .long v8)]) dX5_clearRow_86 rfl ic_1 (by decide) rfl ?_
        refine a_goto (tgt := 39) dX5_clearRow_89 (by decide) ?_
        refine a_sub (lv' := [(0, .ref 13), (1, .ref a1), (2, .ref a2), (4, .long v4), (6, .long v6), (8, .long v8), (10, .int (v10 + (1 : Int32)))]) [1, 2, 3, 4, 5, 6, 0] rfl ?_
        exact hk39 a1 ha1 a2 ha2 v4 v6 v8 (v10 + (1 : Int32)) I J5 B _ h
def mPl_clearRow_L39  : Nat → Nat → Nat → Int64 → Int64 → Int64 → Int32 → hI → hJ → Option (hJ)
  | 0 => fun _ _ _ _ _ _ _ _ => none
  | n + 1 => mPl_clearRow_B39 (mPl_clearRow_L39 n)
theorem sPl_clearRow_L39 (d : Nat) (hd : 0 + 1 ≤ d) : ∀ (n : Nat) (a1 : Nat) (ha1 : kdC[a1]? = some (1, 12)) (a2 : Nat) (ha2 : kdC[a2]? = some (1, 12)) (v4 : Int64) (v6 : Int64) (v8 : Int64) (v10 : Int32) (I : hI) (J : hJ) (B : Bool × Bool) (q : hJ) (h : mPl_clearRow_L39 n a1 a2 v4 v6 v8 v10 I J = some q), AW hFT cX5_clearRow 11 none RX5 kdC d [(0, .ref 13), (1, .ref a1), (2, .ref a2), (4, .long v4), (6, .long v6), (8, .long v8), (10, .int v10)] 39 [] (I, J, RM B) none (I, q, RM B)
  | 0, _, _, _, _, _, _, _, _, _, _, _, q, h => by cases h
  | n + 1, a1, ha1, a2, ha2, v4, v6, v8, v10, I, J, B, q, h => sPl_clearRow_B39 d hd (mPl_clearRow_L39 n) (sPl_clearRow_L39 d hd n) a1 ha1 a2 ha2 v4 v6 v8 v10 I J B q h
def mPl_clearRow  (a1 : Nat) (a2 : Nat) (v3 : Int32) (v4 : Int64) (I : hI) (J : hJ) : Option (hJ) :=
  if (mC_isOutside v3 (12 : Int32)) = 0 then
    (if (mC_isOutside v3 (12 : Int32)) = 0 then
      (if v4 = (0 : Int64) then
        some J
      else
        (h_g (h_in v3 12) <|
        h_let (J a2 v3.toNatClampNeg) fun v6x1 =>
        h_g (h_in v3 12) <|
        h_let (J a1 v3.toNatClampNeg) fun v8x3 =>
        mPl_clearRow_L39 hF a1 a2 v4 v6x1 v8x3 (0 : Int32) I J))
    else
      some J)
  else
    some J
set_option maxHeartbeats 4000000 in
theorem sPl_clearRow (d : Nat) (hd : 0 + 1 ≤ d) (a1 : Nat) (ha1 : kdC[a1]? = some (1, 12)) (a2 : Nat) (ha2 : kdC[a2]? = some (1, 12)) (v3 : Int32) (v4 : Int64) (I : hI) (J : hJ) (B : Bool × Bool) (q : hJ) (h : mPl_clearRow a1 a2 v3 v4 I J = some q) : HMet hFT yX5_clearRow cX5_clearRow 11 none kdC d [.ref 13, .ref a1, .ref a2, .int v3, .long v4] (I, J, RM B) none (I, q, RM B) := by
  obtain ⟨d0, rfl, hd0⟩ := h_mono hd
  refine HMet.of (by decide) (Nat.le_of_ble_eq_true rfl) ?_
  show AW hFT cX5_clearRow 11 none RX5 kdC (d0 + 1) [(0, .ref 13), (1, .ref a1), (2, .ref a2), (3, .int v3), (4, .long v4)] 0 [] (I, J, RM B) none (I, q, RM B)
  unfold mPl_clearRow at h
  refine a_iload_n dX5_clearRow_0 rfl rfl ?_
  refine a_aload_n dX5_clearRow_1 rfl rfl ?_
  refine a_alen1 ha1 (v := 12) (by decide) dX5_clearRow_2 ?_
  refine a_callSN1 [] yy_X10_isOutside ml_5_70 (sC_isOutside _ (by omega) v3 (12 : Int32) I J B _ rfl) rfl rfl (Nat.le_of_ble_eq_true rfl) dX5_clearRow_3 ?_
  refine a_if_ne (tgt := 25) dX5_clearRow_6 (by decide) (fun c => ?_) (fun c => ?_)
  · replace h := h_iteF c h
    cases h
    exact a_vret dX5_clearRow_25
  · replace h := h_iteT c h
    refine a_iload_n dX5_clearRow_9 rfl rfl ?_
    refine a_aload_n dX5_clearRow_10 rfl rfl ?_
    refine a_alen1 ha2 (v := 12) (by decide) dX5_clearRow_11 ?_
    refine a_callSN1 [] yy_X10_isOutside ml_5_70 (sC_isOutside _ (by omega) v3 (12 : Int32) I J B _ rfl) rfl rfl (Nat.le_of_ble_eq_true rfl) dX5_clearRow_12 ?_
    refine a_if_ne (tgt := 25) dX5_clearRow_15 (by decide) (fun c => ?_) (fun c => ?_)
    · replace h := h_iteF c h
      cases h
      exact a_vret dX5_clearRow_25
    · replace h := h_iteT c h
      refine a_lload dX5_clearRow_18 rfl ?_
      refine a_lconst dX5_clearRow_20 lc_0 ?_
      refine a_lcmp_ne (tgt := 26) dX5_clearRow_21 dX5_clearRow_22 (by decide) (fun c => ?_) (fun c => ?_)
      · replace h := h_iteF c h
        refine a_aload_n dX5_clearRow_26 rfl rfl ?_
        refine a_iload_n dX5_clearRow_27 rfl rfl ?_
        obtain ⟨g1, h⟩ := h_gS h
        refine b_laload ha2 (h_inV g1) dX5_clearRow_28 ?_
        obtain ⟨v6x1, ev6x1, h⟩ := h_letS h
        refine a_topJ ev6x1 ?_
        refine a_lstore (lv' := [(6, .long v6x1), (0, .ref 13), (1, .ref a1), (2, .ref a2), (3, .int v3), (4, .long v4)]) dX5_clearRow_29 (by decide) rfl ?_
        refine a_aload_n dX5_clearRow_31 rfl rfl ?_
        refine a_iload_n dX5_clearRow_32 rfl rfl ?_
        obtain ⟨g3, h⟩ := h_gS h
        refine b_laload ha1 (h_inV g3) dX5_clearRow_33 ?_
        obtain ⟨v8x3, ev8x3, h⟩ := h_letS h
        refine a_topJ ev8x3 ?_
        refine a_lstore (lv' := [(8, .long v8x3), (6, .long v6x1), (0, .ref 13), (1, .ref a1), (2, .ref a2), (3, .int v3), (4, .long v4)]) dX5_clearRow_34 (by decide) rfl ?_
        refine a_iconst dX5_clearRow_36 ic_0 ?_
        refine a_istore (lv' := [(10, .int (0 : Int32)), (8, .long v8x3), (6, .long v6x1), (0, .ref 13), (1, .ref a1), (2, .ref a2), (3, .int v3), (4, .long v4)]) dX5_clearRow_37 (by decide) rfl ?_
        refine a_sub (lv' := [(0, .ref 13), (1, .ref a1), (2, .ref a2), (4, .long v4), (6, .long v6x1), (8, .long v8x3), (10, .int (0 : Int32))]) [3, 4, 5, 7, 2, 1, 0] rfl ?_
        exact sPl_clearRow_L39 (d0 + 1) (by omega) hF a1 ha1 a2 ha2 v4 v6x1 v8x3 (0 : Int32) I J B _ h
      · replace h := h_iteT c h
        cases h
        exact a_vret dX5_clearRow_25
/-! CoinLoops$Plans.solve()V -/
theorem dX5_solve_0 : decode cX5_solve 0 = .ok (.lconst 1, 1) := by decide +kernel
theorem dX5_solve_1 : decode cX5_solve 1 = .ok (.lstore_n 1, 1) := by decide +kernel
theorem dX5_solve_2 : decode cX5_solve 2 = .ok (.iconst 0, 1) := by decide +kernel
theorem dX5_solve_3 : decode cX5_solve 3 = .ok (.istore_n 3, 1) := by decide +kernel
theorem dX5_solve_4 : decode cX5_solve 4 = .ok (.iload_n 3, 1) := by decide +kernel
theorem dX5_solve_5 : decode cX5_solve 5 = .ok (.aload_n 0, 1) := by decide +kernel
theorem dX5_solve_6 : decode cX5_solve 6 = .ok (.getfield 122, 3) := by decide +kernel
theorem dX5_solve_9 : decode cX5_solve 9 = .ok (.if_icmp .ge 84, 3) := by decide +kernel
theorem dX5_solve_12 : decode cX5_solve 12 = .ok (.iload_n 3, 1) := by decide +kernel
theorem dX5_solve_13 : decode cX5_solve 13 = .ok (.bipush 10, 2) := by decide +kernel
theorem dX5_solve_15 : decode cX5_solve 15 = .ok (.if_icmp .ge 78, 3) := by decide +kernel
theorem dX5_solve_18 : decode cX5_solve 18 = .ok (.aload_n 0, 1) := by decide +kernel
theorem dX5_solve_19 : decode cX5_solve 19 = .ok (.getfield 33, 3) := by decide +kernel
theorem dX5_solve_22 : decode cX5_solve 22 = .ok (.iload_n 3, 1) := by decide +kernel
theorem dX5_solve_23 : decode cX5_solve 23 = .ok (.aaload, 1) := by decide +kernel
theorem dX5_solve_24 : decode cX5_solve 24 = .ok (.iload_n 3, 1) := by decide +kernel
theorem dX5_solve_25 : decode cX5_solve 25 = .ok (.laload, 1) := by decide +kernel
theorem dX5_solve_26 : decode cX5_solve 26 = .ok (.lstore 4, 2) := by decide +kernel
theorem dX5_solve_28 : decode cX5_solve 28 = .ok (.iconst 0, 1) := by decide +kernel
theorem dX5_solve_29 : decode cX5_solve 29 = .ok (.istore 6, 2) := by decide +kernel
theorem dX5_solve_31 : decode cX5_solve 31 = .ok (.iload 6, 2) := by decide +kernel
theorem dX5_solve_33 : decode cX5_solve 33 = .ok (.aload_n 0, 1) := by decide +kernel
theorem dX5_solve_34 : decode cX5_solve 34 = .ok (.getfield 122, 3) := by decide +kernel
theorem dX5_solve_37 : decode cX5_solve 37 = .ok (.if_icmp .ge 47, 3) := by decide +kernel
theorem dX5_solve_40 : decode cX5_solve 40 = .ok (.iload 6, 2) := by decide +kernel
theorem dX5_solve_42 : decode cX5_solve 42 = .ok (.bipush 10, 2) := by decide +kernel
theorem dX5_solve_44 : decode cX5_solve 44 = .ok (.if_icmp .ge 40, 3) := by decide +kernel
theorem dX5_solve_47 : decode cX5_solve 47 = .ok (.iload 6, 2) := by decide +kernel
theorem dX5_solve_49 : decode cX5_solve 49 = .ok (.iload_n 3, 1) := by decide +kernel
theorem dX5_solve_50 : decode cX5_solve 50 = .ok (.if_icmp .eq 28, 3) := by decide +kernel
theorem dX5_solve_53 : decode cX5_solve 53 = .ok (.lload_n 1, 1) := by decide +kernel
theorem dX5_solve_54 : decode cX5_solve 54 = .ok (.lconst 0, 1) := by decide +kernel
theorem dX5_solve_55 : decode cX5_solve 55 = .ok (.lcmp, 1) := by decide +kernel
theorem dX5_solve_56 : decode cX5_solve 56 = .ok (.ifCond .eq 22, 3) := by decide +kernel
theorem dX5_solve_59 : decode cX5_solve 59 = .ok (.aload_n 0, 1) := by decide +kernel
theorem dX5_solve_60 : decode cX5_solve 60 = .ok (.aload_n 0, 1) := by decide +kernel
theorem dX5_solve_61 : decode cX5_solve 61 = .ok (.getfield 33, 3) := by decide +kernel
theorem dX5_solve_64 : decode cX5_solve 64 = .ok (.iload 6, 2) := by decide +kernel
theorem dX5_solve_66 : decode cX5_solve 66 = .ok (.aaload, 1) := by decide +kernel
theorem dX5_solve_67 : decode cX5_solve 67 = .ok (.aload_n 0, 1) := by decide +kernel
theorem dX5_solve_68 : decode cX5_solve 68 = .ok (.getfield 33, 3) := by decide +kernel
theorem dX5_solve_71 : decode cX5_solve 71 = .ok (.iload_n 3, 1) := by decide +kernel
theorem dX5_solve_72 : decode cX5_solve 72 = .ok (.aaload, 1) := by decide +kernel
theorem dX5_solve_73 : decode cX5_solve 73 = .ok (.iload_n 3, 1) := by decide +kernel
theorem dX5_solve_74 : decode cX5_solve 74 = .ok (.lload_n 1, 1) := by decide +kernel
theorem dX5_solve_75 : decode cX5_solve 75 = .ok (.invokevirtual 134, 3) := by decide +kernel
theorem dX5_solve_78 : decode cX5_solve 78 = .ok (.iinc 6 1, 3) := by decide +kernel
theorem dX5_solve_81 : decode cX5_solve 81 = .ok (.goto (-50), 3) := by decide +kernel
theorem dX5_solve_84 : decode cX5_solve 84 = .ok (.lload 4, 2) := by decide +kernel
theorem dX5_solve_86 : decode cX5_solve 86 = .ok (.lstore_n 1, 1) := by decide +kernel
theorem dX5_solve_87 : decode cX5_solve 87 = .ok (.iinc 3 1, 3) := by decide +kernel
theorem dX5_solve_90 : decode cX5_solve 90 = .ok (.goto (-86), 3) := by decide +kernel
theorem dX5_solve_93 : decode cX5_solve 93 = .ok (.return_, 1) := by decide +kernel
def mPl_solve_B31 (k4 : Int64 → Int32 → hI → hJ → Option (hJ)) (k31 : Int64 → Int32 → Int64 → Int32 → hI → hJ → Option (hJ)) (v1 : Int64) (v3 : Int32) (v4 : Int64) (v6 : Int32) (I : hI) (J : hJ) : Option (hJ) :=
  if (I 13 11) ≤ v6 then
    k4 v4 (v3 + (1 : Int32)) I J
  else
    (if (10 : Int32) ≤ v6 then
      k4 v4 (v3 + (1 : Int32)) I J
    else
      (if v6 = v3 then
        k31 v1 v3 v4 (v6 + (1 : Int32)) I J
      else
        (if v1 = (0 : Int64) then
          k31 v1 v3 v4 (v6 + (1 : Int32)) I J
        else
          (h_g (h_in v6 10) <|
          h_g (h_in v3 10) <|
          (mPl_clearRow (21 + v6.toNatClampNeg) (21 + v3.toNatClampNeg) v3 v1 I J).bind fun q3 =>
          k31 v1 v3 v4 (v6 + (1 : Int32)) I q3))))
set_option maxHeartbeats 4000000 in
theorem sPl_solve_B31 (d : Nat) (hd : 1 + 1 ≤ d) (k4 : Int64 → Int32 → hI → hJ → Option (hJ)) (hk4 : ∀ (v1 : Int64) (v3 : Int32) (I : hI) (J : hJ) (B : Bool × Bool) (q : hJ), k4 v1 v3 I J = some q → AW hFT cX5_solve 7 none RX5 kdC d [(0, .ref 13), (1, .long v1), (3, .int v3)] 4 [] (I, J, RM B) none (I, q, RM B)) (k31 : Int64 → Int32 → Int64 → Int32 → hI → hJ → Option (hJ)) (hk31 : ∀ (v1 : Int64) (v3 : Int32) (v4 : Int64) (v6 : Int32) (I : hI) (J : hJ) (B : Bool × Bool) (q : hJ), k31 v1 v3 v4 v6 I J = some q → AW hFT cX5_solve 7 none RX5 kdC d [(0, .ref 13), (1, .long v1), (3, .int v3), (4, .long v4), (6, .int v6)] 31 [] (I, J, RM B) none (I, q, RM B)) (v1 : Int64) (v3 : Int32) (v4 : Int64) (v6 : Int32) (I : hI) (J : hJ) (B : Bool × Bool) (q : hJ) (h : mPl_solve_B31 k4 k31 v1 v3 v4 v6 I J = some q) : AW hFT cX5_solve 7 none RX5 kdC d [(0, .ref 13), (1, .long v1), (3, .int v3), (4, .long v4), (6, .int v6)] 31 [] (I, J, RM B) none (I, q, RM B) := by
  obtain ⟨d0, rfl, hd0⟩ := h_mono hd
  unfold mPl_solve_B31 at h
  refine a_iload dX5_solve_31 rfl ?_
  refine a_aload_n dX5_solve_33 rfl rfl ?_
  refine b_getI hK_5 kc_13 (i := 11) rfl fl_5_122 rfl dX5_solve_34 ?_
  refine a_icmp_ge (tgt := 84) dX5_solve_37 (by decide) (fun c => ?_) (fun c => ?_)
  · replace h := h_iteT c h
    refine a_lload dX5_solve_84 rfl ?_
    refine a_lstore_n (lv' := [(1, .long v4), (0, .ref 13), (3, .int v3), (4, .long v4), (6, .int v6)]) dX5_solve_86 rfl (by decide) rfl ?_
    refine b_iinc (lv' := [(3, .int (v3 + (1 : Int32))), (1, .long v4), (0, .ref 13), (4, .long v4), (6, .int v6)]) dX5_solve_87 rfl ic_1 (by decide) rfl ?_
    refine a_goto (tgt := 4) dX5_solve_90 (by decide) ?_
    refine a_sub (lv' := [(0, .ref 13), (1, .long v4), (3, .int (v3 + (1 : Int32)))]) [2, 1, 0] rfl ?_
    exact hk4 v4 (v3 + (1 : Int32)) I J B _ h
  · replace h := h_iteF c h
    refine a_iload dX5_solve_40 rfl ?_
    refine a_bipush dX5_solve_42 bp_10 ?_
    refine a_icmp_ge (tgt := 84) dX5_solve_44 (by decide) (fun c => ?_) (fun c => ?_)
    · replace h := h_iteT c h
      refine a_lload dX5_solve_84 rfl ?_
      refine a_lstore_n (lv' := [(1, .long v4), (0, .ref 13), (3, .int v3), (4, .long v4), (6, .int v6)]) dX5_solve_86 rfl (by decide) rfl ?_
      refine b_iinc (lv' := [(3, .int (v3 + (1 : Int32))), (1, .long v4), (0, .ref 13), (4, .long v4), (6, .int v6)]) dX5_solve_87 rfl ic_1 (by decide) rfl ?_
      refine a_goto (tgt := 4) dX5_solve_90 (by decide) ?_
      refine a_sub (lv' := [(0, .ref 13), (1, .long v4), (3, .int (v3 + (1 : Int32)))]) [2, 1, 0] rfl ?_
      exact hk4 v4 (v3 + (1 : Int32)) I J B _ h
    · replace h := h_iteF c h
      refine a_iload dX5_solve_47 rfl ?_
      refine a_iload_n dX5_solve_49 rfl rfl ?_
      refine a_icmp_eq (tgt := 78) dX5_solve_50 (by decide) (fun c => ?_) (fun c => ?_)
      · replace h := h_iteT c h
        refine b_iinc (lv' := [(6, .int (v6 + (1 : Int32))), (0, .ref 13), (1, .long v1), (3, .int v3), (4, .long v4)]) dX5_solve_78 rfl ic_1 (by decide) rfl ?_
        refine a_goto (tgt := 31) dX5_solve_81 (by decide) ?_
        refine a_sub (lv' := [(0, .ref 13), (1, .long v1), (3, .int v3), (4, .long v4), (6, .int (v6 + (1 : Int32)))]) [1, 2, 3, 4, 0] rfl ?_
        exact hk31 v1 v3 v4 (v6 + (1 : Int32)) I J B _ h
      · replace h := h_iteF c h
        refine a_lload_n dX5_solve_53 rfl rfl ?_
        refine a_lconst dX5_solve_54 lc_0 ?_
        refine a_lcmp_eq (tgt := 78) dX5_solve_55 dX5_solve_56 (by decide) (fun c => ?_) (fun c => ?_)
        · replace h := h_iteT c h
          refine b_iinc (lv' := [(6, .int (v6 + (1 : Int32))), (0, .ref 13), (1, .long v1), (3, .int v3), (4, .long v4)]) dX5_solve_78 rfl ic_1 (by decide) rfl ?_
          refine a_goto (tgt := 31) dX5_solve_81 (by decide) ?_
          refine a_sub (lv' := [(0, .ref 13), (1, .long v1), (3, .int v3), (4, .long v4), (6, .int (v6 + (1 : Int32)))]) [1, 2, 3, 4, 0] rfl ?_
          exact hk31 v1 v3 v4 (v6 + (1 : Int32)) I J B _ h
        · replace h := h_iteF c h
          refine a_aload_n dX5_solve_59 rfl rfl ?_
          refine a_aload_n dX5_solve_60 rfl rfl ?_
          refine b_getR hK_5 kc_13 (i := 8) rfl fl_5_33 rfl (rm_13_8 B) dX5_solve_61 ?_
          refine a_iload dX5_solve_64 rfl ?_
          obtain ⟨g1, h⟩ := h_gS h
          refine b_aaload4 kc_20 (h_inV g1) (rm_JJ_20 B _ (h_in_lt (h_inV g1))) dX5_solve_66 ?_
          refine a_aload_n dX5_solve_67 rfl rfl ?_
          refine b_getR hK_5 kc_13 (i := 8) rfl fl_5_33 rfl (rm_13_8 B) dX5_solve_68 ?_
          refine a_iload_n dX5_solve_71 rfl rfl ?_
          obtain ⟨g2, h⟩ := h_gS h
          refine b_aaload4 kc_20 (h_inV g2) (rm_JJ_20 B _ (h_in_lt (h_inV g2))) dX5_solve_72 ?_
          refine a_iload_n dX5_solve_73 rfl rfl ?_
          refine a_lload_n dX5_solve_74 rfl rfl ?_
          obtain ⟨q3, cq3, h⟩ := h_bindS h
          refine a_callV0 [] yy_X5_clearRow ml_5_134 kc_13 rfl (sPl_clearRow _ (by omega) (21 + v6.toNatClampNeg) (k_JJ_20 _ (h_in_lt (h_inV g1))) (21 + v3.toNatClampNeg) (k_JJ_20 _ (h_in_lt (h_inV g2))) v3 v1 I J B q3 cq3) rfl rfl (Nat.le_of_ble_eq_true rfl) dX5_solve_75 ?_
          refine b_iinc (lv' := [(6, .int (v6 + (1 : Int32))), (0, .ref 13), (1, .long v1), (3, .int v3), (4, .long v4)]) dX5_solve_78 rfl ic_1 (by decide) rfl ?_
          refine a_goto (tgt := 31) dX5_solve_81 (by decide) ?_
          refine a_sub (lv' := [(0, .ref 13), (1, .long v1), (3, .int v3), (4, .long v4), (6, .int (v6 + (1 : Int32)))]) [1, 2, 3, 4, 0] rfl ?_
          exact hk31 v1 v3 v4 (v6 + (1 : Int32)) I q3 B _ h
def mPl_solve_L31 (k4 : Int64 → Int32 → hI → hJ → Option (hJ)) : Nat → Int64 → Int32 → Int64 → Int32 → hI → hJ → Option (hJ)
  | 0 => fun _ _ _ _ _ _ => none
  | n + 1 => mPl_solve_B31 k4 (mPl_solve_L31 k4 n)
theorem sPl_solve_L31 (d : Nat) (hd : 1 + 1 ≤ d) (k4 : Int64 → Int32 → hI → hJ → Option (hJ)) (hk4 : ∀ (v1 : Int64) (v3 : Int32) (I : hI) (J : hJ) (B : Bool × Bool) (q : hJ), k4 v1 v3 I J = some q → AW hFT cX5_solve 7 none RX5 kdC d [(0, .ref 13), (1, .long v1), (3, .int v3)] 4 [] (I, J, RM B) none (I, q, RM B)) : ∀ (n : Nat) (v1 : Int64) (v3 : Int32) (v4 : Int64) (v6 : Int32) (I : hI) (J : hJ) (B : Bool × Bool) (q : hJ) (h : mPl_solve_L31 k4 n v1 v3 v4 v6 I J = some q), AW hFT cX5_solve 7 none RX5 kdC d [(0, .ref 13), (1, .long v1), (3, .int v3), (4, .long v4), (6, .int v6)] 31 [] (I, J, RM B) none (I, q, RM B)
  | 0, _, _, _, _, _, _, _, q, h => by cases h
  | n + 1, v1, v3, v4, v6, I, J, B, q, h => sPl_solve_B31 d hd k4 hk4 (mPl_solve_L31 k4 n) (sPl_solve_L31 d hd k4 hk4 n) v1 v3 v4 v6 I J B q h
def mPl_solve_B4 (k4 : Int64 → Int32 → hI → hJ → Option (hJ)) (v1 : Int64) (v3 : Int32) (I : hI) (J : hJ) : Option (hJ) :=
  if (I 13 11) ≤ v3 then
    some J
  else
    (if (10 : Int32) ≤ v3 then
      some J
    else
      (h_g (h_in v3 10) <|
      h_g (h_in v3 12) <|
      h_let (J (21 + v3.toNatClampNeg) v3.toNatClampNeg) fun v4x2 =>
      mPl_solve_L31 k4 hF v1 v3 v4x2 (0 : Int32) I J))
set_option maxHeartbeats 4000000 in
theorem sPl_solve_B4 (d : Nat) (hd : 1 + 1 ≤ d) (k4 : Int64 → Int32 → hI → hJ → Option (hJ)) (hk4 : ∀ (v1 : Int64) (v3 : Int32) (I : hI) (J : hJ) (B : Bool × Bool) (q : hJ), k4 v1 v3 I J = some q → AW hFT cX5_solve 7 none RX5 kdC d [(0, .ref 13), (1, .long v1), (3, .int v3)] 4 [] (I, J, RM B) none (I, q, RM B)) (v1 : Int64) (v3 : Int32) (I : hI) (J : hJ) (B : Bool × Bool) (q : hJ) (h : mPl_solve_B4 k4 v1 v3 I J = some q) : AW hFT cX5_solve 7 none RX5 kdC d [(0, .ref 13), (1, .long v1), (3, .int v3)] 4 [] (I, J, RM B) none (I, q, RM B) := by
  obtain ⟨d0, rfl, hd0⟩ := h_mono hd
  unfold mPl_solve_B4 at h
  refine a_iload_n dX5_solve_4 rfl rfl ?_
  refine a_aload_n dX5_solve_5 rfl rfl ?_
  refine b_getI hK_5 kc_13 (i := 11) rfl fl_5_122 rfl dX5_solve_6 ?_
  refine a_icmp_ge (tgt := 93) dX5_solve_9 (by decide) (fun c => ?_) (fun c => ?_)
  · replace h := h_iteT c h
    cases h
    exact a_vret dX5_solve_93
  · replace h := h_iteF c h
    refine a_iload_n dX5_solve_12 rfl rfl ?_
    refine a_bipush dX5_solve_13 bp_10 ?_
    refine a_icmp_ge (tgt := 93) dX5_solve_15 (by decide) (fun c => ?_) (fun c => ?_)
    · replace h := h_iteT c h
      cases h
      exact a_vret dX5_solve_93
    · replace h := h_iteF c h
      refine a_aload_n dX5_solve_18 rfl rfl ?_
      refine b_getR hK_5 kc_13 (i := 8) rfl fl_5_33 rfl (rm_13_8 B) dX5_solve_19 ?_
      refine a_iload_n dX5_solve_22 rfl rfl ?_
      obtain ⟨g1, h⟩ := h_gS h
      refine b_aaload4 kc_20 (h_inV g1) (rm_JJ_20 B _ (h_in_lt (h_inV g1))) dX5_solve_23 ?_
      refine a_iload_n dX5_solve_24 rfl rfl ?_
      obtain ⟨g2, h⟩ := h_gS h
      refine b_laload (k_JJ_20 _ (h_in_lt (h_inV g1))) (h_inV g2) dX5_solve_25 ?_
      obtain ⟨v4x2, ev4x2, h⟩ := h_letS h
      refine a_topJ ev4x2 ?_
      refine a_lstore (lv' := [(4, .long v4x2), (0, .ref 13), (1, .long v1), (3, .int v3)]) dX5_solve_26 (by decide) rfl ?_
      refine a_iconst dX5_solve_28 ic_0 ?_
      refine a_istore (lv' := [(6, .int (0 : Int32)), (4, .long v4x2), (0, .ref 13), (1, .long v1), (3, .int v3)]) dX5_solve_29 (by decide) rfl ?_
      refine a_sub (lv' := [(0, .ref 13), (1, .long v1), (3, .int v3), (4, .long v4x2), (6, .int (0 : Int32))]) [2, 3, 4, 1, 0] rfl ?_
      exact sPl_solve_L31 (d0 + 1) (by omega) k4 hk4 hF v1 v3 v4x2 (0 : Int32) I J B _ h
def mPl_solve_L4  : Nat → Int64 → Int32 → hI → hJ → Option (hJ)
  | 0 => fun _ _ _ _ => none
  | n + 1 => mPl_solve_B4 (mPl_solve_L4 n)
theorem sPl_solve_L4 (d : Nat) (hd : 1 + 1 ≤ d) : ∀ (n : Nat) (v1 : Int64) (v3 : Int32) (I : hI) (J : hJ) (B : Bool × Bool) (q : hJ) (h : mPl_solve_L4 n v1 v3 I J = some q), AW hFT cX5_solve 7 none RX5 kdC d [(0, .ref 13), (1, .long v1), (3, .int v3)] 4 [] (I, J, RM B) none (I, q, RM B)
  | 0, _, _, _, _, _, q, h => by cases h
  | n + 1, v1, v3, I, J, B, q, h => sPl_solve_B4 d hd (mPl_solve_L4 n) (sPl_solve_L4 d hd n) v1 v3 I J B q h
def mPl_solve   (I : hI) (J : hJ) : Option (hJ) :=
  mPl_solve_L4 hF (1 : Int64) (0 : Int32) I J
set_option maxHeartbeats 4000000 in
theorem sPl_solve (d : Nat) (hd : 1 + 1 ≤ d)  (I : hI) (J : hJ) (B : Bool × Bool) (q : hJ) (h : mPl_solve I J = some q) : HMet hFT yX5_solve cX5_solve 7 none kdC d [.ref 13] (I, J, RM B) none (I, q, RM B) := by
  obtain ⟨d0, rfl, hd0⟩ := h_mono hd
  refine HMet.of (by decide) (Nat.le_of_ble_eq_true rfl) ?_
  show AW hFT cX5_solve 7 none RX5 kdC (d0 + 1) [(0, .ref 13)] 0 [] (I, J, RM B) none (I, q, RM B)
  unfold mPl_solve at h
  refine a_lconst dX5_solve_0 lc_1 ?_
  refine a_lstore_n (lv' := [(1, .long (1 : Int64)), (0, .ref 13)]) dX5_solve_1 rfl (by decide) rfl ?_
  refine a_iconst dX5_solve_2 ic_0 ?_
  refine a_istore_n (lv' := [(3, .int (0 : Int32)), (1, .long (1 : Int64)), (0, .ref 13)]) dX5_solve_3 rfl (by decide) rfl ?_
  refine a_sub (lv' := [(0, .ref 13), (1, .long (1 : Int64)), (3, .int (0 : Int32))]) [2, 1, 0] rfl ?_
  exact sPl_solve_L4 (d0 + 1) (by omega) hF (1 : Int64) (0 : Int32) I J B _ h
/-! CoinLoops$Plans.isEndless(I)Z -/
theorem dX5_isEndless_0 : decode cX5_isEndless 0 = .ok (.iload_n 1, 1) := by decide +kernel
theorem dX5_isEndless_1 : decode cX5_isEndless 1 = .ok (.bipush 10, 2) := by decide +kernel
theorem dX5_isEndless_3 : decode cX5_isEndless 3 = .ok (.invokestatic 70, 3) := by decide +kernel
theorem dX5_isEndless_6 : decode cX5_isEndless 6 = .ok (.ifCond .eq 7, 3) := by decide +kernel
theorem dX5_isEndless_9 : decode cX5_isEndless 9 = .ok (.iconst 0, 1) := by decide +kernel
theorem dX5_isEndless_10 : decode cX5_isEndless 10 = .ok (.goto 14, 3) := by decide +kernel
theorem dX5_isEndless_13 : decode cX5_isEndless 13 = .ok (.aload_n 0, 1) := by decide +kernel
theorem dX5_isEndless_14 : decode cX5_isEndless 14 = .ok (.getfield 25, 3) := by decide +kernel
theorem dX5_isEndless_17 : decode cX5_isEndless 17 = .ok (.iload_n 1, 1) := by decide +kernel
theorem dX5_isEndless_18 : decode cX5_isEndless 18 = .ok (.iaload, 1) := by decide +kernel
theorem dX5_isEndless_19 : decode cX5_isEndless 19 = .ok (.aload_n 0, 1) := by decide +kernel
theorem dX5_isEndless_20 : decode cX5_isEndless 20 = .ok (.getfield 116, 3) := by decide +kernel
theorem dX5_isEndless_23 : decode cX5_isEndless 23 = .ok (.iand, 1) := by decide +kernel
theorem dX5_isEndless_24 : decode cX5_isEndless 24 = .ok (.istore_n 2, 1) := by decide +kernel
theorem dX5_isEndless_25 : decode cX5_isEndless 25 = .ok (.iconst 0, 1) := by decide +kernel
theorem dX5_isEndless_26 : decode cX5_isEndless 26 = .ok (.istore_n 3, 1) := by decide +kernel
theorem dX5_isEndless_27 : decode cX5_isEndless 27 = .ok (.iload_n 3, 1) := by decide +kernel
theorem dX5_isEndless_28 : decode cX5_isEndless 28 = .ok (.aload_n 0, 1) := by decide +kernel
theorem dX5_isEndless_29 : decode cX5_isEndless 29 = .ok (.getfield 36, 3) := by decide +kernel
theorem dX5_isEndless_32 : decode cX5_isEndless 32 = .ok (.getfield 63, 3) := by decide +kernel
theorem dX5_isEndless_35 : decode cX5_isEndless 35 = .ok (.if_icmp .ge 36, 3) := by decide +kernel
theorem dX5_isEndless_38 : decode cX5_isEndless 38 = .ok (.iload_n 2, 1) := by decide +kernel
theorem dX5_isEndless_39 : decode cX5_isEndless 39 = .ok (.iload_n 3, 1) := by decide +kernel
theorem dX5_isEndless_40 : decode cX5_isEndless 40 = .ok (.ishr, 1) := by decide +kernel
theorem dX5_isEndless_41 : decode cX5_isEndless 41 = .ok (.iconst 1, 1) := by decide +kernel
theorem dX5_isEndless_42 : decode cX5_isEndless 42 = .ok (.iand, 1) := by decide +kernel
theorem dX5_isEndless_43 : decode cX5_isEndless 43 = .ok (.ifCond .eq 22, 3) := by decide +kernel
theorem dX5_isEndless_46 : decode cX5_isEndless 46 = .ok (.aload_n 0, 1) := by decide +kernel
theorem dX5_isEndless_47 : decode cX5_isEndless 47 = .ok (.getfield 36, 3) := by decide +kernel
theorem dX5_isEndless_50 : decode cX5_isEndless 50 = .ok (.getfield 131, 3) := by decide +kernel
theorem dX5_isEndless_53 : decode cX5_isEndless 53 = .ok (.aload_n 0, 1) := by decide +kernel
theorem dX5_isEndless_54 : decode cX5_isEndless 54 = .ok (.getfield 22, 3) := by decide +kernel
theorem dX5_isEndless_57 : decode cX5_isEndless 57 = .ok (.iload_n 3, 1) := by decide +kernel
theorem dX5_isEndless_58 : decode cX5_isEndless 58 = .ok (.iaload, 1) := by decide +kernel
theorem dX5_isEndless_59 : decode cX5_isEndless 59 = .ok (.iaload, 1) := by decide +kernel
theorem dX5_isEndless_60 : decode cX5_isEndless 60 = .ok (.ifCond .le 5, 3) := by decide +kernel
theorem dX5_isEndless_63 : decode cX5_isEndless 63 = .ok (.iconst 1, 1) := by decide +kernel
theorem dX5_isEndless_64 : decode cX5_isEndless 64 = .ok (.ireturn, 1) := by decide +kernel
theorem dX5_isEndless_65 : decode cX5_isEndless 65 = .ok (.iinc 3 1, 3) := by decide +kernel
theorem dX5_isEndless_68 : decode cX5_isEndless 68 = .ok (.goto (-41), 3) := by decide +kernel
theorem dX5_isEndless_71 : decode cX5_isEndless 71 = .ok (.iconst 0, 1) := by decide +kernel
theorem dX5_isEndless_72 : decode cX5_isEndless 72 = .ok (.ireturn, 1) := by decide +kernel
def mPl_isEndless_B27 (k27 : Int32 → Int32 → hI → Option (Int32)) (v2 : Int32) (v3 : Int32) (I : hI) : Option (Int32) :=
  if (I 7 5) ≤ v3 then
    some (0 : Int32)
  else
    (if ((v2 >>> (v3 &&& 31)) &&& (1 : Int32)) = 0 then
      k27 v2 (v3 + (1 : Int32)) I
    else
      (h_g (h_in v3 10) <|
      h_g (h_in (I 17 v3.toNatClampNeg) 80) <|
      if (I 10 (I 17 v3.toNatClampNeg).toNatClampNeg) ≤ 0 then
        k27 v2 (v3 + (1 : Int32)) I
      else
        some (1 : Int32)))
set_option maxHeartbeats 4000000 in
theorem sPl_isEndless_B27 (d : Nat) (hd : 0 + 1 ≤ d) (k27 : Int32 → Int32 → hI → Option (Int32)) (hk27 : ∀ (v2 : Int32) (v3 : Int32) (I : hI) (J : hJ) (B : Bool × Bool) (q : Int32), k27 v2 v3 I = some q → AW hFT cX5_isEndless 4 (some .boolean) RX5 kdC d [(0, .ref 13), (2, .int v2), (3, .int v3)] 27 [] (I, J, RM B) (some (.int q)) (I, J, RM B)) (v2 : Int32) (v3 : Int32) (I : hI) (J : hJ) (B : Bool × Bool) (q : Int32) (h : mPl_isEndless_B27 k27 v2 v3 I = some q) : AW hFT cX5_isEndless 4 (some .boolean) RX5 kdC d [(0, .ref 13), (2, .int v2), (3, .int v3)] 27 [] (I, J, RM B) (some (.int q)) (I, J, RM B) := by
  obtain ⟨d0, rfl, hd0⟩ := h_mono hd
  unfold mPl_isEndless_B27 at h
  refine a_iload_n dX5_isEndless_27 rfl rfl ?_
  refine a_aload_n dX5_isEndless_28 rfl rfl ?_
  refine b_getR hK_5 kc_13 (i := 0) rfl fl_5_36 rfl (rm_13_0 B) dX5_isEndless_29 ?_
  refine b_getI hK_7 kc_7 (i := 5) rfl fl_5_63 rfl dX5_isEndless_32 ?_
  refine a_icmp_ge (tgt := 71) dX5_isEndless_35 (by decide) (fun c => ?_) (fun c => ?_)
  · replace h := h_iteT c h
    refine a_iconst dX5_isEndless_71 ic_0 ?_
    cases h
    exact a_zret (h_Z0.1) dX5_isEndless_72
  · replace h := h_iteF c h
    refine a_iload_n dX5_isEndless_38 rfl rfl ?_
    refine a_iload_n dX5_isEndless_39 rfl rfl ?_
    refine a_ishr dX5_isEndless_40 ?_
    refine a_iconst dX5_isEndless_41 ic_1 ?_
    refine a_iand dX5_isEndless_42 ?_
    refine a_if_eq (tgt := 65) dX5_isEndless_43 (by decide) (fun c => ?_) (fun c => ?_)
    · replace h := h_iteT c h
      refine b_iinc (lv' := [(3, .int (v3 + (1 : Int32))), (0, .ref 13), (2, .int v2)]) dX5_isEndless_65 rfl ic_1 (by decide) rfl ?_
      refine a_goto (tgt := 27) dX5_isEndless_68 (by decide) ?_
      refine a_sub (lv' := [(0, .ref 13), (2, .int v2), (3, .int (v3 + (1 : Int32)))]) [1, 2, 0] rfl ?_
      exact hk27 v2 (v3 + (1 : Int32)) I J B _ h
    · replace h := h_iteF c h
      refine a_aload_n dX5_isEndless_46 rfl rfl ?_
      refine b_getR hK_5 kc_13 (i := 0) rfl fl_5_36 rfl (rm_13_0 B) dX5_isEndless_47 ?_
      refine b_getR hK_7 kc_7 (i := 2) rfl fl_5_131 rfl (rm_7_2 B) dX5_isEndless_50 ?_
      refine a_aload_n dX5_isEndless_53 rfl rfl ?_
      refine b_getR hK_5 kc_13 (i := 5) rfl fl_5_22 rfl (rm_13_5 B) dX5_isEndless_54 ?_
      refine a_iload_n dX5_isEndless_57 rfl rfl ?_
      obtain ⟨g1, h⟩ := h_gS h
      refine b_iaload kc_17 (h_inV g1) dX5_isEndless_58 ?_
      obtain ⟨g2, h⟩ := h_gS h
      refine b_iaload kc_10 (h_inV g2) dX5_isEndless_59 ?_
      refine a_if_le (tgt := 65) dX5_isEndless_60 (by decide) (fun c => ?_) (fun c => ?_)
      · replace h := h_iteT c h
        refine b_iinc (lv' := [(3, .int (v3 + (1 : Int32))), (0, .ref 13), (2, .int v2)]) dX5_isEndless_65 rfl ic_1 (by decide) rfl ?_
        refine a_goto (tgt := 27) dX5_isEndless_68 (by decide) ?_
        refine a_sub (lv' := [(0, .ref 13), (2, .int v2), (3, .int (v3 + (1 : Int32)))]) [1, 2, 0] rfl ?_
        exact hk27 v2 (v3 + (1 : Int32)) I J B _ h
      · replace h := h_iteF c h
        refine a_iconst dX5_isEndless_63 ic_1 ?_
        cases h
        exact a_zret (h_Z1.1) dX5_isEndless_64
def mPl_isEndless_L27  : Nat → Int32 → Int32 → hI → Option (Int32)
  | 0 => fun _ _ _ => none
  | n + 1 => mPl_isEndless_B27 (mPl_isEndless_L27 n)
theorem sPl_isEndless_L27 (d : Nat) (hd : 0 + 1 ≤ d) : ∀ (n : Nat) (v2 : Int32) (v3 : Int32) (I : hI) (J : hJ) (B : Bool × Bool) (q : Int32) (h : mPl_isEndless_L27 n v2 v3 I = some q), AW hFT cX5_isEndless 4 (some .boolean) RX5 kdC d [(0, .ref 13), (2, .int v2), (3, .int v3)] 27 [] (I, J, RM B) (some (.int q)) (I, J, RM B)
  | 0, _, _, _, _, _, q, h => by cases h
  | n + 1, v2, v3, I, J, B, q, h => sPl_isEndless_B27 d hd (mPl_isEndless_L27 n) (sPl_isEndless_L27 d hd n) v2 v3 I J B q h
def mPl_isEndless  (v1 : Int32) (I : hI) : Option (Int32) :=
  if (mC_isOutside v1 (10 : Int32)) = 0 then
    (h_g (h_in v1 10) <|
    h_let ((I 18 v1.toNatClampNeg) &&& (I 13 10)) fun v2x1 =>
    mPl_isEndless_L27 hF v2x1 (0 : Int32) I)
  else
    mPl_isEndless_L27 hF (0 : Int32) (0 : Int32) I
set_option maxHeartbeats 4000000 in
theorem sPl_isEndless (d : Nat) (hd : 0 + 1 ≤ d) (v1 : Int32) (I : hI) (J : hJ) (B : Bool × Bool) (q : Int32) (h : mPl_isEndless v1 I = some q) : HMet hFT yX5_isEndless cX5_isEndless 4 (some .boolean) kdC d [.ref 13, .int v1] (I, J, RM B) (some (.int q)) (I, J, RM B) := by
  obtain ⟨d0, rfl, hd0⟩ := h_mono hd
  refine HMet.of (by decide) (Nat.le_of_ble_eq_true rfl) ?_
  show AW hFT cX5_isEndless 4 (some .boolean) RX5 kdC (d0 + 1) [(0, .ref 13), (1, .int v1)] 0 [] (I, J, RM B) (some (.int q)) (I, J, RM B)
  unfold mPl_isEndless at h
  refine a_iload_n dX5_isEndless_0 rfl rfl ?_
  refine a_bipush dX5_isEndless_1 bp_10 ?_
  refine a_callSN1 [] yy_X10_isOutside ml_5_70 (sC_isOutside _ (by omega) v1 (10 : Int32) I J B _ rfl) rfl rfl (Nat.le_of_ble_eq_true rfl) dX5_isEndless_3 ?_
  refine a_if_eq (tgt := 13) dX5_isEndless_6 (by decide) (fun c => ?_) (fun c => ?_)
  · replace h := h_iteT c h
    refine a_aload_n dX5_isEndless_13 rfl rfl ?_
    refine b_getR hK_5 kc_13 (i := 6) rfl fl_5_25 rfl (rm_13_6 B) dX5_isEndless_14 ?_
    refine a_iload_n dX5_isEndless_17 rfl rfl ?_
    obtain ⟨g1, h⟩ := h_gS h
    refine b_iaload kc_18 (h_inV g1) dX5_isEndless_18 ?_
    refine a_aload_n dX5_isEndless_19 rfl rfl ?_
    refine b_getI hK_5 kc_13 (i := 10) rfl fl_5_116 rfl dX5_isEndless_20 ?_
    refine a_iand dX5_isEndless_23 ?_
    obtain ⟨v2x1, ev2x1, h⟩ := h_letS h
    refine a_topI ev2x1 ?_
    refine a_istore_n (lv' := [(2, .int v2x1), (0, .ref 13), (1, .int v1)]) dX5_isEndless_24 rfl (by decide) rfl ?_
    refine a_iconst dX5_isEndless_25 ic_0 ?_
    refine a_istore_n (lv' := [(3, .int (0 : Int32)), (2, .int v2x1), (0, .ref 13), (1, .int v1)]) dX5_isEndless_26 rfl (by decide) rfl ?_
    refine a_sub (lv' := [(0, .ref 13), (2, .int v2x1), (3, .int (0 : Int32))]) [2, 1, 0] rfl ?_
    exact sPl_isEndless_L27 (d0 + 1) (by omega) hF v2x1 (0 : Int32) I J B _ h
  · replace h := h_iteF c h
    refine a_iconst dX5_isEndless_9 ic_0 ?_
    refine a_goto (tgt := 24) dX5_isEndless_10 (by decide) ?_
    refine a_istore_n (lv' := [(2, .int (0 : Int32)), (0, .ref 13), (1, .int v1)]) dX5_isEndless_24 rfl (by decide) rfl ?_
    refine a_iconst dX5_isEndless_25 ic_0 ?_
    refine a_istore_n (lv' := [(3, .int (0 : Int32)), (2, .int (0 : Int32)), (0, .ref 13), (1, .int v1)]) dX5_isEndless_26 rfl (by decide) rfl ?_
    refine a_sub (lv' := [(0, .ref 13), (2, .int (0 : Int32)), (3, .int (0 : Int32))]) [2, 1, 0] rfl ?_
    exact sPl_isEndless_L27 (d0 + 1) (by omega) hF (0 : Int32) (0 : Int32) I J B _ h
/-! CoinLoops$Plans.keep(IIJJ)V -/
theorem dX5_keep_0 : decode cX5_keep 0 = .ok (.iload_n 1, 1) := by decide +kernel
theorem dX5_keep_1 : decode cX5_keep 1 = .ok (.aload_n 0, 1) := by decide +kernel
theorem dX5_keep_2 : decode cX5_keep 2 = .ok (.getfield 9, 3) := by decide +kernel
theorem dX5_keep_5 : decode cX5_keep 5 = .ok (.arraylength, 1) := by decide +kernel
theorem dX5_keep_6 : decode cX5_keep 6 = .ok (.invokestatic 70, 3) := by decide +kernel
theorem dX5_keep_9 : decode cX5_keep 9 = .ok (.ifCond .eq 4, 3) := by decide +kernel
theorem dX5_keep_12 : decode cX5_keep 12 = .ok (.return_, 1) := by decide +kernel
theorem dX5_keep_13 : decode cX5_keep 13 = .ok (.aload_n 0, 1) := by decide +kernel
theorem dX5_keep_14 : decode cX5_keep 14 = .ok (.getfield 9, 3) := by decide +kernel
theorem dX5_keep_17 : decode cX5_keep 17 = .ok (.iload_n 1, 1) := by decide +kernel
theorem dX5_keep_18 : decode cX5_keep 18 = .ok (.lload_n 3, 1) := by decide +kernel
theorem dX5_keep_19 : decode cX5_keep 19 = .ok (.lastore, 1) := by decide +kernel
theorem dX5_keep_20 : decode cX5_keep 20 = .ok (.aload_n 0, 1) := by decide +kernel
theorem dX5_keep_21 : decode cX5_keep 21 = .ok (.getfield 15, 3) := by decide +kernel
theorem dX5_keep_24 : decode cX5_keep 24 = .ok (.iload_n 1, 1) := by decide +kernel
theorem dX5_keep_25 : decode cX5_keep 25 = .ok (.lload 5, 2) := by decide +kernel
theorem dX5_keep_27 : decode cX5_keep 27 = .ok (.lastore, 1) := by decide +kernel
theorem dX5_keep_28 : decode cX5_keep 28 = .ok (.aload_n 0, 1) := by decide +kernel
theorem dX5_keep_29 : decode cX5_keep 29 = .ok (.getfield 18, 3) := by decide +kernel
theorem dX5_keep_32 : decode cX5_keep 32 = .ok (.iload_n 1, 1) := by decide +kernel
theorem dX5_keep_33 : decode cX5_keep 33 = .ok (.iload_n 2, 1) := by decide +kernel
theorem dX5_keep_34 : decode cX5_keep 34 = .ok (.iastore, 1) := by decide +kernel
theorem dX5_keep_35 : decode cX5_keep 35 = .ok (.return_, 1) := by decide +kernel
def mPl_keep  (v1 : Int32) (v2 : Int32) (v3 : Int64) (v5 : Int64) (I : hI) (J : hJ) : Option (hI × hJ) :=
  if (mC_isOutside v1 (40 : Int32)) = 0 then
    (h_g (h_in v1 40) <|
    h_let (h_u J 14 v1.toNatClampNeg v3) fun J2 =>
    h_g (h_in v1 40) <|
    h_let (h_u J2 15 v1.toNatClampNeg v5) fun J4 =>
    h_g (h_in v1 40) <|
    h_let (h_u I 16 v1.toNatClampNeg v2) fun I6 =>
    some (I6, J4))
  else
    some (I, J)
set_option maxHeartbeats 4000000 in
theorem sPl_keep (d : Nat) (hd : 0 + 1 ≤ d) (v1 : Int32) (v2 : Int32) (v3 : Int64) (v5 : Int64) (I : hI) (J : hJ) (B : Bool × Bool) (q : hI × hJ) (h : mPl_keep v1 v2 v3 v5 I J = some q) : HMet hFT yX5_keep cX5_keep 7 none kdC d [.ref 13, .int v1, .int v2, .long v3, .long v5] (I, J, RM B) none (q.1, q.2, RM B) := by
  obtain ⟨d0, rfl, hd0⟩ := h_mono hd
  refine HMet.of (by decide) (Nat.le_of_ble_eq_true rfl) ?_
  show AW hFT cX5_keep 7 none RX5 kdC (d0 + 1) [(0, .ref 13), (1, .int v1), (2, .int v2), (3, .long v3), (5, .long v5)] 0 [] (I, J, RM B) none (q.1, q.2, RM B)
  unfold mPl_keep at h
  refine a_iload_n dX5_keep_0 rfl rfl ?_
  refine a_aload_n dX5_keep_1 rfl rfl ?_
  refine b_getR hK_5 kc_13 (i := 2) rfl fl_5_9 rfl (rm_13_2 B) dX5_keep_2 ?_
  refine a_alen1 kc_14 (v := 40) (by decide) dX5_keep_5 ?_
  refine a_callSN1 [] yy_X10_isOutside ml_5_70 (sC_isOutside _ (by omega) v1 (40 : Int32) I J B _ rfl) rfl rfl (Nat.le_of_ble_eq_true rfl) dX5_keep_6 ?_
  refine a_if_eq (tgt := 13) dX5_keep_9 (by decide) (fun c => ?_) (fun c => ?_)
  · replace h := h_iteT c h
    refine a_aload_n dX5_keep_13 rfl rfl ?_
    refine b_getR hK_5 kc_13 (i := 2) rfl fl_5_9 rfl (rm_13_2 B) dX5_keep_14 ?_
    refine a_iload_n dX5_keep_17 rfl rfl ?_
    refine a_lload_n dX5_keep_18 rfl rfl ?_
    obtain ⟨g1, h⟩ := h_gS h
    refine b_lastore kc_14 (h_inV g1) dX5_keep_19 ?_
    obtain ⟨J2, eJ2, h⟩ := h_letS h
    refine a_memJ eJ2 ?_
    refine a_aload_n dX5_keep_20 rfl rfl ?_
    refine b_getR hK_5 kc_13 (i := 3) rfl fl_5_15 rfl (rm_13_3 B) dX5_keep_21 ?_
    refine a_iload_n dX5_keep_24 rfl rfl ?_
    refine a_lload dX5_keep_25 rfl ?_
    obtain ⟨g3, h⟩ := h_gS h
    refine b_lastore kc_15 (h_inV g3) dX5_keep_27 ?_
    obtain ⟨J4, eJ4, h⟩ := h_letS h
    refine a_memJ eJ4 ?_
    refine a_aload_n dX5_keep_28 rfl rfl ?_
    refine b_getR hK_5 kc_13 (i := 4) rfl fl_5_18 rfl (rm_13_4 B) dX5_keep_29 ?_
    refine a_iload_n dX5_keep_32 rfl rfl ?_
    refine a_iload_n dX5_keep_33 rfl rfl ?_
    obtain ⟨g5, h⟩ := h_gS h
    refine b_iastore kc_16 (h_inV g5) dX5_keep_34 ?_
    obtain ⟨I6, eI6, h⟩ := h_letS h
    refine a_memI eI6 ?_
    cases h
    exact a_vret dX5_keep_35
  · replace h := h_iteF c h
    cases h
    exact a_vret dX5_keep_12
/-! CoinLoops$Plans.noteAnswer(IIIJJ)V -/
theorem dX5_noteAnswer_0 : decode cX5_noteAnswer 0 = .ok (.iload_n 1, 1) := by decide +kernel
theorem dX5_noteAnswer_1 : decode cX5_noteAnswer 1 = .ok (.bipush 10, 2) := by decide +kernel
theorem dX5_noteAnswer_3 : decode cX5_noteAnswer 3 = .ok (.imul, 1) := by decide +kernel
theorem dX5_noteAnswer_4 : decode cX5_noteAnswer 4 = .ok (.iload_n 3, 1) := by decide +kernel
theorem dX5_noteAnswer_5 : decode cX5_noteAnswer 5 = .ok (.iadd, 1) := by decide +kernel
theorem dX5_noteAnswer_6 : decode cX5_noteAnswer 6 = .ok (.istore 8, 2) := by decide +kernel
theorem dX5_noteAnswer_8 : decode cX5_noteAnswer 8 = .ok (.iload 8, 2) := by decide +kernel
theorem dX5_noteAnswer_10 : decode cX5_noteAnswer 10 = .ok (.bipush 10, 2) := by decide +kernel
theorem dX5_noteAnswer_12 : decode cX5_noteAnswer 12 = .ok (.iadd, 1) := by decide +kernel
theorem dX5_noteAnswer_13 : decode cX5_noteAnswer 13 = .ok (.istore 9, 2) := by decide +kernel
theorem dX5_noteAnswer_15 : decode cX5_noteAnswer 15 = .ok (.iload 8, 2) := by decide +kernel
theorem dX5_noteAnswer_17 : decode cX5_noteAnswer 17 = .ok (.ifCond .lt 13, 3) := by decide +kernel
theorem dX5_noteAnswer_20 : decode cX5_noteAnswer 20 = .ok (.iload 9, 2) := by decide +kernel
theorem dX5_noteAnswer_22 : decode cX5_noteAnswer 22 = .ok (.aload_n 0, 1) := by decide +kernel
theorem dX5_noteAnswer_23 : decode cX5_noteAnswer 23 = .ok (.getfield 9, 3) := by decide +kernel
theorem dX5_noteAnswer_26 : decode cX5_noteAnswer 26 = .ok (.arraylength, 1) := by decide +kernel
theorem dX5_noteAnswer_27 : decode cX5_noteAnswer 27 = .ok (.if_icmp .lt 4, 3) := by decide +kernel
theorem dX5_noteAnswer_30 : decode cX5_noteAnswer 30 = .ok (.return_, 1) := by decide +kernel
theorem dX5_noteAnswer_31 : decode cX5_noteAnswer 31 = .ok (.lload 4, 2) := by decide +kernel
theorem dX5_noteAnswer_33 : decode cX5_noteAnswer 33 = .ok (.lload 6, 2) := by decide +kernel
theorem dX5_noteAnswer_35 : decode cX5_noteAnswer 35 = .ok (.invokestatic 145, 3) := by decide +kernel
theorem dX5_noteAnswer_38 : decode cX5_noteAnswer 38 = .ok (.lstore 10, 2) := by decide +kernel
theorem dX5_noteAnswer_40 : decode cX5_noteAnswer 40 = .ok (.lload 10, 2) := by decide +kernel
theorem dX5_noteAnswer_42 : decode cX5_noteAnswer 42 = .ok (.lconst 0, 1) := by decide +kernel
theorem dX5_noteAnswer_43 : decode cX5_noteAnswer 43 = .ok (.lcmp, 1) := by decide +kernel
theorem dX5_noteAnswer_44 : decode cX5_noteAnswer 44 = .ok (.ifCond .ne 8, 3) := by decide +kernel
theorem dX5_noteAnswer_47 : decode cX5_noteAnswer 47 = .ok (.lload 4, 2) := by decide +kernel
theorem dX5_noteAnswer_49 : decode cX5_noteAnswer 49 = .ok (.goto 8, 3) := by decide +kernel
theorem dX5_noteAnswer_52 : decode cX5_noteAnswer 52 = .ok (.lload 4, 2) := by decide +kernel
theorem dX5_noteAnswer_54 : decode cX5_noteAnswer 54 = .ok (.lload 10, 2) := by decide +kernel
theorem dX5_noteAnswer_56 : decode cX5_noteAnswer 56 = .ok (.ldiv, 1) := by decide +kernel
theorem dX5_noteAnswer_57 : decode cX5_noteAnswer 57 = .ok (.lstore 12, 2) := by decide +kernel
theorem dX5_noteAnswer_59 : decode cX5_noteAnswer 59 = .ok (.lload 10, 2) := by decide +kernel
theorem dX5_noteAnswer_61 : decode cX5_noteAnswer 61 = .ok (.lconst 0, 1) := by decide +kernel
theorem dX5_noteAnswer_62 : decode cX5_noteAnswer 62 = .ok (.lcmp, 1) := by decide +kernel
theorem dX5_noteAnswer_63 : decode cX5_noteAnswer 63 = .ok (.ifCond .ne 8, 3) := by decide +kernel
theorem dX5_noteAnswer_66 : decode cX5_noteAnswer 66 = .ok (.lload 6, 2) := by decide +kernel
theorem dX5_noteAnswer_68 : decode cX5_noteAnswer 68 = .ok (.goto 8, 3) := by decide +kernel
theorem dX5_noteAnswer_71 : decode cX5_noteAnswer 71 = .ok (.lload 6, 2) := by decide +kernel
theorem dX5_noteAnswer_73 : decode cX5_noteAnswer 73 = .ok (.lload 10, 2) := by decide +kernel
theorem dX5_noteAnswer_75 : decode cX5_noteAnswer 75 = .ok (.ldiv, 1) := by decide +kernel
theorem dX5_noteAnswer_76 : decode cX5_noteAnswer 76 = .ok (.lstore 14, 2) := by decide +kernel
theorem dX5_noteAnswer_78 : decode cX5_noteAnswer 78 = .ok (.iload_n 2, 1) := by decide +kernel
theorem dX5_noteAnswer_79 : decode cX5_noteAnswer 79 = .ok (.ifCond .eq 27, 3) := by decide +kernel
theorem dX5_noteAnswer_82 : decode cX5_noteAnswer 82 = .ok (.lload 12, 2) := by decide +kernel
theorem dX5_noteAnswer_84 : decode cX5_noteAnswer 84 = .ok (.aload_n 0, 1) := by decide +kernel
theorem dX5_noteAnswer_85 : decode cX5_noteAnswer 85 = .ok (.getfield 15, 3) := by decide +kernel
theorem dX5_noteAnswer_88 : decode cX5_noteAnswer 88 = .ok (.iload 8, 2) := by decide +kernel
theorem dX5_noteAnswer_90 : decode cX5_noteAnswer 90 = .ok (.laload, 1) := by decide +kernel
theorem dX5_noteAnswer_91 : decode cX5_noteAnswer 91 = .ok (.lmul, 1) := by decide +kernel
theorem dX5_noteAnswer_92 : decode cX5_noteAnswer 92 = .ok (.aload_n 0, 1) := by decide +kernel
theorem dX5_noteAnswer_93 : decode cX5_noteAnswer 93 = .ok (.getfield 9, 3) := by decide +kernel
theorem dX5_noteAnswer_96 : decode cX5_noteAnswer 96 = .ok (.iload 8, 2) := by decide +kernel
theorem dX5_noteAnswer_98 : decode cX5_noteAnswer 98 = .ok (.laload, 1) := by decide +kernel
theorem dX5_noteAnswer_99 : decode cX5_noteAnswer 99 = .ok (.lload 14, 2) := by decide +kernel
theorem dX5_noteAnswer_101 : decode cX5_noteAnswer 101 = .ok (.lmul, 1) := by decide +kernel
theorem dX5_noteAnswer_102 : decode cX5_noteAnswer 102 = .ok (.lcmp, 1) := by decide +kernel
theorem dX5_noteAnswer_103 : decode cX5_noteAnswer 103 = .ok (.ifCond .ge 14, 3) := by decide +kernel
theorem dX5_noteAnswer_106 : decode cX5_noteAnswer 106 = .ok (.aload_n 0, 1) := by decide +kernel
theorem dX5_noteAnswer_107 : decode cX5_noteAnswer 107 = .ok (.iload 8, 2) := by decide +kernel
theorem dX5_noteAnswer_109 : decode cX5_noteAnswer 109 = .ok (.iload_n 2, 1) := by decide +kernel
theorem dX5_noteAnswer_110 : decode cX5_noteAnswer 110 = .ok (.lload 12, 2) := by decide +kernel
theorem dX5_noteAnswer_112 : decode cX5_noteAnswer 112 = .ok (.lload 14, 2) := by decide +kernel
theorem dX5_noteAnswer_114 : decode cX5_noteAnswer 114 = .ok (.invokevirtual 149, 3) := by decide +kernel
theorem dX5_noteAnswer_117 : decode cX5_noteAnswer 117 = .ok (.iload_n 2, 1) := by decide +kernel
theorem dX5_noteAnswer_118 : decode cX5_noteAnswer 118 = .ok (.ifCond .eq 27, 3) := by decide +kernel
theorem dX5_noteAnswer_121 : decode cX5_noteAnswer 121 = .ok (.aload_n 0, 1) := by decide +kernel
theorem dX5_noteAnswer_122 : decode cX5_noteAnswer 122 = .ok (.getfield 9, 3) := by decide +kernel
theorem dX5_noteAnswer_125 : decode cX5_noteAnswer 125 = .ok (.iload 9, 2) := by decide +kernel
theorem dX5_noteAnswer_127 : decode cX5_noteAnswer 127 = .ok (.laload, 1) := by decide +kernel
theorem dX5_noteAnswer_128 : decode cX5_noteAnswer 128 = .ok (.lload 14, 2) := by decide +kernel
theorem dX5_noteAnswer_130 : decode cX5_noteAnswer 130 = .ok (.lmul, 1) := by decide +kernel
theorem dX5_noteAnswer_131 : decode cX5_noteAnswer 131 = .ok (.lload 12, 2) := by decide +kernel
theorem dX5_noteAnswer_133 : decode cX5_noteAnswer 133 = .ok (.aload_n 0, 1) := by decide +kernel
theorem dX5_noteAnswer_134 : decode cX5_noteAnswer 134 = .ok (.getfield 15, 3) := by decide +kernel
theorem dX5_noteAnswer_137 : decode cX5_noteAnswer 137 = .ok (.iload 9, 2) := by decide +kernel
theorem dX5_noteAnswer_139 : decode cX5_noteAnswer 139 = .ok (.laload, 1) := by decide +kernel
theorem dX5_noteAnswer_140 : decode cX5_noteAnswer 140 = .ok (.lmul, 1) := by decide +kernel
theorem dX5_noteAnswer_141 : decode cX5_noteAnswer 141 = .ok (.lcmp, 1) := by decide +kernel
theorem dX5_noteAnswer_142 : decode cX5_noteAnswer 142 = .ok (.ifCond .ge 14, 3) := by decide +kernel
theorem dX5_noteAnswer_145 : decode cX5_noteAnswer 145 = .ok (.aload_n 0, 1) := by decide +kernel
theorem dX5_noteAnswer_146 : decode cX5_noteAnswer 146 = .ok (.iload 9, 2) := by decide +kernel
theorem dX5_noteAnswer_148 : decode cX5_noteAnswer 148 = .ok (.iload_n 2, 1) := by decide +kernel
theorem dX5_noteAnswer_149 : decode cX5_noteAnswer 149 = .ok (.lload 12, 2) := by decide +kernel
theorem dX5_noteAnswer_151 : decode cX5_noteAnswer 151 = .ok (.lload 14, 2) := by decide +kernel
theorem dX5_noteAnswer_153 : decode cX5_noteAnswer 153 = .ok (.invokevirtual 149, 3) := by decide +kernel
theorem dX5_noteAnswer_156 : decode cX5_noteAnswer 156 = .ok (.return_, 1) := by decide +kernel
def mPl_noteAnswer_145  (v2 : Int32) (v9 : Int32) (v12 : Int64) (v14 : Int64) (I : hI) (J : hJ) : Option (hI × hJ) :=
  (mPl_keep v9 v2 v12 v14 I J).bind fun q1 =>
  some (q1.1, q1.2)
set_option maxHeartbeats 4000000 in
theorem sPl_noteAnswer_145 (d : Nat) (hd : 1 + 1 ≤ d) (v2 : Int32) (v9 : Int32) (v12 : Int64) (v14 : Int64) (I : hI) (J : hJ) (B : Bool × Bool) (q : hI × hJ) (h : mPl_noteAnswer_145 v2 v9 v12 v14 I J = some q) : AW hFT cX5_noteAnswer 16 none RX5 kdC d [(0, .ref 13), (2, .int v2), (9, .int v9), (12, .long v12), (14, .long v14)] 145 [] (I, J, RM B) none (q.1, q.2, RM B) := by
  obtain ⟨d0, rfl, hd0⟩ := h_mono hd
  unfold mPl_noteAnswer_145 at h
  refine a_aload_n dX5_noteAnswer_145 rfl rfl ?_
  refine a_iload dX5_noteAnswer_146 rfl ?_
  refine a_iload_n dX5_noteAnswer_148 rfl rfl ?_
  refine a_lload dX5_noteAnswer_149 rfl ?_
  refine a_lload dX5_noteAnswer_151 rfl ?_
  obtain ⟨q1, cq1, h⟩ := h_bindS h
  refine a_callV0 [] yy_X5_keep ml_5_149 kc_13 rfl (sPl_keep _ (by omega) v9 v2 v12 v14 I J B q1 cq1) rfl rfl (Nat.le_of_ble_eq_true rfl) dX5_noteAnswer_153 ?_
  cases h
  exact a_vret dX5_noteAnswer_156
def mPl_noteAnswer_117  (v2 : Int32) (v9 : Int32) (v12 : Int64) (v14 : Int64) (I : hI) (J : hJ) : Option (hI × hJ) :=
  if v2 = 0 then
    mPl_noteAnswer_145 v2 v9 v12 v14 I J
  else
    (h_g (h_in v9 40) <|
    h_g (h_in v9 40) <|
    if (v12 * (J 15 v9.toNatClampNeg)) ≤ ((J 14 v9.toNatClampNeg) * v14) then
      some (I, J)
    else
      mPl_noteAnswer_145 v2 v9 v12 v14 I J)
set_option maxHeartbeats 4000000 in
theorem sPl_noteAnswer_117 (d : Nat) (hd : 1 + 1 ≤ d) (v2 : Int32) (v9 : Int32) (v12 : Int64) (v14 : Int64) (I : hI) (J : hJ) (B : Bool × Bool) (q : hI × hJ) (h : mPl_noteAnswer_117 v2 v9 v12 v14 I J = some q) : AW hFT cX5_noteAnswer 16 none RX5 kdC d [(0, .ref 13), (2, .int v2), (9, .int v9), (12, .long v12), (14, .long v14)] 117 [] (I, J, RM B) none (q.1, q.2, RM B) := by
  obtain ⟨d0, rfl, hd0⟩ := h_mono hd
  unfold mPl_noteAnswer_117 at h
  refine a_iload_n dX5_noteAnswer_117 rfl rfl ?_
  refine a_if_eq (tgt := 145) dX5_noteAnswer_118 (by decide) (fun c => ?_) (fun c => ?_)
  · replace h := h_iteT c h
    exact sPl_noteAnswer_145 (d0 + 1) (by omega) v2 v9 v12 v14 I J B _ h
  · replace h := h_iteF c h
    refine a_aload_n dX5_noteAnswer_121 rfl rfl ?_
    refine b_getR hK_5 kc_13 (i := 2) rfl fl_5_9 rfl (rm_13_2 B) dX5_noteAnswer_122 ?_
    refine a_iload dX5_noteAnswer_125 rfl ?_
    obtain ⟨g1, h⟩ := h_gS h
    refine b_laload kc_14 (h_inV g1) dX5_noteAnswer_127 ?_
    refine a_lload dX5_noteAnswer_128 rfl ?_
    refine a_lmul dX5_noteAnswer_130 ?_
    refine a_lload dX5_noteAnswer_131 rfl ?_
    refine a_aload_n dX5_noteAnswer_133 rfl rfl ?_
    refine b_getR hK_5 kc_13 (i := 3) rfl fl_5_15 rfl (rm_13_3 B) dX5_noteAnswer_134 ?_
    refine a_iload dX5_noteAnswer_137 rfl ?_
    obtain ⟨g2, h⟩ := h_gS h
    refine b_laload kc_15 (h_inV g2) dX5_noteAnswer_139 ?_
    refine a_lmul dX5_noteAnswer_140 ?_
    refine a_lcmp_ge (tgt := 156) dX5_noteAnswer_141 dX5_noteAnswer_142 (by decide) (fun c => ?_) (fun c => ?_)
    · replace h := h_iteT c h
      cases h
      exact a_vret dX5_noteAnswer_156
    · replace h := h_iteF c h
      exact sPl_noteAnswer_145 (d0 + 1) (by omega) v2 v9 v12 v14 I J B _ h
def mPl_noteAnswer_106  (v2 : Int32) (v8 : Int32) (v9 : Int32) (v12 : Int64) (v14 : Int64) (I : hI) (J : hJ) : Option (hI × hJ) :=
  (mPl_keep v8 v2 v12 v14 I J).bind fun q1 =>
  mPl_noteAnswer_117 v2 v9 v12 v14 q1.1 q1.2
set_option maxHeartbeats 4000000 in
theorem sPl_noteAnswer_106 (d : Nat) (hd : 1 + 1 ≤ d) (v2 : Int32) (v8 : Int32) (v9 : Int32) (v12 : Int64) (v14 : Int64) (I : hI) (J : hJ) (B : Bool × Bool) (q : hI × hJ) (h : mPl_noteAnswer_106 v2 v8 v9 v12 v14 I J = some q) : AW hFT cX5_noteAnswer 16 none RX5 kdC d [(0, .ref 13), (2, .int v2), (8, .int v8), (9, .int v9), (12, .long v12), (14, .long v14)] 106 [] (I, J, RM B) none (q.1, q.2, RM B) := by
  obtain ⟨d0, rfl, hd0⟩ := h_mono hd
  unfold mPl_noteAnswer_106 at h
  refine a_aload_n dX5_noteAnswer_106 rfl rfl ?_
  refine a_iload dX5_noteAnswer_107 rfl ?_
  refine a_iload_n dX5_noteAnswer_109 rfl rfl ?_
  refine a_lload dX5_noteAnswer_110 rfl ?_
  refine a_lload dX5_noteAnswer_112 rfl ?_
  obtain ⟨q1, cq1, h⟩ := h_bindS h
  refine a_callV0 [] yy_X5_keep ml_5_149 kc_13 rfl (sPl_keep _ (by omega) v8 v2 v12 v14 I J B q1 cq1) rfl rfl (Nat.le_of_ble_eq_true rfl) dX5_noteAnswer_114 ?_
  refine a_sub (lv' := [(0, .ref 13), (2, .int v2), (9, .int v9), (12, .long v12), (14, .long v14)]) [0, 1, 3, 4, 5] rfl ?_
  exact sPl_noteAnswer_117 (d0 + 1) (by omega) v2 v9 v12 v14 q1.1 q1.2 B _ h
def mPl_noteAnswer_76  (v2 : Int32) (v8 : Int32) (v9 : Int32) (v12 : Int64) (vs0 : Int64) (I : hI) (J : hJ) : Option (hI × hJ) :=
  if v2 = 0 then
    mPl_noteAnswer_106 v2 v8 v9 v12 vs0 I J
  else
    (h_g (h_in v8 40) <|
    h_g (h_in v8 40) <|
    if ((J 14 v8.toNatClampNeg) * vs0) ≤ (v12 * (J 15 v8.toNatClampNeg)) then
      mPl_noteAnswer_117 v2 v9 v12 vs0 I J
    else
      mPl_noteAnswer_106 v2 v8 v9 v12 vs0 I J)
set_option maxHeartbeats 4000000 in
theorem sPl_noteAnswer_76 (d : Nat) (hd : 1 + 1 ≤ d) (v2 : Int32) (v8 : Int32) (v9 : Int32) (v12 : Int64) (vs0 : Int64) (I : hI) (J : hJ) (B : Bool × Bool) (q : hI × hJ) (h : mPl_noteAnswer_76 v2 v8 v9 v12 vs0 I J = some q) : AW hFT cX5_noteAnswer 16 none RX5 kdC d [(0, .ref 13), (2, .int v2), (8, .int v8), (9, .int v9), (12, .long v12)] 76 [.long vs0] (I, J, RM B) none (q.1, q.2, RM B) := by
  obtain ⟨d0, rfl, hd0⟩ := h_mono hd
  unfold mPl_noteAnswer_76 at h
  refine a_lstore (lv' := [(14, .long vs0), (0, .ref 13), (2, .int v2), (8, .int v8), (9, .int v9), (12, .long v12)]) dX5_noteAnswer_76 (by decide) rfl ?_
  refine a_iload_n dX5_noteAnswer_78 rfl rfl ?_
  refine a_if_eq (tgt := 106) dX5_noteAnswer_79 (by decide) (fun c => ?_) (fun c => ?_)
  · replace h := h_iteT c h
    refine a_sub (lv' := [(0, .ref 13), (2, .int v2), (8, .int v8), (9, .int v9), (12, .long v12), (14, .long vs0)]) [1, 2, 3, 4, 5, 0] rfl ?_
    exact sPl_noteAnswer_106 (d0 + 1) (by omega) v2 v8 v9 v12 vs0 I J B _ h
  · replace h := h_iteF c h
    refine a_lload dX5_noteAnswer_82 rfl ?_
    refine a_aload_n dX5_noteAnswer_84 rfl rfl ?_
    refine b_getR hK_5 kc_13 (i := 3) rfl fl_5_15 rfl (rm_13_3 B) dX5_noteAnswer_85 ?_
    refine a_iload dX5_noteAnswer_88 rfl ?_
    obtain ⟨g1, h⟩ := h_gS h
    refine b_laload kc_15 (h_inV g1) dX5_noteAnswer_90 ?_
    refine a_lmul dX5_noteAnswer_91 ?_
    refine a_aload_n dX5_noteAnswer_92 rfl rfl ?_
    refine b_getR hK_5 kc_13 (i := 2) rfl fl_5_9 rfl (rm_13_2 B) dX5_noteAnswer_93 ?_
    refine a_iload dX5_noteAnswer_96 rfl ?_
    obtain ⟨g2, h⟩ := h_gS h
    refine b_laload kc_14 (h_inV g2) dX5_noteAnswer_98 ?_
    refine a_lload dX5_noteAnswer_99 rfl ?_
    refine a_lmul dX5_noteAnswer_101 ?_
    refine a_lcmp_ge (tgt := 117) dX5_noteAnswer_102 dX5_noteAnswer_103 (by decide) (fun c => ?_) (fun c => ?_)
    · replace h := h_iteT c h
      refine a_sub (lv' := [(0, .ref 13), (2, .int v2), (9, .int v9), (12, .long v12), (14, .long vs0)]) [1, 2, 4, 5, 0] rfl ?_
      exact sPl_noteAnswer_117 (d0 + 1) (by omega) v2 v9 v12 vs0 I J B _ h
    · replace h := h_iteF c h
      refine a_sub (lv' := [(0, .ref 13), (2, .int v2), (8, .int v8), (9, .int v9), (12, .long v12), (14, .long vs0)]) [1, 2, 3, 4, 5, 0] rfl ?_
      exact sPl_noteAnswer_106 (d0 + 1) (by omega) v2 v8 v9 v12 vs0 I J B _ h
def mPl_noteAnswer_57  (v2 : Int32) (v6 : Int64) (v8 : Int32) (v9 : Int32) (v10 : Int64) (vs0 : Int64) (I : hI) (J : hJ) : Option (hI × hJ) :=
  if v10 = (0 : Int64) then
    mPl_noteAnswer_76 v2 v8 v9 vs0 v6 I J
  else
    (h_g (h_nzL v10) <|
    mPl_noteAnswer_76 v2 v8 v9 vs0 (v6 / v10) I J)
set_option maxHeartbeats 4000000 in
theorem sPl_noteAnswer_57 (d : Nat) (hd : 1 + 1 ≤ d) (v2 : Int32) (v6 : Int64) (v8 : Int32) (v9 : Int32) (v10 : Int64) (vs0 : Int64) (I : hI) (J : hJ) (B : Bool × Bool) (q : hI × hJ) (h : mPl_noteAnswer_57 v2 v6 v8 v9 v10 vs0 I J = some q) : AW hFT cX5_noteAnswer 16 none RX5 kdC d [(0, .ref 13), (2, .int v2), (6, .long v6), (8, .int v8), (9, .int v9), (10, .long v10)] 57 [.long vs0] (I, J, RM B) none (q.1, q.2, RM B) := by
  obtain ⟨d0, rfl, hd0⟩ := h_mono hd
  unfold mPl_noteAnswer_57 at h
  refine a_lstore (lv' := [(12, .long vs0), (0, .ref 13), (2, .int v2), (6, .long v6), (8, .int v8), (9, .int v9), (10, .long v10)]) dX5_noteAnswer_57 (by decide) rfl ?_
  refine a_lload dX5_noteAnswer_59 rfl ?_
  refine a_lconst dX5_noteAnswer_61 lc_0 ?_
  refine a_lcmp_ne (tgt := 71) dX5_noteAnswer_62 dX5_noteAnswer_63 (by decide) (fun c => ?_) (fun c => ?_)
  · replace h := h_iteF c h
    refine a_lload dX5_noteAnswer_71 rfl ?_
    refine a_lload dX5_noteAnswer_73 rfl ?_
    obtain ⟨g1, h⟩ := h_gS h
    refine a_ldiv dX5_noteAnswer_75 (h_nzLV g1) ?_
    refine a_sub (lv' := [(0, .ref 13), (2, .int v2), (8, .int v8), (9, .int v9), (12, .long vs0)]) [1, 2, 4, 5, 0] rfl ?_
    exact sPl_noteAnswer_76 (d0 + 1) (by omega) v2 v8 v9 vs0 (v6 / v10) I J B _ h
  · replace h := h_iteT c h
    refine a_lload dX5_noteAnswer_66 rfl ?_
    refine a_goto (tgt := 76) dX5_noteAnswer_68 (by decide) ?_
    refine a_sub (lv' := [(0, .ref 13), (2, .int v2), (8, .int v8), (9, .int v9), (12, .long vs0)]) [1, 2, 4, 5, 0] rfl ?_
    exact sPl_noteAnswer_76 (d0 + 1) (by omega) v2 v8 v9 vs0 v6 I J B _ h
def mPl_noteAnswer  (v1 : Int32) (v2 : Int32) (v3 : Int32) (v4 : Int64) (v6 : Int64) (I : hI) (J : hJ) : Option (hI × hJ) :=
  h_let ((v1 * (10 : Int32)) + v3) fun v8x0 =>
  h_let (v8x0 + (10 : Int32)) fun v9x1 =>
  if v8x0 < 0 then
    some (I, J)
  else
    (if v9x1 < (40 : Int32) then
      ((mC_divisor v4 v6).bind fun q3 =>
      if q3 = (0 : Int64) then
        mPl_noteAnswer_57 v2 v6 v8x0 v9x1 q3 v4 I J
      else
        (h_g (h_nzL q3) <|
        mPl_noteAnswer_57 v2 v6 v8x0 v9x1 q3 (v4 / q3) I J))
    else
      some (I, J))
set_option maxHeartbeats 4000000 in
theorem sPl_noteAnswer (d : Nat) (hd : 1 + 1 ≤ d) (v1 : Int32) (v2 : Int32) (v3 : Int32) (v4 : Int64) (v6 : Int64) (I : hI) (J : hJ) (B : Bool × Bool) (q : hI × hJ) (h : mPl_noteAnswer v1 v2 v3 v4 v6 I J = some q) : HMet hFT yX5_noteAnswer cX5_noteAnswer 16 none kdC d [.ref 13, .int v1, .int v2, .int v3, .long v4, .long v6] (I, J, RM B) none (q.1, q.2, RM B) := by
  obtain ⟨d0, rfl, hd0⟩ := h_mono hd
  refine HMet.of (by decide) (Nat.le_of_ble_eq_true rfl) ?_
  show AW hFT cX5_noteAnswer 16 none RX5 kdC (d0 + 1) [(0, .ref 13), (1, .int v1), (2, .int v2), (3, .int v3), (4, .long v4), (6, .long v6)] 0 [] (I, J, RM B) none (q.1, q.2, RM B)
  unfold mPl_noteAnswer at h
  refine a_iload_n dX5_noteAnswer_0 rfl rfl ?_
  refine a_bipush dX5_noteAnswer_1 bp_10 ?_
  refine a_imul dX5_noteAnswer_3 ?_
  refine a_iload_n dX5_noteAnswer_4 rfl rfl ?_
  refine a_iadd dX5_noteAnswer_5 ?_
  obtain ⟨v8x0, ev8x0, h⟩ := h_letS h
  refine a_topI ev8x0 ?_
  refine a_istore (lv' := [(8, .int v8x0), (0, .ref 13), (1, .int v1), (2, .int v2), (3, .int v3), (4, .long v4), (6, .long v6)]) dX5_noteAnswer_6 (by decide) rfl ?_
  refine a_iload dX5_noteAnswer_8 rfl ?_
  refine a_bipush dX5_noteAnswer_10 bp_10 ?_
  refine a_iadd dX5_noteAnswer_12 ?_
  obtain ⟨v9x1, ev9x1, h⟩ := h_letS h
  refine a_topI ev9x1 ?_
  refine a_istore (lv' := [(9, .int v9x1), (8, .int v8x0), (0, .ref 13), (1, .int v1), (2, .int v2), (3, .int v3), (4, .long v4), (6, .long v6)]) dX5_noteAnswer_13 (by decide) rfl ?_
  refine a_iload dX5_noteAnswer_15 rfl ?_
  refine a_if_lt (tgt := 30) dX5_noteAnswer_17 (by decide) (fun c => ?_) (fun c => ?_)
  · replace h := h_iteT c h
    cases h
    exact a_vret dX5_noteAnswer_30
  · replace h := h_iteF c h
    refine a_iload dX5_noteAnswer_20 rfl ?_
    refine a_aload_n dX5_noteAnswer_22 rfl rfl ?_
    refine b_getR hK_5 kc_13 (i := 2) rfl fl_5_9 rfl (rm_13_2 B) dX5_noteAnswer_23 ?_
    refine a_alen1 kc_14 (v := 40) (by decide) dX5_noteAnswer_26 ?_
    refine a_icmp_lt (tgt := 31) dX5_noteAnswer_27 (by decide) (fun c => ?_) (fun c => ?_)
    · replace h := h_iteT c h
      refine a_lload dX5_noteAnswer_31 rfl ?_
      refine a_lload dX5_noteAnswer_33 rfl ?_
      obtain ⟨q3, cq3, h⟩ := h_bindS h
      refine a_callSN1 [] yy_X10_divisor ml_5_145 (sC_divisor _ (by omega) v4 v6 I J B q3 cq3) rfl rfl (Nat.le_of_ble_eq_true rfl) dX5_noteAnswer_35 ?_
      refine a_lstore (lv' := [(10, .long q3), (9, .int v9x1), (8, .int v8x0), (0, .ref 13), (1, .int v1), (2, .int v2), (3, .int v3), (4, .long v4), (6, .long v6)]) dX5_noteAnswer_38 (by decide) rfl ?_
      refine a_lload dX5_noteAnswer_40 rfl ?_
      refine a_lconst dX5_noteAnswer_42 lc_0 ?_
      refine a_lcmp_ne (tgt := 52) dX5_noteAnswer_43 dX5_noteAnswer_44 (by decide) (fun c => ?_) (fun c => ?_)
      · replace h := h_iteF c h
        refine a_lload dX5_noteAnswer_52 rfl ?_
        refine a_lload dX5_noteAnswer_54 rfl ?_
        obtain ⟨g4, h⟩ := h_gS h
        refine a_ldiv dX5_noteAnswer_56 (h_nzLV g4) ?_
        refine a_sub (lv' := [(0, .ref 13), (2, .int v2), (6, .long v6), (8, .int v8x0), (9, .int v9x1), (10, .long q3)]) [3, 5, 8, 2, 1, 0] rfl ?_
        exact sPl_noteAnswer_57 (d0 + 1) (by omega) v2 v6 v8x0 v9x1 q3 (v4 / q3) I J B _ h
      · replace h := h_iteT c h
        refine a_lload dX5_noteAnswer_47 rfl ?_
        refine a_goto (tgt := 57) dX5_noteAnswer_49 (by decide) ?_
        refine a_sub (lv' := [(0, .ref 13), (2, .int v2), (6, .long v6), (8, .int v8x0), (9, .int v9x1), (10, .long q3)]) [3, 5, 8, 2, 1, 0] rfl ?_
        exact sPl_noteAnswer_57 (d0 + 1) (by omega) v2 v6 v8x0 v9x1 q3 v4 I J B _ h
    · replace h := h_iteF c h
      cases h
      exact a_vret dX5_noteAnswer_30
/-! CoinLoops$Plans.note(II)V -/
theorem dX5_note_0 : decode cX5_note 0 = .ok (.iload_n 2, 1) := by decide +kernel
theorem dX5_note_1 : decode cX5_note 1 = .ok (.bipush 10, 2) := by decide +kernel
theorem dX5_note_3 : decode cX5_note 3 = .ok (.invokestatic 70, 3) := by decide +kernel
theorem dX5_note_6 : decode cX5_note 6 = .ok (.ifCond .eq 4, 3) := by decide +kernel
theorem dX5_note_9 : decode cX5_note 9 = .ok (.return_, 1) := by decide +kernel
theorem dX5_note_10 : decode cX5_note 10 = .ok (.aload_n 0, 1) := by decide +kernel
theorem dX5_note_11 : decode cX5_note 11 = .ok (.getfield 28, 3) := by decide +kernel
theorem dX5_note_14 : decode cX5_note 14 = .ok (.iload_n 2, 1) := by decide +kernel
theorem dX5_note_15 : decode cX5_note 15 = .ok (.iaload, 1) := by decide +kernel
theorem dX5_note_16 : decode cX5_note 16 = .ok (.istore_n 3, 1) := by decide +kernel
theorem dX5_note_17 : decode cX5_note 17 = .ok (.lconst 0, 1) := by decide +kernel
theorem dX5_note_18 : decode cX5_note 18 = .ok (.lstore 4, 2) := by decide +kernel
theorem dX5_note_20 : decode cX5_note 20 = .ok (.aload_n 0, 1) := by decide +kernel
theorem dX5_note_21 : decode cX5_note 21 = .ok (.getfield 36, 3) := by decide +kernel
theorem dX5_note_24 : decode cX5_note 24 = .ok (.iload_n 2, 1) := by decide +kernel
theorem dX5_note_25 : decode cX5_note 25 = .ok (.invokevirtual 88, 3) := by decide +kernel
theorem dX5_note_28 : decode cX5_note 28 = .ok (.ifCond .eq 7, 3) := by decide +kernel
theorem dX5_note_31 : decode cX5_note 31 = .ok (.lconst 0, 1) := by decide +kernel
theorem dX5_note_32 : decode cX5_note 32 = .ok (.goto 4, 3) := by decide +kernel
theorem dX5_note_35 : decode cX5_note 35 = .ok (.lconst 1, 1) := by decide +kernel
theorem dX5_note_36 : decode cX5_note 36 = .ok (.lstore 6, 2) := by decide +kernel
theorem dX5_note_38 : decode cX5_note 38 = .ok (.lconst 1, 1) := by decide +kernel
theorem dX5_note_39 : decode cX5_note 39 = .ok (.lstore 8, 2) := by decide +kernel
theorem dX5_note_41 : decode cX5_note 41 = .ok (.iload_n 3, 1) := by decide +kernel
theorem dX5_note_42 : decode cX5_note 42 = .ok (.bipush 10, 2) := by decide +kernel
theorem dX5_note_44 : decode cX5_note 44 = .ok (.invokestatic 70, 3) := by decide +kernel
theorem dX5_note_47 : decode cX5_note 47 = .ok (.ifCond .ne 60, 3) := by decide +kernel
theorem dX5_note_50 : decode cX5_note 50 = .ok (.aload_n 0, 1) := by decide +kernel
theorem dX5_note_51 : decode cX5_note 51 = .ok (.getfield 122, 3) := by decide +kernel
theorem dX5_note_54 : decode cX5_note 54 = .ok (.iconst 1, 1) := by decide +kernel
theorem dX5_note_55 : decode cX5_note 55 = .ok (.iadd, 1) := by decide +kernel
theorem dX5_note_56 : decode cX5_note 56 = .ok (.aload_n 0, 1) := by decide +kernel
theorem dX5_note_57 : decode cX5_note 57 = .ok (.getfield 33, 3) := by decide +kernel
theorem dX5_note_60 : decode cX5_note 60 = .ok (.iload_n 3, 1) := by decide +kernel
theorem dX5_note_61 : decode cX5_note 61 = .ok (.aaload, 1) := by decide +kernel
theorem dX5_note_62 : decode cX5_note 62 = .ok (.arraylength, 1) := by decide +kernel
theorem dX5_note_63 : decode cX5_note 63 = .ok (.invokestatic 70, 3) := by decide +kernel
theorem dX5_note_66 : decode cX5_note 66 = .ok (.ifCond .ne 41, 3) := by decide +kernel
theorem dX5_note_69 : decode cX5_note 69 = .ok (.aload_n 0, 1) := by decide +kernel
theorem dX5_note_70 : decode cX5_note 70 = .ok (.getfield 33, 3) := by decide +kernel
theorem dX5_note_73 : decode cX5_note 73 = .ok (.iload_n 3, 1) := by decide +kernel
theorem dX5_note_74 : decode cX5_note 74 = .ok (.aaload, 1) := by decide +kernel
theorem dX5_note_75 : decode cX5_note 75 = .ok (.aload_n 0, 1) := by decide +kernel
theorem dX5_note_76 : decode cX5_note 76 = .ok (.getfield 122, 3) := by decide +kernel
theorem dX5_note_79 : decode cX5_note 79 = .ok (.laload, 1) := by decide +kernel
theorem dX5_note_80 : decode cX5_note 80 = .ok (.lstore 4, 2) := by decide +kernel
theorem dX5_note_82 : decode cX5_note 82 = .ok (.aload_n 0, 1) := by decide +kernel
theorem dX5_note_83 : decode cX5_note 83 = .ok (.getfield 33, 3) := by decide +kernel
theorem dX5_note_86 : decode cX5_note 86 = .ok (.iload_n 3, 1) := by decide +kernel
theorem dX5_note_87 : decode cX5_note 87 = .ok (.aaload, 1) := by decide +kernel
theorem dX5_note_88 : decode cX5_note 88 = .ok (.aload_n 0, 1) := by decide +kernel
theorem dX5_note_89 : decode cX5_note 89 = .ok (.getfield 122, 3) := by decide +kernel
theorem dX5_note_92 : decode cX5_note 92 = .ok (.iconst 1, 1) := by decide +kernel
theorem dX5_note_93 : decode cX5_note 93 = .ok (.iadd, 1) := by decide +kernel
theorem dX5_note_94 : decode cX5_note 94 = .ok (.laload, 1) := by decide +kernel
theorem dX5_note_95 : decode cX5_note 95 = .ok (.lstore 6, 2) := by decide +kernel
theorem dX5_note_97 : decode cX5_note 97 = .ok (.aload_n 0, 1) := by decide +kernel
theorem dX5_note_98 : decode cX5_note 98 = .ok (.getfield 33, 3) := by decide +kernel
theorem dX5_note_101 : decode cX5_note 101 = .ok (.iload_n 3, 1) := by decide +kernel
theorem dX5_note_102 : decode cX5_note 102 = .ok (.aaload, 1) := by decide +kernel
theorem dX5_note_103 : decode cX5_note 103 = .ok (.iload_n 3, 1) := by decide +kernel
theorem dX5_note_104 : decode cX5_note 104 = .ok (.laload, 1) := by decide +kernel
theorem dX5_note_105 : decode cX5_note 105 = .ok (.lstore 8, 2) := by decide +kernel
theorem dX5_note_107 : decode cX5_note 107 = .ok (.aload_n 0, 1) := by decide +kernel
theorem dX5_note_108 : decode cX5_note 108 = .ok (.iload_n 2, 1) := by decide +kernel
theorem dX5_note_109 : decode cX5_note 109 = .ok (.invokevirtual 138, 3) := by decide +kernel
theorem dX5_note_112 : decode cX5_note 112 = .ok (.istore 10, 2) := by decide +kernel
theorem dX5_note_114 : decode cX5_note 114 = .ok (.aload_n 0, 1) := by decide +kernel
theorem dX5_note_115 : decode cX5_note 115 = .ok (.iconst 0, 1) := by decide +kernel
theorem dX5_note_116 : decode cX5_note 116 = .ok (.iload_n 1, 1) := by decide +kernel
theorem dX5_note_117 : decode cX5_note 117 = .ok (.iload_n 2, 1) := by decide +kernel
theorem dX5_note_118 : decode cX5_note 118 = .ok (.iload 10, 2) := by decide +kernel
theorem dX5_note_120 : decode cX5_note 120 = .ok (.ifCond .eq 7, 3) := by decide +kernel
theorem dX5_note_123 : decode cX5_note 123 = .ok (.lconst 1, 1) := by decide +kernel
theorem dX5_note_124 : decode cX5_note 124 = .ok (.goto 5, 3) := by decide +kernel
theorem dX5_note_127 : decode cX5_note 127 = .ok (.lload 4, 2) := by decide +kernel
theorem dX5_note_129 : decode cX5_note 129 = .ok (.iload 10, 2) := by decide +kernel
theorem dX5_note_131 : decode cX5_note 131 = .ok (.ifCond .eq 7, 3) := by decide +kernel
theorem dX5_note_134 : decode cX5_note 134 = .ok (.lconst 0, 1) := by decide +kernel
theorem dX5_note_135 : decode cX5_note 135 = .ok (.goto 5, 3) := by decide +kernel
theorem dX5_note_138 : decode cX5_note 138 = .ok (.lload 8, 2) := by decide +kernel
theorem dX5_note_140 : decode cX5_note 140 = .ok (.invokevirtual 141, 3) := by decide +kernel
theorem dX5_note_143 : decode cX5_note 143 = .ok (.aload_n 0, 1) := by decide +kernel
theorem dX5_note_144 : decode cX5_note 144 = .ok (.iconst 2, 1) := by decide +kernel
theorem dX5_note_145 : decode cX5_note 145 = .ok (.iload_n 1, 1) := by decide +kernel
theorem dX5_note_146 : decode cX5_note 146 = .ok (.iload_n 2, 1) := by decide +kernel
theorem dX5_note_147 : decode cX5_note 147 = .ok (.lload 6, 2) := by decide +kernel
theorem dX5_note_149 : decode cX5_note 149 = .ok (.lload 8, 2) := by decide +kernel
theorem dX5_note_151 : decode cX5_note 151 = .ok (.invokevirtual 141, 3) := by decide +kernel
theorem dX5_note_154 : decode cX5_note 154 = .ok (.return_, 1) := by decide +kernel
def mPl_note_140  (v1 : Int32) (v2 : Int32) (v6 : Int64) (v8 : Int64) (vs1 : Int32) (vs2 : Int32) (vs3 : Int32) (vs4 : Int64) (vs5 : Int64) (I : hI) (J : hJ) : Option (hI × hJ) :=
  (mPl_noteAnswer vs1 vs2 vs3 vs4 vs5 I J).bind fun q1 =>
  (mPl_noteAnswer (2 : Int32) v1 v2 v6 v8 q1.1 q1.2).bind fun q2 =>
  some (q2.1, q2.2)
set_option maxHeartbeats 4000000 in
theorem sPl_note_140 (d : Nat) (hd : 2 + 1 ≤ d) (v1 : Int32) (v2 : Int32) (v6 : Int64) (v8 : Int64) (vs1 : Int32) (vs2 : Int32) (vs3 : Int32) (vs4 : Int64) (vs5 : Int64) (I : hI) (J : hJ) (B : Bool × Bool) (q : hI × hJ) (h : mPl_note_140 v1 v2 v6 v8 vs1 vs2 vs3 vs4 vs5 I J = some q) : AW hFT cX5_note 11 none RX5 kdC d [(0, .ref 13), (1, .int v1), (2, .int v2), (6, .long v6), (8, .long v8)] 140 [.long vs5, .long vs4, .int vs3, .int vs2, .int vs1, .ref 13] (I, J, RM B) none (q.1, q.2, RM B) := by
  obtain ⟨d0, rfl, hd0⟩ := h_mono hd
  unfold mPl_note_140 at h
  obtain ⟨q1, cq1, h⟩ := h_bindS h
  refine a_callV0 [] yy_X5_noteAnswer ml_5_141 kc_13 rfl (sPl_noteAnswer _ (by omega) vs1 vs2 vs3 vs4 vs5 I J B q1 cq1) rfl rfl (Nat.le_of_ble_eq_true rfl) dX5_note_140 ?_
  refine a_aload_n dX5_note_143 rfl rfl ?_
  refine a_iconst dX5_note_144 ic_2 ?_
  refine a_iload_n dX5_note_145 rfl rfl ?_
  refine a_iload_n dX5_note_146 rfl rfl ?_
  refine a_lload dX5_note_147 rfl ?_
  refine a_lload dX5_note_149 rfl ?_
  obtain ⟨q2, cq2, h⟩ := h_bindS h
  refine a_callV0 [] yy_X5_noteAnswer ml_5_141 kc_13 rfl (sPl_noteAnswer _ (by omega) (2 : Int32) v1 v2 v6 v8 q1.1 q1.2 B q2 cq2) rfl rfl (Nat.le_of_ble_eq_true rfl) dX5_note_151 ?_
  cases h
  exact a_vret dX5_note_154
def mPl_note_129  (v1 : Int32) (v2 : Int32) (v6 : Int64) (v8 : Int64) (v10 : Int32) (vs1 : Int32) (vs2 : Int32) (vs3 : Int32) (vs4 : Int64) (I : hI) (J : hJ) : Option (hI × hJ) :=
  if v10 = 0 then
    mPl_note_140 v1 v2 v6 v8 vs1 vs2 vs3 vs4 v8 I J
  else
    mPl_note_140 v1 v2 v6 v8 vs1 vs2 vs3 vs4 (0 : Int64) I J
set_option maxHeartbeats 4000000 in
theorem sPl_note_129 (d : Nat) (hd : 2 + 1 ≤ d) (v1 : Int32) (v2 : Int32) (v6 : Int64) (v8 : Int64) (v10 : Int32) (vs1 : Int32) (vs2 : Int32) (vs3 : Int32) (vs4 : Int64) (I : hI) (J : hJ) (B : Bool × Bool) (q : hI × hJ) (h : mPl_note_129 v1 v2 v6 v8 v10 vs1 vs2 vs3 vs4 I J = some q) : AW hFT cX5_note 11 none RX5 kdC d [(0, .ref 13), (1, .int v1), (2, .int v2), (6, .long v6), (8, .long v8), (10, .int v10)] 129 [.long vs4, .int vs3, .int vs2, .int vs1, .ref 13] (I, J, RM B) none (q.1, q.2, RM B) := by
  obtain ⟨d0, rfl, hd0⟩ := h_mono hd
  unfold mPl_note_129 at h
  refine a_iload dX5_note_129 rfl ?_
  refine a_if_eq (tgt := 138) dX5_note_131 (by decide) (fun c => ?_) (fun c => ?_)
  · replace h := h_iteT c h
    refine a_lload dX5_note_138 rfl ?_
    refine a_sub (lv' := [(0, .ref 13), (1, .int v1), (2, .int v2), (6, .long v6), (8, .long v8)]) [0, 1, 2, 3, 4] rfl ?_
    exact sPl_note_140 (d0 + 1) (by omega) v1 v2 v6 v8 vs1 vs2 vs3 vs4 v8 I J B _ h
  · replace h := h_iteF c h
    refine a_lconst dX5_note_134 lc_0 ?_
    refine a_goto (tgt := 140) dX5_note_135 (by decide) ?_
    refine a_sub (lv' := [(0, .ref 13), (1, .int v1), (2, .int v2), (6, .long v6), (8, .long v8)]) [0, 1, 2, 3, 4] rfl ?_
    exact sPl_note_140 (d0 + 1) (by omega) v1 v2 v6 v8 vs1 vs2 vs3 vs4 (0 : Int64) I J B _ h
def mPl_note_107  (v1 : Int32) (v2 : Int32) (v4 : Int64) (v6 : Int64) (v8 : Int64) (I : hI) (J : hJ) : Option (hI × hJ) :=
  (mPl_isEndless v2 I).bind fun q1 =>
  if q1 = 0 then
    mPl_note_129 v1 v2 v6 v8 q1 (0 : Int32) v1 v2 v4 I J
  else
    mPl_note_129 v1 v2 v6 v8 q1 (0 : Int32) v1 v2 (1 : Int64) I J
set_option maxHeartbeats 4000000 in
theorem sPl_note_107 (d : Nat) (hd : 2 + 1 ≤ d) (v1 : Int32) (v2 : Int32) (v4 : Int64) (v6 : Int64) (v8 : Int64) (I : hI) (J : hJ) (B : Bool × Bool) (q : hI × hJ) (h : mPl_note_107 v1 v2 v4 v6 v8 I J = some q) : AW hFT cX5_note 11 none RX5 kdC d [(0, .ref 13), (1, .int v1), (2, .int v2), (4, .long v4), (6, .long v6), (8, .long v8)] 107 [] (I, J, RM B) none (q.1, q.2, RM B) := by
  obtain ⟨d0, rfl, hd0⟩ := h_mono hd
  unfold mPl_note_107 at h
  refine a_aload_n dX5_note_107 rfl rfl ?_
  refine a_iload_n dX5_note_108 rfl rfl ?_
  obtain ⟨q1, cq1, h⟩ := h_bindS h
  refine a_callV1 [] yy_X5_isEndless ml_5_138 kc_13 rfl (sPl_isEndless _ (by omega) v2 I J B q1 cq1) rfl rfl (Nat.le_of_ble_eq_true rfl) dX5_note_109 ?_
  refine a_istore (lv' := [(10, .int q1), (0, .ref 13), (1, .int v1), (2, .int v2), (4, .long v4), (6, .long v6), (8, .long v8)]) dX5_note_112 (by decide) rfl ?_
  refine a_aload_n dX5_note_114 rfl rfl ?_
  refine a_iconst dX5_note_115 ic_0 ?_
  refine a_iload_n dX5_note_116 rfl rfl ?_
  refine a_iload_n dX5_note_117 rfl rfl ?_
  refine a_iload dX5_note_118 rfl ?_
  refine a_if_eq (tgt := 127) dX5_note_120 (by decide) (fun c => ?_) (fun c => ?_)
  · replace h := h_iteT c h
    refine a_lload dX5_note_127 rfl ?_
    refine a_sub (lv' := [(0, .ref 13), (1, .int v1), (2, .int v2), (6, .long v6), (8, .long v8), (10, .int q1)]) [1, 2, 3, 5, 6, 0] rfl ?_
    exact sPl_note_129 (d0 + 1) (by omega) v1 v2 v6 v8 q1 (0 : Int32) v1 v2 v4 I J B _ h
  · replace h := h_iteF c h
    refine a_lconst dX5_note_123 lc_1 ?_
    refine a_goto (tgt := 129) dX5_note_124 (by decide) ?_
    refine a_sub (lv' := [(0, .ref 13), (1, .int v1), (2, .int v2), (6, .long v6), (8, .long v8), (10, .int q1)]) [1, 2, 3, 5, 6, 0] rfl ?_
    exact sPl_note_129 (d0 + 1) (by omega) v1 v2 v6 v8 q1 (0 : Int32) v1 v2 (1 : Int64) I J B _ h
def mPl_note_36  (v1 : Int32) (v2 : Int32) (v3 : Int32) (v4 : Int64) (vs0 : Int64) (I : hI) (J : hJ) : Option (hI × hJ) :=
  if (mC_isOutside v3 (10 : Int32)) = 0 then
    (h_g (h_in v3 10) <|
    if (mC_isOutside ((I 13 11) + (1 : Int32)) (12 : Int32)) = 0 then
      (h_g (h_in v3 10) <|
      h_g (h_in (I 13 11) 12) <|
      h_let (J (21 + v3.toNatClampNeg) (I 13 11).toNatClampNeg) fun v4x3 =>
      h_g (h_in v3 10) <|
      h_g (h_in ((I 13 11) + (1 : Int32)) 12) <|
      h_let (J (21 + v3.toNatClampNeg) ((I 13 11) + (1 : Int32)).toNatClampNeg) fun v6x6 =>
      h_g (h_in v3 10) <|
      h_g (h_in v3 12) <|
      h_let (J (21 + v3.toNatClampNeg) v3.toNatClampNeg) fun v8x9 =>
      mPl_note_107 v1 v2 v4x3 v6x6 v8x9 I J)
    else
      mPl_note_107 v1 v2 v4 vs0 (1 : Int64) I J)
  else
    mPl_note_107 v1 v2 v4 vs0 (1 : Int64) I J
set_option maxHeartbeats 4000000 in
theorem sPl_note_36 (d : Nat) (hd : 2 + 1 ≤ d) (v1 : Int32) (v2 : Int32) (v3 : Int32) (v4 : Int64) (vs0 : Int64) (I : hI) (J : hJ) (B : Bool × Bool) (q : hI × hJ) (h : mPl_note_36 v1 v2 v3 v4 vs0 I J = some q) : AW hFT cX5_note 11 none RX5 kdC d [(0, .ref 13), (1, .int v1), (2, .int v2), (3, .int v3), (4, .long v4)] 36 [.long vs0] (I, J, RM B) none (q.1, q.2, RM B) := by
  obtain ⟨d0, rfl, hd0⟩ := h_mono hd
  unfold mPl_note_36 at h
  refine a_lstore (lv' := [(6, .long vs0), (0, .ref 13), (1, .int v1), (2, .int v2), (3, .int v3), (4, .long v4)]) dX5_note_36 (by decide) rfl ?_
  refine a_lconst dX5_note_38 lc_1 ?_
  refine a_lstore (lv' := [(8, .long (1 : Int64)), (6, .long vs0), (0, .ref 13), (1, .int v1), (2, .int v2), (3, .int v3), (4, .long v4)]) dX5_note_39 (by decide) rfl ?_
  refine a_iload_n dX5_note_41 rfl rfl ?_
  refine a_bipush dX5_note_42 bp_10 ?_
  refine a_callSN1 [] yy_X10_isOutside ml_5_70 (sC_isOutside _ (by omega) v3 (10 : Int32) I J B _ rfl) rfl rfl (Nat.le_of_ble_eq_true rfl) dX5_note_44 ?_
  refine a_if_ne (tgt := 107) dX5_note_47 (by decide) (fun c => ?_) (fun c => ?_)
  · replace h := h_iteF c h
    refine a_sub (lv' := [(0, .ref 13), (1, .int v1), (2, .int v2), (4, .long v4), (6, .long vs0), (8, .long (1 : Int64))]) [2, 3, 4, 6, 1, 0] rfl ?_
    exact sPl_note_107 (d0 + 1) (by omega) v1 v2 v4 vs0 (1 : Int64) I J B _ h
  · replace h := h_iteT c h
    refine a_aload_n dX5_note_50 rfl rfl ?_
    refine b_getI hK_5 kc_13 (i := 11) rfl fl_5_122 rfl dX5_note_51 ?_
    refine a_iconst dX5_note_54 ic_1 ?_
    refine a_iadd dX5_note_55 ?_
    refine a_aload_n dX5_note_56 rfl rfl ?_
    refine b_getR hK_5 kc_13 (i := 8) rfl fl_5_33 rfl (rm_13_8 B) dX5_note_57 ?_
    refine a_iload_n dX5_note_60 rfl rfl ?_
    obtain ⟨g1, h⟩ := h_gS h
    refine b_aaload4 kc_20 (h_inV g1) (rm_JJ_20 B _ (h_in_lt (h_inV g1))) dX5_note_61 ?_
    refine a_alen1 (k_JJ_20 _ (h_in_lt (h_inV g1))) (v := 12) (by decide) dX5_note_62 ?_
    refine a_callSN1 [] yy_X10_isOutside ml_5_70 (sC_isOutside _ (by omega) ((I 13 11) + (1 : Int32)) (12 : Int32) I J B _ rfl) rfl rfl (Nat.le_of_ble_eq_true rfl) dX5_note_63 ?_
    refine a_if_ne (tgt := 107) dX5_note_66 (by decide) (fun c => ?_) (fun c => ?_)
    · replace h := h_iteF c h
      refine a_sub (lv' := [(0, .ref 13), (1, .int v1), (2, .int v2), (4, .long v4), (6, .long vs0), (8, .long (1 : Int64))]) [2, 3, 4, 6, 1, 0] rfl ?_
      exact sPl_note_107 (d0 + 1) (by omega) v1 v2 v4 vs0 (1 : Int64) I J B _ h
    · replace h := h_iteT c h
      refine a_aload_n dX5_note_69 rfl rfl ?_
      refine b_getR hK_5 kc_13 (i := 8) rfl fl_5_33 rfl (rm_13_8 B) dX5_note_70 ?_
      refine a_iload_n dX5_note_73 rfl rfl ?_
      obtain ⟨g2, h⟩ := h_gS h
      refine b_aaload4 kc_20 (h_inV g2) (rm_JJ_20 B _ (h_in_lt (h_inV g2))) dX5_note_74 ?_
      refine a_aload_n dX5_note_75 rfl rfl ?_
      refine b_getI hK_5 kc_13 (i := 11) rfl fl_5_122 rfl dX5_note_76 ?_
      obtain ⟨g3, h⟩ := h_gS h
      refine b_laload (k_JJ_20 _ (h_in_lt (h_inV g2))) (h_inV g3) dX5_note_79 ?_
      obtain ⟨v4x3, ev4x3, h⟩ := h_letS h
      refine a_topJ ev4x3 ?_
      refine a_lstore (lv' := [(4, .long v4x3), (8, .long (1 : Int64)), (6, .long vs0), (0, .ref 13), (1, .int v1), (2, .int v2), (3, .int v3)]) dX5_note_80 (by decide) rfl ?_
      refine a_aload_n dX5_note_82 rfl rfl ?_
      refine b_getR hK_5 kc_13 (i := 8) rfl fl_5_33 rfl (rm_13_8 B) dX5_note_83 ?_
      refine a_iload_n dX5_note_86 rfl rfl ?_
      obtain ⟨g5, h⟩ := h_gS h
      refine b_aaload4 kc_20 (h_inV g5) (rm_JJ_20 B _ (h_in_lt (h_inV g5))) dX5_note_87 ?_
      refine a_aload_n dX5_note_88 rfl rfl ?_
      refine b_getI hK_5 kc_13 (i := 11) rfl fl_5_122 rfl dX5_note_89 ?_
      refine a_iconst dX5_note_92 ic_1 ?_
      refine a_iadd dX5_note_93 ?_
      obtain ⟨g6, h⟩ := h_gS h
      refine b_laload (k_JJ_20 _ (h_in_lt (h_inV g5))) (h_inV g6) dX5_note_94 ?_
      obtain ⟨v6x6, ev6x6, h⟩ := h_letS h
      refine a_topJ ev6x6 ?_
      refine a_lstore (lv' := [(6, .long v6x6), (4, .long v4x3), (8, .long (1 : Int64)), (0, .ref 13), (1, .int v1), (2, .int v2), (3, .int v3)]) dX5_note_95 (by decide) rfl ?_
      refine a_aload_n dX5_note_97 rfl rfl ?_
      refine b_getR hK_5 kc_13 (i := 8) rfl fl_5_33 rfl (rm_13_8 B) dX5_note_98 ?_
      refine a_iload_n dX5_note_101 rfl rfl ?_
      obtain ⟨g8, h⟩ := h_gS h
      refine b_aaload4 kc_20 (h_inV g8) (rm_JJ_20 B _ (h_in_lt (h_inV g8))) dX5_note_102 ?_
      refine a_iload_n dX5_note_103 rfl rfl ?_
      obtain ⟨g9, h⟩ := h_gS h
      refine b_laload (k_JJ_20 _ (h_in_lt (h_inV g8))) (h_inV g9) dX5_note_104 ?_
      obtain ⟨v8x9, ev8x9, h⟩ := h_letS h
      refine a_topJ ev8x9 ?_
      refine a_lstore (lv' := [(8, .long v8x9), (6, .long v6x6), (4, .long v4x3), (0, .ref 13), (1, .int v1), (2, .int v2), (3, .int v3)]) dX5_note_105 (by decide) rfl ?_
      refine a_sub (lv' := [(0, .ref 13), (1, .int v1), (2, .int v2), (4, .long v4x3), (6, .long v6x6), (8, .long v8x9)]) [3, 4, 5, 2, 1, 0] rfl ?_
      exact sPl_note_107 (d0 + 1) (by omega) v1 v2 v4x3 v6x6 v8x9 I J B _ h
def mPl_note  (v1 : Int32) (v2 : Int32) (I : hI) (J : hJ) : Option (hI × hJ) :=
  if (mC_isOutside v2 (10 : Int32)) = 0 then
    (h_g (h_in v2 10) <|
    h_let (I 19 v2.toNatClampNeg) fun v3x1 =>
    if (mRo_isIn v2 I) = 0 then
      mPl_note_36 v1 v2 v3x1 (0 : Int64) (1 : Int64) I J
    else
      mPl_note_36 v1 v2 v3x1 (0 : Int64) (0 : Int64) I J)
  else
    some (I, J)
set_option maxHeartbeats 4000000 in
theorem sPl_note (d : Nat) (hd : 2 + 1 ≤ d) (v1 : Int32) (v2 : Int32) (I : hI) (J : hJ) (B : Bool × Bool) (q : hI × hJ) (h : mPl_note v1 v2 I J = some q) : HMet hFT yX5_note cX5_note 11 none kdC d [.ref 13, .int v1, .int v2] (I, J, RM B) none (q.1, q.2, RM B) := by
  obtain ⟨d0, rfl, hd0⟩ := h_mono hd
  refine HMet.of (by decide) (Nat.le_of_ble_eq_true rfl) ?_
  show AW hFT cX5_note 11 none RX5 kdC (d0 + 1) [(0, .ref 13), (1, .int v1), (2, .int v2)] 0 [] (I, J, RM B) none (q.1, q.2, RM B)
  unfold mPl_note at h
  refine a_iload_n dX5_note_0 rfl rfl ?_
  refine a_bipush dX5_note_1 bp_10 ?_
  refine a_callSN1 [] yy_X10_isOutside ml_5_70 (sC_isOutside _ (by omega) v2 (10 : Int32) I J B _ rfl) rfl rfl (Nat.le_of_ble_eq_true rfl) dX5_note_3 ?_
  refine a_if_eq (tgt := 10) dX5_note_6 (by decide) (fun c => ?_) (fun c => ?_)
  · replace h := h_iteT c h
    refine a_aload_n dX5_note_10 rfl rfl ?_
    refine b_getR hK_5 kc_13 (i := 7) rfl fl_5_28 rfl (rm_13_7 B) dX5_note_11 ?_
    refine a_iload_n dX5_note_14 rfl rfl ?_
    obtain ⟨g1, h⟩ := h_gS h
    refine b_iaload kc_19 (h_inV g1) dX5_note_15 ?_
    obtain ⟨v3x1, ev3x1, h⟩ := h_letS h
    refine a_topI ev3x1 ?_
    refine a_istore_n (lv' := [(3, .int v3x1), (0, .ref 13), (1, .int v1), (2, .int v2)]) dX5_note_16 rfl (by decide) rfl ?_
    refine a_lconst dX5_note_17 lc_0 ?_
    refine a_lstore (lv' := [(4, .long (0 : Int64)), (3, .int v3x1), (0, .ref 13), (1, .int v1), (2, .int v2)]) dX5_note_18 (by decide) rfl ?_
    refine a_aload_n dX5_note_20 rfl rfl ?_
    refine b_getR hK_5 kc_13 (i := 0) rfl fl_5_36 rfl (rm_13_0 B) dX5_note_21 ?_
    refine a_iload_n dX5_note_24 rfl rfl ?_
    refine a_callV1 [] yy_X7_isIn ml_5_88 kc_7 rfl (sRo_isIn _ (by omega) v2 I J B _ rfl) rfl rfl (Nat.le_of_ble_eq_true rfl) dX5_note_25 ?_
    refine a_if_eq (tgt := 35) dX5_note_28 (by decide) (fun c => ?_) (fun c => ?_)
    · replace h := h_iteT c h
      refine a_lconst dX5_note_35 lc_1 ?_
      refine a_sub (lv' := [(0, .ref 13), (1, .int v1), (2, .int v2), (3, .int v3x1), (4, .long (0 : Int64))]) [2, 3, 4, 1, 0] rfl ?_
      exact sPl_note_36 (d0 + 1) (by omega) v1 v2 v3x1 (0 : Int64) (1 : Int64) I J B _ h
    · replace h := h_iteF c h
      refine a_lconst dX5_note_31 lc_0 ?_
      refine a_goto (tgt := 36) dX5_note_32 (by decide) ?_
      refine a_sub (lv' := [(0, .ref 13), (1, .int v1), (2, .int v2), (3, .int v3x1), (4, .long (0 : Int64))]) [2, 3, 4, 1, 0] rfl ?_
      exact sPl_note_36 (d0 + 1) (by omega) v1 v2 v3x1 (0 : Int64) (0 : Int64) I J B _ h
  · replace h := h_iteF c h
    cases h
    exact a_vret dX5_note_9
/-! CoinLoops$Plans.prepare()V -/
theorem dX5_prepare_0 : decode cX5_prepare 0 = .ok (.aload_n 0, 1) := by decide +kernel
theorem dX5_prepare_1 : decode cX5_prepare 1 = .ok (.getfield 40, 3) := by decide +kernel
theorem dX5_prepare_4 : decode cX5_prepare 4 = .ok (.ifCond .eq 4, 3) := by decide +kernel
theorem dX5_prepare_7 : decode cX5_prepare 7 = .ok (.return_, 1) := by decide +kernel
theorem dX5_prepare_8 : decode cX5_prepare 8 = .ok (.aload_n 0, 1) := by decide +kernel
theorem dX5_prepare_9 : decode cX5_prepare 9 = .ok (.iconst 1, 1) := by decide +kernel
theorem dX5_prepare_10 : decode cX5_prepare 10 = .ok (.putfield 40, 3) := by decide +kernel
theorem dX5_prepare_13 : decode cX5_prepare 13 = .ok (.iconst 0, 1) := by decide +kernel
theorem dX5_prepare_14 : decode cX5_prepare 14 = .ok (.istore_n 1, 1) := by decide +kernel
theorem dX5_prepare_15 : decode cX5_prepare 15 = .ok (.iload_n 1, 1) := by decide +kernel
theorem dX5_prepare_16 : decode cX5_prepare 16 = .ok (.aload_n 0, 1) := by decide +kernel
theorem dX5_prepare_17 : decode cX5_prepare 17 = .ok (.getfield 36, 3) := by decide +kernel
theorem dX5_prepare_20 : decode cX5_prepare 20 = .ok (.getfield 44, 3) := by decide +kernel
theorem dX5_prepare_23 : decode cX5_prepare 23 = .ok (.if_icmp .ge 57, 3) := by decide +kernel
theorem dX5_prepare_26 : decode cX5_prepare 26 = .ok (.iload_n 1, 1) := by decide +kernel
theorem dX5_prepare_27 : decode cX5_prepare 27 = .ok (.bipush 64, 2) := by decide +kernel
theorem dX5_prepare_29 : decode cX5_prepare 29 = .ok (.if_icmp .ge 51, 3) := by decide +kernel
theorem dX5_prepare_32 : decode cX5_prepare 32 = .ok (.aload_n 0, 1) := by decide +kernel
theorem dX5_prepare_33 : decode cX5_prepare 33 = .ok (.iload_n 1, 1) := by decide +kernel
theorem dX5_prepare_34 : decode cX5_prepare 34 = .ok (.invokevirtual 50, 3) := by decide +kernel
theorem dX5_prepare_37 : decode cX5_prepare 37 = .ok (.aload_n 0, 1) := by decide +kernel
theorem dX5_prepare_38 : decode cX5_prepare 38 = .ok (.invokevirtual 54, 3) := by decide +kernel
theorem dX5_prepare_41 : decode cX5_prepare 41 = .ok (.aload_n 0, 1) := by decide +kernel
theorem dX5_prepare_42 : decode cX5_prepare 42 = .ok (.invokevirtual 57, 3) := by decide +kernel
theorem dX5_prepare_45 : decode cX5_prepare 45 = .ok (.aload_n 0, 1) := by decide +kernel
theorem dX5_prepare_46 : decode cX5_prepare 46 = .ok (.invokevirtual 60, 3) := by decide +kernel
theorem dX5_prepare_49 : decode cX5_prepare 49 = .ok (.iconst 0, 1) := by decide +kernel
theorem dX5_prepare_50 : decode cX5_prepare 50 = .ok (.istore_n 2, 1) := by decide +kernel
theorem dX5_prepare_51 : decode cX5_prepare 51 = .ok (.iload_n 2, 1) := by decide +kernel
theorem dX5_prepare_52 : decode cX5_prepare 52 = .ok (.aload_n 0, 1) := by decide +kernel
theorem dX5_prepare_53 : decode cX5_prepare 53 = .ok (.getfield 36, 3) := by decide +kernel
theorem dX5_prepare_56 : decode cX5_prepare 56 = .ok (.getfield 63, 3) := by decide +kernel
theorem dX5_prepare_59 : decode cX5_prepare 59 = .ok (.if_icmp .ge 15, 3) := by decide +kernel
theorem dX5_prepare_62 : decode cX5_prepare 62 = .ok (.aload_n 0, 1) := by decide +kernel
theorem dX5_prepare_63 : decode cX5_prepare 63 = .ok (.iload_n 1, 1) := by decide +kernel
theorem dX5_prepare_64 : decode cX5_prepare 64 = .ok (.iload_n 2, 1) := by decide +kernel
theorem dX5_prepare_65 : decode cX5_prepare 65 = .ok (.invokevirtual 66, 3) := by decide +kernel
theorem dX5_prepare_68 : decode cX5_prepare 68 = .ok (.iinc 2 1, 3) := by decide +kernel
theorem dX5_prepare_71 : decode cX5_prepare 71 = .ok (.goto (-20), 3) := by decide +kernel
theorem dX5_prepare_74 : decode cX5_prepare 74 = .ok (.iinc 1 1, 3) := by decide +kernel
theorem dX5_prepare_77 : decode cX5_prepare 77 = .ok (.goto (-62), 3) := by decide +kernel
theorem dX5_prepare_80 : decode cX5_prepare 80 = .ok (.return_, 1) := by decide +kernel
def mPl_prepare_B51 (k15 : Int32 → hI → hJ → Option (hI × hJ)) (k51 : Int32 → Int32 → hI → hJ → Option (hI × hJ)) (v1 : Int32) (v2 : Int32) (I : hI) (J : hJ) : Option (hI × hJ) :=
  if (I 7 5) ≤ v2 then
    k15 (v1 + (1 : Int32)) I J
  else
    ((mPl_note v1 v2 I J).bind fun q1 =>
    k51 v1 (v2 + (1 : Int32)) q1.1 q1.2)
set_option maxHeartbeats 4000000 in
theorem sPl_prepare_B51 (d : Nat) (hd : 3 + 1 ≤ d) (k15 : Int32 → hI → hJ → Option (hI × hJ)) (hk15 : ∀ (v1 : Int32) (I : hI) (J : hJ) (B : Bool × Bool) (q : hI × hJ), k15 v1 I J = some q → AW hFT cX5_prepare 3 none RX5 kdC d [(0, .ref 13), (1, .int v1)] 15 [] (I, J, RM B) none (q.1, q.2, RM B)) (k51 : Int32 → Int32 → hI → hJ → Option (hI × hJ)) (hk51 : ∀ (v1 : Int32) (v2 : Int32) (I : hI) (J : hJ) (B : Bool × Bool) (q : hI × hJ), k51 v1 v2 I J = some q → AW hFT cX5_prepare 3 none RX5 kdC d [(0, .ref 13), (1, .int v1), (2, .int v2)] 51 [] (I, J, RM B) none (q.1, q.2, RM B)) (v1 : Int32) (v2 : Int32) (I : hI) (J : hJ) (B : Bool × Bool) (q : hI × hJ) (h : mPl_prepare_B51 k15 k51 v1 v2 I J = some q) : AW hFT cX5_prepare 3 none RX5 kdC d [(0, .ref 13), (1, .int v1), (2, .int v2)] 51 [] (I, J, RM B) none (q.1, q.2, RM B) := by
  obtain ⟨d0, rfl, hd0⟩ := h_mono hd
  unfold mPl_prepare_B51 at h
  refine a_iload_n dX5_prepare_51 rfl rfl ?_
  refine a_aload_n dX5_prepare_52 rfl rfl ?_
  refine b_getR hK_5 kc_13 (i := 0) rfl fl_5_36 rfl (rm_13_0 B) dX5_prepare_53 ?_
  refine b_getI hK_7 kc_7 (i := 5) rfl fl_5_63 rfl dX5_prepare_56 ?_
  refine a_icmp_ge (tgt := 74) dX5_prepare_59 (by decide) (fun c => ?_) (fun c => ?_)
  · replace h := h_iteT c h
    refine b_iinc (lv' := [(1, .int (v1 + (1 : Int32))), (0, .ref 13), (2, .int v2)]) dX5_prepare_74 rfl ic_1 (by decide) rfl ?_
    refine a_goto (tgt := 15) dX5_prepare_77 (by decide) ?_
    refine a_sub (lv' := [(0, .ref 13), (1, .int (v1 + (1 : Int32)))]) [1, 0] rfl ?_
    exact hk15 (v1 + (1 : Int32)) I J B _ h
  · replace h := h_iteF c h
    refine a_aload_n dX5_prepare_62 rfl rfl ?_
    refine a_iload_n dX5_prepare_63 rfl rfl ?_
    refine a_iload_n dX5_prepare_64 rfl rfl ?_
    obtain ⟨q1, cq1, h⟩ := h_bindS h
    refine a_callV0 [] yy_X5_note ml_5_66 kc_13 rfl (sPl_note _ (by omega) v1 v2 I J B q1 cq1) rfl rfl (Nat.le_of_ble_eq_true rfl) dX5_prepare_65 ?_
    refine b_iinc (lv' := [(2, .int (v2 + (1 : Int32))), (0, .ref 13), (1, .int v1)]) dX5_prepare_68 rfl ic_1 (by decide) rfl ?_
    refine a_goto (tgt := 51) dX5_prepare_71 (by decide) ?_
    refine a_sub (lv' := [(0, .ref 13), (1, .int v1), (2, .int (v2 + (1 : Int32)))]) [1, 2, 0] rfl ?_
    exact hk51 v1 (v2 + (1 : Int32)) q1.1 q1.2 B _ h
def mPl_prepare_L51 (k15 : Int32 → hI → hJ → Option (hI × hJ)) : Nat → Int32 → Int32 → hI → hJ → Option (hI × hJ)
  | 0 => fun _ _ _ _ => none
  | n + 1 => mPl_prepare_B51 k15 (mPl_prepare_L51 k15 n)
theorem sPl_prepare_L51 (d : Nat) (hd : 3 + 1 ≤ d) (k15 : Int32 → hI → hJ → Option (hI × hJ)) (hk15 : ∀ (v1 : Int32) (I : hI) (J : hJ) (B : Bool × Bool) (q : hI × hJ), k15 v1 I J = some q → AW hFT cX5_prepare 3 none RX5 kdC d [(0, .ref 13), (1, .int v1)] 15 [] (I, J, RM B) none (q.1, q.2, RM B)) : ∀ (n : Nat) (v1 : Int32) (v2 : Int32) (I : hI) (J : hJ) (B : Bool × Bool) (q : hI × hJ) (h : mPl_prepare_L51 k15 n v1 v2 I J = some q), AW hFT cX5_prepare 3 none RX5 kdC d [(0, .ref 13), (1, .int v1), (2, .int v2)] 51 [] (I, J, RM B) none (q.1, q.2, RM B)
  | 0, _, _, _, _, _, q, h => by cases h
  | n + 1, v1, v2, I, J, B, q, h => sPl_prepare_B51 d hd k15 hk15 (mPl_prepare_L51 k15 n) (sPl_prepare_L51 d hd k15 hk15 n) v1 v2 I J B q h
def mPl_prepare_B15 (k15 : Int32 → hI → hJ → Option (hI × hJ)) (v1 : Int32) (I : hI) (J : hJ) : Option (hI × hJ) :=
  if (I 7 9) ≤ v1 then
    some (I, J)
  else
    (if (64 : Int32) ≤ v1 then
      some (I, J)
    else
      ((mPl_choosePlan v1 I).bind fun q1 =>
      (mPl_findStaying q1).bind fun q2 =>
      (mPl_makeRows q2 J).bind fun q3 =>
      (mPl_solve q3.1 q3.2).bind fun q4 =>
      mPl_prepare_L51 k15 hF v1 (0 : Int32) q3.1 q4))
set_option maxHeartbeats 4000000 in
theorem sPl_prepare_B15 (d : Nat) (hd : 3 + 1 ≤ d) (k15 : Int32 → hI → hJ → Option (hI × hJ)) (hk15 : ∀ (v1 : Int32) (I : hI) (J : hJ) (B : Bool × Bool) (q : hI × hJ), k15 v1 I J = some q → AW hFT cX5_prepare 3 none RX5 kdC d [(0, .ref 13), (1, .int v1)] 15 [] (I, J, RM B) none (q.1, q.2, RM B)) (v1 : Int32) (I : hI) (J : hJ) (B : Bool × Bool) (q : hI × hJ) (h : mPl_prepare_B15 k15 v1 I J = some q) : AW hFT cX5_prepare 3 none RX5 kdC d [(0, .ref 13), (1, .int v1)] 15 [] (I, J, RM B) none (q.1, q.2, RM B) := by
  obtain ⟨d0, rfl, hd0⟩ := h_mono hd
  unfold mPl_prepare_B15 at h
  refine a_iload_n dX5_prepare_15 rfl rfl ?_
  refine a_aload_n dX5_prepare_16 rfl rfl ?_
  refine b_getR hK_5 kc_13 (i := 0) rfl fl_5_36 rfl (rm_13_0 B) dX5_prepare_17 ?_
  refine b_getI hK_7 kc_7 (i := 9) rfl fl_5_44 rfl dX5_prepare_20 ?_
  refine a_icmp_ge (tgt := 80) dX5_prepare_23 (by decide) (fun c => ?_) (fun c => ?_)
  · replace h := h_iteT c h
    cases h
    exact a_vret dX5_prepare_80
  · replace h := h_iteF c h
    refine a_iload_n dX5_prepare_26 rfl rfl ?_
    refine a_bipush dX5_prepare_27 bp_64 ?_
    refine a_icmp_ge (tgt := 80) dX5_prepare_29 (by decide) (fun c => ?_) (fun c => ?_)
    · replace h := h_iteT c h
      cases h
      exact a_vret dX5_prepare_80
    · replace h := h_iteF c h
      refine a_aload_n dX5_prepare_32 rfl rfl ?_
      refine a_iload_n dX5_prepare_33 rfl rfl ?_
      obtain ⟨q1, cq1, h⟩ := h_bindS h
      refine a_callV0 [] yy_X5_choosePlan ml_5_50 kc_13 rfl (sPl_choosePlan _ (by omega) v1 I J B q1 cq1) rfl rfl (Nat.le_of_ble_eq_true rfl) dX5_prepare_34 ?_
      refine a_aload_n dX5_prepare_37 rfl rfl ?_
      obtain ⟨q2, cq2, h⟩ := h_bindS h
      refine a_callV0 [] yy_X5_findStaying ml_5_54 kc_13 rfl (sPl_findStaying _ (by omega)  q1 J B q2 cq2) rfl rfl (Nat.le_of_ble_eq_true rfl) dX5_prepare_38 ?_
      refine a_aload_n dX5_prepare_41 rfl rfl ?_
      obtain ⟨q3, cq3, h⟩ := h_bindS h
      refine a_callV0 [] yy_X5_makeRows ml_5_57 kc_13 rfl (sPl_makeRows _ (by omega)  q2 J B q3 cq3) rfl rfl (Nat.le_of_ble_eq_true rfl) dX5_prepare_42 ?_
      refine a_aload_n dX5_prepare_45 rfl rfl ?_
      obtain ⟨q4, cq4, h⟩ := h_bindS h
      refine a_callV0 [] yy_X5_solve ml_5_60 kc_13 rfl (sPl_solve _ (by omega)  q3.1 q3.2 B q4 cq4) rfl rfl (Nat.le_of_ble_eq_true rfl) dX5_prepare_46 ?_
      refine a_iconst dX5_prepare_49 ic_0 ?_
      refine a_istore_n (lv' := [(2, .int (0 : Int32)), (0, .ref 13), (1, .int v1)]) dX5_prepare_50 rfl (by decide) rfl ?_
      refine a_sub (lv' := [(0, .ref 13), (1, .int v1), (2, .int (0 : Int32))]) [1, 2, 0] rfl ?_
      exact sPl_prepare_L51 (d0 + 1) (by omega) k15 hk15 hF v1 (0 : Int32) q3.1 q4 B _ h
def mPl_prepare_L15  : Nat → Int32 → hI → hJ → Option (hI × hJ)
  | 0 => fun _ _ _ => none
  | n + 1 => mPl_prepare_B15 (mPl_prepare_L15 n)
theorem sPl_prepare_L15 (d : Nat) (hd : 3 + 1 ≤ d) : ∀ (n : Nat) (v1 : Int32) (I : hI) (J : hJ) (B : Bool × Bool) (q : hI × hJ) (h : mPl_prepare_L15 n v1 I J = some q), AW hFT cX5_prepare 3 none RX5 kdC d [(0, .ref 13), (1, .int v1)] 15 [] (I, J, RM B) none (q.1, q.2, RM B)
  | 0, _, _, _, _, q, h => by cases h
  | n + 1, v1, I, J, B, q, h => sPl_prepare_B15 d hd (mPl_prepare_L15 n) (sPl_prepare_L15 d hd n) v1 I J B q h
def mPl_prepare   (I : hI) (J : hJ) : Option (hI × hJ) :=
  if (I 13 1) = 0 then
    (h_let (h_u I 13 1 (1 : Int32)) fun I1 =>
    mPl_prepare_L15 hF (0 : Int32) I1 J)
  else
    some (I, J)
set_option maxHeartbeats 4000000 in
theorem sPl_prepare (d : Nat) (hd : 3 + 1 ≤ d)  (I : hI) (J : hJ) (B : Bool × Bool) (q : hI × hJ) (h : mPl_prepare I J = some q) : HMet hFT yX5_prepare cX5_prepare 3 none kdC d [.ref 13] (I, J, RM B) none (q.1, q.2, RM B) := by
  obtain ⟨d0, rfl, hd0⟩ := h_mono hd
  refine HMet.of (by decide) (Nat.le_of_ble_eq_true rfl) ?_
  show AW hFT cX5_prepare 3 none RX5 kdC (d0 + 1) [(0, .ref 13)] 0 [] (I, J, RM B) none (q.1, q.2, RM B)
  unfold mPl_prepare at h
  refine a_aload_n dX5_prepare_0 rfl rfl ?_
  refine b_getI hK_5 kc_13 (i := 1) rfl fl_5_40 rfl dX5_prepare_1 ?_
  refine a_if_eq (tgt := 8) dX5_prepare_4 (by decide) (fun c => ?_) (fun c => ?_)
  · replace h := h_iteT c h
    refine a_aload_n dX5_prepare_8 rfl rfl ?_
    refine a_iconst dX5_prepare_9 ic_1 ?_
    refine b_putI hK_5 kc_13 (i := 1) rfl fl_5_40 rfl rfl h_Z1 dX5_prepare_10 ?_
    obtain ⟨I1, eI1, h⟩ := h_letS h
    refine a_memI eI1 ?_
    refine a_iconst dX5_prepare_13 ic_0 ?_
    refine a_istore_n (lv' := [(1, .int (0 : Int32)), (0, .ref 13)]) dX5_prepare_14 rfl (by decide) rfl ?_
    refine a_sub (lv' := [(0, .ref 13), (1, .int (0 : Int32))]) [1, 0] rfl ?_
    exact sPl_prepare_L15 (d0 + 1) (by omega) hF (0 : Int32) I1 J B _ h
  · replace h := h_iteF c h
    cases h
    exact a_vret dX5_prepare_7
/-! CoinLoops$Plans.told(III)J -/
theorem dX5_told_0 : decode cX5_told 0 = .ok (.iload_n 1, 1) := by decide +kernel
theorem dX5_told_1 : decode cX5_told 1 = .ok (.bipush 10, 2) := by decide +kernel
theorem dX5_told_3 : decode cX5_told 3 = .ok (.imul, 1) := by decide +kernel
theorem dX5_told_4 : decode cX5_told 4 = .ok (.iload_n 2, 1) := by decide +kernel
theorem dX5_told_5 : decode cX5_told 5 = .ok (.iadd, 1) := by decide +kernel
theorem dX5_told_6 : decode cX5_told 6 = .ok (.istore 4, 2) := by decide +kernel
theorem dX5_told_8 : decode cX5_told 8 = .ok (.iload 4, 2) := by decide +kernel
theorem dX5_told_10 : decode cX5_told 10 = .ok (.aload_n 0, 1) := by decide +kernel
theorem dX5_told_11 : decode cX5_told 11 = .ok (.getfield 9, 3) := by decide +kernel
theorem dX5_told_14 : decode cX5_told 14 = .ok (.arraylength, 1) := by decide +kernel
theorem dX5_told_15 : decode cX5_told 15 = .ok (.invokestatic 70, 3) := by decide +kernel
theorem dX5_told_18 : decode cX5_told 18 = .ok (.ifCond .eq 7, 3) := by decide +kernel
theorem dX5_told_21 : decode cX5_told 21 = .ok (.ldc2_w 74, 3) := by decide +kernel
theorem dX5_told_24 : decode cX5_told 24 = .ok (.lreturn, 1) := by decide +kernel
theorem dX5_told_25 : decode cX5_told 25 = .ok (.aload_n 0, 1) := by decide +kernel
theorem dX5_told_26 : decode cX5_told 26 = .ok (.getfield 15, 3) := by decide +kernel
theorem dX5_told_29 : decode cX5_told 29 = .ok (.iload 4, 2) := by decide +kernel
theorem dX5_told_31 : decode cX5_told 31 = .ok (.laload, 1) := by decide +kernel
theorem dX5_told_32 : decode cX5_told 32 = .ok (.lconst 0, 1) := by decide +kernel
theorem dX5_told_33 : decode cX5_told 33 = .ok (.lcmp, 1) := by decide +kernel
theorem dX5_told_34 : decode cX5_told 34 = .ok (.ifCond .ne 7, 3) := by decide +kernel
theorem dX5_told_37 : decode cX5_told 37 = .ok (.ldc2_w 76, 3) := by decide +kernel
theorem dX5_told_40 : decode cX5_told 40 = .ok (.lreturn, 1) := by decide +kernel
theorem dX5_told_41 : decode cX5_told 41 = .ok (.iload_n 3, 1) := by decide +kernel
theorem dX5_told_42 : decode cX5_told 42 = .ok (.ifCond .ne 13, 3) := by decide +kernel
theorem dX5_told_45 : decode cX5_told 45 = .ok (.aload_n 0, 1) := by decide +kernel
theorem dX5_told_46 : decode cX5_told 46 = .ok (.getfield 9, 3) := by decide +kernel
theorem dX5_told_49 : decode cX5_told 49 = .ok (.iload 4, 2) := by decide +kernel
theorem dX5_told_51 : decode cX5_told 51 = .ok (.laload, 1) := by decide +kernel
theorem dX5_told_52 : decode cX5_told 52 = .ok (.goto 10, 3) := by decide +kernel
theorem dX5_told_55 : decode cX5_told 55 = .ok (.aload_n 0, 1) := by decide +kernel
theorem dX5_told_56 : decode cX5_told 56 = .ok (.getfield 15, 3) := by decide +kernel
theorem dX5_told_59 : decode cX5_told 59 = .ok (.iload 4, 2) := by decide +kernel
theorem dX5_told_61 : decode cX5_told 61 = .ok (.laload, 1) := by decide +kernel
theorem dX5_told_62 : decode cX5_told 62 = .ok (.lreturn, 1) := by decide +kernel
def mPl_told  (v1 : Int32) (v2 : Int32) (v3 : Int32) (J : hJ) : Option (Int64) :=
  h_let ((v1 * (10 : Int32)) + v2) fun v4x0 =>
  if (mC_isOutside v4x0 (40 : Int32)) = 0 then
    (h_g (h_in v4x0 40) <|
    if (J 15 v4x0.toNatClampNeg) = (0 : Int64) then
      some (-2 : Int64)
    else
      (if v3 = 0 then
        (h_g (h_in v4x0 40) <|
        some (J 14 v4x0.toNatClampNeg))
      else
        (h_g (h_in v4x0 40) <|
        some (J 15 v4x0.toNatClampNeg))))
  else
    some (-1 : Int64)
set_option maxHeartbeats 4000000 in
theorem sPl_told (d : Nat) (hd : 0 + 1 ≤ d) (v1 : Int32) (v2 : Int32) (v3 : Int32) (I : hI) (J : hJ) (B : Bool × Bool) (q : Int64) (h : mPl_told v1 v2 v3 J = some q) : HMet hFT yX5_told cX5_told 5 (some .long) kdC d [.ref 13, .int v1, .int v2, .int v3] (I, J, RM B) (some (.long q)) (I, J, RM B) := by
  obtain ⟨d0, rfl, hd0⟩ := h_mono hd
  refine HMet.of (by decide) (Nat.le_of_ble_eq_true rfl) ?_
  show AW hFT cX5_told 5 (some .long) RX5 kdC (d0 + 1) [(0, .ref 13), (1, .int v1), (2, .int v2), (3, .int v3)] 0 [] (I, J, RM B) (some (.long q)) (I, J, RM B)
  unfold mPl_told at h
  refine a_iload_n dX5_told_0 rfl rfl ?_
  refine a_bipush dX5_told_1 bp_10 ?_
  refine a_imul dX5_told_3 ?_
  refine a_iload_n dX5_told_4 rfl rfl ?_
  refine a_iadd dX5_told_5 ?_
  obtain ⟨v4x0, ev4x0, h⟩ := h_letS h
  refine a_topI ev4x0 ?_
  refine a_istore (lv' := [(4, .int v4x0), (0, .ref 13), (1, .int v1), (2, .int v2), (3, .int v3)]) dX5_told_6 (by decide) rfl ?_
  refine a_iload dX5_told_8 rfl ?_
  refine a_aload_n dX5_told_10 rfl rfl ?_
  refine b_getR hK_5 kc_13 (i := 2) rfl fl_5_9 rfl (rm_13_2 B) dX5_told_11 ?_
  refine a_alen1 kc_14 (v := 40) (by decide) dX5_told_14 ?_
  refine a_callSN1 [] yy_X10_isOutside ml_5_70 (sC_isOutside _ (by omega) v4x0 (40 : Int32) I J B _ rfl) rfl rfl (Nat.le_of_ble_eq_true rfl) dX5_told_15 ?_
  refine a_if_eq (tgt := 25) dX5_told_18 (by decide) (fun c => ?_) (fun c => ?_)
  · replace h := h_iteT c h
    refine a_aload_n dX5_told_25 rfl rfl ?_
    refine b_getR hK_5 kc_13 (i := 3) rfl fl_5_15 rfl (rm_13_3 B) dX5_told_26 ?_
    refine a_iload dX5_told_29 rfl ?_
    obtain ⟨g2, h⟩ := h_gS h
    refine b_laload kc_15 (h_inV g2) dX5_told_31 ?_
    refine a_lconst dX5_told_32 lc_0 ?_
    refine a_lcmp_ne (tgt := 41) dX5_told_33 dX5_told_34 (by decide) (fun c => ?_) (fun c => ?_)
    · replace h := h_iteF c h
      refine a_iload_n dX5_told_41 rfl rfl ?_
      refine a_if_ne (tgt := 55) dX5_told_42 (by decide) (fun c => ?_) (fun c => ?_)
      · replace h := h_iteF c h
        refine a_aload_n dX5_told_55 rfl rfl ?_
        refine b_getR hK_5 kc_13 (i := 3) rfl fl_5_15 rfl (rm_13_3 B) dX5_told_56 ?_
        refine a_iload dX5_told_59 rfl ?_
        obtain ⟨g3, h⟩ := h_gS h
        refine b_laload kc_15 (h_inV g3) dX5_told_61 ?_
        cases h
        exact a_lret dX5_told_62
      · replace h := h_iteT c h
        refine a_aload_n dX5_told_45 rfl rfl ?_
        refine b_getR hK_5 kc_13 (i := 2) rfl fl_5_9 rfl (rm_13_2 B) dX5_told_46 ?_
        refine a_iload dX5_told_49 rfl ?_
        obtain ⟨g3, h⟩ := h_gS h
        refine b_laload kc_14 (h_inV g3) dX5_told_51 ?_
        refine a_goto (tgt := 62) dX5_told_52 (by decide) ?_
        cases h
        exact a_lret dX5_told_62
    · replace h := h_iteT c h
      refine a_ldc2_w cn_5_76 dX5_told_37 ?_
      cases h
      exact a_lret dX5_told_40
  · replace h := h_iteF c h
    refine a_ldc2_w cn_5_74 dX5_told_21 ?_
    cases h
    exact a_lret dX5_told_24
/-! CoinLoops$Plans.isSure(II)Z -/
theorem dX5_isSure_0 : decode cX5_isSure 0 = .ok (.aload_n 0, 1) := by decide +kernel
theorem dX5_isSure_1 : decode cX5_isSure 1 = .ok (.iload_n 1, 1) := by decide +kernel
theorem dX5_isSure_2 : decode cX5_isSure 2 = .ok (.iload_n 2, 1) := by decide +kernel
theorem dX5_isSure_3 : decode cX5_isSure 3 = .ok (.iconst 0, 1) := by decide +kernel
theorem dX5_isSure_4 : decode cX5_isSure 4 = .ok (.invokevirtual 78, 3) := by decide +kernel
theorem dX5_isSure_7 : decode cX5_isSure 7 = .ok (.aload_n 0, 1) := by decide +kernel
theorem dX5_isSure_8 : decode cX5_isSure 8 = .ok (.iload_n 1, 1) := by decide +kernel
theorem dX5_isSure_9 : decode cX5_isSure 9 = .ok (.iload_n 2, 1) := by decide +kernel
theorem dX5_isSure_10 : decode cX5_isSure 10 = .ok (.iconst 1, 1) := by decide +kernel
theorem dX5_isSure_11 : decode cX5_isSure 11 = .ok (.invokevirtual 78, 3) := by decide +kernel
theorem dX5_isSure_14 : decode cX5_isSure 14 = .ok (.lcmp, 1) := by decide +kernel
theorem dX5_isSure_15 : decode cX5_isSure 15 = .ok (.ifCond .ne 7, 3) := by decide +kernel
theorem dX5_isSure_18 : decode cX5_isSure 18 = .ok (.iconst 1, 1) := by decide +kernel
theorem dX5_isSure_19 : decode cX5_isSure 19 = .ok (.goto 4, 3) := by decide +kernel
theorem dX5_isSure_22 : decode cX5_isSure 22 = .ok (.iconst 0, 1) := by decide +kernel
theorem dX5_isSure_23 : decode cX5_isSure 23 = .ok (.ireturn, 1) := by decide +kernel
def mPl_isSure  (v1 : Int32) (v2 : Int32) (J : hJ) : Option (Int32) :=
  (mPl_told v1 v2 (0 : Int32) J).bind fun q1 =>
  (mPl_told v1 v2 (1 : Int32) J).bind fun q2 =>
  if q1 = q2 then
    some (1 : Int32)
  else
    some (0 : Int32)
set_option maxHeartbeats 4000000 in
theorem sPl_isSure (d : Nat) (hd : 1 + 1 ≤ d) (v1 : Int32) (v2 : Int32) (I : hI) (J : hJ) (B : Bool × Bool) (q : Int32) (h : mPl_isSure v1 v2 J = some q) : HMet hFT yX5_isSure cX5_isSure 3 (some .boolean) kdC d [.ref 13, .int v1, .int v2] (I, J, RM B) (some (.int q)) (I, J, RM B) := by
  obtain ⟨d0, rfl, hd0⟩ := h_mono hd
  refine HMet.of (by decide) (Nat.le_of_ble_eq_true rfl) ?_
  show AW hFT cX5_isSure 3 (some .boolean) RX5 kdC (d0 + 1) [(0, .ref 13), (1, .int v1), (2, .int v2)] 0 [] (I, J, RM B) (some (.int q)) (I, J, RM B)
  unfold mPl_isSure at h
  refine a_aload_n dX5_isSure_0 rfl rfl ?_
  refine a_iload_n dX5_isSure_1 rfl rfl ?_
  refine a_iload_n dX5_isSure_2 rfl rfl ?_
  refine a_iconst dX5_isSure_3 ic_0 ?_
  obtain ⟨q1, cq1, h⟩ := h_bindS h
  refine a_callV1 [] yy_X5_told ml_5_78 kc_13 rfl (sPl_told _ (by omega) v1 v2 (0 : Int32) I J B q1 cq1) rfl rfl (Nat.le_of_ble_eq_true rfl) dX5_isSure_4 ?_
  refine a_aload_n dX5_isSure_7 rfl rfl ?_
  refine a_iload_n dX5_isSure_8 rfl rfl ?_
  refine a_iload_n dX5_isSure_9 rfl rfl ?_
  refine a_iconst dX5_isSure_10 ic_1 ?_
  obtain ⟨q2, cq2, h⟩ := h_bindS h
  refine a_callV1 [.long q1] yy_X5_told ml_5_78 kc_13 rfl (sPl_told _ (by omega) v1 v2 (1 : Int32) I J B q2 cq2) rfl rfl (Nat.le_of_ble_eq_true rfl) dX5_isSure_11 ?_
  refine a_lcmp_ne (tgt := 22) dX5_isSure_14 dX5_isSure_15 (by decide) (fun c => ?_) (fun c => ?_)
  · replace h := h_iteF c h
    refine a_iconst dX5_isSure_22 ic_0 ?_
    cases h
    exact a_zret (h_Z0.1) dX5_isSure_23
  · replace h := h_iteT c h
    refine a_iconst dX5_isSure_18 ic_1 ?_
    refine a_goto (tgt := 23) dX5_isSure_19 (by decide) ?_
    cases h
    exact a_zret (h_Z1.1) dX5_isSure_23
/-! CoinLoops$Plans.firstPlan(ZI)I -/
theorem dX5_firstPlan_0 : decode cX5_firstPlan 0 = .ok (.iload_n 1, 1) := by decide +kernel
theorem dX5_firstPlan_1 : decode cX5_firstPlan 1 = .ok (.ifCond .eq 7, 3) := by decide +kernel
theorem dX5_firstPlan_4 : decode cX5_firstPlan 4 = .ok (.iconst 1, 1) := by decide +kernel
theorem dX5_firstPlan_5 : decode cX5_firstPlan 5 = .ok (.goto 4, 3) := by decide +kernel
theorem dX5_firstPlan_8 : decode cX5_firstPlan 8 = .ok (.iconst 0, 1) := by decide +kernel
theorem dX5_firstPlan_9 : decode cX5_firstPlan 9 = .ok (.bipush 10, 2) := by decide +kernel
theorem dX5_firstPlan_11 : decode cX5_firstPlan 11 = .ok (.imul, 1) := by decide +kernel
theorem dX5_firstPlan_12 : decode cX5_firstPlan 12 = .ok (.iload_n 2, 1) := by decide +kernel
theorem dX5_firstPlan_13 : decode cX5_firstPlan 13 = .ok (.iadd, 1) := by decide +kernel
theorem dX5_firstPlan_14 : decode cX5_firstPlan 14 = .ok (.istore_n 3, 1) := by decide +kernel
theorem dX5_firstPlan_15 : decode cX5_firstPlan 15 = .ok (.iload_n 3, 1) := by decide +kernel
theorem dX5_firstPlan_16 : decode cX5_firstPlan 16 = .ok (.aload_n 0, 1) := by decide +kernel
theorem dX5_firstPlan_17 : decode cX5_firstPlan 17 = .ok (.getfield 18, 3) := by decide +kernel
theorem dX5_firstPlan_20 : decode cX5_firstPlan 20 = .ok (.arraylength, 1) := by decide +kernel
theorem dX5_firstPlan_21 : decode cX5_firstPlan 21 = .ok (.invokestatic 70, 3) := by decide +kernel
theorem dX5_firstPlan_24 : decode cX5_firstPlan 24 = .ok (.ifCond .eq 7, 3) := by decide +kernel
theorem dX5_firstPlan_27 : decode cX5_firstPlan 27 = .ok (.iconst 0, 1) := by decide +kernel
theorem dX5_firstPlan_28 : decode cX5_firstPlan 28 = .ok (.goto 9, 3) := by decide +kernel
theorem dX5_firstPlan_31 : decode cX5_firstPlan 31 = .ok (.aload_n 0, 1) := by decide +kernel
theorem dX5_firstPlan_32 : decode cX5_firstPlan 32 = .ok (.getfield 18, 3) := by decide +kernel
theorem dX5_firstPlan_35 : decode cX5_firstPlan 35 = .ok (.iload_n 3, 1) := by decide +kernel
theorem dX5_firstPlan_36 : decode cX5_firstPlan 36 = .ok (.iaload, 1) := by decide +kernel
theorem dX5_firstPlan_37 : decode cX5_firstPlan 37 = .ok (.ireturn, 1) := by decide +kernel
def mPl_firstPlan_9  (v2 : Int32) (vs0 : Int32) (I : hI) : Option (Int32) :=
  h_let ((vs0 * (10 : Int32)) + v2) fun v3x0 =>
  if (mC_isOutside v3x0 (40 : Int32)) = 0 then
    (h_g (h_in v3x0 40) <|
    some (I 16 v3x0.toNatClampNeg))
  else
    some (0 : Int32)
set_option maxHeartbeats 4000000 in
theorem sPl_firstPlan_9 (d : Nat) (hd : 0 + 1 ≤ d) (v2 : Int32) (vs0 : Int32) (I : hI) (J : hJ) (B : Bool × Bool) (q : Int32) (h : mPl_firstPlan_9 v2 vs0 I = some q) : AW hFT cX5_firstPlan 4 (some .int) RX5 kdC d [(0, .ref 13), (2, .int v2)] 9 [.int vs0] (I, J, RM B) (some (.int q)) (I, J, RM B) := by
  obtain ⟨d0, rfl, hd0⟩ := h_mono hd
  unfold mPl_firstPlan_9 at h
  refine a_bipush dX5_firstPlan_9 bp_10 ?_
  refine a_imul dX5_firstPlan_11 ?_
  refine a_iload_n dX5_firstPlan_12 rfl rfl ?_
  refine a_iadd dX5_firstPlan_13 ?_
  obtain ⟨v3x0, ev3x0, h⟩ := h_letS h
  refine a_topI ev3x0 ?_
  refine a_istore_n (lv' := [(3, .int v3x0), (0, .ref 13), (2, .int v2)]) dX5_firstPlan_14 rfl (by decide) rfl ?_
  refine a_iload_n dX5_firstPlan_15 rfl rfl ?_
  refine a_aload_n dX5_firstPlan_16 rfl rfl ?_
  refine b_getR hK_5 kc_13 (i := 4) rfl fl_5_18 rfl (rm_13_4 B) dX5_firstPlan_17 ?_
  refine a_alen0 kc_16 (v := 40) (by decide) dX5_firstPlan_20 ?_
  refine a_callSN1 [] yy_X10_isOutside ml_5_70 (sC_isOutside _ (by omega) v3x0 (40 : Int32) I J B _ rfl) rfl rfl (Nat.le_of_ble_eq_true rfl) dX5_firstPlan_21 ?_
  refine a_if_eq (tgt := 31) dX5_firstPlan_24 (by decide) (fun c => ?_) (fun c => ?_)
  · replace h := h_iteT c h
    refine a_aload_n dX5_firstPlan_31 rfl rfl ?_
    refine b_getR hK_5 kc_13 (i := 4) rfl fl_5_18 rfl (rm_13_4 B) dX5_firstPlan_32 ?_
    refine a_iload_n dX5_firstPlan_35 rfl rfl ?_
    obtain ⟨g2, h⟩ := h_gS h
    refine b_iaload kc_16 (h_inV g2) dX5_firstPlan_36 ?_
    cases h
    exact a_iret dX5_firstPlan_37
  · replace h := h_iteF c h
    refine a_iconst dX5_firstPlan_27 ic_0 ?_
    refine a_goto (tgt := 37) dX5_firstPlan_28 (by decide) ?_
    cases h
    exact a_iret dX5_firstPlan_37
def mPl_firstPlan  (v1 : Int32) (v2 : Int32) (I : hI) : Option (Int32) :=
  if v1 = 0 then
    mPl_firstPlan_9 v2 (0 : Int32) I
  else
    mPl_firstPlan_9 v2 (1 : Int32) I
set_option maxHeartbeats 4000000 in
theorem sPl_firstPlan (d : Nat) (hd : 0 + 1 ≤ d) (v1 : Int32) (v2 : Int32) (I : hI) (J : hJ) (B : Bool × Bool) (q : Int32) (h : mPl_firstPlan v1 v2 I = some q) : HMet hFT yX5_firstPlan cX5_firstPlan 4 (some .int) kdC d [.ref 13, .int v1, .int v2] (I, J, RM B) (some (.int q)) (I, J, RM B) := by
  obtain ⟨d0, rfl, hd0⟩ := h_mono hd
  refine HMet.of (by decide) (Nat.le_of_ble_eq_true rfl) ?_
  show AW hFT cX5_firstPlan 4 (some .int) RX5 kdC (d0 + 1) [(0, .ref 13), (1, .int v1), (2, .int v2)] 0 [] (I, J, RM B) (some (.int q)) (I, J, RM B)
  unfold mPl_firstPlan at h
  refine a_iload_n dX5_firstPlan_0 rfl rfl ?_
  refine a_if_eq (tgt := 8) dX5_firstPlan_1 (by decide) (fun c => ?_) (fun c => ?_)
  · replace h := h_iteT c h
    refine a_iconst dX5_firstPlan_8 ic_0 ?_
    refine a_sub (lv' := [(0, .ref 13), (2, .int v2)]) [0, 2] rfl ?_
    exact sPl_firstPlan_9 (d0 + 1) (by omega) v2 (0 : Int32) I J B _ h
  · replace h := h_iteF c h
    refine a_iconst dX5_firstPlan_4 ic_1 ?_
    refine a_goto (tgt := 9) dX5_firstPlan_5 (by decide) ?_
    refine a_sub (lv' := [(0, .ref 13), (2, .int v2)]) [0, 2] rfl ?_
    exact sPl_firstPlan_9 (d0 + 1) (by omega) v2 (1 : Int32) I J B _ h
/-! CoinLoops$Plans.sureStates(I)I -/
theorem dX5_sureStates_0 : decode cX5_sureStates 0 = .ok (.iconst 0, 1) := by decide +kernel
theorem dX5_sureStates_1 : decode cX5_sureStates 1 = .ok (.istore_n 2, 1) := by decide +kernel
theorem dX5_sureStates_2 : decode cX5_sureStates 2 = .ok (.iconst 0, 1) := by decide +kernel
theorem dX5_sureStates_3 : decode cX5_sureStates 3 = .ok (.istore_n 3, 1) := by decide +kernel
theorem dX5_sureStates_4 : decode cX5_sureStates 4 = .ok (.iload_n 3, 1) := by decide +kernel
theorem dX5_sureStates_5 : decode cX5_sureStates 5 = .ok (.aload_n 0, 1) := by decide +kernel
theorem dX5_sureStates_6 : decode cX5_sureStates 6 = .ok (.getfield 36, 3) := by decide +kernel
theorem dX5_sureStates_9 : decode cX5_sureStates 9 = .ok (.getfield 63, 3) := by decide +kernel
theorem dX5_sureStates_12 : decode cX5_sureStates 12 = .ok (.if_icmp .ge 21, 3) := by decide +kernel
theorem dX5_sureStates_15 : decode cX5_sureStates 15 = .ok (.aload_n 0, 1) := by decide +kernel
theorem dX5_sureStates_16 : decode cX5_sureStates 16 = .ok (.iload_n 1, 1) := by decide +kernel
theorem dX5_sureStates_17 : decode cX5_sureStates 17 = .ok (.iload_n 3, 1) := by decide +kernel
theorem dX5_sureStates_18 : decode cX5_sureStates 18 = .ok (.invokevirtual 85, 3) := by decide +kernel
theorem dX5_sureStates_21 : decode cX5_sureStates 21 = .ok (.ifCond .eq 6, 3) := by decide +kernel
theorem dX5_sureStates_24 : decode cX5_sureStates 24 = .ok (.iinc 2 1, 3) := by decide +kernel
theorem dX5_sureStates_27 : decode cX5_sureStates 27 = .ok (.iinc 3 1, 3) := by decide +kernel
theorem dX5_sureStates_30 : decode cX5_sureStates 30 = .ok (.goto (-26), 3) := by decide +kernel
theorem dX5_sureStates_33 : decode cX5_sureStates 33 = .ok (.iload_n 2, 1) := by decide +kernel
theorem dX5_sureStates_34 : decode cX5_sureStates 34 = .ok (.ireturn, 1) := by decide +kernel
def mPl_sureStates_B4 (k4 : Int32 → Int32 → Int32 → hI → hJ → Option (Int32)) (v1 : Int32) (v2 : Int32) (v3 : Int32) (I : hI) (J : hJ) : Option (Int32) :=
  if (I 7 5) ≤ v3 then
    some v2
  else
    ((mPl_isSure v1 v3 J).bind fun q1 =>
    if q1 = 0 then
      k4 v1 v2 (v3 + (1 : Int32)) I J
    else
      k4 v1 (v2 + (1 : Int32)) (v3 + (1 : Int32)) I J)
set_option maxHeartbeats 4000000 in
theorem sPl_sureStates_B4 (d : Nat) (hd : 2 + 1 ≤ d) (k4 : Int32 → Int32 → Int32 → hI → hJ → Option (Int32)) (hk4 : ∀ (v1 : Int32) (v2 : Int32) (v3 : Int32) (I : hI) (J : hJ) (B : Bool × Bool) (q : Int32), k4 v1 v2 v3 I J = some q → AW hFT cX5_sureStates 4 (some .int) RX5 kdC d [(0, .ref 13), (1, .int v1), (2, .int v2), (3, .int v3)] 4 [] (I, J, RM B) (some (.int q)) (I, J, RM B)) (v1 : Int32) (v2 : Int32) (v3 : Int32) (I : hI) (J : hJ) (B : Bool × Bool) (q : Int32) (h : mPl_sureStates_B4 k4 v1 v2 v3 I J = some q) : AW hFT cX5_sureStates 4 (some .int) RX5 kdC d [(0, .ref 13), (1, .int v1), (2, .int v2), (3, .int v3)] 4 [] (I, J, RM B) (some (.int q)) (I, J, RM B) := by
  obtain ⟨d0, rfl, hd0⟩ := h_mono hd
  unfold mPl_sureStates_B4 at h
  refine a_iload_n dX5_sureStates_4 rfl rfl ?_
  refine a_aload_n dX5_sureStates_5 rfl rfl ?_
  refine b_getR hK_5 kc_13 (i := 0) rfl fl_5_36 rfl (rm_13_0 B) dX5_sureStates_6 ?_
  refine b_getI hK_7 kc_7 (i := 5) rfl fl_5_63 rfl dX5_sureStates_9 ?_
  refine a_icmp_ge (tgt := 33) dX5_sureStates_12 (by decide) (fun c => ?_) (fun c => ?_)
  · replace h := h_iteT c h
    refine a_iload_n dX5_sureStates_33 rfl rfl ?_
    cases h
    exact a_iret dX5_sureStates_34
  · replace h := h_iteF c h
    refine a_aload_n dX5_sureStates_15 rfl rfl ?_
    refine a_iload_n dX5_sureStates_16 rfl rfl ?_
    refine a_iload_n dX5_sureStates_17 rfl rfl ?_
    obtain ⟨q1, cq1, h⟩ := h_bindS h
    refine a_callV1 [] yy_X5_isSure ml_5_85 kc_13 rfl (sPl_isSure _ (by omega) v1 v3 I J B q1 cq1) rfl rfl (Nat.le_of_ble_eq_true rfl) dX5_sureStates_18 ?_
    refine a_if_eq (tgt := 27) dX5_sureStates_21 (by decide) (fun c => ?_) (fun c => ?_)
    · replace h := h_iteT c h
      refine b_iinc (lv' := [(3, .int (v3 + (1 : Int32))), (0, .ref 13), (1, .int v1), (2, .int v2)]) dX5_sureStates_27 rfl ic_1 (by decide) rfl ?_
      refine a_goto (tgt := 4) dX5_sureStates_30 (by decide) ?_
      refine a_sub (lv' := [(0, .ref 13), (1, .int v1), (2, .int v2), (3, .int (v3 + (1 : Int32)))]) [1, 2, 3, 0] rfl ?_
      exact hk4 v1 v2 (v3 + (1 : Int32)) I J B _ h
    · replace h := h_iteF c h
      refine b_iinc (lv' := [(2, .int (v2 + (1 : Int32))), (0, .ref 13), (1, .int v1), (3, .int v3)]) dX5_sureStates_24 rfl ic_1 (by decide) rfl ?_
      refine b_iinc (lv' := [(3, .int (v3 + (1 : Int32))), (2, .int (v2 + (1 : Int32))), (0, .ref 13), (1, .int v1)]) dX5_sureStates_27 rfl ic_1 (by decide) rfl ?_
      refine a_goto (tgt := 4) dX5_sureStates_30 (by decide) ?_
      refine a_sub (lv' := [(0, .ref 13), (1, .int v1), (2, .int (v2 + (1 : Int32))), (3, .int (v3 + (1 : Int32)))]) [2, 3, 1, 0] rfl ?_
      exact hk4 v1 (v2 + (1 : Int32)) (v3 + (1 : Int32)) I J B _ h
def mPl_sureStates_L4  : Nat → Int32 → Int32 → Int32 → hI → hJ → Option (Int32)
  | 0 => fun _ _ _ _ _ => none
  | n + 1 => mPl_sureStates_B4 (mPl_sureStates_L4 n)
theorem sPl_sureStates_L4 (d : Nat) (hd : 2 + 1 ≤ d) : ∀ (n : Nat) (v1 : Int32) (v2 : Int32) (v3 : Int32) (I : hI) (J : hJ) (B : Bool × Bool) (q : Int32) (h : mPl_sureStates_L4 n v1 v2 v3 I J = some q), AW hFT cX5_sureStates 4 (some .int) RX5 kdC d [(0, .ref 13), (1, .int v1), (2, .int v2), (3, .int v3)] 4 [] (I, J, RM B) (some (.int q)) (I, J, RM B)
  | 0, _, _, _, _, _, _, q, h => by cases h
  | n + 1, v1, v2, v3, I, J, B, q, h => sPl_sureStates_B4 d hd (mPl_sureStates_L4 n) (sPl_sureStates_L4 d hd n) v1 v2 v3 I J B q h
def mPl_sureStates  (v1 : Int32) (I : hI) (J : hJ) : Option (Int32) :=
  mPl_sureStates_L4 hF v1 (0 : Int32) (0 : Int32) I J
set_option maxHeartbeats 4000000 in
theorem sPl_sureStates (d : Nat) (hd : 2 + 1 ≤ d) (v1 : Int32) (I : hI) (J : hJ) (B : Bool × Bool) (q : Int32) (h : mPl_sureStates v1 I J = some q) : HMet hFT yX5_sureStates cX5_sureStates 4 (some .int) kdC d [.ref 13, .int v1] (I, J, RM B) (some (.int q)) (I, J, RM B) := by
  obtain ⟨d0, rfl, hd0⟩ := h_mono hd
  refine HMet.of (by decide) (Nat.le_of_ble_eq_true rfl) ?_
  show AW hFT cX5_sureStates 4 (some .int) RX5 kdC (d0 + 1) [(0, .ref 13), (1, .int v1)] 0 [] (I, J, RM B) (some (.int q)) (I, J, RM B)
  unfold mPl_sureStates at h
  refine a_iconst dX5_sureStates_0 ic_0 ?_
  refine a_istore_n (lv' := [(2, .int (0 : Int32)), (0, .ref 13), (1, .int v1)]) dX5_sureStates_1 rfl (by decide) rfl ?_
  refine a_iconst dX5_sureStates_2 ic_0 ?_
  refine a_istore_n (lv' := [(3, .int (0 : Int32)), (2, .int (0 : Int32)), (0, .ref 13), (1, .int v1)]) dX5_sureStates_3 rfl (by decide) rfl ?_
  refine a_sub (lv' := [(0, .ref 13), (1, .int v1), (2, .int (0 : Int32)), (3, .int (0 : Int32))]) [2, 3, 1, 0] rfl ?_
  exact sPl_sureStates_L4 (d0 + 1) (by omega) hF v1 (0 : Int32) (0 : Int32) I J B _ h
/-! CoinLoops$Plans.isPlaceLess(II)Z -/
theorem dX5_isPlaceLess_0 : decode cX5_isPlaceLess 0 = .ok (.iload_n 1, 1) := by decide +kernel
theorem dX5_isPlaceLess_1 : decode cX5_isPlaceLess 1 = .ok (.aload_n 0, 1) := by decide +kernel
theorem dX5_isPlaceLess_2 : decode cX5_isPlaceLess 2 = .ok (.getfield 9, 3) := by decide +kernel
theorem dX5_isPlaceLess_5 : decode cX5_isPlaceLess 5 = .ok (.arraylength, 1) := by decide +kernel
theorem dX5_isPlaceLess_6 : decode cX5_isPlaceLess 6 = .ok (.invokestatic 70, 3) := by decide +kernel
theorem dX5_isPlaceLess_9 : decode cX5_isPlaceLess 9 = .ok (.ifCond .ne 15, 3) := by decide +kernel
theorem dX5_isPlaceLess_12 : decode cX5_isPlaceLess 12 = .ok (.iload_n 2, 1) := by decide +kernel
theorem dX5_isPlaceLess_13 : decode cX5_isPlaceLess 13 = .ok (.aload_n 0, 1) := by decide +kernel
theorem dX5_isPlaceLess_14 : decode cX5_isPlaceLess 14 = .ok (.getfield 9, 3) := by decide +kernel
theorem dX5_isPlaceLess_17 : decode cX5_isPlaceLess 17 = .ok (.arraylength, 1) := by decide +kernel
theorem dX5_isPlaceLess_18 : decode cX5_isPlaceLess 18 = .ok (.invokestatic 70, 3) := by decide +kernel
theorem dX5_isPlaceLess_21 : decode cX5_isPlaceLess 21 = .ok (.ifCond .eq 5, 3) := by decide +kernel
theorem dX5_isPlaceLess_24 : decode cX5_isPlaceLess 24 = .ok (.iconst 0, 1) := by decide +kernel
theorem dX5_isPlaceLess_25 : decode cX5_isPlaceLess 25 = .ok (.ireturn, 1) := by decide +kernel
theorem dX5_isPlaceLess_26 : decode cX5_isPlaceLess 26 = .ok (.aload_n 0, 1) := by decide +kernel
theorem dX5_isPlaceLess_27 : decode cX5_isPlaceLess 27 = .ok (.getfield 9, 3) := by decide +kernel
theorem dX5_isPlaceLess_30 : decode cX5_isPlaceLess 30 = .ok (.iload_n 1, 1) := by decide +kernel
theorem dX5_isPlaceLess_31 : decode cX5_isPlaceLess 31 = .ok (.laload, 1) := by decide +kernel
theorem dX5_isPlaceLess_32 : decode cX5_isPlaceLess 32 = .ok (.aload_n 0, 1) := by decide +kernel
theorem dX5_isPlaceLess_33 : decode cX5_isPlaceLess 33 = .ok (.getfield 15, 3) := by decide +kernel
theorem dX5_isPlaceLess_36 : decode cX5_isPlaceLess 36 = .ok (.iload_n 2, 1) := by decide +kernel
theorem dX5_isPlaceLess_37 : decode cX5_isPlaceLess 37 = .ok (.laload, 1) := by decide +kernel
theorem dX5_isPlaceLess_38 : decode cX5_isPlaceLess 38 = .ok (.lmul, 1) := by decide +kernel
theorem dX5_isPlaceLess_39 : decode cX5_isPlaceLess 39 = .ok (.aload_n 0, 1) := by decide +kernel
theorem dX5_isPlaceLess_40 : decode cX5_isPlaceLess 40 = .ok (.getfield 9, 3) := by decide +kernel
theorem dX5_isPlaceLess_43 : decode cX5_isPlaceLess 43 = .ok (.iload_n 2, 1) := by decide +kernel
theorem dX5_isPlaceLess_44 : decode cX5_isPlaceLess 44 = .ok (.laload, 1) := by decide +kernel
theorem dX5_isPlaceLess_45 : decode cX5_isPlaceLess 45 = .ok (.aload_n 0, 1) := by decide +kernel
theorem dX5_isPlaceLess_46 : decode cX5_isPlaceLess 46 = .ok (.getfield 15, 3) := by decide +kernel
theorem dX5_isPlaceLess_49 : decode cX5_isPlaceLess 49 = .ok (.iload_n 1, 1) := by decide +kernel
theorem dX5_isPlaceLess_50 : decode cX5_isPlaceLess 50 = .ok (.laload, 1) := by decide +kernel
theorem dX5_isPlaceLess_51 : decode cX5_isPlaceLess 51 = .ok (.lmul, 1) := by decide +kernel
theorem dX5_isPlaceLess_52 : decode cX5_isPlaceLess 52 = .ok (.lcmp, 1) := by decide +kernel
theorem dX5_isPlaceLess_53 : decode cX5_isPlaceLess 53 = .ok (.ifCond .ge 7, 3) := by decide +kernel
theorem dX5_isPlaceLess_56 : decode cX5_isPlaceLess 56 = .ok (.iconst 1, 1) := by decide +kernel
theorem dX5_isPlaceLess_57 : decode cX5_isPlaceLess 57 = .ok (.goto 4, 3) := by decide +kernel
theorem dX5_isPlaceLess_60 : decode cX5_isPlaceLess 60 = .ok (.iconst 0, 1) := by decide +kernel
theorem dX5_isPlaceLess_61 : decode cX5_isPlaceLess 61 = .ok (.ireturn, 1) := by decide +kernel
def mPl_isPlaceLess  (v1 : Int32) (v2 : Int32) (J : hJ) : Option (Int32) :=
  if (mC_isOutside v1 (40 : Int32)) = 0 then
    (if (mC_isOutside v2 (40 : Int32)) = 0 then
      (h_g (h_in v1 40) <|
      h_g (h_in v2 40) <|
      h_g (h_in v2 40) <|
      h_g (h_in v1 40) <|
      if ((J 14 v2.toNatClampNeg) * (J 15 v1.toNatClampNeg)) ≤ ((J 14 v1.toNatClampNeg) * (J 15 v2.toNatClampNeg)) then
        some (0 : Int32)
      else
        some (1 : Int32))
    else
      some (0 : Int32))
  else
    some (0 : Int32)
set_option maxHeartbeats 4000000 in
theorem sPl_isPlaceLess (d : Nat) (hd : 0 + 1 ≤ d) (v1 : Int32) (v2 : Int32) (I : hI) (J : hJ) (B : Bool × Bool) (q : Int32) (h : mPl_isPlaceLess v1 v2 J = some q) : HMet hFT yX5_isPlaceLess cX5_isPlaceLess 3 (some .boolean) kdC d [.ref 13, .int v1, .int v2] (I, J, RM B) (some (.int q)) (I, J, RM B) := by
  obtain ⟨d0, rfl, hd0⟩ := h_mono hd
  refine HMet.of (by decide) (Nat.le_of_ble_eq_true rfl) ?_
  show AW hFT cX5_isPlaceLess 3 (some .boolean) RX5 kdC (d0 + 1) [(0, .ref 13), (1, .int v1), (2, .int v2)] 0 [] (I, J, RM B) (some (.int q)) (I, J, RM B)
  unfold mPl_isPlaceLess at h
  refine a_iload_n dX5_isPlaceLess_0 rfl rfl ?_
  refine a_aload_n dX5_isPlaceLess_1 rfl rfl ?_
  refine b_getR hK_5 kc_13 (i := 2) rfl fl_5_9 rfl (rm_13_2 B) dX5_isPlaceLess_2 ?_
  refine a_alen1 kc_14 (v := 40) (by decide) dX5_isPlaceLess_5 ?_
  refine a_callSN1 [] yy_X10_isOutside ml_5_70 (sC_isOutside _ (by omega) v1 (40 : Int32) I J B _ rfl) rfl rfl (Nat.le_of_ble_eq_true rfl) dX5_isPlaceLess_6 ?_
  refine a_if_ne (tgt := 24) dX5_isPlaceLess_9 (by decide) (fun c => ?_) (fun c => ?_)
  · replace h := h_iteF c h
    refine a_iconst dX5_isPlaceLess_24 ic_0 ?_
    cases h
    exact a_zret (h_Z0.1) dX5_isPlaceLess_25
  · replace h := h_iteT c h
    refine a_iload_n dX5_isPlaceLess_12 rfl rfl ?_
    refine a_aload_n dX5_isPlaceLess_13 rfl rfl ?_
    refine b_getR hK_5 kc_13 (i := 2) rfl fl_5_9 rfl (rm_13_2 B) dX5_isPlaceLess_14 ?_
    refine a_alen1 kc_14 (v := 40) (by decide) dX5_isPlaceLess_17 ?_
    refine a_callSN1 [] yy_X10_isOutside ml_5_70 (sC_isOutside _ (by omega) v2 (40 : Int32) I J B _ rfl) rfl rfl (Nat.le_of_ble_eq_true rfl) dX5_isPlaceLess_18 ?_
    refine a_if_eq (tgt := 26) dX5_isPlaceLess_21 (by decide) (fun c => ?_) (fun c => ?_)
    · replace h := h_iteT c h
      refine a_aload_n dX5_isPlaceLess_26 rfl rfl ?_
      refine b_getR hK_5 kc_13 (i := 2) rfl fl_5_9 rfl (rm_13_2 B) dX5_isPlaceLess_27 ?_
      refine a_iload_n dX5_isPlaceLess_30 rfl rfl ?_
      obtain ⟨g1, h⟩ := h_gS h
      refine b_laload kc_14 (h_inV g1) dX5_isPlaceLess_31 ?_
      refine a_aload_n dX5_isPlaceLess_32 rfl rfl ?_
      refine b_getR hK_5 kc_13 (i := 3) rfl fl_5_15 rfl (rm_13_3 B) dX5_isPlaceLess_33 ?_
      refine a_iload_n dX5_isPlaceLess_36 rfl rfl ?_
      obtain ⟨g2, h⟩ := h_gS h
      refine b_laload kc_15 (h_inV g2) dX5_isPlaceLess_37 ?_
      refine a_lmul dX5_isPlaceLess_38 ?_
      refine a_aload_n dX5_isPlaceLess_39 rfl rfl ?_
      refine b_getR hK_5 kc_13 (i := 2) rfl fl_5_9 rfl (rm_13_2 B) dX5_isPlaceLess_40 ?_
      refine a_iload_n dX5_isPlaceLess_43 rfl rfl ?_
      obtain ⟨g3, h⟩ := h_gS h
      refine b_laload kc_14 (h_inV g3) dX5_isPlaceLess_44 ?_
      refine a_aload_n dX5_isPlaceLess_45 rfl rfl ?_
      refine b_getR hK_5 kc_13 (i := 3) rfl fl_5_15 rfl (rm_13_3 B) dX5_isPlaceLess_46 ?_
      refine a_iload_n dX5_isPlaceLess_49 rfl rfl ?_
      obtain ⟨g4, h⟩ := h_gS h
      refine b_laload kc_15 (h_inV g4) dX5_isPlaceLess_50 ?_
      refine a_lmul dX5_isPlaceLess_51 ?_
      refine a_lcmp_ge (tgt := 60) dX5_isPlaceLess_52 dX5_isPlaceLess_53 (by decide) (fun c => ?_) (fun c => ?_)
      · replace h := h_iteT c h
        refine a_iconst dX5_isPlaceLess_60 ic_0 ?_
        cases h
        exact a_zret (h_Z0.1) dX5_isPlaceLess_61
      · replace h := h_iteF c h
        refine a_iconst dX5_isPlaceLess_56 ic_1 ?_
        refine a_goto (tgt := 61) dX5_isPlaceLess_57 (by decide) ?_
        cases h
        exact a_zret (h_Z1.1) dX5_isPlaceLess_61
    · replace h := h_iteF c h
      refine a_iconst dX5_isPlaceLess_24 ic_0 ?_
      cases h
      exact a_zret (h_Z0.1) dX5_isPlaceLess_25
/-! CoinLoops$Plans.outermost(IZ)I -/
theorem dX5_outermost_0 : decode cX5_outermost 0 = .ok (.iconst (-1), 1) := by decide +kernel
theorem dX5_outermost_1 : decode cX5_outermost 1 = .ok (.istore_n 3, 1) := by decide +kernel
theorem dX5_outermost_2 : decode cX5_outermost 2 = .ok (.iconst 0, 1) := by decide +kernel
theorem dX5_outermost_3 : decode cX5_outermost 3 = .ok (.istore 4, 2) := by decide +kernel
theorem dX5_outermost_5 : decode cX5_outermost 5 = .ok (.iload 4, 2) := by decide +kernel
theorem dX5_outermost_7 : decode cX5_outermost 7 = .ok (.aload_n 0, 1) := by decide +kernel
theorem dX5_outermost_8 : decode cX5_outermost 8 = .ok (.getfield 36, 3) := by decide +kernel
theorem dX5_outermost_11 : decode cX5_outermost 11 = .ok (.getfield 63, 3) := by decide +kernel
theorem dX5_outermost_14 : decode cX5_outermost 14 = .ok (.if_icmp .ge 75, 3) := by decide +kernel
theorem dX5_outermost_17 : decode cX5_outermost 17 = .ok (.aload_n 0, 1) := by decide +kernel
theorem dX5_outermost_18 : decode cX5_outermost 18 = .ok (.getfield 36, 3) := by decide +kernel
theorem dX5_outermost_21 : decode cX5_outermost 21 = .ok (.iload 4, 2) := by decide +kernel
theorem dX5_outermost_23 : decode cX5_outermost 23 = .ok (.invokevirtual 88, 3) := by decide +kernel
theorem dX5_outermost_26 : decode cX5_outermost 26 = .ok (.ifCond .eq 57, 3) := by decide +kernel
theorem dX5_outermost_29 : decode cX5_outermost 29 = .ok (.iload_n 1, 1) := by decide +kernel
theorem dX5_outermost_30 : decode cX5_outermost 30 = .ok (.bipush 10, 2) := by decide +kernel
theorem dX5_outermost_32 : decode cX5_outermost 32 = .ok (.imul, 1) := by decide +kernel
theorem dX5_outermost_33 : decode cX5_outermost 33 = .ok (.iload 4, 2) := by decide +kernel
theorem dX5_outermost_35 : decode cX5_outermost 35 = .ok (.iadd, 1) := by decide +kernel
theorem dX5_outermost_36 : decode cX5_outermost 36 = .ok (.istore 5, 2) := by decide +kernel
theorem dX5_outermost_38 : decode cX5_outermost 38 = .ok (.iload_n 1, 1) := by decide +kernel
theorem dX5_outermost_39 : decode cX5_outermost 39 = .ok (.bipush 10, 2) := by decide +kernel
theorem dX5_outermost_41 : decode cX5_outermost 41 = .ok (.imul, 1) := by decide +kernel
theorem dX5_outermost_42 : decode cX5_outermost 42 = .ok (.iload_n 3, 1) := by decide +kernel
theorem dX5_outermost_43 : decode cX5_outermost 43 = .ok (.iadd, 1) := by decide +kernel
theorem dX5_outermost_44 : decode cX5_outermost 44 = .ok (.istore 6, 2) := by decide +kernel
theorem dX5_outermost_46 : decode cX5_outermost 46 = .ok (.iload_n 3, 1) := by decide +kernel
theorem dX5_outermost_47 : decode cX5_outermost 47 = .ok (.iconst (-1), 1) := by decide +kernel
theorem dX5_outermost_48 : decode cX5_outermost 48 = .ok (.if_icmp .eq 32, 3) := by decide +kernel
theorem dX5_outermost_51 : decode cX5_outermost 51 = .ok (.iload_n 2, 1) := by decide +kernel
theorem dX5_outermost_52 : decode cX5_outermost 52 = .ok (.ifCond .eq 17, 3) := by decide +kernel
theorem dX5_outermost_55 : decode cX5_outermost 55 = .ok (.aload_n 0, 1) := by decide +kernel
theorem dX5_outermost_56 : decode cX5_outermost 56 = .ok (.iload 6, 2) := by decide +kernel
theorem dX5_outermost_58 : decode cX5_outermost 58 = .ok (.iload 5, 2) := by decide +kernel
theorem dX5_outermost_60 : decode cX5_outermost 60 = .ok (.invokevirtual 92, 3) := by decide +kernel
theorem dX5_outermost_63 : decode cX5_outermost 63 = .ok (.ifCond .eq 20, 3) := by decide +kernel
theorem dX5_outermost_66 : decode cX5_outermost 66 = .ok (.goto 14, 3) := by decide +kernel
theorem dX5_outermost_69 : decode cX5_outermost 69 = .ok (.aload_n 0, 1) := by decide +kernel
theorem dX5_outermost_70 : decode cX5_outermost 70 = .ok (.iload 5, 2) := by decide +kernel
theorem dX5_outermost_72 : decode cX5_outermost 72 = .ok (.iload 6, 2) := by decide +kernel
theorem dX5_outermost_74 : decode cX5_outermost 74 = .ok (.invokevirtual 92, 3) := by decide +kernel
theorem dX5_outermost_77 : decode cX5_outermost 77 = .ok (.ifCond .eq 6, 3) := by decide +kernel
theorem dX5_outermost_80 : decode cX5_outermost 80 = .ok (.iload 4, 2) := by decide +kernel
theorem dX5_outermost_82 : decode cX5_outermost 82 = .ok (.istore_n 3, 1) := by decide +kernel
theorem dX5_outermost_83 : decode cX5_outermost 83 = .ok (.iinc 4 1, 3) := by decide +kernel
theorem dX5_outermost_86 : decode cX5_outermost 86 = .ok (.goto (-81), 3) := by decide +kernel
theorem dX5_outermost_89 : decode cX5_outermost 89 = .ok (.iload_n 3, 1) := by decide +kernel
theorem dX5_outermost_90 : decode cX5_outermost 90 = .ok (.ireturn, 1) := by decide +kernel
def mPl_outermost_B5 (k5 : Int32 → Int32 → Int32 → Int32 → hI → hJ → Option (Int32)) (v1 : Int32) (v2 : Int32) (v3 : Int32) (v4 : Int32) (I : hI) (J : hJ) : Option (Int32) :=
  if (I 7 5) ≤ v4 then
    some v3
  else
    (if (mRo_isIn v4 I) = 0 then
      k5 v1 v2 v3 (v4 + (1 : Int32)) I J
    else
      (h_let ((v1 * (10 : Int32)) + v4) fun v5x0 =>
      h_let ((v1 * (10 : Int32)) + v3) fun v6x1 =>
      if v3 = (-1 : Int32) then
        k5 v1 v2 v4 (v4 + (1 : Int32)) I J
      else
        (if v2 = 0 then
          ((mPl_isPlaceLess v5x0 v6x1 J).bind fun q3 =>
          if q3 = 0 then
            k5 v1 v2 v3 (v4 + (1 : Int32)) I J
          else
            k5 v1 v2 v4 (v4 + (1 : Int32)) I J)
        else
          ((mPl_isPlaceLess v6x1 v5x0 J).bind fun q3 =>
          if q3 = 0 then
            k5 v1 v2 v3 (v4 + (1 : Int32)) I J
          else
            k5 v1 v2 v4 (v4 + (1 : Int32)) I J))))
set_option maxHeartbeats 4000000 in
theorem sPl_outermost_B5 (d : Nat) (hd : 1 + 1 ≤ d) (k5 : Int32 → Int32 → Int32 → Int32 → hI → hJ → Option (Int32)) (hk5 : ∀ (v1 : Int32) (v2 : Int32) (v3 : Int32) (v4 : Int32) (I : hI) (J : hJ) (B : Bool × Bool) (q : Int32), k5 v1 v2 v3 v4 I J = some q → AW hFT cX5_outermost 7 (some .int) RX5 kdC d [(0, .ref 13), (1, .int v1), (2, .int v2), (3, .int v3), (4, .int v4)] 5 [] (I, J, RM B) (some (.int q)) (I, J, RM B)) (v1 : Int32) (v2 : Int32) (v3 : Int32) (v4 : Int32) (I : hI) (J : hJ) (B : Bool × Bool) (q : Int32) (h : mPl_outermost_B5 k5 v1 v2 v3 v4 I J = some q) : AW hFT cX5_outermost 7 (some .int) RX5 kdC d [(0, .ref 13), (1, .int v1), (2, .int v2), (3, .int v3), (4, .int v4)] 5 [] (I, J, RM B) (some (.int q)) (I, J, RM B) := by
  obtain ⟨d0, rfl, hd0⟩ := h_mono hd
  unfold mPl_outermost_B5 at h
  refine a_iload dX5_outermost_5 rfl ?_
  refine a_aload_n dX5_outermost_7 rfl rfl ?_
  refine b_getR hK_5 kc_13 (i := 0) rfl fl_5_36 rfl (rm_13_0 B) dX5_outermost_8 ?_
  refine b_getI hK_7 kc_7 (i := 5) rfl fl_5_63 rfl dX5_outermost_11 ?_
  refine a_icmp_ge (tgt := 89) dX5_outermost_14 (by decide) (fun c => ?_) (fun c => ?_)
  · replace h := h_iteT c h
    refine a_iload_n dX5_outermost_89 rfl rfl ?_
    cases h
    exact a_iret dX5_outermost_90
  · replace h := h_iteF c h
    refine a_aload_n dX5_outermost_17 rfl rfl ?_
    refine b_getR hK_5 kc_13 (i := 0) rfl fl_5_36 rfl (rm_13_0 B) dX5_outermost_18 ?_
    refine a_iload dX5_outermost_21 rfl ?_
    refine a_callV1 [] yy_X7_isIn ml_5_88 kc_7 rfl (sRo_isIn _ (by omega) v4 I J B _ rfl) rfl rfl (Nat.le_of_ble_eq_true rfl) dX5_outermost_23 ?_
    refine a_if_eq (tgt := 83) dX5_outermost_26 (by decide) (fun c => ?_) (fun c => ?_)
    · replace h := h_iteT c h
      refine b_iinc (lv' := [(4, .int (v4 + (1 : Int32))), (0, .ref 13), (1, .int v1), (2, .int v2), (3, .int v3)]) dX5_outermost_83 rfl ic_1 (by decide) rfl ?_
      refine a_goto (tgt := 5) dX5_outermost_86 (by decide) ?_
      refine a_sub (lv' := [(0, .ref 13), (1, .int v1), (2, .int v2), (3, .int v3), (4, .int (v4 + (1 : Int32)))]) [1, 2, 3, 4, 0] rfl ?_
      exact hk5 v1 v2 v3 (v4 + (1 : Int32)) I J B _ h
    · replace h := h_iteF c h
      refine a_iload_n dX5_outermost_29 rfl rfl ?_
      refine a_bipush dX5_outermost_30 bp_10 ?_
      refine a_imul dX5_outermost_32 ?_
      refine a_iload dX5_outermost_33 rfl ?_
      refine a_iadd dX5_outermost_35 ?_
      obtain ⟨v5x0, ev5x0, h⟩ := h_letS h
      refine a_topI ev5x0 ?_
      refine a_istore (lv' := [(5, .int v5x0), (0, .ref 13), (1, .int v1), (2, .int v2), (3, .int v3), (4, .int v4)]) dX5_outermost_36 (by decide) rfl ?_
      refine a_iload_n dX5_outermost_38 rfl rfl ?_
      refine a_bipush dX5_outermost_39 bp_10 ?_
      refine a_imul dX5_outermost_41 ?_
      refine a_iload_n dX5_outermost_42 rfl rfl ?_
      refine a_iadd dX5_outermost_43 ?_
      obtain ⟨v6x1, ev6x1, h⟩ := h_letS h
      refine a_topI ev6x1 ?_
      refine a_istore (lv' := [(6, .int v6x1), (5, .int v5x0), (0, .ref 13), (1, .int v1), (2, .int v2), (3, .int v3), (4, .int v4)]) dX5_outermost_44 (by decide) rfl ?_
      refine a_iload_n dX5_outermost_46 rfl rfl ?_
      refine a_iconst dX5_outermost_47 ic_m1 ?_
      refine a_icmp_eq (tgt := 80) dX5_outermost_48 (by decide) (fun c => ?_) (fun c => ?_)
      · replace h := h_iteT c h
        refine a_iload dX5_outermost_80 rfl ?_
        refine a_istore_n (lv' := [(3, .int v4), (6, .int v6x1), (5, .int v5x0), (0, .ref 13), (1, .int v1), (2, .int v2), (4, .int v4)]) dX5_outermost_82 rfl (by decide) rfl ?_
        refine b_iinc (lv' := [(4, .int (v4 + (1 : Int32))), (3, .int v4), (6, .int v6x1), (5, .int v5x0), (0, .ref 13), (1, .int v1), (2, .int v2)]) dX5_outermost_83 rfl ic_1 (by decide) rfl ?_
        refine a_goto (tgt := 5) dX5_outermost_86 (by decide) ?_
        refine a_sub (lv' := [(0, .ref 13), (1, .int v1), (2, .int v2), (3, .int v4), (4, .int (v4 + (1 : Int32)))]) [4, 5, 6, 1, 0] rfl ?_
        exact hk5 v1 v2 v4 (v4 + (1 : Int32)) I J B _ h
      · replace h := h_iteF c h
        refine a_iload_n dX5_outermost_51 rfl rfl ?_
        refine a_if_eq (tgt := 69) dX5_outermost_52 (by decide) (fun c => ?_) (fun c => ?_)
        · replace h := h_iteT c h
          refine a_aload_n dX5_outermost_69 rfl rfl ?_
          refine a_iload dX5_outermost_70 rfl ?_
          refine a_iload dX5_outermost_72 rfl ?_
          obtain ⟨q3, cq3, h⟩ := h_bindS h
          refine a_callV1 [] yy_X5_isPlaceLess ml_5_92 kc_13 rfl (sPl_isPlaceLess _ (by omega) v5x0 v6x1 I J B q3 cq3) rfl rfl (Nat.le_of_ble_eq_true rfl) dX5_outermost_74 ?_
          refine a_if_eq (tgt := 83) dX5_outermost_77 (by decide) (fun c => ?_) (fun c => ?_)
          · replace h := h_iteT c h
            refine b_iinc (lv' := [(4, .int (v4 + (1 : Int32))), (6, .int v6x1), (5, .int v5x0), (0, .ref 13), (1, .int v1), (2, .int v2), (3, .int v3)]) dX5_outermost_83 rfl ic_1 (by decide) rfl ?_
            refine a_goto (tgt := 5) dX5_outermost_86 (by decide) ?_
            refine a_sub (lv' := [(0, .ref 13), (1, .int v1), (2, .int v2), (3, .int v3), (4, .int (v4 + (1 : Int32)))]) [3, 4, 5, 6, 0] rfl ?_
            exact hk5 v1 v2 v3 (v4 + (1 : Int32)) I J B _ h
          · replace h := h_iteF c h
            refine a_iload dX5_outermost_80 rfl ?_
            refine a_istore_n (lv' := [(3, .int v4), (6, .int v6x1), (5, .int v5x0), (0, .ref 13), (1, .int v1), (2, .int v2), (4, .int v4)]) dX5_outermost_82 rfl (by decide) rfl ?_
            refine b_iinc (lv' := [(4, .int (v4 + (1 : Int32))), (3, .int v4), (6, .int v6x1), (5, .int v5x0), (0, .ref 13), (1, .int v1), (2, .int v2)]) dX5_outermost_83 rfl ic_1 (by decide) rfl ?_
            refine a_goto (tgt := 5) dX5_outermost_86 (by decide) ?_
            refine a_sub (lv' := [(0, .ref 13), (1, .int v1), (2, .int v2), (3, .int v4), (4, .int (v4 + (1 : Int32)))]) [4, 5, 6, 1, 0] rfl ?_
            exact hk5 v1 v2 v4 (v4 + (1 : Int32)) I J B _ h
        · replace h := h_iteF c h
          refine a_aload_n dX5_outermost_55 rfl rfl ?_
          refine a_iload dX5_outermost_56 rfl ?_
          refine a_iload dX5_outermost_58 rfl ?_
          obtain ⟨q3, cq3, h⟩ := h_bindS h
          refine a_callV1 [] yy_X5_isPlaceLess ml_5_92 kc_13 rfl (sPl_isPlaceLess _ (by omega) v6x1 v5x0 I J B q3 cq3) rfl rfl (Nat.le_of_ble_eq_true rfl) dX5_outermost_60 ?_
          refine a_if_eq (tgt := 83) dX5_outermost_63 (by decide) (fun c => ?_) (fun c => ?_)
          · replace h := h_iteT c h
            refine b_iinc (lv' := [(4, .int (v4 + (1 : Int32))), (6, .int v6x1), (5, .int v5x0), (0, .ref 13), (1, .int v1), (2, .int v2), (3, .int v3)]) dX5_outermost_83 rfl ic_1 (by decide) rfl ?_
            refine a_goto (tgt := 5) dX5_outermost_86 (by decide) ?_
            refine a_sub (lv' := [(0, .ref 13), (1, .int v1), (2, .int v2), (3, .int v3), (4, .int (v4 + (1 : Int32)))]) [3, 4, 5, 6, 0] rfl ?_
            exact hk5 v1 v2 v3 (v4 + (1 : Int32)) I J B _ h
          · replace h := h_iteF c h
            refine a_goto (tgt := 80) dX5_outermost_66 (by decide) ?_
            refine a_iload dX5_outermost_80 rfl ?_
            refine a_istore_n (lv' := [(3, .int v4), (6, .int v6x1), (5, .int v5x0), (0, .ref 13), (1, .int v1), (2, .int v2), (4, .int v4)]) dX5_outermost_82 rfl (by decide) rfl ?_
            refine b_iinc (lv' := [(4, .int (v4 + (1 : Int32))), (3, .int v4), (6, .int v6x1), (5, .int v5x0), (0, .ref 13), (1, .int v1), (2, .int v2)]) dX5_outermost_83 rfl ic_1 (by decide) rfl ?_
            refine a_goto (tgt := 5) dX5_outermost_86 (by decide) ?_
            refine a_sub (lv' := [(0, .ref 13), (1, .int v1), (2, .int v2), (3, .int v4), (4, .int (v4 + (1 : Int32)))]) [4, 5, 6, 1, 0] rfl ?_
            exact hk5 v1 v2 v4 (v4 + (1 : Int32)) I J B _ h
def mPl_outermost_L5  : Nat → Int32 → Int32 → Int32 → Int32 → hI → hJ → Option (Int32)
  | 0 => fun _ _ _ _ _ _ => none
  | n + 1 => mPl_outermost_B5 (mPl_outermost_L5 n)
theorem sPl_outermost_L5 (d : Nat) (hd : 1 + 1 ≤ d) : ∀ (n : Nat) (v1 : Int32) (v2 : Int32) (v3 : Int32) (v4 : Int32) (I : hI) (J : hJ) (B : Bool × Bool) (q : Int32) (h : mPl_outermost_L5 n v1 v2 v3 v4 I J = some q), AW hFT cX5_outermost 7 (some .int) RX5 kdC d [(0, .ref 13), (1, .int v1), (2, .int v2), (3, .int v3), (4, .int v4)] 5 [] (I, J, RM B) (some (.int q)) (I, J, RM B)
  | 0, _, _, _, _, _, _, _, q, h => by cases h
  | n + 1, v1, v2, v3, v4, I, J, B, q, h => sPl_outermost_B5 d hd (mPl_outermost_L5 n) (sPl_outermost_L5 d hd n) v1 v2 v3 v4 I J B q h
def mPl_outermost  (v1 : Int32) (v2 : Int32) (I : hI) (J : hJ) : Option (Int32) :=
  mPl_outermost_L5 hF v1 v2 (-1 : Int32) (0 : Int32) I J
set_option maxHeartbeats 4000000 in
theorem sPl_outermost (d : Nat) (hd : 1 + 1 ≤ d) (v1 : Int32) (v2 : Int32) (I : hI) (J : hJ) (B : Bool × Bool) (q : Int32) (h : mPl_outermost v1 v2 I J = some q) : HMet hFT yX5_outermost cX5_outermost 7 (some .int) kdC d [.ref 13, .int v1, .int v2] (I, J, RM B) (some (.int q)) (I, J, RM B) := by
  obtain ⟨d0, rfl, hd0⟩ := h_mono hd
  refine HMet.of (by decide) (Nat.le_of_ble_eq_true rfl) ?_
  show AW hFT cX5_outermost 7 (some .int) RX5 kdC (d0 + 1) [(0, .ref 13), (1, .int v1), (2, .int v2)] 0 [] (I, J, RM B) (some (.int q)) (I, J, RM B)
  unfold mPl_outermost at h
  refine a_iconst dX5_outermost_0 ic_m1 ?_
  refine a_istore_n (lv' := [(3, .int (-1 : Int32)), (0, .ref 13), (1, .int v1), (2, .int v2)]) dX5_outermost_1 rfl (by decide) rfl ?_
  refine a_iconst dX5_outermost_2 ic_0 ?_
  refine a_istore (lv' := [(4, .int (0 : Int32)), (3, .int (-1 : Int32)), (0, .ref 13), (1, .int v1), (2, .int v2)]) dX5_outermost_3 (by decide) rfl ?_
  refine a_sub (lv' := [(0, .ref 13), (1, .int v1), (2, .int v2), (3, .int (-1 : Int32)), (4, .int (0 : Int32))]) [2, 3, 4, 1, 0] rfl ?_
  exact sPl_outermost_L5 (d0 + 1) (by omega) hF v1 v2 (-1 : Int32) (0 : Int32) I J B _ h
/-! CoinLoops$Reader.append(I)Z -/
theorem dX6_append_0 : decode cX6_append 0 = .ok (.bipush 24, 2) := by decide +kernel
theorem dX6_append_2 : decode cX6_append 2 = .ok (.istore_n 2, 1) := by decide +kernel
theorem dX6_append_3 : decode cX6_append 3 = .ok (.iload_n 2, 1) := by decide +kernel
theorem dX6_append_4 : decode cX6_append 4 = .ok (.ifCond .lt 56, 3) := by decide +kernel
theorem dX6_append_7 : decode cX6_append 7 = .ok (.iload_n 1, 1) := by decide +kernel
theorem dX6_append_8 : decode cX6_append 8 = .ok (.iload_n 2, 1) := by decide +kernel
theorem dX6_append_9 : decode cX6_append 9 = .ok (.iushr, 1) := by decide +kernel
theorem dX6_append_10 : decode cX6_append 10 = .ok (.sipush 255, 3) := by decide +kernel
theorem dX6_append_13 : decode cX6_append 13 = .ok (.iand, 1) := by decide +kernel
theorem dX6_append_14 : decode cX6_append 14 = .ok (.istore_n 3, 1) := by decide +kernel
theorem dX6_append_15 : decode cX6_append 15 = .ok (.iload_n 3, 1) := by decide +kernel
theorem dX6_append_16 : decode cX6_append 16 = .ok (.ifCond .eq 38, 3) := by decide +kernel
theorem dX6_append_19 : decode cX6_append 19 = .ok (.aload_n 0, 1) := by decide +kernel
theorem dX6_append_20 : decode cX6_append 20 = .ok (.getfield 24, 3) := by decide +kernel
theorem dX6_append_23 : decode cX6_append 23 = .ok (.sipush 500, 3) := by decide +kernel
theorem dX6_append_26 : decode cX6_append 26 = .ok (.invokestatic 28, 3) := by decide +kernel
theorem dX6_append_29 : decode cX6_append 29 = .ok (.ifCond .eq 5, 3) := by decide +kernel
theorem dX6_append_32 : decode cX6_append 32 = .ok (.iconst 0, 1) := by decide +kernel
theorem dX6_append_33 : decode cX6_append 33 = .ok (.ireturn, 1) := by decide +kernel
theorem dX6_append_34 : decode cX6_append 34 = .ok (.aload_n 0, 1) := by decide +kernel
theorem dX6_append_35 : decode cX6_append 35 = .ok (.getfield 9, 3) := by decide +kernel
theorem dX6_append_38 : decode cX6_append 38 = .ok (.aload_n 0, 1) := by decide +kernel
theorem dX6_append_39 : decode cX6_append 39 = .ok (.getfield 24, 3) := by decide +kernel
theorem dX6_append_42 : decode cX6_append 42 = .ok (.iload_n 3, 1) := by decide +kernel
theorem dX6_append_43 : decode cX6_append 43 = .ok (.iastore, 1) := by decide +kernel
theorem dX6_append_44 : decode cX6_append 44 = .ok (.aload_n 0, 1) := by decide +kernel
theorem dX6_append_45 : decode cX6_append 45 = .ok (.dup, 1) := by decide +kernel
theorem dX6_append_46 : decode cX6_append 46 = .ok (.getfield 24, 3) := by decide +kernel
theorem dX6_append_49 : decode cX6_append 49 = .ok (.iconst 1, 1) := by decide +kernel
theorem dX6_append_50 : decode cX6_append 50 = .ok (.iadd, 1) := by decide +kernel
theorem dX6_append_51 : decode cX6_append 51 = .ok (.putfield 24, 3) := by decide +kernel
theorem dX6_append_54 : decode cX6_append 54 = .ok (.iinc 2 (-8), 3) := by decide +kernel
theorem dX6_append_57 : decode cX6_append 57 = .ok (.goto (-54), 3) := by decide +kernel
theorem dX6_append_60 : decode cX6_append 60 = .ok (.iconst 1, 1) := by decide +kernel
theorem dX6_append_61 : decode cX6_append 61 = .ok (.ireturn, 1) := by decide +kernel
def mRd_append_B3 (k3 : Int32 → Int32 → hI → Option (Int32 × hI)) (v1 : Int32) (v2 : Int32) (I : hI) : Option (Int32 × hI) :=
  if v2 < 0 then
    some ((1 : Int32), I)
  else
    (h_let (((v1.toUInt32 >>> (v2.toUInt32 &&& Int32.toUInt32 31)).toInt32) &&& (255 : Int32)) fun v3x0 =>
    if v3x0 = 0 then
      k3 v1 (v2 + (-8 : Int32)) I
    else
      (if (mC_isOutside (I 1 1) (500 : Int32)) = 0 then
        (h_g (h_in (I 1 1) 500) <|
        h_let (h_u I 2 (I 1 1).toNatClampNeg v3x0) fun I3 =>
        h_let (h_u I3 1 1 ((I3 1 1) + (1 : Int32))) fun I4 =>
        k3 v1 (v2 + (-8 : Int32)) I4)
      else
        some ((0 : Int32), I)))
set_option maxHeartbeats 4000000 in
theorem sRd_append_B3 (d : Nat) (hd : 0 + 1 ≤ d) (k3 : Int32 → Int32 → hI → Option (Int32 × hI)) (hk3 : ∀ (v1 : Int32) (v2 : Int32) (I : hI) (J : hJ) (B : Bool × Bool) (q : Int32 × hI), k3 v1 v2 I = some q → AW hFT cX6_append 4 (some .boolean) RX6 kdC d [(0, .ref 1), (1, .int v1), (2, .int v2)] 3 [] (I, J, RM B) (some (.int q.1)) (q.2, J, RM B)) (v1 : Int32) (v2 : Int32) (I : hI) (J : hJ) (B : Bool × Bool) (q : Int32 × hI) (h : mRd_append_B3 k3 v1 v2 I = some q) : AW hFT cX6_append 4 (some .boolean) RX6 kdC d [(0, .ref 1), (1, .int v1), (2, .int v2)] 3 [] (I, J, RM B) (some (.int q.1)) (q.2, J, RM B) := by
  obtain ⟨d0, rfl, hd0⟩ := h_mono hd
  unfold mRd_append_B3 at h
  refine a_iload_n dX6_append_3 rfl rfl ?_
  refine a_if_lt (tgt := 60) dX6_append_4 (by decide) (fun c => ?_) (fun c => ?_)
  · replace h := h_iteT c h
    refine a_iconst dX6_append_60 ic_1 ?_
    cases h
    exact a_zret (h_Z1.1) dX6_append_61
  · replace h := h_iteF c h
    refine a_iload_n dX6_append_7 rfl rfl ?_
    refine a_iload_n dX6_append_8 rfl rfl ?_
    refine a_iushr dX6_append_9 ?_
    refine a_sipush dX6_append_10 sq_255 ?_
    refine a_iand dX6_append_13 ?_
    obtain ⟨v3x0, ev3x0, h⟩ := h_letS h
    refine a_topI ev3x0 ?_
    refine a_istore_n (lv' := [(3, .int v3x0), (0, .ref 1), (1, .int v1), (2, .int v2)]) dX6_append_14 rfl (by decide) rfl ?_
    refine a_iload_n dX6_append_15 rfl rfl ?_
    refine a_if_eq (tgt := 54) dX6_append_16 (by decide) (fun c => ?_) (fun c => ?_)
    · replace h := h_iteT c h
      refine b_iinc (lv' := [(2, .int (v2 + (-8 : Int32))), (3, .int v3x0), (0, .ref 1), (1, .int v1)]) dX6_append_54 rfl ic_m8 (by decide) rfl ?_
      refine a_goto (tgt := 3) dX6_append_57 (by decide) ?_
      refine a_sub (lv' := [(0, .ref 1), (1, .int v1), (2, .int (v2 + (-8 : Int32)))]) [2, 3, 0] rfl ?_
      exact hk3 v1 (v2 + (-8 : Int32)) I J B _ h
    · replace h := h_iteF c h
      refine a_aload_n dX6_append_19 rfl rfl ?_
      refine b_getI hK_6 kc_1 (i := 1) rfl fl_6_24 rfl dX6_append_20 ?_
      refine a_sipush dX6_append_23 sq_500 ?_
      refine a_callSN1 [] yy_X10_isOutside ml_6_28 (sC_isOutside _ (by omega) (I 1 1) (500 : Int32) I J B _ rfl) rfl rfl (Nat.le_of_ble_eq_true rfl) dX6_append_26 ?_
      refine a_if_eq (tgt := 34) dX6_append_29 (by decide) (fun c => ?_) (fun c => ?_)
      · replace h := h_iteT c h
        refine a_aload_n dX6_append_34 rfl rfl ?_
        refine b_getR hK_6 kc_1 (i := 0) rfl fl_6_9 rfl (rm_1_0 B) dX6_append_35 ?_
        refine a_aload_n dX6_append_38 rfl rfl ?_
        refine b_getI hK_6 kc_1 (i := 1) rfl fl_6_24 rfl dX6_append_39 ?_
        refine a_iload_n dX6_append_42 rfl rfl ?_
        obtain ⟨g2, h⟩ := h_gS h
        refine b_iastore kc_2 (h_inV g2) dX6_append_43 ?_
        obtain ⟨I3, eI3, h⟩ := h_letS h
        refine a_memI eI3 ?_
        refine a_aload_n dX6_append_44 rfl rfl ?_
        refine a_dup dX6_append_45 rfl ?_
        refine b_getI hK_6 kc_1 (i := 1) rfl fl_6_24 rfl dX6_append_46 ?_
        refine a_iconst dX6_append_49 ic_1 ?_
        refine a_iadd dX6_append_50 ?_
        refine b_putI hK_6 kc_1 (i := 1) rfl fl_6_24 rfl rfl (h_NI _) dX6_append_51 ?_
        obtain ⟨I4, eI4, h⟩ := h_letS h
        refine a_memI eI4 ?_
        refine b_iinc (lv' := [(2, .int (v2 + (-8 : Int32))), (3, .int v3x0), (0, .ref 1), (1, .int v1)]) dX6_append_54 rfl ic_m8 (by decide) rfl ?_
        refine a_goto (tgt := 3) dX6_append_57 (by decide) ?_
        refine a_sub (lv' := [(0, .ref 1), (1, .int v1), (2, .int (v2 + (-8 : Int32)))]) [2, 3, 0] rfl ?_
        exact hk3 v1 (v2 + (-8 : Int32)) I4 J B _ h
      · replace h := h_iteF c h
        refine a_iconst dX6_append_32 ic_0 ?_
        cases h
        exact a_zret (h_Z0.1) dX6_append_33
def mRd_append_L3  : Nat → Int32 → Int32 → hI → Option (Int32 × hI)
  | 0 => fun _ _ _ => none
  | n + 1 => mRd_append_B3 (mRd_append_L3 n)
theorem sRd_append_L3 (d : Nat) (hd : 0 + 1 ≤ d) : ∀ (n : Nat) (v1 : Int32) (v2 : Int32) (I : hI) (J : hJ) (B : Bool × Bool) (q : Int32 × hI) (h : mRd_append_L3 n v1 v2 I = some q), AW hFT cX6_append 4 (some .boolean) RX6 kdC d [(0, .ref 1), (1, .int v1), (2, .int v2)] 3 [] (I, J, RM B) (some (.int q.1)) (q.2, J, RM B)
  | 0, _, _, _, _, _, q, h => by cases h
  | n + 1, v1, v2, I, J, B, q, h => sRd_append_B3 d hd (mRd_append_L3 n) (sRd_append_L3 d hd n) v1 v2 I J B q h
def mRd_append  (v1 : Int32) (I : hI) : Option (Int32 × hI) :=
  mRd_append_L3 hF v1 (24 : Int32) I
set_option maxHeartbeats 4000000 in
theorem sRd_append (d : Nat) (hd : 0 + 1 ≤ d) (v1 : Int32) (I : hI) (J : hJ) (B : Bool × Bool) (q : Int32 × hI) (h : mRd_append v1 I = some q) : HMet hFT yX6_append cX6_append 4 (some .boolean) kdC d [.ref 1, .int v1] (I, J, RM B) (some (.int q.1)) (q.2, J, RM B) := by
  obtain ⟨d0, rfl, hd0⟩ := h_mono hd
  refine HMet.of (by decide) (Nat.le_of_ble_eq_true rfl) ?_
  show AW hFT cX6_append 4 (some .boolean) RX6 kdC (d0 + 1) [(0, .ref 1), (1, .int v1)] 0 [] (I, J, RM B) (some (.int q.1)) (q.2, J, RM B)
  unfold mRd_append at h
  refine a_bipush dX6_append_0 bp_24 ?_
  refine a_istore_n (lv' := [(2, .int (24 : Int32)), (0, .ref 1), (1, .int v1)]) dX6_append_2 rfl (by decide) rfl ?_
  refine a_sub (lv' := [(0, .ref 1), (1, .int v1), (2, .int (24 : Int32))]) [1, 2, 0] rfl ?_
  exact sRd_append_L3 (d0 + 1) (by omega) hF v1 (24 : Int32) I J B _ h
/-! CoinLoops$Rounds.makeStates(LCoinLoops$LoopText;)V -/
theorem dX7_makeStates_0 : decode cX7_makeStates 0 = .ok (.aload_n 0, 1) := by decide +kernel
theorem dX7_makeStates_1 : decode cX7_makeStates 1 = .ok (.aload_n 1, 1) := by decide +kernel
theorem dX7_makeStates_2 : decode cX7_makeStates 2 = .ok (.getfield 27, 3) := by decide +kernel
theorem dX7_makeStates_5 : decode cX7_makeStates 5 = .ok (.putfield 33, 3) := by decide +kernel
theorem dX7_makeStates_8 : decode cX7_makeStates 8 = .ok (.aload_n 0, 1) := by decide +kernel
theorem dX7_makeStates_9 : decode cX7_makeStates 9 = .ok (.aload_n 1, 1) := by decide +kernel
theorem dX7_makeStates_10 : decode cX7_makeStates 10 = .ok (.getfield 34, 3) := by decide +kernel
theorem dX7_makeStates_13 : decode cX7_makeStates 13 = .ok (.putfield 37, 3) := by decide +kernel
theorem dX7_makeStates_16 : decode cX7_makeStates 16 = .ok (.aload_n 0, 1) := by decide +kernel
theorem dX7_makeStates_17 : decode cX7_makeStates 17 = .ok (.aload_n 0, 1) := by decide +kernel
theorem dX7_makeStates_18 : decode cX7_makeStates 18 = .ok (.getfield 33, 3) := by decide +kernel
theorem dX7_makeStates_21 : decode cX7_makeStates 21 = .ok (.iconst 1, 1) := by decide +kernel
theorem dX7_makeStates_22 : decode cX7_makeStates 22 = .ok (.iadd, 1) := by decide +kernel
theorem dX7_makeStates_23 : decode cX7_makeStates 23 = .ok (.aload_n 0, 1) := by decide +kernel
theorem dX7_makeStates_24 : decode cX7_makeStates 24 = .ok (.getfield 37, 3) := by decide +kernel
theorem dX7_makeStates_27 : decode cX7_makeStates 27 = .ok (.iconst 1, 1) := by decide +kernel
theorem dX7_makeStates_28 : decode cX7_makeStates 28 = .ok (.iadd, 1) := by decide +kernel
theorem dX7_makeStates_29 : decode cX7_makeStates 29 = .ok (.imul, 1) := by decide +kernel
theorem dX7_makeStates_30 : decode cX7_makeStates 30 = .ok (.bipush 10, 2) := by decide +kernel
theorem dX7_makeStates_32 : decode cX7_makeStates 32 = .ok (.invokestatic 38, 3) := by decide +kernel
theorem dX7_makeStates_35 : decode cX7_makeStates 35 = .ok (.putfield 44, 3) := by decide +kernel
theorem dX7_makeStates_38 : decode cX7_makeStates 38 = .ok (.aload_n 0, 1) := by decide +kernel
theorem dX7_makeStates_39 : decode cX7_makeStates 39 = .ok (.iconst 0, 1) := by decide +kernel
theorem dX7_makeStates_40 : decode cX7_makeStates 40 = .ok (.putfield 47, 3) := by decide +kernel
theorem dX7_makeStates_43 : decode cX7_makeStates 43 = .ok (.iconst 0, 1) := by decide +kernel
theorem dX7_makeStates_44 : decode cX7_makeStates 44 = .ok (.istore_n 2, 1) := by decide +kernel
theorem dX7_makeStates_45 : decode cX7_makeStates 45 = .ok (.iload_n 2, 1) := by decide +kernel
theorem dX7_makeStates_46 : decode cX7_makeStates 46 = .ok (.aload_n 0, 1) := by decide +kernel
theorem dX7_makeStates_47 : decode cX7_makeStates 47 = .ok (.getfield 44, 3) := by decide +kernel
theorem dX7_makeStates_50 : decode cX7_makeStates 50 = .ok (.if_icmp .ge 46, 3) := by decide +kernel
theorem dX7_makeStates_53 : decode cX7_makeStates 53 = .ok (.aload_n 1, 1) := by decide +kernel
theorem dX7_makeStates_54 : decode cX7_makeStates 54 = .ok (.getfield 50, 3) := by decide +kernel
theorem dX7_makeStates_57 : decode cX7_makeStates 57 = .ok (.iconst 0, 1) := by decide +kernel
theorem dX7_makeStates_58 : decode cX7_makeStates 58 = .ok (.aload_n 1, 1) := by decide +kernel
theorem dX7_makeStates_59 : decode cX7_makeStates 59 = .ok (.getfield 54, 3) := by decide +kernel
theorem dX7_makeStates_62 : decode cX7_makeStates 62 = .ok (.aload_n 0, 1) := by decide +kernel
theorem dX7_makeStates_63 : decode cX7_makeStates 63 = .ok (.iload_n 2, 1) := by decide +kernel
theorem dX7_makeStates_64 : decode cX7_makeStates 64 = .ok (.invokevirtual 57, 3) := by decide +kernel
theorem dX7_makeStates_67 : decode cX7_makeStates 67 = .ok (.aload_n 0, 1) := by decide +kernel
theorem dX7_makeStates_68 : decode cX7_makeStates 68 = .ok (.iload_n 2, 1) := by decide +kernel
theorem dX7_makeStates_69 : decode cX7_makeStates 69 = .ok (.invokevirtual 61, 3) := by decide +kernel
theorem dX7_makeStates_72 : decode cX7_makeStates 72 = .ok (.invokevirtual 64, 3) := by decide +kernel
theorem dX7_makeStates_75 : decode cX7_makeStates 75 = .ok (.ifCond .eq 15, 3) := by decide +kernel
theorem dX7_makeStates_78 : decode cX7_makeStates 78 = .ok (.aload_n 0, 1) := by decide +kernel
theorem dX7_makeStates_79 : decode cX7_makeStates 79 = .ok (.dup, 1) := by decide +kernel
theorem dX7_makeStates_80 : decode cX7_makeStates 80 = .ok (.getfield 47, 3) := by decide +kernel
theorem dX7_makeStates_83 : decode cX7_makeStates 83 = .ok (.iconst 1, 1) := by decide +kernel
theorem dX7_makeStates_84 : decode cX7_makeStates 84 = .ok (.iload_n 2, 1) := by decide +kernel
theorem dX7_makeStates_85 : decode cX7_makeStates 85 = .ok (.ishl, 1) := by decide +kernel
theorem dX7_makeStates_86 : decode cX7_makeStates 86 = .ok (.ior, 1) := by decide +kernel
theorem dX7_makeStates_87 : decode cX7_makeStates 87 = .ok (.putfield 47, 3) := by decide +kernel
theorem dX7_makeStates_90 : decode cX7_makeStates 90 = .ok (.iinc 2 1, 3) := by decide +kernel
theorem dX7_makeStates_93 : decode cX7_makeStates 93 = .ok (.goto (-48), 3) := by decide +kernel
theorem dX7_makeStates_96 : decode cX7_makeStates 96 = .ok (.return_, 1) := by decide +kernel
def mRo_makeStates_B45 (k45 : Nat → Int32 → hI → Option (hI)) (t1 : Nat) (v2 : Int32) (I : hI) : Option (hI) :=
  if (I 7 5) ≤ v2 then
    some I
  else
    ((mRo_xOf v2 I).bind fun q1 =>
    (mRo_yOf v2 I).bind fun q2 =>
    (mCd_hold (t1 + 1) (0 : Int32) (I t1 6) q1 q2 I).bind fun q3 =>
    if q3 = 0 then
      k45 t1 (v2 + (1 : Int32)) I
    else
      (h_let (h_u I 7 6 ((I 7 6) ||| ((1 : Int32) <<< (v2 &&& 31)))) fun I4 =>
      k45 t1 (v2 + (1 : Int32)) I4))
set_option maxHeartbeats 4000000 in
theorem sRo_makeStates_B45 (d : Nat) (hd : 1 + 1 ≤ d) (k45 : Nat → Int32 → hI → Option (hI)) (hk45 : ∀ (t1 : Nat) (ht1 : h_LT t1) (v2 : Int32) (I : hI) (J : hJ) (B : Bool × Bool) (q : hI), k45 t1 v2 I = some q → AW hFT cX7_makeStates 3 none RX7 kdC d [(0, .ref 7), (1, .ref t1), (2, .int v2)] 45 [] (I, J, RM B) none (q, J, RM B)) (t1 : Nat) (ht1 : h_LT t1) (v2 : Int32) (I : hI) (J : hJ) (B : Bool × Bool) (q : hI) (h : mRo_makeStates_B45 k45 t1 v2 I = some q) : AW hFT cX7_makeStates 3 none RX7 kdC d [(0, .ref 7), (1, .ref t1), (2, .int v2)] 45 [] (I, J, RM B) none (q, J, RM B) := by
  obtain ⟨d0, rfl, hd0⟩ := h_mono hd
  unfold mRo_makeStates_B45 at h
  refine a_iload_n dX7_makeStates_45 rfl rfl ?_
  refine a_aload_n dX7_makeStates_46 rfl rfl ?_
  refine b_getI hK_7 kc_7 (i := 5) rfl fl_7_44 rfl dX7_makeStates_47 ?_
  refine a_icmp_ge (tgt := 96) dX7_makeStates_50 (by decide) (fun c => ?_) (fun c => ?_)
  · replace h := h_iteT c h
    cases h
    exact a_vret dX7_makeStates_96
  · replace h := h_iteF c h
    refine a_aload_n dX7_makeStates_53 rfl rfl ?_
    refine b_getR hK_4 (k_LT ht1) (i := 0) rfl fl_7_50 rfl (rm_LT_0 B ht1) dX7_makeStates_54 ?_
    refine a_iconst dX7_makeStates_57 ic_0 ?_
    refine a_aload_n dX7_makeStates_58 rfl rfl ?_
    refine b_getI hK_4 (k_LT ht1) (i := 6) rfl fl_7_54 rfl dX7_makeStates_59 ?_
    refine a_aload_n dX7_makeStates_62 rfl rfl ?_
    refine a_iload_n dX7_makeStates_63 rfl rfl ?_
    obtain ⟨q1, cq1, h⟩ := h_bindS h
    refine a_callV1 [.int (I t1 6), .int (0 : Int32), .ref (t1 + 1)] yy_X7_xOf ml_7_57 kc_7 rfl (sRo_xOf _ (by omega) v2 I J B q1 cq1) rfl rfl (Nat.le_of_ble_eq_true rfl) dX7_makeStates_64 ?_
    refine a_aload_n dX7_makeStates_67 rfl rfl ?_
    refine a_iload_n dX7_makeStates_68 rfl rfl ?_
    obtain ⟨q2, cq2, h⟩ := h_bindS h
    refine a_callV1 [.int q1, .int (I t1 6), .int (0 : Int32), .ref (t1 + 1)] yy_X7_yOf ml_7_61 kc_7 rfl (sRo_yOf _ (by omega) v2 I J B q2 cq2) rfl rfl (Nat.le_of_ble_eq_true rfl) dX7_makeStates_69 ?_
    obtain ⟨q3, cq3, h⟩ := h_bindS h
    refine a_callV1 [] yy_X0_hold ml_7_64 (k_CD (cd_LT ht1)) rfl (sCd_hold _ (by omega) (t1 + 1) (cd_LT ht1) (0 : Int32) (I t1 6) q1 q2 I J B q3 cq3) rfl rfl (Nat.le_of_ble_eq_true rfl) dX7_makeStates_72 ?_
    refine a_if_eq (tgt := 90) dX7_makeStates_75 (by decide) (fun c => ?_) (fun c => ?_)
    · replace h := h_iteT c h
      refine b_iinc (lv' := [(2, .int (v2 + (1 : Int32))), (0, .ref 7), (1, .ref t1)]) dX7_makeStates_90 rfl ic_1 (by decide) rfl ?_
      refine a_goto (tgt := 45) dX7_makeStates_93 (by decide) ?_
      refine a_sub (lv' := [(0, .ref 7), (1, .ref t1), (2, .int (v2 + (1 : Int32)))]) [1, 2, 0] rfl ?_
      exact hk45 t1 ht1 (v2 + (1 : Int32)) I J B _ h
    · replace h := h_iteF c h
      refine a_aload_n dX7_makeStates_78 rfl rfl ?_
      refine a_dup dX7_makeStates_79 rfl ?_
      refine b_getI hK_7 kc_7 (i := 6) rfl fl_7_47 rfl dX7_makeStates_80 ?_
      refine a_iconst dX7_makeStates_83 ic_1 ?_
      refine a_iload_n dX7_makeStates_84 rfl rfl ?_
      refine a_ishl dX7_makeStates_85 ?_
      refine a_ior dX7_makeStates_86 ?_
      refine b_putI hK_7 kc_7 (i := 6) rfl fl_7_47 rfl rfl (h_NI _) dX7_makeStates_87 ?_
      obtain ⟨I4, eI4, h⟩ := h_letS h
      refine a_memI eI4 ?_
      refine b_iinc (lv' := [(2, .int (v2 + (1 : Int32))), (0, .ref 7), (1, .ref t1)]) dX7_makeStates_90 rfl ic_1 (by decide) rfl ?_
      refine a_goto (tgt := 45) dX7_makeStates_93 (by decide) ?_
      refine a_sub (lv' := [(0, .ref 7), (1, .ref t1), (2, .int (v2 + (1 : Int32)))]) [1, 2, 0] rfl ?_
      exact hk45 t1 ht1 (v2 + (1 : Int32)) I4 J B _ h
def mRo_makeStates_L45  : Nat → Nat → Int32 → hI → Option (hI)
  | 0 => fun _ _ _ => none
  | n + 1 => mRo_makeStates_B45 (mRo_makeStates_L45 n)
theorem sRo_makeStates_L45 (d : Nat) (hd : 1 + 1 ≤ d) : ∀ (n : Nat) (t1 : Nat) (ht1 : h_LT t1) (v2 : Int32) (I : hI) (J : hJ) (B : Bool × Bool) (q : hI) (h : mRo_makeStates_L45 n t1 v2 I = some q), AW hFT cX7_makeStates 3 none RX7 kdC d [(0, .ref 7), (1, .ref t1), (2, .int v2)] 45 [] (I, J, RM B) none (q, J, RM B)
  | 0, _, _, _, _, _, _, q, h => by cases h
  | n + 1, t1, ht1, v2, I, J, B, q, h => sRo_makeStates_B45 d hd (mRo_makeStates_L45 n) (sRo_makeStates_L45 d hd n) t1 ht1 v2 I J B q h
def mRo_makeStates  (t1 : Nat) (I : hI) : Option (hI) :=
  h_let (h_u I 7 7 (I t1 4)) fun I1 =>
  h_let (h_u I1 7 8 (I1 t1 5)) fun I2 =>
  h_let (h_u I2 7 5 (if (10 : Int32) < (((I2 7 7) + (1 : Int32)) * ((I2 7 8) + (1 : Int32))) then (10 : Int32) else (((I2 7 7) + (1 : Int32)) * ((I2 7 8) + (1 : Int32))))) fun I3 =>
  h_let (h_u I3 7 6 (0 : Int32)) fun I4 =>
  mRo_makeStates_L45 hF t1 (0 : Int32) I4
set_option maxHeartbeats 4000000 in
theorem sRo_makeStates (d : Nat) (hd : 1 + 1 ≤ d) (t1 : Nat) (ht1 : h_LT t1) (I : hI) (J : hJ) (B : Bool × Bool) (q : hI) (h : mRo_makeStates t1 I = some q) : HMet hFT yX7_makeStates cX7_makeStates 3 none kdC d [.ref 7, .ref t1] (I, J, RM B) none (q, J, RM B) := by
  obtain ⟨d0, rfl, hd0⟩ := h_mono hd
  refine HMet.of (by decide) (Nat.le_of_ble_eq_true rfl) ?_
  show AW hFT cX7_makeStates 3 none RX7 kdC (d0 + 1) [(0, .ref 7), (1, .ref t1)] 0 [] (I, J, RM B) none (q, J, RM B)
  unfold mRo_makeStates at h
  refine a_aload_n dX7_makeStates_0 rfl rfl ?_
  refine a_aload_n dX7_makeStates_1 rfl rfl ?_
  refine b_getI hK_4 (k_LT ht1) (i := 4) rfl fl_7_27 rfl dX7_makeStates_2 ?_
  refine b_putI hK_7 kc_7 (i := 7) rfl fl_7_33 rfl rfl (h_NI _) dX7_makeStates_5 ?_
  obtain ⟨I1, eI1, h⟩ := h_letS h
  refine a_memI eI1 ?_
  refine a_aload_n dX7_makeStates_8 rfl rfl ?_
  refine a_aload_n dX7_makeStates_9 rfl rfl ?_
  refine b_getI hK_4 (k_LT ht1) (i := 5) rfl fl_7_34 rfl dX7_makeStates_10 ?_
  refine b_putI hK_7 kc_7 (i := 8) rfl fl_7_37 rfl rfl (h_NI _) dX7_makeStates_13 ?_
  obtain ⟨I2, eI2, h⟩ := h_letS h
  refine a_memI eI2 ?_
  refine a_aload_n dX7_makeStates_16 rfl rfl ?_
  refine a_aload_n dX7_makeStates_17 rfl rfl ?_
  refine b_getI hK_7 kc_7 (i := 7) rfl fl_7_33 rfl dX7_makeStates_18 ?_
  refine a_iconst dX7_makeStates_21 ic_1 ?_
  refine a_iadd dX7_makeStates_22 ?_
  refine a_aload_n dX7_makeStates_23 rfl rfl ?_
  refine b_getI hK_7 kc_7 (i := 8) rfl fl_7_37 rfl dX7_makeStates_24 ?_
  refine a_iconst dX7_makeStates_27 ic_1 ?_
  refine a_iadd dX7_makeStates_28 ?_
  refine a_imul dX7_makeStates_29 ?_
  refine a_bipush dX7_makeStates_30 bp_10 ?_
  refine a_mmin w_mmin ml_7_38 (Nat.le_of_ble_eq_true rfl) dX7_makeStates_32 ?_
  refine b_putI hK_7 kc_7 (i := 5) rfl fl_7_44 rfl rfl (h_NI _) dX7_makeStates_35 ?_
  obtain ⟨I3, eI3, h⟩ := h_letS h
  refine a_memI eI3 ?_
  refine a_aload_n dX7_makeStates_38 rfl rfl ?_
  refine a_iconst dX7_makeStates_39 ic_0 ?_
  refine b_putI hK_7 kc_7 (i := 6) rfl fl_7_47 rfl rfl (h_NI _) dX7_makeStates_40 ?_
  obtain ⟨I4, eI4, h⟩ := h_letS h
  refine a_memI eI4 ?_
  refine a_iconst dX7_makeStates_43 ic_0 ?_
  refine a_istore_n (lv' := [(2, .int (0 : Int32)), (0, .ref 7), (1, .ref t1)]) dX7_makeStates_44 rfl (by decide) rfl ?_
  refine a_sub (lv' := [(0, .ref 7), (1, .ref t1), (2, .int (0 : Int32))]) [1, 2, 0] rfl ?_
  exact sRo_makeStates_L45 (d0 + 1) (by omega) hF t1 ht1 (0 : Int32) I4 J B _ h
