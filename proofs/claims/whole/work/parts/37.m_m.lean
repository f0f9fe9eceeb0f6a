/-! CoinLoopsModel.holdsAll()Z -/
theorem dX11_holdsAll_0 : decode cX11_holdsAll 0 = .ok (.iconst 0, 1) := by decide +kernel
theorem dX11_holdsAll_1 : decode cX11_holdsAll 1 = .ok (.istore_n 1, 1) := by decide +kernel
theorem dX11_holdsAll_2 : decode cX11_holdsAll 2 = .ok (.iload_n 1, 1) := by decide +kernel
theorem dX11_holdsAll_3 : decode cX11_holdsAll 3 = .ok (.aload_n 0, 1) := by decide +kernel
theorem dX11_holdsAll_4 : decode cX11_holdsAll 4 = .ok (.getfield 603, 3) := by decide +kernel
theorem dX11_holdsAll_7 : decode cX11_holdsAll 7 = .ok (.if_icmp .ge 61, 3) := by decide +kernel
theorem dX11_holdsAll_10 : decode cX11_holdsAll 10 = .ok (.aload_n 0, 1) := by decide +kernel
theorem dX11_holdsAll_11 : decode cX11_holdsAll 11 = .ok (.getfield 144, 3) := by decide +kernel
theorem dX11_holdsAll_14 : decode cX11_holdsAll 14 = .ok (.iload_n 1, 1) := by decide +kernel
theorem dX11_holdsAll_15 : decode cX11_holdsAll 15 = .ok (.laload, 1) := by decide +kernel
theorem dX11_holdsAll_16 : decode cX11_holdsAll 16 = .ok (.aload_n 0, 1) := by decide +kernel
theorem dX11_holdsAll_17 : decode cX11_holdsAll 17 = .ok (.getfield 618, 3) := by decide +kernel
theorem dX11_holdsAll_20 : decode cX11_holdsAll 20 = .ok (.lmul, 1) := by decide +kernel
theorem dX11_holdsAll_21 : decode cX11_holdsAll 21 = .ok (.aload_n 0, 1) := by decide +kernel
theorem dX11_holdsAll_22 : decode cX11_holdsAll 22 = .ok (.getfield 147, 3) := by decide +kernel
theorem dX11_holdsAll_25 : decode cX11_holdsAll 25 = .ok (.iload_n 1, 1) := by decide +kernel
theorem dX11_holdsAll_26 : decode cX11_holdsAll 26 = .ok (.laload, 1) := by decide +kernel
theorem dX11_holdsAll_27 : decode cX11_holdsAll 27 = .ok (.aload_n 0, 1) := by decide +kernel
theorem dX11_holdsAll_28 : decode cX11_holdsAll 28 = .ok (.getfield 621, 3) := by decide +kernel
theorem dX11_holdsAll_31 : decode cX11_holdsAll 31 = .ok (.lmul, 1) := by decide +kernel
theorem dX11_holdsAll_32 : decode cX11_holdsAll 32 = .ok (.ladd, 1) := by decide +kernel
theorem dX11_holdsAll_33 : decode cX11_holdsAll 33 = .ok (.aload_n 0, 1) := by decide +kernel
theorem dX11_holdsAll_34 : decode cX11_holdsAll 34 = .ok (.getfield 150, 3) := by decide +kernel
theorem dX11_holdsAll_37 : decode cX11_holdsAll 37 = .ok (.iload_n 1, 1) := by decide +kernel
theorem dX11_holdsAll_38 : decode cX11_holdsAll 38 = .ok (.laload, 1) := by decide +kernel
theorem dX11_holdsAll_39 : decode cX11_holdsAll 39 = .ok (.aload_n 0, 1) := by decide +kernel
theorem dX11_holdsAll_40 : decode cX11_holdsAll 40 = .ok (.getfield 624, 3) := by decide +kernel
theorem dX11_holdsAll_43 : decode cX11_holdsAll 43 = .ok (.lmul, 1) := by decide +kernel
theorem dX11_holdsAll_44 : decode cX11_holdsAll 44 = .ok (.ladd, 1) := by decide +kernel
theorem dX11_holdsAll_45 : decode cX11_holdsAll 45 = .ok (.aload_n 0, 1) := by decide +kernel
theorem dX11_holdsAll_46 : decode cX11_holdsAll 46 = .ok (.getfield 153, 3) := by decide +kernel
theorem dX11_holdsAll_49 : decode cX11_holdsAll 49 = .ok (.iload_n 1, 1) := by decide +kernel
theorem dX11_holdsAll_50 : decode cX11_holdsAll 50 = .ok (.laload, 1) := by decide +kernel
theorem dX11_holdsAll_51 : decode cX11_holdsAll 51 = .ok (.aload_n 0, 1) := by decide +kernel
theorem dX11_holdsAll_52 : decode cX11_holdsAll 52 = .ok (.getfield 614, 3) := by decide +kernel
theorem dX11_holdsAll_55 : decode cX11_holdsAll 55 = .ok (.lmul, 1) := by decide +kernel
theorem dX11_holdsAll_56 : decode cX11_holdsAll 56 = .ok (.lcmp, 1) := by decide +kernel
theorem dX11_holdsAll_57 : decode cX11_holdsAll 57 = .ok (.ifCond .ge 5, 3) := by decide +kernel
theorem dX11_holdsAll_60 : decode cX11_holdsAll 60 = .ok (.iconst 0, 1) := by decide +kernel
theorem dX11_holdsAll_61 : decode cX11_holdsAll 61 = .ok (.ireturn, 1) := by decide +kernel
theorem dX11_holdsAll_62 : decode cX11_holdsAll 62 = .ok (.iinc 1 1, 3) := by decide +kernel
theorem dX11_holdsAll_65 : decode cX11_holdsAll 65 = .ok (.goto (-63), 3) := by decide +kernel
theorem dX11_holdsAll_68 : decode cX11_holdsAll 68 = .ok (.iconst 1, 1) := by decide +kernel
theorem dX11_holdsAll_69 : decode cX11_holdsAll 69 = .ok (.ireturn, 1) := by decide +kernel
def mM_holdsAll_B2 (k2 : Int32 → hI → hJ → Option (Int32)) (v1 : Int32) (I : hI) (J : hJ) : Option (Int32) :=
  if (I 0 88) ≤ v1 then
    some (1 : Int32)
  else
    (h_g (h_in v1 100) <|
    h_g (h_in v1 100) <|
    h_g (h_in v1 100) <|
    h_g (h_in v1 100) <|
    if ((J 48 v1.toNatClampNeg) * (J 0 92)) ≤ ((((J 45 v1.toNatClampNeg) * (J 0 89)) + ((J 46 v1.toNatClampNeg) * (J 0 90))) + ((J 47 v1.toNatClampNeg) * (J 0 91))) then
      k2 (v1 + (1 : Int32)) I J
    else
      some (0 : Int32))
set_option maxHeartbeats 4000000 in
theorem sM_holdsAll_B2 (d : Nat) (hd : 0 ≤ d) (k2 : Int32 → hI → hJ → Option (Int32)) (hk2 : ∀ (v1 : Int32) (I : hI) (J : hJ) (q : Int32), k2 v1 I J = some q → AW hFT cX11_holdsAll 2 (some .boolean) RX11 kdM d [(0, .ref 0), (1, .int v1)] 2 [] (I, J, RMm) (some (.int q)) (I, J, RMm)) (v1 : Int32) (I : hI) (J : hJ) (q : Int32) (h : mM_holdsAll_B2 k2 v1 I J = some q) : AW hFT cX11_holdsAll 2 (some .boolean) RX11 kdM d [(0, .ref 0), (1, .int v1)] 2 [] (I, J, RMm) (some (.int q)) (I, J, RMm) := by
  unfold mM_holdsAll_B2 at h
  refine a_iload_n dX11_holdsAll_2 rfl rfl ?_
  refine a_aload_n dX11_holdsAll_3 rfl rfl ?_
  refine b_getI hK_11 km_0 (i := 88) rfl fl_11_603 rfl dX11_holdsAll_4 ?_
  refine a_icmp_ge (tgt := 68) dX11_holdsAll_7 (by decide) (fun c => ?_) (fun c => ?_)
  · replace h := h_iteT c h
    refine a_iconst dX11_holdsAll_68 ic_1 ?_
    cases h
    exact a_zret (h_Z1.1) dX11_holdsAll_69
  · replace h := h_iteF c h
    refine a_aload_n dX11_holdsAll_10 rfl rfl ?_
    refine b_getR hK_11 km_0 (i := 84) rfl fl_11_144 rfl rmm_84 dX11_holdsAll_11 ?_
    refine a_iload_n dX11_holdsAll_14 rfl rfl ?_
    obtain ⟨g1, h⟩ := h_gS h
    refine b_laload km_45 (h_inV g1) dX11_holdsAll_15 ?_
    refine a_aload_n dX11_holdsAll_16 rfl rfl ?_
    refine b_getJ hK_11 km_0 (i := 89) rfl fl_11_618 rfl dX11_holdsAll_17 ?_
    refine a_lmul dX11_holdsAll_20 ?_
    refine a_aload_n dX11_holdsAll_21 rfl rfl ?_
    refine b_getR hK_11 km_0 (i := 85) rfl fl_11_147 rfl rmm_85 dX11_holdsAll_22 ?_
    refine a_iload_n dX11_holdsAll_25 rfl rfl ?_
    obtain ⟨g2, h⟩ := h_gS h
    refine b_laload km_46 (h_inV g2) dX11_holdsAll_26 ?_
    refine a_aload_n dX11_holdsAll_27 rfl rfl ?_
    refine b_getJ hK_11 km_0 (i := 90) rfl fl_11_621 rfl dX11_holdsAll_28 ?_
    refine a_lmul dX11_holdsAll_31 ?_
    refine a_ladd dX11_holdsAll_32 ?_
    refine a_aload_n dX11_holdsAll_33 rfl rfl ?_
    refine b_getR hK_11 km_0 (i := 86) rfl fl_11_150 rfl rmm_86 dX11_holdsAll_34 ?_
    refine a_iload_n dX11_holdsAll_37 rfl rfl ?_
    obtain ⟨g3, h⟩ := h_gS h
    refine b_laload km_47 (h_inV g3) dX11_holdsAll_38 ?_
    refine a_aload_n dX11_holdsAll_39 rfl rfl ?_
    refine b_getJ hK_11 km_0 (i := 91) rfl fl_11_624 rfl dX11_holdsAll_40 ?_
    refine a_lmul dX11_holdsAll_43 ?_
    refine a_ladd dX11_holdsAll_44 ?_
    refine a_aload_n dX11_holdsAll_45 rfl rfl ?_
    refine b_getR hK_11 km_0 (i := 87) rfl fl_11_153 rfl rmm_87 dX11_holdsAll_46 ?_
    refine a_iload_n dX11_holdsAll_49 rfl rfl ?_
    obtain ⟨g4, h⟩ := h_gS h
    refine b_laload km_48 (h_inV g4) dX11_holdsAll_50 ?_
    refine a_aload_n dX11_holdsAll_51 rfl rfl ?_
    refine b_getJ hK_11 km_0 (i := 92) rfl fl_11_614 rfl dX11_holdsAll_52 ?_
    refine a_lmul dX11_holdsAll_55 ?_
    refine a_lcmp_ge (tgt := 62) dX11_holdsAll_56 dX11_holdsAll_57 (by decide) (fun c => ?_) (fun c => ?_)
    · replace h := h_iteT c h
      refine b_iinc (lv' := [(1, .int (v1 + (1 : Int32))), (0, .ref 0)]) dX11_holdsAll_62 rfl ic_1 (by decide) rfl ?_
      refine a_goto (tgt := 2) dX11_holdsAll_65 (by decide) ?_
      refine a_sub (lv' := [(0, .ref 0), (1, .int (v1 + (1 : Int32)))]) [1, 0] rfl ?_
      exact hk2 (v1 + (1 : Int32)) I J _ h
    · replace h := h_iteF c h
      refine a_iconst dX11_holdsAll_60 ic_0 ?_
      cases h
      exact a_zret (h_Z0.1) dX11_holdsAll_61
def mM_holdsAll_L2  : Nat → Int32 → hI → hJ → Option (Int32)
  | 0 => fun _ _ _ => none
  | n + 1 => mM_holdsAll_B2 (mM_holdsAll_L2 n)
theorem sM_holdsAll_L2 (d : Nat) (hd : 0 ≤ d) : ∀ (n : Nat) (v1 : Int32) (I : hI) (J : hJ) (q : Int32) (h : mM_holdsAll_L2 n v1 I J = some q), AW hFT cX11_holdsAll 2 (some .boolean) RX11 kdM d [(0, .ref 0), (1, .int v1)] 2 [] (I, J, RMm) (some (.int q)) (I, J, RMm)
  | 0, _, _, _, q, h => by cases h
  | n + 1, v1, I, J, q, h => sM_holdsAll_B2 d hd (mM_holdsAll_L2 n) (sM_holdsAll_L2 d hd n) v1 I J q h
def mM_holdsAll   (I : hI) (J : hJ) : Option (Int32) :=
  mM_holdsAll_L2 hF (0 : Int32) I J
set_option maxHeartbeats 4000000 in
theorem sM_holdsAll (d : Nat) (hd : 0 ≤ d)  (I : hI) (J : hJ) (q : Int32) (h : mM_holdsAll I J = some q) : HMet hFT yX11_holdsAll cX11_holdsAll 2 (some .boolean) kdM d [.ref 0] (I, J, RMm) (some (.int q)) (I, J, RMm) := by
  refine HMet.of (by decide) (Nat.le_of_ble_eq_true rfl) ?_
  show AW hFT cX11_holdsAll 2 (some .boolean) RX11 kdM d [(0, .ref 0)] 0 [] (I, J, RMm) (some (.int q)) (I, J, RMm)
  unfold mM_holdsAll at h
  refine a_iconst dX11_holdsAll_0 ic_0 ?_
  refine a_istore_n (lv' := [(1, .int (0 : Int32)), (0, .ref 0)]) dX11_holdsAll_1 rfl (by decide) rfl ?_
  refine a_sub (lv' := [(0, .ref 0), (1, .int (0 : Int32))]) [1, 0] rfl ?_
  exact sM_holdsAll_L2 d (by omega) hF (0 : Int32) I J _ h
/-! CoinLoopsModel.compared(JJJJ)I -/
theorem dX11_compared_0 : decode cX11_compared 0 = .ok (.lload_n 0, 1) := by decide +kernel
theorem dX11_compared_1 : decode cX11_compared 1 = .ok (.lload 6, 2) := by decide +kernel
theorem dX11_compared_3 : decode cX11_compared 3 = .ok (.lmul, 1) := by decide +kernel
theorem dX11_compared_4 : decode cX11_compared 4 = .ok (.lload 4, 2) := by decide +kernel
theorem dX11_compared_6 : decode cX11_compared 6 = .ok (.lload_n 2, 1) := by decide +kernel
theorem dX11_compared_7 : decode cX11_compared 7 = .ok (.lmul, 1) := by decide +kernel
theorem dX11_compared_8 : decode cX11_compared 8 = .ok (.invokestatic 627, 3) := by decide +kernel
theorem dX11_compared_11 : decode cX11_compared 11 = .ok (.ireturn, 1) := by decide +kernel
def mM_compared  (v0 : Int64) (v2 : Int64) (v4 : Int64) (v6 : Int64)  : Int32 :=
  (mJ_compare (v0 * v6) (v4 * v2))
set_option maxHeartbeats 4000000 in
theorem sM_compared (d : Nat) (hd : 0 + 1 ≤ d) (v0 : Int64) (v2 : Int64) (v4 : Int64) (v6 : Int64) (I : hI) (J : hJ) (q : Int32) (h : mM_compared v0 v2 v4 v6 = q) : HMet hFT yX11_compared cX11_compared 8 (some .int) kdM d [.long v0, .long v2, .long v4, .long v6] (I, J, RMm) (some (.int q)) (I, J, RMm) := by
  obtain ⟨d0, rfl, hd0⟩ := h_mono hd
  refine HMet.of (by decide) (Nat.le_of_ble_eq_true rfl) ?_
  show AW hFT cX11_compared 8 (some .int) RX11 kdM (d0 + 1) [(0, .long v0), (2, .long v2), (4, .long v4), (6, .long v6)] 0 [] (I, J, RMm) (some (.int q)) (I, J, RMm)
  unfold mM_compared at h
  refine a_lload_n dX11_compared_0 rfl rfl ?_
  refine a_lload dX11_compared_1 rfl ?_
  refine a_lmul dX11_compared_3 ?_
  refine a_lload dX11_compared_4 rfl ?_
  refine a_lload_n dX11_compared_6 rfl rfl ?_
  refine a_lmul dX11_compared_7 ?_
  refine a_callS1 [] yyJ_compare ml_11_627 (sJ_compare _ (Nat.zero_le _) (v0 * v6) (v4 * v2)) rfl rfl (Nat.le_of_ble_eq_true rfl) dX11_compared_8 ?_
  cases h
  exact a_iret dX11_compared_11
/-! CoinLoopsModel.isBetter(I)Z -/
theorem dX11_isBetter_0 : decode cX11_isBetter 0 = .ok (.aload_n 0, 1) := by decide +kernel
theorem dX11_isBetter_1 : decode cX11_isBetter 1 = .ok (.getfield 618, 3) := by decide +kernel
theorem dX11_isBetter_4 : decode cX11_isBetter 4 = .ok (.iload_n 1, 1) := by decide +kernel
theorem dX11_isBetter_5 : decode cX11_isBetter 5 = .ok (.aload_n 0, 1) := by decide +kernel
theorem dX11_isBetter_6 : decode cX11_isBetter 6 = .ok (.getfield 361, 3) := by decide +kernel
theorem dX11_isBetter_9 : decode cX11_isBetter 9 = .ok (.irem, 1) := by decide +kernel
theorem dX11_isBetter_10 : decode cX11_isBetter 10 = .ok (.i2l, 1) := by decide +kernel
theorem dX11_isBetter_11 : decode cX11_isBetter 11 = .ok (.lmul, 1) := by decide +kernel
theorem dX11_isBetter_12 : decode cX11_isBetter 12 = .ok (.aload_n 0, 1) := by decide +kernel
theorem dX11_isBetter_13 : decode cX11_isBetter 13 = .ok (.getfield 621, 3) := by decide +kernel
theorem dX11_isBetter_16 : decode cX11_isBetter 16 = .ok (.iload_n 1, 1) := by decide +kernel
theorem dX11_isBetter_17 : decode cX11_isBetter 17 = .ok (.aload_n 0, 1) := by decide +kernel
theorem dX11_isBetter_18 : decode cX11_isBetter 18 = .ok (.getfield 361, 3) := by decide +kernel
theorem dX11_isBetter_21 : decode cX11_isBetter 21 = .ok (.idiv, 1) := by decide +kernel
theorem dX11_isBetter_22 : decode cX11_isBetter 22 = .ok (.i2l, 1) := by decide +kernel
theorem dX11_isBetter_23 : decode cX11_isBetter 23 = .ok (.lmul, 1) := by decide +kernel
theorem dX11_isBetter_24 : decode cX11_isBetter 24 = .ok (.ladd, 1) := by decide +kernel
theorem dX11_isBetter_25 : decode cX11_isBetter 25 = .ok (.aload_n 0, 1) := by decide +kernel
theorem dX11_isBetter_26 : decode cX11_isBetter 26 = .ok (.getfield 624, 3) := by decide +kernel
theorem dX11_isBetter_29 : decode cX11_isBetter 29 = .ok (.ladd, 1) := by decide +kernel
theorem dX11_isBetter_30 : decode cX11_isBetter 30 = .ok (.lstore_n 2, 1) := by decide +kernel
theorem dX11_isBetter_31 : decode cX11_isBetter 31 = .ok (.aload_n 0, 1) := by decide +kernel
theorem dX11_isBetter_32 : decode cX11_isBetter 32 = .ok (.getfield 633, 3) := by decide +kernel
theorem dX11_isBetter_35 : decode cX11_isBetter 35 = .ok (.iload_n 1, 1) := by decide +kernel
theorem dX11_isBetter_36 : decode cX11_isBetter 36 = .ok (.aload_n 0, 1) := by decide +kernel
theorem dX11_isBetter_37 : decode cX11_isBetter 37 = .ok (.getfield 361, 3) := by decide +kernel
theorem dX11_isBetter_40 : decode cX11_isBetter 40 = .ok (.irem, 1) := by decide +kernel
theorem dX11_isBetter_41 : decode cX11_isBetter 41 = .ok (.i2l, 1) := by decide +kernel
theorem dX11_isBetter_42 : decode cX11_isBetter 42 = .ok (.lmul, 1) := by decide +kernel
theorem dX11_isBetter_43 : decode cX11_isBetter 43 = .ok (.aload_n 0, 1) := by decide +kernel
theorem dX11_isBetter_44 : decode cX11_isBetter 44 = .ok (.getfield 636, 3) := by decide +kernel
theorem dX11_isBetter_47 : decode cX11_isBetter 47 = .ok (.iload_n 1, 1) := by decide +kernel
theorem dX11_isBetter_48 : decode cX11_isBetter 48 = .ok (.aload_n 0, 1) := by decide +kernel
theorem dX11_isBetter_49 : decode cX11_isBetter 49 = .ok (.getfield 361, 3) := by decide +kernel
theorem dX11_isBetter_52 : decode cX11_isBetter 52 = .ok (.idiv, 1) := by decide +kernel
theorem dX11_isBetter_53 : decode cX11_isBetter 53 = .ok (.i2l, 1) := by decide +kernel
theorem dX11_isBetter_54 : decode cX11_isBetter 54 = .ok (.lmul, 1) := by decide +kernel
theorem dX11_isBetter_55 : decode cX11_isBetter 55 = .ok (.ladd, 1) := by decide +kernel
theorem dX11_isBetter_56 : decode cX11_isBetter 56 = .ok (.aload_n 0, 1) := by decide +kernel
theorem dX11_isBetter_57 : decode cX11_isBetter 57 = .ok (.getfield 639, 3) := by decide +kernel
theorem dX11_isBetter_60 : decode cX11_isBetter 60 = .ok (.ladd, 1) := by decide +kernel
theorem dX11_isBetter_61 : decode cX11_isBetter 61 = .ok (.lstore 4, 2) := by decide +kernel
theorem dX11_isBetter_63 : decode cX11_isBetter 63 = .ok (.lload_n 2, 1) := by decide +kernel
theorem dX11_isBetter_64 : decode cX11_isBetter 64 = .ok (.aload_n 0, 1) := by decide +kernel
theorem dX11_isBetter_65 : decode cX11_isBetter 65 = .ok (.getfield 614, 3) := by decide +kernel
theorem dX11_isBetter_68 : decode cX11_isBetter 68 = .ok (.lload 4, 2) := by decide +kernel
theorem dX11_isBetter_70 : decode cX11_isBetter 70 = .ok (.aload_n 0, 1) := by decide +kernel
theorem dX11_isBetter_71 : decode cX11_isBetter 71 = .ok (.getfield 642, 3) := by decide +kernel
theorem dX11_isBetter_74 : decode cX11_isBetter 74 = .ok (.invokestatic 645, 3) := by decide +kernel
theorem dX11_isBetter_77 : decode cX11_isBetter 77 = .ok (.istore 6, 2) := by decide +kernel
theorem dX11_isBetter_79 : decode cX11_isBetter 79 = .ok (.iload 6, 2) := by decide +kernel
theorem dX11_isBetter_81 : decode cX11_isBetter 81 = .ok (.ifCond .ne 25, 3) := by decide +kernel
theorem dX11_isBetter_84 : decode cX11_isBetter 84 = .ok (.aload_n 0, 1) := by decide +kernel
theorem dX11_isBetter_85 : decode cX11_isBetter 85 = .ok (.getfield 618, 3) := by decide +kernel
theorem dX11_isBetter_88 : decode cX11_isBetter 88 = .ok (.aload_n 0, 1) := by decide +kernel
theorem dX11_isBetter_89 : decode cX11_isBetter 89 = .ok (.getfield 614, 3) := by decide +kernel
theorem dX11_isBetter_92 : decode cX11_isBetter 92 = .ok (.aload_n 0, 1) := by decide +kernel
theorem dX11_isBetter_93 : decode cX11_isBetter 93 = .ok (.getfield 633, 3) := by decide +kernel
theorem dX11_isBetter_96 : decode cX11_isBetter 96 = .ok (.aload_n 0, 1) := by decide +kernel
theorem dX11_isBetter_97 : decode cX11_isBetter 97 = .ok (.getfield 642, 3) := by decide +kernel
theorem dX11_isBetter_100 : decode cX11_isBetter 100 = .ok (.invokestatic 645, 3) := by decide +kernel
theorem dX11_isBetter_103 : decode cX11_isBetter 103 = .ok (.goto 5, 3) := by decide +kernel
theorem dX11_isBetter_106 : decode cX11_isBetter 106 = .ok (.iload 6, 2) := by decide +kernel
theorem dX11_isBetter_108 : decode cX11_isBetter 108 = .ok (.istore 6, 2) := by decide +kernel
theorem dX11_isBetter_110 : decode cX11_isBetter 110 = .ok (.iload 6, 2) := by decide +kernel
theorem dX11_isBetter_112 : decode cX11_isBetter 112 = .ok (.ifCond .ne 25, 3) := by decide +kernel
theorem dX11_isBetter_115 : decode cX11_isBetter 115 = .ok (.aload_n 0, 1) := by decide +kernel
theorem dX11_isBetter_116 : decode cX11_isBetter 116 = .ok (.getfield 621, 3) := by decide +kernel
theorem dX11_isBetter_119 : decode cX11_isBetter 119 = .ok (.aload_n 0, 1) := by decide +kernel
theorem dX11_isBetter_120 : decode cX11_isBetter 120 = .ok (.getfield 614, 3) := by decide +kernel
theorem dX11_isBetter_123 : decode cX11_isBetter 123 = .ok (.aload_n 0, 1) := by decide +kernel
theorem dX11_isBetter_124 : decode cX11_isBetter 124 = .ok (.getfield 636, 3) := by decide +kernel
theorem dX11_isBetter_127 : decode cX11_isBetter 127 = .ok (.aload_n 0, 1) := by decide +kernel
theorem dX11_isBetter_128 : decode cX11_isBetter 128 = .ok (.getfield 642, 3) := by decide +kernel
theorem dX11_isBetter_131 : decode cX11_isBetter 131 = .ok (.invokestatic 645, 3) := by decide +kernel
theorem dX11_isBetter_134 : decode cX11_isBetter 134 = .ok (.goto 5, 3) := by decide +kernel
theorem dX11_isBetter_137 : decode cX11_isBetter 137 = .ok (.iload 6, 2) := by decide +kernel
theorem dX11_isBetter_139 : decode cX11_isBetter 139 = .ok (.istore 6, 2) := by decide +kernel
theorem dX11_isBetter_141 : decode cX11_isBetter 141 = .ok (.iload 6, 2) := by decide +kernel
theorem dX11_isBetter_143 : decode cX11_isBetter 143 = .ok (.ifCond .ge 7, 3) := by decide +kernel
theorem dX11_isBetter_146 : decode cX11_isBetter 146 = .ok (.iconst 1, 1) := by decide +kernel
theorem dX11_isBetter_147 : decode cX11_isBetter 147 = .ok (.goto 4, 3) := by decide +kernel
theorem dX11_isBetter_150 : decode cX11_isBetter 150 = .ok (.iconst 0, 1) := by decide +kernel
theorem dX11_isBetter_151 : decode cX11_isBetter 151 = .ok (.ireturn, 1) := by decide +kernel
def mM_isBetter_139  (vs0 : Int32) (I : hI) (J : hJ) : Option (Int32) :=
  if 0 ≤ vs0 then
    some (0 : Int32)
  else
    some (1 : Int32)
set_option maxHeartbeats 4000000 in
theorem sM_isBetter_139 (d : Nat) (hd : 1 + 1 ≤ d) (vs0 : Int32) (I : hI) (J : hJ) (q : Int32) (h : mM_isBetter_139 vs0 I J = some q) : AW hFT cX11_isBetter 7 (some .boolean) RX11 kdM d [] 139 [.int vs0] (I, J, RMm) (some (.int q)) (I, J, RMm) := by
  obtain ⟨d0, rfl, hd0⟩ := h_mono hd
  unfold mM_isBetter_139 at h
  refine a_istore (lv' := [(6, .int vs0)]) dX11_isBetter_139 (by decide) rfl ?_
  refine a_iload dX11_isBetter_141 rfl ?_
  refine a_if_ge (tgt := 150) dX11_isBetter_143 (by decide) (fun c => ?_) (fun c => ?_)
  · replace h := h_iteT c h
    refine a_iconst dX11_isBetter_150 ic_0 ?_
    cases h
    exact a_zret (h_Z0.1) dX11_isBetter_151
  · replace h := h_iteF c h
    refine a_iconst dX11_isBetter_146 ic_1 ?_
    refine a_goto (tgt := 151) dX11_isBetter_147 (by decide) ?_
    cases h
    exact a_zret (h_Z1.1) dX11_isBetter_151
def mM_isBetter_108  (vs0 : Int32) (I : hI) (J : hJ) : Option (Int32) :=
  if vs0 = 0 then
    mM_isBetter_139 (mM_compared (J 0 90) (J 0 92) (J 0 94) (J 0 96)) I J
  else
    mM_isBetter_139 vs0 I J
set_option maxHeartbeats 4000000 in
theorem sM_isBetter_108 (d : Nat) (hd : 1 + 1 ≤ d) (vs0 : Int32) (I : hI) (J : hJ) (q : Int32) (h : mM_isBetter_108 vs0 I J = some q) : AW hFT cX11_isBetter 7 (some .boolean) RX11 kdM d [(0, .ref 0)] 108 [.int vs0] (I, J, RMm) (some (.int q)) (I, J, RMm) := by
  obtain ⟨d0, rfl, hd0⟩ := h_mono hd
  unfold mM_isBetter_108 at h
  refine a_istore (lv' := [(6, .int vs0), (0, .ref 0)]) dX11_isBetter_108 (by decide) rfl ?_
  refine a_iload dX11_isBetter_110 rfl ?_
  refine a_if_ne (tgt := 137) dX11_isBetter_112 (by decide) (fun c => ?_) (fun c => ?_)
  · replace h := h_iteF c h
    refine a_iload dX11_isBetter_137 rfl ?_
    refine a_sub (lv' := []) [] rfl ?_
    exact sM_isBetter_139 (d0 + 1) (by omega) vs0 I J _ h
  · replace h := h_iteT c h
    refine a_aload_n dX11_isBetter_115 rfl rfl ?_
    refine b_getJ hK_11 km_0 (i := 90) rfl fl_11_621 rfl dX11_isBetter_116 ?_
    refine a_aload_n dX11_isBetter_119 rfl rfl ?_
    refine b_getJ hK_11 km_0 (i := 92) rfl fl_11_614 rfl dX11_isBetter_120 ?_
    refine a_aload_n dX11_isBetter_123 rfl rfl ?_
    refine b_getJ hK_11 km_0 (i := 94) rfl fl_11_636 rfl dX11_isBetter_124 ?_
    refine a_aload_n dX11_isBetter_127 rfl rfl ?_
    refine b_getJ hK_11 km_0 (i := 96) rfl fl_11_642 rfl dX11_isBetter_128 ?_
    refine a_callS1 [] yy_X11_compared ml_11_645 (sM_compared _ (by omega) (J 0 90) (J 0 92) (J 0 94) (J 0 96) I J _ rfl) rfl rfl (Nat.le_of_ble_eq_true rfl) dX11_isBetter_131 ?_
    refine a_goto (tgt := 139) dX11_isBetter_134 (by decide) ?_
    refine a_sub (lv' := []) [] rfl ?_
    exact sM_isBetter_139 (d0 + 1) (by omega) (mM_compared (J 0 90) (J 0 92) (J 0 94) (J 0 96)) I J _ h
def mM_isBetter  (v1 : Int32) (I : hI) (J : hJ) : Option (Int32) :=
  h_g (h_nz (I 0 39)) <|
  h_g (h_nz (I 0 39)) <|
  h_let ((((J 0 89) * ((v1 - v1 / (I 0 39) * (I 0 39)).toInt64)) + ((J 0 90) * ((v1 / (I 0 39)).toInt64))) + (J 0 91)) fun v2x2 =>
  h_g (h_nz (I 0 39)) <|
  h_g (h_nz (I 0 39)) <|
  h_let ((((J 0 93) * ((v1 - v1 / (I 0 39) * (I 0 39)).toInt64)) + ((J 0 94) * ((v1 / (I 0 39)).toInt64))) + (J 0 95)) fun v4x5 =>
  h_let (mM_compared v2x2 (J 0 92) v4x5 (J 0 96)) fun v6x6 =>
  if v6x6 = 0 then
    mM_isBetter_108 (mM_compared (J 0 89) (J 0 92) (J 0 93) (J 0 96)) I J
  else
    mM_isBetter_108 v6x6 I J
set_option maxHeartbeats 4000000 in
theorem sM_isBetter (d : Nat) (hd : 1 + 1 ≤ d) (v1 : Int32) (I : hI) (J : hJ) (q : Int32) (h : mM_isBetter v1 I J = some q) : HMet hFT yX11_isBetter cX11_isBetter 7 (some .boolean) kdM d [.ref 0, .int v1] (I, J, RMm) (some (.int q)) (I, J, RMm) := by
  obtain ⟨d0, rfl, hd0⟩ := h_mono hd
  refine HMet.of (by decide) (Nat.le_of_ble_eq_true rfl) ?_
  show AW hFT cX11_isBetter 7 (some .boolean) RX11 kdM (d0 + 1) [(0, .ref 0), (1, .int v1)] 0 [] (I, J, RMm) (some (.int q)) (I, J, RMm)
  unfold mM_isBetter at h
  refine a_aload_n dX11_isBetter_0 rfl rfl ?_
  refine b_getJ hK_11 km_0 (i := 89) rfl fl_11_618 rfl dX11_isBetter_1 ?_
  refine a_iload_n dX11_isBetter_4 rfl rfl ?_
  refine a_aload_n dX11_isBetter_5 rfl rfl ?_
  refine b_getI hK_11 km_0 (i := 39) rfl fl_11_361 rfl dX11_isBetter_6 ?_
  obtain ⟨g1, h⟩ := h_gS h
  refine a_irem dX11_isBetter_9 (h_nzV g1) ?_
  refine a_i2l dX11_isBetter_10 ?_
  refine a_lmul dX11_isBetter_11 ?_
  refine a_aload_n dX11_isBetter_12 rfl rfl ?_
  refine b_getJ hK_11 km_0 (i := 90) rfl fl_11_621 rfl dX11_isBetter_13 ?_
  refine a_iload_n dX11_isBetter_16 rfl rfl ?_
  refine a_aload_n dX11_isBetter_17 rfl rfl ?_
  refine b_getI hK_11 km_0 (i := 39) rfl fl_11_361 rfl dX11_isBetter_18 ?_
  obtain ⟨g2, h⟩ := h_gS h
  refine a_idiv dX11_isBetter_21 (h_nzV g2) ?_
  refine a_i2l dX11_isBetter_22 ?_
  refine a_lmul dX11_isBetter_23 ?_
  refine a_ladd dX11_isBetter_24 ?_
  refine a_aload_n dX11_isBetter_25 rfl rfl ?_
  refine b_getJ hK_11 km_0 (i := 91) rfl fl_11_624 rfl dX11_isBetter_26 ?_
  refine a_ladd dX11_isBetter_29 ?_
  obtain ⟨v2x2, ev2x2, h⟩ := h_letS h
  refine a_topJ ev2x2 ?_
  refine a_lstore_n (lv' := [(2, .long v2x2), (0, .ref 0), (1, .int v1)]) dX11_isBetter_30 rfl (by decide) rfl ?_
  refine a_aload_n dX11_isBetter_31 rfl rfl ?_
  refine b_getJ hK_11 km_0 (i := 93) rfl fl_11_633 rfl dX11_isBetter_32 ?_
  refine a_iload_n dX11_isBetter_35 rfl rfl ?_
  refine a_aload_n dX11_isBetter_36 rfl rfl ?_
  refine b_getI hK_11 km_0 (i := 39) rfl fl_11_361 rfl dX11_isBetter_37 ?_
  obtain ⟨g4, h⟩ := h_gS h
  refine a_irem dX11_isBetter_40 (h_nzV g4) ?_
  refine a_i2l dX11_isBetter_41 ?_
  refine a_lmul dX11_isBetter_42 ?_
  refine a_aload_n dX11_isBetter_43 rfl rfl ?_
  refine b_getJ hK_11 km_0 (i := 94) rfl fl_11_636 rfl dX11_isBetter_44 ?_
  refine a_iload_n dX11_isBetter_47 rfl rfl ?_
  refine a_aload_n dX11_isBetter_48 rfl rfl ?_
  refine b_getI hK_11 km_0 (i := 39) rfl fl_11_361 rfl dX11_isBetter_49 ?_
  obtain ⟨g5, h⟩ := h_gS h
  refine a_idiv dX11_isBetter_52 (h_nzV g5) ?_
  refine a_i2l dX11_isBetter_53 ?_
  refine a_lmul dX11_isBetter_54 ?_
  refine a_ladd dX11_isBetter_55 ?_
  refine a_aload_n dX11_isBetter_56 rfl rfl ?_
  refine b_getJ hK_11 km_0 (i := 95) rfl fl_11_639 rfl dX11_isBetter_57 ?_
  refine a_ladd dX11_isBetter_60 ?_
  obtain ⟨v4x5, ev4x5, h⟩ := h_letS h
  refine a_topJ ev4x5 ?_
  refine a_lstore (lv' := [(4, .long v4x5), (2, .long v2x2), (0, .ref 0), (1, .int v1)]) dX11_isBetter_61 (by decide) rfl ?_
  refine a_lload_n dX11_isBetter_63 rfl rfl ?_
  refine a_aload_n dX11_isBetter_64 rfl rfl ?_
  refine b_getJ hK_11 km_0 (i := 92) rfl fl_11_614 rfl dX11_isBetter_65 ?_
  refine a_lload dX11_isBetter_68 rfl ?_
  refine a_aload_n dX11_isBetter_70 rfl rfl ?_
  refine b_getJ hK_11 km_0 (i := 96) rfl fl_11_642 rfl dX11_isBetter_71 ?_
  refine a_callS1 [] yy_X11_compared ml_11_645 (sM_compared _ (by omega) v2x2 (J 0 92) v4x5 (J 0 96) I J _ rfl) rfl rfl (Nat.le_of_ble_eq_true rfl) dX11_isBetter_74 ?_
  obtain ⟨v6x6, ev6x6, h⟩ := h_letS h
  refine a_topI ev6x6 ?_
  refine a_istore (lv' := [(6, .int v6x6), (4, .long v4x5), (2, .long v2x2), (0, .ref 0), (1, .int v1)]) dX11_isBetter_77 (by decide) rfl ?_
  refine a_iload dX11_isBetter_79 rfl ?_
  refine a_if_ne (tgt := 106) dX11_isBetter_81 (by decide) (fun c => ?_) (fun c => ?_)
  · replace h := h_iteF c h
    refine a_iload dX11_isBetter_106 rfl ?_
    refine a_sub (lv' := [(0, .ref 0)]) [3] rfl ?_
    exact sM_isBetter_108 (d0 + 1) (by omega) v6x6 I J _ h
  · replace h := h_iteT c h
    refine a_aload_n dX11_isBetter_84 rfl rfl ?_
    refine b_getJ hK_11 km_0 (i := 89) rfl fl_11_618 rfl dX11_isBetter_85 ?_
    refine a_aload_n dX11_isBetter_88 rfl rfl ?_
    refine b_getJ hK_11 km_0 (i := 92) rfl fl_11_614 rfl dX11_isBetter_89 ?_
    refine a_aload_n dX11_isBetter_92 rfl rfl ?_
    refine b_getJ hK_11 km_0 (i := 93) rfl fl_11_633 rfl dX11_isBetter_93 ?_
    refine a_aload_n dX11_isBetter_96 rfl rfl ?_
    refine b_getJ hK_11 km_0 (i := 96) rfl fl_11_642 rfl dX11_isBetter_97 ?_
    refine a_callS1 [] yy_X11_compared ml_11_645 (sM_compared _ (by omega) (J 0 89) (J 0 92) (J 0 93) (J 0 96) I J _ rfl) rfl rfl (Nat.le_of_ble_eq_true rfl) dX11_isBetter_100 ?_
    refine a_goto (tgt := 108) dX11_isBetter_103 (by decide) ?_
    refine a_sub (lv' := [(0, .ref 0)]) [3] rfl ?_
    exact sM_isBetter_108 (d0 + 1) (by omega) (mM_compared (J 0 89) (J 0 92) (J 0 93) (J 0 96)) I J _ h
/-! CoinLoopsModel.laysBest(I)Z -/
theorem dX11_laysBest_0 : decode cX11_laysBest 0 = .ok (.aload_n 0, 1) := by decide +kernel
theorem dX11_laysBest_1 : decode cX11_laysBest 1 = .ok (.invokevirtual 649, 3) := by decide +kernel
theorem dX11_laysBest_4 : decode cX11_laysBest 4 = .ok (.iconst 0, 1) := by decide +kernel
theorem dX11_laysBest_5 : decode cX11_laysBest 5 = .ok (.istore_n 2, 1) := by decide +kernel
theorem dX11_laysBest_6 : decode cX11_laysBest 6 = .ok (.aload_n 0, 1) := by decide +kernel
theorem dX11_laysBest_7 : decode cX11_laysBest 7 = .ok (.getfield 361, 3) := by decide +kernel
theorem dX11_laysBest_10 : decode cX11_laysBest 10 = .ok (.iconst 1, 1) := by decide +kernel
theorem dX11_laysBest_11 : decode cX11_laysBest 11 = .ok (.if_icmp .le 10, 3) := by decide +kernel
theorem dX11_laysBest_14 : decode cX11_laysBest 14 = .ok (.aload_n 0, 1) := by decide +kernel
theorem dX11_laysBest_15 : decode cX11_laysBest 15 = .ok (.getfield 603, 3) := by decide +kernel
theorem dX11_laysBest_18 : decode cX11_laysBest 18 = .ok (.goto 4, 3) := by decide +kernel
theorem dX11_laysBest_21 : decode cX11_laysBest 21 = .ok (.iconst 1, 1) := by decide +kernel
theorem dX11_laysBest_22 : decode cX11_laysBest 22 = .ok (.istore_n 3, 1) := by decide +kernel
theorem dX11_laysBest_23 : decode cX11_laysBest 23 = .ok (.aload_n 0, 1) := by decide +kernel
theorem dX11_laysBest_24 : decode cX11_laysBest 24 = .ok (.getfield 364, 3) := by decide +kernel
theorem dX11_laysBest_27 : decode cX11_laysBest 27 = .ok (.iconst 1, 1) := by decide +kernel
theorem dX11_laysBest_28 : decode cX11_laysBest 28 = .ok (.if_icmp .le 10, 3) := by decide +kernel
theorem dX11_laysBest_31 : decode cX11_laysBest 31 = .ok (.aload_n 0, 1) := by decide +kernel
theorem dX11_laysBest_32 : decode cX11_laysBest 32 = .ok (.getfield 603, 3) := by decide +kernel
theorem dX11_laysBest_35 : decode cX11_laysBest 35 = .ok (.goto 4, 3) := by decide +kernel
theorem dX11_laysBest_38 : decode cX11_laysBest 38 = .ok (.iconst 1, 1) := by decide +kernel
theorem dX11_laysBest_39 : decode cX11_laysBest 39 = .ok (.istore 4, 2) := by decide +kernel
theorem dX11_laysBest_41 : decode cX11_laysBest 41 = .ok (.iconst 0, 1) := by decide +kernel
theorem dX11_laysBest_42 : decode cX11_laysBest 42 = .ok (.istore 5, 2) := by decide +kernel
theorem dX11_laysBest_44 : decode cX11_laysBest 44 = .ok (.iload 5, 2) := by decide +kernel
theorem dX11_laysBest_46 : decode cX11_laysBest 46 = .ok (.aload_n 0, 1) := by decide +kernel
theorem dX11_laysBest_47 : decode cX11_laysBest 47 = .ok (.getfield 603, 3) := by decide +kernel
theorem dX11_laysBest_50 : decode cX11_laysBest 50 = .ok (.if_icmp .ge 161, 3) := by decide +kernel
theorem dX11_laysBest_53 : decode cX11_laysBest 53 = .ok (.iconst 0, 1) := by decide +kernel
theorem dX11_laysBest_54 : decode cX11_laysBest 54 = .ok (.istore 6, 2) := by decide +kernel
theorem dX11_laysBest_56 : decode cX11_laysBest 56 = .ok (.iload 6, 2) := by decide +kernel
theorem dX11_laysBest_58 : decode cX11_laysBest 58 = .ok (.iload_n 3, 1) := by decide +kernel
theorem dX11_laysBest_59 : decode cX11_laysBest 59 = .ok (.if_icmp .ge 146, 3) := by decide +kernel
theorem dX11_laysBest_62 : decode cX11_laysBest 62 = .ok (.iconst 0, 1) := by decide +kernel
theorem dX11_laysBest_63 : decode cX11_laysBest 63 = .ok (.istore 7, 2) := by decide +kernel
theorem dX11_laysBest_65 : decode cX11_laysBest 65 = .ok (.iload 7, 2) := by decide +kernel
theorem dX11_laysBest_67 : decode cX11_laysBest 67 = .ok (.iload 4, 2) := by decide +kernel
theorem dX11_laysBest_69 : decode cX11_laysBest 69 = .ok (.if_icmp .ge 130, 3) := by decide +kernel
theorem dX11_laysBest_72 : decode cX11_laysBest 72 = .ok (.iload_n 3, 1) := by decide +kernel
theorem dX11_laysBest_73 : decode cX11_laysBest 73 = .ok (.iconst 1, 1) := by decide +kernel
theorem dX11_laysBest_74 : decode cX11_laysBest 74 = .ok (.if_icmp .eq 10, 3) := by decide +kernel
theorem dX11_laysBest_77 : decode cX11_laysBest 77 = .ok (.iload 5, 2) := by decide +kernel
theorem dX11_laysBest_79 : decode cX11_laysBest 79 = .ok (.iload 6, 2) := by decide +kernel
theorem dX11_laysBest_81 : decode cX11_laysBest 81 = .ok (.if_icmp .ge 38, 3) := by decide +kernel
theorem dX11_laysBest_84 : decode cX11_laysBest 84 = .ok (.iload 4, 2) := by decide +kernel
theorem dX11_laysBest_86 : decode cX11_laysBest 86 = .ok (.iconst 1, 1) := by decide +kernel
theorem dX11_laysBest_87 : decode cX11_laysBest 87 = .ok (.if_icmp .eq 10, 3) := by decide +kernel
theorem dX11_laysBest_90 : decode cX11_laysBest 90 = .ok (.iload 5, 2) := by decide +kernel
theorem dX11_laysBest_92 : decode cX11_laysBest 92 = .ok (.iload 7, 2) := by decide +kernel
theorem dX11_laysBest_94 : decode cX11_laysBest 94 = .ok (.if_icmp .ge 25, 3) := by decide +kernel
theorem dX11_laysBest_97 : decode cX11_laysBest 97 = .ok (.iload_n 3, 1) := by decide +kernel
theorem dX11_laysBest_98 : decode cX11_laysBest 98 = .ok (.iconst 1, 1) := by decide +kernel
theorem dX11_laysBest_99 : decode cX11_laysBest 99 = .ok (.if_icmp .eq 16, 3) := by decide +kernel
theorem dX11_laysBest_102 : decode cX11_laysBest 102 = .ok (.iload 4, 2) := by decide +kernel
theorem dX11_laysBest_104 : decode cX11_laysBest 104 = .ok (.iconst 1, 1) := by decide +kernel
theorem dX11_laysBest_105 : decode cX11_laysBest 105 = .ok (.if_icmp .eq 10, 3) := by decide +kernel
theorem dX11_laysBest_108 : decode cX11_laysBest 108 = .ok (.iload 6, 2) := by decide +kernel
theorem dX11_laysBest_110 : decode cX11_laysBest 110 = .ok (.iload 7, 2) := by decide +kernel
theorem dX11_laysBest_112 : decode cX11_laysBest 112 = .ok (.if_icmp .ge 7, 3) := by decide +kernel
theorem dX11_laysBest_115 : decode cX11_laysBest 115 = .ok (.iconst 1, 1) := by decide +kernel
theorem dX11_laysBest_116 : decode cX11_laysBest 116 = .ok (.goto 4, 3) := by decide +kernel
theorem dX11_laysBest_119 : decode cX11_laysBest 119 = .ok (.iconst 0, 1) := by decide +kernel
theorem dX11_laysBest_120 : decode cX11_laysBest 120 = .ok (.istore 8, 2) := by decide +kernel
theorem dX11_laysBest_122 : decode cX11_laysBest 122 = .ok (.iload 8, 2) := by decide +kernel
theorem dX11_laysBest_124 : decode cX11_laysBest 124 = .ok (.ifCond .eq 69, 3) := by decide +kernel
theorem dX11_laysBest_127 : decode cX11_laysBest 127 = .ok (.aload_n 0, 1) := by decide +kernel
theorem dX11_laysBest_128 : decode cX11_laysBest 128 = .ok (.iload 5, 2) := by decide +kernel
theorem dX11_laysBest_130 : decode cX11_laysBest 130 = .ok (.iload 6, 2) := by decide +kernel
theorem dX11_laysBest_132 : decode cX11_laysBest 132 = .ok (.iload 7, 2) := by decide +kernel
theorem dX11_laysBest_134 : decode cX11_laysBest 134 = .ok (.invokevirtual 652, 3) := by decide +kernel
theorem dX11_laysBest_137 : decode cX11_laysBest 137 = .ok (.ifCond .eq 56, 3) := by decide +kernel
theorem dX11_laysBest_140 : decode cX11_laysBest 140 = .ok (.aload_n 0, 1) := by decide +kernel
theorem dX11_laysBest_141 : decode cX11_laysBest 141 = .ok (.invokevirtual 655, 3) := by decide +kernel
theorem dX11_laysBest_144 : decode cX11_laysBest 144 = .ok (.ifCond .eq 49, 3) := by decide +kernel
theorem dX11_laysBest_147 : decode cX11_laysBest 147 = .ok (.iload_n 2, 1) := by decide +kernel
theorem dX11_laysBest_148 : decode cX11_laysBest 148 = .ok (.ifCond .eq 11, 3) := by decide +kernel
theorem dX11_laysBest_151 : decode cX11_laysBest 151 = .ok (.aload_n 0, 1) := by decide +kernel
theorem dX11_laysBest_152 : decode cX11_laysBest 152 = .ok (.iload_n 1, 1) := by decide +kernel
theorem dX11_laysBest_153 : decode cX11_laysBest 153 = .ok (.invokevirtual 658, 3) := by decide +kernel
theorem dX11_laysBest_156 : decode cX11_laysBest 156 = .ok (.ifCond .eq 37, 3) := by decide +kernel
theorem dX11_laysBest_159 : decode cX11_laysBest 159 = .ok (.iconst 1, 1) := by decide +kernel
theorem dX11_laysBest_160 : decode cX11_laysBest 160 = .ok (.istore_n 2, 1) := by decide +kernel
theorem dX11_laysBest_161 : decode cX11_laysBest 161 = .ok (.aload_n 0, 1) := by decide +kernel
theorem dX11_laysBest_162 : decode cX11_laysBest 162 = .ok (.aload_n 0, 1) := by decide +kernel
theorem dX11_laysBest_163 : decode cX11_laysBest 163 = .ok (.getfield 618, 3) := by decide +kernel
theorem dX11_laysBest_166 : decode cX11_laysBest 166 = .ok (.putfield 633, 3) := by decide +kernel
theorem dX11_laysBest_169 : decode cX11_laysBest 169 = .ok (.aload_n 0, 1) := by decide +kernel
theorem dX11_laysBest_170 : decode cX11_laysBest 170 = .ok (.aload_n 0, 1) := by decide +kernel
theorem dX11_laysBest_171 : decode cX11_laysBest 171 = .ok (.getfield 621, 3) := by decide +kernel
theorem dX11_laysBest_174 : decode cX11_laysBest 174 = .ok (.putfield 636, 3) := by decide +kernel
theorem dX11_laysBest_177 : decode cX11_laysBest 177 = .ok (.aload_n 0, 1) := by decide +kernel
theorem dX11_laysBest_178 : decode cX11_laysBest 178 = .ok (.aload_n 0, 1) := by decide +kernel
theorem dX11_laysBest_179 : decode cX11_laysBest 179 = .ok (.getfield 624, 3) := by decide +kernel
theorem dX11_laysBest_182 : decode cX11_laysBest 182 = .ok (.putfield 639, 3) := by decide +kernel
theorem dX11_laysBest_185 : decode cX11_laysBest 185 = .ok (.aload_n 0, 1) := by decide +kernel
theorem dX11_laysBest_186 : decode cX11_laysBest 186 = .ok (.aload_n 0, 1) := by decide +kernel
theorem dX11_laysBest_187 : decode cX11_laysBest 187 = .ok (.getfield 614, 3) := by decide +kernel
theorem dX11_laysBest_190 : decode cX11_laysBest 190 = .ok (.putfield 642, 3) := by decide +kernel
theorem dX11_laysBest_193 : decode cX11_laysBest 193 = .ok (.iinc 7 1, 3) := by decide +kernel
theorem dX11_laysBest_196 : decode cX11_laysBest 196 = .ok (.goto (-131), 3) := by decide +kernel
theorem dX11_laysBest_199 : decode cX11_laysBest 199 = .ok (.iinc 6 1, 3) := by decide +kernel
theorem dX11_laysBest_202 : decode cX11_laysBest 202 = .ok (.goto (-146), 3) := by decide +kernel
theorem dX11_laysBest_205 : decode cX11_laysBest 205 = .ok (.iinc 5 1, 3) := by decide +kernel
theorem dX11_laysBest_208 : decode cX11_laysBest 208 = .ok (.goto (-164), 3) := by decide +kernel
theorem dX11_laysBest_211 : decode cX11_laysBest 211 = .ok (.iload_n 2, 1) := by decide +kernel
theorem dX11_laysBest_212 : decode cX11_laysBest 212 = .ok (.ireturn, 1) := by decide +kernel
def mM_laysBest_159 (k44 : Int32 → Int32 → Int32 → Int32 → Int32 → hI → hJ → Option (Int32 × hI × hJ)) (k56 : Int32 → Int32 → Int32 → Int32 → Int32 → Int32 → hI → hJ → Option (Int32 × hI × hJ)) (k65 : Int32 → Int32 → Int32 → Int32 → Int32 → Int32 → Int32 → hI → hJ → Option (Int32 × hI × hJ)) (v1 : Int32) (v3 : Int32) (v4 : Int32) (v5 : Int32) (v6 : Int32) (v7 : Int32) (I : hI) (J : hJ) : Option (Int32 × hI × hJ) :=
  h_let (h_u J 0 93 (J 0 89)) fun J1 =>
  h_let (h_u J1 0 94 (J1 0 90)) fun J2 =>
  h_let (h_u J2 0 95 (J2 0 91)) fun J3 =>
  h_let (h_u J3 0 96 (J3 0 92)) fun J4 =>
  k65 v1 (1 : Int32) v3 v4 v5 v6 (v7 + (1 : Int32)) I J4
set_option maxHeartbeats 4000000 in
theorem sM_laysBest_159 (d : Nat) (hd : 2 + 1 ≤ d) (k44 : Int32 → Int32 → Int32 → Int32 → Int32 → hI → hJ → Option (Int32 × hI × hJ)) (hk44 : ∀ (v1 : Int32) (v2 : Int32) (v3 : Int32) (v4 : Int32) (v5 : Int32) (I : hI) (J : hJ) (q : Int32 × hI × hJ), k44 v1 v2 v3 v4 v5 I J = some q → AW hFT cX11_laysBest 9 (some .boolean) RX11 kdM d [(0, .ref 0), (1, .int v1), (2, .int v2), (3, .int v3), (4, .int v4), (5, .int v5)] 44 [] (I, J, RMm) (some (.int q.1)) (q.2.1, q.2.2, RMm)) (k56 : Int32 → Int32 → Int32 → Int32 → Int32 → Int32 → hI → hJ → Option (Int32 × hI × hJ)) (hk56 : ∀ (v1 : Int32) (v2 : Int32) (v3 : Int32) (v4 : Int32) (v5 : Int32) (v6 : Int32) (I : hI) (J : hJ) (q : Int32 × hI × hJ), k56 v1 v2 v3 v4 v5 v6 I J = some q → AW hFT cX11_laysBest 9 (some .boolean) RX11 kdM d [(0, .ref 0), (1, .int v1), (2, .int v2), (3, .int v3), (4, .int v4), (5, .int v5), (6, .int v6)] 56 [] (I, J, RMm) (some (.int q.1)) (q.2.1, q.2.2, RMm)) (k65 : Int32 → Int32 → Int32 → Int32 → Int32 → Int32 → Int32 → hI → hJ → Option (Int32 × hI × hJ)) (hk65 : ∀ (v1 : Int32) (v2 : Int32) (v3 : Int32) (v4 : Int32) (v5 : Int32) (v6 : Int32) (v7 : Int32) (I : hI) (J : hJ) (q : Int32 × hI × hJ), k65 v1 v2 v3 v4 v5 v6 v7 I J = some q → AW hFT cX11_laysBest 9 (some .boolean) RX11 kdM d [(0, .ref 0), (1, .int v1), (2, .int v2), (3, .int v3), (4, .int v4), (5, .int v5), (6, .int v6), (7, .int v7)] 65 [] (I, J, RMm) (some (.int q.1)) (q.2.1, q.2.2, RMm)) (v1 : Int32) (v3 : Int32) (v4 : Int32) (v5 : Int32) (v6 : Int32) (v7 : Int32) (I : hI) (J : hJ) (q : Int32 × hI × hJ) (h : mM_laysBest_159 k44 k56 k65 v1 v3 v4 v5 v6 v7 I J = some q) : AW hFT cX11_laysBest 9 (some .boolean) RX11 kdM d [(0, .ref 0), (1, .int v1), (3, .int v3), (4, .int v4), (5, .int v5), (6, .int v6), (7, .int v7)] 159 [] (I, J, RMm) (some (.int q.1)) (q.2.1, q.2.2, RMm) := by
  obtain ⟨d0, rfl, hd0⟩ := h_mono hd
  unfold mM_laysBest_159 at h
  refine a_iconst dX11_laysBest_159 ic_1 ?_
  refine a_istore_n (lv' := [(2, .int (1 : Int32)), (0, .ref 0), (1, .int v1), (3, .int v3), (4, .int v4), (5, .int v5), (6, .int v6), (7, .int v7)]) dX11_laysBest_160 rfl (by decide) rfl ?_
  refine a_aload_n dX11_laysBest_161 rfl rfl ?_
  refine a_aload_n dX11_laysBest_162 rfl rfl ?_
  refine b_getJ hK_11 km_0 (i := 89) rfl fl_11_618 rfl dX11_laysBest_163 ?_
  refine b_putJ hK_11 km_0 (i := 93) rfl fl_11_633 rfl rfl (h_NJ _) dX11_laysBest_166 ?_
  obtain ⟨J1, eJ1, h⟩ := h_letS h
  refine a_memJ eJ1 ?_
  refine a_aload_n dX11_laysBest_169 rfl rfl ?_
  refine a_aload_n dX11_laysBest_170 rfl rfl ?_
  refine b_getJ hK_11 km_0 (i := 90) rfl fl_11_621 rfl dX11_laysBest_171 ?_
  refine b_putJ hK_11 km_0 (i := 94) rfl fl_11_636 rfl rfl (h_NJ _) dX11_laysBest_174 ?_
  obtain ⟨J2, eJ2, h⟩ := h_letS h
  refine a_memJ eJ2 ?_
  refine a_aload_n dX11_laysBest_177 rfl rfl ?_
  refine a_aload_n dX11_laysBest_178 rfl rfl ?_
  refine b_getJ hK_11 km_0 (i := 91) rfl fl_11_624 rfl dX11_laysBest_179 ?_
  refine b_putJ hK_11 km_0 (i := 95) rfl fl_11_639 rfl rfl (h_NJ _) dX11_laysBest_182 ?_
  obtain ⟨J3, eJ3, h⟩ := h_letS h
  refine a_memJ eJ3 ?_
  refine a_aload_n dX11_laysBest_185 rfl rfl ?_
  refine a_aload_n dX11_laysBest_186 rfl rfl ?_
  refine b_getJ hK_11 km_0 (i := 92) rfl fl_11_614 rfl dX11_laysBest_187 ?_
  refine b_putJ hK_11 km_0 (i := 96) rfl fl_11_642 rfl rfl (h_NJ _) dX11_laysBest_190 ?_
  obtain ⟨J4, eJ4, h⟩ := h_letS h
  refine a_memJ eJ4 ?_
  refine b_iinc (lv' := [(7, .int (v7 + (1 : Int32))), (2, .int (1 : Int32)), (0, .ref 0), (1, .int v1), (3, .int v3), (4, .int v4), (5, .int v5), (6, .int v6)]) dX11_laysBest_193 rfl ic_1 (by decide) rfl ?_
  refine a_goto (tgt := 65) dX11_laysBest_196 (by decide) ?_
  refine a_sub (lv' := [(0, .ref 0), (1, .int v1), (2, .int (1 : Int32)), (3, .int v3), (4, .int v4), (5, .int v5), (6, .int v6), (7, .int (v7 + (1 : Int32)))]) [2, 3, 1, 4, 5, 6, 7, 0] rfl ?_
  exact hk65 v1 (1 : Int32) v3 v4 v5 v6 (v7 + (1 : Int32)) I J4 _ h
def mM_laysBest_120 (k44 : Int32 → Int32 → Int32 → Int32 → Int32 → hI → hJ → Option (Int32 × hI × hJ)) (k56 : Int32 → Int32 → Int32 → Int32 → Int32 → Int32 → hI → hJ → Option (Int32 × hI × hJ)) (k65 : Int32 → Int32 → Int32 → Int32 → Int32 → Int32 → Int32 → hI → hJ → Option (Int32 × hI × hJ)) (v1 : Int32) (v2 : Int32) (v3 : Int32) (v4 : Int32) (v5 : Int32) (v6 : Int32) (v7 : Int32) (vs0 : Int32) (I : hI) (J : hJ) : Option (Int32 × hI × hJ) :=
  if vs0 = 0 then
    k65 v1 v2 v3 v4 v5 v6 (v7 + (1 : Int32)) I J
  else
    ((mM_laysCorner v5 v6 v7 I J).bind fun q1 =>
    if q1.1 = 0 then
      k65 v1 v2 v3 v4 v5 v6 (v7 + (1 : Int32)) I q1.2
    else
      ((mM_holdsAll I q1.2).bind fun q2 =>
      if q2 = 0 then
        k65 v1 v2 v3 v4 v5 v6 (v7 + (1 : Int32)) I q1.2
      else
        (if v2 = 0 then
          mM_laysBest_159 k44 k56 k65 v1 v3 v4 v5 v6 v7 I q1.2
        else
          ((mM_isBetter v1 I q1.2).bind fun q3 =>
          if q3 = 0 then
            k65 v1 v2 v3 v4 v5 v6 (v7 + (1 : Int32)) I q1.2
          else
            mM_laysBest_159 k44 k56 k65 v1 v3 v4 v5 v6 v7 I q1.2))))
set_option maxHeartbeats 4000000 in
theorem sM_laysBest_120 (d : Nat) (hd : 2 + 1 ≤ d) (k44 : Int32 → Int32 → Int32 → Int32 → Int32 → hI → hJ → Option (Int32 × hI × hJ)) (hk44 : ∀ (v1 : Int32) (v2 : Int32) (v3 : Int32) (v4 : Int32) (v5 : Int32) (I : hI) (J : hJ) (q : Int32 × hI × hJ), k44 v1 v2 v3 v4 v5 I J = some q → AW hFT cX11_laysBest 9 (some .boolean) RX11 kdM d [(0, .ref 0), (1, .int v1), (2, .int v2), (3, .int v3), (4, .int v4), (5, .int v5)] 44 [] (I, J, RMm) (some (.int q.1)) (q.2.1, q.2.2, RMm)) (k56 : Int32 → Int32 → Int32 → Int32 → Int32 → Int32 → hI → hJ → Option (Int32 × hI × hJ)) (hk56 : ∀ (v1 : Int32) (v2 : Int32) (v3 : Int32) (v4 : Int32) (v5 : Int32) (v6 : Int32) (I : hI) (J : hJ) (q : Int32 × hI × hJ), k56 v1 v2 v3 v4 v5 v6 I J = some q → AW hFT cX11_laysBest 9 (some .boolean) RX11 kdM d [(0, .ref 0), (1, .int v1), (2, .int v2), (3, .int v3), (4, .int v4), (5, .int v5), (6, .int v6)] 56 [] (I, J, RMm) (some (.int q.1)) (q.2.1, q.2.2, RMm)) (k65 : Int32 → Int32 → Int32 → Int32 → Int32 → Int32 → Int32 → hI → hJ → Option (Int32 × hI × hJ)) (hk65 : ∀ (v1 : Int32) (v2 : Int32) (v3 : Int32) (v4 : Int32) (v5 : Int32) (v6 : Int32) (v7 : Int32) (I : hI) (J : hJ) (q : Int32 × hI × hJ), k65 v1 v2 v3 v4 v5 v6 v7 I J = some q → AW hFT cX11_laysBest 9 (some .boolean) RX11 kdM d [(0, .ref 0), (1, .int v1), (2, .int v2), (3, .int v3), (4, .int v4), (5, .int v5), (6, .int v6), (7, .int v7)] 65 [] (I, J, RMm) (some (.int q.1)) (q.2.1, q.2.2, RMm)) (v1 : Int32) (v2 : Int32) (v3 : Int32) (v4 : Int32) (v5 : Int32) (v6 : Int32) (v7 : Int32) (vs0 : Int32) (I : hI) (J : hJ) (q : Int32 × hI × hJ) (h : mM_laysBest_120 k44 k56 k65 v1 v2 v3 v4 v5 v6 v7 vs0 I J = some q) : AW hFT cX11_laysBest 9 (some .boolean) RX11 kdM d [(0, .ref 0), (1, .int v1), (2, .int v2), (3, .int v3), (4, .int v4), (5, .int v5), (6, .int v6), (7, .int v7)] 120 [.int vs0] (I, J, RMm) (some (.int q.1)) (q.2.1, q.2.2, RMm) := by
  obtain ⟨d0, rfl, hd0⟩ := h_mono hd
  unfold mM_laysBest_120 at h
  refine a_istore (lv' := [(8, .int vs0), (0, .ref 0), (1, .int v1), (2, .int v2), (3, .int v3), (4, .int v4), (5, .int v5), (6, .int v6), (7, .int v7)]) dX11_laysBest_120 (by decide) rfl ?_
  refine a_iload dX11_laysBest_122 rfl ?_
  refine a_if_eq (tgt := 193) dX11_laysBest_124 (by decide) (fun c => ?_) (fun c => ?_)
  · replace h := h_iteT c h
    refine b_iinc (lv' := [(7, .int (v7 + (1 : Int32))), (8, .int vs0), (0, .ref 0), (1, .int v1), (2, .int v2), (3, .int v3), (4, .int v4), (5, .int v5), (6, .int v6)]) dX11_laysBest_193 rfl ic_1 (by decide) rfl ?_
    refine a_goto (tgt := 65) dX11_laysBest_196 (by decide) ?_
    refine a_sub (lv' := [(0, .ref 0), (1, .int v1), (2, .int v2), (3, .int v3), (4, .int v4), (5, .int v5), (6, .int v6), (7, .int (v7 + (1 : Int32)))]) [2, 3, 4, 5, 6, 7, 8, 0] rfl ?_
    exact hk65 v1 v2 v3 v4 v5 v6 (v7 + (1 : Int32)) I J _ h
  · replace h := h_iteF c h
    refine a_aload_n dX11_laysBest_127 rfl rfl ?_
    refine a_iload dX11_laysBest_128 rfl ?_
    refine a_iload dX11_laysBest_130 rfl ?_
    refine a_iload dX11_laysBest_132 rfl ?_
    obtain ⟨q1, cq1, h⟩ := h_bindS h
    refine a_callV1 [] yy_X11_laysCorner ml_11_652 km_0 rfl (sM_laysCorner _ (by omega) v5 v6 v7 I J q1 cq1) rfl rfl (Nat.le_of_ble_eq_true rfl) dX11_laysBest_134 ?_
    refine a_if_eq (tgt := 193) dX11_laysBest_137 (by decide) (fun c => ?_) (fun c => ?_)
    · replace h := h_iteT c h
      refine b_iinc (lv' := [(7, .int (v7 + (1 : Int32))), (8, .int vs0), (0, .ref 0), (1, .int v1), (2, .int v2), (3, .int v3), (4, .int v4), (5, .int v5), (6, .int v6)]) dX11_laysBest_193 rfl ic_1 (by decide) rfl ?_
      refine a_goto (tgt := 65) dX11_laysBest_196 (by decide) ?_
      refine a_sub (lv' := [(0, .ref 0), (1, .int v1), (2, .int v2), (3, .int v3), (4, .int v4), (5, .int v5), (6, .int v6), (7, .int (v7 + (1 : Int32)))]) [2, 3, 4, 5, 6, 7, 8, 0] rfl ?_
      exact hk65 v1 v2 v3 v4 v5 v6 (v7 + (1 : Int32)) I q1.2 _ h
    · replace h := h_iteF c h
      refine a_aload_n dX11_laysBest_140 rfl rfl ?_
      obtain ⟨q2, cq2, h⟩ := h_bindS h
      refine a_callV1 [] yy_X11_holdsAll ml_11_655 km_0 rfl (sM_holdsAll _ (by omega)  I q1.2 q2 cq2) rfl rfl (Nat.le_of_ble_eq_true rfl) dX11_laysBest_141 ?_
      refine a_if_eq (tgt := 193) dX11_laysBest_144 (by decide) (fun c => ?_) (fun c => ?_)
      · replace h := h_iteT c h
        refine b_iinc (lv' := [(7, .int (v7 + (1 : Int32))), (8, .int vs0), (0, .ref 0), (1, .int v1), (2, .int v2), (3, .int v3), (4, .int v4), (5, .int v5), (6, .int v6)]) dX11_laysBest_193 rfl ic_1 (by decide) rfl ?_
        refine a_goto (tgt := 65) dX11_laysBest_196 (by decide) ?_
        refine a_sub (lv' := [(0, .ref 0), (1, .int v1), (2, .int v2), (3, .int v3), (4, .int v4), (5, .int v5), (6, .int v6), (7, .int (v7 + (1 : Int32)))]) [2, 3, 4, 5, 6, 7, 8, 0] rfl ?_
        exact hk65 v1 v2 v3 v4 v5 v6 (v7 + (1 : Int32)) I q1.2 _ h
      · replace h := h_iteF c h
        refine a_iload_n dX11_laysBest_147 rfl rfl ?_
        refine a_if_eq (tgt := 159) dX11_laysBest_148 (by decide) (fun c => ?_) (fun c => ?_)
        · replace h := h_iteT c h
          refine a_sub (lv' := [(0, .ref 0), (1, .int v1), (3, .int v3), (4, .int v4), (5, .int v5), (6, .int v6), (7, .int v7)]) [1, 2, 4, 5, 6, 7, 8] rfl ?_
          exact sM_laysBest_159 (d0 + 1) (by omega) k44 hk44 k56 hk56 k65 hk65 v1 v3 v4 v5 v6 v7 I q1.2 _ h
        · replace h := h_iteF c h
          refine a_aload_n dX11_laysBest_151 rfl rfl ?_
          refine a_iload_n dX11_laysBest_152 rfl rfl ?_
          obtain ⟨q3, cq3, h⟩ := h_bindS h
          refine a_callV1 [] yy_X11_isBetter ml_11_658 km_0 rfl (sM_isBetter _ (by omega) v1 I q1.2 q3 cq3) rfl rfl (Nat.le_of_ble_eq_true rfl) dX11_laysBest_153 ?_
          refine a_if_eq (tgt := 193) dX11_laysBest_156 (by decide) (fun c => ?_) (fun c => ?_)
          · replace h := h_iteT c h
            refine b_iinc (lv' := [(7, .int (v7 + (1 : Int32))), (8, .int vs0), (0, .ref 0), (1, .int v1), (2, .int v2), (3, .int v3), (4, .int v4), (5, .int v5), (6, .int v6)]) dX11_laysBest_193 rfl ic_1 (by decide) rfl ?_
            refine a_goto (tgt := 65) dX11_laysBest_196 (by decide) ?_
            refine a_sub (lv' := [(0, .ref 0), (1, .int v1), (2, .int v2), (3, .int v3), (4, .int v4), (5, .int v5), (6, .int v6), (7, .int (v7 + (1 : Int32)))]) [2, 3, 4, 5, 6, 7, 8, 0] rfl ?_
            exact hk65 v1 v2 v3 v4 v5 v6 (v7 + (1 : Int32)) I q1.2 _ h
          · replace h := h_iteF c h
            refine a_sub (lv' := [(0, .ref 0), (1, .int v1), (3, .int v3), (4, .int v4), (5, .int v5), (6, .int v6), (7, .int v7)]) [1, 2, 4, 5, 6, 7, 8] rfl ?_
            exact sM_laysBest_159 (d0 + 1) (by omega) k44 hk44 k56 hk56 k65 hk65 v1 v3 v4 v5 v6 v7 I q1.2 _ h
def mM_laysBest_119 (k44 : Int32 → Int32 → Int32 → Int32 → Int32 → hI → hJ → Option (Int32 × hI × hJ)) (k56 : Int32 → Int32 → Int32 → Int32 → Int32 → Int32 → hI → hJ → Option (Int32 × hI × hJ)) (k65 : Int32 → Int32 → Int32 → Int32 → Int32 → Int32 → Int32 → hI → hJ → Option (Int32 × hI × hJ)) (v1 : Int32) (v2 : Int32) (v3 : Int32) (v4 : Int32) (v5 : Int32) (v6 : Int32) (v7 : Int32) (I : hI) (J : hJ) : Option (Int32 × hI × hJ) :=
  mM_laysBest_120 k44 k56 k65 v1 v2 v3 v4 v5 v6 v7 (0 : Int32) I J
set_option maxHeartbeats 4000000 in
theorem sM_laysBest_119 (d : Nat) (hd : 2 + 1 ≤ d) (k44 : Int32 → Int32 → Int32 → Int32 → Int32 → hI → hJ → Option (Int32 × hI × hJ)) (hk44 : ∀ (v1 : Int32) (v2 : Int32) (v3 : Int32) (v4 : Int32) (v5 : Int32) (I : hI) (J : hJ) (q : Int32 × hI × hJ), k44 v1 v2 v3 v4 v5 I J = some q → AW hFT cX11_laysBest 9 (some .boolean) RX11 kdM d [(0, .ref 0), (1, .int v1), (2, .int v2), (3, .int v3), (4, .int v4), (5, .int v5)] 44 [] (I, J, RMm) (some (.int q.1)) (q.2.1, q.2.2, RMm)) (k56 : Int32 → Int32 → Int32 → Int32 → Int32 → Int32 → hI → hJ → Option (Int32 × hI × hJ)) (hk56 : ∀ (v1 : Int32) (v2 : Int32) (v3 : Int32) (v4 : Int32) (v5 : Int32) (v6 : Int32) (I : hI) (J : hJ) (q : Int32 × hI × hJ), k56 v1 v2 v3 v4 v5 v6 I J = some q → AW hFT cX11_laysBest 9 (some .boolean) RX11 kdM d [(0, .ref 0), (1, .int v1), (2, .int v2), (3, .int v3), (4, .int v4), (5, .int v5), (6, .int v6)] 56 [] (I, J, RMm) (some (.int q.1)) (q.2.1, q.2.2, RMm)) (k65 : Int32 → Int32 → Int32 → Int32 → Int32 → Int32 → Int32 → hI → hJ → Option (Int32 × hI × hJ)) (hk65 : ∀ (v1 : Int32) (v2 : Int32) (v3 : Int32) (v4 : Int32) (v5 : Int32) (v6 : Int32) (v7 : Int32) (I : hI) (J : hJ) (q : Int32 × hI × hJ), k65 v1 v2 v3 v4 v5 v6 v7 I J = some q → AW hFT cX11_laysBest 9 (some .boolean) RX11 kdM d [(0, .ref 0), (1, .int v1), (2, .int v2), (3, .int v3), (4, .int v4), (5, .int v5), (6, .int v6), (7, .int v7)] 65 [] (I, J, RMm) (some (.int q.1)) (q.2.1, q.2.2, RMm)) (v1 : Int32) (v2 : Int32) (v3 : Int32) (v4 : Int32) (v5 : Int32) (v6 : Int32) (v7 : Int32) (I : hI) (J : hJ) (q : Int32 × hI × hJ) (h : mM_laysBest_119 k44 k56 k65 v1 v2 v3 v4 v5 v6 v7 I J = some q) : AW hFT cX11_laysBest 9 (some .boolean) RX11 kdM d [(0, .ref 0), (1, .int v1), (2, .int v2), (3, .int v3), (4, .int v4), (5, .int v5), (6, .int v6), (7, .int v7)] 119 [] (I, J, RMm) (some (.int q.1)) (q.2.1, q.2.2, RMm) := by
  obtain ⟨d0, rfl, hd0⟩ := h_mono hd
  unfold mM_laysBest_119 at h
  refine a_iconst dX11_laysBest_119 ic_0 ?_
  exact sM_laysBest_120 (d0 + 1) (by omega) k44 hk44 k56 hk56 k65 hk65 v1 v2 v3 v4 v5 v6 v7 (0 : Int32) I J _ h
def mM_laysBest_97 (k44 : Int32 → Int32 → Int32 → Int32 → Int32 → hI → hJ → Option (Int32 × hI × hJ)) (k56 : Int32 → Int32 → Int32 → Int32 → Int32 → Int32 → hI → hJ → Option (Int32 × hI × hJ)) (k65 : Int32 → Int32 → Int32 → Int32 → Int32 → Int32 → Int32 → hI → hJ → Option (Int32 × hI × hJ)) (v1 : Int32) (v2 : Int32) (v3 : Int32) (v4 : Int32) (v5 : Int32) (v6 : Int32) (v7 : Int32) (I : hI) (J : hJ) : Option (Int32 × hI × hJ) :=
  if v3 = (1 : Int32) then
    mM_laysBest_120 k44 k56 k65 v1 v2 v3 v4 v5 v6 v7 (1 : Int32) I J
  else
    (if v4 = (1 : Int32) then
      mM_laysBest_120 k44 k56 k65 v1 v2 v3 v4 v5 v6 v7 (1 : Int32) I J
    else
      (if v7 ≤ v6 then
        mM_laysBest_119 k44 k56 k65 v1 v2 v3 v4 v5 v6 v7 I J
      else
        mM_laysBest_120 k44 k56 k65 v1 v2 v3 v4 v5 v6 v7 (1 : Int32) I J))
set_option maxHeartbeats 4000000 in
theorem sM_laysBest_97 (d : Nat) (hd : 2 + 1 ≤ d) (k44 : Int32 → Int32 → Int32 → Int32 → Int32 → hI → hJ → Option (Int32 × hI × hJ)) (hk44 : ∀ (v1 : Int32) (v2 : Int32) (v3 : Int32) (v4 : Int32) (v5 : Int32) (I : hI) (J : hJ) (q : Int32 × hI × hJ), k44 v1 v2 v3 v4 v5 I J = some q → AW hFT cX11_laysBest 9 (some .boolean) RX11 kdM d [(0, .ref 0), (1, .int v1), (2, .int v2), (3, .int v3), (4, .int v4), (5, .int v5)] 44 [] (I, J, RMm) (some (.int q.1)) (q.2.1, q.2.2, RMm)) (k56 : Int32 → Int32 → Int32 → Int32 → Int32 → Int32 → hI → hJ → Option (Int32 × hI × hJ)) (hk56 : ∀ (v1 : Int32) (v2 : Int32) (v3 : Int32) (v4 : Int32) (v5 : Int32) (v6 : Int32) (I : hI) (J : hJ) (q : Int32 × hI × hJ), k56 v1 v2 v3 v4 v5 v6 I J = some q → AW hFT cX11_laysBest 9 (some .boolean) RX11 kdM d [(0, .ref 0), (1, .int v1), (2, .int v2), (3, .int v3), (4, .int v4), (5, .int v5), (6, .int v6)] 56 [] (I, J, RMm) (some (.int q.1)) (q.2.1, q.2.2, RMm)) (k65 : Int32 → Int32 → Int32 → Int32 → Int32 → Int32 → Int32 → hI → hJ → Option (Int32 × hI × hJ)) (hk65 : ∀ (v1 : Int32) (v2 : Int32) (v3 : Int32) (v4 : Int32) (v5 : Int32) (v6 : Int32) (v7 : Int32) (I : hI) (J : hJ) (q : Int32 × hI × hJ), k65 v1 v2 v3 v4 v5 v6 v7 I J = some q → AW hFT cX11_laysBest 9 (some .boolean) RX11 kdM d [(0, .ref 0), (1, .int v1), (2, .int v2), (3, .int v3), (4, .int v4), (5, .int v5), (6, .int v6), (7, .int v7)] 65 [] (I, J, RMm) (some (.int q.1)) (q.2.1, q.2.2, RMm)) (v1 : Int32) (v2 : Int32) (v3 : Int32) (v4 : Int32) (v5 : Int32) (v6 : Int32) (v7 : Int32) (I : hI) (J : hJ) (q : Int32 × hI × hJ) (h : mM_laysBest_97 k44 k56 k65 v1 v2 v3 v4 v5 v6 v7 I J = some q) : AW hFT cX11_laysBest 9 (some .boolean) RX11 kdM d [(0, .ref 0), (1, .int v1), (2, .int v2), (3, .int v3), (4, .int v4), (5, .int v5), (6, .int v6), (7, .int v7)] 97 [] (I, J, RMm) (some (.int q.1)) (q.2.1, q.2.2, RMm) := by
  obtain ⟨d0, rfl, hd0⟩ := h_mono hd
  unfold mM_laysBest_97 at h
  refine a_iload_n dX11_laysBest_97 rfl rfl ?_
  refine a_iconst dX11_laysBest_98 ic_1 ?_
  refine a_icmp_eq (tgt := 115) dX11_laysBest_99 (by decide) (fun c => ?_) (fun c => ?_)
  · replace h := h_iteT c h
    refine a_iconst dX11_laysBest_115 ic_1 ?_
    refine a_goto (tgt := 120) dX11_laysBest_116 (by decide) ?_
    exact sM_laysBest_120 (d0 + 1) (by omega) k44 hk44 k56 hk56 k65 hk65 v1 v2 v3 v4 v5 v6 v7 (1 : Int32) I J _ h
  · replace h := h_iteF c h
    refine a_iload dX11_laysBest_102 rfl ?_
    refine a_iconst dX11_laysBest_104 ic_1 ?_
    refine a_icmp_eq (tgt := 115) dX11_laysBest_105 (by decide) (fun c => ?_) (fun c => ?_)
    · replace h := h_iteT c h
      refine a_iconst dX11_laysBest_115 ic_1 ?_
      refine a_goto (tgt := 120) dX11_laysBest_116 (by decide) ?_
      exact sM_laysBest_120 (d0 + 1) (by omega) k44 hk44 k56 hk56 k65 hk65 v1 v2 v3 v4 v5 v6 v7 (1 : Int32) I J _ h
    · replace h := h_iteF c h
      refine a_iload dX11_laysBest_108 rfl ?_
      refine a_iload dX11_laysBest_110 rfl ?_
      refine a_icmp_ge (tgt := 119) dX11_laysBest_112 (by decide) (fun c => ?_) (fun c => ?_)
      · replace h := h_iteT c h
        exact sM_laysBest_119 (d0 + 1) (by omega) k44 hk44 k56 hk56 k65 hk65 v1 v2 v3 v4 v5 v6 v7 I J _ h
      · replace h := h_iteF c h
        refine a_iconst dX11_laysBest_115 ic_1 ?_
        refine a_goto (tgt := 120) dX11_laysBest_116 (by decide) ?_
        exact sM_laysBest_120 (d0 + 1) (by omega) k44 hk44 k56 hk56 k65 hk65 v1 v2 v3 v4 v5 v6 v7 (1 : Int32) I J _ h
def mM_laysBest_84 (k44 : Int32 → Int32 → Int32 → Int32 → Int32 → hI → hJ → Option (Int32 × hI × hJ)) (k56 : Int32 → Int32 → Int32 → Int32 → Int32 → Int32 → hI → hJ → Option (Int32 × hI × hJ)) (k65 : Int32 → Int32 → Int32 → Int32 → Int32 → Int32 → Int32 → hI → hJ → Option (Int32 × hI × hJ)) (v1 : Int32) (v2 : Int32) (v3 : Int32) (v4 : Int32) (v5 : Int32) (v6 : Int32) (v7 : Int32) (I : hI) (J : hJ) : Option (Int32 × hI × hJ) :=
  if v4 = (1 : Int32) then
    mM_laysBest_97 k44 k56 k65 v1 v2 v3 v4 v5 v6 v7 I J
  else
    (if v7 ≤ v5 then
      mM_laysBest_119 k44 k56 k65 v1 v2 v3 v4 v5 v6 v7 I J
    else
      mM_laysBest_97 k44 k56 k65 v1 v2 v3 v4 v5 v6 v7 I J)
set_option maxHeartbeats 4000000 in
theorem sM_laysBest_84 (d : Nat) (hd : 2 + 1 ≤ d) (k44 : Int32 → Int32 → Int32 → Int32 → Int32 → hI → hJ → Option (Int32 × hI × hJ)) (hk44 : ∀ (v1 : Int32) (v2 : Int32) (v3 : Int32) (v4 : Int32) (v5 : Int32) (I : hI) (J : hJ) (q : Int32 × hI × hJ), k44 v1 v2 v3 v4 v5 I J = some q → AW hFT cX11_laysBest 9 (some .boolean) RX11 kdM d [(0, .ref 0), (1, .int v1), (2, .int v2), (3, .int v3), (4, .int v4), (5, .int v5)] 44 [] (I, J, RMm) (some (.int q.1)) (q.2.1, q.2.2, RMm)) (k56 : Int32 → Int32 → Int32 → Int32 → Int32 → Int32 → hI → hJ → Option (Int32 × hI × hJ)) (hk56 : ∀ (v1 : Int32) (v2 : Int32) (v3 : Int32) (v4 : Int32) (v5 : Int32) (v6 : Int32) (I : hI) (J : hJ) (q : Int32 × hI × hJ), k56 v1 v2 v3 v4 v5 v6 I J = some q → AW hFT cX11_laysBest 9 (some .boolean) RX11 kdM d [(0, .ref 0), (1, .int v1), (2, .int v2), (3, .int v3), (4, .int v4), (5, .int v5), (6, .int v6)] 56 [] (I, J, RMm) (some (.int q.1)) (q.2.1, q.2.2, RMm)) (k65 : Int32 → Int32 → Int32 → Int32 → Int32 → Int32 → Int32 → hI → hJ → Option (Int32 × hI × hJ)) (hk65 : ∀ (v1 : Int32) (v2 : Int32) (v3 : Int32) (v4 : Int32) (v5 : Int32) (v6 : Int32) (v7 : Int32) (I : hI) (J : hJ) (q : Int32 × hI × hJ), k65 v1 v2 v3 v4 v5 v6 v7 I J = some q → AW hFT cX11_laysBest 9 (some .boolean) RX11 kdM d [(0, .ref 0), (1, .int v1), (2, .int v2), (3, .int v3), (4, .int v4), (5, .int v5), (6, .int v6), (7, .int v7)] 65 [] (I, J, RMm) (some (.int q.1)) (q.2.1, q.2.2, RMm)) (v1 : Int32) (v2 : Int32) (v3 : Int32) (v4 : Int32) (v5 : Int32) (v6 : Int32) (v7 : Int32) (I : hI) (J : hJ) (q : Int32 × hI × hJ) (h : mM_laysBest_84 k44 k56 k65 v1 v2 v3 v4 v5 v6 v7 I J = some q) : AW hFT cX11_laysBest 9 (some .boolean) RX11 kdM d [(0, .ref 0), (1, .int v1), (2, .int v2), (3, .int v3), (4, .int v4), (5, .int v5), (6, .int v6), (7, .int v7)] 84 [] (I, J, RMm) (some (.int q.1)) (q.2.1, q.2.2, RMm) := by
  obtain ⟨d0, rfl, hd0⟩ := h_mono hd
  unfold mM_laysBest_84 at h
  refine a_iload dX11_laysBest_84 rfl ?_
  refine a_iconst dX11_laysBest_86 ic_1 ?_
  refine a_icmp_eq (tgt := 97) dX11_laysBest_87 (by decide) (fun c => ?_) (fun c => ?_)
  · replace h := h_iteT c h
    exact sM_laysBest_97 (d0 + 1) (by omega) k44 hk44 k56 hk56 k65 hk65 v1 v2 v3 v4 v5 v6 v7 I J _ h
  · replace h := h_iteF c h
    refine a_iload dX11_laysBest_90 rfl ?_
    refine a_iload dX11_laysBest_92 rfl ?_
    refine a_icmp_ge (tgt := 119) dX11_laysBest_94 (by decide) (fun c => ?_) (fun c => ?_)
    · replace h := h_iteT c h
      exact sM_laysBest_119 (d0 + 1) (by omega) k44 hk44 k56 hk56 k65 hk65 v1 v2 v3 v4 v5 v6 v7 I J _ h
    · replace h := h_iteF c h
      exact sM_laysBest_97 (d0 + 1) (by omega) k44 hk44 k56 hk56 k65 hk65 v1 v2 v3 v4 v5 v6 v7 I J _ h
def mM_laysBest_B65 (k44 : Int32 → Int32 → Int32 → Int32 → Int32 → hI → hJ → Option (Int32 × hI × hJ)) (k56 : Int32 → Int32 → Int32 → Int32 → Int32 → Int32 → hI → hJ → Option (Int32 × hI × hJ)) (k65 : Int32 → Int32 → Int32 → Int32 → Int32 → Int32 → Int32 → hI → hJ → Option (Int32 × hI × hJ)) (v1 : Int32) (v2 : Int32) (v3 : Int32) (v4 : Int32) (v5 : Int32) (v6 : Int32) (v7 : Int32) (I : hI) (J : hJ) : Option (Int32 × hI × hJ) :=
  if v4 ≤ v7 then
    k56 v1 v2 v3 v4 v5 (v6 + (1 : Int32)) I J
  else
    (if v3 = (1 : Int32) then
      mM_laysBest_84 k44 k56 k65 v1 v2 v3 v4 v5 v6 v7 I J
    else
      (if v6 ≤ v5 then
        mM_laysBest_119 k44 k56 k65 v1 v2 v3 v4 v5 v6 v7 I J
      else
        mM_laysBest_84 k44 k56 k65 v1 v2 v3 v4 v5 v6 v7 I J))
set_option maxHeartbeats 4000000 in
theorem sM_laysBest_B65 (d : Nat) (hd : 2 + 1 ≤ d) (k44 : Int32 → Int32 → Int32 → Int32 → Int32 → hI → hJ → Option (Int32 × hI × hJ)) (hk44 : ∀ (v1 : Int32) (v2 : Int32) (v3 : Int32) (v4 : Int32) (v5 : Int32) (I : hI) (J : hJ) (q : Int32 × hI × hJ), k44 v1 v2 v3 v4 v5 I J = some q → AW hFT cX11_laysBest 9 (some .boolean) RX11 kdM d [(0, .ref 0), (1, .int v1), (2, .int v2), (3, .int v3), (4, .int v4), (5, .int v5)] 44 [] (I, J, RMm) (some (.int q.1)) (q.2.1, q.2.2, RMm)) (k56 : Int32 → Int32 → Int32 → Int32 → Int32 → Int32 → hI → hJ → Option (Int32 × hI × hJ)) (hk56 : ∀ (v1 : Int32) (v2 : Int32) (v3 : Int32) (v4 : Int32) (v5 : Int32) (v6 : Int32) (I : hI) (J : hJ) (q : Int32 × hI × hJ), k56 v1 v2 v3 v4 v5 v6 I J = some q → AW hFT cX11_laysBest 9 (some .boolean) RX11 kdM d [(0, .ref 0), (1, .int v1), (2, .int v2), (3, .int v3), (4, .int v4), (5, .int v5), (6, .int v6)] 56 [] (I, J, RMm) (some (.int q.1)) (q.2.1, q.2.2, RMm)) (k65 : Int32 → Int32 → Int32 → Int32 → Int32 → Int32 → Int32 → hI → hJ → Option (Int32 × hI × hJ)) (hk65 : ∀ (v1 : Int32) (v2 : Int32) (v3 : Int32) (v4 : Int32) (v5 : Int32) (v6 : Int32) (v7 : Int32) (I : hI) (J : hJ) (q : Int32 × hI × hJ), k65 v1 v2 v3 v4 v5 v6 v7 I J = some q → AW hFT cX11_laysBest 9 (some .boolean) RX11 kdM d [(0, .ref 0), (1, .int v1), (2, .int v2), (3, .int v3), (4, .int v4), (5, .int v5), (6, .int v6), (7, .int v7)] 65 [] (I, J, RMm) (some (.int q.1)) (q.2.1, q.2.2, RMm)) (v1 : Int32) (v2 : Int32) (v3 : Int32) (v4 : Int32) (v5 : Int32) (v6 : Int32) (v7 : Int32) (I : hI) (J : hJ) (q : Int32 × hI × hJ) (h : mM_laysBest_B65 k44 k56 k65 v1 v2 v3 v4 v5 v6 v7 I J = some q) : AW hFT cX11_laysBest 9 (some .boolean) RX11 kdM d [(0, .ref 0), (1, .int v1), (2, .int v2), (3, .int v3), (4, .int v4), (5, .int v5), (6, .int v6), (7, .int v7)] 65 [] (I, J, RMm) (some (.int q.1)) (q.2.1, q.2.2, RMm) := by
  obtain ⟨d0, rfl, hd0⟩ := h_mono hd
  unfold mM_laysBest_B65 at h
  refine a_iload dX11_laysBest_65 rfl ?_
  refine a_iload dX11_laysBest_67 rfl ?_
  refine a_icmp_ge (tgt := 199) dX11_laysBest_69 (by decide) (fun c => ?_) (fun c => ?_)
  · replace h := h_iteT c h
    refine b_iinc (lv' := [(6, .int (v6 + (1 : Int32))), (0, .ref 0), (1, .int v1), (2, .int v2), (3, .int v3), (4, .int v4), (5, .int v5), (7, .int v7)]) dX11_laysBest_199 rfl ic_1 (by decide) rfl ?_
    refine a_goto (tgt := 56) dX11_laysBest_202 (by decide) ?_
    refine a_sub (lv' := [(0, .ref 0), (1, .int v1), (2, .int v2), (3, .int v3), (4, .int v4), (5, .int v5), (6, .int (v6 + (1 : Int32)))]) [1, 2, 3, 4, 5, 6, 0] rfl ?_
    exact hk56 v1 v2 v3 v4 v5 (v6 + (1 : Int32)) I J _ h
  · replace h := h_iteF c h
    refine a_iload_n dX11_laysBest_72 rfl rfl ?_
    refine a_iconst dX11_laysBest_73 ic_1 ?_
    refine a_icmp_eq (tgt := 84) dX11_laysBest_74 (by decide) (fun c => ?_) (fun c => ?_)
    · replace h := h_iteT c h
      exact sM_laysBest_84 (d0 + 1) (by omega) k44 hk44 k56 hk56 k65 hk65 v1 v2 v3 v4 v5 v6 v7 I J _ h
    · replace h := h_iteF c h
      refine a_iload dX11_laysBest_77 rfl ?_
      refine a_iload dX11_laysBest_79 rfl ?_
      refine a_icmp_ge (tgt := 119) dX11_laysBest_81 (by decide) (fun c => ?_) (fun c => ?_)
      · replace h := h_iteT c h
        exact sM_laysBest_119 (d0 + 1) (by omega) k44 hk44 k56 hk56 k65 hk65 v1 v2 v3 v4 v5 v6 v7 I J _ h
      · replace h := h_iteF c h
        exact sM_laysBest_84 (d0 + 1) (by omega) k44 hk44 k56 hk56 k65 hk65 v1 v2 v3 v4 v5 v6 v7 I J _ h
def mM_laysBest_L65 (k44 : Int32 → Int32 → Int32 → Int32 → Int32 → hI → hJ → Option (Int32 × hI × hJ)) (k56 : Int32 → Int32 → Int32 → Int32 → Int32 → Int32 → hI → hJ → Option (Int32 × hI × hJ)) : Nat → Int32 → Int32 → Int32 → Int32 → Int32 → Int32 → Int32 → hI → hJ → Option (Int32 × hI × hJ)
  | 0 => fun _ _ _ _ _ _ _ _ _ => none
  | n + 1 => mM_laysBest_B65 k44 k56 (mM_laysBest_L65 k44 k56 n)
theorem sM_laysBest_L65 (d : Nat) (hd : 2 + 1 ≤ d) (k44 : Int32 → Int32 → Int32 → Int32 → Int32 → hI → hJ → Option (Int32 × hI × hJ)) (hk44 : ∀ (v1 : Int32) (v2 : Int32) (v3 : Int32) (v4 : Int32) (v5 : Int32) (I : hI) (J : hJ) (q : Int32 × hI × hJ), k44 v1 v2 v3 v4 v5 I J = some q → AW hFT cX11_laysBest 9 (some .boolean) RX11 kdM d [(0, .ref 0), (1, .int v1), (2, .int v2), (3, .int v3), (4, .int v4), (5, .int v5)] 44 [] (I, J, RMm) (some (.int q.1)) (q.2.1, q.2.2, RMm)) (k56 : Int32 → Int32 → Int32 → Int32 → Int32 → Int32 → hI → hJ → Option (Int32 × hI × hJ)) (hk56 : ∀ (v1 : Int32) (v2 : Int32) (v3 : Int32) (v4 : Int32) (v5 : Int32) (v6 : Int32) (I : hI) (J : hJ) (q : Int32 × hI × hJ), k56 v1 v2 v3 v4 v5 v6 I J = some q → AW hFT cX11_laysBest 9 (some .boolean) RX11 kdM d [(0, .ref 0), (1, .int v1), (2, .int v2), (3, .int v3), (4, .int v4), (5, .int v5), (6, .int v6)] 56 [] (I, J, RMm) (some (.int q.1)) (q.2.1, q.2.2, RMm)) : ∀ (n : Nat) (v1 : Int32) (v2 : Int32) (v3 : Int32) (v4 : Int32) (v5 : Int32) (v6 : Int32) (v7 : Int32) (I : hI) (J : hJ) (q : Int32 × hI × hJ) (h : mM_laysBest_L65 k44 k56 n v1 v2 v3 v4 v5 v6 v7 I J = some q), AW hFT cX11_laysBest 9 (some .boolean) RX11 kdM d [(0, .ref 0), (1, .int v1), (2, .int v2), (3, .int v3), (4, .int v4), (5, .int v5), (6, .int v6), (7, .int v7)] 65 [] (I, J, RMm) (some (.int q.1)) (q.2.1, q.2.2, RMm)
  | 0, _, _, _, _, _, _, _, _, _, q, h => by cases h
  | n + 1, v1, v2, v3, v4, v5, v6, v7, I, J, q, h => sM_laysBest_B65 d hd k44 hk44 k56 hk56 (mM_laysBest_L65 k44 k56 n) (sM_laysBest_L65 d hd k44 hk44 k56 hk56 n) v1 v2 v3 v4 v5 v6 v7 I J q h
def mM_laysBest_B56 (k44 : Int32 → Int32 → Int32 → Int32 → Int32 → hI → hJ → Option (Int32 × hI × hJ)) (k56 : Int32 → Int32 → Int32 → Int32 → Int32 → Int32 → hI → hJ → Option (Int32 × hI × hJ)) (v1 : Int32) (v2 : Int32) (v3 : Int32) (v4 : Int32) (v5 : Int32) (v6 : Int32) (I : hI) (J : hJ) : Option (Int32 × hI × hJ) :=
  if v3 ≤ v6 then
    k44 v1 v2 v3 v4 (v5 + (1 : Int32)) I J
  else
    mM_laysBest_L65 k44 k56 hF v1 v2 v3 v4 v5 v6 (0 : Int32) I J
set_option maxHeartbeats 4000000 in
theorem sM_laysBest_B56 (d : Nat) (hd : 2 + 1 ≤ d) (k44 : Int32 → Int32 → Int32 → Int32 → Int32 → hI → hJ → Option (Int32 × hI × hJ)) (hk44 : ∀ (v1 : Int32) (v2 : Int32) (v3 : Int32) (v4 : Int32) (v5 : Int32) (I : hI) (J : hJ) (q : Int32 × hI × hJ), k44 v1 v2 v3 v4 v5 I J = some q → AW hFT cX11_laysBest 9 (some .boolean) RX11 kdM d [(0, .ref 0), (1, .int v1), (2, .int v2), (3, .int v3), (4, .int v4), (5, .int v5)] 44 [] (I, J, RMm) (some (.int q.1)) (q.2.1, q.2.2, RMm)) (k56 : Int32 → Int32 → Int32 → Int32 → Int32 → Int32 → hI → hJ → Option (Int32 × hI × hJ)) (hk56 : ∀ (v1 : Int32) (v2 : Int32) (v3 : Int32) (v4 : Int32) (v5 : Int32) (v6 : Int32) (I : hI) (J : hJ) (q : Int32 × hI × hJ), k56 v1 v2 v3 v4 v5 v6 I J = some q → AW hFT cX11_laysBest 9 (some .boolean) RX11 kdM d [(0, .ref 0), (1, .int v1), (2, .int v2), (3, .int v3), (4, .int v4), (5, .int v5), (6, .int v6)] 56 [] (I, J, RMm) (some (.int q.1)) (q.2.1, q.2.2, RMm)) (v1 : Int32) (v2 : Int32) (v3 : Int32) (v4 : Int32) (v5 : Int32) (v6 : Int32) (I : hI) (J : hJ) (q : Int32 × hI × hJ) (h : mM_laysBest_B56 k44 k56 v1 v2 v3 v4 v5 v6 I J = some q) : AW hFT cX11_laysBest 9 (some .boolean) RX11 kdM d [(0, .ref 0), (1, .int v1), (2, .int v2), (3, .int v3), (4, .int v4), (5, .int v5), (6, .int v6)] 56 [] (I, J, RMm) (some (.int q.1)) (q.2.1, q.2.2, RMm) := by
  obtain ⟨d0, rfl, hd0⟩ := h_mono hd
  unfold mM_laysBest_B56 at h
  refine a_iload dX11_laysBest_56 rfl ?_
  refine a_iload_n dX11_laysBest_58 rfl rfl ?_
  refine a_icmp_ge (tgt := 205) dX11_laysBest_59 (by decide) (fun c => ?_) (fun c => ?_)
  · replace h := h_iteT c h
    refine b_iinc (lv' := [(5, .int (v5 + (1 : Int32))), (0, .ref 0), (1, .int v1), (2, .int v2), (3, .int v3), (4, .int v4), (6, .int v6)]) dX11_laysBest_205 rfl ic_1 (by decide) rfl ?_
    refine a_goto (tgt := 44) dX11_laysBest_208 (by decide) ?_
    refine a_sub (lv' := [(0, .ref 0), (1, .int v1), (2, .int v2), (3, .int v3), (4, .int v4), (5, .int (v5 + (1 : Int32)))]) [1, 2, 3, 4, 5, 0] rfl ?_
    exact hk44 v1 v2 v3 v4 (v5 + (1 : Int32)) I J _ h
  · replace h := h_iteF c h
    refine a_iconst dX11_laysBest_62 ic_0 ?_
    refine a_istore (lv' := [(7, .int (0 : Int32)), (0, .ref 0), (1, .int v1), (2, .int v2), (3, .int v3), (4, .int v4), (5, .int v5), (6, .int v6)]) dX11_laysBest_63 (by decide) rfl ?_
    refine a_sub (lv' := [(0, .ref 0), (1, .int v1), (2, .int v2), (3, .int v3), (4, .int v4), (5, .int v5), (6, .int v6), (7, .int (0 : Int32))]) [1, 2, 3, 4, 5, 6, 7, 0] rfl ?_
    exact sM_laysBest_L65 (d0 + 1) (by omega) k44 hk44 k56 hk56 hF v1 v2 v3 v4 v5 v6 (0 : Int32) I J _ h
def mM_laysBest_L56 (k44 : Int32 → Int32 → Int32 → Int32 → Int32 → hI → hJ → Option (Int32 × hI × hJ)) : Nat → Int32 → Int32 → Int32 → Int32 → Int32 → Int32 → hI → hJ → Option (Int32 × hI × hJ)
  | 0 => fun _ _ _ _ _ _ _ _ => none
  | n + 1 => mM_laysBest_B56 k44 (mM_laysBest_L56 k44 n)
theorem sM_laysBest_L56 (d : Nat) (hd : 2 + 1 ≤ d) (k44 : Int32 → Int32 → Int32 → Int32 → Int32 → hI → hJ → Option (Int32 × hI × hJ)) (hk44 : ∀ (v1 : Int32) (v2 : Int32) (v3 : Int32) (v4 : Int32) (v5 : Int32) (I : hI) (J : hJ) (q : Int32 × hI × hJ), k44 v1 v2 v3 v4 v5 I J = some q → AW hFT cX11_laysBest 9 (some .boolean) RX11 kdM d [(0, .ref 0), (1, .int v1), (2, .int v2), (3, .int v3), (4, .int v4), (5, .int v5)] 44 [] (I, J, RMm) (some (.int q.1)) (q.2.1, q.2.2, RMm)) : ∀ (n : Nat) (v1 : Int32) (v2 : Int32) (v3 : Int32) (v4 : Int32) (v5 : Int32) (v6 : Int32) (I : hI) (J : hJ) (q : Int32 × hI × hJ) (h : mM_laysBest_L56 k44 n v1 v2 v3 v4 v5 v6 I J = some q), AW hFT cX11_laysBest 9 (some .boolean) RX11 kdM d [(0, .ref 0), (1, .int v1), (2, .int v2), (3, .int v3), (4, .int v4), (5, .int v5), (6, .int v6)] 56 [] (I, J, RMm) (some (.int q.1)) (q.2.1, q.2.2, RMm)
  | 0, _, _, _, _, _, _, _, _, q, h => by cases h
  | n + 1, v1, v2, v3, v4, v5, v6, I, J, q, h => sM_laysBest_B56 d hd k44 hk44 (mM_laysBest_L56 k44 n) (sM_laysBest_L56 d hd k44 hk44 n) v1 v2 v3 v4 v5 v6 I J q h
def mM_laysBest_B44 (k44 : Int32 → Int32 → Int32 → Int32 → Int32 → hI → hJ → Option (Int32 × hI × hJ)) (v1 : Int32) (v2 : Int32) (v3 : Int32) (v4 : Int32) (v5 : Int32) (I : hI) (J : hJ) : Option (Int32 × hI × hJ) :=
  if (I 0 88) ≤ v5 then
    (h_g (h_isZ v2) <|
    some (v2, I, J))
  else
    mM_laysBest_L56 k44 hF v1 v2 v3 v4 v5 (0 : Int32) I J
set_option maxHeartbeats 4000000 in
theorem sM_laysBest_B44 (d : Nat) (hd : 2 + 1 ≤ d) (k44 : Int32 → Int32 → Int32 → Int32 → Int32 → hI → hJ → Option (Int32 × hI × hJ)) (hk44 : ∀ (v1 : Int32) (v2 : Int32) (v3 : Int32) (v4 : Int32) (v5 : Int32) (I : hI) (J : hJ) (q : Int32 × hI × hJ), k44 v1 v2 v3 v4 v5 I J = some q → AW hFT cX11_laysBest 9 (some .boolean) RX11 kdM d [(0, .ref 0), (1, .int v1), (2, .int v2), (3, .int v3), (4, .int v4), (5, .int v5)] 44 [] (I, J, RMm) (some (.int q.1)) (q.2.1, q.2.2, RMm)) (v1 : Int32) (v2 : Int32) (v3 : Int32) (v4 : Int32) (v5 : Int32) (I : hI) (J : hJ) (q : Int32 × hI × hJ) (h : mM_laysBest_B44 k44 v1 v2 v3 v4 v5 I J = some q) : AW hFT cX11_laysBest 9 (some .boolean) RX11 kdM d [(0, .ref 0), (1, .int v1), (2, .int v2), (3, .int v3), (4, .int v4), (5, .int v5)] 44 [] (I, J, RMm) (some (.int q.1)) (q.2.1, q.2.2, RMm) := by
  obtain ⟨d0, rfl, hd0⟩ := h_mono hd
  unfold mM_laysBest_B44 at h
  refine a_iload dX11_laysBest_44 rfl ?_
  refine a_aload_n dX11_laysBest_46 rfl rfl ?_
  refine b_getI hK_11 km_0 (i := 88) rfl fl_11_603 rfl dX11_laysBest_47 ?_
  refine a_icmp_ge (tgt := 211) dX11_laysBest_50 (by decide) (fun c => ?_) (fun c => ?_)
  · replace h := h_iteT c h
    refine a_iload_n dX11_laysBest_211 rfl rfl ?_
    obtain ⟨g1, h⟩ := h_gS h
    cases h
    exact a_zret ((h_isZV g1).1) dX11_laysBest_212
  · replace h := h_iteF c h
    refine a_iconst dX11_laysBest_53 ic_0 ?_
    refine a_istore (lv' := [(6, .int (0 : Int32)), (0, .ref 0), (1, .int v1), (2, .int v2), (3, .int v3), (4, .int v4), (5, .int v5)]) dX11_laysBest_54 (by decide) rfl ?_
    refine a_sub (lv' := [(0, .ref 0), (1, .int v1), (2, .int v2), (3, .int v3), (4, .int v4), (5, .int v5), (6, .int (0 : Int32))]) [1, 2, 3, 4, 5, 6, 0] rfl ?_
    exact sM_laysBest_L56 (d0 + 1) (by omega) k44 hk44 hF v1 v2 v3 v4 v5 (0 : Int32) I J _ h
def mM_laysBest_L44  : Nat → Int32 → Int32 → Int32 → Int32 → Int32 → hI → hJ → Option (Int32 × hI × hJ)
  | 0 => fun _ _ _ _ _ _ _ => none
  | n + 1 => mM_laysBest_B44 (mM_laysBest_L44 n)
theorem sM_laysBest_L44 (d : Nat) (hd : 2 + 1 ≤ d) : ∀ (n : Nat) (v1 : Int32) (v2 : Int32) (v3 : Int32) (v4 : Int32) (v5 : Int32) (I : hI) (J : hJ) (q : Int32 × hI × hJ) (h : mM_laysBest_L44 n v1 v2 v3 v4 v5 I J = some q), AW hFT cX11_laysBest 9 (some .boolean) RX11 kdM d [(0, .ref 0), (1, .int v1), (2, .int v2), (3, .int v3), (4, .int v4), (5, .int v5)] 44 [] (I, J, RMm) (some (.int q.1)) (q.2.1, q.2.2, RMm)
  | 0, _, _, _, _, _, _, _, q, h => by cases h
  | n + 1, v1, v2, v3, v4, v5, I, J, q, h => sM_laysBest_B44 d hd (mM_laysBest_L44 n) (sM_laysBest_L44 d hd n) v1 v2 v3 v4 v5 I J q h
def mM_laysBest_22  (v1 : Int32) (v2 : Int32) (vs0 : Int32) (I : hI) (J : hJ) : Option (Int32 × hI × hJ) :=
  if (I 0 40) ≤ (1 : Int32) then
    mM_laysBest_L44 hF v1 v2 vs0 (1 : Int32) (0 : Int32) I J
  else
    (h_let (I 0 88) fun v4x0 =>
    mM_laysBest_L44 hF v1 v2 vs0 v4x0 (0 : Int32) I J)
set_option maxHeartbeats 4000000 in
theorem sM_laysBest_22 (d : Nat) (hd : 2 + 1 ≤ d) (v1 : Int32) (v2 : Int32) (vs0 : Int32) (I : hI) (J : hJ) (q : Int32 × hI × hJ) (h : mM_laysBest_22 v1 v2 vs0 I J = some q) : AW hFT cX11_laysBest 9 (some .boolean) RX11 kdM d [(0, .ref 0), (1, .int v1), (2, .int v2)] 22 [.int vs0] (I, J, RMm) (some (.int q.1)) (q.2.1, q.2.2, RMm) := by
  obtain ⟨d0, rfl, hd0⟩ := h_mono hd
  unfold mM_laysBest_22 at h
  refine a_istore_n (lv' := [(3, .int vs0), (0, .ref 0), (1, .int v1), (2, .int v2)]) dX11_laysBest_22 rfl (by decide) rfl ?_
  refine a_aload_n dX11_laysBest_23 rfl rfl ?_
  refine b_getI hK_11 km_0 (i := 40) rfl fl_11_364 rfl dX11_laysBest_24 ?_
  refine a_iconst dX11_laysBest_27 ic_1 ?_
  refine a_icmp_le (tgt := 38) dX11_laysBest_28 (by decide) (fun c => ?_) (fun c => ?_)
  · replace h := h_iteT c h
    refine a_iconst dX11_laysBest_38 ic_1 ?_
    refine a_istore (lv' := [(4, .int (1 : Int32)), (3, .int vs0), (0, .ref 0), (1, .int v1), (2, .int v2)]) dX11_laysBest_39 (by decide) rfl ?_
    refine a_iconst dX11_laysBest_41 ic_0 ?_
    refine a_istore (lv' := [(5, .int (0 : Int32)), (4, .int (1 : Int32)), (3, .int vs0), (0, .ref 0), (1, .int v1), (2, .int v2)]) dX11_laysBest_42 (by decide) rfl ?_
    refine a_sub (lv' := [(0, .ref 0), (1, .int v1), (2, .int v2), (3, .int vs0), (4, .int (1 : Int32)), (5, .int (0 : Int32))]) [3, 4, 5, 2, 1, 0] rfl ?_
    exact sM_laysBest_L44 (d0 + 1) (by omega) hF v1 v2 vs0 (1 : Int32) (0 : Int32) I J _ h
  · replace h := h_iteF c h
    refine a_aload_n dX11_laysBest_31 rfl rfl ?_
    refine b_getI hK_11 km_0 (i := 88) rfl fl_11_603 rfl dX11_laysBest_32 ?_
    refine a_goto (tgt := 39) dX11_laysBest_35 (by decide) ?_
    obtain ⟨v4x0, ev4x0, h⟩ := h_letS h
    refine a_topI ev4x0 ?_
    refine a_istore (lv' := [(4, .int v4x0), (3, .int vs0), (0, .ref 0), (1, .int v1), (2, .int v2)]) dX11_laysBest_39 (by decide) rfl ?_
    refine a_iconst dX11_laysBest_41 ic_0 ?_
    refine a_istore (lv' := [(5, .int (0 : Int32)), (4, .int v4x0), (3, .int vs0), (0, .ref 0), (1, .int v1), (2, .int v2)]) dX11_laysBest_42 (by decide) rfl ?_
    refine a_sub (lv' := [(0, .ref 0), (1, .int v1), (2, .int v2), (3, .int vs0), (4, .int v4x0), (5, .int (0 : Int32))]) [3, 4, 5, 2, 1, 0] rfl ?_
    exact sM_laysBest_L44 (d0 + 1) (by omega) hF v1 v2 vs0 v4x0 (0 : Int32) I J _ h
def mM_laysBest  (v1 : Int32) (I : hI) (J : hJ) : Option (Int32 × hI × hJ) :=
  (mM_laysConditions I J).bind fun q1 =>
  if (q1.1 0 39) ≤ (1 : Int32) then
    mM_laysBest_22 v1 (0 : Int32) (1 : Int32) q1.1 q1.2
  else
    mM_laysBest_22 v1 (0 : Int32) (q1.1 0 88) q1.1 q1.2
set_option maxHeartbeats 4000000 in
theorem sM_laysBest (d : Nat) (hd : 2 + 1 ≤ d) (v1 : Int32) (I : hI) (J : hJ) (q : Int32 × hI × hJ) (h : mM_laysBest v1 I J = some q) : HMet hFT yX11_laysBest cX11_laysBest 9 (some .boolean) kdM d [.ref 0, .int v1] (I, J, RMm) (some (.int q.1)) (q.2.1, q.2.2, RMm) := by
  obtain ⟨d0, rfl, hd0⟩ := h_mono hd
  refine HMet.of (by decide) (Nat.le_of_ble_eq_true rfl) ?_
  show AW hFT cX11_laysBest 9 (some .boolean) RX11 kdM (d0 + 1) [(0, .ref 0), (1, .int v1)] 0 [] (I, J, RMm) (some (.int q.1)) (q.2.1, q.2.2, RMm)
  unfold mM_laysBest at h
  refine a_aload_n dX11_laysBest_0 rfl rfl ?_
  obtain ⟨q1, cq1, h⟩ := h_bindS h
  refine a_callV0 [] yy_X11_laysConditions ml_11_649 km_0 rfl (sM_laysConditions _ (by omega)  I J q1 cq1) rfl rfl (Nat.le_of_ble_eq_true rfl) dX11_laysBest_1 ?_
  refine a_iconst dX11_laysBest_4 ic_0 ?_
  refine a_istore_n (lv' := [(2, .int (0 : Int32)), (0, .ref 0), (1, .int v1)]) dX11_laysBest_5 rfl (by decide) rfl ?_
  refine a_aload_n dX11_laysBest_6 rfl rfl ?_
  refine b_getI hK_11 km_0 (i := 39) rfl fl_11_361 rfl dX11_laysBest_7 ?_
  refine a_iconst dX11_laysBest_10 ic_1 ?_
  refine a_icmp_le (tgt := 21) dX11_laysBest_11 (by decide) (fun c => ?_) (fun c => ?_)
  · replace h := h_iteT c h
    refine a_iconst dX11_laysBest_21 ic_1 ?_
    refine a_sub (lv' := [(0, .ref 0), (1, .int v1), (2, .int (0 : Int32))]) [1, 2, 0] rfl ?_
    exact sM_laysBest_22 (d0 + 1) (by omega) v1 (0 : Int32) (1 : Int32) q1.1 q1.2 _ h
  · replace h := h_iteF c h
    refine a_aload_n dX11_laysBest_14 rfl rfl ?_
    refine b_getI hK_11 km_0 (i := 88) rfl fl_11_603 rfl dX11_laysBest_15 ?_
    refine a_goto (tgt := 22) dX11_laysBest_18 (by decide) ?_
    refine a_sub (lv' := [(0, .ref 0), (1, .int v1), (2, .int (0 : Int32))]) [1, 2, 0] rfl ?_
    exact sM_laysBest_22 (d0 + 1) (by omega) v1 (0 : Int32) (q1.1 0 88) q1.1 q1.2 _ h
/-! CoinLoopsModel.best(II)J -/
theorem dX11_best_0 : decode cX11_best 0 = .ok (.aload_n 0, 1) := by decide +kernel
theorem dX11_best_1 : decode cX11_best 1 = .ok (.iconst 0, 1) := by decide +kernel
theorem dX11_best_2 : decode cX11_best 2 = .ok (.putfield 156, 3) := by decide +kernel
theorem dX11_best_5 : decode cX11_best 5 = .ok (.aload_n 0, 1) := by decide +kernel
theorem dX11_best_6 : decode cX11_best 6 = .ok (.aload_n 0, 1) := by decide +kernel
theorem dX11_best_7 : decode cX11_best 7 = .ok (.iload_n 1, 1) := by decide +kernel
theorem dX11_best_8 : decode cX11_best 8 = .ok (.invokevirtual 537, 3) := by decide +kernel
theorem dX11_best_11 : decode cX11_best 11 = .ok (.ifCond .eq 27, 3) := by decide +kernel
theorem dX11_best_14 : decode cX11_best 14 = .ok (.aload_n 0, 1) := by decide +kernel
theorem dX11_best_15 : decode cX11_best 15 = .ok (.iload_n 1, 1) := by decide +kernel
theorem dX11_best_16 : decode cX11_best 16 = .ok (.invokevirtual 463, 3) := by decide +kernel
theorem dX11_best_19 : decode cX11_best 19 = .ok (.ifCond .eq 19, 3) := by decide +kernel
theorem dX11_best_22 : decode cX11_best 22 = .ok (.iload_n 2, 1) := by decide +kernel
theorem dX11_best_23 : decode cX11_best 23 = .ok (.i2l, 1) := by decide +kernel
theorem dX11_best_24 : decode cX11_best 24 = .ok (.lconst 0, 1) := by decide +kernel
theorem dX11_best_25 : decode cX11_best 25 = .ok (.ldc2_w 661, 3) := by decide +kernel
theorem dX11_best_28 : decode cX11_best 28 = .ok (.invokestatic 167, 3) := by decide +kernel
theorem dX11_best_31 : decode cX11_best 31 = .ok (.ifCond .eq 7, 3) := by decide +kernel
theorem dX11_best_34 : decode cX11_best 34 = .ok (.iconst 1, 1) := by decide +kernel
theorem dX11_best_35 : decode cX11_best 35 = .ok (.goto 4, 3) := by decide +kernel
theorem dX11_best_38 : decode cX11_best 38 = .ok (.iconst 0, 1) := by decide +kernel
theorem dX11_best_39 : decode cX11_best 39 = .ok (.iconst 0, 1) := by decide +kernel
theorem dX11_best_40 : decode cX11_best 40 = .ok (.invokevirtual 527, 3) := by decide +kernel
theorem dX11_best_43 : decode cX11_best 43 = .ok (.ifCond .eq 7, 3) := by decide +kernel
theorem dX11_best_46 : decode cX11_best 46 = .ok (.ldc2_w 582, 3) := by decide +kernel
theorem dX11_best_49 : decode cX11_best 49 = .ok (.lreturn, 1) := by decide +kernel
theorem dX11_best_50 : decode cX11_best 50 = .ok (.aload_n 0, 1) := by decide +kernel
theorem dX11_best_51 : decode cX11_best 51 = .ok (.iload_n 1, 1) := by decide +kernel
theorem dX11_best_52 : decode cX11_best 52 = .ok (.invokevirtual 663, 3) := by decide +kernel
theorem dX11_best_55 : decode cX11_best 55 = .ok (.ifCond .ne 7, 3) := by decide +kernel
theorem dX11_best_58 : decode cX11_best 58 = .ok (.ldc2_w 582, 3) := by decide +kernel
theorem dX11_best_61 : decode cX11_best 61 = .ok (.lreturn, 1) := by decide +kernel
theorem dX11_best_62 : decode cX11_best 62 = .ok (.iload_n 2, 1) := by decide +kernel
theorem dX11_best_63 : decode cX11_best 63 = .ok (.iconst 2, 1) := by decide +kernel
theorem dX11_best_64 : decode cX11_best 64 = .ok (.if_icmp .ge 36, 3) := by decide +kernel
theorem dX11_best_67 : decode cX11_best 67 = .ok (.aload_n 0, 1) := by decide +kernel
theorem dX11_best_68 : decode cX11_best 68 = .ok (.getfield 633, 3) := by decide +kernel
theorem dX11_best_71 : decode cX11_best 71 = .ok (.iload_n 1, 1) := by decide +kernel
theorem dX11_best_72 : decode cX11_best 72 = .ok (.aload_n 0, 1) := by decide +kernel
theorem dX11_best_73 : decode cX11_best 73 = .ok (.getfield 361, 3) := by decide +kernel
theorem dX11_best_76 : decode cX11_best 76 = .ok (.irem, 1) := by decide +kernel
theorem dX11_best_77 : decode cX11_best 77 = .ok (.i2l, 1) := by decide +kernel
theorem dX11_best_78 : decode cX11_best 78 = .ok (.lmul, 1) := by decide +kernel
theorem dX11_best_79 : decode cX11_best 79 = .ok (.aload_n 0, 1) := by decide +kernel
theorem dX11_best_80 : decode cX11_best 80 = .ok (.getfield 636, 3) := by decide +kernel
theorem dX11_best_83 : decode cX11_best 83 = .ok (.iload_n 1, 1) := by decide +kernel
theorem dX11_best_84 : decode cX11_best 84 = .ok (.aload_n 0, 1) := by decide +kernel
theorem dX11_best_85 : decode cX11_best 85 = .ok (.getfield 361, 3) := by decide +kernel
theorem dX11_best_88 : decode cX11_best 88 = .ok (.idiv, 1) := by decide +kernel
theorem dX11_best_89 : decode cX11_best 89 = .ok (.i2l, 1) := by decide +kernel
theorem dX11_best_90 : decode cX11_best 90 = .ok (.lmul, 1) := by decide +kernel
theorem dX11_best_91 : decode cX11_best 91 = .ok (.ladd, 1) := by decide +kernel
theorem dX11_best_92 : decode cX11_best 92 = .ok (.aload_n 0, 1) := by decide +kernel
theorem dX11_best_93 : decode cX11_best 93 = .ok (.getfield 639, 3) := by decide +kernel
theorem dX11_best_96 : decode cX11_best 96 = .ok (.ladd, 1) := by decide +kernel
theorem dX11_best_97 : decode cX11_best 97 = .ok (.goto 32, 3) := by decide +kernel
theorem dX11_best_100 : decode cX11_best 100 = .ok (.iload_n 2, 1) := by decide +kernel
theorem dX11_best_101 : decode cX11_best 101 = .ok (.iconst 4, 1) := by decide +kernel
theorem dX11_best_102 : decode cX11_best 102 = .ok (.if_icmp .ge 10, 3) := by decide +kernel
theorem dX11_best_105 : decode cX11_best 105 = .ok (.aload_n 0, 1) := by decide +kernel
theorem dX11_best_106 : decode cX11_best 106 = .ok (.getfield 633, 3) := by decide +kernel
theorem dX11_best_109 : decode cX11_best 109 = .ok (.goto 20, 3) := by decide +kernel
theorem dX11_best_112 : decode cX11_best 112 = .ok (.iload_n 2, 1) := by decide +kernel
theorem dX11_best_113 : decode cX11_best 113 = .ok (.bipush 6, 2) := by decide +kernel
theorem dX11_best_115 : decode cX11_best 115 = .ok (.if_icmp .ge 10, 3) := by decide +kernel
theorem dX11_best_118 : decode cX11_best 118 = .ok (.aload_n 0, 1) := by decide +kernel
theorem dX11_best_119 : decode cX11_best 119 = .ok (.getfield 636, 3) := by decide +kernel
theorem dX11_best_122 : decode cX11_best 122 = .ok (.goto 7, 3) := by decide +kernel
theorem dX11_best_125 : decode cX11_best 125 = .ok (.aload_n 0, 1) := by decide +kernel
theorem dX11_best_126 : decode cX11_best 126 = .ok (.getfield 639, 3) := by decide +kernel
theorem dX11_best_129 : decode cX11_best 129 = .ok (.lstore_n 3, 1) := by decide +kernel
theorem dX11_best_130 : decode cX11_best 130 = .ok (.lload_n 3, 1) := by decide +kernel
theorem dX11_best_131 : decode cX11_best 131 = .ok (.aload_n 0, 1) := by decide +kernel
theorem dX11_best_132 : decode cX11_best 132 = .ok (.getfield 642, 3) := by decide +kernel
theorem dX11_best_135 : decode cX11_best 135 = .ok (.iload_n 2, 1) := by decide +kernel
theorem dX11_best_136 : decode cX11_best 136 = .ok (.iconst 2, 1) := by decide +kernel
theorem dX11_best_137 : decode cX11_best 137 = .ok (.irem, 1) := by decide +kernel
theorem dX11_best_138 : decode cX11_best 138 = .ok (.invokestatic 584, 3) := by decide +kernel
theorem dX11_best_141 : decode cX11_best 141 = .ok (.lreturn, 1) := by decide +kernel
def mM_best_129  (v2 : Int32) (vs0 : Int64) (I : hI) (J : hJ) : Option (Int64 × hI × hJ) :=
  (mM_least vs0 (J 0 96) (v2 - v2 / (2 : Int32) * (2 : Int32))).bind fun q1 =>
  some (q1, I, J)
set_option maxHeartbeats 4000000 in
theorem sM_best_129 (d : Nat) (hd : 102 + 1 ≤ d) (v2 : Int32) (vs0 : Int64) (I : hI) (J : hJ) (q : Int64 × hI × hJ) (h : mM_best_129 v2 vs0 I J = some q) : AW hFT cX11_best 5 (some .long) RX11 kdM d [(0, .ref 0), (2, .int v2)] 129 [.long vs0] (I, J, RMm) (some (.long q.1)) (q.2.1, q.2.2, RMm) := by
  obtain ⟨d0, rfl, hd0⟩ := h_mono hd
  unfold mM_best_129 at h
  refine a_lstore_n (lv' := [(3, .long vs0), (0, .ref 0), (2, .int v2)]) dX11_best_129 rfl (by decide) rfl ?_
  refine a_lload_n dX11_best_130 rfl rfl ?_
  refine a_aload_n dX11_best_131 rfl rfl ?_
  refine b_getJ hK_11 km_0 (i := 96) rfl fl_11_642 rfl dX11_best_132 ?_
  refine a_iload_n dX11_best_135 rfl rfl ?_
  refine a_iconst dX11_best_136 ic_2 ?_
  refine a_irem dX11_best_137 (by decide) ?_
  obtain ⟨q1, cq1, h⟩ := h_bindS h
  refine a_callS1 [] yy_X11_least ml_11_584 (sM_least _ (by omega) vs0 (J 0 96) (v2 - v2 / (2 : Int32) * (2 : Int32)) I J q1 cq1) rfl rfl (Nat.le_of_ble_eq_true rfl) dX11_best_138 ?_
  cases h
  exact a_lret dX11_best_141
def mM_best_39  (v1 : Int32) (v2 : Int32) (vs1 : Int32) (I : hI) (J : hJ) : Option (Int64 × hI × hJ) :=
  (mM_isRefused vs1 (0 : Int32) I).bind fun q1 =>
  if q1.1 = 0 then
    ((mM_laysBest v1 q1.2 J).bind fun q2 =>
    if q2.1 = 0 then
      some ((-1000001 : Int64), q2.2.1, q2.2.2)
    else
      (if (2 : Int32) ≤ v2 then
        (if (4 : Int32) ≤ v2 then
          (if (6 : Int32) ≤ v2 then
            mM_best_129 v2 (q2.2.2 0 95) q2.2.1 q2.2.2
          else
            mM_best_129 v2 (q2.2.2 0 94) q2.2.1 q2.2.2)
        else
          mM_best_129 v2 (q2.2.2 0 93) q2.2.1 q2.2.2)
      else
        (h_g (h_nz (q2.2.1 0 39)) <|
        h_g (h_nz (q2.2.1 0 39)) <|
        mM_best_129 v2 ((((q2.2.2 0 93) * ((v1 - v1 / (q2.2.1 0 39) * (q2.2.1 0 39)).toInt64)) + ((q2.2.2 0 94) * ((v1 / (q2.2.1 0 39)).toInt64))) + (q2.2.2 0 95)) q2.2.1 q2.2.2)))
  else
    some ((-1000001 : Int64), q1.2, J)
set_option maxHeartbeats 4000000 in
theorem sM_best_39 (d : Nat) (hd : 102 + 1 ≤ d) (v1 : Int32) (v2 : Int32) (vs1 : Int32) (I : hI) (J : hJ) (q : Int64 × hI × hJ) (h : mM_best_39 v1 v2 vs1 I J = some q) : AW hFT cX11_best 5 (some .long) RX11 kdM d [(0, .ref 0), (1, .int v1), (2, .int v2)] 39 [.int vs1, .ref 0] (I, J, RMm) (some (.long q.1)) (q.2.1, q.2.2, RMm) := by
  obtain ⟨d0, rfl, hd0⟩ := h_mono hd
  unfold mM_best_39 at h
  refine a_iconst dX11_best_39 ic_0 ?_
  obtain ⟨q1, cq1, h⟩ := h_bindS h
  refine a_callV1 [] yy_X11_isRefused ml_11_527 km_0 rfl (sM_isRefused _ (by omega) vs1 (0 : Int32) I J q1 cq1) rfl rfl (Nat.le_of_ble_eq_true rfl) dX11_best_40 ?_
  refine a_if_eq (tgt := 50) dX11_best_43 (by decide) (fun c => ?_) (fun c => ?_)
  · replace h := h_iteT c h
    refine a_aload_n dX11_best_50 rfl rfl ?_
    refine a_iload_n dX11_best_51 rfl rfl ?_
    obtain ⟨q2, cq2, h⟩ := h_bindS h
    refine a_callV1 [] yy_X11_laysBest ml_11_663 km_0 rfl (sM_laysBest _ (by omega) v1 q1.2 J q2 cq2) rfl rfl (Nat.le_of_ble_eq_true rfl) dX11_best_52 ?_
    refine a_if_ne (tgt := 62) dX11_best_55 (by decide) (fun c => ?_) (fun c => ?_)
    · replace h := h_iteF c h
      refine a_iload_n dX11_best_62 rfl rfl ?_
      refine a_iconst dX11_best_63 ic_2 ?_
      refine a_icmp_ge (tgt := 100) dX11_best_64 (by decide) (fun c => ?_) (fun c => ?_)
      · replace h := h_iteT c h
        refine a_iload_n dX11_best_100 rfl rfl ?_
        refine a_iconst dX11_best_101 ic_4 ?_
        refine a_icmp_ge (tgt := 112) dX11_best_102 (by decide) (fun c => ?_) (fun c => ?_)
        · replace h := h_iteT c h
          refine a_iload_n dX11_best_112 rfl rfl ?_
          refine a_bipush dX11_best_113 bp_6 ?_
          refine a_icmp_ge (tgt := 125) dX11_best_115 (by decide) (fun c => ?_) (fun c => ?_)
          · replace h := h_iteT c h
            refine a_aload_n dX11_best_125 rfl rfl ?_
            refine b_getJ hK_11 km_0 (i := 95) rfl fl_11_639 rfl dX11_best_126 ?_
            refine a_sub (lv' := [(0, .ref 0), (2, .int v2)]) [0, 2] rfl ?_
            exact sM_best_129 (d0 + 1) (by omega) v2 (q2.2.2 0 95) q2.2.1 q2.2.2 _ h
          · replace h := h_iteF c h
            refine a_aload_n dX11_best_118 rfl rfl ?_
            refine b_getJ hK_11 km_0 (i := 94) rfl fl_11_636 rfl dX11_best_119 ?_
            refine a_goto (tgt := 129) dX11_best_122 (by decide) ?_
            refine a_sub (lv' := [(0, .ref 0), (2, .int v2)]) [0, 2] rfl ?_
            exact sM_best_129 (d0 + 1) (by omega) v2 (q2.2.2 0 94) q2.2.1 q2.2.2 _ h
        · replace h := h_iteF c h
          refine a_aload_n dX11_best_105 rfl rfl ?_
          refine b_getJ hK_11 km_0 (i := 93) rfl fl_11_633 rfl dX11_best_106 ?_
          refine a_goto (tgt := 129) dX11_best_109 (by decide) ?_
          refine a_sub (lv' := [(0, .ref 0), (2, .int v2)]) [0, 2] rfl ?_
          exact sM_best_129 (d0 + 1) (by omega) v2 (q2.2.2 0 93) q2.2.1 q2.2.2 _ h
      · replace h := h_iteF c h
        refine a_aload_n dX11_best_67 rfl rfl ?_
        refine b_getJ hK_11 km_0 (i := 93) rfl fl_11_633 rfl dX11_best_68 ?_
        refine a_iload_n dX11_best_71 rfl rfl ?_
        refine a_aload_n dX11_best_72 rfl rfl ?_
        refine b_getI hK_11 km_0 (i := 39) rfl fl_11_361 rfl dX11_best_73 ?_
        obtain ⟨g3, h⟩ := h_gS h
        refine a_irem dX11_best_76 (h_nzV g3) ?_
        refine a_i2l dX11_best_77 ?_
        refine a_lmul dX11_best_78 ?_
        refine a_aload_n dX11_best_79 rfl rfl ?_
        refine b_getJ hK_11 km_0 (i := 94) rfl fl_11_636 rfl dX11_best_80 ?_
        refine a_iload_n dX11_best_83 rfl rfl ?_
        refine a_aload_n dX11_best_84 rfl rfl ?_
        refine b_getI hK_11 km_0 (i := 39) rfl fl_11_361 rfl dX11_best_85 ?_
        obtain ⟨g4, h⟩ := h_gS h
        refine a_idiv dX11_best_88 (h_nzV g4) ?_
        refine a_i2l dX11_best_89 ?_
        refine a_lmul dX11_best_90 ?_
        refine a_ladd dX11_best_91 ?_
        refine a_aload_n dX11_best_92 rfl rfl ?_
        refine b_getJ hK_11 km_0 (i := 95) rfl fl_11_639 rfl dX11_best_93 ?_
        refine a_ladd dX11_best_96 ?_
        refine a_goto (tgt := 129) dX11_best_97 (by decide) ?_
        refine a_sub (lv' := [(0, .ref 0), (2, .int v2)]) [0, 2] rfl ?_
        exact sM_best_129 (d0 + 1) (by omega) v2 ((((q2.2.2 0 93) * ((v1 - v1 / (q2.2.1 0 39) * (q2.2.1 0 39)).toInt64)) + ((q2.2.2 0 94) * ((v1 / (q2.2.1 0 39)).toInt64))) + (q2.2.2 0 95)) q2.2.1 q2.2.2 _ h
    · replace h := h_iteT c h
      refine a_ldc2_w cn_11_582 dX11_best_58 ?_
      cases h
      exact a_lret dX11_best_61
  · replace h := h_iteF c h
    refine a_ldc2_w cn_11_582 dX11_best_46 ?_
    cases h
    exact a_lret dX11_best_49
def mM_best_38  (v1 : Int32) (v2 : Int32) (I : hI) (J : hJ) : Option (Int64 × hI × hJ) :=
  mM_best_39 v1 v2 (0 : Int32) I J
set_option maxHeartbeats 4000000 in
theorem sM_best_38 (d : Nat) (hd : 102 + 1 ≤ d) (v1 : Int32) (v2 : Int32) (I : hI) (J : hJ) (q : Int64 × hI × hJ) (h : mM_best_38 v1 v2 I J = some q) : AW hFT cX11_best 5 (some .long) RX11 kdM d [(0, .ref 0), (1, .int v1), (2, .int v2)] 38 [.ref 0] (I, J, RMm) (some (.long q.1)) (q.2.1, q.2.2, RMm) := by
  obtain ⟨d0, rfl, hd0⟩ := h_mono hd
  unfold mM_best_38 at h
  refine a_iconst dX11_best_38 ic_0 ?_
  exact sM_best_39 (d0 + 1) (by omega) v1 v2 (0 : Int32) I J _ h
def mM_best  (v1 : Int32) (v2 : Int32) (I : hI) (J : hJ) : Option (Int64 × hI × hJ) :=
  h_let (h_u I 0 0 (0 : Int32)) fun I1 =>
  (mM_isState v1 I1).bind fun q2 =>
  if q2 = 0 then
    mM_best_38 v1 v2 I1 J
  else
    ((mM_isInside v1 I1).bind fun q3 =>
    if q3 = 0 then
      mM_best_38 v1 v2 I1 J
    else
      (if (mM_in v2.toInt64 (0 : Int64) (7 : Int64)) = 0 then
        mM_best_38 v1 v2 I1 J
      else
        mM_best_39 v1 v2 (1 : Int32) I1 J))
set_option maxHeartbeats 4000000 in
theorem sM_best (d : Nat) (hd : 102 + 1 ≤ d) (v1 : Int32) (v2 : Int32) (I : hI) (J : hJ) (q : Int64 × hI × hJ) (h : mM_best v1 v2 I J = some q) : HMet hFT yX11_best cX11_best 5 (some .long) kdM d [.ref 0, .int v1, .int v2] (I, J, RMm) (some (.long q.1)) (q.2.1, q.2.2, RMm) := by
  obtain ⟨d0, rfl, hd0⟩ := h_mono hd
  refine HMet.of (by decide) (Nat.le_of_ble_eq_true rfl) ?_
  show AW hFT cX11_best 5 (some .long) RX11 kdM (d0 + 1) [(0, .ref 0), (1, .int v1), (2, .int v2)] 0 [] (I, J, RMm) (some (.long q.1)) (q.2.1, q.2.2, RMm)
  unfold mM_best at h
  refine a_aload_n dX11_best_0 rfl rfl ?_
  refine a_iconst dX11_best_1 ic_0 ?_
  refine b_putI hK_11 km_0 (i := 0) rfl fl_11_156 rfl rfl (h_NI _) dX11_best_2 ?_
  obtain ⟨I1, eI1, h⟩ := h_letS h
  refine a_memI eI1 ?_
  refine a_aload_n dX11_best_5 rfl rfl ?_
  refine a_aload_n dX11_best_6 rfl rfl ?_
  refine a_iload_n dX11_best_7 rfl rfl ?_
  obtain ⟨q2, cq2, h⟩ := h_bindS h
  refine a_callV1 [.ref 0] yy_X11_isState ml_11_537 km_0 rfl (sM_isState _ (by omega) v1 I1 J q2 cq2) rfl rfl (Nat.le_of_ble_eq_true rfl) dX11_best_8 ?_
  refine a_if_eq (tgt := 38) dX11_best_11 (by decide) (fun c => ?_) (fun c => ?_)
  · replace h := h_iteT c h
    exact sM_best_38 (d0 + 1) (by omega) v1 v2 I1 J _ h
  · replace h := h_iteF c h
    refine a_aload_n dX11_best_14 rfl rfl ?_
    refine a_iload_n dX11_best_15 rfl rfl ?_
    obtain ⟨q3, cq3, h⟩ := h_bindS h
    refine a_callV1 [.ref 0] yy_X11_isInside ml_11_463 km_0 rfl (sM_isInside _ (by omega) v1 I1 J q3 cq3) rfl rfl (Nat.le_of_ble_eq_true rfl) dX11_best_16 ?_
    refine a_if_eq (tgt := 38) dX11_best_19 (by decide) (fun c => ?_) (fun c => ?_)
    · replace h := h_iteT c h
      exact sM_best_38 (d0 + 1) (by omega) v1 v2 I1 J _ h
    · replace h := h_iteF c h
      refine a_iload_n dX11_best_22 rfl rfl ?_
      refine a_i2l dX11_best_23 ?_
      refine a_lconst dX11_best_24 lc_0 ?_
      refine a_ldc2_w cn_11_661 dX11_best_25 ?_
      refine a_callS1 [.ref 0] yy_X11_in ml_11_167 (sM_in _ (by omega) v2.toInt64 (0 : Int64) (7 : Int64) I1 J _ rfl) rfl rfl (Nat.le_of_ble_eq_true rfl) dX11_best_28 ?_
      refine a_if_eq (tgt := 38) dX11_best_31 (by decide) (fun c => ?_) (fun c => ?_)
      · replace h := h_iteT c h
        exact sM_best_38 (d0 + 1) (by omega) v1 v2 I1 J _ h
      · replace h := h_iteF c h
        refine a_iconst dX11_best_34 ic_1 ?_
        refine a_goto (tgt := 39) dX11_best_35 (by decide) ?_
        exact sM_best_39 (d0 + 1) (by omega) v1 v2 (1 : Int32) I1 J _ h
/-! CoinLoopsModel.run(IIIII)I -/
theorem dX11_run_0 : decode cX11_run 0 = .ok (.aload_n 0, 1) := by decide +kernel
theorem dX11_run_1 : decode cX11_run 1 = .ok (.iconst 0, 1) := by decide +kernel
theorem dX11_run_2 : decode cX11_run 2 = .ok (.putfield 156, 3) := by decide +kernel
theorem dX11_run_5 : decode cX11_run 5 = .ok (.aload_n 0, 1) := by decide +kernel
theorem dX11_run_6 : decode cX11_run 6 = .ok (.aload_n 0, 1) := by decide +kernel
theorem dX11_run_7 : decode cX11_run 7 = .ok (.iload_n 1, 1) := by decide +kernel
theorem dX11_run_8 : decode cX11_run 8 = .ok (.invokevirtual 537, 3) := by decide +kernel
theorem dX11_run_11 : decode cX11_run 11 = .ok (.ifCond .eq 45, 3) := by decide +kernel
theorem dX11_run_14 : decode cX11_run 14 = .ok (.iload_n 2, 1) := by decide +kernel
theorem dX11_run_15 : decode cX11_run 15 = .ok (.i2l, 1) := by decide +kernel
theorem dX11_run_16 : decode cX11_run 16 = .ok (.lconst 0, 1) := by decide +kernel
theorem dX11_run_17 : decode cX11_run 17 = .ok (.ldc2_w 661, 3) := by decide +kernel
theorem dX11_run_20 : decode cX11_run 20 = .ok (.invokestatic 167, 3) := by decide +kernel
theorem dX11_run_23 : decode cX11_run 23 = .ok (.ifCond .eq 33, 3) := by decide +kernel
theorem dX11_run_26 : decode cX11_run 26 = .ok (.iload 4, 2) := by decide +kernel
theorem dX11_run_28 : decode cX11_run 28 = .ok (.i2l, 1) := by decide +kernel
theorem dX11_run_29 : decode cX11_run 29 = .ok (.lconst 0, 1) := by decide +kernel
theorem dX11_run_30 : decode cX11_run 30 = .ok (.ldc2_w 666, 3) := by decide +kernel
theorem dX11_run_33 : decode cX11_run 33 = .ok (.invokestatic 167, 3) := by decide +kernel
theorem dX11_run_36 : decode cX11_run 36 = .ok (.ifCond .eq 20, 3) := by decide +kernel
theorem dX11_run_39 : decode cX11_run 39 = .ok (.iload 5, 2) := by decide +kernel
theorem dX11_run_41 : decode cX11_run 41 = .ok (.i2l, 1) := by decide +kernel
theorem dX11_run_42 : decode cX11_run 42 = .ok (.lconst 0, 1) := by decide +kernel
theorem dX11_run_43 : decode cX11_run 43 = .ok (.ldc2_w 561, 3) := by decide +kernel
theorem dX11_run_46 : decode cX11_run 46 = .ok (.invokestatic 167, 3) := by decide +kernel
theorem dX11_run_49 : decode cX11_run 49 = .ok (.ifCond .eq 7, 3) := by decide +kernel
theorem dX11_run_52 : decode cX11_run 52 = .ok (.iconst 1, 1) := by decide +kernel
theorem dX11_run_53 : decode cX11_run 53 = .ok (.goto 4, 3) := by decide +kernel
theorem dX11_run_56 : decode cX11_run 56 = .ok (.iconst 0, 1) := by decide +kernel
theorem dX11_run_57 : decode cX11_run 57 = .ok (.iconst 0, 1) := by decide +kernel
theorem dX11_run_58 : decode cX11_run 58 = .ok (.invokevirtual 527, 3) := by decide +kernel
theorem dX11_run_61 : decode cX11_run 61 = .ok (.ifCond .eq 5, 3) := by decide +kernel
theorem dX11_run_64 : decode cX11_run 64 = .ok (.iconst (-1), 1) := by decide +kernel
theorem dX11_run_65 : decode cX11_run 65 = .ok (.ireturn, 1) := by decide +kernel
theorem dX11_run_66 : decode cX11_run 66 = .ok (.aload_n 0, 1) := by decide +kernel
theorem dX11_run_67 : decode cX11_run 67 = .ok (.iload_n 3, 1) := by decide +kernel
theorem dX11_run_68 : decode cX11_run 68 = .ok (.putfield 404, 3) := by decide +kernel
theorem dX11_run_71 : decode cX11_run 71 = .ok (.aload_n 0, 1) := by decide +kernel
theorem dX11_run_72 : decode cX11_run 72 = .ok (.iconst 1, 1) := by decide +kernel
theorem dX11_run_73 : decode cX11_run 73 = .ok (.putfield 401, 3) := by decide +kernel
theorem dX11_run_76 : decode cX11_run 76 = .ok (.aload_n 0, 1) := by decide +kernel
theorem dX11_run_77 : decode cX11_run 77 = .ok (.iconst 0, 1) := by decide +kernel
theorem dX11_run_78 : decode cX11_run 78 = .ok (.putfield 398, 3) := by decide +kernel
theorem dX11_run_81 : decode cX11_run 81 = .ok (.iload_n 1, 1) := by decide +kernel
theorem dX11_run_82 : decode cX11_run 82 = .ok (.istore 6, 2) := by decide +kernel
theorem dX11_run_84 : decode cX11_run 84 = .ok (.iconst 0, 1) := by decide +kernel
theorem dX11_run_85 : decode cX11_run 85 = .ok (.istore 7, 2) := by decide +kernel
theorem dX11_run_87 : decode cX11_run 87 = .ok (.iconst 0, 1) := by decide +kernel
theorem dX11_run_88 : decode cX11_run 88 = .ok (.istore 8, 2) := by decide +kernel
theorem dX11_run_90 : decode cX11_run 90 = .ok (.iconst 0, 1) := by decide +kernel
theorem dX11_run_91 : decode cX11_run 91 = .ok (.istore 9, 2) := by decide +kernel
theorem dX11_run_93 : decode cX11_run 93 = .ok (.iload 7, 2) := by decide +kernel
theorem dX11_run_95 : decode cX11_run 95 = .ok (.iload 4, 2) := by decide +kernel
theorem dX11_run_97 : decode cX11_run 97 = .ok (.if_icmp .ge 61, 3) := by decide +kernel
theorem dX11_run_100 : decode cX11_run 100 = .ok (.iload 9, 2) := by decide +kernel
theorem dX11_run_102 : decode cX11_run 102 = .ok (.ifCond .ne 56, 3) := by decide +kernel
theorem dX11_run_105 : decode cX11_run 105 = .ok (.aload_n 0, 1) := by decide +kernel
theorem dX11_run_106 : decode cX11_run 106 = .ok (.iload 6, 2) := by decide +kernel
theorem dX11_run_108 : decode cX11_run 108 = .ok (.invokevirtual 463, 3) := by decide +kernel
theorem dX11_run_111 : decode cX11_run 111 = .ok (.ifCond .eq 47, 3) := by decide +kernel
theorem dX11_run_114 : decode cX11_run 114 = .ok (.aload_n 0, 1) := by decide +kernel
theorem dX11_run_115 : decode cX11_run 115 = .ok (.iload 6, 2) := by decide +kernel
theorem dX11_run_117 : decode cX11_run 117 = .ok (.iload_n 2, 1) := by decide +kernel
theorem dX11_run_118 : decode cX11_run 118 = .ok (.invokevirtual 436, 3) := by decide +kernel
theorem dX11_run_121 : decode cX11_run 121 = .ok (.iload 8, 2) := by decide +kernel
theorem dX11_run_123 : decode cX11_run 123 = .ok (.aload_n 0, 1) := by decide +kernel
theorem dX11_run_124 : decode cX11_run 124 = .ok (.getfield 421, 3) := by decide +kernel
theorem dX11_run_127 : decode cX11_run 127 = .ok (.iadd, 1) := by decide +kernel
theorem dX11_run_128 : decode cX11_run 128 = .ok (.istore 8, 2) := by decide +kernel
theorem dX11_run_130 : decode cX11_run 130 = .ok (.iinc 7 1, 3) := by decide +kernel
theorem dX11_run_133 : decode cX11_run 133 = .ok (.aload_n 0, 1) := by decide +kernel
theorem dX11_run_134 : decode cX11_run 134 = .ok (.getfield 411, 3) := by decide +kernel
theorem dX11_run_137 : decode cX11_run 137 = .ok (.istore 9, 2) := by decide +kernel
theorem dX11_run_139 : decode cX11_run 139 = .ok (.aload_n 0, 1) := by decide +kernel
theorem dX11_run_140 : decode cX11_run 140 = .ok (.getfield 416, 3) := by decide +kernel
theorem dX11_run_143 : decode cX11_run 143 = .ok (.aload_n 0, 1) := by decide +kernel
theorem dX11_run_144 : decode cX11_run 144 = .ok (.getfield 361, 3) := by decide +kernel
theorem dX11_run_147 : decode cX11_run 147 = .ok (.imul, 1) := by decide +kernel
theorem dX11_run_148 : decode cX11_run 148 = .ok (.aload_n 0, 1) := by decide +kernel
theorem dX11_run_149 : decode cX11_run 149 = .ok (.getfield 414, 3) := by decide +kernel
theorem dX11_run_152 : decode cX11_run 152 = .ok (.iadd, 1) := by decide +kernel
theorem dX11_run_153 : decode cX11_run 153 = .ok (.istore 6, 2) := by decide +kernel
theorem dX11_run_155 : decode cX11_run 155 = .ok (.goto (-62), 3) := by decide +kernel
theorem dX11_run_158 : decode cX11_run 158 = .ok (.aload_n 0, 1) := by decide +kernel
theorem dX11_run_159 : decode cX11_run 159 = .ok (.iconst 0, 1) := by decide +kernel
theorem dX11_run_160 : decode cX11_run 160 = .ok (.putfield 401, 3) := by decide +kernel
theorem dX11_run_163 : decode cX11_run 163 = .ok (.iload 5, 2) := by decide +kernel
theorem dX11_run_165 : decode cX11_run 165 = .ok (.tableswitch 69 0 3 #[31, 51, 54, 57], 31) := by decide +kernel
theorem dX11_run_196 : decode cX11_run 196 = .ok (.iload 9, 2) := by decide +kernel
theorem dX11_run_198 : decode cX11_run 198 = .ok (.ifCond .ne 12, 3) := by decide +kernel
theorem dX11_run_201 : decode cX11_run 201 = .ok (.aload_n 0, 1) := by decide +kernel
theorem dX11_run_202 : decode cX11_run 202 = .ok (.iload 6, 2) := by decide +kernel
theorem dX11_run_204 : decode cX11_run 204 = .ok (.invokevirtual 463, 3) := by decide +kernel
theorem dX11_run_207 : decode cX11_run 207 = .ok (.ifCond .ne 7, 3) := by decide +kernel
theorem dX11_run_210 : decode cX11_run 210 = .ok (.iconst 1, 1) := by decide +kernel
theorem dX11_run_211 : decode cX11_run 211 = .ok (.goto 4, 3) := by decide +kernel
theorem dX11_run_214 : decode cX11_run 214 = .ok (.iconst 0, 1) := by decide +kernel
theorem dX11_run_215 : decode cX11_run 215 = .ok (.ireturn, 1) := by decide +kernel
theorem dX11_run_216 : decode cX11_run 216 = .ok (.iload 7, 2) := by decide +kernel
theorem dX11_run_218 : decode cX11_run 218 = .ok (.ireturn, 1) := by decide +kernel
theorem dX11_run_219 : decode cX11_run 219 = .ok (.iload 8, 2) := by decide +kernel
theorem dX11_run_221 : decode cX11_run 221 = .ok (.ireturn, 1) := by decide +kernel
theorem dX11_run_222 : decode cX11_run 222 = .ok (.iload 9, 2) := by decide +kernel
theorem dX11_run_224 : decode cX11_run 224 = .ok (.ifCond .eq 7, 3) := by decide +kernel
theorem dX11_run_227 : decode cX11_run 227 = .ok (.iconst (-1), 1) := by decide +kernel
theorem dX11_run_228 : decode cX11_run 228 = .ok (.goto 5, 3) := by decide +kernel
theorem dX11_run_231 : decode cX11_run 231 = .ok (.iload 6, 2) := by decide +kernel
theorem dX11_run_233 : decode cX11_run 233 = .ok (.ireturn, 1) := by decide +kernel
theorem dX11_run_234 : decode cX11_run 234 = .ok (.aload_n 0, 1) := by decide +kernel
theorem dX11_run_235 : decode cX11_run 235 = .ok (.getfield 398, 3) := by decide +kernel
theorem dX11_run_238 : decode cX11_run 238 = .ok (.ireturn, 1) := by decide +kernel
def mM_run_158  (v5 : Int32) (v6 : Int32) (v7 : Int32) (v8 : Int32) (v9 : Int32) (I : hI) : Option (Int32 × hI) :=
  h_let (h_u I 0 61 (0 : Int32)) fun I1 =>
  if v5 = 0 then
    (if v9 = 0 then
      ((mM_isInside v6 I1).bind fun q2 =>
      if q2 = 0 then
        some ((1 : Int32), I1)
      else
        some ((0 : Int32), I1))
    else
      some ((1 : Int32), I1))
  else
    (if v5 = 1 then
      some (v7, I1)
    else
      (if v5 = 2 then
        some (v8, I1)
      else
        (if v5 = 3 then
          (if v9 = 0 then
            some (v6, I1)
          else
            some ((-1 : Int32), I1))
        else
          some ((I1 0 56), I1))))
set_option maxHeartbeats 4000000 in
theorem sM_run_158 (d : Nat) (hd : 32 + 1 ≤ d) (v5 : Int32) (v6 : Int32) (v7 : Int32) (v8 : Int32) (v9 : Int32) (I : hI) (J : hJ) (q : Int32 × hI) (h : mM_run_158 v5 v6 v7 v8 v9 I = some q) : AW hFT cX11_run 10 (some .int) RX11 kdM d [(0, .ref 0), (5, .int v5), (6, .int v6), (7, .int v7), (8, .int v8), (9, .int v9)] 158 [] (I, J, RMm) (some (.int q.1)) (q.2, J, RMm) := by
  obtain ⟨d0, rfl, hd0⟩ := h_mono hd
  unfold mM_run_158 at h
  refine a_aload_n dX11_run_158 rfl rfl ?_
  refine a_iconst dX11_run_159 ic_0 ?_
  refine b_putI hK_11 km_0 (i := 61) rfl fl_11_401 rfl rfl h_Z0 dX11_run_160 ?_
  obtain ⟨I1, eI1, h⟩ := h_letS h
  refine a_memI eI1 ?_
  refine a_iload dX11_run_163 rfl ?_
  by_cases n0 : v5 = 0
  · replace h := h_iteT n0 h
    refine a_topI n0 ?_
    refine a_tableIn (tgt := 196) (off := 31) dX11_run_165 (by decide) (by decide) (by decide) (by decide) ?_
    refine a_iload dX11_run_196 rfl ?_
    refine a_if_ne (tgt := 210) dX11_run_198 (by decide) (fun c => ?_) (fun c => ?_)
    · replace h := h_iteF c h
      refine a_iconst dX11_run_210 ic_1 ?_
      refine a_goto (tgt := 215) dX11_run_211 (by decide) ?_
      cases h
      exact a_iret dX11_run_215
    · replace h := h_iteT c h
      refine a_aload_n dX11_run_201 rfl rfl ?_
      refine a_iload dX11_run_202 rfl ?_
      obtain ⟨q2, cq2, h⟩ := h_bindS h
      refine a_callV1 [] yy_X11_isInside ml_11_463 km_0 rfl (sM_isInside _ (by omega) v6 I1 J q2 cq2) rfl rfl (Nat.le_of_ble_eq_true rfl) dX11_run_204 ?_
      refine a_if_ne (tgt := 214) dX11_run_207 (by decide) (fun c => ?_) (fun c => ?_)
      · replace h := h_iteF c h
        refine a_iconst dX11_run_214 ic_0 ?_
        cases h
        exact a_iret dX11_run_215
      · replace h := h_iteT c h
        refine a_iconst dX11_run_210 ic_1 ?_
        refine a_goto (tgt := 215) dX11_run_211 (by decide) ?_
        cases h
        exact a_iret dX11_run_215
  · replace h := h_iteF n0 h
    by_cases n1 : v5 = 1
    · replace h := h_iteT n1 h
      refine a_topI n1 ?_
      refine a_tableIn (tgt := 216) (off := 51) dX11_run_165 (by decide) (by decide) (by decide) (by decide) ?_
      refine a_iload dX11_run_216 rfl ?_
      cases h
      exact a_iret dX11_run_218
    · replace h := h_iteF n1 h
      by_cases n2 : v5 = 2
      · replace h := h_iteT n2 h
        refine a_topI n2 ?_
        refine a_tableIn (tgt := 219) (off := 54) dX11_run_165 (by decide) (by decide) (by decide) (by decide) ?_
        refine a_iload dX11_run_219 rfl ?_
        cases h
        exact a_iret dX11_run_221
      · replace h := h_iteF n2 h
        by_cases n3 : v5 = 3
        · replace h := h_iteT n3 h
          refine a_topI n3 ?_
          refine a_tableIn (tgt := 222) (off := 57) dX11_run_165 (by decide) (by decide) (by decide) (by decide) ?_
          refine a_iload dX11_run_222 rfl ?_
          refine a_if_eq (tgt := 231) dX11_run_224 (by decide) (fun c => ?_) (fun c => ?_)
          · replace h := h_iteT c h
            refine a_iload dX11_run_231 rfl ?_
            cases h
            exact a_iret dX11_run_233
          · replace h := h_iteF c h
            refine a_iconst dX11_run_227 ic_m1 ?_
            refine a_goto (tgt := 233) dX11_run_228 (by decide) ?_
            cases h
            exact a_iret dX11_run_233
        · replace h := h_iteF n3 h
          refine a_tableOut (tgt := 234) dX11_run_165 (h_tb4 n0 n1 n2 n3) (by decide) ?_
          refine a_aload_n dX11_run_234 rfl rfl ?_
          refine b_getI hK_11 km_0 (i := 56) rfl fl_11_398 rfl dX11_run_235 ?_
          cases h
          exact a_iret dX11_run_238
def mM_run_B93 (k93 : Int32 → Int32 → Int32 → Int32 → Int32 → Int32 → Int32 → hI → Option (Int32 × hI)) (v2 : Int32) (v4 : Int32) (v5 : Int32) (v6 : Int32) (v7 : Int32) (v8 : Int32) (v9 : Int32) (I : hI) : Option (Int32 × hI) :=
  if v4 ≤ v7 then
    mM_run_158 v5 v6 v7 v8 v9 I
  else
    (if v9 = 0 then
      ((mM_isInside v6 I).bind fun q1 =>
      if q1 = 0 then
        mM_run_158 v5 v6 v7 v8 v9 I
      else
        ((mM_round v6 v2 I).bind fun q2 =>
        h_let (v8 + (q2 0 55)) fun v8x2 =>
        h_let (q2 0 60) fun v9x3 =>
        h_let (((q2 0 54) * (q2 0 39)) + (q2 0 53)) fun v6x4 =>
        k93 v2 v4 v5 v6x4 (v7 + (1 : Int32)) v8x2 v9x3 q2))
    else
      mM_run_158 v5 v6 v7 v8 v9 I)
set_option maxHeartbeats 4000000 in
theorem sM_run_B93 (d : Nat) (hd : 32 + 1 ≤ d) (k93 : Int32 → Int32 → Int32 → Int32 → Int32 → Int32 → Int32 → hI → Option (Int32 × hI)) (hk93 : ∀ (v2 : Int32) (v4 : Int32) (v5 : Int32) (v6 : Int32) (v7 : Int32) (v8 : Int32) (v9 : Int32) (I : hI) (J : hJ) (q : Int32 × hI), k93 v2 v4 v5 v6 v7 v8 v9 I = some q → AW hFT cX11_run 10 (some .int) RX11 kdM d [(0, .ref 0), (2, .int v2), (4, .int v4), (5, .int v5), (6, .int v6), (7, .int v7), (8, .int v8), (9, .int v9)] 93 [] (I, J, RMm) (some (.int q.1)) (q.2, J, RMm)) (v2 : Int32) (v4 : Int32) (v5 : Int32) (v6 : Int32) (v7 : Int32) (v8 : Int32) (v9 : Int32) (I : hI) (J : hJ) (q : Int32 × hI) (h : mM_run_B93 k93 v2 v4 v5 v6 v7 v8 v9 I = some q) : AW hFT cX11_run 10 (some .int) RX11 kdM d [(0, .ref 0), (2, .int v2), (4, .int v4), (5, .int v5), (6, .int v6), (7, .int v7), (8, .int v8), (9, .int v9)] 93 [] (I, J, RMm) (some (.int q.1)) (q.2, J, RMm) := by
  obtain ⟨d0, rfl, hd0⟩ := h_mono hd
  unfold mM_run_B93 at h
  refine a_iload dX11_run_93 rfl ?_
  refine a_iload dX11_run_95 rfl ?_
  refine a_icmp_ge (tgt := 158) dX11_run_97 (by decide) (fun c => ?_) (fun c => ?_)
  · replace h := h_iteT c h
    refine a_sub (lv' := [(0, .ref 0), (5, .int v5), (6, .int v6), (7, .int v7), (8, .int v8), (9, .int v9)]) [0, 3, 4, 5, 6, 7] rfl ?_
    exact sM_run_158 (d0 + 1) (by omega) v5 v6 v7 v8 v9 I J _ h
  · replace h := h_iteF c h
    refine a_iload dX11_run_100 rfl ?_
    refine a_if_ne (tgt := 158) dX11_run_102 (by decide) (fun c => ?_) (fun c => ?_)
    · replace h := h_iteF c h
      refine a_sub (lv' := [(0, .ref 0), (5, .int v5), (6, .int v6), (7, .int v7), (8, .int v8), (9, .int v9)]) [0, 3, 4, 5, 6, 7] rfl ?_
      exact sM_run_158 (d0 + 1) (by omega) v5 v6 v7 v8 v9 I J _ h
    · replace h := h_iteT c h
      refine a_aload_n dX11_run_105 rfl rfl ?_
      refine a_iload dX11_run_106 rfl ?_
      obtain ⟨q1, cq1, h⟩ := h_bindS h
      refine a_callV1 [] yy_X11_isInside ml_11_463 km_0 rfl (sM_isInside _ (by omega) v6 I J q1 cq1) rfl rfl (Nat.le_of_ble_eq_true rfl) dX11_run_108 ?_
      refine a_if_eq (tgt := 158) dX11_run_111 (by decide) (fun c => ?_) (fun c => ?_)
      · replace h := h_iteT c h
        refine a_sub (lv' := [(0, .ref 0), (5, .int v5), (6, .int v6), (7, .int v7), (8, .int v8), (9, .int v9)]) [0, 3, 4, 5, 6, 7] rfl ?_
        exact sM_run_158 (d0 + 1) (by omega) v5 v6 v7 v8 v9 I J _ h
      · replace h := h_iteF c h
        refine a_aload_n dX11_run_114 rfl rfl ?_
        refine a_iload dX11_run_115 rfl ?_
        refine a_iload_n dX11_run_117 rfl rfl ?_
        obtain ⟨q2, cq2, h⟩ := h_bindS h
        refine a_callV0 [] yy_X11_round ml_11_436 km_0 rfl (sM_round _ (by omega) v6 v2 I J q2 cq2) rfl rfl (Nat.le_of_ble_eq_true rfl) dX11_run_118 ?_
        refine a_iload dX11_run_121 rfl ?_
        refine a_aload_n dX11_run_123 rfl rfl ?_
        refine b_getI hK_11 km_0 (i := 55) rfl fl_11_421 rfl dX11_run_124 ?_
        refine a_iadd dX11_run_127 ?_
        obtain ⟨v8x2, ev8x2, h⟩ := h_letS h
        refine a_topI ev8x2 ?_
        refine a_istore (lv' := [(8, .int v8x2), (0, .ref 0), (2, .int v2), (4, .int v4), (5, .int v5), (6, .int v6), (7, .int v7), (9, .int v9)]) dX11_run_128 (by decide) rfl ?_
        refine b_iinc (lv' := [(7, .int (v7 + (1 : Int32))), (8, .int v8x2), (0, .ref 0), (2, .int v2), (4, .int v4), (5, .int v5), (6, .int v6), (9, .int v9)]) dX11_run_130 rfl ic_1 (by decide) rfl ?_
        refine a_aload_n dX11_run_133 rfl rfl ?_
        refine b_getI hK_11 km_0 (i := 60) rfl fl_11_411 rfl dX11_run_134 ?_
        obtain ⟨v9x3, ev9x3, h⟩ := h_letS h
        refine a_topI ev9x3 ?_
        refine a_istore (lv' := [(9, .int v9x3), (7, .int (v7 + (1 : Int32))), (8, .int v8x2), (0, .ref 0), (2, .int v2), (4, .int v4), (5, .int v5), (6, .int v6)]) dX11_run_137 (by decide) rfl ?_
        refine a_aload_n dX11_run_139 rfl rfl ?_
        refine b_getI hK_11 km_0 (i := 54) rfl fl_11_416 rfl dX11_run_140 ?_
        refine a_aload_n dX11_run_143 rfl rfl ?_
        refine b_getI hK_11 km_0 (i := 39) rfl fl_11_361 rfl dX11_run_144 ?_
        refine a_imul dX11_run_147 ?_
        refine a_aload_n dX11_run_148 rfl rfl ?_
        refine b_getI hK_11 km_0 (i := 53) rfl fl_11_414 rfl dX11_run_149 ?_
        refine a_iadd dX11_run_152 ?_
        obtain ⟨v6x4, ev6x4, h⟩ := h_letS h
        refine a_topI ev6x4 ?_
        refine a_istore (lv' := [(6, .int v6x4), (9, .int v9x3), (7, .int (v7 + (1 : Int32))), (8, .int v8x2), (0, .ref 0), (2, .int v2), (4, .int v4), (5, .int v5)]) dX11_run_153 (by decide) rfl ?_
        refine a_goto (tgt := 93) dX11_run_155 (by decide) ?_
        refine a_sub (lv' := [(0, .ref 0), (2, .int v2), (4, .int v4), (5, .int v5), (6, .int v6x4), (7, .int (v7 + (1 : Int32))), (8, .int v8x2), (9, .int v9x3)]) [4, 5, 6, 7, 0, 2, 3, 1] rfl ?_
        exact hk93 v2 v4 v5 v6x4 (v7 + (1 : Int32)) v8x2 v9x3 q2 J _ h
def mM_run_L93  : Nat → Int32 → Int32 → Int32 → Int32 → Int32 → Int32 → Int32 → hI → Option (Int32 × hI)
  | 0 => fun _ _ _ _ _ _ _ _ => none
  | n + 1 => mM_run_B93 (mM_run_L93 n)
theorem sM_run_L93 (d : Nat) (hd : 32 + 1 ≤ d) : ∀ (n : Nat) (v2 : Int32) (v4 : Int32) (v5 : Int32) (v6 : Int32) (v7 : Int32) (v8 : Int32) (v9 : Int32) (I : hI) (J : hJ) (q : Int32 × hI) (h : mM_run_L93 n v2 v4 v5 v6 v7 v8 v9 I = some q), AW hFT cX11_run 10 (some .int) RX11 kdM d [(0, .ref 0), (2, .int v2), (4, .int v4), (5, .int v5), (6, .int v6), (7, .int v7), (8, .int v8), (9, .int v9)] 93 [] (I, J, RMm) (some (.int q.1)) (q.2, J, RMm)
  | 0, _, _, _, _, _, _, _, _, _, q, h => by cases h
  | n + 1, v2, v4, v5, v6, v7, v8, v9, I, J, q, h => sM_run_B93 d hd (mM_run_L93 n) (sM_run_L93 d hd n) v2 v4 v5 v6 v7 v8 v9 I J q h
def mM_run_57  (v1 : Int32) (v2 : Int32) (v3 : Int32) (v4 : Int32) (v5 : Int32) (vs1 : Int32) (I : hI) : Option (Int32 × hI) :=
  (mM_isRefused vs1 (0 : Int32) I).bind fun q1 =>
  if q1.1 = 0 then
    (h_let (h_u q1.2 0 59 v3) fun I2 =>
    h_let (h_u I2 0 61 (1 : Int32)) fun I3 =>
    h_let (h_u I3 0 56 (0 : Int32)) fun I4 =>
    mM_run_L93 hF v2 v4 v5 v1 (0 : Int32) (0 : Int32) (0 : Int32) I4)
  else
    some ((-1 : Int32), q1.2)
set_option maxHeartbeats 4000000 in
theorem sM_run_57 (d : Nat) (hd : 32 + 1 ≤ d) (v1 : Int32) (v2 : Int32) (v3 : Int32) (v4 : Int32) (v5 : Int32) (vs1 : Int32) (I : hI) (J : hJ) (q : Int32 × hI) (h : mM_run_57 v1 v2 v3 v4 v5 vs1 I = some q) : AW hFT cX11_run 10 (some .int) RX11 kdM d [(0, .ref 0), (1, .int v1), (2, .int v2), (3, .int v3), (4, .int v4), (5, .int v5)] 57 [.int vs1, .ref 0] (I, J, RMm) (some (.int q.1)) (q.2, J, RMm) := by
  obtain ⟨d0, rfl, hd0⟩ := h_mono hd
  unfold mM_run_57 at h
  refine a_iconst dX11_run_57 ic_0 ?_
  obtain ⟨q1, cq1, h⟩ := h_bindS h
  refine a_callV1 [] yy_X11_isRefused ml_11_527 km_0 rfl (sM_isRefused _ (by omega) vs1 (0 : Int32) I J q1 cq1) rfl rfl (Nat.le_of_ble_eq_true rfl) dX11_run_58 ?_
  refine a_if_eq (tgt := 66) dX11_run_61 (by decide) (fun c => ?_) (fun c => ?_)
  · replace h := h_iteT c h
    refine a_aload_n dX11_run_66 rfl rfl ?_
    refine a_iload_n dX11_run_67 rfl rfl ?_
    refine b_putI hK_11 km_0 (i := 59) rfl fl_11_404 rfl rfl (h_NI _) dX11_run_68 ?_
    obtain ⟨I2, eI2, h⟩ := h_letS h
    refine a_memI eI2 ?_
    refine a_aload_n dX11_run_71 rfl rfl ?_
    refine a_iconst dX11_run_72 ic_1 ?_
    refine b_putI hK_11 km_0 (i := 61) rfl fl_11_401 rfl rfl h_Z1 dX11_run_73 ?_
    obtain ⟨I3, eI3, h⟩ := h_letS h
    refine a_memI eI3 ?_
    refine a_aload_n dX11_run_76 rfl rfl ?_
    refine a_iconst dX11_run_77 ic_0 ?_
    refine b_putI hK_11 km_0 (i := 56) rfl fl_11_398 rfl rfl (h_NI _) dX11_run_78 ?_
    obtain ⟨I4, eI4, h⟩ := h_letS h
    refine a_memI eI4 ?_
    refine a_iload_n dX11_run_81 rfl rfl ?_
    refine a_istore (lv' := [(6, .int v1), (0, .ref 0), (1, .int v1), (2, .int v2), (3, .int v3), (4, .int v4), (5, .int v5)]) dX11_run_82 (by decide) rfl ?_
    refine a_iconst dX11_run_84 ic_0 ?_
    refine a_istore (lv' := [(7, .int (0 : Int32)), (6, .int v1), (0, .ref 0), (1, .int v1), (2, .int v2), (3, .int v3), (4, .int v4), (5, .int v5)]) dX11_run_85 (by decide) rfl ?_
    refine a_iconst dX11_run_87 ic_0 ?_
    refine a_istore (lv' := [(8, .int (0 : Int32)), (7, .int (0 : Int32)), (6, .int v1), (0, .ref 0), (1, .int v1), (2, .int v2), (3, .int v3), (4, .int v4), (5, .int v5)]) dX11_run_88 (by decide) rfl ?_
    refine a_iconst dX11_run_90 ic_0 ?_
    refine a_istore (lv' := [(9, .int (0 : Int32)), (8, .int (0 : Int32)), (7, .int (0 : Int32)), (6, .int v1), (0, .ref 0), (1, .int v1), (2, .int v2), (3, .int v3), (4, .int v4), (5, .int v5)]) dX11_run_91 (by decide) rfl ?_
    refine a_sub (lv' := [(0, .ref 0), (2, .int v2), (4, .int v4), (5, .int v5), (6, .int v1), (7, .int (0 : Int32)), (8, .int (0 : Int32)), (9, .int (0 : Int32))]) [4, 6, 8, 9, 3, 2, 1, 0] rfl ?_
    exact sM_run_L93 (d0 + 1) (by omega) hF v2 v4 v5 v1 (0 : Int32) (0 : Int32) (0 : Int32) I4 J _ h
  · replace h := h_iteF c h
    refine a_iconst dX11_run_64 ic_m1 ?_
    cases h
    exact a_iret dX11_run_65
def mM_run_56  (v1 : Int32) (v2 : Int32) (v3 : Int32) (v4 : Int32) (v5 : Int32) (I : hI) : Option (Int32 × hI) :=
  mM_run_57 v1 v2 v3 v4 v5 (0 : Int32) I
set_option maxHeartbeats 4000000 in
theorem sM_run_56 (d : Nat) (hd : 32 + 1 ≤ d) (v1 : Int32) (v2 : Int32) (v3 : Int32) (v4 : Int32) (v5 : Int32) (I : hI) (J : hJ) (q : Int32 × hI) (h : mM_run_56 v1 v2 v3 v4 v5 I = some q) : AW hFT cX11_run 10 (some .int) RX11 kdM d [(0, .ref 0), (1, .int v1), (2, .int v2), (3, .int v3), (4, .int v4), (5, .int v5)] 56 [.ref 0] (I, J, RMm) (some (.int q.1)) (q.2, J, RMm) := by
  obtain ⟨d0, rfl, hd0⟩ := h_mono hd
  unfold mM_run_56 at h
  refine a_iconst dX11_run_56 ic_0 ?_
  exact sM_run_57 (d0 + 1) (by omega) v1 v2 v3 v4 v5 (0 : Int32) I J _ h
def mM_run  (v1 : Int32) (v2 : Int32) (v3 : Int32) (v4 : Int32) (v5 : Int32) (I : hI) : Option (Int32 × hI) :=
  h_let (h_u I 0 0 (0 : Int32)) fun I1 =>
  (mM_isState v1 I1).bind fun q2 =>
  if q2 = 0 then
    mM_run_56 v1 v2 v3 v4 v5 I1
  else
    (if (mM_in v2.toInt64 (0 : Int64) (7 : Int64)) = 0 then
      mM_run_56 v1 v2 v3 v4 v5 I1
    else
      (if (mM_in v4.toInt64 (0 : Int64) (200 : Int64)) = 0 then
        mM_run_56 v1 v2 v3 v4 v5 I1
      else
        (if (mM_in v5.toInt64 (0 : Int64) (4 : Int64)) = 0 then
          mM_run_56 v1 v2 v3 v4 v5 I1
        else
          mM_run_57 v1 v2 v3 v4 v5 (1 : Int32) I1)))
set_option maxHeartbeats 4000000 in
theorem sM_run (d : Nat) (hd : 32 + 1 ≤ d) (v1 : Int32) (v2 : Int32) (v3 : Int32) (v4 : Int32) (v5 : Int32) (I : hI) (J : hJ) (q : Int32 × hI) (h : mM_run v1 v2 v3 v4 v5 I = some q) : HMet hFT yX11_run cX11_run 10 (some .int) kdM d [.ref 0, .int v1, .int v2, .int v3, .int v4, .int v5] (I, J, RMm) (some (.int q.1)) (q.2, J, RMm) := by
  obtain ⟨d0, rfl, hd0⟩ := h_mono hd
  refine HMet.of (by decide) (Nat.le_of_ble_eq_true rfl) ?_
  show AW hFT cX11_run 10 (some .int) RX11 kdM (d0 + 1) [(0, .ref 0), (1, .int v1), (2, .int v2), (3, .int v3), (4, .int v4), (5, .int v5)] 0 [] (I, J, RMm) (some (.int q.1)) (q.2, J, RMm)
  unfold mM_run at h
  refine a_aload_n dX11_run_0 rfl rfl ?_
  refine a_iconst dX11_run_1 ic_0 ?_
  refine b_putI hK_11 km_0 (i := 0) rfl fl_11_156 rfl rfl (h_NI _) dX11_run_2 ?_
  obtain ⟨I1, eI1, h⟩ := h_letS h
  refine a_memI eI1 ?_
  refine a_aload_n dX11_run_5 rfl rfl ?_
  refine a_aload_n dX11_run_6 rfl rfl ?_
  refine a_iload_n dX11_run_7 rfl rfl ?_
  obtain ⟨q2, cq2, h⟩ := h_bindS h
  refine a_callV1 [.ref 0] yy_X11_isState ml_11_537 km_0 rfl (sM_isState _ (by omega) v1 I1 J q2 cq2) rfl rfl (Nat.le_of_ble_eq_true rfl) dX11_run_8 ?_
  refine a_if_eq (tgt := 56) dX11_run_11 (by decide) (fun c => ?_) (fun c => ?_)
  · replace h := h_iteT c h
    exact sM_run_56 (d0 + 1) (by omega) v1 v2 v3 v4 v5 I1 J _ h
  · replace h := h_iteF c h
    refine a_iload_n dX11_run_14 rfl rfl ?_
    refine a_i2l dX11_run_15 ?_
    refine a_lconst dX11_run_16 lc_0 ?_
    refine a_ldc2_w cn_11_661 dX11_run_17 ?_
    refine a_callS1 [.ref 0] yy_X11_in ml_11_167 (sM_in _ (by omega) v2.toInt64 (0 : Int64) (7 : Int64) I1 J _ rfl) rfl rfl (Nat.le_of_ble_eq_true rfl) dX11_run_20 ?_
    refine a_if_eq (tgt := 56) dX11_run_23 (by decide) (fun c => ?_) (fun c => ?_)
    · replace h := h_iteT c h
      exact sM_run_56 (d0 + 1) (by omega) v1 v2 v3 v4 v5 I1 J _ h
    · replace h := h_iteF c h
      refine a_iload dX11_run_26 rfl ?_
      refine a_i2l dX11_run_28 ?_
      refine a_lconst dX11_run_29 lc_0 ?_
      refine a_ldc2_w cn_11_666 dX11_run_30 ?_
      refine a_callS1 [.ref 0] yy_X11_in ml_11_167 (sM_in _ (by omega) v4.toInt64 (0 : Int64) (200 : Int64) I1 J _ rfl) rfl rfl (Nat.le_of_ble_eq_true rfl) dX11_run_33 ?_
      refine a_if_eq (tgt := 56) dX11_run_36 (by decide) (fun c => ?_) (fun c => ?_)
      · replace h := h_iteT c h
        exact sM_run_56 (d0 + 1) (by omega) v1 v2 v3 v4 v5 I1 J _ h
      · replace h := h_iteF c h
        refine a_iload dX11_run_39 rfl ?_
        refine a_i2l dX11_run_41 ?_
        refine a_lconst dX11_run_42 lc_0 ?_
        refine a_ldc2_w cn_11_561 dX11_run_43 ?_
        refine a_callS1 [.ref 0] yy_X11_in ml_11_167 (sM_in _ (by omega) v5.toInt64 (0 : Int64) (4 : Int64) I1 J _ rfl) rfl rfl (Nat.le_of_ble_eq_true rfl) dX11_run_46 ?_
        refine a_if_eq (tgt := 56) dX11_run_49 (by decide) (fun c => ?_) (fun c => ?_)
        · replace h := h_iteT c h
          exact sM_run_56 (d0 + 1) (by omega) v1 v2 v3 v4 v5 I1 J _ h
        · replace h := h_iteF c h
          refine a_iconst dX11_run_52 ic_1 ?_
          refine a_goto (tgt := 57) dX11_run_53 (by decide) ?_
          exact sM_run_57 (d0 + 1) (by omega) v1 v2 v3 v4 v5 (1 : Int32) I1 J _ h
/-! CoinLoopsModel.bind(II)I -/
theorem dX11_bind_0 : decode cX11_bind 0 = .ok (.aload_n 0, 1) := by decide +kernel
theorem dX11_bind_1 : decode cX11_bind 1 = .ok (.iconst 0, 1) := by decide +kernel
theorem dX11_bind_2 : decode cX11_bind 2 = .ok (.putfield 156, 3) := by decide +kernel
theorem dX11_bind_5 : decode cX11_bind 5 = .ok (.aload_n 0, 1) := by decide +kernel
theorem dX11_bind_6 : decode cX11_bind 6 = .ok (.iload_n 1, 1) := by decide +kernel
theorem dX11_bind_7 : decode cX11_bind 7 = .ok (.i2l, 1) := by decide +kernel
theorem dX11_bind_8 : decode cX11_bind 8 = .ok (.lconst 0, 1) := by decide +kernel
theorem dX11_bind_9 : decode cX11_bind 9 = .ok (.aload_n 0, 1) := by decide +kernel
theorem dX11_bind_10 : decode cX11_bind 10 = .ok (.getfield 373, 3) := by decide +kernel
theorem dX11_bind_13 : decode cX11_bind 13 = .ok (.iconst 1, 1) := by decide +kernel
theorem dX11_bind_14 : decode cX11_bind 14 = .ok (.isub, 1) := by decide +kernel
theorem dX11_bind_15 : decode cX11_bind 15 = .ok (.i2l, 1) := by decide +kernel
theorem dX11_bind_16 : decode cX11_bind 16 = .ok (.invokestatic 167, 3) := by decide +kernel
theorem dX11_bind_19 : decode cX11_bind 19 = .ok (.ifCond .eq 19, 3) := by decide +kernel
theorem dX11_bind_22 : decode cX11_bind 22 = .ok (.iload_n 2, 1) := by decide +kernel
theorem dX11_bind_23 : decode cX11_bind 23 = .ok (.i2l, 1) := by decide +kernel
theorem dX11_bind_24 : decode cX11_bind 24 = .ok (.ldc2_w 545, 3) := by decide +kernel
theorem dX11_bind_27 : decode cX11_bind 27 = .ok (.lconst 1, 1) := by decide +kernel
theorem dX11_bind_28 : decode cX11_bind 28 = .ok (.invokestatic 167, 3) := by decide +kernel
theorem dX11_bind_31 : decode cX11_bind 31 = .ok (.ifCond .eq 7, 3) := by decide +kernel
theorem dX11_bind_34 : decode cX11_bind 34 = .ok (.iconst 1, 1) := by decide +kernel
theorem dX11_bind_35 : decode cX11_bind 35 = .ok (.goto 4, 3) := by decide +kernel
theorem dX11_bind_38 : decode cX11_bind 38 = .ok (.iconst 0, 1) := by decide +kernel
theorem dX11_bind_39 : decode cX11_bind 39 = .ok (.iconst 0, 1) := by decide +kernel
theorem dX11_bind_40 : decode cX11_bind 40 = .ok (.invokevirtual 527, 3) := by decide +kernel
theorem dX11_bind_43 : decode cX11_bind 43 = .ok (.ifCond .eq 5, 3) := by decide +kernel
theorem dX11_bind_46 : decode cX11_bind 46 = .ok (.iconst (-1), 1) := by decide +kernel
theorem dX11_bind_47 : decode cX11_bind 47 = .ok (.ireturn, 1) := by decide +kernel
theorem dX11_bind_48 : decode cX11_bind 48 = .ok (.aload_n 0, 1) := by decide +kernel
theorem dX11_bind_49 : decode cX11_bind 49 = .ok (.getfield 80, 3) := by decide +kernel
theorem dX11_bind_52 : decode cX11_bind 52 = .ok (.iload_n 1, 1) := by decide +kernel
theorem dX11_bind_53 : decode cX11_bind 53 = .ok (.iload_n 2, 1) := by decide +kernel
theorem dX11_bind_54 : decode cX11_bind 54 = .ok (.iastore, 1) := by decide +kernel
theorem dX11_bind_55 : decode cX11_bind 55 = .ok (.aload_n 0, 1) := by decide +kernel
theorem dX11_bind_56 : decode cX11_bind 56 = .ok (.invokevirtual 391, 3) := by decide +kernel
theorem dX11_bind_59 : decode cX11_bind 59 = .ok (.aload_n 0, 1) := by decide +kernel
theorem dX11_bind_60 : decode cX11_bind 60 = .ok (.invokevirtual 534, 3) := by decide +kernel
theorem dX11_bind_63 : decode cX11_bind 63 = .ok (.ireturn, 1) := by decide +kernel
def mM_bind_39  (v1 : Int32) (v2 : Int32) (vs1 : Int32) (I : hI) : Option (Int32 × hI) :=
  (mM_isRefused vs1 (0 : Int32) I).bind fun q1 =>
  if q1.1 = 0 then
    (h_g (h_in v1 3) <|
    h_let (h_u q1.2 24 v1.toNatClampNeg v2) fun I3 =>
    (mM_laysRounds I3).bind fun q4 =>
    (mM_plansTold q4).bind fun q5 =>
    some (q5, q4))
  else
    some ((-1 : Int32), q1.2)
set_option maxHeartbeats 4000000 in
theorem sM_bind_39 (d : Nat) (hd : 34 + 1 ≤ d) (v1 : Int32) (v2 : Int32) (vs1 : Int32) (I : hI) (J : hJ) (q : Int32 × hI) (h : mM_bind_39 v1 v2 vs1 I = some q) : AW hFT cX11_bind 3 (some .int) RX11 kdM d [(0, .ref 0), (1, .int v1), (2, .int v2)] 39 [.int vs1, .ref 0] (I, J, RMm) (some (.int q.1)) (q.2, J, RMm) := by
  obtain ⟨d0, rfl, hd0⟩ := h_mono hd
  unfold mM_bind_39 at h
  refine a_iconst dX11_bind_39 ic_0 ?_
  obtain ⟨q1, cq1, h⟩ := h_bindS h
  refine a_callV1 [] yy_X11_isRefused ml_11_527 km_0 rfl (sM_isRefused _ (by omega) vs1 (0 : Int32) I J q1 cq1) rfl rfl (Nat.le_of_ble_eq_true rfl) dX11_bind_40 ?_
  refine a_if_eq (tgt := 48) dX11_bind_43 (by decide) (fun c => ?_) (fun c => ?_)
  · replace h := h_iteT c h
    refine a_aload_n dX11_bind_48 rfl rfl ?_
    refine b_getR hK_11 km_0 (i := 52) rfl fl_11_80 rfl rmm_52 dX11_bind_49 ?_
    refine a_iload_n dX11_bind_52 rfl rfl ?_
    refine a_iload_n dX11_bind_53 rfl rfl ?_
    obtain ⟨g2, h⟩ := h_gS h
    refine b_iastore km_24 (h_inV g2) dX11_bind_54 ?_
    obtain ⟨I3, eI3, h⟩ := h_letS h
    refine a_memI eI3 ?_
    refine a_aload_n dX11_bind_55 rfl rfl ?_
    obtain ⟨q4, cq4, h⟩ := h_bindS h
    refine a_callV0 [] yy_X11_laysRounds ml_11_391 km_0 rfl (sM_laysRounds _ (by omega)  I3 J q4 cq4) rfl rfl (Nat.le_of_ble_eq_true rfl) dX11_bind_56 ?_
    refine a_aload_n dX11_bind_59 rfl rfl ?_
    obtain ⟨q5, cq5, h⟩ := h_bindS h
    refine a_callV1 [] yy_X11_plansTold ml_11_534 km_0 rfl (sM_plansTold _ (by omega)  q4 J q5 cq5) rfl rfl (Nat.le_of_ble_eq_true rfl) dX11_bind_60 ?_
    cases h
    exact a_iret dX11_bind_63
  · replace h := h_iteF c h
    refine a_iconst dX11_bind_46 ic_m1 ?_
    cases h
    exact a_iret dX11_bind_47
def mM_bind_38  (v1 : Int32) (v2 : Int32) (I : hI) : Option (Int32 × hI) :=
  mM_bind_39 v1 v2 (0 : Int32) I
set_option maxHeartbeats 4000000 in
theorem sM_bind_38 (d : Nat) (hd : 34 + 1 ≤ d) (v1 : Int32) (v2 : Int32) (I : hI) (J : hJ) (q : Int32 × hI) (h : mM_bind_38 v1 v2 I = some q) : AW hFT cX11_bind 3 (some .int) RX11 kdM d [(0, .ref 0), (1, .int v1), (2, .int v2)] 38 [.ref 0] (I, J, RMm) (some (.int q.1)) (q.2, J, RMm) := by
  obtain ⟨d0, rfl, hd0⟩ := h_mono hd
  unfold mM_bind_38 at h
  refine a_iconst dX11_bind_38 ic_0 ?_
  exact sM_bind_39 (d0 + 1) (by omega) v1 v2 (0 : Int32) I J _ h
def mM_bind  (v1 : Int32) (v2 : Int32) (I : hI) : Option (Int32 × hI) :=
  h_let (h_u I 0 0 (0 : Int32)) fun I1 =>
  if (mM_in v1.toInt64 (0 : Int64) (((I1 0 43) - (1 : Int32)).toInt64)) = 0 then
    mM_bind_38 v1 v2 I1
  else
    (if (mM_in v2.toInt64 (-1 : Int64) (1 : Int64)) = 0 then
      mM_bind_38 v1 v2 I1
    else
      mM_bind_39 v1 v2 (1 : Int32) I1)
set_option maxHeartbeats 4000000 in
theorem sM_bind (d : Nat) (hd : 34 + 1 ≤ d) (v1 : Int32) (v2 : Int32) (I : hI) (J : hJ) (q : Int32 × hI) (h : mM_bind v1 v2 I = some q) : HMet hFT yX11_bind cX11_bind 3 (some .int) kdM d [.ref 0, .int v1, .int v2] (I, J, RMm) (some (.int q.1)) (q.2, J, RMm) := by
  obtain ⟨d0, rfl, hd0⟩ := h_mono hd
  refine HMet.of (by decide) (Nat.le_of_ble_eq_true rfl) ?_
  show AW hFT cX11_bind 3 (some .int) RX11 kdM (d0 + 1) [(0, .ref 0), (1, .int v1), (2, .int v2)] 0 [] (I, J, RMm) (some (.int q.1)) (q.2, J, RMm)
  unfold mM_bind at h
  refine a_aload_n dX11_bind_0 rfl rfl ?_
  refine a_iconst dX11_bind_1 ic_0 ?_
  refine b_putI hK_11 km_0 (i := 0) rfl fl_11_156 rfl rfl (h_NI _) dX11_bind_2 ?_
  obtain ⟨I1, eI1, h⟩ := h_letS h
  refine a_memI eI1 ?_
  refine a_aload_n dX11_bind_5 rfl rfl ?_
  refine a_iload_n dX11_bind_6 rfl rfl ?_
  refine a_i2l dX11_bind_7 ?_
  refine a_lconst dX11_bind_8 lc_0 ?_
  refine a_aload_n dX11_bind_9 rfl rfl ?_
  refine b_getI hK_11 km_0 (i := 43) rfl fl_11_373 rfl dX11_bind_10 ?_
  refine a_iconst dX11_bind_13 ic_1 ?_
  refine a_isub dX11_bind_14 ?_
  refine a_i2l dX11_bind_15 ?_
  refine a_callS1 [.ref 0] yy_X11_in ml_11_167 (sM_in _ (by omega) v1.toInt64 (0 : Int64) (((I1 0 43) - (1 : Int32)).toInt64) I1 J _ rfl) rfl rfl (Nat.le_of_ble_eq_true rfl) dX11_bind_16 ?_
  refine a_if_eq (tgt := 38) dX11_bind_19 (by decide) (fun c => ?_) (fun c => ?_)
  · replace h := h_iteT c h
    exact sM_bind_38 (d0 + 1) (by omega) v1 v2 I1 J _ h
  · replace h := h_iteF c h
    refine a_iload_n dX11_bind_22 rfl rfl ?_
    refine a_i2l dX11_bind_23 ?_
    refine a_ldc2_w cn_11_545 dX11_bind_24 ?_
    refine a_lconst dX11_bind_27 lc_1 ?_
    refine a_callS1 [.ref 0] yy_X11_in ml_11_167 (sM_in _ (by omega) v2.toInt64 (-1 : Int64) (1 : Int64) I1 J _ rfl) rfl rfl (Nat.le_of_ble_eq_true rfl) dX11_bind_28 ?_
    refine a_if_eq (tgt := 38) dX11_bind_31 (by decide) (fun c => ?_) (fun c => ?_)
    · replace h := h_iteT c h
      exact sM_bind_38 (d0 + 1) (by omega) v1 v2 I1 J _ h
    · replace h := h_iteF c h
      refine a_iconst dX11_bind_34 ic_1 ?_
      refine a_goto (tgt := 39) dX11_bind_35 (by decide) ?_
      exact sM_bind_39 (d0 + 1) (by omega) v1 v2 (1 : Int32) I1 J _ h
/-! CoinLoopsModel.ofKind(I)I -/
theorem dX11_ofKind_0 : decode cX11_ofKind 0 = .ok (.iconst 0, 1) := by decide +kernel
theorem dX11_ofKind_1 : decode cX11_ofKind 1 = .ok (.istore_n 2, 1) := by decide +kernel
theorem dX11_ofKind_2 : decode cX11_ofKind 2 = .ok (.iconst 0, 1) := by decide +kernel
theorem dX11_ofKind_3 : decode cX11_ofKind 3 = .ok (.istore_n 3, 1) := by decide +kernel
theorem dX11_ofKind_4 : decode cX11_ofKind 4 = .ok (.iload_n 3, 1) := by decide +kernel
theorem dX11_ofKind_5 : decode cX11_ofKind 5 = .ok (.aload_n 0, 1) := by decide +kernel
theorem dX11_ofKind_6 : decode cX11_ofKind 6 = .ok (.getfield 370, 3) := by decide +kernel
theorem dX11_ofKind_9 : decode cX11_ofKind 9 = .ok (.if_icmp .ge 30, 3) := by decide +kernel
theorem dX11_ofKind_12 : decode cX11_ofKind 12 = .ok (.iload_n 2, 1) := by decide +kernel
theorem dX11_ofKind_13 : decode cX11_ofKind 13 = .ok (.aload_n 0, 1) := by decide +kernel
theorem dX11_ofKind_14 : decode cX11_ofKind 14 = .ok (.getfield 35, 3) := by decide +kernel
theorem dX11_ofKind_17 : decode cX11_ofKind 17 = .ok (.bipush 24, 2) := by decide +kernel
theorem dX11_ofKind_19 : decode cX11_ofKind 19 = .ok (.iload_n 3, 1) := by decide +kernel
theorem dX11_ofKind_20 : decode cX11_ofKind 20 = .ok (.iadd, 1) := by decide +kernel
theorem dX11_ofKind_21 : decode cX11_ofKind 21 = .ok (.iaload, 1) := by decide +kernel
theorem dX11_ofKind_22 : decode cX11_ofKind 22 = .ok (.iload_n 1, 1) := by decide +kernel
theorem dX11_ofKind_23 : decode cX11_ofKind 23 = .ok (.if_icmp .ne 7, 3) := by decide +kernel
theorem dX11_ofKind_26 : decode cX11_ofKind 26 = .ok (.iconst 1, 1) := by decide +kernel
theorem dX11_ofKind_27 : decode cX11_ofKind 27 = .ok (.goto 4, 3) := by decide +kernel
theorem dX11_ofKind_30 : decode cX11_ofKind 30 = .ok (.iconst 0, 1) := by decide +kernel
theorem dX11_ofKind_31 : decode cX11_ofKind 31 = .ok (.iadd, 1) := by decide +kernel
theorem dX11_ofKind_32 : decode cX11_ofKind 32 = .ok (.istore_n 2, 1) := by decide +kernel
theorem dX11_ofKind_33 : decode cX11_ofKind 33 = .ok (.iinc 3 1, 3) := by decide +kernel
theorem dX11_ofKind_36 : decode cX11_ofKind 36 = .ok (.goto (-32), 3) := by decide +kernel
theorem dX11_ofKind_39 : decode cX11_ofKind 39 = .ok (.iload_n 2, 1) := by decide +kernel
theorem dX11_ofKind_40 : decode cX11_ofKind 40 = .ok (.ireturn, 1) := by decide +kernel
def mM_ofKind_B4 (k4 : Int32 → Int32 → Int32 → hI → Option (Int32)) (v1 : Int32) (v2 : Int32) (v3 : Int32) (I : hI) : Option (Int32) :=
  if (I 0 42) ≤ v3 then
    some v2
  else
    (h_g (h_in ((24 : Int32) + v3) 48) <|
    if (I 9 ((24 : Int32) + v3).toNatClampNeg) = v1 then
      (h_let (v2 + (1 : Int32)) fun v2x1 =>
      k4 v1 v2x1 (v3 + (1 : Int32)) I)
    else
      (h_let (v2 + (0 : Int32)) fun v2x1 =>
      k4 v1 v2x1 (v3 + (1 : Int32)) I))
set_option maxHeartbeats 4000000 in
theorem sM_ofKind_B4 (d : Nat) (hd : 0 ≤ d) (k4 : Int32 → Int32 → Int32 → hI → Option (Int32)) (hk4 : ∀ (v1 : Int32) (v2 : Int32) (v3 : Int32) (I : hI) (J : hJ) (q : Int32), k4 v1 v2 v3 I = some q → AW hFT cX11_ofKind 4 (some .int) RX11 kdM d [(0, .ref 0), (1, .int v1), (2, .int v2), (3, .int v3)] 4 [] (I, J, RMm) (some (.int q)) (I, J, RMm)) (v1 : Int32) (v2 : Int32) (v3 : Int32) (I : hI) (J : hJ) (q : Int32) (h : mM_ofKind_B4 k4 v1 v2 v3 I = some q) : AW hFT cX11_ofKind 4 (some .int) RX11 kdM d [(0, .ref 0), (1, .int v1), (2, .int v2), (3, .int v3)] 4 [] (I, J, RMm) (some (.int q)) (I, J, RMm) := by
  unfold mM_ofKind_B4 at h
  refine a_iload_n dX11_ofKind_4 rfl rfl ?_
  refine a_aload_n dX11_ofKind_5 rfl rfl ?_
  refine b_getI hK_11 km_0 (i := 42) rfl fl_11_370 rfl dX11_ofKind_6 ?_
  refine a_icmp_ge (tgt := 39) dX11_ofKind_9 (by decide) (fun c => ?_) (fun c => ?_)
  · replace h := h_iteT c h
    refine a_iload_n dX11_ofKind_39 rfl rfl ?_
    cases h
    exact a_iret dX11_ofKind_40
  · replace h := h_iteF c h
    refine a_iload_n dX11_ofKind_12 rfl rfl ?_
    refine a_aload_n dX11_ofKind_13 rfl rfl ?_
    refine b_getR hK_11 km_0 (i := 17) rfl fl_11_35 rfl rmm_17 dX11_ofKind_14 ?_
    refine a_bipush dX11_ofKind_17 bp_24 ?_
    refine a_iload_n dX11_ofKind_19 rfl rfl ?_
    refine a_iadd dX11_ofKind_20 ?_
    obtain ⟨g1, h⟩ := h_gS h
    refine b_iaload km_9 (h_inV g1) dX11_ofKind_21 ?_
    refine a_iload_n dX11_ofKind_22 rfl rfl ?_
    refine a_icmp_ne (tgt := 30) dX11_ofKind_23 (by decide) (fun c => ?_) (fun c => ?_)
    · replace h := h_iteF c h
      refine a_iconst dX11_ofKind_30 ic_0 ?_
      refine a_iadd dX11_ofKind_31 ?_
      obtain ⟨v2x1, ev2x1, h⟩ := h_letS h
      refine a_topI ev2x1 ?_
      refine a_istore_n (lv' := [(2, .int v2x1), (0, .ref 0), (1, .int v1), (3, .int v3)]) dX11_ofKind_32 rfl (by decide) rfl ?_
      refine b_iinc (lv' := [(3, .int (v3 + (1 : Int32))), (2, .int v2x1), (0, .ref 0), (1, .int v1)]) dX11_ofKind_33 rfl ic_1 (by decide) rfl ?_
      refine a_goto (tgt := 4) dX11_ofKind_36 (by decide) ?_
      refine a_sub (lv' := [(0, .ref 0), (1, .int v1), (2, .int v2x1), (3, .int (v3 + (1 : Int32)))]) [2, 3, 1, 0] rfl ?_
      exact hk4 v1 v2x1 (v3 + (1 : Int32)) I J _ h
    · replace h := h_iteT c h
      refine a_iconst dX11_ofKind_26 ic_1 ?_
      refine a_goto (tgt := 31) dX11_ofKind_27 (by decide) ?_
      refine a_iadd dX11_ofKind_31 ?_
      obtain ⟨v2x1, ev2x1, h⟩ := h_letS h
      refine a_topI ev2x1 ?_
      refine a_istore_n (lv' := [(2, .int v2x1), (0, .ref 0), (1, .int v1), (3, .int v3)]) dX11_ofKind_32 rfl (by decide) rfl ?_
      refine b_iinc (lv' := [(3, .int (v3 + (1 : Int32))), (2, .int v2x1), (0, .ref 0), (1, .int v1)]) dX11_ofKind_33 rfl ic_1 (by decide) rfl ?_
      refine a_goto (tgt := 4) dX11_ofKind_36 (by decide) ?_
      refine a_sub (lv' := [(0, .ref 0), (1, .int v1), (2, .int v2x1), (3, .int (v3 + (1 : Int32)))]) [2, 3, 1, 0] rfl ?_
      exact hk4 v1 v2x1 (v3 + (1 : Int32)) I J _ h
def mM_ofKind_L4  : Nat → Int32 → Int32 → Int32 → hI → Option (Int32)
  | 0 => fun _ _ _ _ => none
  | n + 1 => mM_ofKind_B4 (mM_ofKind_L4 n)
theorem sM_ofKind_L4 (d : Nat) (hd : 0 ≤ d) : ∀ (n : Nat) (v1 : Int32) (v2 : Int32) (v3 : Int32) (I : hI) (J : hJ) (q : Int32) (h : mM_ofKind_L4 n v1 v2 v3 I = some q), AW hFT cX11_ofKind 4 (some .int) RX11 kdM d [(0, .ref 0), (1, .int v1), (2, .int v2), (3, .int v3)] 4 [] (I, J, RMm) (some (.int q)) (I, J, RMm)
  | 0, _, _, _, _, _, q, h => by cases h
  | n + 1, v1, v2, v3, I, J, q, h => sM_ofKind_B4 d hd (mM_ofKind_L4 n) (sM_ofKind_L4 d hd n) v1 v2 v3 I J q h
def mM_ofKind  (v1 : Int32) (I : hI) : Option (Int32) :=
  mM_ofKind_L4 hF v1 (0 : Int32) (0 : Int32) I
set_option maxHeartbeats 4000000 in
theorem sM_ofKind (d : Nat) (hd : 0 ≤ d) (v1 : Int32) (I : hI) (J : hJ) (q : Int32) (h : mM_ofKind v1 I = some q) : HMet hFT yX11_ofKind cX11_ofKind 4 (some .int) kdM d [.ref 0, .int v1] (I, J, RMm) (some (.int q)) (I, J, RMm) := by
  refine HMet.of (by decide) (Nat.le_of_ble_eq_true rfl) ?_
  show AW hFT cX11_ofKind 4 (some .int) RX11 kdM d [(0, .ref 0), (1, .int v1)] 0 [] (I, J, RMm) (some (.int q)) (I, J, RMm)
  unfold mM_ofKind at h
  refine a_iconst dX11_ofKind_0 ic_0 ?_
  refine a_istore_n (lv' := [(2, .int (0 : Int32)), (0, .ref 0), (1, .int v1)]) dX11_ofKind_1 rfl (by decide) rfl ?_
  refine a_iconst dX11_ofKind_2 ic_0 ?_
  refine a_istore_n (lv' := [(3, .int (0 : Int32)), (2, .int (0 : Int32)), (0, .ref 0), (1, .int v1)]) dX11_ofKind_3 rfl (by decide) rfl ?_
  refine a_sub (lv' := [(0, .ref 0), (1, .int v1), (2, .int (0 : Int32)), (3, .int (0 : Int32))]) [2, 3, 1, 0] rfl ?_
  exact sM_ofKind_L4 d (by omega) hF v1 (0 : Int32) (0 : Int32) I J _ h
/-! CoinLoopsModel.price(II)I -/
theorem dX11_price_0 : decode cX11_price 0 = .ok (.aload_n 0, 1) := by decide +kernel
theorem dX11_price_1 : decode cX11_price 1 = .ok (.iconst 0, 1) := by decide +kernel
theorem dX11_price_2 : decode cX11_price 2 = .ok (.putfield 156, 3) := by decide +kernel
theorem dX11_price_5 : decode cX11_price 5 = .ok (.aload_n 0, 1) := by decide +kernel
theorem dX11_price_6 : decode cX11_price 6 = .ok (.iload_n 1, 1) := by decide +kernel
theorem dX11_price_7 : decode cX11_price 7 = .ok (.i2l, 1) := by decide +kernel
theorem dX11_price_8 : decode cX11_price 8 = .ok (.lconst 0, 1) := by decide +kernel
theorem dX11_price_9 : decode cX11_price 9 = .ok (.aload_n 0, 1) := by decide +kernel
theorem dX11_price_10 : decode cX11_price 10 = .ok (.getfield 351, 3) := by decide +kernel
theorem dX11_price_13 : decode cX11_price 13 = .ok (.ifCond .eq 14, 3) := by decide +kernel
theorem dX11_price_16 : decode cX11_price 16 = .ok (.aload_n 0, 1) := by decide +kernel
theorem dX11_price_17 : decode cX11_price 17 = .ok (.iconst 2, 1) := by decide +kernel
theorem dX11_price_18 : decode cX11_price 18 = .ok (.invokevirtual 668, 3) := by decide +kernel
theorem dX11_price_21 : decode cX11_price 21 = .ok (.iconst 1, 1) := by decide +kernel
theorem dX11_price_22 : decode cX11_price 22 = .ok (.isub, 1) := by decide +kernel
theorem dX11_price_23 : decode cX11_price 23 = .ok (.i2l, 1) := by decide +kernel
theorem dX11_price_24 : decode cX11_price 24 = .ok (.goto 4, 3) := by decide +kernel
theorem dX11_price_27 : decode cX11_price 27 = .ok (.lconst 0, 1) := by decide +kernel
theorem dX11_price_28 : decode cX11_price 28 = .ok (.invokestatic 167, 3) := by decide +kernel
theorem dX11_price_31 : decode cX11_price 31 = .ok (.ifCond .eq 19, 3) := by decide +kernel
theorem dX11_price_34 : decode cX11_price 34 = .ok (.iload_n 2, 1) := by decide +kernel
theorem dX11_price_35 : decode cX11_price 35 = .ok (.i2l, 1) := by decide +kernel
theorem dX11_price_36 : decode cX11_price 36 = .ok (.lconst 0, 1) := by decide +kernel
theorem dX11_price_37 : decode cX11_price 37 = .ok (.ldc2_w 567, 3) := by decide +kernel
theorem dX11_price_40 : decode cX11_price 40 = .ok (.invokestatic 167, 3) := by decide +kernel
theorem dX11_price_43 : decode cX11_price 43 = .ok (.ifCond .eq 7, 3) := by decide +kernel
theorem dX11_price_46 : decode cX11_price 46 = .ok (.iconst 1, 1) := by decide +kernel
theorem dX11_price_47 : decode cX11_price 47 = .ok (.goto 4, 3) := by decide +kernel
theorem dX11_price_50 : decode cX11_price 50 = .ok (.iconst 0, 1) := by decide +kernel
theorem dX11_price_51 : decode cX11_price 51 = .ok (.iconst 0, 1) := by decide +kernel
theorem dX11_price_52 : decode cX11_price 52 = .ok (.invokevirtual 527, 3) := by decide +kernel
theorem dX11_price_55 : decode cX11_price 55 = .ok (.ifCond .eq 5, 3) := by decide +kernel
theorem dX11_price_58 : decode cX11_price 58 = .ok (.iconst (-1), 1) := by decide +kernel
theorem dX11_price_59 : decode cX11_price 59 = .ok (.ireturn, 1) := by decide +kernel
theorem dX11_price_60 : decode cX11_price 60 = .ok (.iload_n 1, 1) := by decide +kernel
theorem dX11_price_61 : decode cX11_price 61 = .ok (.istore_n 3, 1) := by decide +kernel
theorem dX11_price_62 : decode cX11_price 62 = .ok (.iconst (-1), 1) := by decide +kernel
theorem dX11_price_63 : decode cX11_price 63 = .ok (.istore 4, 2) := by decide +kernel
theorem dX11_price_65 : decode cX11_price 65 = .ok (.bipush 24, 2) := by decide +kernel
theorem dX11_price_67 : decode cX11_price 67 = .ok (.istore 5, 2) := by decide +kernel
theorem dX11_price_69 : decode cX11_price 69 = .ok (.iload 5, 2) := by decide +kernel
theorem dX11_price_71 : decode cX11_price 71 = .ok (.bipush 24, 2) := by decide +kernel
theorem dX11_price_73 : decode cX11_price 73 = .ok (.aload_n 0, 1) := by decide +kernel
theorem dX11_price_74 : decode cX11_price 74 = .ok (.getfield 370, 3) := by decide +kernel
theorem dX11_price_77 : decode cX11_price 77 = .ok (.iadd, 1) := by decide +kernel
theorem dX11_price_78 : decode cX11_price 78 = .ok (.if_icmp .ge 50, 3) := by decide +kernel
theorem dX11_price_81 : decode cX11_price 81 = .ok (.iload 4, 2) := by decide +kernel
theorem dX11_price_83 : decode cX11_price 83 = .ok (.iconst (-1), 1) := by decide +kernel
theorem dX11_price_84 : decode cX11_price 84 = .ok (.if_icmp .ne 44, 3) := by decide +kernel
theorem dX11_price_87 : decode cX11_price 87 = .ok (.aload_n 0, 1) := by decide +kernel
theorem dX11_price_88 : decode cX11_price 88 = .ok (.getfield 35, 3) := by decide +kernel
theorem dX11_price_91 : decode cX11_price 91 = .ok (.iload 5, 2) := by decide +kernel
theorem dX11_price_93 : decode cX11_price 93 = .ok (.iaload, 1) := by decide +kernel
theorem dX11_price_94 : decode cX11_price 94 = .ok (.iconst 2, 1) := by decide +kernel
theorem dX11_price_95 : decode cX11_price 95 = .ok (.if_icmp .ne 27, 3) := by decide +kernel
theorem dX11_price_98 : decode cX11_price 98 = .ok (.iload_n 3, 1) := by decide +kernel
theorem dX11_price_99 : decode cX11_price 99 = .ok (.ifCond .ne 20, 3) := by decide +kernel
theorem dX11_price_102 : decode cX11_price 102 = .ok (.aload_n 0, 1) := by decide +kernel
theorem dX11_price_103 : decode cX11_price 103 = .ok (.getfield 38, 3) := by decide +kernel
theorem dX11_price_106 : decode cX11_price 106 = .ok (.iload 5, 2) := by decide +kernel
theorem dX11_price_108 : decode cX11_price 108 = .ok (.iaload, 1) := by decide +kernel
theorem dX11_price_109 : decode cX11_price 109 = .ok (.istore 4, 2) := by decide +kernel
theorem dX11_price_111 : decode cX11_price 111 = .ok (.aload_n 0, 1) := by decide +kernel
theorem dX11_price_112 : decode cX11_price 112 = .ok (.getfield 38, 3) := by decide +kernel
theorem dX11_price_115 : decode cX11_price 115 = .ok (.iload 5, 2) := by decide +kernel
theorem dX11_price_117 : decode cX11_price 117 = .ok (.iload_n 2, 1) := by decide +kernel
theorem dX11_price_118 : decode cX11_price 118 = .ok (.iastore, 1) := by decide +kernel
theorem dX11_price_119 : decode cX11_price 119 = .ok (.iinc 3 (-1), 3) := by decide +kernel
theorem dX11_price_122 : decode cX11_price 122 = .ok (.iinc 5 1, 3) := by decide +kernel
theorem dX11_price_125 : decode cX11_price 125 = .ok (.goto (-56), 3) := by decide +kernel
theorem dX11_price_128 : decode cX11_price 128 = .ok (.aload_n 0, 1) := by decide +kernel
theorem dX11_price_129 : decode cX11_price 129 = .ok (.invokevirtual 391, 3) := by decide +kernel
theorem dX11_price_132 : decode cX11_price 132 = .ok (.iload 4, 2) := by decide +kernel
theorem dX11_price_134 : decode cX11_price 134 = .ok (.ireturn, 1) := by decide +kernel
def mM_price_128  (v4 : Int32) (I : hI) : Option (Int32 × hI) :=
  (mM_laysRounds I).bind fun q1 =>
  some (v4, q1)
set_option maxHeartbeats 4000000 in
theorem sM_price_128 (d : Nat) (hd : 34 + 1 ≤ d) (v4 : Int32) (I : hI) (J : hJ) (q : Int32 × hI) (h : mM_price_128 v4 I = some q) : AW hFT cX11_price 6 (some .int) RX11 kdM d [(0, .ref 0), (4, .int v4)] 128 [] (I, J, RMm) (some (.int q.1)) (q.2, J, RMm) := by
  obtain ⟨d0, rfl, hd0⟩ := h_mono hd
  unfold mM_price_128 at h
  refine a_aload_n dX11_price_128 rfl rfl ?_
  obtain ⟨q1, cq1, h⟩ := h_bindS h
  refine a_callV0 [] yy_X11_laysRounds ml_11_391 km_0 rfl (sM_laysRounds _ (by omega)  I J q1 cq1) rfl rfl (Nat.le_of_ble_eq_true rfl) dX11_price_129 ?_
  refine a_iload dX11_price_132 rfl ?_
  cases h
  exact a_iret dX11_price_134
def mM_price_B69 (k69 : Int32 → Int32 → Int32 → Int32 → hI → Option (Int32 × hI)) (v2 : Int32) (v3 : Int32) (v4 : Int32) (v5 : Int32) (I : hI) : Option (Int32 × hI) :=
  if ((24 : Int32) + (I 0 42)) ≤ v5 then
    mM_price_128 v4 I
  else
    (if v4 = (-1 : Int32) then
      (h_g (h_in v5 48) <|
      if (I 9 v5.toNatClampNeg) = (2 : Int32) then
        (if v3 = 0 then
          (h_g (h_in v5 48) <|
          h_let (I 10 v5.toNatClampNeg) fun v4x2 =>
          h_g (h_in v5 48) <|
          h_let (h_u I 10 v5.toNatClampNeg v2) fun I5 =>
          k69 v2 (v3 + (-1 : Int32)) v4x2 (v5 + (1 : Int32)) I5)
        else
          k69 v2 (v3 + (-1 : Int32)) v4 (v5 + (1 : Int32)) I)
      else
        k69 v2 v3 v4 (v5 + (1 : Int32)) I)
    else
      mM_price_128 v4 I)
set_option maxHeartbeats 4000000 in
theorem sM_price_B69 (d : Nat) (hd : 34 + 1 ≤ d) (k69 : Int32 → Int32 → Int32 → Int32 → hI → Option (Int32 × hI)) (hk69 : ∀ (v2 : Int32) (v3 : Int32) (v4 : Int32) (v5 : Int32) (I : hI) (J : hJ) (q : Int32 × hI), k69 v2 v3 v4 v5 I = some q → AW hFT cX11_price 6 (some .int) RX11 kdM d [(0, .ref 0), (2, .int v2), (3, .int v3), (4, .int v4), (5, .int v5)] 69 [] (I, J, RMm) (some (.int q.1)) (q.2, J, RMm)) (v2 : Int32) (v3 : Int32) (v4 : Int32) (v5 : Int32) (I : hI) (J : hJ) (q : Int32 × hI) (h : mM_price_B69 k69 v2 v3 v4 v5 I = some q) : AW hFT cX11_price 6 (some .int) RX11 kdM d [(0, .ref 0), (2, .int v2), (3, .int v3), (4, .int v4), (5, .int v5)] 69 [] (I, J, RMm) (some (.int q.1)) (q.2, J, RMm) := by
  obtain ⟨d0, rfl, hd0⟩ := h_mono hd
  unfold mM_price_B69 at h
  refine a_iload dX11_price_69 rfl ?_
  refine a_bipush dX11_price_71 bp_24 ?_
  refine a_aload_n dX11_price_73 rfl rfl ?_
  refine b_getI hK_11 km_0 (i := 42) rfl fl_11_370 rfl dX11_price_74 ?_
  refine a_iadd dX11_price_77 ?_
  refine a_icmp_ge (tgt := 128) dX11_price_78 (by decide) (fun c => ?_) (fun c => ?_)
  · replace h := h_iteT c h
    refine a_sub (lv' := [(0, .ref 0), (4, .int v4)]) [0, 3] rfl ?_
    exact sM_price_128 (d0 + 1) (by omega) v4 I J _ h
  · replace h := h_iteF c h
    refine a_iload dX11_price_81 rfl ?_
    refine a_iconst dX11_price_83 ic_m1 ?_
    refine a_icmp_ne (tgt := 128) dX11_price_84 (by decide) (fun c => ?_) (fun c => ?_)
    · replace h := h_iteF c h
      refine a_sub (lv' := [(0, .ref 0), (4, .int v4)]) [0, 3] rfl ?_
      exact sM_price_128 (d0 + 1) (by omega) v4 I J _ h
    · replace h := h_iteT c h
      refine a_aload_n dX11_price_87 rfl rfl ?_
      refine b_getR hK_11 km_0 (i := 17) rfl fl_11_35 rfl rmm_17 dX11_price_88 ?_
      refine a_iload dX11_price_91 rfl ?_
      obtain ⟨g1, h⟩ := h_gS h
      refine b_iaload km_9 (h_inV g1) dX11_price_93 ?_
      refine a_iconst dX11_price_94 ic_2 ?_
      refine a_icmp_ne (tgt := 122) dX11_price_95 (by decide) (fun c => ?_) (fun c => ?_)
      · replace h := h_iteF c h
        refine b_iinc (lv' := [(5, .int (v5 + (1 : Int32))), (0, .ref 0), (2, .int v2), (3, .int v3), (4, .int v4)]) dX11_price_122 rfl ic_1 (by decide) rfl ?_
        refine a_goto (tgt := 69) dX11_price_125 (by decide) ?_
        refine a_sub (lv' := [(0, .ref 0), (2, .int v2), (3, .int v3), (4, .int v4), (5, .int (v5 + (1 : Int32)))]) [1, 2, 3, 4, 0] rfl ?_
        exact hk69 v2 v3 v4 (v5 + (1 : Int32)) I J _ h
      · replace h := h_iteT c h
        refine a_iload_n dX11_price_98 rfl rfl ?_
        refine a_if_ne (tgt := 119) dX11_price_99 (by decide) (fun c => ?_) (fun c => ?_)
        · replace h := h_iteF c h
          refine b_iinc (lv' := [(3, .int (v3 + (-1 : Int32))), (0, .ref 0), (2, .int v2), (4, .int v4), (5, .int v5)]) dX11_price_119 rfl ic_m1 (by decide) rfl ?_
          refine b_iinc (lv' := [(5, .int (v5 + (1 : Int32))), (3, .int (v3 + (-1 : Int32))), (0, .ref 0), (2, .int v2), (4, .int v4)]) dX11_price_122 rfl ic_1 (by decide) rfl ?_
          refine a_goto (tgt := 69) dX11_price_125 (by decide) ?_
          refine a_sub (lv' := [(0, .ref 0), (2, .int v2), (3, .int (v3 + (-1 : Int32))), (4, .int v4), (5, .int (v5 + (1 : Int32)))]) [2, 3, 1, 4, 0] rfl ?_
          exact hk69 v2 (v3 + (-1 : Int32)) v4 (v5 + (1 : Int32)) I J _ h
        · replace h := h_iteT c h
          refine a_aload_n dX11_price_102 rfl rfl ?_
          refine b_getR hK_11 km_0 (i := 18) rfl fl_11_38 rfl rmm_18 dX11_price_103 ?_
          refine a_iload dX11_price_106 rfl ?_
          obtain ⟨g2, h⟩ := h_gS h
          refine b_iaload km_10 (h_inV g2) dX11_price_108 ?_
          obtain ⟨v4x2, ev4x2, h⟩ := h_letS h
          refine a_topI ev4x2 ?_
          refine a_istore (lv' := [(4, .int v4x2), (0, .ref 0), (2, .int v2), (3, .int v3), (5, .int v5)]) dX11_price_109 (by decide) rfl ?_
          refine a_aload_n dX11_price_111 rfl rfl ?_
          refine b_getR hK_11 km_0 (i := 18) rfl fl_11_38 rfl rmm_18 dX11_price_112 ?_
          refine a_iload dX11_price_115 rfl ?_
          refine a_iload_n dX11_price_117 rfl rfl ?_
          obtain ⟨g4, h⟩ := h_gS h
          refine b_iastore km_10 (h_inV g4) dX11_price_118 ?_
          obtain ⟨I5, eI5, h⟩ := h_letS h
          refine a_memI eI5 ?_
          refine b_iinc (lv' := [(3, .int (v3 + (-1 : Int32))), (4, .int v4x2), (0, .ref 0), (2, .int v2), (5, .int v5)]) dX11_price_119 rfl ic_m1 (by decide) rfl ?_
          refine b_iinc (lv' := [(5, .int (v5 + (1 : Int32))), (3, .int (v3 + (-1 : Int32))), (4, .int v4x2), (0, .ref 0), (2, .int v2)]) dX11_price_122 rfl ic_1 (by decide) rfl ?_
          refine a_goto (tgt := 69) dX11_price_125 (by decide) ?_
          refine a_sub (lv' := [(0, .ref 0), (2, .int v2), (3, .int (v3 + (-1 : Int32))), (4, .int v4x2), (5, .int (v5 + (1 : Int32)))]) [3, 4, 1, 2, 0] rfl ?_
          exact hk69 v2 (v3 + (-1 : Int32)) v4x2 (v5 + (1 : Int32)) I5 J _ h
def mM_price_L69  : Nat → Int32 → Int32 → Int32 → Int32 → hI → Option (Int32 × hI)
  | 0 => fun _ _ _ _ _ => none
  | n + 1 => mM_price_B69 (mM_price_L69 n)
theorem sM_price_L69 (d : Nat) (hd : 34 + 1 ≤ d) : ∀ (n : Nat) (v2 : Int32) (v3 : Int32) (v4 : Int32) (v5 : Int32) (I : hI) (J : hJ) (q : Int32 × hI) (h : mM_price_L69 n v2 v3 v4 v5 I = some q), AW hFT cX11_price 6 (some .int) RX11 kdM d [(0, .ref 0), (2, .int v2), (3, .int v3), (4, .int v4), (5, .int v5)] 69 [] (I, J, RMm) (some (.int q.1)) (q.2, J, RMm)
  | 0, _, _, _, _, _, _, q, h => by cases h
  | n + 1, v2, v3, v4, v5, I, J, q, h => sM_price_B69 d hd (mM_price_L69 n) (sM_price_L69 d hd n) v2 v3 v4 v5 I J q h
def mM_price_51  (v1 : Int32) (v2 : Int32) (vs1 : Int32) (I : hI) : Option (Int32 × hI) :=
  (mM_isRefused vs1 (0 : Int32) I).bind fun q1 =>
  if q1.1 = 0 then
    mM_price_L69 hF v2 v1 (-1 : Int32) (24 : Int32) q1.2
  else
    some ((-1 : Int32), q1.2)
set_option maxHeartbeats 4000000 in
theorem sM_price_51 (d : Nat) (hd : 34 + 1 ≤ d) (v1 : Int32) (v2 : Int32) (vs1 : Int32) (I : hI) (J : hJ) (q : Int32 × hI) (h : mM_price_51 v1 v2 vs1 I = some q) : AW hFT cX11_price 6 (some .int) RX11 kdM d [(0, .ref 0), (1, .int v1), (2, .int v2)] 51 [.int vs1, .ref 0] (I, J, RMm) (some (.int q.1)) (q.2, J, RMm) := by
  obtain ⟨d0, rfl, hd0⟩ := h_mono hd
  unfold mM_price_51 at h
  refine a_iconst dX11_price_51 ic_0 ?_
  obtain ⟨q1, cq1, h⟩ := h_bindS h
  refine a_callV1 [] yy_X11_isRefused ml_11_527 km_0 rfl (sM_isRefused _ (by omega) vs1 (0 : Int32) I J q1 cq1) rfl rfl (Nat.le_of_ble_eq_true rfl) dX11_price_52 ?_
  refine a_if_eq (tgt := 60) dX11_price_55 (by decide) (fun c => ?_) (fun c => ?_)
  · replace h := h_iteT c h
    refine a_iload_n dX11_price_60 rfl rfl ?_
    refine a_istore_n (lv' := [(3, .int v1), (0, .ref 0), (1, .int v1), (2, .int v2)]) dX11_price_61 rfl (by decide) rfl ?_
    refine a_iconst dX11_price_62 ic_m1 ?_
    refine a_istore (lv' := [(4, .int (-1 : Int32)), (3, .int v1), (0, .ref 0), (1, .int v1), (2, .int v2)]) dX11_price_63 (by decide) rfl ?_
    refine a_bipush dX11_price_65 bp_24 ?_
    refine a_istore (lv' := [(5, .int (24 : Int32)), (4, .int (-1 : Int32)), (3, .int v1), (0, .ref 0), (1, .int v1), (2, .int v2)]) dX11_price_67 (by decide) rfl ?_
    refine a_sub (lv' := [(0, .ref 0), (2, .int v2), (3, .int v1), (4, .int (-1 : Int32)), (5, .int (24 : Int32))]) [3, 5, 2, 1, 0] rfl ?_
    exact sM_price_L69 (d0 + 1) (by omega) hF v2 v1 (-1 : Int32) (24 : Int32) q1.2 J _ h
  · replace h := h_iteF c h
    refine a_iconst dX11_price_58 ic_m1 ?_
    cases h
    exact a_iret dX11_price_59
def mM_price_50  (v1 : Int32) (v2 : Int32) (I : hI) : Option (Int32 × hI) :=
  mM_price_51 v1 v2 (0 : Int32) I
set_option maxHeartbeats 4000000 in
theorem sM_price_50 (d : Nat) (hd : 34 + 1 ≤ d) (v1 : Int32) (v2 : Int32) (I : hI) (J : hJ) (q : Int32 × hI) (h : mM_price_50 v1 v2 I = some q) : AW hFT cX11_price 6 (some .int) RX11 kdM d [(0, .ref 0), (1, .int v1), (2, .int v2)] 50 [.ref 0] (I, J, RMm) (some (.int q.1)) (q.2, J, RMm) := by
  obtain ⟨d0, rfl, hd0⟩ := h_mono hd
  unfold mM_price_50 at h
  refine a_iconst dX11_price_50 ic_0 ?_
  exact sM_price_51 (d0 + 1) (by omega) v1 v2 (0 : Int32) I J _ h
def mM_price_28  (v1 : Int32) (v2 : Int32) (vs1 : Int64) (vs2 : Int64) (vs3 : Int64) (I : hI) : Option (Int32 × hI) :=
  if (mM_in vs1 vs2 vs3) = 0 then
    mM_price_50 v1 v2 I
  else
    (if (mM_in v2.toInt64 (0 : Int64) (20 : Int64)) = 0 then
      mM_price_50 v1 v2 I
    else
      mM_price_51 v1 v2 (1 : Int32) I)
set_option maxHeartbeats 4000000 in
theorem sM_price_28 (d : Nat) (hd : 34 + 1 ≤ d) (v1 : Int32) (v2 : Int32) (vs1 : Int64) (vs2 : Int64) (vs3 : Int64) (I : hI) (J : hJ) (q : Int32 × hI) (h : mM_price_28 v1 v2 vs1 vs2 vs3 I = some q) : AW hFT cX11_price 6 (some .int) RX11 kdM d [(0, .ref 0), (1, .int v1), (2, .int v2)] 28 [.long vs3, .long vs2, .long vs1, .ref 0] (I, J, RMm) (some (.int q.1)) (q.2, J, RMm) := by
  obtain ⟨d0, rfl, hd0⟩ := h_mono hd
  unfold mM_price_28 at h
  refine a_callS1 [.ref 0] yy_X11_in ml_11_167 (sM_in _ (by omega) vs1 vs2 vs3 I J _ rfl) rfl rfl (Nat.le_of_ble_eq_true rfl) dX11_price_28 ?_
  refine a_if_eq (tgt := 50) dX11_price_31 (by decide) (fun c => ?_) (fun c => ?_)
  · replace h := h_iteT c h
    exact sM_price_50 (d0 + 1) (by omega) v1 v2 I J _ h
  · replace h := h_iteF c h
    refine a_iload_n dX11_price_34 rfl rfl ?_
    refine a_i2l dX11_price_35 ?_
    refine a_lconst dX11_price_36 lc_0 ?_
    refine a_ldc2_w cn_11_567 dX11_price_37 ?_
    refine a_callS1 [.ref 0] yy_X11_in ml_11_167 (sM_in _ (by omega) v2.toInt64 (0 : Int64) (20 : Int64) I J _ rfl) rfl rfl (Nat.le_of_ble_eq_true rfl) dX11_price_40 ?_
    refine a_if_eq (tgt := 50) dX11_price_43 (by decide) (fun c => ?_) (fun c => ?_)
    · replace h := h_iteT c h
      exact sM_price_50 (d0 + 1) (by omega) v1 v2 I J _ h
    · replace h := h_iteF c h
      refine a_iconst dX11_price_46 ic_1 ?_
      refine a_goto (tgt := 51) dX11_price_47 (by decide) ?_
      exact sM_price_51 (d0 + 1) (by omega) v1 v2 (1 : Int32) I J _ h
def mM_price  (v1 : Int32) (v2 : Int32) (I : hI) : Option (Int32 × hI) :=
  h_let (h_u I 0 0 (0 : Int32)) fun I1 =>
  if (I1 0 37) = 0 then
    mM_price_28 v1 v2 v1.toInt64 (0 : Int64) (0 : Int64) I1
  else
    ((mM_ofKind (2 : Int32) I1).bind fun q2 =>
    mM_price_28 v1 v2 v1.toInt64 (0 : Int64) ((q2 - (1 : Int32)).toInt64) I1)
set_option maxHeartbeats 4000000 in
theorem sM_price (d : Nat) (hd : 34 + 1 ≤ d) (v1 : Int32) (v2 : Int32) (I : hI) (J : hJ) (q : Int32 × hI) (h : mM_price v1 v2 I = some q) : HMet hFT yX11_price cX11_price 6 (some .int) kdM d [.ref 0, .int v1, .int v2] (I, J, RMm) (some (.int q.1)) (q.2, J, RMm) := by
  obtain ⟨d0, rfl, hd0⟩ := h_mono hd
  refine HMet.of (by decide) (Nat.le_of_ble_eq_true rfl) ?_
  show AW hFT cX11_price 6 (some .int) RX11 kdM (d0 + 1) [(0, .ref 0), (1, .int v1), (2, .int v2)] 0 [] (I, J, RMm) (some (.int q.1)) (q.2, J, RMm)
  unfold mM_price at h
  refine a_aload_n dX11_price_0 rfl rfl ?_
  refine a_iconst dX11_price_1 ic_0 ?_
  refine b_putI hK_11 km_0 (i := 0) rfl fl_11_156 rfl rfl (h_NI _) dX11_price_2 ?_
  obtain ⟨I1, eI1, h⟩ := h_letS h
  refine a_memI eI1 ?_
  refine a_aload_n dX11_price_5 rfl rfl ?_
  refine a_iload_n dX11_price_6 rfl rfl ?_
  refine a_i2l dX11_price_7 ?_
  refine a_lconst dX11_price_8 lc_0 ?_
  refine a_aload_n dX11_price_9 rfl rfl ?_
  refine b_getI hK_11 km_0 (i := 37) rfl fl_11_351 rfl dX11_price_10 ?_
  refine a_if_eq (tgt := 27) dX11_price_13 (by decide) (fun c => ?_) (fun c => ?_)
  · replace h := h_iteT c h
    refine a_lconst dX11_price_27 lc_0 ?_
    exact sM_price_28 (d0 + 1) (by omega) v1 v2 v1.toInt64 (0 : Int64) (0 : Int64) I1 J _ h
  · replace h := h_iteF c h
    refine a_aload_n dX11_price_16 rfl rfl ?_
    refine a_iconst dX11_price_17 ic_2 ?_
    obtain ⟨q2, cq2, h⟩ := h_bindS h
    refine a_callV1 [.long (0 : Int64), .long v1.toInt64, .ref 0] yy_X11_ofKind ml_11_668 km_0 rfl (sM_ofKind _ (by omega) (2 : Int32) I1 J q2 cq2) rfl rfl (Nat.le_of_ble_eq_true rfl) dX11_price_18 ?_
    refine a_iconst dX11_price_21 ic_1 ?_
    refine a_isub dX11_price_22 ?_
    refine a_i2l dX11_price_23 ?_
    refine a_goto (tgt := 28) dX11_price_24 (by decide) ?_
    exact sM_price_28 (d0 + 1) (by omega) v1 v2 v1.toInt64 (0 : Int64) ((q2 - (1 : Int32)).toInt64) I1 J _ h
/-! CoinLoopsModel.surely(Z)I -/
theorem dX11_surely_0 : decode cX11_surely 0 = .ok (.iconst 0, 1) := by decide +kernel
theorem dX11_surely_1 : decode cX11_surely 1 = .ok (.istore_n 2, 1) := by decide +kernel
theorem dX11_surely_2 : decode cX11_surely 2 = .ok (.iconst 0, 1) := by decide +kernel
theorem dX11_surely_3 : decode cX11_surely 3 = .ok (.istore_n 3, 1) := by decide +kernel
theorem dX11_surely_4 : decode cX11_surely 4 = .ok (.iload_n 3, 1) := by decide +kernel
theorem dX11_surely_5 : decode cX11_surely 5 = .ok (.aload_n 0, 1) := by decide +kernel
theorem dX11_surely_6 : decode cX11_surely 6 = .ok (.getfield 367, 3) := by decide +kernel
theorem dX11_surely_9 : decode cX11_surely 9 = .ok (.if_icmp .ge 26, 3) := by decide +kernel
theorem dX11_surely_12 : decode cX11_surely 12 = .ok (.iload_n 2, 1) := by decide +kernel
theorem dX11_surely_13 : decode cX11_surely 13 = .ok (.aload_n 0, 1) := by decide +kernel
theorem dX11_surely_14 : decode cX11_surely 14 = .ok (.iload_n 3, 1) := by decide +kernel
theorem dX11_surely_15 : decode cX11_surely 15 = .ok (.iload_n 1, 1) := by decide +kernel
theorem dX11_surely_16 : decode cX11_surely 16 = .ok (.invokevirtual 553, 3) := by decide +kernel
theorem dX11_surely_19 : decode cX11_surely 19 = .ok (.ifCond .eq 7, 3) := by decide +kernel
theorem dX11_surely_22 : decode cX11_surely 22 = .ok (.iconst 1, 1) := by decide +kernel
theorem dX11_surely_23 : decode cX11_surely 23 = .ok (.goto 4, 3) := by decide +kernel
theorem dX11_surely_26 : decode cX11_surely 26 = .ok (.iconst 0, 1) := by decide +kernel
theorem dX11_surely_27 : decode cX11_surely 27 = .ok (.iadd, 1) := by decide +kernel
theorem dX11_surely_28 : decode cX11_surely 28 = .ok (.istore_n 2, 1) := by decide +kernel
theorem dX11_surely_29 : decode cX11_surely 29 = .ok (.iinc 3 1, 3) := by decide +kernel
theorem dX11_surely_32 : decode cX11_surely 32 = .ok (.goto (-28), 3) := by decide +kernel
theorem dX11_surely_35 : decode cX11_surely 35 = .ok (.iload_n 2, 1) := by decide +kernel
theorem dX11_surely_36 : decode cX11_surely 36 = .ok (.ireturn, 1) := by decide +kernel
def mM_surely_B4 (k4 : Int32 → Int32 → Int32 → hI → hJ → Option (Int32 × hI × hJ)) (v1 : Int32) (v2 : Int32) (v3 : Int32) (I : hI) (J : hJ) : Option (Int32 × hI × hJ) :=
  if (I 0 41) ≤ v3 then
    some (v2, I, J)
  else
    ((mM_isSure v3 v1 I J).bind fun q1 =>
    if q1.1 = 0 then
      (h_let (v2 + (0 : Int32)) fun v2x1 =>
      k4 v1 v2x1 (v3 + (1 : Int32)) q1.2.1 q1.2.2)
    else
      (h_let (v2 + (1 : Int32)) fun v2x1 =>
      k4 v1 v2x1 (v3 + (1 : Int32)) q1.2.1 q1.2.2))
set_option maxHeartbeats 4000000 in
theorem sM_surely_B4 (d : Nat) (hd : 105 + 1 ≤ d) (k4 : Int32 → Int32 → Int32 → hI → hJ → Option (Int32 × hI × hJ)) (hk4 : ∀ (v1 : Int32) (v2 : Int32) (v3 : Int32) (I : hI) (J : hJ) (q : Int32 × hI × hJ), k4 v1 v2 v3 I J = some q → AW hFT cX11_surely 4 (some .int) RX11 kdM d [(0, .ref 0), (1, .int v1), (2, .int v2), (3, .int v3)] 4 [] (I, J, RMm) (some (.int q.1)) (q.2.1, q.2.2, RMm)) (v1 : Int32) (v2 : Int32) (v3 : Int32) (I : hI) (J : hJ) (q : Int32 × hI × hJ) (h : mM_surely_B4 k4 v1 v2 v3 I J = some q) : AW hFT cX11_surely 4 (some .int) RX11 kdM d [(0, .ref 0), (1, .int v1), (2, .int v2), (3, .int v3)] 4 [] (I, J, RMm) (some (.int q.1)) (q.2.1, q.2.2, RMm) := by
  obtain ⟨d0, rfl, hd0⟩ := h_mono hd
  unfold mM_surely_B4 at h
  refine a_iload_n dX11_surely_4 rfl rfl ?_
  refine a_aload_n dX11_surely_5 rfl rfl ?_
  refine b_getI hK_11 km_0 (i := 41) rfl fl_11_367 rfl dX11_surely_6 ?_
  refine a_icmp_ge (tgt := 35) dX11_surely_9 (by decide) (fun c => ?_) (fun c => ?_)
  · replace h := h_iteT c h
    refine a_iload_n dX11_surely_35 rfl rfl ?_
    cases h
    exact a_iret dX11_surely_36
  · replace h := h_iteF c h
    refine a_iload_n dX11_surely_12 rfl rfl ?_
    refine a_aload_n dX11_surely_13 rfl rfl ?_
    refine a_iload_n dX11_surely_14 rfl rfl ?_
    refine a_iload_n dX11_surely_15 rfl rfl ?_
    obtain ⟨q1, cq1, h⟩ := h_bindS h
    refine a_callV1 [.int v2] yy_X11_isSure ml_11_553 km_0 rfl (sM_isSure _ (by omega) v3 v1 I J q1 cq1) rfl rfl (Nat.le_of_ble_eq_true rfl) dX11_surely_16 ?_
    refine a_if_eq (tgt := 26) dX11_surely_19 (by decide) (fun c => ?_) (fun c => ?_)
    · replace h := h_iteT c h
      refine a_iconst dX11_surely_26 ic_0 ?_
      refine a_iadd dX11_surely_27 ?_
      obtain ⟨v2x1, ev2x1, h⟩ := h_letS h
      refine a_topI ev2x1 ?_
      refine a_istore_n (lv' := [(2, .int v2x1), (0, .ref 0), (1, .int v1), (3, .int v3)]) dX11_surely_28 rfl (by decide) rfl ?_
      refine b_iinc (lv' := [(3, .int (v3 + (1 : Int32))), (2, .int v2x1), (0, .ref 0), (1, .int v1)]) dX11_surely_29 rfl ic_1 (by decide) rfl ?_
      refine a_goto (tgt := 4) dX11_surely_32 (by decide) ?_
      refine a_sub (lv' := [(0, .ref 0), (1, .int v1), (2, .int v2x1), (3, .int (v3 + (1 : Int32)))]) [2, 3, 1, 0] rfl ?_
      exact hk4 v1 v2x1 (v3 + (1 : Int32)) q1.2.1 q1.2.2 _ h
    · replace h := h_iteF c h
      refine a_iconst dX11_surely_22 ic_1 ?_
      refine a_goto (tgt := 27) dX11_surely_23 (by decide) ?_
      refine a_iadd dX11_surely_27 ?_
      obtain ⟨v2x1, ev2x1, h⟩ := h_letS h
      refine a_topI ev2x1 ?_
      refine a_istore_n (lv' := [(2, .int v2x1), (0, .ref 0), (1, .int v1), (3, .int v3)]) dX11_surely_28 rfl (by decide) rfl ?_
      refine b_iinc (lv' := [(3, .int (v3 + (1 : Int32))), (2, .int v2x1), (0, .ref 0), (1, .int v1)]) dX11_surely_29 rfl ic_1 (by decide) rfl ?_
      refine a_goto (tgt := 4) dX11_surely_32 (by decide) ?_
      refine a_sub (lv' := [(0, .ref 0), (1, .int v1), (2, .int v2x1), (3, .int (v3 + (1 : Int32)))]) [2, 3, 1, 0] rfl ?_
      exact hk4 v1 v2x1 (v3 + (1 : Int32)) q1.2.1 q1.2.2 _ h
def mM_surely_L4  : Nat → Int32 → Int32 → Int32 → hI → hJ → Option (Int32 × hI × hJ)
  | 0 => fun _ _ _ _ _ => none
  | n + 1 => mM_surely_B4 (mM_surely_L4 n)
theorem sM_surely_L4 (d : Nat) (hd : 105 + 1 ≤ d) : ∀ (n : Nat) (v1 : Int32) (v2 : Int32) (v3 : Int32) (I : hI) (J : hJ) (q : Int32 × hI × hJ) (h : mM_surely_L4 n v1 v2 v3 I J = some q), AW hFT cX11_surely 4 (some .int) RX11 kdM d [(0, .ref 0), (1, .int v1), (2, .int v2), (3, .int v3)] 4 [] (I, J, RMm) (some (.int q.1)) (q.2.1, q.2.2, RMm)
  | 0, _, _, _, _, _, q, h => by cases h
  | n + 1, v1, v2, v3, I, J, q, h => sM_surely_B4 d hd (mM_surely_L4 n) (sM_surely_L4 d hd n) v1 v2 v3 I J q h
def mM_surely  (v1 : Int32) (I : hI) (J : hJ) : Option (Int32 × hI × hJ) :=
  mM_surely_L4 hF v1 (0 : Int32) (0 : Int32) I J
set_option maxHeartbeats 4000000 in
theorem sM_surely (d : Nat) (hd : 105 + 1 ≤ d) (v1 : Int32) (I : hI) (J : hJ) (q : Int32 × hI × hJ) (h : mM_surely v1 I J = some q) : HMet hFT yX11_surely cX11_surely 4 (some .int) kdM d [.ref 0, .int v1] (I, J, RMm) (some (.int q.1)) (q.2.1, q.2.2, RMm) := by
  obtain ⟨d0, rfl, hd0⟩ := h_mono hd
  refine HMet.of (by decide) (Nat.le_of_ble_eq_true rfl) ?_
  show AW hFT cX11_surely 4 (some .int) RX11 kdM (d0 + 1) [(0, .ref 0), (1, .int v1)] 0 [] (I, J, RMm) (some (.int q.1)) (q.2.1, q.2.2, RMm)
  unfold mM_surely at h
  refine a_iconst dX11_surely_0 ic_0 ?_
  refine a_istore_n (lv' := [(2, .int (0 : Int32)), (0, .ref 0), (1, .int v1)]) dX11_surely_1 rfl (by decide) rfl ?_
  refine a_iconst dX11_surely_2 ic_0 ?_
  refine a_istore_n (lv' := [(3, .int (0 : Int32)), (2, .int (0 : Int32)), (0, .ref 0), (1, .int v1)]) dX11_surely_3 rfl (by decide) rfl ?_
  refine a_sub (lv' := [(0, .ref 0), (1, .int v1), (2, .int (0 : Int32)), (3, .int (0 : Int32))]) [2, 3, 1, 0] rfl ?_
  exact sM_surely_L4 (d0 + 1) (by omega) hF v1 (0 : Int32) (0 : Int32) I J _ h
/-! CoinLoopsModel.reached()I -/
theorem dX11_reached_0 : decode cX11_reached 0 = .ok (.iconst 1, 1) := by decide +kernel
theorem dX11_reached_1 : decode cX11_reached 1 = .ok (.istore_n 1, 1) := by decide +kernel
theorem dX11_reached_2 : decode cX11_reached 2 = .ok (.iconst 0, 1) := by decide +kernel
theorem dX11_reached_3 : decode cX11_reached 3 = .ok (.istore_n 2, 1) := by decide +kernel
theorem dX11_reached_4 : decode cX11_reached 4 = .ok (.iload_n 2, 1) := by decide +kernel
theorem dX11_reached_5 : decode cX11_reached 5 = .ok (.aload_n 0, 1) := by decide +kernel
theorem dX11_reached_6 : decode cX11_reached 6 = .ok (.getfield 367, 3) := by decide +kernel
theorem dX11_reached_9 : decode cX11_reached 9 = .ok (.if_icmp .ge 104, 3) := by decide +kernel
theorem dX11_reached_12 : decode cX11_reached 12 = .ok (.iconst 0, 1) := by decide +kernel
theorem dX11_reached_13 : decode cX11_reached 13 = .ok (.istore_n 3, 1) := by decide +kernel
theorem dX11_reached_14 : decode cX11_reached 14 = .ok (.iload_n 3, 1) := by decide +kernel
theorem dX11_reached_15 : decode cX11_reached 15 = .ok (.aload_n 0, 1) := by decide +kernel
theorem dX11_reached_16 : decode cX11_reached 16 = .ok (.getfield 367, 3) := by decide +kernel
theorem dX11_reached_19 : decode cX11_reached 19 = .ok (.if_icmp .ge 88, 3) := by decide +kernel
theorem dX11_reached_22 : decode cX11_reached 22 = .ok (.iconst 0, 1) := by decide +kernel
theorem dX11_reached_23 : decode cX11_reached 23 = .ok (.istore 4, 2) := by decide +kernel
theorem dX11_reached_25 : decode cX11_reached 25 = .ok (.iload 4, 2) := by decide +kernel
theorem dX11_reached_27 : decode cX11_reached 27 = .ok (.aload_n 0, 1) := by decide +kernel
theorem dX11_reached_28 : decode cX11_reached 28 = .ok (.getfield 83, 3) := by decide +kernel
theorem dX11_reached_31 : decode cX11_reached 31 = .ok (.iload_n 3, 1) := by decide +kernel
theorem dX11_reached_32 : decode cX11_reached 32 = .ok (.iaload, 1) := by decide +kernel
theorem dX11_reached_33 : decode cX11_reached 33 = .ok (.if_icmp .ge 68, 3) := by decide +kernel
theorem dX11_reached_36 : decode cX11_reached 36 = .ok (.iload_n 1, 1) := by decide +kernel
theorem dX11_reached_37 : decode cX11_reached 37 = .ok (.iload_n 3, 1) := by decide +kernel
theorem dX11_reached_38 : decode cX11_reached 38 = .ok (.ishr, 1) := by decide +kernel
theorem dX11_reached_39 : decode cX11_reached 39 = .ok (.iconst 1, 1) := by decide +kernel
theorem dX11_reached_40 : decode cX11_reached 40 = .ok (.iand, 1) := by decide +kernel
theorem dX11_reached_41 : decode cX11_reached 41 = .ok (.iconst 1, 1) := by decide +kernel
theorem dX11_reached_42 : decode cX11_reached 42 = .ok (.if_icmp .ne 59, 3) := by decide +kernel
theorem dX11_reached_45 : decode cX11_reached 45 = .ok (.iconst 0, 1) := by decide +kernel
theorem dX11_reached_46 : decode cX11_reached 46 = .ok (.istore 5, 2) := by decide +kernel
theorem dX11_reached_48 : decode cX11_reached 48 = .ok (.iload 5, 2) := by decide +kernel
theorem dX11_reached_50 : decode cX11_reached 50 = .ok (.aload_n 0, 1) := by decide +kernel
theorem dX11_reached_51 : decode cX11_reached 51 = .ok (.getfield 367, 3) := by decide +kernel
theorem dX11_reached_54 : decode cX11_reached 54 = .ok (.if_icmp .ge 41, 3) := by decide +kernel
theorem dX11_reached_57 : decode cX11_reached 57 = .ok (.iload_n 1, 1) := by decide +kernel
theorem dX11_reached_58 : decode cX11_reached 58 = .ok (.aload_n 0, 1) := by decide +kernel
theorem dX11_reached_59 : decode cX11_reached 59 = .ok (.getfield 95, 3) := by decide +kernel
theorem dX11_reached_62 : decode cX11_reached 62 = .ok (.bipush 10, 2) := by decide +kernel
theorem dX11_reached_64 : decode cX11_reached 64 = .ok (.aload_n 0, 1) := by decide +kernel
theorem dX11_reached_65 : decode cX11_reached 65 = .ok (.iload_n 3, 1) := by decide +kernel
theorem dX11_reached_66 : decode cX11_reached 66 = .ok (.iload 4, 2) := by decide +kernel
theorem dX11_reached_68 : decode cX11_reached 68 = .ok (.invokevirtual 433, 3) := by decide +kernel
theorem dX11_reached_71 : decode cX11_reached 71 = .ok (.imul, 1) := by decide +kernel
theorem dX11_reached_72 : decode cX11_reached 72 = .ok (.iload 5, 2) := by decide +kernel
theorem dX11_reached_74 : decode cX11_reached 74 = .ok (.iadd, 1) := by decide +kernel
theorem dX11_reached_75 : decode cX11_reached 75 = .ok (.iaload, 1) := by decide +kernel
theorem dX11_reached_76 : decode cX11_reached 76 = .ok (.ifCond .le 10, 3) := by decide +kernel
theorem dX11_reached_79 : decode cX11_reached 79 = .ok (.iconst 1, 1) := by decide +kernel
theorem dX11_reached_80 : decode cX11_reached 80 = .ok (.iload 5, 2) := by decide +kernel
theorem dX11_reached_82 : decode cX11_reached 82 = .ok (.ishl, 1) := by decide +kernel
theorem dX11_reached_83 : decode cX11_reached 83 = .ok (.goto 4, 3) := by decide +kernel
theorem dX11_reached_86 : decode cX11_reached 86 = .ok (.iconst 0, 1) := by decide +kernel
theorem dX11_reached_87 : decode cX11_reached 87 = .ok (.ior, 1) := by decide +kernel
theorem dX11_reached_88 : decode cX11_reached 88 = .ok (.istore_n 1, 1) := by decide +kernel
theorem dX11_reached_89 : decode cX11_reached 89 = .ok (.iinc 5 1, 3) := by decide +kernel
theorem dX11_reached_92 : decode cX11_reached 92 = .ok (.goto (-44), 3) := by decide +kernel
theorem dX11_reached_95 : decode cX11_reached 95 = .ok (.iinc 4 1, 3) := by decide +kernel
theorem dX11_reached_98 : decode cX11_reached 98 = .ok (.goto (-73), 3) := by decide +kernel
theorem dX11_reached_101 : decode cX11_reached 101 = .ok (.iinc 3 1, 3) := by decide +kernel
theorem dX11_reached_104 : decode cX11_reached 104 = .ok (.goto (-90), 3) := by decide +kernel
theorem dX11_reached_107 : decode cX11_reached 107 = .ok (.iinc 2 1, 3) := by decide +kernel
theorem dX11_reached_110 : decode cX11_reached 110 = .ok (.goto (-106), 3) := by decide +kernel
theorem dX11_reached_113 : decode cX11_reached 113 = .ok (.iconst 0, 1) := by decide +kernel
theorem dX11_reached_114 : decode cX11_reached 114 = .ok (.istore_n 2, 1) := by decide +kernel
theorem dX11_reached_115 : decode cX11_reached 115 = .ok (.iconst 0, 1) := by decide +kernel
theorem dX11_reached_116 : decode cX11_reached 116 = .ok (.istore_n 3, 1) := by decide +kernel
theorem dX11_reached_117 : decode cX11_reached 117 = .ok (.iload_n 3, 1) := by decide +kernel
theorem dX11_reached_118 : decode cX11_reached 118 = .ok (.aload_n 0, 1) := by decide +kernel
theorem dX11_reached_119 : decode cX11_reached 119 = .ok (.getfield 367, 3) := by decide +kernel
theorem dX11_reached_122 : decode cX11_reached 122 = .ok (.if_icmp .ge 17, 3) := by decide +kernel
theorem dX11_reached_125 : decode cX11_reached 125 = .ok (.iload_n 2, 1) := by decide +kernel
theorem dX11_reached_126 : decode cX11_reached 126 = .ok (.iload_n 1, 1) := by decide +kernel
theorem dX11_reached_127 : decode cX11_reached 127 = .ok (.iload_n 3, 1) := by decide +kernel
theorem dX11_reached_128 : decode cX11_reached 128 = .ok (.ishr, 1) := by decide +kernel
theorem dX11_reached_129 : decode cX11_reached 129 = .ok (.iconst 1, 1) := by decide +kernel
theorem dX11_reached_130 : decode cX11_reached 130 = .ok (.iand, 1) := by decide +kernel
theorem dX11_reached_131 : decode cX11_reached 131 = .ok (.iadd, 1) := by decide +kernel
theorem dX11_reached_132 : decode cX11_reached 132 = .ok (.istore_n 2, 1) := by decide +kernel
theorem dX11_reached_133 : decode cX11_reached 133 = .ok (.iinc 3 1, 3) := by decide +kernel
theorem dX11_reached_136 : decode cX11_reached 136 = .ok (.goto (-19), 3) := by decide +kernel
theorem dX11_reached_139 : decode cX11_reached 139 = .ok (.iload_n 2, 1) := by decide +kernel
theorem dX11_reached_140 : decode cX11_reached 140 = .ok (.ireturn, 1) := by decide +kernel
def mM_reached_B117 (k117 : Int32 → Int32 → Int32 → hI → Option (Int32)) (v1 : Int32) (v2 : Int32) (v3 : Int32) (I : hI) : Option (Int32) :=
  if (I 0 41) ≤ v3 then
    some v2
  else
    (h_let (v2 + ((v1 >>> (v3 &&& 31)) &&& (1 : Int32))) fun v2x0 =>
    k117 v1 v2x0 (v3 + (1 : Int32)) I)
set_option maxHeartbeats 4000000 in
theorem sM_reached_B117 (d : Nat) (hd : 0 + 1 ≤ d) (k117 : Int32 → Int32 → Int32 → hI → Option (Int32)) (hk117 : ∀ (v1 : Int32) (v2 : Int32) (v3 : Int32) (I : hI) (J : hJ) (q : Int32), k117 v1 v2 v3 I = some q → AW hFT cX11_reached 6 (some .int) RX11 kdM d [(0, .ref 0), (1, .int v1), (2, .int v2), (3, .int v3)] 117 [] (I, J, RMm) (some (.int q)) (I, J, RMm)) (v1 : Int32) (v2 : Int32) (v3 : Int32) (I : hI) (J : hJ) (q : Int32) (h : mM_reached_B117 k117 v1 v2 v3 I = some q) : AW hFT cX11_reached 6 (some .int) RX11 kdM d [(0, .ref 0), (1, .int v1), (2, .int v2), (3, .int v3)] 117 [] (I, J, RMm) (some (.int q)) (I, J, RMm) := by
  obtain ⟨d0, rfl, hd0⟩ := h_mono hd
  unfold mM_reached_B117 at h
  refine a_iload_n dX11_reached_117 rfl rfl ?_
  refine a_aload_n dX11_reached_118 rfl rfl ?_
  refine b_getI hK_11 km_0 (i := 41) rfl fl_11_367 rfl dX11_reached_119 ?_
  refine a_icmp_ge (tgt := 139) dX11_reached_122 (by decide) (fun c => ?_) (fun c => ?_)
  · replace h := h_iteT c h
    refine a_iload_n dX11_reached_139 rfl rfl ?_
    cases h
    exact a_iret dX11_reached_140
  · replace h := h_iteF c h
    refine a_iload_n dX11_reached_125 rfl rfl ?_
    refine a_iload_n dX11_reached_126 rfl rfl ?_
    refine a_iload_n dX11_reached_127 rfl rfl ?_
    refine a_ishr dX11_reached_128 ?_
    refine a_iconst dX11_reached_129 ic_1 ?_
    refine a_iand dX11_reached_130 ?_
    refine a_iadd dX11_reached_131 ?_
    obtain ⟨v2x0, ev2x0, h⟩ := h_letS h
    refine a_topI ev2x0 ?_
    refine a_istore_n (lv' := [(2, .int v2x0), (0, .ref 0), (1, .int v1), (3, .int v3)]) dX11_reached_132 rfl (by decide) rfl ?_
    refine b_iinc (lv' := [(3, .int (v3 + (1 : Int32))), (2, .int v2x0), (0, .ref 0), (1, .int v1)]) dX11_reached_133 rfl ic_1 (by decide) rfl ?_
    refine a_goto (tgt := 117) dX11_reached_136 (by decide) ?_
    refine a_sub (lv' := [(0, .ref 0), (1, .int v1), (2, .int v2x0), (3, .int (v3 + (1 : Int32)))]) [2, 3, 1, 0] rfl ?_
    exact hk117 v1 v2x0 (v3 + (1 : Int32)) I J _ h
def mM_reached_L117  : Nat → Int32 → Int32 → Int32 → hI → Option (Int32)
  | 0 => fun _ _ _ _ => none
  | n + 1 => mM_reached_B117 (mM_reached_L117 n)
theorem sM_reached_L117 (d : Nat) (hd : 0 + 1 ≤ d) : ∀ (n : Nat) (v1 : Int32) (v2 : Int32) (v3 : Int32) (I : hI) (J : hJ) (q : Int32) (h : mM_reached_L117 n v1 v2 v3 I = some q), AW hFT cX11_reached 6 (some .int) RX11 kdM d [(0, .ref 0), (1, .int v1), (2, .int v2), (3, .int v3)] 117 [] (I, J, RMm) (some (.int q)) (I, J, RMm)
  | 0, _, _, _, _, _, q, h => by cases h
  | n + 1, v1, v2, v3, I, J, q, h => sM_reached_B117 d hd (mM_reached_L117 n) (sM_reached_L117 d hd n) v1 v2 v3 I J q h
def mM_reached_B48 (k4 : Int32 → Int32 → hI → Option (Int32)) (k14 : Int32 → Int32 → Int32 → hI → Option (Int32)) (k25 : Int32 → Int32 → Int32 → Int32 → hI → Option (Int32)) (k48 : Int32 → Int32 → Int32 → Int32 → Int32 → hI → Option (Int32)) (v1 : Int32) (v2 : Int32) (v3 : Int32) (v4 : Int32) (v5 : Int32) (I : hI) : Option (Int32) :=
  if (I 0 41) ≤ v5 then
    k25 v1 v2 v3 (v4 + (1 : Int32)) I
  else
    (h_g (h_in (((10 : Int32) * (mM_choiceAt v3 v4)) + v5) 800) <|
    if (I 29 (((10 : Int32) * (mM_choiceAt v3 v4)) + v5).toNatClampNeg) ≤ 0 then
      (h_let (v1 ||| (0 : Int32)) fun v1x1 =>
      k48 v1x1 v2 v3 v4 (v5 + (1 : Int32)) I)
    else
      (h_let (v1 ||| ((1 : Int32) <<< (v5 &&& 31))) fun v1x1 =>
      k48 v1x1 v2 v3 v4 (v5 + (1 : Int32)) I))
set_option maxHeartbeats 4000000 in
theorem sM_reached_B48 (d : Nat) (hd : 0 + 1 ≤ d) (k4 : Int32 → Int32 → hI → Option (Int32)) (hk4 : ∀ (v1 : Int32) (v2 : Int32) (I : hI) (J : hJ) (q : Int32), k4 v1 v2 I = some q → AW hFT cX11_reached 6 (some .int) RX11 kdM d [(0, .ref 0), (1, .int v1), (2, .int v2)] 4 [] (I, J, RMm) (some (.int q)) (I, J, RMm)) (k14 : Int32 → Int32 → Int32 → hI → Option (Int32)) (hk14 : ∀ (v1 : Int32) (v2 : Int32) (v3 : Int32) (I : hI) (J : hJ) (q : Int32), k14 v1 v2 v3 I = some q → AW hFT cX11_reached 6 (some .int) RX11 kdM d [(0, .ref 0), (1, .int v1), (2, .int v2), (3, .int v3)] 14 [] (I, J, RMm) (some (.int q)) (I, J, RMm)) (k25 : Int32 → Int32 → Int32 → Int32 → hI → Option (Int32)) (hk25 : ∀ (v1 : Int32) (v2 : Int32) (v3 : Int32) (v4 : Int32) (I : hI) (J : hJ) (q : Int32), k25 v1 v2 v3 v4 I = some q → AW hFT cX11_reached 6 (some .int) RX11 kdM d [(0, .ref 0), (1, .int v1), (2, .int v2), (3, .int v3), (4, .int v4)] 25 [] (I, J, RMm) (some (.int q)) (I, J, RMm)) (k48 : Int32 → Int32 → Int32 → Int32 → Int32 → hI → Option (Int32)) (hk48 : ∀ (v1 : Int32) (v2 : Int32) (v3 : Int32) (v4 : Int32) (v5 : Int32) (I : hI) (J : hJ) (q : Int32), k48 v1 v2 v3 v4 v5 I = some q → AW hFT cX11_reached 6 (some .int) RX11 kdM d [(0, .ref 0), (1, .int v1), (2, .int v2), (3, .int v3), (4, .int v4), (5, .int v5)] 48 [] (I, J, RMm) (some (.int q)) (I, J, RMm)) (v1 : Int32) (v2 : Int32) (v3 : Int32) (v4 : Int32) (v5 : Int32) (I : hI) (J : hJ) (q : Int32) (h : mM_reached_B48 k4 k14 k25 k48 v1 v2 v3 v4 v5 I = some q) : AW hFT cX11_reached 6 (some .int) RX11 kdM d [(0, .ref 0), (1, .int v1), (2, .int v2), (3, .int v3), (4, .int v4), (5, .int v5)] 48 [] (I, J, RMm) (some (.int q)) (I, J, RMm) := by
  obtain ⟨d0, rfl, hd0⟩ := h_mono hd
  unfold mM_reached_B48 at h
  refine a_iload dX11_reached_48 rfl ?_
  refine a_aload_n dX11_reached_50 rfl rfl ?_
  refine b_getI hK_11 km_0 (i := 41) rfl fl_11_367 rfl dX11_reached_51 ?_
  refine a_icmp_ge (tgt := 95) dX11_reached_54 (by decide) (fun c => ?_) (fun c => ?_)
  · replace h := h_iteT c h
    refine b_iinc (lv' := [(4, .int (v4 + (1 : Int32))), (0, .ref 0), (1, .int v1), (2, .int v2), (3, .int v3), (5, .int v5)]) dX11_reached_95 rfl ic_1 (by decide) rfl ?_
    refine a_goto (tgt := 25) dX11_reached_98 (by decide) ?_
    refine a_sub (lv' := [(0, .ref 0), (1, .int v1), (2, .int v2), (3, .int v3), (4, .int (v4 + (1 : Int32)))]) [1, 2, 3, 4, 0] rfl ?_
    exact hk25 v1 v2 v3 (v4 + (1 : Int32)) I J _ h
  · replace h := h_iteF c h
    refine a_iload_n dX11_reached_57 rfl rfl ?_
    refine a_aload_n dX11_reached_58 rfl rfl ?_
    refine b_getR hK_11 km_0 (i := 66) rfl fl_11_95 rfl rmm_66 dX11_reached_59 ?_
    refine a_bipush dX11_reached_62 bp_10 ?_
    refine a_aload_n dX11_reached_64 rfl rfl ?_
    refine a_iload_n dX11_reached_65 rfl rfl ?_
    refine a_iload dX11_reached_66 rfl ?_
    refine a_callV1 [.int (10 : Int32), .ref 29, .int v1] yy_X11_choiceAt ml_11_433 km_0 rfl (sM_choiceAt _ (by omega) v3 v4 I J _ rfl) rfl rfl (Nat.le_of_ble_eq_true rfl) dX11_reached_68 ?_
    refine a_imul dX11_reached_71 ?_
    refine a_iload dX11_reached_72 rfl ?_
    refine a_iadd dX11_reached_74 ?_
    obtain ⟨g1, h⟩ := h_gS h
    refine b_iaload km_29 (h_inV g1) dX11_reached_75 ?_
    refine a_if_le (tgt := 86) dX11_reached_76 (by decide) (fun c => ?_) (fun c => ?_)
    · replace h := h_iteT c h
      refine a_iconst dX11_reached_86 ic_0 ?_
      refine a_ior dX11_reached_87 ?_
      obtain ⟨v1x1, ev1x1, h⟩ := h_letS h
      refine a_topI ev1x1 ?_
      refine a_istore_n (lv' := [(1, .int v1x1), (0, .ref 0), (2, .int v2), (3, .int v3), (4, .int v4), (5, .int v5)]) dX11_reached_88 rfl (by decide) rfl ?_
      refine b_iinc (lv' := [(5, .int (v5 + (1 : Int32))), (1, .int v1x1), (0, .ref 0), (2, .int v2), (3, .int v3), (4, .int v4)]) dX11_reached_89 rfl ic_1 (by decide) rfl ?_
      refine a_goto (tgt := 48) dX11_reached_92 (by decide) ?_
      refine a_sub (lv' := [(0, .ref 0), (1, .int v1x1), (2, .int v2), (3, .int v3), (4, .int v4), (5, .int (v5 + (1 : Int32)))]) [2, 1, 3, 4, 5, 0] rfl ?_
      exact hk48 v1x1 v2 v3 v4 (v5 + (1 : Int32)) I J _ h
    · replace h := h_iteF c h
      refine a_iconst dX11_reached_79 ic_1 ?_
      refine a_iload dX11_reached_80 rfl ?_
      refine a_ishl dX11_reached_82 ?_
      refine a_goto (tgt := 87) dX11_reached_83 (by decide) ?_
      refine a_ior dX11_reached_87 ?_
      obtain ⟨v1x1, ev1x1, h⟩ := h_letS h
      refine a_topI ev1x1 ?_
      refine a_istore_n (lv' := [(1, .int v1x1), (0, .ref 0), (2, .int v2), (3, .int v3), (4, .int v4), (5, .int v5)]) dX11_reached_88 rfl (by decide) rfl ?_
      refine b_iinc (lv' := [(5, .int (v5 + (1 : Int32))), (1, .int v1x1), (0, .ref 0), (2, .int v2), (3, .int v3), (4, .int v4)]) dX11_reached_89 rfl ic_1 (by decide) rfl ?_
      refine a_goto (tgt := 48) dX11_reached_92 (by decide) ?_
      refine a_sub (lv' := [(0, .ref 0), (1, .int v1x1), (2, .int v2), (3, .int v3), (4, .int v4), (5, .int (v5 + (1 : Int32)))]) [2, 1, 3, 4, 5, 0] rfl ?_
      exact hk48 v1x1 v2 v3 v4 (v5 + (1 : Int32)) I J _ h
def mM_reached_L48 (k4 : Int32 → Int32 → hI → Option (Int32)) (k14 : Int32 → Int32 → Int32 → hI → Option (Int32)) (k25 : Int32 → Int32 → Int32 → Int32 → hI → Option (Int32)) : Nat → Int32 → Int32 → Int32 → Int32 → Int32 → hI → Option (Int32)
  | 0 => fun _ _ _ _ _ _ => none
  | n + 1 => mM_reached_B48 k4 k14 k25 (mM_reached_L48 k4 k14 k25 n)
theorem sM_reached_L48 (d : Nat) (hd : 0 + 1 ≤ d) (k4 : Int32 → Int32 → hI → Option (Int32)) (hk4 : ∀ (v1 : Int32) (v2 : Int32) (I : hI) (J : hJ) (q : Int32), k4 v1 v2 I = some q → AW hFT cX11_reached 6 (some .int) RX11 kdM d [(0, .ref 0), (1, .int v1), (2, .int v2)] 4 [] (I, J, RMm) (some (.int q)) (I, J, RMm)) (k14 : Int32 → Int32 → Int32 → hI → Option (Int32)) (hk14 : ∀ (v1 : Int32) (v2 : Int32) (v3 : Int32) (I : hI) (J : hJ) (q : Int32), k14 v1 v2 v3 I = some q → AW hFT cX11_reached 6 (some .int) RX11 kdM d [(0, .ref 0), (1, .int v1), (2, .int v2), (3, .int v3)] 14 [] (I, J, RMm) (some (.int q)) (I, J, RMm)) (k25 : Int32 → Int32 → Int32 → Int32 → hI → Option (Int32)) (hk25 : ∀ (v1 : Int32) (v2 : Int32) (v3 : Int32) (v4 : Int32) (I : hI) (J : hJ) (q : Int32), k25 v1 v2 v3 v4 I = some q → AW hFT cX11_reached 6 (some .int) RX11 kdM d [(0, .ref 0), (1, .int v1), (2, .int v2), (3, .int v3), (4, .int v4)] 25 [] (I, J, RMm) (some (.int q)) (I, J, RMm)) : ∀ (n : Nat) (v1 : Int32) (v2 : Int32) (v3 : Int32) (v4 : Int32) (v5 : Int32) (I : hI) (J : hJ) (q : Int32) (h : mM_reached_L48 k4 k14 k25 n v1 v2 v3 v4 v5 I = some q), AW hFT cX11_reached 6 (some .int) RX11 kdM d [(0, .ref 0), (1, .int v1), (2, .int v2), (3, .int v3), (4, .int v4), (5, .int v5)] 48 [] (I, J, RMm) (some (.int q)) (I, J, RMm)
  | 0, _, _, _, _, _, _, _, q, h => by cases h
  | n + 1, v1, v2, v3, v4, v5, I, J, q, h => sM_reached_B48 d hd k4 hk4 k14 hk14 k25 hk25 (mM_reached_L48 k4 k14 k25 n) (sM_reached_L48 d hd k4 hk4 k14 hk14 k25 hk25 n) v1 v2 v3 v4 v5 I J q h
def mM_reached_B25 (k4 : Int32 → Int32 → hI → Option (Int32)) (k14 : Int32 → Int32 → Int32 → hI → Option (Int32)) (k25 : Int32 → Int32 → Int32 → Int32 → hI → Option (Int32)) (v1 : Int32) (v2 : Int32) (v3 : Int32) (v4 : Int32) (I : hI) : Option (Int32) :=
  h_g (h_in v3 10) <|
  if (I 25 v3.toNatClampNeg) ≤ v4 then
    k14 v1 v2 (v3 + (1 : Int32)) I
  else
    (if ((v1 >>> (v3 &&& 31)) &&& (1 : Int32)) = (1 : Int32) then
      mM_reached_L48 k4 k14 k25 hF v1 v2 v3 v4 (0 : Int32) I
    else
      k14 v1 v2 (v3 + (1 : Int32)) I)
set_option maxHeartbeats 4000000 in
theorem sM_reached_B25 (d : Nat) (hd : 0 + 1 ≤ d) (k4 : Int32 → Int32 → hI → Option (Int32)) (hk4 : ∀ (v1 : Int32) (v2 : Int32) (I : hI) (J : hJ) (q : Int32), k4 v1 v2 I = some q → AW hFT cX11_reached 6 (some .int) RX11 kdM d [(0, .ref 0), (1, .int v1), (2, .int v2)] 4 [] (I, J, RMm) (some (.int q)) (I, J, RMm)) (k14 : Int32 → Int32 → Int32 → hI → Option (Int32)) (hk14 : ∀ (v1 : Int32) (v2 : Int32) (v3 : Int32) (I : hI) (J : hJ) (q : Int32), k14 v1 v2 v3 I = some q → AW hFT cX11_reached 6 (some .int) RX11 kdM d [(0, .ref 0), (1, .int v1), (2, .int v2), (3, .int v3)] 14 [] (I, J, RMm) (some (.int q)) (I, J, RMm)) (k25 : Int32 → Int32 → Int32 → Int32 → hI → Option (Int32)) (hk25 : ∀ (v1 : Int32) (v2 : Int32) (v3 : Int32) (v4 : Int32) (I : hI) (J : hJ) (q : Int32), k25 v1 v2 v3 v4 I = some q → AW hFT cX11_reached 6 (some .int) RX11 kdM d [(0, .ref 0), (1, .int v1), (2, .int v2), (3, .int v3), (4, .int v4)] 25 [] (I, J, RMm) (some (.int q)) (I, J, RMm)) (v1 : Int32) (v2 : Int32) (v3 : Int32) (v4 : Int32) (I : hI) (J : hJ) (q : Int32) (h : mM_reached_B25 k4 k14 k25 v1 v2 v3 v4 I = some q) : AW hFT cX11_reached 6 (some .int) RX11 kdM d [(0, .ref 0), (1, .int v1), (2, .int v2), (3, .int v3), (4, .int v4)] 25 [] (I, J, RMm) (some (.int q)) (I, J, RMm) := by
  obtain ⟨d0, rfl, hd0⟩ := h_mono hd
  unfold mM_reached_B25 at h
  refine a_iload dX11_reached_25 rfl ?_
  refine a_aload_n dX11_reached_27 rfl rfl ?_
  refine b_getR hK_11 km_0 (i := 62) rfl fl_11_83 rfl rmm_62 dX11_reached_28 ?_
  refine a_iload_n dX11_reached_31 rfl rfl ?_
  obtain ⟨g1, h⟩ := h_gS h
  refine b_iaload km_25 (h_inV g1) dX11_reached_32 ?_
  refine a_icmp_ge (tgt := 101) dX11_reached_33 (by decide) (fun c => ?_) (fun c => ?_)
  · replace h := h_iteT c h
    refine b_iinc (lv' := [(3, .int (v3 + (1 : Int32))), (0, .ref 0), (1, .int v1), (2, .int v2), (4, .int v4)]) dX11_reached_101 rfl ic_1 (by decide) rfl ?_
    refine a_goto (tgt := 14) dX11_reached_104 (by decide) ?_
    refine a_sub (lv' := [(0, .ref 0), (1, .int v1), (2, .int v2), (3, .int (v3 + (1 : Int32)))]) [1, 2, 3, 0] rfl ?_
    exact hk14 v1 v2 (v3 + (1 : Int32)) I J _ h
  · replace h := h_iteF c h
    refine a_iload_n dX11_reached_36 rfl rfl ?_
    refine a_iload_n dX11_reached_37 rfl rfl ?_
    refine a_ishr dX11_reached_38 ?_
    refine a_iconst dX11_reached_39 ic_1 ?_
    refine a_iand dX11_reached_40 ?_
    refine a_iconst dX11_reached_41 ic_1 ?_
    refine a_icmp_ne (tgt := 101) dX11_reached_42 (by decide) (fun c => ?_) (fun c => ?_)
    · replace h := h_iteF c h
      refine b_iinc (lv' := [(3, .int (v3 + (1 : Int32))), (0, .ref 0), (1, .int v1), (2, .int v2), (4, .int v4)]) dX11_reached_101 rfl ic_1 (by decide) rfl ?_
      refine a_goto (tgt := 14) dX11_reached_104 (by decide) ?_
      refine a_sub (lv' := [(0, .ref 0), (1, .int v1), (2, .int v2), (3, .int (v3 + (1 : Int32)))]) [1, 2, 3, 0] rfl ?_
      exact hk14 v1 v2 (v3 + (1 : Int32)) I J _ h
    · replace h := h_iteT c h
      refine a_iconst dX11_reached_45 ic_0 ?_
      refine a_istore (lv' := [(5, .int (0 : Int32)), (0, .ref 0), (1, .int v1), (2, .int v2), (3, .int v3), (4, .int v4)]) dX11_reached_46 (by decide) rfl ?_
      refine a_sub (lv' := [(0, .ref 0), (1, .int v1), (2, .int v2), (3, .int v3), (4, .int v4), (5, .int (0 : Int32))]) [1, 2, 3, 4, 5, 0] rfl ?_
      exact sM_reached_L48 (d0 + 1) (by omega) k4 hk4 k14 hk14 k25 hk25 hF v1 v2 v3 v4 (0 : Int32) I J _ h
def mM_reached_L25 (k4 : Int32 → Int32 → hI → Option (Int32)) (k14 : Int32 → Int32 → Int32 → hI → Option (Int32)) : Nat → Int32 → Int32 → Int32 → Int32 → hI → Option (Int32)
  | 0 => fun _ _ _ _ _ => none
  | n + 1 => mM_reached_B25 k4 k14 (mM_reached_L25 k4 k14 n)
theorem sM_reached_L25 (d : Nat) (hd : 0 + 1 ≤ d) (k4 : Int32 → Int32 → hI → Option (Int32)) (hk4 : ∀ (v1 : Int32) (v2 : Int32) (I : hI) (J : hJ) (q : Int32), k4 v1 v2 I = some q → AW hFT cX11_reached 6 (some .int) RX11 kdM d [(0, .ref 0), (1, .int v1), (2, .int v2)] 4 [] (I, J, RMm) (some (.int q)) (I, J, RMm)) (k14 : Int32 → Int32 → Int32 → hI → Option (Int32)) (hk14 : ∀ (v1 : Int32) (v2 : Int32) (v3 : Int32) (I : hI) (J : hJ) (q : Int32), k14 v1 v2 v3 I = some q → AW hFT cX11_reached 6 (some .int) RX11 kdM d [(0, .ref 0), (1, .int v1), (2, .int v2), (3, .int v3)] 14 [] (I, J, RMm) (some (.int q)) (I, J, RMm)) : ∀ (n : Nat) (v1 : Int32) (v2 : Int32) (v3 : Int32) (v4 : Int32) (I : hI) (J : hJ) (q : Int32) (h : mM_reached_L25 k4 k14 n v1 v2 v3 v4 I = some q), AW hFT cX11_reached 6 (some .int) RX11 kdM d [(0, .ref 0), (1, .int v1), (2, .int v2), (3, .int v3), (4, .int v4)] 25 [] (I, J, RMm) (some (.int q)) (I, J, RMm)
  | 0, _, _, _, _, _, _, q, h => by cases h
  | n + 1, v1, v2, v3, v4, I, J, q, h => sM_reached_B25 d hd k4 hk4 k14 hk14 (mM_reached_L25 k4 k14 n) (sM_reached_L25 d hd k4 hk4 k14 hk14 n) v1 v2 v3 v4 I J q h
def mM_reached_B14 (k4 : Int32 → Int32 → hI → Option (Int32)) (k14 : Int32 → Int32 → Int32 → hI → Option (Int32)) (v1 : Int32) (v2 : Int32) (v3 : Int32) (I : hI) : Option (Int32) :=
  if (I 0 41) ≤ v3 then
    k4 v1 (v2 + (1 : Int32)) I
  else
    mM_reached_L25 k4 k14 hF v1 v2 v3 (0 : Int32) I
set_option maxHeartbeats 4000000 in
theorem sM_reached_B14 (d : Nat) (hd : 0 + 1 ≤ d) (k4 : Int32 → Int32 → hI → Option (Int32)) (hk4 : ∀ (v1 : Int32) (v2 : Int32) (I : hI) (J : hJ) (q : Int32), k4 v1 v2 I = some q → AW hFT cX11_reached 6 (some .int) RX11 kdM d [(0, .ref 0), (1, .int v1), (2, .int v2)] 4 [] (I, J, RMm) (some (.int q)) (I, J, RMm)) (k14 : Int32 → Int32 → Int32 → hI → Option (Int32)) (hk14 : ∀ (v1 : Int32) (v2 : Int32) (v3 : Int32) (I : hI) (J : hJ) (q : Int32), k14 v1 v2 v3 I = some q → AW hFT cX11_reached 6 (some .int) RX11 kdM d [(0, .ref 0), (1, .int v1), (2, .int v2), (3, .int v3)] 14 [] (I, J, RMm) (some (.int q)) (I, J, RMm)) (v1 : Int32) (v2 : Int32) (v3 : Int32) (I : hI) (J : hJ) (q : Int32) (h : mM_reached_B14 k4 k14 v1 v2 v3 I = some q) : AW hFT cX11_reached 6 (some .int) RX11 kdM d [(0, .ref 0), (1, .int v1), (2, .int v2), (3, .int v3)] 14 [] (I, J, RMm) (some (.int q)) (I, J, RMm) := by
  obtain ⟨d0, rfl, hd0⟩ := h_mono hd
  unfold mM_reached_B14 at h
  refine a_iload_n dX11_reached_14 rfl rfl ?_
  refine a_aload_n dX11_reached_15 rfl rfl ?_
  refine b_getI hK_11 km_0 (i := 41) rfl fl_11_367 rfl dX11_reached_16 ?_
  refine a_icmp_ge (tgt := 107) dX11_reached_19 (by decide) (fun c => ?_) (fun c => ?_)
  · replace h := h_iteT c h
    refine b_iinc (lv' := [(2, .int (v2 + (1 : Int32))), (0, .ref 0), (1, .int v1), (3, .int v3)]) dX11_reached_107 rfl ic_1 (by decide) rfl ?_
    refine a_goto (tgt := 4) dX11_reached_110 (by decide) ?_
    refine a_sub (lv' := [(0, .ref 0), (1, .int v1), (2, .int (v2 + (1 : Int32)))]) [1, 2, 0] rfl ?_
    exact hk4 v1 (v2 + (1 : Int32)) I J _ h
  · replace h := h_iteF c h
    refine a_iconst dX11_reached_22 ic_0 ?_
    refine a_istore (lv' := [(4, .int (0 : Int32)), (0, .ref 0), (1, .int v1), (2, .int v2), (3, .int v3)]) dX11_reached_23 (by decide) rfl ?_
    refine a_sub (lv' := [(0, .ref 0), (1, .int v1), (2, .int v2), (3, .int v3), (4, .int (0 : Int32))]) [1, 2, 3, 4, 0] rfl ?_
    exact sM_reached_L25 (d0 + 1) (by omega) k4 hk4 k14 hk14 hF v1 v2 v3 (0 : Int32) I J _ h
def mM_reached_L14 (k4 : Int32 → Int32 → hI → Option (Int32)) : Nat → Int32 → Int32 → Int32 → hI → Option (Int32)
  | 0 => fun _ _ _ _ => none
  | n + 1 => mM_reached_B14 k4 (mM_reached_L14 k4 n)
theorem sM_reached_L14 (d : Nat) (hd : 0 + 1 ≤ d) (k4 : Int32 → Int32 → hI → Option (Int32)) (hk4 : ∀ (v1 : Int32) (v2 : Int32) (I : hI) (J : hJ) (q : Int32), k4 v1 v2 I = some q → AW hFT cX11_reached 6 (some .int) RX11 kdM d [(0, .ref 0), (1, .int v1), (2, .int v2)] 4 [] (I, J, RMm) (some (.int q)) (I, J, RMm)) : ∀ (n : Nat) (v1 : Int32) (v2 : Int32) (v3 : Int32) (I : hI) (J : hJ) (q : Int32) (h : mM_reached_L14 k4 n v1 v2 v3 I = some q), AW hFT cX11_reached 6 (some .int) RX11 kdM d [(0, .ref 0), (1, .int v1), (2, .int v2), (3, .int v3)] 14 [] (I, J, RMm) (some (.int q)) (I, J, RMm)
  | 0, _, _, _, _, _, q, h => by cases h
  | n + 1, v1, v2, v3, I, J, q, h => sM_reached_B14 d hd k4 hk4 (mM_reached_L14 k4 n) (sM_reached_L14 d hd k4 hk4 n) v1 v2 v3 I J q h
def mM_reached_B4 (k4 : Int32 → Int32 → hI → Option (Int32)) (v1 : Int32) (v2 : Int32) (I : hI) : Option (Int32) :=
  if (I 0 41) ≤ v2 then
    mM_reached_L117 hF v1 (0 : Int32) (0 : Int32) I
  else
    mM_reached_L14 k4 hF v1 v2 (0 : Int32) I
set_option maxHeartbeats 4000000 in
theorem sM_reached_B4 (d : Nat) (hd : 0 + 1 ≤ d) (k4 : Int32 → Int32 → hI → Option (Int32)) (hk4 : ∀ (v1 : Int32) (v2 : Int32) (I : hI) (J : hJ) (q : Int32), k4 v1 v2 I = some q → AW hFT cX11_reached 6 (some .int) RX11 kdM d [(0, .ref 0), (1, .int v1), (2, .int v2)] 4 [] (I, J, RMm) (some (.int q)) (I, J, RMm)) (v1 : Int32) (v2 : Int32) (I : hI) (J : hJ) (q : Int32) (h : mM_reached_B4 k4 v1 v2 I = some q) : AW hFT cX11_reached 6 (some .int) RX11 kdM d [(0, .ref 0), (1, .int v1), (2, .int v2)] 4 [] (I, J, RMm) (some (.int q)) (I, J, RMm) := by
  obtain ⟨d0, rfl, hd0⟩ := h_mono hd
  unfold mM_reached_B4 at h
  refine a_iload_n dX11_reached_4 rfl rfl ?_
  refine a_aload_n dX11_reached_5 rfl rfl ?_
  refine b_getI hK_11 km_0 (i := 41) rfl fl_11_367 rfl dX11_reached_6 ?_
  refine a_icmp_ge (tgt := 113) dX11_reached_9 (by decide) (fun c => ?_) (fun c => ?_)
  · replace h := h_iteT c h
    refine a_iconst dX11_reached_113 ic_0 ?_
    refine a_istore_n (lv' := [(2, .int (0 : Int32)), (0, .ref 0), (1, .int v1)]) dX11_reached_114 rfl (by decide) rfl ?_
    refine a_iconst dX11_reached_115 ic_0 ?_
    refine a_istore_n (lv' := [(3, .int (0 : Int32)), (2, .int (0 : Int32)), (0, .ref 0), (1, .int v1)]) dX11_reached_116 rfl (by decide) rfl ?_
    refine a_sub (lv' := [(0, .ref 0), (1, .int v1), (2, .int (0 : Int32)), (3, .int (0 : Int32))]) [2, 3, 1, 0] rfl ?_
    exact sM_reached_L117 (d0 + 1) (by omega) hF v1 (0 : Int32) (0 : Int32) I J _ h
  · replace h := h_iteF c h
    refine a_iconst dX11_reached_12 ic_0 ?_
    refine a_istore_n (lv' := [(3, .int (0 : Int32)), (0, .ref 0), (1, .int v1), (2, .int v2)]) dX11_reached_13 rfl (by decide) rfl ?_
    refine a_sub (lv' := [(0, .ref 0), (1, .int v1), (2, .int v2), (3, .int (0 : Int32))]) [1, 2, 3, 0] rfl ?_
    exact sM_reached_L14 (d0 + 1) (by omega) k4 hk4 hF v1 v2 (0 : Int32) I J _ h
def mM_reached_L4  : Nat → Int32 → Int32 → hI → Option (Int32)
  | 0 => fun _ _ _ => none
  | n + 1 => mM_reached_B4 (mM_reached_L4 n)
theorem sM_reached_L4 (d : Nat) (hd : 0 + 1 ≤ d) : ∀ (n : Nat) (v1 : Int32) (v2 : Int32) (I : hI) (J : hJ) (q : Int32) (h : mM_reached_L4 n v1 v2 I = some q), AW hFT cX11_reached 6 (some .int) RX11 kdM d [(0, .ref 0), (1, .int v1), (2, .int v2)] 4 [] (I, J, RMm) (some (.int q)) (I, J, RMm)
  | 0, _, _, _, _, q, h => by cases h
  | n + 1, v1, v2, I, J, q, h => sM_reached_B4 d hd (mM_reached_L4 n) (sM_reached_L4 d hd n) v1 v2 I J q h
def mM_reached   (I : hI) : Option (Int32) :=
  mM_reached_L4 hF (1 : Int32) (0 : Int32) I
set_option maxHeartbeats 4000000 in
theorem sM_reached (d : Nat) (hd : 0 + 1 ≤ d)  (I : hI) (J : hJ) (q : Int32) (h : mM_reached I = some q) : HMet hFT yX11_reached cX11_reached 6 (some .int) kdM d [.ref 0] (I, J, RMm) (some (.int q)) (I, J, RMm) := by
  obtain ⟨d0, rfl, hd0⟩ := h_mono hd
  refine HMet.of (by decide) (Nat.le_of_ble_eq_true rfl) ?_
  show AW hFT cX11_reached 6 (some .int) RX11 kdM (d0 + 1) [(0, .ref 0)] 0 [] (I, J, RMm) (some (.int q)) (I, J, RMm)
  unfold mM_reached at h
  refine a_iconst dX11_reached_0 ic_1 ?_
  refine a_istore_n (lv' := [(1, .int (1 : Int32)), (0, .ref 0)]) dX11_reached_1 rfl (by decide) rfl ?_
  refine a_iconst dX11_reached_2 ic_0 ?_
  refine a_istore_n (lv' := [(2, .int (0 : Int32)), (1, .int (1 : Int32)), (0, .ref 0)]) dX11_reached_3 rfl (by decide) rfl ?_
  refine a_sub (lv' := [(0, .ref 0), (1, .int (1 : Int32)), (2, .int (0 : Int32))]) [2, 1, 0] rfl ?_
  exact sM_reached_L4 (d0 + 1) (by omega) hF (1 : Int32) (0 : Int32) I J _ h
/-! CoinLoopsModel.mostChoices()I -/
theorem dX11_mostChoices_0 : decode cX11_mostChoices 0 = .ok (.iconst (-1), 1) := by decide +kernel
theorem dX11_mostChoices_1 : decode cX11_mostChoices 1 = .ok (.istore_n 1, 1) := by decide +kernel
theorem dX11_mostChoices_2 : decode cX11_mostChoices 2 = .ok (.iconst 0, 1) := by decide +kernel
theorem dX11_mostChoices_3 : decode cX11_mostChoices 3 = .ok (.istore_n 2, 1) := by decide +kernel
theorem dX11_mostChoices_4 : decode cX11_mostChoices 4 = .ok (.iload_n 2, 1) := by decide +kernel
theorem dX11_mostChoices_5 : decode cX11_mostChoices 5 = .ok (.aload_n 0, 1) := by decide +kernel
theorem dX11_mostChoices_6 : decode cX11_mostChoices 6 = .ok (.getfield 367, 3) := by decide +kernel
theorem dX11_mostChoices_9 : decode cX11_mostChoices 9 = .ok (.if_icmp .ge 43, 3) := by decide +kernel
theorem dX11_mostChoices_12 : decode cX11_mostChoices 12 = .ok (.aload_n 0, 1) := by decide +kernel
theorem dX11_mostChoices_13 : decode cX11_mostChoices 13 = .ok (.iload_n 2, 1) := by decide +kernel
theorem dX11_mostChoices_14 : decode cX11_mostChoices 14 = .ok (.invokevirtual 463, 3) := by decide +kernel
theorem dX11_mostChoices_17 : decode cX11_mostChoices 17 = .ok (.ifCond .eq 27, 3) := by decide +kernel
theorem dX11_mostChoices_20 : decode cX11_mostChoices 20 = .ok (.iload_n 1, 1) := by decide +kernel
theorem dX11_mostChoices_21 : decode cX11_mostChoices 21 = .ok (.iconst (-1), 1) := by decide +kernel
theorem dX11_mostChoices_22 : decode cX11_mostChoices 22 = .ok (.if_icmp .eq 18, 3) := by decide +kernel
theorem dX11_mostChoices_25 : decode cX11_mostChoices 25 = .ok (.aload_n 0, 1) := by decide +kernel
theorem dX11_mostChoices_26 : decode cX11_mostChoices 26 = .ok (.getfield 83, 3) := by decide +kernel
theorem dX11_mostChoices_29 : decode cX11_mostChoices 29 = .ok (.iload_n 2, 1) := by decide +kernel
theorem dX11_mostChoices_30 : decode cX11_mostChoices 30 = .ok (.iaload, 1) := by decide +kernel
theorem dX11_mostChoices_31 : decode cX11_mostChoices 31 = .ok (.aload_n 0, 1) := by decide +kernel
theorem dX11_mostChoices_32 : decode cX11_mostChoices 32 = .ok (.getfield 83, 3) := by decide +kernel
theorem dX11_mostChoices_35 : decode cX11_mostChoices 35 = .ok (.iload_n 1, 1) := by decide +kernel
theorem dX11_mostChoices_36 : decode cX11_mostChoices 36 = .ok (.iaload, 1) := by decide +kernel
theorem dX11_mostChoices_37 : decode cX11_mostChoices 37 = .ok (.if_icmp .le 7, 3) := by decide +kernel
theorem dX11_mostChoices_40 : decode cX11_mostChoices 40 = .ok (.iload_n 2, 1) := by decide +kernel
theorem dX11_mostChoices_41 : decode cX11_mostChoices 41 = .ok (.goto 4, 3) := by decide +kernel
theorem dX11_mostChoices_44 : decode cX11_mostChoices 44 = .ok (.iload_n 1, 1) := by decide +kernel
theorem dX11_mostChoices_45 : decode cX11_mostChoices 45 = .ok (.istore_n 1, 1) := by decide +kernel
theorem dX11_mostChoices_46 : decode cX11_mostChoices 46 = .ok (.iinc 2 1, 3) := by decide +kernel
theorem dX11_mostChoices_49 : decode cX11_mostChoices 49 = .ok (.goto (-45), 3) := by decide +kernel
theorem dX11_mostChoices_52 : decode cX11_mostChoices 52 = .ok (.iload_n 1, 1) := by decide +kernel
theorem dX11_mostChoices_53 : decode cX11_mostChoices 53 = .ok (.ireturn, 1) := by decide +kernel
def mM_mostChoices_B4 (k4 : Int32 → Int32 → hI → Option (Int32)) (v1 : Int32) (v2 : Int32) (I : hI) : Option (Int32) :=
  if (I 0 41) ≤ v2 then
    some v1
  else
    ((mM_isInside v2 I).bind fun q1 =>
    if q1 = 0 then
      k4 v1 (v2 + (1 : Int32)) I
    else
      (if v1 = (-1 : Int32) then
        k4 v2 (v2 + (1 : Int32)) I
      else
        (h_g (h_in v2 10) <|
        h_g (h_in v1 10) <|
        if (I 25 v2.toNatClampNeg) ≤ (I 25 v1.toNatClampNeg) then
          k4 v1 (v2 + (1 : Int32)) I
        else
          k4 v2 (v2 + (1 : Int32)) I)))
set_option maxHeartbeats 4000000 in
theorem sM_mostChoices_B4 (d : Nat) (hd : 0 + 1 ≤ d) (k4 : Int32 → Int32 → hI → Option (Int32)) (hk4 : ∀ (v1 : Int32) (v2 : Int32) (I : hI) (J : hJ) (q : Int32), k4 v1 v2 I = some q → AW hFT cX11_mostChoices 3 (some .int) RX11 kdM d [(0, .ref 0), (1, .int v1), (2, .int v2)] 4 [] (I, J, RMm) (some (.int q)) (I, J, RMm)) (v1 : Int32) (v2 : Int32) (I : hI) (J : hJ) (q : Int32) (h : mM_mostChoices_B4 k4 v1 v2 I = some q) : AW hFT cX11_mostChoices 3 (some .int) RX11 kdM d [(0, .ref 0), (1, .int v1), (2, .int v2)] 4 [] (I, J, RMm) (some (.int q)) (I, J, RMm) := by
  obtain ⟨d0, rfl, hd0⟩ := h_mono hd
  unfold mM_mostChoices_B4 at h
  refine a_iload_n dX11_mostChoices_4 rfl rfl ?_
  refine a_aload_n dX11_mostChoices_5 rfl rfl ?_
  refine b_getI hK_11 km_0 (i := 41) rfl fl_11_367 rfl dX11_mostChoices_6 ?_
  refine a_icmp_ge (tgt := 52) dX11_mostChoices_9 (by decide) (fun c => ?_) (fun c => ?_)
  · replace h := h_iteT c h
    refine a_iload_n dX11_mostChoices_52 rfl rfl ?_
    cases h
    exact a_iret dX11_mostChoices_53
  · replace h := h_iteF c h
    refine a_aload_n dX11_mostChoices_12 rfl rfl ?_
    refine a_iload_n dX11_mostChoices_13 rfl rfl ?_
    obtain ⟨q1, cq1, h⟩ := h_bindS h
    refine a_callV1 [] yy_X11_isInside ml_11_463 km_0 rfl (sM_isInside _ (by omega) v2 I J q1 cq1) rfl rfl (Nat.le_of_ble_eq_true rfl) dX11_mostChoices_14 ?_
    refine a_if_eq (tgt := 44) dX11_mostChoices_17 (by decide) (fun c => ?_) (fun c => ?_)
    · replace h := h_iteT c h
      refine a_iload_n dX11_mostChoices_44 rfl rfl ?_
      refine a_istore_n (lv' := [(1, .int v1), (0, .ref 0), (2, .int v2)]) dX11_mostChoices_45 rfl (by decide) rfl ?_
      refine b_iinc (lv' := [(2, .int (v2 + (1 : Int32))), (1, .int v1), (0, .ref 0)]) dX11_mostChoices_46 rfl ic_1 (by decide) rfl ?_
      refine a_goto (tgt := 4) dX11_mostChoices_49 (by decide) ?_
      refine a_sub (lv' := [(0, .ref 0), (1, .int v1), (2, .int (v2 + (1 : Int32)))]) [2, 1, 0] rfl ?_
      exact hk4 v1 (v2 + (1 : Int32)) I J _ h
    · replace h := h_iteF c h
      refine a_iload_n dX11_mostChoices_20 rfl rfl ?_
      refine a_iconst dX11_mostChoices_21 ic_m1 ?_
      refine a_icmp_eq (tgt := 40) dX11_mostChoices_22 (by decide) (fun c => ?_) (fun c => ?_)
      · replace h := h_iteT c h
        refine a_iload_n dX11_mostChoices_40 rfl rfl ?_
        refine a_goto (tgt := 45) dX11_mostChoices_41 (by decide) ?_
        refine a_istore_n (lv' := [(1, .int v2), (0, .ref 0), (2, .int v2)]) dX11_mostChoices_45 rfl (by decide) rfl ?_
        refine b_iinc (lv' := [(2, .int (v2 + (1 : Int32))), (1, .int v2), (0, .ref 0)]) dX11_mostChoices_46 rfl ic_1 (by decide) rfl ?_
        refine a_goto (tgt := 4) dX11_mostChoices_49 (by decide) ?_
        refine a_sub (lv' := [(0, .ref 0), (1, .int v2), (2, .int (v2 + (1 : Int32)))]) [2, 1, 0] rfl ?_
        exact hk4 v2 (v2 + (1 : Int32)) I J _ h
      · replace h := h_iteF c h
        refine a_aload_n dX11_mostChoices_25 rfl rfl ?_
        refine b_getR hK_11 km_0 (i := 62) rfl fl_11_83 rfl rmm_62 dX11_mostChoices_26 ?_
        refine a_iload_n dX11_mostChoices_29 rfl rfl ?_
        obtain ⟨g2, h⟩ := h_gS h
        refine b_iaload km_25 (h_inV g2) dX11_mostChoices_30 ?_
        refine a_aload_n dX11_mostChoices_31 rfl rfl ?_
        refine b_getR hK_11 km_0 (i := 62) rfl fl_11_83 rfl rmm_62 dX11_mostChoices_32 ?_
        refine a_iload_n dX11_mostChoices_35 rfl rfl ?_
        obtain ⟨g3, h⟩ := h_gS h
        refine b_iaload km_25 (h_inV g3) dX11_mostChoices_36 ?_
        refine a_icmp_le (tgt := 44) dX11_mostChoices_37 (by decide) (fun c => ?_) (fun c => ?_)
        · replace h := h_iteT c h
          refine a_iload_n dX11_mostChoices_44 rfl rfl ?_
          refine a_istore_n (lv' := [(1, .int v1), (0, .ref 0), (2, .int v2)]) dX11_mostChoices_45 rfl (by decide) rfl ?_
          refine b_iinc (lv' := [(2, .int (v2 + (1 : Int32))), (1, .int v1), (0, .ref 0)]) dX11_mostChoices_46 rfl ic_1 (by decide) rfl ?_
          refine a_goto (tgt := 4) dX11_mostChoices_49 (by decide) ?_
          refine a_sub (lv' := [(0, .ref 0), (1, .int v1), (2, .int (v2 + (1 : Int32)))]) [2, 1, 0] rfl ?_
          exact hk4 v1 (v2 + (1 : Int32)) I J _ h
        · replace h := h_iteF c h
          refine a_iload_n dX11_mostChoices_40 rfl rfl ?_
          refine a_goto (tgt := 45) dX11_mostChoices_41 (by decide) ?_
          refine a_istore_n (lv' := [(1, .int v2), (0, .ref 0), (2, .int v2)]) dX11_mostChoices_45 rfl (by decide) rfl ?_
          refine b_iinc (lv' := [(2, .int (v2 + (1 : Int32))), (1, .int v2), (0, .ref 0)]) dX11_mostChoices_46 rfl ic_1 (by decide) rfl ?_
          refine a_goto (tgt := 4) dX11_mostChoices_49 (by decide) ?_
          refine a_sub (lv' := [(0, .ref 0), (1, .int v2), (2, .int (v2 + (1 : Int32)))]) [2, 1, 0] rfl ?_
          exact hk4 v2 (v2 + (1 : Int32)) I J _ h
def mM_mostChoices_L4  : Nat → Int32 → Int32 → hI → Option (Int32)
  | 0 => fun _ _ _ => none
  | n + 1 => mM_mostChoices_B4 (mM_mostChoices_L4 n)
theorem sM_mostChoices_L4 (d : Nat) (hd : 0 + 1 ≤ d) : ∀ (n : Nat) (v1 : Int32) (v2 : Int32) (I : hI) (J : hJ) (q : Int32) (h : mM_mostChoices_L4 n v1 v2 I = some q), AW hFT cX11_mostChoices 3 (some .int) RX11 kdM d [(0, .ref 0), (1, .int v1), (2, .int v2)] 4 [] (I, J, RMm) (some (.int q)) (I, J, RMm)
  | 0, _, _, _, _, q, h => by cases h
  | n + 1, v1, v2, I, J, q, h => sM_mostChoices_B4 d hd (mM_mostChoices_L4 n) (sM_mostChoices_L4 d hd n) v1 v2 I J q h
def mM_mostChoices   (I : hI) : Option (Int32) :=
  mM_mostChoices_L4 hF (-1 : Int32) (0 : Int32) I
set_option maxHeartbeats 4000000 in
theorem sM_mostChoices (d : Nat) (hd : 0 + 1 ≤ d)  (I : hI) (J : hJ) (q : Int32) (h : mM_mostChoices I = some q) : HMet hFT yX11_mostChoices cX11_mostChoices 3 (some .int) kdM d [.ref 0] (I, J, RMm) (some (.int q)) (I, J, RMm) := by
  obtain ⟨d0, rfl, hd0⟩ := h_mono hd
  refine HMet.of (by decide) (Nat.le_of_ble_eq_true rfl) ?_
  show AW hFT cX11_mostChoices 3 (some .int) RX11 kdM (d0 + 1) [(0, .ref 0)] 0 [] (I, J, RMm) (some (.int q)) (I, J, RMm)
  unfold mM_mostChoices at h
  refine a_iconst dX11_mostChoices_0 ic_m1 ?_
  refine a_istore_n (lv' := [(1, .int (-1 : Int32)), (0, .ref 0)]) dX11_mostChoices_1 rfl (by decide) rfl ?_
  refine a_iconst dX11_mostChoices_2 ic_0 ?_
  refine a_istore_n (lv' := [(2, .int (0 : Int32)), (1, .int (-1 : Int32)), (0, .ref 0)]) dX11_mostChoices_3 rfl (by decide) rfl ?_
  refine a_sub (lv' := [(0, .ref 0), (1, .int (-1 : Int32)), (2, .int (0 : Int32))]) [2, 1, 0] rfl ?_
  exact sM_mostChoices_L4 (d0 + 1) (by omega) hF (-1 : Int32) (0 : Int32) I J _ h
