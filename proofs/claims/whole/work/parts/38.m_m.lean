/-! CoinLoopsModel.mostPaid()I -/
theorem dX11_mostPaid_0 : decode cX11_mostPaid 0 = .ok (.iconst (-1), 1) := by decide +kernel
theorem dX11_mostPaid_1 : decode cX11_mostPaid 1 = .ok (.istore_n 1, 1) := by decide +kernel
theorem dX11_mostPaid_2 : decode cX11_mostPaid 2 = .ok (.iconst 0, 1) := by decide +kernel
theorem dX11_mostPaid_3 : decode cX11_mostPaid 3 = .ok (.istore_n 2, 1) := by decide +kernel
theorem dX11_mostPaid_4 : decode cX11_mostPaid 4 = .ok (.iload_n 2, 1) := by decide +kernel
theorem dX11_mostPaid_5 : decode cX11_mostPaid 5 = .ok (.aload_n 0, 1) := by decide +kernel
theorem dX11_mostPaid_6 : decode cX11_mostPaid 6 = .ok (.getfield 367, 3) := by decide +kernel
theorem dX11_mostPaid_9 : decode cX11_mostPaid 9 = .ok (.if_icmp .ge 128, 3) := by decide +kernel
theorem dX11_mostPaid_12 : decode cX11_mostPaid 12 = .ok (.aload_n 0, 1) := by decide +kernel
theorem dX11_mostPaid_13 : decode cX11_mostPaid 13 = .ok (.iload_n 2, 1) := by decide +kernel
theorem dX11_mostPaid_14 : decode cX11_mostPaid 14 = .ok (.invokevirtual 463, 3) := by decide +kernel
theorem dX11_mostPaid_17 : decode cX11_mostPaid 17 = .ok (.ifCond .eq 114, 3) := by decide +kernel
theorem dX11_mostPaid_20 : decode cX11_mostPaid 20 = .ok (.bipush 10, 2) := by decide +kernel
theorem dX11_mostPaid_22 : decode cX11_mostPaid 22 = .ok (.aload_n 0, 1) := by decide +kernel
theorem dX11_mostPaid_23 : decode cX11_mostPaid 23 = .ok (.iload_n 2, 1) := by decide +kernel
theorem dX11_mostPaid_24 : decode cX11_mostPaid 24 = .ok (.iconst 1, 1) := by decide +kernel
theorem dX11_mostPaid_25 : decode cX11_mostPaid 25 = .ok (.iconst 1, 1) := by decide +kernel
theorem dX11_mostPaid_26 : decode cX11_mostPaid 26 = .ok (.invokevirtual 547, 3) := by decide +kernel
theorem dX11_mostPaid_29 : decode cX11_mostPaid 29 = .ok (.imul, 1) := by decide +kernel
theorem dX11_mostPaid_30 : decode cX11_mostPaid 30 = .ok (.iload_n 2, 1) := by decide +kernel
theorem dX11_mostPaid_31 : decode cX11_mostPaid 31 = .ok (.iadd, 1) := by decide +kernel
theorem dX11_mostPaid_32 : decode cX11_mostPaid 32 = .ok (.istore_n 3, 1) := by decide +kernel
theorem dX11_mostPaid_33 : decode cX11_mostPaid 33 = .ok (.iload_n 1, 1) := by decide +kernel
theorem dX11_mostPaid_34 : decode cX11_mostPaid 34 = .ok (.iconst (-1), 1) := by decide +kernel
theorem dX11_mostPaid_35 : decode cX11_mostPaid 35 = .ok (.if_icmp .ne 7, 3) := by decide +kernel
theorem dX11_mostPaid_38 : decode cX11_mostPaid 38 = .ok (.iconst (-1), 1) := by decide +kernel
theorem dX11_mostPaid_39 : decode cX11_mostPaid 39 = .ok (.goto 15, 3) := by decide +kernel
theorem dX11_mostPaid_42 : decode cX11_mostPaid 42 = .ok (.bipush 10, 2) := by decide +kernel
theorem dX11_mostPaid_44 : decode cX11_mostPaid 44 = .ok (.aload_n 0, 1) := by decide +kernel
theorem dX11_mostPaid_45 : decode cX11_mostPaid 45 = .ok (.iload_n 1, 1) := by decide +kernel
theorem dX11_mostPaid_46 : decode cX11_mostPaid 46 = .ok (.iconst 1, 1) := by decide +kernel
theorem dX11_mostPaid_47 : decode cX11_mostPaid 47 = .ok (.iconst 1, 1) := by decide +kernel
theorem dX11_mostPaid_48 : decode cX11_mostPaid 48 = .ok (.invokevirtual 547, 3) := by decide +kernel
theorem dX11_mostPaid_51 : decode cX11_mostPaid 51 = .ok (.imul, 1) := by decide +kernel
theorem dX11_mostPaid_52 : decode cX11_mostPaid 52 = .ok (.iload_n 1, 1) := by decide +kernel
theorem dX11_mostPaid_53 : decode cX11_mostPaid 53 = .ok (.iadd, 1) := by decide +kernel
theorem dX11_mostPaid_54 : decode cX11_mostPaid 54 = .ok (.istore 4, 2) := by decide +kernel
theorem dX11_mostPaid_56 : decode cX11_mostPaid 56 = .ok (.iload 4, 2) := by decide +kernel
theorem dX11_mostPaid_58 : decode cX11_mostPaid 58 = .ok (.iconst (-1), 1) := by decide +kernel
theorem dX11_mostPaid_59 : decode cX11_mostPaid 59 = .ok (.if_icmp .eq 54, 3) := by decide +kernel
theorem dX11_mostPaid_62 : decode cX11_mostPaid 62 = .ok (.aload_n 0, 1) := by decide +kernel
theorem dX11_mostPaid_63 : decode cX11_mostPaid 63 = .ok (.getfield 114, 3) := by decide +kernel
theorem dX11_mostPaid_66 : decode cX11_mostPaid 66 = .ok (.iload 4, 2) := by decide +kernel
theorem dX11_mostPaid_68 : decode cX11_mostPaid 68 = .ok (.baload, 1) := by decide +kernel
theorem dX11_mostPaid_69 : decode cX11_mostPaid 69 = .ok (.ifCond .ne 48, 3) := by decide +kernel
theorem dX11_mostPaid_72 : decode cX11_mostPaid 72 = .ok (.aload_n 0, 1) := by decide +kernel
theorem dX11_mostPaid_73 : decode cX11_mostPaid 73 = .ok (.getfield 114, 3) := by decide +kernel
theorem dX11_mostPaid_76 : decode cX11_mostPaid 76 = .ok (.iload_n 3, 1) := by decide +kernel
theorem dX11_mostPaid_77 : decode cX11_mostPaid 77 = .ok (.baload, 1) := by decide +kernel
theorem dX11_mostPaid_78 : decode cX11_mostPaid 78 = .ok (.ifCond .ne 35, 3) := by decide +kernel
theorem dX11_mostPaid_81 : decode cX11_mostPaid 81 = .ok (.aload_n 0, 1) := by decide +kernel
theorem dX11_mostPaid_82 : decode cX11_mostPaid 82 = .ok (.getfield 101, 3) := by decide +kernel
theorem dX11_mostPaid_85 : decode cX11_mostPaid 85 = .ok (.iload_n 3, 1) := by decide +kernel
theorem dX11_mostPaid_86 : decode cX11_mostPaid 86 = .ok (.laload, 1) := by decide +kernel
theorem dX11_mostPaid_87 : decode cX11_mostPaid 87 = .ok (.aload_n 0, 1) := by decide +kernel
theorem dX11_mostPaid_88 : decode cX11_mostPaid 88 = .ok (.getfield 105, 3) := by decide +kernel
theorem dX11_mostPaid_91 : decode cX11_mostPaid 91 = .ok (.iload 4, 2) := by decide +kernel
theorem dX11_mostPaid_93 : decode cX11_mostPaid 93 = .ok (.laload, 1) := by decide +kernel
theorem dX11_mostPaid_94 : decode cX11_mostPaid 94 = .ok (.lmul, 1) := by decide +kernel
theorem dX11_mostPaid_95 : decode cX11_mostPaid 95 = .ok (.aload_n 0, 1) := by decide +kernel
theorem dX11_mostPaid_96 : decode cX11_mostPaid 96 = .ok (.getfield 101, 3) := by decide +kernel
theorem dX11_mostPaid_99 : decode cX11_mostPaid 99 = .ok (.iload 4, 2) := by decide +kernel
theorem dX11_mostPaid_101 : decode cX11_mostPaid 101 = .ok (.laload, 1) := by decide +kernel
theorem dX11_mostPaid_102 : decode cX11_mostPaid 102 = .ok (.aload_n 0, 1) := by decide +kernel
theorem dX11_mostPaid_103 : decode cX11_mostPaid 103 = .ok (.getfield 105, 3) := by decide +kernel
theorem dX11_mostPaid_106 : decode cX11_mostPaid 106 = .ok (.iload_n 3, 1) := by decide +kernel
theorem dX11_mostPaid_107 : decode cX11_mostPaid 107 = .ok (.laload, 1) := by decide +kernel
theorem dX11_mostPaid_108 : decode cX11_mostPaid 108 = .ok (.lmul, 1) := by decide +kernel
theorem dX11_mostPaid_109 : decode cX11_mostPaid 109 = .ok (.lcmp, 1) := by decide +kernel
theorem dX11_mostPaid_110 : decode cX11_mostPaid 110 = .ok (.ifCond .le 7, 3) := by decide +kernel
theorem dX11_mostPaid_113 : decode cX11_mostPaid 113 = .ok (.iconst 1, 1) := by decide +kernel
theorem dX11_mostPaid_114 : decode cX11_mostPaid 114 = .ok (.goto 4, 3) := by decide +kernel
theorem dX11_mostPaid_117 : decode cX11_mostPaid 117 = .ok (.iconst 0, 1) := by decide +kernel
theorem dX11_mostPaid_118 : decode cX11_mostPaid 118 = .ok (.istore 5, 2) := by decide +kernel
theorem dX11_mostPaid_120 : decode cX11_mostPaid 120 = .ok (.iload 5, 2) := by decide +kernel
theorem dX11_mostPaid_122 : decode cX11_mostPaid 122 = .ok (.ifCond .eq 7, 3) := by decide +kernel
theorem dX11_mostPaid_125 : decode cX11_mostPaid 125 = .ok (.iload_n 2, 1) := by decide +kernel
theorem dX11_mostPaid_126 : decode cX11_mostPaid 126 = .ok (.goto 4, 3) := by decide +kernel
theorem dX11_mostPaid_129 : decode cX11_mostPaid 129 = .ok (.iload_n 1, 1) := by decide +kernel
theorem dX11_mostPaid_130 : decode cX11_mostPaid 130 = .ok (.istore_n 1, 1) := by decide +kernel
theorem dX11_mostPaid_131 : decode cX11_mostPaid 131 = .ok (.iinc 2 1, 3) := by decide +kernel
theorem dX11_mostPaid_134 : decode cX11_mostPaid 134 = .ok (.goto (-130), 3) := by decide +kernel
theorem dX11_mostPaid_137 : decode cX11_mostPaid 137 = .ok (.iload_n 1, 1) := by decide +kernel
theorem dX11_mostPaid_138 : decode cX11_mostPaid 138 = .ok (.ireturn, 1) := by decide +kernel
def mM_mostPaid_118 (k4 : Int32 → Int32 → hI → hJ → Option (Int32 × hI × hJ)) (v1 : Int32) (v2 : Int32) (vs0 : Int32) (I : hI) (J : hJ) : Option (Int32 × hI × hJ) :=
  if vs0 = 0 then
    k4 v1 (v2 + (1 : Int32)) I J
  else
    k4 v2 (v2 + (1 : Int32)) I J
set_option maxHeartbeats 4000000 in
theorem sM_mostPaid_118 (d : Nat) (hd : 104 + 1 ≤ d) (k4 : Int32 → Int32 → hI → hJ → Option (Int32 × hI × hJ)) (hk4 : ∀ (v1 : Int32) (v2 : Int32) (I : hI) (J : hJ) (q : Int32 × hI × hJ), k4 v1 v2 I J = some q → AW hFT cX11_mostPaid 6 (some .int) RX11 kdM d [(0, .ref 0), (1, .int v1), (2, .int v2)] 4 [] (I, J, RMm) (some (.int q.1)) (q.2.1, q.2.2, RMm)) (v1 : Int32) (v2 : Int32) (vs0 : Int32) (I : hI) (J : hJ) (q : Int32 × hI × hJ) (h : mM_mostPaid_118 k4 v1 v2 vs0 I J = some q) : AW hFT cX11_mostPaid 6 (some .int) RX11 kdM d [(0, .ref 0), (1, .int v1), (2, .int v2)] 118 [.int vs0] (I, J, RMm) (some (.int q.1)) (q.2.1, q.2.2, RMm) := by
  obtain ⟨d0, rfl, hd0⟩ := h_mono hd
  unfold mM_mostPaid_118 at h
  refine a_istore (lv' := [(5, .int vs0), (0, .ref 0), (1, .int v1), (2, .int v2)]) dX11_mostPaid_118 (by decide) rfl ?_
  refine a_iload dX11_mostPaid_120 rfl ?_
  refine a_if_eq (tgt := 129) dX11_mostPaid_122 (by decide) (fun c => ?_) (fun c => ?_)
  · replace h := h_iteT c h
    refine a_iload_n dX11_mostPaid_129 rfl rfl ?_
    refine a_istore_n (lv' := [(1, .int v1), (5, .int vs0), (0, .ref 0), (2, .int v2)]) dX11_mostPaid_130 rfl (by decide) rfl ?_
    refine b_iinc (lv' := [(2, .int (v2 + (1 : Int32))), (1, .int v1), (5, .int vs0), (0, .ref 0)]) dX11_mostPaid_131 rfl ic_1 (by decide) rfl ?_
    refine a_goto (tgt := 4) dX11_mostPaid_134 (by decide) ?_
    refine a_sub (lv' := [(0, .ref 0), (1, .int v1), (2, .int (v2 + (1 : Int32)))]) [3, 1, 0] rfl ?_
    exact hk4 v1 (v2 + (1 : Int32)) I J _ h
  · replace h := h_iteF c h
    refine a_iload_n dX11_mostPaid_125 rfl rfl ?_
    refine a_goto (tgt := 130) dX11_mostPaid_126 (by decide) ?_
    refine a_istore_n (lv' := [(1, .int v2), (5, .int vs0), (0, .ref 0), (2, .int v2)]) dX11_mostPaid_130 rfl (by decide) rfl ?_
    refine b_iinc (lv' := [(2, .int (v2 + (1 : Int32))), (1, .int v2), (5, .int vs0), (0, .ref 0)]) dX11_mostPaid_131 rfl ic_1 (by decide) rfl ?_
    refine a_goto (tgt := 4) dX11_mostPaid_134 (by decide) ?_
    refine a_sub (lv' := [(0, .ref 0), (1, .int v2), (2, .int (v2 + (1 : Int32)))]) [3, 1, 0] rfl ?_
    exact hk4 v2 (v2 + (1 : Int32)) I J _ h
def mM_mostPaid_117 (k4 : Int32 → Int32 → hI → hJ → Option (Int32 × hI × hJ)) (v1 : Int32) (v2 : Int32) (I : hI) (J : hJ) : Option (Int32 × hI × hJ) :=
  mM_mostPaid_118 k4 v1 v2 (0 : Int32) I J
set_option maxHeartbeats 4000000 in
theorem sM_mostPaid_117 (d : Nat) (hd : 104 + 1 ≤ d) (k4 : Int32 → Int32 → hI → hJ → Option (Int32 × hI × hJ)) (hk4 : ∀ (v1 : Int32) (v2 : Int32) (I : hI) (J : hJ) (q : Int32 × hI × hJ), k4 v1 v2 I J = some q → AW hFT cX11_mostPaid 6 (some .int) RX11 kdM d [(0, .ref 0), (1, .int v1), (2, .int v2)] 4 [] (I, J, RMm) (some (.int q.1)) (q.2.1, q.2.2, RMm)) (v1 : Int32) (v2 : Int32) (I : hI) (J : hJ) (q : Int32 × hI × hJ) (h : mM_mostPaid_117 k4 v1 v2 I J = some q) : AW hFT cX11_mostPaid 6 (some .int) RX11 kdM d [(0, .ref 0), (1, .int v1), (2, .int v2)] 117 [] (I, J, RMm) (some (.int q.1)) (q.2.1, q.2.2, RMm) := by
  obtain ⟨d0, rfl, hd0⟩ := h_mono hd
  unfold mM_mostPaid_117 at h
  refine a_iconst dX11_mostPaid_117 ic_0 ?_
  exact sM_mostPaid_118 (d0 + 1) (by omega) k4 hk4 v1 v2 (0 : Int32) I J _ h
def mM_mostPaid_54 (k4 : Int32 → Int32 → hI → hJ → Option (Int32 × hI × hJ)) (v1 : Int32) (v2 : Int32) (v3 : Int32) (vs0 : Int32) (I : hI) (J : hJ) : Option (Int32 × hI × hJ) :=
  if vs0 = (-1 : Int32) then
    mM_mostPaid_118 k4 v1 v2 (1 : Int32) I J
  else
    (h_g (h_in vs0 640) <|
    if (I 35 vs0.toNatClampNeg) = 0 then
      (h_g (h_in v3 640) <|
      if (I 35 v3.toNatClampNeg) = 0 then
        (h_g (h_in v3 640) <|
        h_g (h_in vs0 640) <|
        h_g (h_in vs0 640) <|
        h_g (h_in v3 640) <|
        if ((J 31 v3.toNatClampNeg) * (J 32 vs0.toNatClampNeg)) ≤ ((J 31 vs0.toNatClampNeg) * (J 32 v3.toNatClampNeg)) then
          mM_mostPaid_117 k4 v1 v2 I J
        else
          mM_mostPaid_118 k4 v1 v2 (1 : Int32) I J)
      else
        mM_mostPaid_118 k4 v1 v2 (1 : Int32) I J)
    else
      mM_mostPaid_117 k4 v1 v2 I J)
set_option maxHeartbeats 4000000 in
theorem sM_mostPaid_54 (d : Nat) (hd : 104 + 1 ≤ d) (k4 : Int32 → Int32 → hI → hJ → Option (Int32 × hI × hJ)) (hk4 : ∀ (v1 : Int32) (v2 : Int32) (I : hI) (J : hJ) (q : Int32 × hI × hJ), k4 v1 v2 I J = some q → AW hFT cX11_mostPaid 6 (some .int) RX11 kdM d [(0, .ref 0), (1, .int v1), (2, .int v2)] 4 [] (I, J, RMm) (some (.int q.1)) (q.2.1, q.2.2, RMm)) (v1 : Int32) (v2 : Int32) (v3 : Int32) (vs0 : Int32) (I : hI) (J : hJ) (q : Int32 × hI × hJ) (h : mM_mostPaid_54 k4 v1 v2 v3 vs0 I J = some q) : AW hFT cX11_mostPaid 6 (some .int) RX11 kdM d [(0, .ref 0), (1, .int v1), (2, .int v2), (3, .int v3)] 54 [.int vs0] (I, J, RMm) (some (.int q.1)) (q.2.1, q.2.2, RMm) := by
  obtain ⟨d0, rfl, hd0⟩ := h_mono hd
  unfold mM_mostPaid_54 at h
  refine a_istore (lv' := [(4, .int vs0), (0, .ref 0), (1, .int v1), (2, .int v2), (3, .int v3)]) dX11_mostPaid_54 (by decide) rfl ?_
  refine a_iload dX11_mostPaid_56 rfl ?_
  refine a_iconst dX11_mostPaid_58 ic_m1 ?_
  refine a_icmp_eq (tgt := 113) dX11_mostPaid_59 (by decide) (fun c => ?_) (fun c => ?_)
  · replace h := h_iteT c h
    refine a_iconst dX11_mostPaid_113 ic_1 ?_
    refine a_goto (tgt := 118) dX11_mostPaid_114 (by decide) ?_
    refine a_sub (lv' := [(0, .ref 0), (1, .int v1), (2, .int v2)]) [1, 2, 3] rfl ?_
    exact sM_mostPaid_118 (d0 + 1) (by omega) k4 hk4 v1 v2 (1 : Int32) I J _ h
  · replace h := h_iteF c h
    refine a_aload_n dX11_mostPaid_62 rfl rfl ?_
    refine b_getR hK_11 km_0 (i := 73) rfl fl_11_114 rfl rmm_73 dX11_mostPaid_63 ?_
    refine a_iload dX11_mostPaid_66 rfl ?_
    obtain ⟨g1, h⟩ := h_gS h
    refine b_zaload km_35 (h_inV g1) dX11_mostPaid_68 ?_
    refine a_if_ne (tgt := 117) dX11_mostPaid_69 (by decide) (fun c => ?_) (fun c => ?_)
    · replace h := h_iteF c h
      refine a_sub (lv' := [(0, .ref 0), (1, .int v1), (2, .int v2)]) [1, 2, 3] rfl ?_
      exact sM_mostPaid_117 (d0 + 1) (by omega) k4 hk4 v1 v2 I J _ h
    · replace h := h_iteT c h
      refine a_aload_n dX11_mostPaid_72 rfl rfl ?_
      refine b_getR hK_11 km_0 (i := 73) rfl fl_11_114 rfl rmm_73 dX11_mostPaid_73 ?_
      refine a_iload_n dX11_mostPaid_76 rfl rfl ?_
      obtain ⟨g2, h⟩ := h_gS h
      refine b_zaload km_35 (h_inV g2) dX11_mostPaid_77 ?_
      refine a_if_ne (tgt := 113) dX11_mostPaid_78 (by decide) (fun c => ?_) (fun c => ?_)
      · replace h := h_iteF c h
        refine a_iconst dX11_mostPaid_113 ic_1 ?_
        refine a_goto (tgt := 118) dX11_mostPaid_114 (by decide) ?_
        refine a_sub (lv' := [(0, .ref 0), (1, .int v1), (2, .int v2)]) [1, 2, 3] rfl ?_
        exact sM_mostPaid_118 (d0 + 1) (by omega) k4 hk4 v1 v2 (1 : Int32) I J _ h
      · replace h := h_iteT c h
        refine a_aload_n dX11_mostPaid_81 rfl rfl ?_
        refine b_getR hK_11 km_0 (i := 69) rfl fl_11_101 rfl rmm_69 dX11_mostPaid_82 ?_
        refine a_iload_n dX11_mostPaid_85 rfl rfl ?_
        obtain ⟨g3, h⟩ := h_gS h
        refine b_laload km_31 (h_inV g3) dX11_mostPaid_86 ?_
        refine a_aload_n dX11_mostPaid_87 rfl rfl ?_
        refine b_getR hK_11 km_0 (i := 70) rfl fl_11_105 rfl rmm_70 dX11_mostPaid_88 ?_
        refine a_iload dX11_mostPaid_91 rfl ?_
        obtain ⟨g4, h⟩ := h_gS h
        refine b_laload km_32 (h_inV g4) dX11_mostPaid_93 ?_
        refine a_lmul dX11_mostPaid_94 ?_
        refine a_aload_n dX11_mostPaid_95 rfl rfl ?_
        refine b_getR hK_11 km_0 (i := 69) rfl fl_11_101 rfl rmm_69 dX11_mostPaid_96 ?_
        refine a_iload dX11_mostPaid_99 rfl ?_
        obtain ⟨g5, h⟩ := h_gS h
        refine b_laload km_31 (h_inV g5) dX11_mostPaid_101 ?_
        refine a_aload_n dX11_mostPaid_102 rfl rfl ?_
        refine b_getR hK_11 km_0 (i := 70) rfl fl_11_105 rfl rmm_70 dX11_mostPaid_103 ?_
        refine a_iload_n dX11_mostPaid_106 rfl rfl ?_
        obtain ⟨g6, h⟩ := h_gS h
        refine b_laload km_32 (h_inV g6) dX11_mostPaid_107 ?_
        refine a_lmul dX11_mostPaid_108 ?_
        refine a_lcmp_le (tgt := 117) dX11_mostPaid_109 dX11_mostPaid_110 (by decide) (fun c => ?_) (fun c => ?_)
        · replace h := h_iteT c h
          refine a_sub (lv' := [(0, .ref 0), (1, .int v1), (2, .int v2)]) [1, 2, 3] rfl ?_
          exact sM_mostPaid_117 (d0 + 1) (by omega) k4 hk4 v1 v2 I J _ h
        · replace h := h_iteF c h
          refine a_iconst dX11_mostPaid_113 ic_1 ?_
          refine a_goto (tgt := 118) dX11_mostPaid_114 (by decide) ?_
          refine a_sub (lv' := [(0, .ref 0), (1, .int v1), (2, .int v2)]) [1, 2, 3] rfl ?_
          exact sM_mostPaid_118 (d0 + 1) (by omega) k4 hk4 v1 v2 (1 : Int32) I J _ h
def mM_mostPaid_B4 (k4 : Int32 → Int32 → hI → hJ → Option (Int32 × hI × hJ)) (v1 : Int32) (v2 : Int32) (I : hI) (J : hJ) : Option (Int32 × hI × hJ) :=
  if (I 0 41) ≤ v2 then
    some (v1, I, J)
  else
    ((mM_isInside v2 I).bind fun q1 =>
    if q1 = 0 then
      k4 v1 (v2 + (1 : Int32)) I J
    else
      ((mM_bestPlan v2 (1 : Int32) (1 : Int32) I J).bind fun q2 =>
      h_let (((10 : Int32) * q2.1) + v2) fun v3x2 =>
      if v1 = (-1 : Int32) then
        mM_mostPaid_54 k4 v1 v2 v3x2 (-1 : Int32) q2.2.1 q2.2.2
      else
        ((mM_bestPlan v1 (1 : Int32) (1 : Int32) q2.2.1 q2.2.2).bind fun q4 =>
        mM_mostPaid_54 k4 v1 v2 v3x2 (((10 : Int32) * q4.1) + v1) q4.2.1 q4.2.2)))
set_option maxHeartbeats 4000000 in
theorem sM_mostPaid_B4 (d : Nat) (hd : 104 + 1 ≤ d) (k4 : Int32 → Int32 → hI → hJ → Option (Int32 × hI × hJ)) (hk4 : ∀ (v1 : Int32) (v2 : Int32) (I : hI) (J : hJ) (q : Int32 × hI × hJ), k4 v1 v2 I J = some q → AW hFT cX11_mostPaid 6 (some .int) RX11 kdM d [(0, .ref 0), (1, .int v1), (2, .int v2)] 4 [] (I, J, RMm) (some (.int q.1)) (q.2.1, q.2.2, RMm)) (v1 : Int32) (v2 : Int32) (I : hI) (J : hJ) (q : Int32 × hI × hJ) (h : mM_mostPaid_B4 k4 v1 v2 I J = some q) : AW hFT cX11_mostPaid 6 (some .int) RX11 kdM d [(0, .ref 0), (1, .int v1), (2, .int v2)] 4 [] (I, J, RMm) (some (.int q.1)) (q.2.1, q.2.2, RMm) := by
  obtain ⟨d0, rfl, hd0⟩ := h_mono hd
  unfold mM_mostPaid_B4 at h
  refine a_iload_n dX11_mostPaid_4 rfl rfl ?_
  refine a_aload_n dX11_mostPaid_5 rfl rfl ?_
  refine b_getI hK_11 km_0 (i := 41) rfl fl_11_367 rfl dX11_mostPaid_6 ?_
  refine a_icmp_ge (tgt := 137) dX11_mostPaid_9 (by decide) (fun c => ?_) (fun c => ?_)
  · replace h := h_iteT c h
    refine a_iload_n dX11_mostPaid_137 rfl rfl ?_
    cases h
    exact a_iret dX11_mostPaid_138
  · replace h := h_iteF c h
    refine a_aload_n dX11_mostPaid_12 rfl rfl ?_
    refine a_iload_n dX11_mostPaid_13 rfl rfl ?_
    obtain ⟨q1, cq1, h⟩ := h_bindS h
    refine a_callV1 [] yy_X11_isInside ml_11_463 km_0 rfl (sM_isInside _ (by omega) v2 I J q1 cq1) rfl rfl (Nat.le_of_ble_eq_true rfl) dX11_mostPaid_14 ?_
    refine a_if_eq (tgt := 131) dX11_mostPaid_17 (by decide) (fun c => ?_) (fun c => ?_)
    · replace h := h_iteT c h
      refine b_iinc (lv' := [(2, .int (v2 + (1 : Int32))), (0, .ref 0), (1, .int v1)]) dX11_mostPaid_131 rfl ic_1 (by decide) rfl ?_
      refine a_goto (tgt := 4) dX11_mostPaid_134 (by decide) ?_
      refine a_sub (lv' := [(0, .ref 0), (1, .int v1), (2, .int (v2 + (1 : Int32)))]) [1, 2, 0] rfl ?_
      exact hk4 v1 (v2 + (1 : Int32)) I J _ h
    · replace h := h_iteF c h
      refine a_bipush dX11_mostPaid_20 bp_10 ?_
      refine a_aload_n dX11_mostPaid_22 rfl rfl ?_
      refine a_iload_n dX11_mostPaid_23 rfl rfl ?_
      refine a_iconst dX11_mostPaid_24 ic_1 ?_
      refine a_iconst dX11_mostPaid_25 ic_1 ?_
      obtain ⟨q2, cq2, h⟩ := h_bindS h
      refine a_callV1 [.int (10 : Int32)] yy_X11_bestPlan ml_11_547 km_0 rfl (sM_bestPlan _ (by omega) v2 (1 : Int32) (1 : Int32) I J q2 cq2) rfl rfl (Nat.le_of_ble_eq_true rfl) dX11_mostPaid_26 ?_
      refine a_imul dX11_mostPaid_29 ?_
      refine a_iload_n dX11_mostPaid_30 rfl rfl ?_
      refine a_iadd dX11_mostPaid_31 ?_
      obtain ⟨v3x2, ev3x2, h⟩ := h_letS h
      refine a_topI ev3x2 ?_
      refine a_istore_n (lv' := [(3, .int v3x2), (0, .ref 0), (1, .int v1), (2, .int v2)]) dX11_mostPaid_32 rfl (by decide) rfl ?_
      refine a_iload_n dX11_mostPaid_33 rfl rfl ?_
      refine a_iconst dX11_mostPaid_34 ic_m1 ?_
      refine a_icmp_ne (tgt := 42) dX11_mostPaid_35 (by decide) (fun c => ?_) (fun c => ?_)
      · replace h := h_iteF c h
        refine a_bipush dX11_mostPaid_42 bp_10 ?_
        refine a_aload_n dX11_mostPaid_44 rfl rfl ?_
        refine a_iload_n dX11_mostPaid_45 rfl rfl ?_
        refine a_iconst dX11_mostPaid_46 ic_1 ?_
        refine a_iconst dX11_mostPaid_47 ic_1 ?_
        obtain ⟨q4, cq4, h⟩ := h_bindS h
        refine a_callV1 [.int (10 : Int32)] yy_X11_bestPlan ml_11_547 km_0 rfl (sM_bestPlan _ (by omega) v1 (1 : Int32) (1 : Int32) q2.2.1 q2.2.2 q4 cq4) rfl rfl (Nat.le_of_ble_eq_true rfl) dX11_mostPaid_48 ?_
        refine a_imul dX11_mostPaid_51 ?_
        refine a_iload_n dX11_mostPaid_52 rfl rfl ?_
        refine a_iadd dX11_mostPaid_53 ?_
        refine a_sub (lv' := [(0, .ref 0), (1, .int v1), (2, .int v2), (3, .int v3x2)]) [1, 2, 3, 0] rfl ?_
        exact sM_mostPaid_54 (d0 + 1) (by omega) k4 hk4 v1 v2 v3x2 (((10 : Int32) * q4.1) + v1) q4.2.1 q4.2.2 _ h
      · replace h := h_iteT c h
        refine a_iconst dX11_mostPaid_38 ic_m1 ?_
        refine a_goto (tgt := 54) dX11_mostPaid_39 (by decide) ?_
        refine a_sub (lv' := [(0, .ref 0), (1, .int v1), (2, .int v2), (3, .int v3x2)]) [1, 2, 3, 0] rfl ?_
        exact sM_mostPaid_54 (d0 + 1) (by omega) k4 hk4 v1 v2 v3x2 (-1 : Int32) q2.2.1 q2.2.2 _ h
def mM_mostPaid_L4  : Nat → Int32 → Int32 → hI → hJ → Option (Int32 × hI × hJ)
  | 0 => fun _ _ _ _ => none
  | n + 1 => mM_mostPaid_B4 (mM_mostPaid_L4 n)
theorem sM_mostPaid_L4 (d : Nat) (hd : 104 + 1 ≤ d) : ∀ (n : Nat) (v1 : Int32) (v2 : Int32) (I : hI) (J : hJ) (q : Int32 × hI × hJ) (h : mM_mostPaid_L4 n v1 v2 I J = some q), AW hFT cX11_mostPaid 6 (some .int) RX11 kdM d [(0, .ref 0), (1, .int v1), (2, .int v2)] 4 [] (I, J, RMm) (some (.int q.1)) (q.2.1, q.2.2, RMm)
  | 0, _, _, _, _, q, h => by cases h
  | n + 1, v1, v2, I, J, q, h => sM_mostPaid_B4 d hd (mM_mostPaid_L4 n) (sM_mostPaid_L4 d hd n) v1 v2 I J q h
def mM_mostPaid   (I : hI) (J : hJ) : Option (Int32 × hI × hJ) :=
  mM_mostPaid_L4 hF (-1 : Int32) (0 : Int32) I J
set_option maxHeartbeats 4000000 in
theorem sM_mostPaid (d : Nat) (hd : 104 + 1 ≤ d)  (I : hI) (J : hJ) (q : Int32 × hI × hJ) (h : mM_mostPaid I J = some q) : HMet hFT yX11_mostPaid cX11_mostPaid 6 (some .int) kdM d [.ref 0] (I, J, RMm) (some (.int q.1)) (q.2.1, q.2.2, RMm) := by
  obtain ⟨d0, rfl, hd0⟩ := h_mono hd
  refine HMet.of (by decide) (Nat.le_of_ble_eq_true rfl) ?_
  show AW hFT cX11_mostPaid 6 (some .int) RX11 kdM (d0 + 1) [(0, .ref 0)] 0 [] (I, J, RMm) (some (.int q.1)) (q.2.1, q.2.2, RMm)
  unfold mM_mostPaid at h
  refine a_iconst dX11_mostPaid_0 ic_m1 ?_
  refine a_istore_n (lv' := [(1, .int (-1 : Int32)), (0, .ref 0)]) dX11_mostPaid_1 rfl (by decide) rfl ?_
  refine a_iconst dX11_mostPaid_2 ic_0 ?_
  refine a_istore_n (lv' := [(2, .int (0 : Int32)), (1, .int (-1 : Int32)), (0, .ref 0)]) dX11_mostPaid_3 rfl (by decide) rfl ?_
  refine a_sub (lv' := [(0, .ref 0), (1, .int (-1 : Int32)), (2, .int (0 : Int32))]) [2, 1, 0] rfl ?_
  exact sM_mostPaid_L4 (d0 + 1) (by omega) hF (-1 : Int32) (0 : Int32) I J _ h
/-! CoinLoopsModel.leastOdds()I -/
theorem dX11_leastOdds_0 : decode cX11_leastOdds 0 = .ok (.iconst (-1), 1) := by decide +kernel
theorem dX11_leastOdds_1 : decode cX11_leastOdds 1 = .ok (.istore_n 1, 1) := by decide +kernel
theorem dX11_leastOdds_2 : decode cX11_leastOdds 2 = .ok (.iconst 0, 1) := by decide +kernel
theorem dX11_leastOdds_3 : decode cX11_leastOdds 3 = .ok (.istore_n 2, 1) := by decide +kernel
theorem dX11_leastOdds_4 : decode cX11_leastOdds 4 = .ok (.iload_n 2, 1) := by decide +kernel
theorem dX11_leastOdds_5 : decode cX11_leastOdds 5 = .ok (.aload_n 0, 1) := by decide +kernel
theorem dX11_leastOdds_6 : decode cX11_leastOdds 6 = .ok (.getfield 367, 3) := by decide +kernel
theorem dX11_leastOdds_9 : decode cX11_leastOdds 9 = .ok (.if_icmp .ge 97, 3) := by decide +kernel
theorem dX11_leastOdds_12 : decode cX11_leastOdds 12 = .ok (.aload_n 0, 1) := by decide +kernel
theorem dX11_leastOdds_13 : decode cX11_leastOdds 13 = .ok (.iload_n 2, 1) := by decide +kernel
theorem dX11_leastOdds_14 : decode cX11_leastOdds 14 = .ok (.invokevirtual 463, 3) := by decide +kernel
theorem dX11_leastOdds_17 : decode cX11_leastOdds 17 = .ok (.ifCond .eq 83, 3) := by decide +kernel
theorem dX11_leastOdds_20 : decode cX11_leastOdds 20 = .ok (.bipush 10, 2) := by decide +kernel
theorem dX11_leastOdds_22 : decode cX11_leastOdds 22 = .ok (.aload_n 0, 1) := by decide +kernel
theorem dX11_leastOdds_23 : decode cX11_leastOdds 23 = .ok (.iload_n 2, 1) := by decide +kernel
theorem dX11_leastOdds_24 : decode cX11_leastOdds 24 = .ok (.iconst 0, 1) := by decide +kernel
theorem dX11_leastOdds_25 : decode cX11_leastOdds 25 = .ok (.iconst 0, 1) := by decide +kernel
theorem dX11_leastOdds_26 : decode cX11_leastOdds 26 = .ok (.invokevirtual 547, 3) := by decide +kernel
theorem dX11_leastOdds_29 : decode cX11_leastOdds 29 = .ok (.imul, 1) := by decide +kernel
theorem dX11_leastOdds_30 : decode cX11_leastOdds 30 = .ok (.iload_n 2, 1) := by decide +kernel
theorem dX11_leastOdds_31 : decode cX11_leastOdds 31 = .ok (.iadd, 1) := by decide +kernel
theorem dX11_leastOdds_32 : decode cX11_leastOdds 32 = .ok (.istore_n 3, 1) := by decide +kernel
theorem dX11_leastOdds_33 : decode cX11_leastOdds 33 = .ok (.iload_n 1, 1) := by decide +kernel
theorem dX11_leastOdds_34 : decode cX11_leastOdds 34 = .ok (.iconst (-1), 1) := by decide +kernel
theorem dX11_leastOdds_35 : decode cX11_leastOdds 35 = .ok (.if_icmp .ne 7, 3) := by decide +kernel
theorem dX11_leastOdds_38 : decode cX11_leastOdds 38 = .ok (.iconst (-1), 1) := by decide +kernel
theorem dX11_leastOdds_39 : decode cX11_leastOdds 39 = .ok (.goto 15, 3) := by decide +kernel
theorem dX11_leastOdds_42 : decode cX11_leastOdds 42 = .ok (.bipush 10, 2) := by decide +kernel
theorem dX11_leastOdds_44 : decode cX11_leastOdds 44 = .ok (.aload_n 0, 1) := by decide +kernel
theorem dX11_leastOdds_45 : decode cX11_leastOdds 45 = .ok (.iload_n 1, 1) := by decide +kernel
theorem dX11_leastOdds_46 : decode cX11_leastOdds 46 = .ok (.iconst 0, 1) := by decide +kernel
theorem dX11_leastOdds_47 : decode cX11_leastOdds 47 = .ok (.iconst 0, 1) := by decide +kernel
theorem dX11_leastOdds_48 : decode cX11_leastOdds 48 = .ok (.invokevirtual 547, 3) := by decide +kernel
theorem dX11_leastOdds_51 : decode cX11_leastOdds 51 = .ok (.imul, 1) := by decide +kernel
theorem dX11_leastOdds_52 : decode cX11_leastOdds 52 = .ok (.iload_n 1, 1) := by decide +kernel
theorem dX11_leastOdds_53 : decode cX11_leastOdds 53 = .ok (.iadd, 1) := by decide +kernel
theorem dX11_leastOdds_54 : decode cX11_leastOdds 54 = .ok (.istore 4, 2) := by decide +kernel
theorem dX11_leastOdds_56 : decode cX11_leastOdds 56 = .ok (.iload 4, 2) := by decide +kernel
theorem dX11_leastOdds_58 : decode cX11_leastOdds 58 = .ok (.iconst (-1), 1) := by decide +kernel
theorem dX11_leastOdds_59 : decode cX11_leastOdds 59 = .ok (.if_icmp .eq 35, 3) := by decide +kernel
theorem dX11_leastOdds_62 : decode cX11_leastOdds 62 = .ok (.aload_n 0, 1) := by decide +kernel
theorem dX11_leastOdds_63 : decode cX11_leastOdds 63 = .ok (.getfield 108, 3) := by decide +kernel
theorem dX11_leastOdds_66 : decode cX11_leastOdds 66 = .ok (.iload_n 3, 1) := by decide +kernel
theorem dX11_leastOdds_67 : decode cX11_leastOdds 67 = .ok (.laload, 1) := by decide +kernel
theorem dX11_leastOdds_68 : decode cX11_leastOdds 68 = .ok (.aload_n 0, 1) := by decide +kernel
theorem dX11_leastOdds_69 : decode cX11_leastOdds 69 = .ok (.getfield 111, 3) := by decide +kernel
theorem dX11_leastOdds_72 : decode cX11_leastOdds 72 = .ok (.iload 4, 2) := by decide +kernel
theorem dX11_leastOdds_74 : decode cX11_leastOdds 74 = .ok (.laload, 1) := by decide +kernel
theorem dX11_leastOdds_75 : decode cX11_leastOdds 75 = .ok (.lmul, 1) := by decide +kernel
theorem dX11_leastOdds_76 : decode cX11_leastOdds 76 = .ok (.aload_n 0, 1) := by decide +kernel
theorem dX11_leastOdds_77 : decode cX11_leastOdds 77 = .ok (.getfield 108, 3) := by decide +kernel
theorem dX11_leastOdds_80 : decode cX11_leastOdds 80 = .ok (.iload 4, 2) := by decide +kernel
theorem dX11_leastOdds_82 : decode cX11_leastOdds 82 = .ok (.laload, 1) := by decide +kernel
theorem dX11_leastOdds_83 : decode cX11_leastOdds 83 = .ok (.aload_n 0, 1) := by decide +kernel
theorem dX11_leastOdds_84 : decode cX11_leastOdds 84 = .ok (.getfield 111, 3) := by decide +kernel
theorem dX11_leastOdds_87 : decode cX11_leastOdds 87 = .ok (.iload_n 3, 1) := by decide +kernel
theorem dX11_leastOdds_88 : decode cX11_leastOdds 88 = .ok (.laload, 1) := by decide +kernel
theorem dX11_leastOdds_89 : decode cX11_leastOdds 89 = .ok (.lmul, 1) := by decide +kernel
theorem dX11_leastOdds_90 : decode cX11_leastOdds 90 = .ok (.lcmp, 1) := by decide +kernel
theorem dX11_leastOdds_91 : decode cX11_leastOdds 91 = .ok (.ifCond .ge 7, 3) := by decide +kernel
theorem dX11_leastOdds_94 : decode cX11_leastOdds 94 = .ok (.iload_n 2, 1) := by decide +kernel
theorem dX11_leastOdds_95 : decode cX11_leastOdds 95 = .ok (.goto 4, 3) := by decide +kernel
theorem dX11_leastOdds_98 : decode cX11_leastOdds 98 = .ok (.iload_n 1, 1) := by decide +kernel
theorem dX11_leastOdds_99 : decode cX11_leastOdds 99 = .ok (.istore_n 1, 1) := by decide +kernel
theorem dX11_leastOdds_100 : decode cX11_leastOdds 100 = .ok (.iinc 2 1, 3) := by decide +kernel
theorem dX11_leastOdds_103 : decode cX11_leastOdds 103 = .ok (.goto (-99), 3) := by decide +kernel
theorem dX11_leastOdds_106 : decode cX11_leastOdds 106 = .ok (.iload_n 1, 1) := by decide +kernel
theorem dX11_leastOdds_107 : decode cX11_leastOdds 107 = .ok (.ireturn, 1) := by decide +kernel
def mM_leastOdds_54 (k4 : Int32 → Int32 → hI → hJ → Option (Int32 × hI × hJ)) (v1 : Int32) (v2 : Int32) (v3 : Int32) (vs0 : Int32) (I : hI) (J : hJ) : Option (Int32 × hI × hJ) :=
  if vs0 = (-1 : Int32) then
    k4 v2 (v2 + (1 : Int32)) I J
  else
    (h_g (h_in v3 640) <|
    h_g (h_in vs0 640) <|
    h_g (h_in vs0 640) <|
    h_g (h_in v3 640) <|
    if ((J 33 vs0.toNatClampNeg) * (J 34 v3.toNatClampNeg)) ≤ ((J 33 v3.toNatClampNeg) * (J 34 vs0.toNatClampNeg)) then
      k4 v1 (v2 + (1 : Int32)) I J
    else
      k4 v2 (v2 + (1 : Int32)) I J)
set_option maxHeartbeats 4000000 in
theorem sM_leastOdds_54 (d : Nat) (hd : 104 + 1 ≤ d) (k4 : Int32 → Int32 → hI → hJ → Option (Int32 × hI × hJ)) (hk4 : ∀ (v1 : Int32) (v2 : Int32) (I : hI) (J : hJ) (q : Int32 × hI × hJ), k4 v1 v2 I J = some q → AW hFT cX11_leastOdds 5 (some .int) RX11 kdM d [(0, .ref 0), (1, .int v1), (2, .int v2)] 4 [] (I, J, RMm) (some (.int q.1)) (q.2.1, q.2.2, RMm)) (v1 : Int32) (v2 : Int32) (v3 : Int32) (vs0 : Int32) (I : hI) (J : hJ) (q : Int32 × hI × hJ) (h : mM_leastOdds_54 k4 v1 v2 v3 vs0 I J = some q) : AW hFT cX11_leastOdds 5 (some .int) RX11 kdM d [(0, .ref 0), (1, .int v1), (2, .int v2), (3, .int v3)] 54 [.int vs0] (I, J, RMm) (some (.int q.1)) (q.2.1, q.2.2, RMm) := by
  obtain ⟨d0, rfl, hd0⟩ := h_mono hd
  unfold mM_leastOdds_54 at h
  refine a_istore (lv' := [(4, .int vs0), (0, .ref 0), (1, .int v1), (2, .int v2), (3, .int v3)]) dX11_leastOdds_54 (by decide) rfl ?_
  refine a_iload dX11_leastOdds_56 rfl ?_
  refine a_iconst dX11_leastOdds_58 ic_m1 ?_
  refine a_icmp_eq (tgt := 94) dX11_leastOdds_59 (by decide) (fun c => ?_) (fun c => ?_)
  · replace h := h_iteT c h
    refine a_iload_n dX11_leastOdds_94 rfl rfl ?_
    refine a_goto (tgt := 99) dX11_leastOdds_95 (by decide) ?_
    refine a_istore_n (lv' := [(1, .int v2), (4, .int vs0), (0, .ref 0), (2, .int v2), (3, .int v3)]) dX11_leastOdds_99 rfl (by decide) rfl ?_
    refine b_iinc (lv' := [(2, .int (v2 + (1 : Int32))), (1, .int v2), (4, .int vs0), (0, .ref 0), (3, .int v3)]) dX11_leastOdds_100 rfl ic_1 (by decide) rfl ?_
    refine a_goto (tgt := 4) dX11_leastOdds_103 (by decide) ?_
    refine a_sub (lv' := [(0, .ref 0), (1, .int v2), (2, .int (v2 + (1 : Int32)))]) [3, 1, 0] rfl ?_
    exact hk4 v2 (v2 + (1 : Int32)) I J _ h
  · replace h := h_iteF c h
    refine a_aload_n dX11_leastOdds_62 rfl rfl ?_
    refine b_getR hK_11 km_0 (i := 71) rfl fl_11_108 rfl rmm_71 dX11_leastOdds_63 ?_
    refine a_iload_n dX11_leastOdds_66 rfl rfl ?_
    obtain ⟨g1, h⟩ := h_gS h
    refine b_laload km_33 (h_inV g1) dX11_leastOdds_67 ?_
    refine a_aload_n dX11_leastOdds_68 rfl rfl ?_
    refine b_getR hK_11 km_0 (i := 72) rfl fl_11_111 rfl rmm_72 dX11_leastOdds_69 ?_
    refine a_iload dX11_leastOdds_72 rfl ?_
    obtain ⟨g2, h⟩ := h_gS h
    refine b_laload km_34 (h_inV g2) dX11_leastOdds_74 ?_
    refine a_lmul dX11_leastOdds_75 ?_
    refine a_aload_n dX11_leastOdds_76 rfl rfl ?_
    refine b_getR hK_11 km_0 (i := 71) rfl fl_11_108 rfl rmm_71 dX11_leastOdds_77 ?_
    refine a_iload dX11_leastOdds_80 rfl ?_
    obtain ⟨g3, h⟩ := h_gS h
    refine b_laload km_33 (h_inV g3) dX11_leastOdds_82 ?_
    refine a_aload_n dX11_leastOdds_83 rfl rfl ?_
    refine b_getR hK_11 km_0 (i := 72) rfl fl_11_111 rfl rmm_72 dX11_leastOdds_84 ?_
    refine a_iload_n dX11_leastOdds_87 rfl rfl ?_
    obtain ⟨g4, h⟩ := h_gS h
    refine b_laload km_34 (h_inV g4) dX11_leastOdds_88 ?_
    refine a_lmul dX11_leastOdds_89 ?_
    refine a_lcmp_ge (tgt := 98) dX11_leastOdds_90 dX11_leastOdds_91 (by decide) (fun c => ?_) (fun c => ?_)
    · replace h := h_iteT c h
      refine a_iload_n dX11_leastOdds_98 rfl rfl ?_
      refine a_istore_n (lv' := [(1, .int v1), (4, .int vs0), (0, .ref 0), (2, .int v2), (3, .int v3)]) dX11_leastOdds_99 rfl (by decide) rfl ?_
      refine b_iinc (lv' := [(2, .int (v2 + (1 : Int32))), (1, .int v1), (4, .int vs0), (0, .ref 0), (3, .int v3)]) dX11_leastOdds_100 rfl ic_1 (by decide) rfl ?_
      refine a_goto (tgt := 4) dX11_leastOdds_103 (by decide) ?_
      refine a_sub (lv' := [(0, .ref 0), (1, .int v1), (2, .int (v2 + (1 : Int32)))]) [3, 1, 0] rfl ?_
      exact hk4 v1 (v2 + (1 : Int32)) I J _ h
    · replace h := h_iteF c h
      refine a_iload_n dX11_leastOdds_94 rfl rfl ?_
      refine a_goto (tgt := 99) dX11_leastOdds_95 (by decide) ?_
      refine a_istore_n (lv' := [(1, .int v2), (4, .int vs0), (0, .ref 0), (2, .int v2), (3, .int v3)]) dX11_leastOdds_99 rfl (by decide) rfl ?_
      refine b_iinc (lv' := [(2, .int (v2 + (1 : Int32))), (1, .int v2), (4, .int vs0), (0, .ref 0), (3, .int v3)]) dX11_leastOdds_100 rfl ic_1 (by decide) rfl ?_
      refine a_goto (tgt := 4) dX11_leastOdds_103 (by decide) ?_
      refine a_sub (lv' := [(0, .ref 0), (1, .int v2), (2, .int (v2 + (1 : Int32)))]) [3, 1, 0] rfl ?_
      exact hk4 v2 (v2 + (1 : Int32)) I J _ h
def mM_leastOdds_B4 (k4 : Int32 → Int32 → hI → hJ → Option (Int32 × hI × hJ)) (v1 : Int32) (v2 : Int32) (I : hI) (J : hJ) : Option (Int32 × hI × hJ) :=
  if (I 0 41) ≤ v2 then
    some (v1, I, J)
  else
    ((mM_isInside v2 I).bind fun q1 =>
    if q1 = 0 then
      k4 v1 (v2 + (1 : Int32)) I J
    else
      ((mM_bestPlan v2 (0 : Int32) (0 : Int32) I J).bind fun q2 =>
      h_let (((10 : Int32) * q2.1) + v2) fun v3x2 =>
      if v1 = (-1 : Int32) then
        mM_leastOdds_54 k4 v1 v2 v3x2 (-1 : Int32) q2.2.1 q2.2.2
      else
        ((mM_bestPlan v1 (0 : Int32) (0 : Int32) q2.2.1 q2.2.2).bind fun q4 =>
        mM_leastOdds_54 k4 v1 v2 v3x2 (((10 : Int32) * q4.1) + v1) q4.2.1 q4.2.2)))
set_option maxHeartbeats 4000000 in
theorem sM_leastOdds_B4 (d : Nat) (hd : 104 + 1 ≤ d) (k4 : Int32 → Int32 → hI → hJ → Option (Int32 × hI × hJ)) (hk4 : ∀ (v1 : Int32) (v2 : Int32) (I : hI) (J : hJ) (q : Int32 × hI × hJ), k4 v1 v2 I J = some q → AW hFT cX11_leastOdds 5 (some .int) RX11 kdM d [(0, .ref 0), (1, .int v1), (2, .int v2)] 4 [] (I, J, RMm) (some (.int q.1)) (q.2.1, q.2.2, RMm)) (v1 : Int32) (v2 : Int32) (I : hI) (J : hJ) (q : Int32 × hI × hJ) (h : mM_leastOdds_B4 k4 v1 v2 I J = some q) : AW hFT cX11_leastOdds 5 (some .int) RX11 kdM d [(0, .ref 0), (1, .int v1), (2, .int v2)] 4 [] (I, J, RMm) (some (.int q.1)) (q.2.1, q.2.2, RMm) := by
  obtain ⟨d0, rfl, hd0⟩ := h_mono hd
  unfold mM_leastOdds_B4 at h
  refine a_iload_n dX11_leastOdds_4 rfl rfl ?_
  refine a_aload_n dX11_leastOdds_5 rfl rfl ?_
  refine b_getI hK_11 km_0 (i := 41) rfl fl_11_367 rfl dX11_leastOdds_6 ?_
  refine a_icmp_ge (tgt := 106) dX11_leastOdds_9 (by decide) (fun c => ?_) (fun c => ?_)
  · replace h := h_iteT c h
    refine a_iload_n dX11_leastOdds_106 rfl rfl ?_
    cases h
    exact a_iret dX11_leastOdds_107
  · replace h := h_iteF c h
    refine a_aload_n dX11_leastOdds_12 rfl rfl ?_
    refine a_iload_n dX11_leastOdds_13 rfl rfl ?_
    obtain ⟨q1, cq1, h⟩ := h_bindS h
    refine a_callV1 [] yy_X11_isInside ml_11_463 km_0 rfl (sM_isInside _ (by omega) v2 I J q1 cq1) rfl rfl (Nat.le_of_ble_eq_true rfl) dX11_leastOdds_14 ?_
    refine a_if_eq (tgt := 100) dX11_leastOdds_17 (by decide) (fun c => ?_) (fun c => ?_)
    · replace h := h_iteT c h
      refine b_iinc (lv' := [(2, .int (v2 + (1 : Int32))), (0, .ref 0), (1, .int v1)]) dX11_leastOdds_100 rfl ic_1 (by decide) rfl ?_
      refine a_goto (tgt := 4) dX11_leastOdds_103 (by decide) ?_
      refine a_sub (lv' := [(0, .ref 0), (1, .int v1), (2, .int (v2 + (1 : Int32)))]) [1, 2, 0] rfl ?_
      exact hk4 v1 (v2 + (1 : Int32)) I J _ h
    · replace h := h_iteF c h
      refine a_bipush dX11_leastOdds_20 bp_10 ?_
      refine a_aload_n dX11_leastOdds_22 rfl rfl ?_
      refine a_iload_n dX11_leastOdds_23 rfl rfl ?_
      refine a_iconst dX11_leastOdds_24 ic_0 ?_
      refine a_iconst dX11_leastOdds_25 ic_0 ?_
      obtain ⟨q2, cq2, h⟩ := h_bindS h
      refine a_callV1 [.int (10 : Int32)] yy_X11_bestPlan ml_11_547 km_0 rfl (sM_bestPlan _ (by omega) v2 (0 : Int32) (0 : Int32) I J q2 cq2) rfl rfl (Nat.le_of_ble_eq_true rfl) dX11_leastOdds_26 ?_
      refine a_imul dX11_leastOdds_29 ?_
      refine a_iload_n dX11_leastOdds_30 rfl rfl ?_
      refine a_iadd dX11_leastOdds_31 ?_
      obtain ⟨v3x2, ev3x2, h⟩ := h_letS h
      refine a_topI ev3x2 ?_
      refine a_istore_n (lv' := [(3, .int v3x2), (0, .ref 0), (1, .int v1), (2, .int v2)]) dX11_leastOdds_32 rfl (by decide) rfl ?_
      refine a_iload_n dX11_leastOdds_33 rfl rfl ?_
      refine a_iconst dX11_leastOdds_34 ic_m1 ?_
      refine a_icmp_ne (tgt := 42) dX11_leastOdds_35 (by decide) (fun c => ?_) (fun c => ?_)
      · replace h := h_iteF c h
        refine a_bipush dX11_leastOdds_42 bp_10 ?_
        refine a_aload_n dX11_leastOdds_44 rfl rfl ?_
        refine a_iload_n dX11_leastOdds_45 rfl rfl ?_
        refine a_iconst dX11_leastOdds_46 ic_0 ?_
        refine a_iconst dX11_leastOdds_47 ic_0 ?_
        obtain ⟨q4, cq4, h⟩ := h_bindS h
        refine a_callV1 [.int (10 : Int32)] yy_X11_bestPlan ml_11_547 km_0 rfl (sM_bestPlan _ (by omega) v1 (0 : Int32) (0 : Int32) q2.2.1 q2.2.2 q4 cq4) rfl rfl (Nat.le_of_ble_eq_true rfl) dX11_leastOdds_48 ?_
        refine a_imul dX11_leastOdds_51 ?_
        refine a_iload_n dX11_leastOdds_52 rfl rfl ?_
        refine a_iadd dX11_leastOdds_53 ?_
        refine a_sub (lv' := [(0, .ref 0), (1, .int v1), (2, .int v2), (3, .int v3x2)]) [1, 2, 3, 0] rfl ?_
        exact sM_leastOdds_54 (d0 + 1) (by omega) k4 hk4 v1 v2 v3x2 (((10 : Int32) * q4.1) + v1) q4.2.1 q4.2.2 _ h
      · replace h := h_iteT c h
        refine a_iconst dX11_leastOdds_38 ic_m1 ?_
        refine a_goto (tgt := 54) dX11_leastOdds_39 (by decide) ?_
        refine a_sub (lv' := [(0, .ref 0), (1, .int v1), (2, .int v2), (3, .int v3x2)]) [1, 2, 3, 0] rfl ?_
        exact sM_leastOdds_54 (d0 + 1) (by omega) k4 hk4 v1 v2 v3x2 (-1 : Int32) q2.2.1 q2.2.2 _ h
def mM_leastOdds_L4  : Nat → Int32 → Int32 → hI → hJ → Option (Int32 × hI × hJ)
  | 0 => fun _ _ _ _ => none
  | n + 1 => mM_leastOdds_B4 (mM_leastOdds_L4 n)
theorem sM_leastOdds_L4 (d : Nat) (hd : 104 + 1 ≤ d) : ∀ (n : Nat) (v1 : Int32) (v2 : Int32) (I : hI) (J : hJ) (q : Int32 × hI × hJ) (h : mM_leastOdds_L4 n v1 v2 I J = some q), AW hFT cX11_leastOdds 5 (some .int) RX11 kdM d [(0, .ref 0), (1, .int v1), (2, .int v2)] 4 [] (I, J, RMm) (some (.int q.1)) (q.2.1, q.2.2, RMm)
  | 0, _, _, _, _, q, h => by cases h
  | n + 1, v1, v2, I, J, q, h => sM_leastOdds_B4 d hd (mM_leastOdds_L4 n) (sM_leastOdds_L4 d hd n) v1 v2 I J q h
def mM_leastOdds   (I : hI) (J : hJ) : Option (Int32 × hI × hJ) :=
  mM_leastOdds_L4 hF (-1 : Int32) (0 : Int32) I J
set_option maxHeartbeats 4000000 in
theorem sM_leastOdds (d : Nat) (hd : 104 + 1 ≤ d)  (I : hI) (J : hJ) (q : Int32 × hI × hJ) (h : mM_leastOdds I J = some q) : HMet hFT yX11_leastOdds cX11_leastOdds 5 (some .int) kdM d [.ref 0] (I, J, RMm) (some (.int q.1)) (q.2.1, q.2.2, RMm) := by
  obtain ⟨d0, rfl, hd0⟩ := h_mono hd
  refine HMet.of (by decide) (Nat.le_of_ble_eq_true rfl) ?_
  show AW hFT cX11_leastOdds 5 (some .int) RX11 kdM (d0 + 1) [(0, .ref 0)] 0 [] (I, J, RMm) (some (.int q.1)) (q.2.1, q.2.2, RMm)
  unfold mM_leastOdds at h
  refine a_iconst dX11_leastOdds_0 ic_m1 ?_
  refine a_istore_n (lv' := [(1, .int (-1 : Int32)), (0, .ref 0)]) dX11_leastOdds_1 rfl (by decide) rfl ?_
  refine a_iconst dX11_leastOdds_2 ic_0 ?_
  refine a_istore_n (lv' := [(2, .int (0 : Int32)), (1, .int (-1 : Int32)), (0, .ref 0)]) dX11_leastOdds_3 rfl (by decide) rfl ?_
  refine a_sub (lv' := [(0, .ref 0), (1, .int (-1 : Int32)), (2, .int (0 : Int32))]) [2, 1, 0] rfl ?_
  exact sM_leastOdds_L4 (d0 + 1) (by omega) hF (-1 : Int32) (0 : Int32) I J _ h
/-! CoinLoopsModel.most(I)I -/
theorem dX11_most_0 : decode cX11_most 0 = .ok (.aload_n 0, 1) := by decide +kernel
theorem dX11_most_1 : decode cX11_most 1 = .ok (.iconst 0, 1) := by decide +kernel
theorem dX11_most_2 : decode cX11_most 2 = .ok (.putfield 156, 3) := by decide +kernel
theorem dX11_most_5 : decode cX11_most 5 = .ok (.aload_n 0, 1) := by decide +kernel
theorem dX11_most_6 : decode cX11_most 6 = .ok (.iload_n 1, 1) := by decide +kernel
theorem dX11_most_7 : decode cX11_most 7 = .ok (.i2l, 1) := by decide +kernel
theorem dX11_most_8 : decode cX11_most 8 = .ok (.lconst 0, 1) := by decide +kernel
theorem dX11_most_9 : decode cX11_most 9 = .ok (.ldc2_w 525, 3) := by decide +kernel
theorem dX11_most_12 : decode cX11_most 12 = .ok (.invokestatic 167, 3) := by decide +kernel
theorem dX11_most_15 : decode cX11_most 15 = .ok (.iload_n 1, 1) := by decide +kernel
theorem dX11_most_16 : decode cX11_most 16 = .ok (.i2l, 1) := by decide +kernel
theorem dX11_most_17 : decode cX11_most 17 = .ok (.ldc2_w 543, 3) := by decide +kernel
theorem dX11_most_20 : decode cX11_most 20 = .ok (.ldc2_w 671, 3) := by decide +kernel
theorem dX11_most_23 : decode cX11_most 23 = .ok (.invokestatic 167, 3) := by decide +kernel
theorem dX11_most_26 : decode cX11_most 26 = .ok (.invokevirtual 527, 3) := by decide +kernel
theorem dX11_most_29 : decode cX11_most 29 = .ok (.ifCond .eq 5, 3) := by decide +kernel
theorem dX11_most_32 : decode cX11_most 32 = .ok (.iconst (-1), 1) := by decide +kernel
theorem dX11_most_33 : decode cX11_most 33 = .ok (.ireturn, 1) := by decide +kernel
theorem dX11_most_34 : decode cX11_most 34 = .ok (.iload_n 1, 1) := by decide +kernel
theorem dX11_most_35 : decode cX11_most 35 = .ok (.tableswitch 91 0 7 #[45, 53, 58, 63, 68, 74, 80, 85], 45) := by decide +kernel
theorem dX11_most_80 : decode cX11_most 80 = .ok (.aload_n 0, 1) := by decide +kernel
theorem dX11_most_81 : decode cX11_most 81 = .ok (.invokevirtual 531, 3) := by decide +kernel
theorem dX11_most_84 : decode cX11_most 84 = .ok (.invokestatic 673, 3) := by decide +kernel
theorem dX11_most_87 : decode cX11_most 87 = .ok (.ireturn, 1) := by decide +kernel
theorem dX11_most_88 : decode cX11_most 88 = .ok (.aload_n 0, 1) := by decide +kernel
theorem dX11_most_89 : decode cX11_most 89 = .ok (.invokevirtual 678, 3) := by decide +kernel
theorem dX11_most_92 : decode cX11_most 92 = .ok (.ireturn, 1) := by decide +kernel
theorem dX11_most_93 : decode cX11_most 93 = .ok (.aload_n 0, 1) := by decide +kernel
theorem dX11_most_94 : decode cX11_most 94 = .ok (.invokevirtual 681, 3) := by decide +kernel
theorem dX11_most_97 : decode cX11_most 97 = .ok (.ireturn, 1) := by decide +kernel
theorem dX11_most_98 : decode cX11_most 98 = .ok (.aload_n 0, 1) := by decide +kernel
theorem dX11_most_99 : decode cX11_most 99 = .ok (.invokevirtual 684, 3) := by decide +kernel
theorem dX11_most_102 : decode cX11_most 102 = .ok (.ireturn, 1) := by decide +kernel
theorem dX11_most_103 : decode cX11_most 103 = .ok (.aload_n 0, 1) := by decide +kernel
theorem dX11_most_104 : decode cX11_most 104 = .ok (.iconst 1, 1) := by decide +kernel
theorem dX11_most_105 : decode cX11_most 105 = .ok (.invokevirtual 687, 3) := by decide +kernel
theorem dX11_most_108 : decode cX11_most 108 = .ok (.ireturn, 1) := by decide +kernel
theorem dX11_most_109 : decode cX11_most 109 = .ok (.aload_n 0, 1) := by decide +kernel
theorem dX11_most_110 : decode cX11_most 110 = .ok (.iconst 0, 1) := by decide +kernel
theorem dX11_most_111 : decode cX11_most 111 = .ok (.invokevirtual 687, 3) := by decide +kernel
theorem dX11_most_114 : decode cX11_most 114 = .ok (.ireturn, 1) := by decide +kernel
theorem dX11_most_115 : decode cX11_most 115 = .ok (.aload_n 0, 1) := by decide +kernel
theorem dX11_most_116 : decode cX11_most 116 = .ok (.invokevirtual 691, 3) := by decide +kernel
theorem dX11_most_119 : decode cX11_most 119 = .ok (.ireturn, 1) := by decide +kernel
theorem dX11_most_120 : decode cX11_most 120 = .ok (.aload_n 0, 1) := by decide +kernel
theorem dX11_most_121 : decode cX11_most 121 = .ok (.iconst 2, 1) := by decide +kernel
theorem dX11_most_122 : decode cX11_most 122 = .ok (.invokevirtual 668, 3) := by decide +kernel
theorem dX11_most_125 : decode cX11_most 125 = .ok (.ireturn, 1) := by decide +kernel
theorem dX11_most_126 : decode cX11_most 126 = .ok (.aload_n 0, 1) := by decide +kernel
theorem dX11_most_127 : decode cX11_most 127 = .ok (.iconst 3, 1) := by decide +kernel
theorem dX11_most_128 : decode cX11_most 128 = .ok (.invokevirtual 668, 3) := by decide +kernel
theorem dX11_most_131 : decode cX11_most 131 = .ok (.ireturn, 1) := by decide +kernel
def mM_most  (v1 : Int32) (I : hI) (J : hJ) : Option (Int32 × hI × hJ) :=
  h_let (h_u I 0 0 (0 : Int32)) fun I1 =>
  (mM_isRefused (mM_in v1.toInt64 (0 : Int64) (8 : Int64)) (mM_in v1.toInt64 (2 : Int64) (5 : Int64)) I1).bind fun q2 =>
  if q2.1 = 0 then
    (if v1 = 0 then
      ((mM_insideBits q2.2).bind fun q3 =>
      some ((mJ_bitCount q3), q2.2, J))
    else
      (if v1 = 1 then
        ((mM_mostChoices q2.2).bind fun q3 =>
        some (q3, q2.2, J))
      else
        (if v1 = 2 then
          ((mM_mostPaid q2.2 J).bind fun q3 =>
          some (q3.1, q3.2.1, q3.2.2))
        else
          (if v1 = 3 then
            ((mM_leastOdds q2.2 J).bind fun q3 =>
            some (q3.1, q3.2.1, q3.2.2))
          else
            (if v1 = 4 then
              ((mM_surely (1 : Int32) q2.2 J).bind fun q3 =>
              some (q3.1, q3.2.1, q3.2.2))
            else
              (if v1 = 5 then
                ((mM_surely (0 : Int32) q2.2 J).bind fun q3 =>
                some (q3.1, q3.2.1, q3.2.2))
              else
                (if v1 = 6 then
                  ((mM_reached q2.2).bind fun q3 =>
                  some (q3, q2.2, J))
                else
                  (if v1 = 7 then
                    ((mM_ofKind (2 : Int32) q2.2).bind fun q3 =>
                    some (q3, q2.2, J))
                  else
                    ((mM_ofKind (3 : Int32) q2.2).bind fun q3 =>
                    some (q3, q2.2, J))))))))))
  else
    some ((-1 : Int32), q2.2, J)
set_option maxHeartbeats 4000000 in
theorem sM_most (d : Nat) (hd : 106 + 1 ≤ d) (v1 : Int32) (I : hI) (J : hJ) (q : Int32 × hI × hJ) (h : mM_most v1 I J = some q) : HMet hFT yX11_most cX11_most 2 (some .int) kdM d [.ref 0, .int v1] (I, J, RMm) (some (.int q.1)) (q.2.1, q.2.2, RMm) := by
  obtain ⟨d0, rfl, hd0⟩ := h_mono hd
  refine HMet.of (by decide) (Nat.le_of_ble_eq_true rfl) ?_
  show AW hFT cX11_most 2 (some .int) RX11 kdM (d0 + 1) [(0, .ref 0), (1, .int v1)] 0 [] (I, J, RMm) (some (.int q.1)) (q.2.1, q.2.2, RMm)
  unfold mM_most at h
  refine a_aload_n dX11_most_0 rfl rfl ?_
  refine a_iconst dX11_most_1 ic_0 ?_
  refine b_putI hK_11 km_0 (i := 0) rfl fl_11_156 rfl rfl (h_NI _) dX11_most_2 ?_
  obtain ⟨I1, eI1, h⟩ := h_letS h
  refine a_memI eI1 ?_
  refine a_aload_n dX11_most_5 rfl rfl ?_
  refine a_iload_n dX11_most_6 rfl rfl ?_
  refine a_i2l dX11_most_7 ?_
  refine a_lconst dX11_most_8 lc_0 ?_
  refine a_ldc2_w cn_11_525 dX11_most_9 ?_
  refine a_callS1 [.ref 0] yy_X11_in ml_11_167 (sM_in _ (by omega) v1.toInt64 (0 : Int64) (8 : Int64) I1 J _ rfl) rfl rfl (Nat.le_of_ble_eq_true rfl) dX11_most_12 ?_
  refine a_iload_n dX11_most_15 rfl rfl ?_
  refine a_i2l dX11_most_16 ?_
  refine a_ldc2_w cn_11_543 dX11_most_17 ?_
  refine a_ldc2_w cn_11_671 dX11_most_20 ?_
  refine a_callS1 [.int (mM_in v1.toInt64 (0 : Int64) (8 : Int64)), .ref 0] yy_X11_in ml_11_167 (sM_in _ (by omega) v1.toInt64 (2 : Int64) (5 : Int64) I1 J _ rfl) rfl rfl (Nat.le_of_ble_eq_true rfl) dX11_most_23 ?_
  obtain ⟨q2, cq2, h⟩ := h_bindS h
  refine a_callV1 [] yy_X11_isRefused ml_11_527 km_0 rfl (sM_isRefused _ (by omega) (mM_in v1.toInt64 (0 : Int64) (8 : Int64)) (mM_in v1.toInt64 (2 : Int64) (5 : Int64)) I1 J q2 cq2) rfl rfl (Nat.le_of_ble_eq_true rfl) dX11_most_26 ?_
  refine a_if_eq (tgt := 34) dX11_most_29 (by decide) (fun c => ?_) (fun c => ?_)
  · replace h := h_iteT c h
    refine a_iload_n dX11_most_34 rfl rfl ?_
    by_cases n0 : v1 = 0
    · replace h := h_iteT n0 h
      refine a_topI n0 ?_
      refine a_tableIn (tgt := 80) (off := 45) dX11_most_35 (by decide) (by decide) (by decide) (by decide) ?_
      refine a_aload_n dX11_most_80 rfl rfl ?_
      obtain ⟨q3, cq3, h⟩ := h_bindS h
      refine a_callV1 [] yy_X11_insideBits ml_11_531 km_0 rfl (sM_insideBits _ (by omega)  q2.2 J q3 cq3) rfl rfl (Nat.le_of_ble_eq_true rfl) dX11_most_81 ?_
      refine a_callS1 [] yyJ_bitCount ml_11_673 (sJ_bitCount _ (Nat.zero_le _) q3) rfl rfl (Nat.le_of_ble_eq_true rfl) dX11_most_84 ?_
      cases h
      exact a_iret dX11_most_87
    · replace h := h_iteF n0 h
      by_cases n1 : v1 = 1
      · replace h := h_iteT n1 h
        refine a_topI n1 ?_
        refine a_tableIn (tgt := 88) (off := 53) dX11_most_35 (by decide) (by decide) (by decide) (by decide) ?_
        refine a_aload_n dX11_most_88 rfl rfl ?_
        obtain ⟨q3, cq3, h⟩ := h_bindS h
        refine a_callV1 [] yy_X11_mostChoices ml_11_678 km_0 rfl (sM_mostChoices _ (by omega)  q2.2 J q3 cq3) rfl rfl (Nat.le_of_ble_eq_true rfl) dX11_most_89 ?_
        cases h
        exact a_iret dX11_most_92
      · replace h := h_iteF n1 h
        by_cases n2 : v1 = 2
        · replace h := h_iteT n2 h
          refine a_topI n2 ?_
          refine a_tableIn (tgt := 93) (off := 58) dX11_most_35 (by decide) (by decide) (by decide) (by decide) ?_
          refine a_aload_n dX11_most_93 rfl rfl ?_
          obtain ⟨q3, cq3, h⟩ := h_bindS h
          refine a_callV1 [] yy_X11_mostPaid ml_11_681 km_0 rfl (sM_mostPaid _ (by omega)  q2.2 J q3 cq3) rfl rfl (Nat.le_of_ble_eq_true rfl) dX11_most_94 ?_
          cases h
          exact a_iret dX11_most_97
        · replace h := h_iteF n2 h
          by_cases n3 : v1 = 3
          · replace h := h_iteT n3 h
            refine a_topI n3 ?_
            refine a_tableIn (tgt := 98) (off := 63) dX11_most_35 (by decide) (by decide) (by decide) (by decide) ?_
            refine a_aload_n dX11_most_98 rfl rfl ?_
            obtain ⟨q3, cq3, h⟩ := h_bindS h
            refine a_callV1 [] yy_X11_leastOdds ml_11_684 km_0 rfl (sM_leastOdds _ (by omega)  q2.2 J q3 cq3) rfl rfl (Nat.le_of_ble_eq_true rfl) dX11_most_99 ?_
            cases h
            exact a_iret dX11_most_102
          · replace h := h_iteF n3 h
            by_cases n4 : v1 = 4
            · replace h := h_iteT n4 h
              refine a_topI n4 ?_
              refine a_tableIn (tgt := 103) (off := 68) dX11_most_35 (by decide) (by decide) (by decide) (by decide) ?_
              refine a_aload_n dX11_most_103 rfl rfl ?_
              refine a_iconst dX11_most_104 ic_1 ?_
              obtain ⟨q3, cq3, h⟩ := h_bindS h
              refine a_callV1 [] yy_X11_surely ml_11_687 km_0 rfl (sM_surely _ (by omega) (1 : Int32) q2.2 J q3 cq3) rfl rfl (Nat.le_of_ble_eq_true rfl) dX11_most_105 ?_
              cases h
              exact a_iret dX11_most_108
            · replace h := h_iteF n4 h
              by_cases n5 : v1 = 5
              · replace h := h_iteT n5 h
                refine a_topI n5 ?_
                refine a_tableIn (tgt := 109) (off := 74) dX11_most_35 (by decide) (by decide) (by decide) (by decide) ?_
                refine a_aload_n dX11_most_109 rfl rfl ?_
                refine a_iconst dX11_most_110 ic_0 ?_
                obtain ⟨q3, cq3, h⟩ := h_bindS h
                refine a_callV1 [] yy_X11_surely ml_11_687 km_0 rfl (sM_surely _ (by omega) (0 : Int32) q2.2 J q3 cq3) rfl rfl (Nat.le_of_ble_eq_true rfl) dX11_most_111 ?_
                cases h
                exact a_iret dX11_most_114
              · replace h := h_iteF n5 h
                by_cases n6 : v1 = 6
                · replace h := h_iteT n6 h
                  refine a_topI n6 ?_
                  refine a_tableIn (tgt := 115) (off := 80) dX11_most_35 (by decide) (by decide) (by decide) (by decide) ?_
                  refine a_aload_n dX11_most_115 rfl rfl ?_
                  obtain ⟨q3, cq3, h⟩ := h_bindS h
                  refine a_callV1 [] yy_X11_reached ml_11_691 km_0 rfl (sM_reached _ (by omega)  q2.2 J q3 cq3) rfl rfl (Nat.le_of_ble_eq_true rfl) dX11_most_116 ?_
                  cases h
                  exact a_iret dX11_most_119
                · replace h := h_iteF n6 h
                  by_cases n7 : v1 = 7
                  · replace h := h_iteT n7 h
                    refine a_topI n7 ?_
                    refine a_tableIn (tgt := 120) (off := 85) dX11_most_35 (by decide) (by decide) (by decide) (by decide) ?_
                    refine a_aload_n dX11_most_120 rfl rfl ?_
                    refine a_iconst dX11_most_121 ic_2 ?_
                    obtain ⟨q3, cq3, h⟩ := h_bindS h
                    refine a_callV1 [] yy_X11_ofKind ml_11_668 km_0 rfl (sM_ofKind _ (by omega) (2 : Int32) q2.2 J q3 cq3) rfl rfl (Nat.le_of_ble_eq_true rfl) dX11_most_122 ?_
                    cases h
                    exact a_iret dX11_most_125
                  · replace h := h_iteF n7 h
                    refine a_tableOut (tgt := 126) dX11_most_35 (h_tb8 n0 n1 n2 n3 n4 n5 n6 n7) (by decide) ?_
                    refine a_aload_n dX11_most_126 rfl rfl ?_
                    refine a_iconst dX11_most_127 ic_3 ?_
                    obtain ⟨q3, cq3, h⟩ := h_bindS h
                    refine a_callV1 [] yy_X11_ofKind ml_11_668 km_0 rfl (sM_ofKind _ (by omega) (3 : Int32) q2.2 J q3 cq3) rfl rfl (Nat.le_of_ble_eq_true rfl) dX11_most_128 ?_
                    cases h
                    exact a_iret dX11_most_131
  · replace h := h_iteF c h
    refine a_iconst dX11_most_32 ic_m1 ?_
    cases h
    exact a_iret dX11_most_33
/-! CoinLoopsModel.status(I)I -/
theorem dX11_status_0 : decode cX11_status 0 = .ok (.aload_n 0, 1) := by decide +kernel
theorem dX11_status_1 : decode cX11_status 1 = .ok (.iconst 0, 1) := by decide +kernel
theorem dX11_status_2 : decode cX11_status 2 = .ok (.putfield 156, 3) := by decide +kernel
theorem dX11_status_5 : decode cX11_status 5 = .ok (.iload_n 1, 1) := by decide +kernel
theorem dX11_status_6 : decode cX11_status 6 = .ok (.i2l, 1) := by decide +kernel
theorem dX11_status_7 : decode cX11_status 7 = .ok (.lconst 0, 1) := by decide +kernel
theorem dX11_status_8 : decode cX11_status 8 = .ok (.ldc2_w 543, 3) := by decide +kernel
theorem dX11_status_11 : decode cX11_status 11 = .ok (.invokestatic 167, 3) := by decide +kernel
theorem dX11_status_14 : decode cX11_status 14 = .ok (.ifCond .eq 12, 3) := by decide +kernel
theorem dX11_status_17 : decode cX11_status 17 = .ok (.aload_n 0, 1) := by decide +kernel
theorem dX11_status_18 : decode cX11_status 18 = .ok (.getfield 135, 3) := by decide +kernel
theorem dX11_status_21 : decode cX11_status 21 = .ok (.iload_n 1, 1) := by decide +kernel
theorem dX11_status_22 : decode cX11_status 22 = .ok (.iaload, 1) := by decide +kernel
theorem dX11_status_23 : decode cX11_status 23 = .ok (.goto 4, 3) := by decide +kernel
theorem dX11_status_26 : decode cX11_status 26 = .ok (.iconst (-1), 1) := by decide +kernel
theorem dX11_status_27 : decode cX11_status 27 = .ok (.ireturn, 1) := by decide +kernel
def mM_status  (v1 : Int32) (I : hI) : Option (Int32 × hI) :=
  h_let (h_u I 0 0 (0 : Int32)) fun I1 =>
  if (mM_in v1.toInt64 (0 : Int64) (2 : Int64)) = 0 then
    some ((-1 : Int32), I1)
  else
    (h_g (h_in v1 3) <|
    some ((I1 42 v1.toNatClampNeg), I1))
set_option maxHeartbeats 4000000 in
theorem sM_status (d : Nat) (hd : 0 + 1 ≤ d) (v1 : Int32) (I : hI) (J : hJ) (q : Int32 × hI) (h : mM_status v1 I = some q) : HMet hFT yX11_status cX11_status 2 (some .int) kdM d [.ref 0, .int v1] (I, J, RMm) (some (.int q.1)) (q.2, J, RMm) := by
  obtain ⟨d0, rfl, hd0⟩ := h_mono hd
  refine HMet.of (by decide) (Nat.le_of_ble_eq_true rfl) ?_
  show AW hFT cX11_status 2 (some .int) RX11 kdM (d0 + 1) [(0, .ref 0), (1, .int v1)] 0 [] (I, J, RMm) (some (.int q.1)) (q.2, J, RMm)
  unfold mM_status at h
  refine a_aload_n dX11_status_0 rfl rfl ?_
  refine a_iconst dX11_status_1 ic_0 ?_
  refine b_putI hK_11 km_0 (i := 0) rfl fl_11_156 rfl rfl (h_NI _) dX11_status_2 ?_
  obtain ⟨I1, eI1, h⟩ := h_letS h
  refine a_memI eI1 ?_
  refine a_iload_n dX11_status_5 rfl rfl ?_
  refine a_i2l dX11_status_6 ?_
  refine a_lconst dX11_status_7 lc_0 ?_
  refine a_ldc2_w cn_11_543 dX11_status_8 ?_
  refine a_callS1 [] yy_X11_in ml_11_167 (sM_in _ (by omega) v1.toInt64 (0 : Int64) (2 : Int64) I1 J _ rfl) rfl rfl (Nat.le_of_ble_eq_true rfl) dX11_status_11 ?_
  refine a_if_eq (tgt := 26) dX11_status_14 (by decide) (fun c => ?_) (fun c => ?_)
  · replace h := h_iteT c h
    refine a_iconst dX11_status_26 ic_m1 ?_
    cases h
    exact a_iret dX11_status_27
  · replace h := h_iteF c h
    refine a_aload_n dX11_status_17 rfl rfl ?_
    refine b_getR hK_11 km_0 (i := 81) rfl fl_11_135 rfl rmm_81 dX11_status_18 ?_
    refine a_iload_n dX11_status_21 rfl rfl ?_
    obtain ⟨g2, h⟩ := h_gS h
    refine b_iaload km_42 (h_inV g2) dX11_status_22 ?_
    refine a_goto (tgt := 27) dX11_status_23 (by decide) ?_
    cases h
    exact a_iret dX11_status_27
/-! CoinLoopsModel.count(I)I -/
theorem dX11_count_0 : decode cX11_count 0 = .ok (.aload_n 0, 1) := by decide +kernel
theorem dX11_count_1 : decode cX11_count 1 = .ok (.iconst 0, 1) := by decide +kernel
theorem dX11_count_2 : decode cX11_count 2 = .ok (.putfield 156, 3) := by decide +kernel
theorem dX11_count_5 : decode cX11_count 5 = .ok (.iload_n 1, 1) := by decide +kernel
theorem dX11_count_6 : decode cX11_count 6 = .ok (.ifCond .ne 10, 3) := by decide +kernel
theorem dX11_count_9 : decode cX11_count 9 = .ok (.aload_n 0, 1) := by decide +kernel
theorem dX11_count_10 : decode cX11_count 10 = .ok (.getfield 164, 3) := by decide +kernel
theorem dX11_count_13 : decode cX11_count 13 = .ok (.goto 4, 3) := by decide +kernel
theorem dX11_count_16 : decode cX11_count 16 = .ok (.iconst (-1), 1) := by decide +kernel
theorem dX11_count_17 : decode cX11_count 17 = .ok (.ireturn, 1) := by decide +kernel
def mM_count  (v1 : Int32) (I : hI) : Int32 × hI :=
  h_let (h_u I 0 0 (0 : Int32)) fun I1 =>
  if v1 = 0 then
    ((I1 0 2), I1)
  else
    ((-1 : Int32), I1)
set_option maxHeartbeats 4000000 in
theorem sM_count (d : Nat) (hd : 0 ≤ d) (v1 : Int32) (I : hI) (J : hJ) (q : Int32 × hI) (h : mM_count v1 I = q) : HMet hFT yX11_count cX11_count 2 (some .int) kdM d [.ref 0, .int v1] (I, J, RMm) (some (.int q.1)) (q.2, J, RMm) := by
  refine HMet.of (by decide) (Nat.le_of_ble_eq_true rfl) ?_
  show AW hFT cX11_count 2 (some .int) RX11 kdM d [(0, .ref 0), (1, .int v1)] 0 [] (I, J, RMm) (some (.int q.1)) (q.2, J, RMm)
  unfold mM_count at h
  refine a_aload_n dX11_count_0 rfl rfl ?_
  refine a_iconst dX11_count_1 ic_0 ?_
  refine b_putI hK_11 km_0 (i := 0) rfl fl_11_156 rfl rfl (h_NI _) dX11_count_2 ?_
  obtain ⟨I1, eI1, h⟩ := h_letS h
  refine a_memI eI1 ?_
  refine a_iload_n dX11_count_5 rfl rfl ?_
  refine a_if_ne (tgt := 16) dX11_count_6 (by decide) (fun c => ?_) (fun c => ?_)
  · replace h := h_iteF c h
    refine a_iconst dX11_count_16 ic_m1 ?_
    cases h
    exact a_iret dX11_count_17
  · replace h := h_iteT c h
    refine a_aload_n dX11_count_9 rfl rfl ?_
    refine b_getI hK_11 km_0 (i := 2) rfl fl_11_164 rfl dX11_count_10 ?_
    refine a_goto (tgt := 17) dX11_count_13 (by decide) ?_
    cases h
    exact a_iret dX11_count_17
