/-! CoinLoops.isRefuted(II)Z -/
theorem dX10_isRefuted_0 : decode cX10_isRefuted 0 = .ok (.iload_n 1, 1) := by decide +kernel
theorem dX10_isRefuted_1 : decode cX10_isRefuted 1 = .ok (.ifCond .lt 9, 3) := by decide +kernel
theorem dX10_isRefuted_4 : decode cX10_isRefuted 4 = .ok (.iload_n 1, 1) := by decide +kernel
theorem dX10_isRefuted_5 : decode cX10_isRefuted 5 = .ok (.bipush 10, 2) := by decide +kernel
theorem dX10_isRefuted_7 : decode cX10_isRefuted 7 = .ok (.if_icmp .lt 5, 3) := by decide +kernel
theorem dX10_isRefuted_10 : decode cX10_isRefuted 10 = .ok (.iconst 0, 1) := by decide +kernel
theorem dX10_isRefuted_11 : decode cX10_isRefuted 11 = .ok (.ireturn, 1) := by decide +kernel
theorem dX10_isRefuted_12 : decode cX10_isRefuted 12 = .ok (.aload_n 0, 1) := by decide +kernel
theorem dX10_isRefuted_13 : decode cX10_isRefuted 13 = .ok (.iload_n 1, 1) := by decide +kernel
theorem dX10_isRefuted_14 : decode cX10_isRefuted 14 = .ok (.invokevirtual 185, 3) := by decide +kernel
theorem dX10_isRefuted_17 : decode cX10_isRefuted 17 = .ok (.lstore_n 3, 1) := by decide +kernel
theorem dX10_isRefuted_18 : decode cX10_isRefuted 18 = .ok (.lload_n 3, 1) := by decide +kernel
theorem dX10_isRefuted_19 : decode cX10_isRefuted 19 = .ok (.lconst 0, 1) := by decide +kernel
theorem dX10_isRefuted_20 : decode cX10_isRefuted 20 = .ok (.lcmp, 1) := by decide +kernel
theorem dX10_isRefuted_21 : decode cX10_isRefuted 21 = .ok (.ifCond .ge 10, 3) := by decide +kernel
theorem dX10_isRefuted_24 : decode cX10_isRefuted 24 = .ok (.iload_n 2, 1) := by decide +kernel
theorem dX10_isRefuted_25 : decode cX10_isRefuted 25 = .ok (.iconst 3, 1) := by decide +kernel
theorem dX10_isRefuted_26 : decode cX10_isRefuted 26 = .ok (.if_icmp .eq 5, 3) := by decide +kernel
theorem dX10_isRefuted_29 : decode cX10_isRefuted 29 = .ok (.iconst 1, 1) := by decide +kernel
theorem dX10_isRefuted_30 : decode cX10_isRefuted 30 = .ok (.ireturn, 1) := by decide +kernel
theorem dX10_isRefuted_31 : decode cX10_isRefuted 31 = .ok (.iconst 0, 1) := by decide +kernel
theorem dX10_isRefuted_32 : decode cX10_isRefuted 32 = .ok (.istore 5, 2) := by decide +kernel
theorem dX10_isRefuted_34 : decode cX10_isRefuted 34 = .ok (.iconst 0, 1) := by decide +kernel
theorem dX10_isRefuted_35 : decode cX10_isRefuted 35 = .ok (.istore 6, 2) := by decide +kernel
theorem dX10_isRefuted_37 : decode cX10_isRefuted 37 = .ok (.iload 6, 2) := by decide +kernel
theorem dX10_isRefuted_39 : decode cX10_isRefuted 39 = .ok (.aload_n 0, 1) := by decide +kernel
theorem dX10_isRefuted_40 : decode cX10_isRefuted 40 = .ok (.getfield 26, 3) := by decide +kernel
theorem dX10_isRefuted_43 : decode cX10_isRefuted 43 = .ok (.getfield 135, 3) := by decide +kernel
theorem dX10_isRefuted_46 : decode cX10_isRefuted 46 = .ok (.iload_n 1, 1) := by decide +kernel
theorem dX10_isRefuted_47 : decode cX10_isRefuted 47 = .ok (.iaload, 1) := by decide +kernel
theorem dX10_isRefuted_48 : decode cX10_isRefuted 48 = .ok (.if_icmp .ge 24, 3) := by decide +kernel
theorem dX10_isRefuted_51 : decode cX10_isRefuted 51 = .ok (.aload_n 0, 1) := by decide +kernel
theorem dX10_isRefuted_52 : decode cX10_isRefuted 52 = .ok (.iload_n 1, 1) := by decide +kernel
theorem dX10_isRefuted_53 : decode cX10_isRefuted 53 = .ok (.iload 6, 2) := by decide +kernel
theorem dX10_isRefuted_55 : decode cX10_isRefuted 55 = .ok (.iload_n 2, 1) := by decide +kernel
theorem dX10_isRefuted_56 : decode cX10_isRefuted 56 = .ok (.lload_n 3, 1) := by decide +kernel
theorem dX10_isRefuted_57 : decode cX10_isRefuted 57 = .ok (.invokevirtual 296, 3) := by decide +kernel
theorem dX10_isRefuted_60 : decode cX10_isRefuted 60 = .ok (.ifCond .eq 6, 3) := by decide +kernel
theorem dX10_isRefuted_63 : decode cX10_isRefuted 63 = .ok (.iinc 5 1, 3) := by decide +kernel
theorem dX10_isRefuted_66 : decode cX10_isRefuted 66 = .ok (.iinc 6 1, 3) := by decide +kernel
theorem dX10_isRefuted_69 : decode cX10_isRefuted 69 = .ok (.goto (-32), 3) := by decide +kernel
theorem dX10_isRefuted_72 : decode cX10_isRefuted 72 = .ok (.iload_n 2, 1) := by decide +kernel
theorem dX10_isRefuted_73 : decode cX10_isRefuted 73 = .ok (.iconst 1, 1) := by decide +kernel
theorem dX10_isRefuted_74 : decode cX10_isRefuted 74 = .ok (.if_icmp .ne 25, 3) := by decide +kernel
theorem dX10_isRefuted_77 : decode cX10_isRefuted 77 = .ok (.iload 5, 2) := by decide +kernel
theorem dX10_isRefuted_79 : decode cX10_isRefuted 79 = .ok (.aload_n 0, 1) := by decide +kernel
theorem dX10_isRefuted_80 : decode cX10_isRefuted 80 = .ok (.getfield 26, 3) := by decide +kernel
theorem dX10_isRefuted_83 : decode cX10_isRefuted 83 = .ok (.getfield 135, 3) := by decide +kernel
theorem dX10_isRefuted_86 : decode cX10_isRefuted 86 = .ok (.iload_n 1, 1) := by decide +kernel
theorem dX10_isRefuted_87 : decode cX10_isRefuted 87 = .ok (.iaload, 1) := by decide +kernel
theorem dX10_isRefuted_88 : decode cX10_isRefuted 88 = .ok (.if_icmp .ne 7, 3) := by decide +kernel
theorem dX10_isRefuted_91 : decode cX10_isRefuted 91 = .ok (.iconst 1, 1) := by decide +kernel
theorem dX10_isRefuted_92 : decode cX10_isRefuted 92 = .ok (.goto 17, 3) := by decide +kernel
theorem dX10_isRefuted_95 : decode cX10_isRefuted 95 = .ok (.iconst 0, 1) := by decide +kernel
theorem dX10_isRefuted_96 : decode cX10_isRefuted 96 = .ok (.goto 13, 3) := by decide +kernel
theorem dX10_isRefuted_99 : decode cX10_isRefuted 99 = .ok (.iload 5, 2) := by decide +kernel
theorem dX10_isRefuted_101 : decode cX10_isRefuted 101 = .ok (.ifCond .le 7, 3) := by decide +kernel
theorem dX10_isRefuted_104 : decode cX10_isRefuted 104 = .ok (.iconst 1, 1) := by decide +kernel
theorem dX10_isRefuted_105 : decode cX10_isRefuted 105 = .ok (.goto 4, 3) := by decide +kernel
theorem dX10_isRefuted_108 : decode cX10_isRefuted 108 = .ok (.iconst 0, 1) := by decide +kernel
theorem dX10_isRefuted_109 : decode cX10_isRefuted 109 = .ok (.ireturn, 1) := by decide +kernel
def mC_isRefuted_B37 (k37 : Int32 → Int32 → Int64 → Int32 → Int32 → hI → (Bool × Bool) → Option (Int32)) (v1 : Int32) (v2 : Int32) (v3 : Int64) (v5 : Int32) (v6 : Int32) (I : hI) (B : Bool × Bool) : Option (Int32) :=
  h_g (h_in v1 10) <|
  if (I 8 v1.toNatClampNeg) ≤ v6 then
    (if v2 = (1 : Int32) then
      (h_g (h_in v1 10) <|
      if v5 = (I 8 v1.toNatClampNeg) then
        some (1 : Int32)
      else
        some (0 : Int32))
    else
      (if v5 ≤ 0 then
        some (0 : Int32)
      else
        some (1 : Int32)))
  else
    ((mC_isChoiceAgainst v1 v6 v2 v3 I B).bind fun q2 =>
    if q2 = 0 then
      k37 v1 v2 v3 v5 (v6 + (1 : Int32)) I B
    else
      k37 v1 v2 v3 (v5 + (1 : Int32)) (v6 + (1 : Int32)) I B)
set_option maxHeartbeats 4000000 in
theorem sC_isRefuted_B37 (d : Nat) (hd : 5 + 1 ≤ d) (k37 : Int32 → Int32 → Int64 → Int32 → Int32 → hI → (Bool × Bool) → Option (Int32)) (hk37 : ∀ (v1 : Int32) (v2 : Int32) (v3 : Int64) (v5 : Int32) (v6 : Int32) (I : hI) (J : hJ) (B : Bool × Bool) (q : Int32), k37 v1 v2 v3 v5 v6 I B = some q → AW hFT cX10_isRefuted 7 (some .boolean) RX10 kdC d [(0, .ref 0), (1, .int v1), (2, .int v2), (3, .long v3), (5, .int v5), (6, .int v6)] 37 [] (I, J, RM B) (some (.int q)) (I, J, RM B)) (v1 : Int32) (v2 : Int32) (v3 : Int64) (v5 : Int32) (v6 : Int32) (I : hI) (J : hJ) (B : Bool × Bool) (q : Int32) (h : mC_isRefuted_B37 k37 v1 v2 v3 v5 v6 I B = some q) : AW hFT cX10_isRefuted 7 (some .boolean) RX10 kdC d [(0, .ref 0), (1, .int v1), (2, .int v2), (3, .long v3), (5, .int v5), (6, .int v6)] 37 [] (I, J, RM B) (some (.int q)) (I, J, RM B) := by
  obtain ⟨d0, rfl, hd0⟩ := h_mono hd
  unfold mC_isRefuted_B37 at h
  refine a_iload dX10_isRefuted_37 rfl ?_
  refine a_aload_n dX10_isRefuted_39 rfl rfl ?_
  refine b_getR hK_10 kc_0 (i := 2) rfl fl_10_26 rfl (rm_0_2 B) dX10_isRefuted_40 ?_
  refine b_getR hK_7 kc_7 (i := 0) rfl fl_10_135 rfl (rm_7_0 B) dX10_isRefuted_43 ?_
  refine a_iload_n dX10_isRefuted_46 rfl rfl ?_
  obtain ⟨g1, h⟩ := h_gS h
  refine b_iaload kc_8 (h_inV g1) dX10_isRefuted_47 ?_
  refine a_icmp_ge (tgt := 72) dX10_isRefuted_48 (by decide) (fun c => ?_) (fun c => ?_)
  · replace h := h_iteT c h
    refine a_iload_n dX10_isRefuted_72 rfl rfl ?_
    refine a_iconst dX10_isRefuted_73 ic_1 ?_
    refine a_icmp_ne (tgt := 99) dX10_isRefuted_74 (by decide) (fun c => ?_) (fun c => ?_)
    · replace h := h_iteF c h
      refine a_iload dX10_isRefuted_99 rfl ?_
      refine a_if_le (tgt := 108) dX10_isRefuted_101 (by decide) (fun c => ?_) (fun c => ?_)
      · replace h := h_iteT c h
        refine a_iconst dX10_isRefuted_108 ic_0 ?_
        cases h
        exact a_zret (h_Z0.1) dX10_isRefuted_109
      · replace h := h_iteF c h
        refine a_iconst dX10_isRefuted_104 ic_1 ?_
        refine a_goto (tgt := 109) dX10_isRefuted_105 (by decide) ?_
        cases h
        exact a_zret (h_Z1.1) dX10_isRefuted_109
    · replace h := h_iteT c h
      refine a_iload dX10_isRefuted_77 rfl ?_
      refine a_aload_n dX10_isRefuted_79 rfl rfl ?_
      refine b_getR hK_10 kc_0 (i := 2) rfl fl_10_26 rfl (rm_0_2 B) dX10_isRefuted_80 ?_
      refine b_getR hK_7 kc_7 (i := 0) rfl fl_10_135 rfl (rm_7_0 B) dX10_isRefuted_83 ?_
      refine a_iload_n dX10_isRefuted_86 rfl rfl ?_
      obtain ⟨g2, h⟩ := h_gS h
      refine b_iaload kc_8 (h_inV g2) dX10_isRefuted_87 ?_
      refine a_icmp_ne (tgt := 95) dX10_isRefuted_88 (by decide) (fun c => ?_) (fun c => ?_)
      · replace h := h_iteF c h
        refine a_iconst dX10_isRefuted_95 ic_0 ?_
        refine a_goto (tgt := 109) dX10_isRefuted_96 (by decide) ?_
        cases h
        exact a_zret (h_Z0.1) dX10_isRefuted_109
      · replace h := h_iteT c h
        refine a_iconst dX10_isRefuted_91 ic_1 ?_
        refine a_goto (tgt := 109) dX10_isRefuted_92 (by decide) ?_
        cases h
        exact a_zret (h_Z1.1) dX10_isRefuted_109
  · replace h := h_iteF c h
    refine a_aload_n dX10_isRefuted_51 rfl rfl ?_
    refine a_iload_n dX10_isRefuted_52 rfl rfl ?_
    refine a_iload dX10_isRefuted_53 rfl ?_
    refine a_iload_n dX10_isRefuted_55 rfl rfl ?_
    refine a_lload_n dX10_isRefuted_56 rfl rfl ?_
    obtain ⟨q2, cq2, h⟩ := h_bindS h
    refine a_callV1 [] yy_X10_isChoiceAgainst ml_10_296 kc_0 rfl (sC_isChoiceAgainst _ (by omega) v1 v6 v2 v3 I J B q2 cq2) rfl rfl (Nat.le_of_ble_eq_true rfl) dX10_isRefuted_57 ?_
    refine a_if_eq (tgt := 66) dX10_isRefuted_60 (by decide) (fun c => ?_) (fun c => ?_)
    · replace h := h_iteT c h
      refine b_iinc (lv' := [(6, .int (v6 + (1 : Int32))), (0, .ref 0), (1, .int v1), (2, .int v2), (3, .long v3), (5, .int v5)]) dX10_isRefuted_66 rfl ic_1 (by decide) rfl ?_
      refine a_goto (tgt := 37) dX10_isRefuted_69 (by decide) ?_
      refine a_sub (lv' := [(0, .ref 0), (1, .int v1), (2, .int v2), (3, .long v3), (5, .int v5), (6, .int (v6 + (1 : Int32)))]) [1, 2, 3, 4, 5, 0] rfl ?_
      exact hk37 v1 v2 v3 v5 (v6 + (1 : Int32)) I J B _ h
    · replace h := h_iteF c h
      refine b_iinc (lv' := [(5, .int (v5 + (1 : Int32))), (0, .ref 0), (1, .int v1), (2, .int v2), (3, .long v3), (6, .int v6)]) dX10_isRefuted_63 rfl ic_1 (by decide) rfl ?_
      refine b_iinc (lv' := [(6, .int (v6 + (1 : Int32))), (5, .int (v5 + (1 : Int32))), (0, .ref 0), (1, .int v1), (2, .int v2), (3, .long v3)]) dX10_isRefuted_66 rfl ic_1 (by decide) rfl ?_
      refine a_goto (tgt := 37) dX10_isRefuted_69 (by decide) ?_
      refine a_sub (lv' := [(0, .ref 0), (1, .int v1), (2, .int v2), (3, .long v3), (5, .int (v5 + (1 : Int32))), (6, .int (v6 + (1 : Int32)))]) [2, 3, 4, 5, 1, 0] rfl ?_
      exact hk37 v1 v2 v3 (v5 + (1 : Int32)) (v6 + (1 : Int32)) I J B _ h
def mC_isRefuted_L37  : Nat → Int32 → Int32 → Int64 → Int32 → Int32 → hI → (Bool × Bool) → Option (Int32)
  | 0 => fun _ _ _ _ _ _ _ => none
  | n + 1 => mC_isRefuted_B37 (mC_isRefuted_L37 n)
theorem sC_isRefuted_L37 (d : Nat) (hd : 5 + 1 ≤ d) : ∀ (n : Nat) (v1 : Int32) (v2 : Int32) (v3 : Int64) (v5 : Int32) (v6 : Int32) (I : hI) (J : hJ) (B : Bool × Bool) (q : Int32) (h : mC_isRefuted_L37 n v1 v2 v3 v5 v6 I B = some q), AW hFT cX10_isRefuted 7 (some .boolean) RX10 kdC d [(0, .ref 0), (1, .int v1), (2, .int v2), (3, .long v3), (5, .int v5), (6, .int v6)] 37 [] (I, J, RM B) (some (.int q)) (I, J, RM B)
  | 0, _, _, _, _, _, _, _, _, q, h => by cases h
  | n + 1, v1, v2, v3, v5, v6, I, J, B, q, h => sC_isRefuted_B37 d hd (mC_isRefuted_L37 n) (sC_isRefuted_L37 d hd n) v1 v2 v3 v5 v6 I J B q h
def mC_isRefuted  (v1 : Int32) (v2 : Int32) (I : hI) (B : Bool × Bool) : Option (Int32) :=
  if v1 < 0 then
    some (0 : Int32)
  else
    (if v1 < (10 : Int32) then
      ((mC_guessTimesWhole v1 I B).bind fun q1 =>
      if (0 : Int64) ≤ q1 then
        mC_isRefuted_L37 hF v1 v2 q1 (0 : Int32) (0 : Int32) I B
      else
        (if v2 = (3 : Int32) then
          mC_isRefuted_L37 hF v1 v2 q1 (0 : Int32) (0 : Int32) I B
        else
          some (1 : Int32)))
    else
      some (0 : Int32))
set_option maxHeartbeats 4000000 in
theorem sC_isRefuted (d : Nat) (hd : 5 + 1 ≤ d) (v1 : Int32) (v2 : Int32) (I : hI) (J : hJ) (B : Bool × Bool) (q : Int32) (h : mC_isRefuted v1 v2 I B = some q) : HMet hFT yX10_isRefuted cX10_isRefuted 7 (some .boolean) kdC d [.ref 0, .int v1, .int v2] (I, J, RM B) (some (.int q)) (I, J, RM B) := by
  obtain ⟨d0, rfl, hd0⟩ := h_mono hd
  refine HMet.of (by decide) (Nat.le_of_ble_eq_true rfl) ?_
  show AW hFT cX10_isRefuted 7 (some .boolean) RX10 kdC (d0 + 1) [(0, .ref 0), (1, .int v1), (2, .int v2)] 0 [] (I, J, RM B) (some (.int q)) (I, J, RM B)
  unfold mC_isRefuted at h
  refine a_iload_n dX10_isRefuted_0 rfl rfl ?_
  refine a_if_lt (tgt := 10) dX10_isRefuted_1 (by decide) (fun c => ?_) (fun c => ?_)
  · replace h := h_iteT c h
    refine a_iconst dX10_isRefuted_10 ic_0 ?_
    cases h
    exact a_zret (h_Z0.1) dX10_isRefuted_11
  · replace h := h_iteF c h
    refine a_iload_n dX10_isRefuted_4 rfl rfl ?_
    refine a_bipush dX10_isRefuted_5 bp_10 ?_
    refine a_icmp_lt (tgt := 12) dX10_isRefuted_7 (by decide) (fun c => ?_) (fun c => ?_)
    · replace h := h_iteT c h
      refine a_aload_n dX10_isRefuted_12 rfl rfl ?_
      refine a_iload_n dX10_isRefuted_13 rfl rfl ?_
      obtain ⟨q1, cq1, h⟩ := h_bindS h
      refine a_callV1 [] yy_X10_guessTimesWhole ml_10_185 kc_0 rfl (sC_guessTimesWhole _ (by omega) v1 I J B q1 cq1) rfl rfl (Nat.le_of_ble_eq_true rfl) dX10_isRefuted_14 ?_
      refine a_lstore_n (lv' := [(3, .long q1), (0, .ref 0), (1, .int v1), (2, .int v2)]) dX10_isRefuted_17 rfl (by decide) rfl ?_
      refine a_lload_n dX10_isRefuted_18 rfl rfl ?_
      refine a_lconst dX10_isRefuted_19 lc_0 ?_
      refine a_lcmp_ge (tgt := 31) dX10_isRefuted_20 dX10_isRefuted_21 (by decide) (fun c => ?_) (fun c => ?_)
      · replace h := h_iteT c h
        refine a_iconst dX10_isRefuted_31 ic_0 ?_
        refine a_istore (lv' := [(5, .int (0 : Int32)), (3, .long q1), (0, .ref 0), (1, .int v1), (2, .int v2)]) dX10_isRefuted_32 (by decide) rfl ?_
        refine a_iconst dX10_isRefuted_34 ic_0 ?_
        refine a_istore (lv' := [(6, .int (0 : Int32)), (5, .int (0 : Int32)), (3, .long q1), (0, .ref 0), (1, .int v1), (2, .int v2)]) dX10_isRefuted_35 (by decide) rfl ?_
        refine a_sub (lv' := [(0, .ref 0), (1, .int v1), (2, .int v2), (3, .long q1), (5, .int (0 : Int32)), (6, .int (0 : Int32))]) [3, 4, 5, 2, 1, 0] rfl ?_
        exact sC_isRefuted_L37 (d0 + 1) (by omega) hF v1 v2 q1 (0 : Int32) (0 : Int32) I J B _ h
      · replace h := h_iteF c h
        refine a_iload_n dX10_isRefuted_24 rfl rfl ?_
        refine a_iconst dX10_isRefuted_25 ic_3 ?_
        refine a_icmp_eq (tgt := 31) dX10_isRefuted_26 (by decide) (fun c => ?_) (fun c => ?_)
        · replace h := h_iteT c h
          refine a_iconst dX10_isRefuted_31 ic_0 ?_
          refine a_istore (lv' := [(5, .int (0 : Int32)), (3, .long q1), (0, .ref 0), (1, .int v1), (2, .int v2)]) dX10_isRefuted_32 (by decide) rfl ?_
          refine a_iconst dX10_isRefuted_34 ic_0 ?_
          refine a_istore (lv' := [(6, .int (0 : Int32)), (5, .int (0 : Int32)), (3, .long q1), (0, .ref 0), (1, .int v1), (2, .int v2)]) dX10_isRefuted_35 (by decide) rfl ?_
          refine a_sub (lv' := [(0, .ref 0), (1, .int v1), (2, .int v2), (3, .long q1), (5, .int (0 : Int32)), (6, .int (0 : Int32))]) [3, 4, 5, 2, 1, 0] rfl ?_
          exact sC_isRefuted_L37 (d0 + 1) (by omega) hF v1 v2 q1 (0 : Int32) (0 : Int32) I J B _ h
        · replace h := h_iteF c h
          refine a_iconst dX10_isRefuted_29 ic_1 ?_
          cases h
          exact a_zret (h_Z1.1) dX10_isRefuted_30
    · replace h := h_iteF c h
      refine a_iconst dX10_isRefuted_10 ic_0 ?_
      cases h
      exact a_zret (h_Z0.1) dX10_isRefuted_11
/-! CoinLoops.refutes(I)I -/
theorem dX10_refutes_0 : decode cX10_refutes 0 = .ok (.aload_n 0, 1) := by decide +kernel
theorem dX10_refutes_1 : decode cX10_refutes 1 = .ok (.aload_n 0, 1) := by decide +kernel
theorem dX10_refutes_2 : decode cX10_refutes 2 = .ok (.getfield 90, 3) := by decide +kernel
theorem dX10_refutes_5 : decode cX10_refutes 5 = .ok (.ifCond .eq 10, 3) := by decide +kernel
theorem dX10_refutes_8 : decode cX10_refutes 8 = .ok (.aload_n 0, 1) := by decide +kernel
theorem dX10_refutes_9 : decode cX10_refutes 9 = .ok (.getfield 94, 3) := by decide +kernel
theorem dX10_refutes_12 : decode cX10_refutes 12 = .ok (.ifCond .ne 7, 3) := by decide +kernel
theorem dX10_refutes_15 : decode cX10_refutes 15 = .ok (.iconst 1, 1) := by decide +kernel
theorem dX10_refutes_16 : decode cX10_refutes 16 = .ok (.goto 4, 3) := by decide +kernel
theorem dX10_refutes_19 : decode cX10_refutes 19 = .ok (.iconst 0, 1) := by decide +kernel
theorem dX10_refutes_20 : decode cX10_refutes 20 = .ok (.iconst 0, 1) := by decide +kernel
theorem dX10_refutes_21 : decode cX10_refutes 21 = .ok (.invokevirtual 110, 3) := by decide +kernel
theorem dX10_refutes_24 : decode cX10_refutes 24 = .ok (.ifCond .ne 16, 3) := by decide +kernel
theorem dX10_refutes_27 : decode cX10_refutes 27 = .ok (.aload_n 0, 1) := by decide +kernel
theorem dX10_refutes_28 : decode cX10_refutes 28 = .ok (.iload_n 1, 1) := by decide +kernel
theorem dX10_refutes_29 : decode cX10_refutes 29 = .ok (.iconst 5, 1) := by decide +kernel
theorem dX10_refutes_30 : decode cX10_refutes 30 = .ok (.invokestatic 114, 3) := by decide +kernel
theorem dX10_refutes_33 : decode cX10_refutes 33 = .ok (.iconst 1, 1) := by decide +kernel
theorem dX10_refutes_34 : decode cX10_refutes 34 = .ok (.invokevirtual 110, 3) := by decide +kernel
theorem dX10_refutes_37 : decode cX10_refutes 37 = .ok (.ifCond .eq 6, 3) := by decide +kernel
theorem dX10_refutes_40 : decode cX10_refutes 40 = .ok (.bipush (-2), 2) := by decide +kernel
theorem dX10_refutes_42 : decode cX10_refutes 42 = .ok (.ireturn, 1) := by decide +kernel
theorem dX10_refutes_43 : decode cX10_refutes 43 = .ok (.iconst 0, 1) := by decide +kernel
theorem dX10_refutes_44 : decode cX10_refutes 44 = .ok (.istore_n 2, 1) := by decide +kernel
theorem dX10_refutes_45 : decode cX10_refutes 45 = .ok (.iload_n 2, 1) := by decide +kernel
theorem dX10_refutes_46 : decode cX10_refutes 46 = .ok (.aload_n 0, 1) := by decide +kernel
theorem dX10_refutes_47 : decode cX10_refutes 47 = .ok (.getfield 26, 3) := by decide +kernel
theorem dX10_refutes_50 : decode cX10_refutes 50 = .ok (.getfield 106, 3) := by decide +kernel
theorem dX10_refutes_53 : decode cX10_refutes 53 = .ok (.if_icmp .ge 31, 3) := by decide +kernel
theorem dX10_refutes_56 : decode cX10_refutes 56 = .ok (.aload_n 0, 1) := by decide +kernel
theorem dX10_refutes_57 : decode cX10_refutes 57 = .ok (.getfield 26, 3) := by decide +kernel
theorem dX10_refutes_60 : decode cX10_refutes 60 = .ok (.iload_n 2, 1) := by decide +kernel
theorem dX10_refutes_61 : decode cX10_refutes 61 = .ok (.invokevirtual 168, 3) := by decide +kernel
theorem dX10_refutes_64 : decode cX10_refutes 64 = .ok (.ifCond .eq 14, 3) := by decide +kernel
theorem dX10_refutes_67 : decode cX10_refutes 67 = .ok (.aload_n 0, 1) := by decide +kernel
theorem dX10_refutes_68 : decode cX10_refutes 68 = .ok (.iload_n 2, 1) := by decide +kernel
theorem dX10_refutes_69 : decode cX10_refutes 69 = .ok (.iload_n 1, 1) := by decide +kernel
theorem dX10_refutes_70 : decode cX10_refutes 70 = .ok (.invokevirtual 201, 3) := by decide +kernel
theorem dX10_refutes_73 : decode cX10_refutes 73 = .ok (.ifCond .eq 5, 3) := by decide +kernel
theorem dX10_refutes_76 : decode cX10_refutes 76 = .ok (.iload_n 2, 1) := by decide +kernel
theorem dX10_refutes_77 : decode cX10_refutes 77 = .ok (.ireturn, 1) := by decide +kernel
theorem dX10_refutes_78 : decode cX10_refutes 78 = .ok (.iinc 2 1, 3) := by decide +kernel
theorem dX10_refutes_81 : decode cX10_refutes 81 = .ok (.goto (-36), 3) := by decide +kernel
theorem dX10_refutes_84 : decode cX10_refutes 84 = .ok (.iconst (-1), 1) := by decide +kernel
theorem dX10_refutes_85 : decode cX10_refutes 85 = .ok (.ireturn, 1) := by decide +kernel
def mC_refutes_B45 (k45 : Int32 → Int32 → hI → (Bool × Bool) → Option (Int32 × hI)) (v1 : Int32) (v2 : Int32) (I : hI) (B : Bool × Bool) : Option (Int32 × hI) :=
  if (I 7 5) ≤ v2 then
    some ((-1 : Int32), I)
  else
    (if (mRo_isIn v2 I) = 0 then
      k45 v1 (v2 + (1 : Int32)) I B
    else
      ((mC_isRefuted v2 v1 I B).bind fun q1 =>
      if q1 = 0 then
        k45 v1 (v2 + (1 : Int32)) I B
      else
        some (v2, I)))
set_option maxHeartbeats 4000000 in
theorem sC_refutes_B45 (d : Nat) (hd : 6 + 1 ≤ d) (k45 : Int32 → Int32 → hI → (Bool × Bool) → Option (Int32 × hI)) (hk45 : ∀ (v1 : Int32) (v2 : Int32) (I : hI) (J : hJ) (B : Bool × Bool) (q : Int32 × hI), k45 v1 v2 I B = some q → AW hFT cX10_refutes 3 (some .int) RX10 kdC d [(0, .ref 0), (1, .int v1), (2, .int v2)] 45 [] (I, J, RM B) (some (.int q.1)) (q.2, J, RM B)) (v1 : Int32) (v2 : Int32) (I : hI) (J : hJ) (B : Bool × Bool) (q : Int32 × hI) (h : mC_refutes_B45 k45 v1 v2 I B = some q) : AW hFT cX10_refutes 3 (some .int) RX10 kdC d [(0, .ref 0), (1, .int v1), (2, .int v2)] 45 [] (I, J, RM B) (some (.int q.1)) (q.2, J, RM B) := by
  obtain ⟨d0, rfl, hd0⟩ := h_mono hd
  unfold mC_refutes_B45 at h
  refine a_iload_n dX10_refutes_45 rfl rfl ?_
  refine a_aload_n dX10_refutes_46 rfl rfl ?_
  refine b_getR hK_10 kc_0 (i := 2) rfl fl_10_26 rfl (rm_0_2 B) dX10_refutes_47 ?_
  refine b_getI hK_7 kc_7 (i := 5) rfl fl_10_106 rfl dX10_refutes_50 ?_
  refine a_icmp_ge (tgt := 84) dX10_refutes_53 (by decide) (fun c => ?_) (fun c => ?_)
  · replace h := h_iteT c h
    refine a_iconst dX10_refutes_84 ic_m1 ?_
    cases h
    exact a_iret dX10_refutes_85
  · replace h := h_iteF c h
    refine a_aload_n dX10_refutes_56 rfl rfl ?_
    refine b_getR hK_10 kc_0 (i := 2) rfl fl_10_26 rfl (rm_0_2 B) dX10_refutes_57 ?_
    refine a_iload_n dX10_refutes_60 rfl rfl ?_
    refine a_callV1 [] yy_X7_isIn ml_10_168 kc_7 rfl (sRo_isIn _ (by omega) v2 I J B _ rfl) rfl rfl (Nat.le_of_ble_eq_true rfl) dX10_refutes_61 ?_
    refine a_if_eq (tgt := 78) dX10_refutes_64 (by decide) (fun c => ?_) (fun c => ?_)
    · replace h := h_iteT c h
      refine b_iinc (lv' := [(2, .int (v2 + (1 : Int32))), (0, .ref 0), (1, .int v1)]) dX10_refutes_78 rfl ic_1 (by decide) rfl ?_
      refine a_goto (tgt := 45) dX10_refutes_81 (by decide) ?_
      refine a_sub (lv' := [(0, .ref 0), (1, .int v1), (2, .int (v2 + (1 : Int32)))]) [1, 2, 0] rfl ?_
      exact hk45 v1 (v2 + (1 : Int32)) I J B _ h
    · replace h := h_iteF c h
      refine a_aload_n dX10_refutes_67 rfl rfl ?_
      refine a_iload_n dX10_refutes_68 rfl rfl ?_
      refine a_iload_n dX10_refutes_69 rfl rfl ?_
      obtain ⟨q1, cq1, h⟩ := h_bindS h
      refine a_callV1 [] yy_X10_isRefuted ml_10_201 kc_0 rfl (sC_isRefuted _ (by omega) v2 v1 I J B q1 cq1) rfl rfl (Nat.le_of_ble_eq_true rfl) dX10_refutes_70 ?_
      refine a_if_eq (tgt := 78) dX10_refutes_73 (by decide) (fun c => ?_) (fun c => ?_)
      · replace h := h_iteT c h
        refine b_iinc (lv' := [(2, .int (v2 + (1 : Int32))), (0, .ref 0), (1, .int v1)]) dX10_refutes_78 rfl ic_1 (by decide) rfl ?_
        refine a_goto (tgt := 45) dX10_refutes_81 (by decide) ?_
        refine a_sub (lv' := [(0, .ref 0), (1, .int v1), (2, .int (v2 + (1 : Int32)))]) [1, 2, 0] rfl ?_
        exact hk45 v1 (v2 + (1 : Int32)) I J B _ h
      · replace h := h_iteF c h
        refine a_iload_n dX10_refutes_76 rfl rfl ?_
        cases h
        exact a_iret dX10_refutes_77
def mC_refutes_L45  : Nat → Int32 → Int32 → hI → (Bool × Bool) → Option (Int32 × hI)
  | 0 => fun _ _ _ _ => none
  | n + 1 => mC_refutes_B45 (mC_refutes_L45 n)
theorem sC_refutes_L45 (d : Nat) (hd : 6 + 1 ≤ d) : ∀ (n : Nat) (v1 : Int32) (v2 : Int32) (I : hI) (J : hJ) (B : Bool × Bool) (q : Int32 × hI) (h : mC_refutes_L45 n v1 v2 I B = some q), AW hFT cX10_refutes 3 (some .int) RX10 kdC d [(0, .ref 0), (1, .int v1), (2, .int v2)] 45 [] (I, J, RM B) (some (.int q.1)) (q.2, J, RM B)
  | 0, _, _, _, _, _, q, h => by cases h
  | n + 1, v1, v2, I, J, B, q, h => sC_refutes_B45 d hd (mC_refutes_L45 n) (sC_refutes_L45 d hd n) v1 v2 I J B q h
def mC_refutes_20  (v1 : Int32) (vs1 : Int32) (I : hI) (B : Bool × Bool) : Option (Int32 × hI) :=
  (mC_refuse vs1 (0 : Int32) I).bind fun q1 =>
  if q1.1 = 0 then
    ((mC_refuse (mC_isOutside v1 (5 : Int32)) (1 : Int32) q1.2).bind fun q2 =>
    if q2.1 = 0 then
      mC_refutes_L45 hF v1 (0 : Int32) q2.2 B
    else
      some ((-2 : Int32), q2.2))
  else
    some ((-2 : Int32), q1.2)
set_option maxHeartbeats 4000000 in
theorem sC_refutes_20 (d : Nat) (hd : 6 + 1 ≤ d) (v1 : Int32) (vs1 : Int32) (I : hI) (J : hJ) (B : Bool × Bool) (q : Int32 × hI) (h : mC_refutes_20 v1 vs1 I B = some q) : AW hFT cX10_refutes 3 (some .int) RX10 kdC d [(0, .ref 0), (1, .int v1)] 20 [.int vs1, .ref 0] (I, J, RM B) (some (.int q.1)) (q.2, J, RM B) := by
  obtain ⟨d0, rfl, hd0⟩ := h_mono hd
  unfold mC_refutes_20 at h
  refine a_iconst dX10_refutes_20 ic_0 ?_
  obtain ⟨q1, cq1, h⟩ := h_bindS h
  refine a_callV1 [] yy_X10_refuse ml_10_110 kc_0 rfl (sC_refuse _ (by omega) vs1 (0 : Int32) I J B q1 cq1) rfl rfl (Nat.le_of_ble_eq_true rfl) dX10_refutes_21 ?_
  refine a_if_ne (tgt := 40) dX10_refutes_24 (by decide) (fun c => ?_) (fun c => ?_)
  · replace h := h_iteF c h
    refine a_bipush dX10_refutes_40 bp_m2 ?_
    cases h
    exact a_iret dX10_refutes_42
  · replace h := h_iteT c h
    refine a_aload_n dX10_refutes_27 rfl rfl ?_
    refine a_iload_n dX10_refutes_28 rfl rfl ?_
    refine a_iconst dX10_refutes_29 ic_5 ?_
    refine a_callS1 [.ref 0] yy_X10_isOutside ml_10_114 (sC_isOutside _ (by omega) v1 (5 : Int32) q1.2 J B _ rfl) rfl rfl (Nat.le_of_ble_eq_true rfl) dX10_refutes_30 ?_
    refine a_iconst dX10_refutes_33 ic_1 ?_
    obtain ⟨q2, cq2, h⟩ := h_bindS h
    refine a_callV1 [] yy_X10_refuse ml_10_110 kc_0 rfl (sC_refuse _ (by omega) (mC_isOutside v1 (5 : Int32)) (1 : Int32) q1.2 J B q2 cq2) rfl rfl (Nat.le_of_ble_eq_true rfl) dX10_refutes_34 ?_
    refine a_if_eq (tgt := 43) dX10_refutes_37 (by decide) (fun c => ?_) (fun c => ?_)
    · replace h := h_iteT c h
      refine a_iconst dX10_refutes_43 ic_0 ?_
      refine a_istore_n (lv' := [(2, .int (0 : Int32)), (0, .ref 0), (1, .int v1)]) dX10_refutes_44 rfl (by decide) rfl ?_
      refine a_sub (lv' := [(0, .ref 0), (1, .int v1), (2, .int (0 : Int32))]) [1, 2, 0] rfl ?_
      exact sC_refutes_L45 (d0 + 1) (by omega) hF v1 (0 : Int32) q2.2 J B _ h
    · replace h := h_iteF c h
      refine a_bipush dX10_refutes_40 bp_m2 ?_
      cases h
      exact a_iret dX10_refutes_42
def mC_refutes  (v1 : Int32) (I : hI) (B : Bool × Bool) : Option (Int32 × hI) :=
  if (I 0 11) = 0 then
    mC_refutes_20 v1 (1 : Int32) I B
  else
    (if (I 0 12) = 0 then
      mC_refutes_20 v1 (1 : Int32) I B
    else
      mC_refutes_20 v1 (0 : Int32) I B)
set_option maxHeartbeats 4000000 in
theorem sC_refutes (d : Nat) (hd : 6 + 1 ≤ d) (v1 : Int32) (I : hI) (J : hJ) (B : Bool × Bool) (q : Int32 × hI) (h : mC_refutes v1 I B = some q) : HMet hFT yX10_refutes cX10_refutes 3 (some .int) kdC d [.ref 0, .int v1] (I, J, RM B) (some (.int q.1)) (q.2, J, RM B) := by
  obtain ⟨d0, rfl, hd0⟩ := h_mono hd
  refine HMet.of (by decide) (Nat.le_of_ble_eq_true rfl) ?_
  show AW hFT cX10_refutes 3 (some .int) RX10 kdC (d0 + 1) [(0, .ref 0), (1, .int v1)] 0 [] (I, J, RM B) (some (.int q.1)) (q.2, J, RM B)
  unfold mC_refutes at h
  refine a_aload_n dX10_refutes_0 rfl rfl ?_
  refine a_aload_n dX10_refutes_1 rfl rfl ?_
  refine b_getI hK_10 kc_0 (i := 11) rfl fl_10_90 rfl dX10_refutes_2 ?_
  refine a_if_eq (tgt := 15) dX10_refutes_5 (by decide) (fun c => ?_) (fun c => ?_)
  · replace h := h_iteT c h
    refine a_iconst dX10_refutes_15 ic_1 ?_
    refine a_goto (tgt := 20) dX10_refutes_16 (by decide) ?_
    exact sC_refutes_20 (d0 + 1) (by omega) v1 (1 : Int32) I J B _ h
  · replace h := h_iteF c h
    refine a_aload_n dX10_refutes_8 rfl rfl ?_
    refine b_getI hK_10 kc_0 (i := 12) rfl fl_10_94 rfl dX10_refutes_9 ?_
    refine a_if_ne (tgt := 19) dX10_refutes_12 (by decide) (fun c => ?_) (fun c => ?_)
    · replace h := h_iteF c h
      refine a_iconst dX10_refutes_19 ic_0 ?_
      exact sC_refutes_20 (d0 + 1) (by omega) v1 (0 : Int32) I J B _ h
    · replace h := h_iteT c h
      refine a_iconst dX10_refutes_15 ic_1 ?_
      refine a_goto (tgt := 20) dX10_refutes_16 (by decide) ?_
      exact sC_refutes_20 (d0 + 1) (by omega) v1 (1 : Int32) I J B _ h
/-! CoinLoops.best(II)J -/
theorem dX10_best_0 : decode cX10_best 0 = .ok (.aload_n 0, 1) := by decide +kernel
theorem dX10_best_1 : decode cX10_best 1 = .ok (.aload_n 0, 1) := by decide +kernel
theorem dX10_best_2 : decode cX10_best 2 = .ok (.getfield 90, 3) := by decide +kernel
theorem dX10_best_5 : decode cX10_best 5 = .ok (.ifCond .ne 7, 3) := by decide +kernel
theorem dX10_best_8 : decode cX10_best 8 = .ok (.iconst 1, 1) := by decide +kernel
theorem dX10_best_9 : decode cX10_best 9 = .ok (.goto 4, 3) := by decide +kernel
theorem dX10_best_12 : decode cX10_best 12 = .ok (.iconst 0, 1) := by decide +kernel
theorem dX10_best_13 : decode cX10_best 13 = .ok (.iconst 0, 1) := by decide +kernel
theorem dX10_best_14 : decode cX10_best 14 = .ok (.invokevirtual 110, 3) := by decide +kernel
theorem dX10_best_17 : decode cX10_best 17 = .ok (.ifCond .ne 50, 3) := by decide +kernel
theorem dX10_best_20 : decode cX10_best 20 = .ok (.aload_n 0, 1) := by decide +kernel
theorem dX10_best_21 : decode cX10_best 21 = .ok (.iload_n 1, 1) := by decide +kernel
theorem dX10_best_22 : decode cX10_best 22 = .ok (.aload_n 0, 1) := by decide +kernel
theorem dX10_best_23 : decode cX10_best 23 = .ok (.getfield 26, 3) := by decide +kernel
theorem dX10_best_26 : decode cX10_best 26 = .ok (.getfield 106, 3) := by decide +kernel
theorem dX10_best_29 : decode cX10_best 29 = .ok (.invokestatic 114, 3) := by decide +kernel
theorem dX10_best_32 : decode cX10_best 32 = .ok (.ifCond .ne 23, 3) := by decide +kernel
theorem dX10_best_35 : decode cX10_best 35 = .ok (.aload_n 0, 1) := by decide +kernel
theorem dX10_best_36 : decode cX10_best 36 = .ok (.getfield 26, 3) := by decide +kernel
theorem dX10_best_39 : decode cX10_best 39 = .ok (.iload_n 1, 1) := by decide +kernel
theorem dX10_best_40 : decode cX10_best 40 = .ok (.invokevirtual 168, 3) := by decide +kernel
theorem dX10_best_43 : decode cX10_best 43 = .ok (.ifCond .eq 12, 3) := by decide +kernel
theorem dX10_best_46 : decode cX10_best 46 = .ok (.iload_n 2, 1) := by decide +kernel
theorem dX10_best_47 : decode cX10_best 47 = .ok (.bipush 8, 2) := by decide +kernel
theorem dX10_best_49 : decode cX10_best 49 = .ok (.invokestatic 114, 3) := by decide +kernel
theorem dX10_best_52 : decode cX10_best 52 = .ok (.ifCond .eq 7, 3) := by decide +kernel
theorem dX10_best_55 : decode cX10_best 55 = .ok (.iconst 1, 1) := by decide +kernel
theorem dX10_best_56 : decode cX10_best 56 = .ok (.goto 4, 3) := by decide +kernel
theorem dX10_best_59 : decode cX10_best 59 = .ok (.iconst 0, 1) := by decide +kernel
theorem dX10_best_60 : decode cX10_best 60 = .ok (.iconst 1, 1) := by decide +kernel
theorem dX10_best_61 : decode cX10_best 61 = .ok (.invokevirtual 110, 3) := by decide +kernel
theorem dX10_best_64 : decode cX10_best 64 = .ok (.ifCond .eq 7, 3) := by decide +kernel
theorem dX10_best_67 : decode cX10_best 67 = .ok (.ldc2_w 183, 3) := by decide +kernel
theorem dX10_best_70 : decode cX10_best 70 = .ok (.lreturn, 1) := by decide +kernel
theorem dX10_best_71 : decode cX10_best 71 = .ok (.aload_n 0, 1) := by decide +kernel
theorem dX10_best_72 : decode cX10_best 72 = .ok (.getfield 49, 3) := by decide +kernel
theorem dX10_best_75 : decode cX10_best 75 = .ok (.invokevirtual 204, 3) := by decide +kernel
theorem dX10_best_78 : decode cX10_best 78 = .ok (.aload_n 0, 1) := by decide +kernel
theorem dX10_best_79 : decode cX10_best 79 = .ok (.getfield 49, 3) := by decide +kernel
theorem dX10_best_82 : decode cX10_best 82 = .ok (.getfield 207, 3) := by decide +kernel
theorem dX10_best_85 : decode cX10_best 85 = .ok (.ifCond .ne 7, 3) := by decide +kernel
theorem dX10_best_88 : decode cX10_best 88 = .ok (.ldc2_w 183, 3) := by decide +kernel
theorem dX10_best_91 : decode cX10_best 91 = .ok (.lreturn, 1) := by decide +kernel
theorem dX10_best_92 : decode cX10_best 92 = .ok (.aload_n 0, 1) := by decide +kernel
theorem dX10_best_93 : decode cX10_best 93 = .ok (.getfield 49, 3) := by decide +kernel
theorem dX10_best_96 : decode cX10_best 96 = .ok (.iload_n 1, 1) := by decide +kernel
theorem dX10_best_97 : decode cX10_best 97 = .ok (.iload_n 2, 1) := by decide +kernel
theorem dX10_best_98 : decode cX10_best 98 = .ok (.invokevirtual 210, 3) := by decide +kernel
theorem dX10_best_101 : decode cX10_best 101 = .ok (.lreturn, 1) := by decide +kernel
def mC_best_60  (v1 : Int32) (v2 : Int32) (vs1 : Int32) (I : hI) (J : hJ) : Option (Int64 × hI × hJ) :=
  (mC_refuse vs1 (1 : Int32) I).bind fun q1 =>
  if q1.1 = 0 then
    ((mCo_prepare q1.2 J).bind fun q2 =>
    if (q2.1 38 2) = 0 then
      some ((-1000001 : Int64), q2.1, q2.2)
    else
      ((mCo_told v1 v2 q2.1 q2.2).bind fun q3 =>
      some (q3, q2.1, q2.2)))
  else
    some ((-1000001 : Int64), q1.2, J)
set_option maxHeartbeats 4000000 in
theorem sC_best_60 (d : Nat) (hd : 5 + 1 ≤ d) (v1 : Int32) (v2 : Int32) (vs1 : Int32) (I : hI) (J : hJ) (B : Bool × Bool) (q : Int64 × hI × hJ) (h : mC_best_60 v1 v2 vs1 I J = some q) : AW hFT cX10_best 3 (some .long) RX10 kdC d [(0, .ref 0), (1, .int v1), (2, .int v2)] 60 [.int vs1, .ref 0] (I, J, RM B) (some (.long q.1)) (q.2.1, q.2.2, RM B) := by
  obtain ⟨d0, rfl, hd0⟩ := h_mono hd
  unfold mC_best_60 at h
  refine a_iconst dX10_best_60 ic_1 ?_
  obtain ⟨q1, cq1, h⟩ := h_bindS h
  refine a_callV1 [] yy_X10_refuse ml_10_110 kc_0 rfl (sC_refuse _ (by omega) vs1 (1 : Int32) I J B q1 cq1) rfl rfl (Nat.le_of_ble_eq_true rfl) dX10_best_61 ?_
  refine a_if_eq (tgt := 71) dX10_best_64 (by decide) (fun c => ?_) (fun c => ?_)
  · replace h := h_iteT c h
    refine a_aload_n dX10_best_71 rfl rfl ?_
    refine b_getR hK_10 kc_0 (i := 5) rfl fl_10_49 rfl (rm_0_5 B) dX10_best_72 ?_
    obtain ⟨q2, cq2, h⟩ := h_bindS h
    refine a_callV0 [] yy_X1_prepare ml_10_204 kc_38 rfl (sCo_prepare _ (by omega)  q1.2 J B q2 cq2) rfl rfl (Nat.le_of_ble_eq_true rfl) dX10_best_75 ?_
    refine a_aload_n dX10_best_78 rfl rfl ?_
    refine b_getR hK_10 kc_0 (i := 5) rfl fl_10_49 rfl (rm_0_5 B) dX10_best_79 ?_
    refine b_getI hK_1 kc_38 (i := 2) rfl fl_10_207 rfl dX10_best_82 ?_
    refine a_if_ne (tgt := 92) dX10_best_85 (by decide) (fun c => ?_) (fun c => ?_)
    · replace h := h_iteF c h
      refine a_aload_n dX10_best_92 rfl rfl ?_
      refine b_getR hK_10 kc_0 (i := 5) rfl fl_10_49 rfl (rm_0_5 B) dX10_best_93 ?_
      refine a_iload_n dX10_best_96 rfl rfl ?_
      refine a_iload_n dX10_best_97 rfl rfl ?_
      obtain ⟨q3, cq3, h⟩ := h_bindS h
      refine a_callV1 [] yy_X1_told ml_10_210 kc_38 rfl (sCo_told _ (by omega) v1 v2 q2.1 q2.2 B q3 cq3) rfl rfl (Nat.le_of_ble_eq_true rfl) dX10_best_98 ?_
      cases h
      exact a_lret dX10_best_101
    · replace h := h_iteT c h
      refine a_ldc2_w cn_10_183 dX10_best_88 ?_
      cases h
      exact a_lret dX10_best_91
  · replace h := h_iteF c h
    refine a_ldc2_w cn_10_183 dX10_best_67 ?_
    cases h
    exact a_lret dX10_best_70
def mC_best_13  (v1 : Int32) (v2 : Int32) (vs1 : Int32) (I : hI) (J : hJ) : Option (Int64 × hI × hJ) :=
  (mC_refuse vs1 (0 : Int32) I).bind fun q1 =>
  if q1.1 = 0 then
    (if (mC_isOutside v1 (q1.2 7 5)) = 0 then
      (if (mRo_isIn v1 q1.2) = 0 then
        mC_best_60 v1 v2 (1 : Int32) q1.2 J
      else
        (if (mC_isOutside v2 (8 : Int32)) = 0 then
          mC_best_60 v1 v2 (0 : Int32) q1.2 J
        else
          mC_best_60 v1 v2 (1 : Int32) q1.2 J))
    else
      mC_best_60 v1 v2 (1 : Int32) q1.2 J)
  else
    some ((-1000001 : Int64), q1.2, J)
set_option maxHeartbeats 4000000 in
theorem sC_best_13 (d : Nat) (hd : 5 + 1 ≤ d) (v1 : Int32) (v2 : Int32) (vs1 : Int32) (I : hI) (J : hJ) (B : Bool × Bool) (q : Int64 × hI × hJ) (h : mC_best_13 v1 v2 vs1 I J = some q) : AW hFT cX10_best 3 (some .long) RX10 kdC d [(0, .ref 0), (1, .int v1), (2, .int v2)] 13 [.int vs1, .ref 0] (I, J, RM B) (some (.long q.1)) (q.2.1, q.2.2, RM B) := by
  obtain ⟨d0, rfl, hd0⟩ := h_mono hd
  unfold mC_best_13 at h
  refine a_iconst dX10_best_13 ic_0 ?_
  obtain ⟨q1, cq1, h⟩ := h_bindS h
  refine a_callV1 [] yy_X10_refuse ml_10_110 kc_0 rfl (sC_refuse _ (by omega) vs1 (0 : Int32) I J B q1 cq1) rfl rfl (Nat.le_of_ble_eq_true rfl) dX10_best_14 ?_
  refine a_if_ne (tgt := 67) dX10_best_17 (by decide) (fun c => ?_) (fun c => ?_)
  · replace h := h_iteF c h
    refine a_ldc2_w cn_10_183 dX10_best_67 ?_
    cases h
    exact a_lret dX10_best_70
  · replace h := h_iteT c h
    refine a_aload_n dX10_best_20 rfl rfl ?_
    refine a_iload_n dX10_best_21 rfl rfl ?_
    refine a_aload_n dX10_best_22 rfl rfl ?_
    refine b_getR hK_10 kc_0 (i := 2) rfl fl_10_26 rfl (rm_0_2 B) dX10_best_23 ?_
    refine b_getI hK_7 kc_7 (i := 5) rfl fl_10_106 rfl dX10_best_26 ?_
    refine a_callS1 [.ref 0] yy_X10_isOutside ml_10_114 (sC_isOutside _ (by omega) v1 (q1.2 7 5) q1.2 J B _ rfl) rfl rfl (Nat.le_of_ble_eq_true rfl) dX10_best_29 ?_
    refine a_if_ne (tgt := 55) dX10_best_32 (by decide) (fun c => ?_) (fun c => ?_)
    · replace h := h_iteF c h
      refine a_iconst dX10_best_55 ic_1 ?_
      refine a_goto (tgt := 60) dX10_best_56 (by decide) ?_
      exact sC_best_60 (d0 + 1) (by omega) v1 v2 (1 : Int32) q1.2 J B _ h
    · replace h := h_iteT c h
      refine a_aload_n dX10_best_35 rfl rfl ?_
      refine b_getR hK_10 kc_0 (i := 2) rfl fl_10_26 rfl (rm_0_2 B) dX10_best_36 ?_
      refine a_iload_n dX10_best_39 rfl rfl ?_
      refine a_callV1 [.ref 0] yy_X7_isIn ml_10_168 kc_7 rfl (sRo_isIn _ (by omega) v1 q1.2 J B _ rfl) rfl rfl (Nat.le_of_ble_eq_true rfl) dX10_best_40 ?_
      refine a_if_eq (tgt := 55) dX10_best_43 (by decide) (fun c => ?_) (fun c => ?_)
      · replace h := h_iteT c h
        refine a_iconst dX10_best_55 ic_1 ?_
        refine a_goto (tgt := 60) dX10_best_56 (by decide) ?_
        exact sC_best_60 (d0 + 1) (by omega) v1 v2 (1 : Int32) q1.2 J B _ h
      · replace h := h_iteF c h
        refine a_iload_n dX10_best_46 rfl rfl ?_
        refine a_bipush dX10_best_47 bp_8 ?_
        refine a_callS1 [.ref 0] yy_X10_isOutside ml_10_114 (sC_isOutside _ (by omega) v2 (8 : Int32) q1.2 J B _ rfl) rfl rfl (Nat.le_of_ble_eq_true rfl) dX10_best_49 ?_
        refine a_if_eq (tgt := 59) dX10_best_52 (by decide) (fun c => ?_) (fun c => ?_)
        · replace h := h_iteT c h
          refine a_iconst dX10_best_59 ic_0 ?_
          exact sC_best_60 (d0 + 1) (by omega) v1 v2 (0 : Int32) q1.2 J B _ h
        · replace h := h_iteF c h
          refine a_iconst dX10_best_55 ic_1 ?_
          refine a_goto (tgt := 60) dX10_best_56 (by decide) ?_
          exact sC_best_60 (d0 + 1) (by omega) v1 v2 (1 : Int32) q1.2 J B _ h
def mC_best  (v1 : Int32) (v2 : Int32) (I : hI) (J : hJ) : Option (Int64 × hI × hJ) :=
  if (I 0 11) = 0 then
    mC_best_13 v1 v2 (1 : Int32) I J
  else
    mC_best_13 v1 v2 (0 : Int32) I J
set_option maxHeartbeats 4000000 in
theorem sC_best (d : Nat) (hd : 5 + 1 ≤ d) (v1 : Int32) (v2 : Int32) (I : hI) (J : hJ) (B : Bool × Bool) (q : Int64 × hI × hJ) (h : mC_best v1 v2 I J = some q) : HMet hFT yX10_best cX10_best 3 (some .long) kdC d [.ref 0, .int v1, .int v2] (I, J, RM B) (some (.long q.1)) (q.2.1, q.2.2, RM B) := by
  obtain ⟨d0, rfl, hd0⟩ := h_mono hd
  refine HMet.of (by decide) (Nat.le_of_ble_eq_true rfl) ?_
  show AW hFT cX10_best 3 (some .long) RX10 kdC (d0 + 1) [(0, .ref 0), (1, .int v1), (2, .int v2)] 0 [] (I, J, RM B) (some (.long q.1)) (q.2.1, q.2.2, RM B)
  unfold mC_best at h
  refine a_aload_n dX10_best_0 rfl rfl ?_
  refine a_aload_n dX10_best_1 rfl rfl ?_
  refine b_getI hK_10 kc_0 (i := 11) rfl fl_10_90 rfl dX10_best_2 ?_
  refine a_if_ne (tgt := 12) dX10_best_5 (by decide) (fun c => ?_) (fun c => ?_)
  · replace h := h_iteF c h
    refine a_iconst dX10_best_12 ic_0 ?_
    exact sC_best_13 (d0 + 1) (by omega) v1 v2 (0 : Int32) I J B _ h
  · replace h := h_iteT c h
    refine a_iconst dX10_best_8 ic_1 ?_
    refine a_goto (tgt := 13) dX10_best_9 (by decide) ?_
    exact sC_best_13 (d0 + 1) (by omega) v1 v2 (1 : Int32) I J B _ h
/-! CoinLoops.hasWalkEnded()Z -/
theorem dX10_hasWalkEnded_0 : decode cX10_hasWalkEnded 0 = .ok (.aload_n 0, 1) := by decide +kernel
theorem dX10_hasWalkEnded_1 : decode cX10_hasWalkEnded 1 = .ok (.getfield 19, 3) := by decide +kernel
theorem dX10_hasWalkEnded_4 : decode cX10_hasWalkEnded 4 = .ok (.getfield 235, 3) := by decide +kernel
theorem dX10_hasWalkEnded_7 : decode cX10_hasWalkEnded 7 = .ok (.ifCond .ne 34, 3) := by decide +kernel
theorem dX10_hasWalkEnded_10 : decode cX10_hasWalkEnded 10 = .ok (.aload_n 0, 1) := by decide +kernel
theorem dX10_hasWalkEnded_11 : decode cX10_hasWalkEnded 11 = .ok (.getfield 26, 3) := by decide +kernel
theorem dX10_hasWalkEnded_14 : decode cX10_hasWalkEnded 14 = .ok (.aload_n 0, 1) := by decide +kernel
theorem dX10_hasWalkEnded_15 : decode cX10_hasWalkEnded 15 = .ok (.getfield 26, 3) := by decide +kernel
theorem dX10_hasWalkEnded_18 : decode cX10_hasWalkEnded 18 = .ok (.aload_n 0, 1) := by decide +kernel
theorem dX10_hasWalkEnded_19 : decode cX10_hasWalkEnded 19 = .ok (.getfield 19, 3) := by decide +kernel
theorem dX10_hasWalkEnded_22 : decode cX10_hasWalkEnded 22 = .ok (.getfield 238, 3) := by decide +kernel
theorem dX10_hasWalkEnded_25 : decode cX10_hasWalkEnded 25 = .ok (.aload_n 0, 1) := by decide +kernel
theorem dX10_hasWalkEnded_26 : decode cX10_hasWalkEnded 26 = .ok (.getfield 19, 3) := by decide +kernel
theorem dX10_hasWalkEnded_29 : decode cX10_hasWalkEnded 29 = .ok (.getfield 241, 3) := by decide +kernel
theorem dX10_hasWalkEnded_32 : decode cX10_hasWalkEnded 32 = .ok (.invokevirtual 244, 3) := by decide +kernel
theorem dX10_hasWalkEnded_35 : decode cX10_hasWalkEnded 35 = .ok (.invokevirtual 168, 3) := by decide +kernel
theorem dX10_hasWalkEnded_38 : decode cX10_hasWalkEnded 38 = .ok (.ifCond .ne 7, 3) := by decide +kernel
theorem dX10_hasWalkEnded_41 : decode cX10_hasWalkEnded 41 = .ok (.iconst 1, 1) := by decide +kernel
theorem dX10_hasWalkEnded_42 : decode cX10_hasWalkEnded 42 = .ok (.goto 4, 3) := by decide +kernel
theorem dX10_hasWalkEnded_45 : decode cX10_hasWalkEnded 45 = .ok (.iconst 0, 1) := by decide +kernel
theorem dX10_hasWalkEnded_46 : decode cX10_hasWalkEnded 46 = .ok (.ireturn, 1) := by decide +kernel
def mC_hasWalkEnded   (I : hI) : Int32 :=
  if (I 6 4) = 0 then
    (if (mRo_isIn (mRo_stateOf (I 6 0) (I 6 1) I) I) = 0 then
      (1 : Int32)
    else
      (0 : Int32))
  else
    (1 : Int32)
set_option maxHeartbeats 4000000 in
theorem sC_hasWalkEnded (d : Nat) (hd : 0 + 1 ≤ d)  (I : hI) (J : hJ) (B : Bool × Bool) (q : Int32) (h : mC_hasWalkEnded I = q) : HMet hFT yX10_hasWalkEnded cX10_hasWalkEnded 1 (some .boolean) kdC d [.ref 0] (I, J, RM B) (some (.int q)) (I, J, RM B) := by
  obtain ⟨d0, rfl, hd0⟩ := h_mono hd
  refine HMet.of (by decide) (Nat.le_of_ble_eq_true rfl) ?_
  show AW hFT cX10_hasWalkEnded 1 (some .boolean) RX10 kdC (d0 + 1) [(0, .ref 0)] 0 [] (I, J, RM B) (some (.int q)) (I, J, RM B)
  unfold mC_hasWalkEnded at h
  refine a_aload_n dX10_hasWalkEnded_0 rfl rfl ?_
  refine b_getR hK_10 kc_0 (i := 1) rfl fl_10_19 rfl (rm_0_1 B) dX10_hasWalkEnded_1 ?_
  refine b_getI hK_9 kc_6 (i := 4) rfl fl_10_235 rfl dX10_hasWalkEnded_4 ?_
  refine a_if_ne (tgt := 41) dX10_hasWalkEnded_7 (by decide) (fun c => ?_) (fun c => ?_)
  · replace h := h_iteF c h
    refine a_iconst dX10_hasWalkEnded_41 ic_1 ?_
    refine a_goto (tgt := 46) dX10_hasWalkEnded_42 (by decide) ?_
    cases h
    exact a_zret (h_Z1.1) dX10_hasWalkEnded_46
  · replace h := h_iteT c h
    refine a_aload_n dX10_hasWalkEnded_10 rfl rfl ?_
    refine b_getR hK_10 kc_0 (i := 2) rfl fl_10_26 rfl (rm_0_2 B) dX10_hasWalkEnded_11 ?_
    refine a_aload_n dX10_hasWalkEnded_14 rfl rfl ?_
    refine b_getR hK_10 kc_0 (i := 2) rfl fl_10_26 rfl (rm_0_2 B) dX10_hasWalkEnded_15 ?_
    refine a_aload_n dX10_hasWalkEnded_18 rfl rfl ?_
    refine b_getR hK_10 kc_0 (i := 1) rfl fl_10_19 rfl (rm_0_1 B) dX10_hasWalkEnded_19 ?_
    refine b_getI hK_9 kc_6 (i := 0) rfl fl_10_238 rfl dX10_hasWalkEnded_22 ?_
    refine a_aload_n dX10_hasWalkEnded_25 rfl rfl ?_
    refine b_getR hK_10 kc_0 (i := 1) rfl fl_10_19 rfl (rm_0_1 B) dX10_hasWalkEnded_26 ?_
    refine b_getI hK_9 kc_6 (i := 1) rfl fl_10_241 rfl dX10_hasWalkEnded_29 ?_
    refine a_callV1 [.ref 7] yy_X7_stateOf ml_10_244 kc_7 rfl (sRo_stateOf _ (by omega) (I 6 0) (I 6 1) I J B _ rfl) rfl rfl (Nat.le_of_ble_eq_true rfl) dX10_hasWalkEnded_32 ?_
    refine a_callV1 [] yy_X7_isIn ml_10_168 kc_7 rfl (sRo_isIn _ (by omega) (mRo_stateOf (I 6 0) (I 6 1) I) I J B _ rfl) rfl rfl (Nat.le_of_ble_eq_true rfl) dX10_hasWalkEnded_35 ?_
    refine a_if_ne (tgt := 45) dX10_hasWalkEnded_38 (by decide) (fun c => ?_) (fun c => ?_)
    · replace h := h_iteF c h
      refine a_iconst dX10_hasWalkEnded_45 ic_0 ?_
      cases h
      exact a_zret (h_Z0.1) dX10_hasWalkEnded_46
    · replace h := h_iteT c h
      refine a_iconst dX10_hasWalkEnded_41 ic_1 ?_
      refine a_goto (tgt := 46) dX10_hasWalkEnded_42 (by decide) ?_
      cases h
      exact a_zret (h_Z1.1) dX10_hasWalkEnded_46
/-! CoinLoops.run(IIIII)I -/
theorem dX10_run_0 : decode cX10_run 0 = .ok (.aload_n 0, 1) := by decide +kernel
theorem dX10_run_1 : decode cX10_run 1 = .ok (.aload_n 0, 1) := by decide +kernel
theorem dX10_run_2 : decode cX10_run 2 = .ok (.getfield 90, 3) := by decide +kernel
theorem dX10_run_5 : decode cX10_run 5 = .ok (.ifCond .ne 7, 3) := by decide +kernel
theorem dX10_run_8 : decode cX10_run 8 = .ok (.iconst 1, 1) := by decide +kernel
theorem dX10_run_9 : decode cX10_run 9 = .ok (.goto 4, 3) := by decide +kernel
theorem dX10_run_12 : decode cX10_run 12 = .ok (.iconst 0, 1) := by decide +kernel
theorem dX10_run_13 : decode cX10_run 13 = .ok (.iconst 0, 1) := by decide +kernel
theorem dX10_run_14 : decode cX10_run 14 = .ok (.invokevirtual 110, 3) := by decide +kernel
theorem dX10_run_17 : decode cX10_run 17 = .ok (.ifCond .ne 59, 3) := by decide +kernel
theorem dX10_run_20 : decode cX10_run 20 = .ok (.aload_n 0, 1) := by decide +kernel
theorem dX10_run_21 : decode cX10_run 21 = .ok (.iload_n 1, 1) := by decide +kernel
theorem dX10_run_22 : decode cX10_run 22 = .ok (.aload_n 0, 1) := by decide +kernel
theorem dX10_run_23 : decode cX10_run 23 = .ok (.getfield 26, 3) := by decide +kernel
theorem dX10_run_26 : decode cX10_run 26 = .ok (.getfield 106, 3) := by decide +kernel
theorem dX10_run_29 : decode cX10_run 29 = .ok (.invokestatic 114, 3) := by decide +kernel
theorem dX10_run_32 : decode cX10_run 32 = .ok (.ifCond .ne 32, 3) := by decide +kernel
theorem dX10_run_35 : decode cX10_run 35 = .ok (.iload_n 2, 1) := by decide +kernel
theorem dX10_run_36 : decode cX10_run 36 = .ok (.bipush 8, 2) := by decide +kernel
theorem dX10_run_38 : decode cX10_run 38 = .ok (.invokestatic 114, 3) := by decide +kernel
theorem dX10_run_41 : decode cX10_run 41 = .ok (.ifCond .ne 23, 3) := by decide +kernel
theorem dX10_run_44 : decode cX10_run 44 = .ok (.iload 4, 2) := by decide +kernel
theorem dX10_run_46 : decode cX10_run 46 = .ok (.sipush 201, 3) := by decide +kernel
theorem dX10_run_49 : decode cX10_run 49 = .ok (.invokestatic 114, 3) := by decide +kernel
theorem dX10_run_52 : decode cX10_run 52 = .ok (.ifCond .ne 12, 3) := by decide +kernel
theorem dX10_run_55 : decode cX10_run 55 = .ok (.iload 5, 2) := by decide +kernel
theorem dX10_run_57 : decode cX10_run 57 = .ok (.iconst 5, 1) := by decide +kernel
theorem dX10_run_58 : decode cX10_run 58 = .ok (.invokestatic 114, 3) := by decide +kernel
theorem dX10_run_61 : decode cX10_run 61 = .ok (.ifCond .eq 7, 3) := by decide +kernel
theorem dX10_run_64 : decode cX10_run 64 = .ok (.iconst 1, 1) := by decide +kernel
theorem dX10_run_65 : decode cX10_run 65 = .ok (.goto 4, 3) := by decide +kernel
theorem dX10_run_68 : decode cX10_run 68 = .ok (.iconst 0, 1) := by decide +kernel
theorem dX10_run_69 : decode cX10_run 69 = .ok (.iconst 1, 1) := by decide +kernel
theorem dX10_run_70 : decode cX10_run 70 = .ok (.invokevirtual 110, 3) := by decide +kernel
theorem dX10_run_73 : decode cX10_run 73 = .ok (.ifCond .eq 5, 3) := by decide +kernel
theorem dX10_run_76 : decode cX10_run 76 = .ok (.iconst (-1), 1) := by decide +kernel
theorem dX10_run_77 : decode cX10_run 77 = .ok (.ireturn, 1) := by decide +kernel
theorem dX10_run_78 : decode cX10_run 78 = .ok (.aload_n 0, 1) := by decide +kernel
theorem dX10_run_79 : decode cX10_run 79 = .ok (.getfield 19, 3) := by decide +kernel
theorem dX10_run_82 : decode cX10_run 82 = .ok (.aload_n 0, 1) := by decide +kernel
theorem dX10_run_83 : decode cX10_run 83 = .ok (.getfield 26, 3) := by decide +kernel
theorem dX10_run_86 : decode cX10_run 86 = .ok (.iload_n 1, 1) := by decide +kernel
theorem dX10_run_87 : decode cX10_run 87 = .ok (.invokevirtual 213, 3) := by decide +kernel
theorem dX10_run_90 : decode cX10_run 90 = .ok (.aload_n 0, 1) := by decide +kernel
theorem dX10_run_91 : decode cX10_run 91 = .ok (.getfield 26, 3) := by decide +kernel
theorem dX10_run_94 : decode cX10_run 94 = .ok (.iload_n 1, 1) := by decide +kernel
theorem dX10_run_95 : decode cX10_run 95 = .ok (.invokevirtual 217, 3) := by decide +kernel
theorem dX10_run_98 : decode cX10_run 98 = .ok (.iload_n 3, 1) := by decide +kernel
theorem dX10_run_99 : decode cX10_run 99 = .ok (.invokevirtual 220, 3) := by decide +kernel
theorem dX10_run_102 : decode cX10_run 102 = .ok (.iconst 0, 1) := by decide +kernel
theorem dX10_run_103 : decode cX10_run 103 = .ok (.istore 6, 2) := by decide +kernel
theorem dX10_run_105 : decode cX10_run 105 = .ok (.iconst 0, 1) := by decide +kernel
theorem dX10_run_106 : decode cX10_run 106 = .ok (.istore 7, 2) := by decide +kernel
theorem dX10_run_108 : decode cX10_run 108 = .ok (.iload 7, 2) := by decide +kernel
theorem dX10_run_110 : decode cX10_run 110 = .ok (.iload 4, 2) := by decide +kernel
theorem dX10_run_112 : decode cX10_run 112 = .ok (.if_icmp .ge 31, 3) := by decide +kernel
theorem dX10_run_115 : decode cX10_run 115 = .ok (.aload_n 0, 1) := by decide +kernel
theorem dX10_run_116 : decode cX10_run 116 = .ok (.invokevirtual 224, 3) := by decide +kernel
theorem dX10_run_119 : decode cX10_run 119 = .ok (.ifCond .ne 24, 3) := by decide +kernel
theorem dX10_run_122 : decode cX10_run 122 = .ok (.aload_n 0, 1) := by decide +kernel
theorem dX10_run_123 : decode cX10_run 123 = .ok (.getfield 19, 3) := by decide +kernel
theorem dX10_run_126 : decode cX10_run 126 = .ok (.aload_n 0, 1) := by decide +kernel
theorem dX10_run_127 : decode cX10_run 127 = .ok (.getfield 60, 3) := by decide +kernel
theorem dX10_run_130 : decode cX10_run 130 = .ok (.iload_n 2, 1) := by decide +kernel
theorem dX10_run_131 : decode cX10_run 131 = .ok (.invokevirtual 228, 3) := by decide +kernel
theorem dX10_run_134 : decode cX10_run 134 = .ok (.iinc 6 1, 3) := by decide +kernel
theorem dX10_run_137 : decode cX10_run 137 = .ok (.iinc 7 1, 3) := by decide +kernel
theorem dX10_run_140 : decode cX10_run 140 = .ok (.goto (-32), 3) := by decide +kernel
theorem dX10_run_143 : decode cX10_run 143 = .ok (.iload 5, 2) := by decide +kernel
theorem dX10_run_145 : decode cX10_run 145 = .ok (.tableswitch 91 0 3 #[31, 44, 47, 55], 31) := by decide +kernel
theorem dX10_run_176 : decode cX10_run 176 = .ok (.aload_n 0, 1) := by decide +kernel
theorem dX10_run_177 : decode cX10_run 177 = .ok (.invokevirtual 224, 3) := by decide +kernel
theorem dX10_run_180 : decode cX10_run 180 = .ok (.ifCond .eq 7, 3) := by decide +kernel
theorem dX10_run_183 : decode cX10_run 183 = .ok (.iconst 1, 1) := by decide +kernel
theorem dX10_run_184 : decode cX10_run 184 = .ok (.goto 4, 3) := by decide +kernel
theorem dX10_run_187 : decode cX10_run 187 = .ok (.iconst 0, 1) := by decide +kernel
theorem dX10_run_188 : decode cX10_run 188 = .ok (.ireturn, 1) := by decide +kernel
theorem dX10_run_189 : decode cX10_run 189 = .ok (.iload 6, 2) := by decide +kernel
theorem dX10_run_191 : decode cX10_run 191 = .ok (.ireturn, 1) := by decide +kernel
theorem dX10_run_192 : decode cX10_run 192 = .ok (.aload_n 0, 1) := by decide +kernel
theorem dX10_run_193 : decode cX10_run 193 = .ok (.getfield 19, 3) := by decide +kernel
theorem dX10_run_196 : decode cX10_run 196 = .ok (.getfield 232, 3) := by decide +kernel
theorem dX10_run_199 : decode cX10_run 199 = .ok (.ireturn, 1) := by decide +kernel
theorem dX10_run_200 : decode cX10_run 200 = .ok (.aload_n 0, 1) := by decide +kernel
theorem dX10_run_201 : decode cX10_run 201 = .ok (.getfield 19, 3) := by decide +kernel
theorem dX10_run_204 : decode cX10_run 204 = .ok (.getfield 235, 3) := by decide +kernel
theorem dX10_run_207 : decode cX10_run 207 = .ok (.ifCond .eq 7, 3) := by decide +kernel
theorem dX10_run_210 : decode cX10_run 210 = .ok (.iconst (-1), 1) := by decide +kernel
theorem dX10_run_211 : decode cX10_run 211 = .ok (.goto 24, 3) := by decide +kernel
theorem dX10_run_214 : decode cX10_run 214 = .ok (.aload_n 0, 1) := by decide +kernel
theorem dX10_run_215 : decode cX10_run 215 = .ok (.getfield 26, 3) := by decide +kernel
theorem dX10_run_218 : decode cX10_run 218 = .ok (.aload_n 0, 1) := by decide +kernel
theorem dX10_run_219 : decode cX10_run 219 = .ok (.getfield 19, 3) := by decide +kernel
theorem dX10_run_222 : decode cX10_run 222 = .ok (.getfield 238, 3) := by decide +kernel
theorem dX10_run_225 : decode cX10_run 225 = .ok (.aload_n 0, 1) := by decide +kernel
theorem dX10_run_226 : decode cX10_run 226 = .ok (.getfield 19, 3) := by decide +kernel
theorem dX10_run_229 : decode cX10_run 229 = .ok (.getfield 241, 3) := by decide +kernel
theorem dX10_run_232 : decode cX10_run 232 = .ok (.invokevirtual 244, 3) := by decide +kernel
theorem dX10_run_235 : decode cX10_run 235 = .ok (.ireturn, 1) := by decide +kernel
theorem dX10_run_236 : decode cX10_run 236 = .ok (.aload_n 0, 1) := by decide +kernel
theorem dX10_run_237 : decode cX10_run 237 = .ok (.getfield 19, 3) := by decide +kernel
theorem dX10_run_240 : decode cX10_run 240 = .ok (.getfield 247, 3) := by decide +kernel
theorem dX10_run_243 : decode cX10_run 243 = .ok (.ireturn, 1) := by decide +kernel
def mC_run_143  (v5 : Int32) (v6 : Int32) (I : hI) (B : Bool × Bool) : Option (Int32 × hI) :=
  if v5 = 0 then
    (if (mC_hasWalkEnded I) = 0 then
      some ((0 : Int32), I)
    else
      some ((1 : Int32), I))
  else
    (if v5 = 1 then
      some (v6, I)
    else
      (if v5 = 2 then
        some ((I 6 2), I)
      else
        (if v5 = 3 then
          (if (I 6 4) = 0 then
            some ((mRo_stateOf (I 6 0) (I 6 1) I), I)
          else
            some ((-1 : Int32), I))
        else
          some ((I 6 3), I))))
set_option maxHeartbeats 4000000 in
theorem sC_run_143 (d : Nat) (hd : 3 + 1 ≤ d) (v5 : Int32) (v6 : Int32) (I : hI) (J : hJ) (B : Bool × Bool) (q : Int32 × hI) (h : mC_run_143 v5 v6 I B = some q) : AW hFT cX10_run 8 (some .int) RX10 kdC d [(0, .ref 0), (5, .int v5), (6, .int v6)] 143 [] (I, J, RM B) (some (.int q.1)) (q.2, J, RM B) := by
  obtain ⟨d0, rfl, hd0⟩ := h_mono hd
  unfold mC_run_143 at h
  refine a_iload dX10_run_143 rfl ?_
  by_cases n0 : v5 = 0
  · replace h := h_iteT n0 h
    refine a_topI n0 ?_
    refine a_tableIn (tgt := 176) (off := 31) dX10_run_145 (by decide) (by decide) (by decide) (by decide) ?_
    refine a_aload_n dX10_run_176 rfl rfl ?_
    refine a_callV1 [] yy_X10_hasWalkEnded ml_10_224 kc_0 rfl (sC_hasWalkEnded _ (by omega)  I J B _ rfl) rfl rfl (Nat.le_of_ble_eq_true rfl) dX10_run_177 ?_
    refine a_if_eq (tgt := 187) dX10_run_180 (by decide) (fun c => ?_) (fun c => ?_)
    · replace h := h_iteT c h
      refine a_iconst dX10_run_187 ic_0 ?_
      cases h
      exact a_iret dX10_run_188
    · replace h := h_iteF c h
      refine a_iconst dX10_run_183 ic_1 ?_
      refine a_goto (tgt := 188) dX10_run_184 (by decide) ?_
      cases h
      exact a_iret dX10_run_188
  · replace h := h_iteF n0 h
    by_cases n1 : v5 = 1
    · replace h := h_iteT n1 h
      refine a_topI n1 ?_
      refine a_tableIn (tgt := 189) (off := 44) dX10_run_145 (by decide) (by decide) (by decide) (by decide) ?_
      refine a_iload dX10_run_189 rfl ?_
      cases h
      exact a_iret dX10_run_191
    · replace h := h_iteF n1 h
      by_cases n2 : v5 = 2
      · replace h := h_iteT n2 h
        refine a_topI n2 ?_
        refine a_tableIn (tgt := 192) (off := 47) dX10_run_145 (by decide) (by decide) (by decide) (by decide) ?_
        refine a_aload_n dX10_run_192 rfl rfl ?_
        refine b_getR hK_10 kc_0 (i := 1) rfl fl_10_19 rfl (rm_0_1 B) dX10_run_193 ?_
        refine b_getI hK_9 kc_6 (i := 2) rfl fl_10_232 rfl dX10_run_196 ?_
        cases h
        exact a_iret dX10_run_199
      · replace h := h_iteF n2 h
        by_cases n3 : v5 = 3
        · replace h := h_iteT n3 h
          refine a_topI n3 ?_
          refine a_tableIn (tgt := 200) (off := 55) dX10_run_145 (by decide) (by decide) (by decide) (by decide) ?_
          refine a_aload_n dX10_run_200 rfl rfl ?_
          refine b_getR hK_10 kc_0 (i := 1) rfl fl_10_19 rfl (rm_0_1 B) dX10_run_201 ?_
          refine b_getI hK_9 kc_6 (i := 4) rfl fl_10_235 rfl dX10_run_204 ?_
          refine a_if_eq (tgt := 214) dX10_run_207 (by decide) (fun c => ?_) (fun c => ?_)
          · replace h := h_iteT c h
            refine a_aload_n dX10_run_214 rfl rfl ?_
            refine b_getR hK_10 kc_0 (i := 2) rfl fl_10_26 rfl (rm_0_2 B) dX10_run_215 ?_
            refine a_aload_n dX10_run_218 rfl rfl ?_
            refine b_getR hK_10 kc_0 (i := 1) rfl fl_10_19 rfl (rm_0_1 B) dX10_run_219 ?_
            refine b_getI hK_9 kc_6 (i := 0) rfl fl_10_238 rfl dX10_run_222 ?_
            refine a_aload_n dX10_run_225 rfl rfl ?_
            refine b_getR hK_10 kc_0 (i := 1) rfl fl_10_19 rfl (rm_0_1 B) dX10_run_226 ?_
            refine b_getI hK_9 kc_6 (i := 1) rfl fl_10_241 rfl dX10_run_229 ?_
            refine a_callV1 [] yy_X7_stateOf ml_10_244 kc_7 rfl (sRo_stateOf _ (by omega) (I 6 0) (I 6 1) I J B _ rfl) rfl rfl (Nat.le_of_ble_eq_true rfl) dX10_run_232 ?_
            cases h
            exact a_iret dX10_run_235
          · replace h := h_iteF c h
            refine a_iconst dX10_run_210 ic_m1 ?_
            refine a_goto (tgt := 235) dX10_run_211 (by decide) ?_
            cases h
            exact a_iret dX10_run_235
        · replace h := h_iteF n3 h
          refine a_tableOut (tgt := 236) dX10_run_145 (h_tb4 n0 n1 n2 n3) (by decide) ?_
          refine a_aload_n dX10_run_236 rfl rfl ?_
          refine b_getR hK_10 kc_0 (i := 1) rfl fl_10_19 rfl (rm_0_1 B) dX10_run_237 ?_
          refine b_getI hK_9 kc_6 (i := 3) rfl fl_10_247 rfl dX10_run_240 ?_
          cases h
          exact a_iret dX10_run_243
def mC_run_B108 (k108 : Int32 → Int32 → Int32 → Int32 → Int32 → hI → (Bool × Bool) → Option (Int32 × hI)) (v2 : Int32) (v4 : Int32) (v5 : Int32) (v6 : Int32) (v7 : Int32) (I : hI) (B : Bool × Bool) : Option (Int32 × hI) :=
  if v4 ≤ v7 then
    mC_run_143 v5 v6 I B
  else
    (if (mC_hasWalkEnded I) = 0 then
      ((mWk_goRound (h_pr B) v2 I).bind fun q1 =>
      k108 v2 v4 v5 (v6 + (1 : Int32)) (v7 + (1 : Int32)) q1 B)
    else
      mC_run_143 v5 v6 I B)
set_option maxHeartbeats 4000000 in
theorem sC_run_B108 (d : Nat) (hd : 3 + 1 ≤ d) (k108 : Int32 → Int32 → Int32 → Int32 → Int32 → hI → (Bool × Bool) → Option (Int32 × hI)) (hk108 : ∀ (v2 : Int32) (v4 : Int32) (v5 : Int32) (v6 : Int32) (v7 : Int32) (I : hI) (J : hJ) (B : Bool × Bool) (q : Int32 × hI), k108 v2 v4 v5 v6 v7 I B = some q → AW hFT cX10_run 8 (some .int) RX10 kdC d [(0, .ref 0), (2, .int v2), (4, .int v4), (5, .int v5), (6, .int v6), (7, .int v7)] 108 [] (I, J, RM B) (some (.int q.1)) (q.2, J, RM B)) (v2 : Int32) (v4 : Int32) (v5 : Int32) (v6 : Int32) (v7 : Int32) (I : hI) (J : hJ) (B : Bool × Bool) (q : Int32 × hI) (h : mC_run_B108 k108 v2 v4 v5 v6 v7 I B = some q) : AW hFT cX10_run 8 (some .int) RX10 kdC d [(0, .ref 0), (2, .int v2), (4, .int v4), (5, .int v5), (6, .int v6), (7, .int v7)] 108 [] (I, J, RM B) (some (.int q.1)) (q.2, J, RM B) := by
  obtain ⟨d0, rfl, hd0⟩ := h_mono hd
  unfold mC_run_B108 at h
  refine a_iload dX10_run_108 rfl ?_
  refine a_iload dX10_run_110 rfl ?_
  refine a_icmp_ge (tgt := 143) dX10_run_112 (by decide) (fun c => ?_) (fun c => ?_)
  · replace h := h_iteT c h
    refine a_sub (lv' := [(0, .ref 0), (5, .int v5), (6, .int v6)]) [0, 3, 4] rfl ?_
    exact sC_run_143 (d0 + 1) (by omega) v5 v6 I J B _ h
  · replace h := h_iteF c h
    refine a_aload_n dX10_run_115 rfl rfl ?_
    refine a_callV1 [] yy_X10_hasWalkEnded ml_10_224 kc_0 rfl (sC_hasWalkEnded _ (by omega)  I J B _ rfl) rfl rfl (Nat.le_of_ble_eq_true rfl) dX10_run_116 ?_
    refine a_if_ne (tgt := 143) dX10_run_119 (by decide) (fun c => ?_) (fun c => ?_)
    · replace h := h_iteF c h
      refine a_sub (lv' := [(0, .ref 0), (5, .int v5), (6, .int v6)]) [0, 3, 4] rfl ?_
      exact sC_run_143 (d0 + 1) (by omega) v5 v6 I J B _ h
    · replace h := h_iteT c h
      refine a_aload_n dX10_run_122 rfl rfl ?_
      refine b_getR hK_10 kc_0 (i := 1) rfl fl_10_19 rfl (rm_0_1 B) dX10_run_123 ?_
      refine a_aload_n dX10_run_126 rfl rfl ?_
      refine b_getR hK_10 kc_0 (i := 7) rfl fl_10_60 rfl (rm_0_7 B) dX10_run_127 ?_
      refine a_iload_n dX10_run_130 rfl rfl ?_
      obtain ⟨q1, cq1, h⟩ := h_bindS h
      refine a_callV0 [] yy_X9_goRound ml_10_228 kc_6 rfl (sWk_goRound _ (by omega) (h_pr B) (lt_pr B) v2 I J B q1 cq1) rfl rfl (Nat.le_of_ble_eq_true rfl) dX10_run_131 ?_
      refine b_iinc (lv' := [(6, .int (v6 + (1 : Int32))), (0, .ref 0), (2, .int v2), (4, .int v4), (5, .int v5), (7, .int v7)]) dX10_run_134 rfl ic_1 (by decide) rfl ?_
      refine b_iinc (lv' := [(7, .int (v7 + (1 : Int32))), (6, .int (v6 + (1 : Int32))), (0, .ref 0), (2, .int v2), (4, .int v4), (5, .int v5)]) dX10_run_137 rfl ic_1 (by decide) rfl ?_
      refine a_goto (tgt := 108) dX10_run_140 (by decide) ?_
      refine a_sub (lv' := [(0, .ref 0), (2, .int v2), (4, .int v4), (5, .int v5), (6, .int (v6 + (1 : Int32))), (7, .int (v7 + (1 : Int32)))]) [2, 3, 4, 5, 1, 0] rfl ?_
      exact hk108 v2 v4 v5 (v6 + (1 : Int32)) (v7 + (1 : Int32)) q1 J B _ h
def mC_run_L108  : Nat → Int32 → Int32 → Int32 → Int32 → Int32 → hI → (Bool × Bool) → Option (Int32 × hI)
  | 0 => fun _ _ _ _ _ _ _ => none
  | n + 1 => mC_run_B108 (mC_run_L108 n)
theorem sC_run_L108 (d : Nat) (hd : 3 + 1 ≤ d) : ∀ (n : Nat) (v2 : Int32) (v4 : Int32) (v5 : Int32) (v6 : Int32) (v7 : Int32) (I : hI) (J : hJ) (B : Bool × Bool) (q : Int32 × hI) (h : mC_run_L108 n v2 v4 v5 v6 v7 I B = some q), AW hFT cX10_run 8 (some .int) RX10 kdC d [(0, .ref 0), (2, .int v2), (4, .int v4), (5, .int v5), (6, .int v6), (7, .int v7)] 108 [] (I, J, RM B) (some (.int q.1)) (q.2, J, RM B)
  | 0, _, _, _, _, _, _, _, _, q, h => by cases h
  | n + 1, v2, v4, v5, v6, v7, I, J, B, q, h => sC_run_B108 d hd (mC_run_L108 n) (sC_run_L108 d hd n) v2 v4 v5 v6 v7 I J B q h
def mC_run_69  (v1 : Int32) (v2 : Int32) (v3 : Int32) (v4 : Int32) (v5 : Int32) (vs1 : Int32) (I : hI) (B : Bool × Bool) : Option (Int32 × hI) :=
  (mC_refuse vs1 (1 : Int32) I).bind fun q1 =>
  if q1.1 = 0 then
    ((mRo_xOf v1 q1.2).bind fun q2 =>
    (mRo_yOf v1 q1.2).bind fun q3 =>
    h_let (mWk_startDraws q2 q3 v3 q1.2) fun q4 =>
    mC_run_L108 hF v2 v4 v5 (0 : Int32) (0 : Int32) q4 B)
  else
    some ((-1 : Int32), q1.2)
set_option maxHeartbeats 4000000 in
theorem sC_run_69 (d : Nat) (hd : 3 + 1 ≤ d) (v1 : Int32) (v2 : Int32) (v3 : Int32) (v4 : Int32) (v5 : Int32) (vs1 : Int32) (I : hI) (J : hJ) (B : Bool × Bool) (q : Int32 × hI) (h : mC_run_69 v1 v2 v3 v4 v5 vs1 I B = some q) : AW hFT cX10_run 8 (some .int) RX10 kdC d [(0, .ref 0), (1, .int v1), (2, .int v2), (3, .int v3), (4, .int v4), (5, .int v5)] 69 [.int vs1, .ref 0] (I, J, RM B) (some (.int q.1)) (q.2, J, RM B) := by
  obtain ⟨d0, rfl, hd0⟩ := h_mono hd
  unfold mC_run_69 at h
  refine a_iconst dX10_run_69 ic_1 ?_
  obtain ⟨q1, cq1, h⟩ := h_bindS h
  refine a_callV1 [] yy_X10_refuse ml_10_110 kc_0 rfl (sC_refuse _ (by omega) vs1 (1 : Int32) I J B q1 cq1) rfl rfl (Nat.le_of_ble_eq_true rfl) dX10_run_70 ?_
  refine a_if_eq (tgt := 78) dX10_run_73 (by decide) (fun c => ?_) (fun c => ?_)
  · replace h := h_iteT c h
    refine a_aload_n dX10_run_78 rfl rfl ?_
    refine b_getR hK_10 kc_0 (i := 1) rfl fl_10_19 rfl (rm_0_1 B) dX10_run_79 ?_
    refine a_aload_n dX10_run_82 rfl rfl ?_
    refine b_getR hK_10 kc_0 (i := 2) rfl fl_10_26 rfl (rm_0_2 B) dX10_run_83 ?_
    refine a_iload_n dX10_run_86 rfl rfl ?_
    obtain ⟨q2, cq2, h⟩ := h_bindS h
    refine a_callV1 [.ref 6] yy_X7_xOf ml_10_213 kc_7 rfl (sRo_xOf _ (by omega) v1 q1.2 J B q2 cq2) rfl rfl (Nat.le_of_ble_eq_true rfl) dX10_run_87 ?_
    refine a_aload_n dX10_run_90 rfl rfl ?_
    refine b_getR hK_10 kc_0 (i := 2) rfl fl_10_26 rfl (rm_0_2 B) dX10_run_91 ?_
    refine a_iload_n dX10_run_94 rfl rfl ?_
    obtain ⟨q3, cq3, h⟩ := h_bindS h
    refine a_callV1 [.int q2, .ref 6] yy_X7_yOf ml_10_217 kc_7 rfl (sRo_yOf _ (by omega) v1 q1.2 J B q3 cq3) rfl rfl (Nat.le_of_ble_eq_true rfl) dX10_run_95 ?_
    refine a_iload_n dX10_run_98 rfl rfl ?_
    obtain ⟨q4, cq4, h⟩ := h_letS h
    refine a_callV0 [] yy_X9_startDraws ml_10_220 kc_6 rfl (sWk_startDraws _ (by omega) q2 q3 v3 q1.2 J B q4 cq4) rfl rfl (Nat.le_of_ble_eq_true rfl) dX10_run_99 ?_
    refine a_iconst dX10_run_102 ic_0 ?_
    refine a_istore (lv' := [(6, .int (0 : Int32)), (0, .ref 0), (1, .int v1), (2, .int v2), (3, .int v3), (4, .int v4), (5, .int v5)]) dX10_run_103 (by decide) rfl ?_
    refine a_iconst dX10_run_105 ic_0 ?_
    refine a_istore (lv' := [(7, .int (0 : Int32)), (6, .int (0 : Int32)), (0, .ref 0), (1, .int v1), (2, .int v2), (3, .int v3), (4, .int v4), (5, .int v5)]) dX10_run_106 (by decide) rfl ?_
    refine a_sub (lv' := [(0, .ref 0), (2, .int v2), (4, .int v4), (5, .int v5), (6, .int (0 : Int32)), (7, .int (0 : Int32))]) [2, 4, 6, 7, 1, 0] rfl ?_
    exact sC_run_L108 (d0 + 1) (by omega) hF v2 v4 v5 (0 : Int32) (0 : Int32) q4 J B _ h
  · replace h := h_iteF c h
    refine a_iconst dX10_run_76 ic_m1 ?_
    cases h
    exact a_iret dX10_run_77
def mC_run_13  (v1 : Int32) (v2 : Int32) (v3 : Int32) (v4 : Int32) (v5 : Int32) (vs1 : Int32) (I : hI) (B : Bool × Bool) : Option (Int32 × hI) :=
  (mC_refuse vs1 (0 : Int32) I).bind fun q1 =>
  if q1.1 = 0 then
    (if (mC_isOutside v1 (q1.2 7 5)) = 0 then
      (if (mC_isOutside v2 (8 : Int32)) = 0 then
        (if (mC_isOutside v4 (201 : Int32)) = 0 then
          (if (mC_isOutside v5 (5 : Int32)) = 0 then
            mC_run_69 v1 v2 v3 v4 v5 (0 : Int32) q1.2 B
          else
            mC_run_69 v1 v2 v3 v4 v5 (1 : Int32) q1.2 B)
        else
          mC_run_69 v1 v2 v3 v4 v5 (1 : Int32) q1.2 B)
      else
        mC_run_69 v1 v2 v3 v4 v5 (1 : Int32) q1.2 B)
    else
      mC_run_69 v1 v2 v3 v4 v5 (1 : Int32) q1.2 B)
  else
    some ((-1 : Int32), q1.2)
set_option maxHeartbeats 4000000 in
theorem sC_run_13 (d : Nat) (hd : 3 + 1 ≤ d) (v1 : Int32) (v2 : Int32) (v3 : Int32) (v4 : Int32) (v5 : Int32) (vs1 : Int32) (I : hI) (J : hJ) (B : Bool × Bool) (q : Int32 × hI) (h : mC_run_13 v1 v2 v3 v4 v5 vs1 I B = some q) : AW hFT cX10_run 8 (some .int) RX10 kdC d [(0, .ref 0), (1, .int v1), (2, .int v2), (3, .int v3), (4, .int v4), (5, .int v5)] 13 [.int vs1, .ref 0] (I, J, RM B) (some (.int q.1)) (q.2, J, RM B) := by
  obtain ⟨d0, rfl, hd0⟩ := h_mono hd
  unfold mC_run_13 at h
  refine a_iconst dX10_run_13 ic_0 ?_
  obtain ⟨q1, cq1, h⟩ := h_bindS h
  refine a_callV1 [] yy_X10_refuse ml_10_110 kc_0 rfl (sC_refuse _ (by omega) vs1 (0 : Int32) I J B q1 cq1) rfl rfl (Nat.le_of_ble_eq_true rfl) dX10_run_14 ?_
  refine a_if_ne (tgt := 76) dX10_run_17 (by decide) (fun c => ?_) (fun c => ?_)
  · replace h := h_iteF c h
    refine a_iconst dX10_run_76 ic_m1 ?_
    cases h
    exact a_iret dX10_run_77
  · replace h := h_iteT c h
    refine a_aload_n dX10_run_20 rfl rfl ?_
    refine a_iload_n dX10_run_21 rfl rfl ?_
    refine a_aload_n dX10_run_22 rfl rfl ?_
    refine b_getR hK_10 kc_0 (i := 2) rfl fl_10_26 rfl (rm_0_2 B) dX10_run_23 ?_
    refine b_getI hK_7 kc_7 (i := 5) rfl fl_10_106 rfl dX10_run_26 ?_
    refine a_callS1 [.ref 0] yy_X10_isOutside ml_10_114 (sC_isOutside _ (by omega) v1 (q1.2 7 5) q1.2 J B _ rfl) rfl rfl (Nat.le_of_ble_eq_true rfl) dX10_run_29 ?_
    refine a_if_ne (tgt := 64) dX10_run_32 (by decide) (fun c => ?_) (fun c => ?_)
    · replace h := h_iteF c h
      refine a_iconst dX10_run_64 ic_1 ?_
      refine a_goto (tgt := 69) dX10_run_65 (by decide) ?_
      exact sC_run_69 (d0 + 1) (by omega) v1 v2 v3 v4 v5 (1 : Int32) q1.2 J B _ h
    · replace h := h_iteT c h
      refine a_iload_n dX10_run_35 rfl rfl ?_
      refine a_bipush dX10_run_36 bp_8 ?_
      refine a_callS1 [.ref 0] yy_X10_isOutside ml_10_114 (sC_isOutside _ (by omega) v2 (8 : Int32) q1.2 J B _ rfl) rfl rfl (Nat.le_of_ble_eq_true rfl) dX10_run_38 ?_
      refine a_if_ne (tgt := 64) dX10_run_41 (by decide) (fun c => ?_) (fun c => ?_)
      · replace h := h_iteF c h
        refine a_iconst dX10_run_64 ic_1 ?_
        refine a_goto (tgt := 69) dX10_run_65 (by decide) ?_
        exact sC_run_69 (d0 + 1) (by omega) v1 v2 v3 v4 v5 (1 : Int32) q1.2 J B _ h
      · replace h := h_iteT c h
        refine a_iload dX10_run_44 rfl ?_
        refine a_sipush dX10_run_46 sq_201 ?_
        refine a_callS1 [.ref 0] yy_X10_isOutside ml_10_114 (sC_isOutside _ (by omega) v4 (201 : Int32) q1.2 J B _ rfl) rfl rfl (Nat.le_of_ble_eq_true rfl) dX10_run_49 ?_
        refine a_if_ne (tgt := 64) dX10_run_52 (by decide) (fun c => ?_) (fun c => ?_)
        · replace h := h_iteF c h
          refine a_iconst dX10_run_64 ic_1 ?_
          refine a_goto (tgt := 69) dX10_run_65 (by decide) ?_
          exact sC_run_69 (d0 + 1) (by omega) v1 v2 v3 v4 v5 (1 : Int32) q1.2 J B _ h
        · replace h := h_iteT c h
          refine a_iload dX10_run_55 rfl ?_
          refine a_iconst dX10_run_57 ic_5 ?_
          refine a_callS1 [.ref 0] yy_X10_isOutside ml_10_114 (sC_isOutside _ (by omega) v5 (5 : Int32) q1.2 J B _ rfl) rfl rfl (Nat.le_of_ble_eq_true rfl) dX10_run_58 ?_
          refine a_if_eq (tgt := 68) dX10_run_61 (by decide) (fun c => ?_) (fun c => ?_)
          · replace h := h_iteT c h
            refine a_iconst dX10_run_68 ic_0 ?_
            exact sC_run_69 (d0 + 1) (by omega) v1 v2 v3 v4 v5 (0 : Int32) q1.2 J B _ h
          · replace h := h_iteF c h
            refine a_iconst dX10_run_64 ic_1 ?_
            refine a_goto (tgt := 69) dX10_run_65 (by decide) ?_
            exact sC_run_69 (d0 + 1) (by omega) v1 v2 v3 v4 v5 (1 : Int32) q1.2 J B _ h
def mC_run  (v1 : Int32) (v2 : Int32) (v3 : Int32) (v4 : Int32) (v5 : Int32) (I : hI) (B : Bool × Bool) : Option (Int32 × hI) :=
  if (I 0 11) = 0 then
    mC_run_13 v1 v2 v3 v4 v5 (1 : Int32) I B
  else
    mC_run_13 v1 v2 v3 v4 v5 (0 : Int32) I B
set_option maxHeartbeats 4000000 in
theorem sC_run (d : Nat) (hd : 3 + 1 ≤ d) (v1 : Int32) (v2 : Int32) (v3 : Int32) (v4 : Int32) (v5 : Int32) (I : hI) (J : hJ) (B : Bool × Bool) (q : Int32 × hI) (h : mC_run v1 v2 v3 v4 v5 I B = some q) : HMet hFT yX10_run cX10_run 8 (some .int) kdC d [.ref 0, .int v1, .int v2, .int v3, .int v4, .int v5] (I, J, RM B) (some (.int q.1)) (q.2, J, RM B) := by
  obtain ⟨d0, rfl, hd0⟩ := h_mono hd
  refine HMet.of (by decide) (Nat.le_of_ble_eq_true rfl) ?_
  show AW hFT cX10_run 8 (some .int) RX10 kdC (d0 + 1) [(0, .ref 0), (1, .int v1), (2, .int v2), (3, .int v3), (4, .int v4), (5, .int v5)] 0 [] (I, J, RM B) (some (.int q.1)) (q.2, J, RM B)
  unfold mC_run at h
  refine a_aload_n dX10_run_0 rfl rfl ?_
  refine a_aload_n dX10_run_1 rfl rfl ?_
  refine b_getI hK_10 kc_0 (i := 11) rfl fl_10_90 rfl dX10_run_2 ?_
  refine a_if_ne (tgt := 12) dX10_run_5 (by decide) (fun c => ?_) (fun c => ?_)
  · replace h := h_iteF c h
    refine a_iconst dX10_run_12 ic_0 ?_
    exact sC_run_13 (d0 + 1) (by omega) v1 v2 v3 v4 v5 (0 : Int32) I J B _ h
  · replace h := h_iteT c h
    refine a_iconst dX10_run_8 ic_1 ?_
    refine a_goto (tgt := 13) dX10_run_9 (by decide) ?_
    exact sC_run_13 (d0 + 1) (by omega) v1 v2 v3 v4 v5 (1 : Int32) I J B _ h
/-! CoinLoops.bind(II)I -/
theorem dX10_bind_0 : decode cX10_bind 0 = .ok (.aload_n 0, 1) := by decide +kernel
theorem dX10_bind_1 : decode cX10_bind 1 = .ok (.aload_n 0, 1) := by decide +kernel
theorem dX10_bind_2 : decode cX10_bind 2 = .ok (.getfield 90, 3) := by decide +kernel
theorem dX10_bind_5 : decode cX10_bind 5 = .ok (.ifCond .ne 7, 3) := by decide +kernel
theorem dX10_bind_8 : decode cX10_bind 8 = .ok (.iconst 1, 1) := by decide +kernel
theorem dX10_bind_9 : decode cX10_bind 9 = .ok (.goto 4, 3) := by decide +kernel
theorem dX10_bind_12 : decode cX10_bind 12 = .ok (.iconst 0, 1) := by decide +kernel
theorem dX10_bind_13 : decode cX10_bind 13 = .ok (.iconst 0, 1) := by decide +kernel
theorem dX10_bind_14 : decode cX10_bind 14 = .ok (.invokevirtual 110, 3) := by decide +kernel
theorem dX10_bind_17 : decode cX10_bind 17 = .ok (.ifCond .ne 40, 3) := by decide +kernel
theorem dX10_bind_20 : decode cX10_bind 20 = .ok (.aload_n 0, 1) := by decide +kernel
theorem dX10_bind_21 : decode cX10_bind 21 = .ok (.iload_n 1, 1) := by decide +kernel
theorem dX10_bind_22 : decode cX10_bind 22 = .ok (.aload_n 0, 1) := by decide +kernel
theorem dX10_bind_23 : decode cX10_bind 23 = .ok (.getfield 60, 3) := by decide +kernel
theorem dX10_bind_26 : decode cX10_bind 26 = .ok (.getfield 130, 3) := by decide +kernel
theorem dX10_bind_29 : decode cX10_bind 29 = .ok (.invokestatic 114, 3) := by decide +kernel
theorem dX10_bind_32 : decode cX10_bind 32 = .ok (.ifCond .ne 13, 3) := by decide +kernel
theorem dX10_bind_35 : decode cX10_bind 35 = .ok (.iload_n 2, 1) := by decide +kernel
theorem dX10_bind_36 : decode cX10_bind 36 = .ok (.iconst (-1), 1) := by decide +kernel
theorem dX10_bind_37 : decode cX10_bind 37 = .ok (.if_icmp .lt 8, 3) := by decide +kernel
theorem dX10_bind_40 : decode cX10_bind 40 = .ok (.iload_n 2, 1) := by decide +kernel
theorem dX10_bind_41 : decode cX10_bind 41 = .ok (.iconst 1, 1) := by decide +kernel
theorem dX10_bind_42 : decode cX10_bind 42 = .ok (.if_icmp .le 7, 3) := by decide +kernel
theorem dX10_bind_45 : decode cX10_bind 45 = .ok (.iconst 1, 1) := by decide +kernel
theorem dX10_bind_46 : decode cX10_bind 46 = .ok (.goto 4, 3) := by decide +kernel
theorem dX10_bind_49 : decode cX10_bind 49 = .ok (.iconst 0, 1) := by decide +kernel
theorem dX10_bind_50 : decode cX10_bind 50 = .ok (.iconst 1, 1) := by decide +kernel
theorem dX10_bind_51 : decode cX10_bind 51 = .ok (.invokevirtual 110, 3) := by decide +kernel
theorem dX10_bind_54 : decode cX10_bind 54 = .ok (.ifCond .eq 5, 3) := by decide +kernel
theorem dX10_bind_57 : decode cX10_bind 57 = .ok (.iconst (-1), 1) := by decide +kernel
theorem dX10_bind_58 : decode cX10_bind 58 = .ok (.ireturn, 1) := by decide +kernel
theorem dX10_bind_59 : decode cX10_bind 59 = .ok (.iconst 1, 1) := by decide +kernel
theorem dX10_bind_60 : decode cX10_bind 60 = .ok (.iload_n 1, 1) := by decide +kernel
theorem dX10_bind_61 : decode cX10_bind 61 = .ok (.ishl, 1) := by decide +kernel
theorem dX10_bind_62 : decode cX10_bind 62 = .ok (.istore_n 3, 1) := by decide +kernel
theorem dX10_bind_63 : decode cX10_bind 63 = .ok (.aload_n 0, 1) := by decide +kernel
theorem dX10_bind_64 : decode cX10_bind 64 = .ok (.iload_n 2, 1) := by decide +kernel
theorem dX10_bind_65 : decode cX10_bind 65 = .ok (.iconst (-1), 1) := by decide +kernel
theorem dX10_bind_66 : decode cX10_bind 66 = .ok (.if_icmp .ne 14, 3) := by decide +kernel
theorem dX10_bind_69 : decode cX10_bind 69 = .ok (.aload_n 0, 1) := by decide +kernel
theorem dX10_bind_70 : decode cX10_bind 70 = .ok (.getfield 97, 3) := by decide +kernel
theorem dX10_bind_73 : decode cX10_bind 73 = .ok (.iload_n 3, 1) := by decide +kernel
theorem dX10_bind_74 : decode cX10_bind 74 = .ok (.iconst (-1), 1) := by decide +kernel
theorem dX10_bind_75 : decode cX10_bind 75 = .ok (.ixor, 1) := by decide +kernel
theorem dX10_bind_76 : decode cX10_bind 76 = .ok (.iand, 1) := by decide +kernel
theorem dX10_bind_77 : decode cX10_bind 77 = .ok (.goto 9, 3) := by decide +kernel
theorem dX10_bind_80 : decode cX10_bind 80 = .ok (.aload_n 0, 1) := by decide +kernel
theorem dX10_bind_81 : decode cX10_bind 81 = .ok (.getfield 97, 3) := by decide +kernel
theorem dX10_bind_84 : decode cX10_bind 84 = .ok (.iload_n 3, 1) := by decide +kernel
theorem dX10_bind_85 : decode cX10_bind 85 = .ok (.ior, 1) := by decide +kernel
theorem dX10_bind_86 : decode cX10_bind 86 = .ok (.putfield 97, 3) := by decide +kernel
theorem dX10_bind_89 : decode cX10_bind 89 = .ok (.aload_n 0, 1) := by decide +kernel
theorem dX10_bind_90 : decode cX10_bind 90 = .ok (.iload_n 2, 1) := by decide +kernel
theorem dX10_bind_91 : decode cX10_bind 91 = .ok (.iconst 1, 1) := by decide +kernel
theorem dX10_bind_92 : decode cX10_bind 92 = .ok (.if_icmp .ne 12, 3) := by decide +kernel
theorem dX10_bind_95 : decode cX10_bind 95 = .ok (.aload_n 0, 1) := by decide +kernel
theorem dX10_bind_96 : decode cX10_bind 96 = .ok (.getfield 100, 3) := by decide +kernel
theorem dX10_bind_99 : decode cX10_bind 99 = .ok (.iload_n 3, 1) := by decide +kernel
theorem dX10_bind_100 : decode cX10_bind 100 = .ok (.ior, 1) := by decide +kernel
theorem dX10_bind_101 : decode cX10_bind 101 = .ok (.goto 11, 3) := by decide +kernel
theorem dX10_bind_104 : decode cX10_bind 104 = .ok (.aload_n 0, 1) := by decide +kernel
theorem dX10_bind_105 : decode cX10_bind 105 = .ok (.getfield 100, 3) := by decide +kernel
theorem dX10_bind_108 : decode cX10_bind 108 = .ok (.iload_n 3, 1) := by decide +kernel
theorem dX10_bind_109 : decode cX10_bind 109 = .ok (.iconst (-1), 1) := by decide +kernel
theorem dX10_bind_110 : decode cX10_bind 110 = .ok (.ixor, 1) := by decide +kernel
theorem dX10_bind_111 : decode cX10_bind 111 = .ok (.iand, 1) := by decide +kernel
theorem dX10_bind_112 : decode cX10_bind 112 = .ok (.putfield 100, 3) := by decide +kernel
theorem dX10_bind_115 : decode cX10_bind 115 = .ok (.aload_n 0, 1) := by decide +kernel
theorem dX10_bind_116 : decode cX10_bind 116 = .ok (.invokevirtual 103, 3) := by decide +kernel
theorem dX10_bind_119 : decode cX10_bind 119 = .ok (.aload_n 0, 1) := by decide +kernel
theorem dX10_bind_120 : decode cX10_bind 120 = .ok (.getfield 26, 3) := by decide +kernel
theorem dX10_bind_123 : decode cX10_bind 123 = .ok (.getfield 133, 3) := by decide +kernel
theorem dX10_bind_126 : decode cX10_bind 126 = .ok (.ireturn, 1) := by decide +kernel
def mC_bind_112  (vs1 : Int32) (I : hI) (B : Bool × Bool) : Option (Int32 × hI) :=
  h_let (h_u I 0 14 vs1) fun I1 =>
  (mC_renew I1 B).bind fun q2 =>
  some ((q2 7 9), q2)
set_option maxHeartbeats 4000000 in
theorem sC_bind_112 (d : Nat) (hd : 6 + 1 ≤ d) (vs1 : Int32) (I : hI) (J : hJ) (B : Bool × Bool) (q : Int32 × hI) (h : mC_bind_112 vs1 I B = some q) : AW hFT cX10_bind 4 (some .int) RX10 kdC d [(0, .ref 0)] 112 [.int vs1, .ref 0] (I, J, RM B) (some (.int q.1)) (q.2, J, RM B) := by
  obtain ⟨d0, rfl, hd0⟩ := h_mono hd
  unfold mC_bind_112 at h
  refine b_putI hK_10 kc_0 (i := 14) rfl fl_10_100 rfl rfl (h_NI _) dX10_bind_112 ?_
  obtain ⟨I1, eI1, h⟩ := h_letS h
  refine a_memI eI1 ?_
  refine a_aload_n dX10_bind_115 rfl rfl ?_
  obtain ⟨q2, cq2, h⟩ := h_bindS h
  refine a_callV0 [] yy_X10_renew ml_10_103 kc_0 rfl (sC_renew _ (by omega)  I1 J B q2 cq2) rfl rfl (Nat.le_of_ble_eq_true rfl) dX10_bind_116 ?_
  refine a_aload_n dX10_bind_119 rfl rfl ?_
  refine b_getR hK_10 kc_0 (i := 2) rfl fl_10_26 rfl (rm_0_2 B) dX10_bind_120 ?_
  refine b_getI hK_7 kc_7 (i := 9) rfl fl_10_133 rfl dX10_bind_123 ?_
  cases h
  exact a_iret dX10_bind_126
def mC_bind_86  (v2 : Int32) (v3 : Int32) (vs1 : Int32) (I : hI) (B : Bool × Bool) : Option (Int32 × hI) :=
  h_let (h_u I 0 13 vs1) fun I1 =>
  if v2 = (1 : Int32) then
    mC_bind_112 ((I1 0 14) ||| v3) I1 B
  else
    mC_bind_112 ((I1 0 14) &&& (v3 ^^^ (-1 : Int32))) I1 B
set_option maxHeartbeats 4000000 in
theorem sC_bind_86 (d : Nat) (hd : 6 + 1 ≤ d) (v2 : Int32) (v3 : Int32) (vs1 : Int32) (I : hI) (J : hJ) (B : Bool × Bool) (q : Int32 × hI) (h : mC_bind_86 v2 v3 vs1 I B = some q) : AW hFT cX10_bind 4 (some .int) RX10 kdC d [(0, .ref 0), (2, .int v2), (3, .int v3)] 86 [.int vs1, .ref 0] (I, J, RM B) (some (.int q.1)) (q.2, J, RM B) := by
  obtain ⟨d0, rfl, hd0⟩ := h_mono hd
  unfold mC_bind_86 at h
  refine b_putI hK_10 kc_0 (i := 13) rfl fl_10_97 rfl rfl (h_NI _) dX10_bind_86 ?_
  obtain ⟨I1, eI1, h⟩ := h_letS h
  refine a_memI eI1 ?_
  refine a_aload_n dX10_bind_89 rfl rfl ?_
  refine a_iload_n dX10_bind_90 rfl rfl ?_
  refine a_iconst dX10_bind_91 ic_1 ?_
  refine a_icmp_ne (tgt := 104) dX10_bind_92 (by decide) (fun c => ?_) (fun c => ?_)
  · replace h := h_iteF c h
    refine a_aload_n dX10_bind_104 rfl rfl ?_
    refine b_getI hK_10 kc_0 (i := 14) rfl fl_10_100 rfl dX10_bind_105 ?_
    refine a_iload_n dX10_bind_108 rfl rfl ?_
    refine a_iconst dX10_bind_109 ic_m1 ?_
    refine a_ixor dX10_bind_110 ?_
    refine a_iand dX10_bind_111 ?_
    refine a_sub (lv' := [(0, .ref 0)]) [0] rfl ?_
    exact sC_bind_112 (d0 + 1) (by omega) ((I1 0 14) &&& (v3 ^^^ (-1 : Int32))) I1 J B _ h
  · replace h := h_iteT c h
    refine a_aload_n dX10_bind_95 rfl rfl ?_
    refine b_getI hK_10 kc_0 (i := 14) rfl fl_10_100 rfl dX10_bind_96 ?_
    refine a_iload_n dX10_bind_99 rfl rfl ?_
    refine a_ior dX10_bind_100 ?_
    refine a_goto (tgt := 112) dX10_bind_101 (by decide) ?_
    refine a_sub (lv' := [(0, .ref 0)]) [0] rfl ?_
    exact sC_bind_112 (d0 + 1) (by omega) ((I1 0 14) ||| v3) I1 J B _ h
def mC_bind_50  (v1 : Int32) (v2 : Int32) (vs1 : Int32) (I : hI) (B : Bool × Bool) : Option (Int32 × hI) :=
  (mC_refuse vs1 (1 : Int32) I).bind fun q1 =>
  if q1.1 = 0 then
    (h_let ((1 : Int32) <<< (v1 &&& 31)) fun v3x1 =>
    if v2 = (-1 : Int32) then
      mC_bind_86 v2 v3x1 ((q1.2 0 13) &&& (v3x1 ^^^ (-1 : Int32))) q1.2 B
    else
      mC_bind_86 v2 v3x1 ((q1.2 0 13) ||| v3x1) q1.2 B)
  else
    some ((-1 : Int32), q1.2)
set_option maxHeartbeats 4000000 in
theorem sC_bind_50 (d : Nat) (hd : 6 + 1 ≤ d) (v1 : Int32) (v2 : Int32) (vs1 : Int32) (I : hI) (J : hJ) (B : Bool × Bool) (q : Int32 × hI) (h : mC_bind_50 v1 v2 vs1 I B = some q) : AW hFT cX10_bind 4 (some .int) RX10 kdC d [(0, .ref 0), (1, .int v1), (2, .int v2)] 50 [.int vs1, .ref 0] (I, J, RM B) (some (.int q.1)) (q.2, J, RM B) := by
  obtain ⟨d0, rfl, hd0⟩ := h_mono hd
  unfold mC_bind_50 at h
  refine a_iconst dX10_bind_50 ic_1 ?_
  obtain ⟨q1, cq1, h⟩ := h_bindS h
  refine a_callV1 [] yy_X10_refuse ml_10_110 kc_0 rfl (sC_refuse _ (by omega) vs1 (1 : Int32) I J B q1 cq1) rfl rfl (Nat.le_of_ble_eq_true rfl) dX10_bind_51 ?_
  refine a_if_eq (tgt := 59) dX10_bind_54 (by decide) (fun c => ?_) (fun c => ?_)
  · replace h := h_iteT c h
    refine a_iconst dX10_bind_59 ic_1 ?_
    refine a_iload_n dX10_bind_60 rfl rfl ?_
    refine a_ishl dX10_bind_61 ?_
    obtain ⟨v3x1, ev3x1, h⟩ := h_letS h
    refine a_topI ev3x1 ?_
    refine a_istore_n (lv' := [(3, .int v3x1), (0, .ref 0), (1, .int v1), (2, .int v2)]) dX10_bind_62 rfl (by decide) rfl ?_
    refine a_aload_n dX10_bind_63 rfl rfl ?_
    refine a_iload_n dX10_bind_64 rfl rfl ?_
    refine a_iconst dX10_bind_65 ic_m1 ?_
    refine a_icmp_ne (tgt := 80) dX10_bind_66 (by decide) (fun c => ?_) (fun c => ?_)
    · replace h := h_iteF c h
      refine a_aload_n dX10_bind_80 rfl rfl ?_
      refine b_getI hK_10 kc_0 (i := 13) rfl fl_10_97 rfl dX10_bind_81 ?_
      refine a_iload_n dX10_bind_84 rfl rfl ?_
      refine a_ior dX10_bind_85 ?_
      refine a_sub (lv' := [(0, .ref 0), (2, .int v2), (3, .int v3x1)]) [1, 3, 0] rfl ?_
      exact sC_bind_86 (d0 + 1) (by omega) v2 v3x1 ((q1.2 0 13) ||| v3x1) q1.2 J B _ h
    · replace h := h_iteT c h
      refine a_aload_n dX10_bind_69 rfl rfl ?_
      refine b_getI hK_10 kc_0 (i := 13) rfl fl_10_97 rfl dX10_bind_70 ?_
      refine a_iload_n dX10_bind_73 rfl rfl ?_
      refine a_iconst dX10_bind_74 ic_m1 ?_
      refine a_ixor dX10_bind_75 ?_
      refine a_iand dX10_bind_76 ?_
      refine a_goto (tgt := 86) dX10_bind_77 (by decide) ?_
      refine a_sub (lv' := [(0, .ref 0), (2, .int v2), (3, .int v3x1)]) [1, 3, 0] rfl ?_
      exact sC_bind_86 (d0 + 1) (by omega) v2 v3x1 ((q1.2 0 13) &&& (v3x1 ^^^ (-1 : Int32))) q1.2 J B _ h
  · replace h := h_iteF c h
    refine a_iconst dX10_bind_57 ic_m1 ?_
    cases h
    exact a_iret dX10_bind_58
def mC_bind_13  (v1 : Int32) (v2 : Int32) (vs1 : Int32) (I : hI) (B : Bool × Bool) : Option (Int32 × hI) :=
  (mC_refuse vs1 (0 : Int32) I).bind fun q1 =>
  if q1.1 = 0 then
    (if (mC_isOutside v1 (q1.2 (h_pr B) 8)) = 0 then
      (if v2 < (-1 : Int32) then
        mC_bind_50 v1 v2 (1 : Int32) q1.2 B
      else
        (if v2 ≤ (1 : Int32) then
          mC_bind_50 v1 v2 (0 : Int32) q1.2 B
        else
          mC_bind_50 v1 v2 (1 : Int32) q1.2 B))
    else
      mC_bind_50 v1 v2 (1 : Int32) q1.2 B)
  else
    some ((-1 : Int32), q1.2)
set_option maxHeartbeats 4000000 in
theorem sC_bind_13 (d : Nat) (hd : 6 + 1 ≤ d) (v1 : Int32) (v2 : Int32) (vs1 : Int32) (I : hI) (J : hJ) (B : Bool × Bool) (q : Int32 × hI) (h : mC_bind_13 v1 v2 vs1 I B = some q) : AW hFT cX10_bind 4 (some .int) RX10 kdC d [(0, .ref 0), (1, .int v1), (2, .int v2)] 13 [.int vs1, .ref 0] (I, J, RM B) (some (.int q.1)) (q.2, J, RM B) := by
  obtain ⟨d0, rfl, hd0⟩ := h_mono hd
  unfold mC_bind_13 at h
  refine a_iconst dX10_bind_13 ic_0 ?_
  obtain ⟨q1, cq1, h⟩ := h_bindS h
  refine a_callV1 [] yy_X10_refuse ml_10_110 kc_0 rfl (sC_refuse _ (by omega) vs1 (0 : Int32) I J B q1 cq1) rfl rfl (Nat.le_of_ble_eq_true rfl) dX10_bind_14 ?_
  refine a_if_ne (tgt := 57) dX10_bind_17 (by decide) (fun c => ?_) (fun c => ?_)
  · replace h := h_iteF c h
    refine a_iconst dX10_bind_57 ic_m1 ?_
    cases h
    exact a_iret dX10_bind_58
  · replace h := h_iteT c h
    refine a_aload_n dX10_bind_20 rfl rfl ?_
    refine a_iload_n dX10_bind_21 rfl rfl ?_
    refine a_aload_n dX10_bind_22 rfl rfl ?_
    refine b_getR hK_10 kc_0 (i := 7) rfl fl_10_60 rfl (rm_0_7 B) dX10_bind_23 ?_
    refine b_getI hK_4 (k_LT (lt_pr B)) (i := 8) rfl fl_10_130 rfl dX10_bind_26 ?_
    refine a_callS1 [.ref 0] yy_X10_isOutside ml_10_114 (sC_isOutside _ (by omega) v1 (q1.2 (h_pr B) 8) q1.2 J B _ rfl) rfl rfl (Nat.le_of_ble_eq_true rfl) dX10_bind_29 ?_
    refine a_if_ne (tgt := 45) dX10_bind_32 (by decide) (fun c => ?_) (fun c => ?_)
    · replace h := h_iteF c h
      refine a_iconst dX10_bind_45 ic_1 ?_
      refine a_goto (tgt := 50) dX10_bind_46 (by decide) ?_
      exact sC_bind_50 (d0 + 1) (by omega) v1 v2 (1 : Int32) q1.2 J B _ h
    · replace h := h_iteT c h
      refine a_iload_n dX10_bind_35 rfl rfl ?_
      refine a_iconst dX10_bind_36 ic_m1 ?_
      refine a_icmp_lt (tgt := 45) dX10_bind_37 (by decide) (fun c => ?_) (fun c => ?_)
      · replace h := h_iteT c h
        refine a_iconst dX10_bind_45 ic_1 ?_
        refine a_goto (tgt := 50) dX10_bind_46 (by decide) ?_
        exact sC_bind_50 (d0 + 1) (by omega) v1 v2 (1 : Int32) q1.2 J B _ h
      · replace h := h_iteF c h
        refine a_iload_n dX10_bind_40 rfl rfl ?_
        refine a_iconst dX10_bind_41 ic_1 ?_
        refine a_icmp_le (tgt := 49) dX10_bind_42 (by decide) (fun c => ?_) (fun c => ?_)
        · replace h := h_iteT c h
          refine a_iconst dX10_bind_49 ic_0 ?_
          exact sC_bind_50 (d0 + 1) (by omega) v1 v2 (0 : Int32) q1.2 J B _ h
        · replace h := h_iteF c h
          refine a_iconst dX10_bind_45 ic_1 ?_
          refine a_goto (tgt := 50) dX10_bind_46 (by decide) ?_
          exact sC_bind_50 (d0 + 1) (by omega) v1 v2 (1 : Int32) q1.2 J B _ h
def mC_bind  (v1 : Int32) (v2 : Int32) (I : hI) (B : Bool × Bool) : Option (Int32 × hI) :=
  if (I 0 11) = 0 then
    mC_bind_13 v1 v2 (1 : Int32) I B
  else
    mC_bind_13 v1 v2 (0 : Int32) I B
set_option maxHeartbeats 4000000 in
theorem sC_bind (d : Nat) (hd : 6 + 1 ≤ d) (v1 : Int32) (v2 : Int32) (I : hI) (J : hJ) (B : Bool × Bool) (q : Int32 × hI) (h : mC_bind v1 v2 I B = some q) : HMet hFT yX10_bind cX10_bind 4 (some .int) kdC d [.ref 0, .int v1, .int v2] (I, J, RM B) (some (.int q.1)) (q.2, J, RM B) := by
  obtain ⟨d0, rfl, hd0⟩ := h_mono hd
  refine HMet.of (by decide) (Nat.le_of_ble_eq_true rfl) ?_
  show AW hFT cX10_bind 4 (some .int) RX10 kdC (d0 + 1) [(0, .ref 0), (1, .int v1), (2, .int v2)] 0 [] (I, J, RM B) (some (.int q.1)) (q.2, J, RM B)
  unfold mC_bind at h
  refine a_aload_n dX10_bind_0 rfl rfl ?_
  refine a_aload_n dX10_bind_1 rfl rfl ?_
  refine b_getI hK_10 kc_0 (i := 11) rfl fl_10_90 rfl dX10_bind_2 ?_
  refine a_if_ne (tgt := 12) dX10_bind_5 (by decide) (fun c => ?_) (fun c => ?_)
  · replace h := h_iteF c h
    refine a_iconst dX10_bind_12 ic_0 ?_
    exact sC_bind_13 (d0 + 1) (by omega) v1 v2 (0 : Int32) I J B _ h
  · replace h := h_iteT c h
    refine a_iconst dX10_bind_8 ic_1 ?_
    refine a_goto (tgt := 13) dX10_bind_9 (by decide) ?_
    exact sC_bind_13 (d0 + 1) (by omega) v1 v2 (1 : Int32) I J B _ h
/-! CoinLoops.price(II)I -/
theorem dX10_price_0 : decode cX10_price 0 = .ok (.aload_n 0, 1) := by decide +kernel
theorem dX10_price_1 : decode cX10_price 1 = .ok (.aload_n 0, 1) := by decide +kernel
theorem dX10_price_2 : decode cX10_price 2 = .ok (.getfield 90, 3) := by decide +kernel
theorem dX10_price_5 : decode cX10_price 5 = .ok (.ifCond .ne 7, 3) := by decide +kernel
theorem dX10_price_8 : decode cX10_price 8 = .ok (.iconst 1, 1) := by decide +kernel
theorem dX10_price_9 : decode cX10_price 9 = .ok (.goto 4, 3) := by decide +kernel
theorem dX10_price_12 : decode cX10_price 12 = .ok (.iconst 0, 1) := by decide +kernel
theorem dX10_price_13 : decode cX10_price 13 = .ok (.iconst 0, 1) := by decide +kernel
theorem dX10_price_14 : decode cX10_price 14 = .ok (.invokevirtual 110, 3) := by decide +kernel
theorem dX10_price_17 : decode cX10_price 17 = .ok (.ifCond .ne 39, 3) := by decide +kernel
theorem dX10_price_20 : decode cX10_price 20 = .ok (.aload_n 0, 1) := by decide +kernel
theorem dX10_price_21 : decode cX10_price 21 = .ok (.iload_n 1, 1) := by decide +kernel
theorem dX10_price_22 : decode cX10_price 22 = .ok (.aload_n 0, 1) := by decide +kernel
theorem dX10_price_23 : decode cX10_price 23 = .ok (.getfield 60, 3) := by decide +kernel
theorem dX10_price_26 : decode cX10_price 26 = .ok (.getfield 250, 3) := by decide +kernel
theorem dX10_price_29 : decode cX10_price 29 = .ok (.invokestatic 114, 3) := by decide +kernel
theorem dX10_price_32 : decode cX10_price 32 = .ok (.ifCond .ne 12, 3) := by decide +kernel
theorem dX10_price_35 : decode cX10_price 35 = .ok (.iload_n 2, 1) := by decide +kernel
theorem dX10_price_36 : decode cX10_price 36 = .ok (.bipush 21, 2) := by decide +kernel
theorem dX10_price_38 : decode cX10_price 38 = .ok (.invokestatic 114, 3) := by decide +kernel
theorem dX10_price_41 : decode cX10_price 41 = .ok (.ifCond .eq 7, 3) := by decide +kernel
theorem dX10_price_44 : decode cX10_price 44 = .ok (.iconst 1, 1) := by decide +kernel
theorem dX10_price_45 : decode cX10_price 45 = .ok (.goto 4, 3) := by decide +kernel
theorem dX10_price_48 : decode cX10_price 48 = .ok (.iconst 0, 1) := by decide +kernel
theorem dX10_price_49 : decode cX10_price 49 = .ok (.iconst 1, 1) := by decide +kernel
theorem dX10_price_50 : decode cX10_price 50 = .ok (.invokevirtual 110, 3) := by decide +kernel
theorem dX10_price_53 : decode cX10_price 53 = .ok (.ifCond .eq 5, 3) := by decide +kernel
theorem dX10_price_56 : decode cX10_price 56 = .ok (.iconst (-1), 1) := by decide +kernel
theorem dX10_price_57 : decode cX10_price 57 = .ok (.ireturn, 1) := by decide +kernel
theorem dX10_price_58 : decode cX10_price 58 = .ok (.aload_n 0, 1) := by decide +kernel
theorem dX10_price_59 : decode cX10_price 59 = .ok (.getfield 60, 3) := by decide +kernel
theorem dX10_price_62 : decode cX10_price 62 = .ok (.getfield 252, 3) := by decide +kernel
theorem dX10_price_65 : decode cX10_price 65 = .ok (.iload_n 1, 1) := by decide +kernel
theorem dX10_price_66 : decode cX10_price 66 = .ok (.iaload, 1) := by decide +kernel
theorem dX10_price_67 : decode cX10_price 67 = .ok (.istore_n 3, 1) := by decide +kernel
theorem dX10_price_68 : decode cX10_price 68 = .ok (.aload_n 0, 1) := by decide +kernel
theorem dX10_price_69 : decode cX10_price 69 = .ok (.getfield 60, 3) := by decide +kernel
theorem dX10_price_72 : decode cX10_price 72 = .ok (.getfield 252, 3) := by decide +kernel
theorem dX10_price_75 : decode cX10_price 75 = .ok (.iload_n 1, 1) := by decide +kernel
theorem dX10_price_76 : decode cX10_price 76 = .ok (.iload_n 2, 1) := by decide +kernel
theorem dX10_price_77 : decode cX10_price 77 = .ok (.iastore, 1) := by decide +kernel
theorem dX10_price_78 : decode cX10_price 78 = .ok (.aload_n 0, 1) := by decide +kernel
theorem dX10_price_79 : decode cX10_price 79 = .ok (.invokevirtual 103, 3) := by decide +kernel
theorem dX10_price_82 : decode cX10_price 82 = .ok (.iload_n 3, 1) := by decide +kernel
theorem dX10_price_83 : decode cX10_price 83 = .ok (.ireturn, 1) := by decide +kernel
def mC_price_49  (v1 : Int32) (v2 : Int32) (vs1 : Int32) (I : hI) (B : Bool × Bool) : Option (Int32 × hI) :=
  (mC_refuse vs1 (1 : Int32) I).bind fun q1 =>
  if q1.1 = 0 then
    (h_g (h_in v1 24) <|
    h_let (q1.2 ((h_pr B) + 8) v1.toNatClampNeg) fun v3x2 =>
    h_g (h_in v1 24) <|
    h_let (h_u q1.2 ((h_pr B) + 8) v1.toNatClampNeg v2) fun I5 =>
    (mC_renew I5 B).bind fun q6 =>
    some (v3x2, q6))
  else
    some ((-1 : Int32), q1.2)
set_option maxHeartbeats 4000000 in
theorem sC_price_49 (d : Nat) (hd : 6 + 1 ≤ d) (v1 : Int32) (v2 : Int32) (vs1 : Int32) (I : hI) (J : hJ) (B : Bool × Bool) (q : Int32 × hI) (h : mC_price_49 v1 v2 vs1 I B = some q) : AW hFT cX10_price 4 (some .int) RX10 kdC d [(0, .ref 0), (1, .int v1), (2, .int v2)] 49 [.int vs1, .ref 0] (I, J, RM B) (some (.int q.1)) (q.2, J, RM B) := by
  obtain ⟨d0, rfl, hd0⟩ := h_mono hd
  unfold mC_price_49 at h
  refine a_iconst dX10_price_49 ic_1 ?_
  obtain ⟨q1, cq1, h⟩ := h_bindS h
  refine a_callV1 [] yy_X10_refuse ml_10_110 kc_0 rfl (sC_refuse _ (by omega) vs1 (1 : Int32) I J B q1 cq1) rfl rfl (Nat.le_of_ble_eq_true rfl) dX10_price_50 ?_
  refine a_if_eq (tgt := 58) dX10_price_53 (by decide) (fun c => ?_) (fun c => ?_)
  · replace h := h_iteT c h
    refine a_aload_n dX10_price_58 rfl rfl ?_
    refine b_getR hK_10 kc_0 (i := 7) rfl fl_10_60 rfl (rm_0_7 B) dX10_price_59 ?_
    refine b_getR hK_4 (k_LT (lt_pr B)) (i := 2) rfl fl_10_252 rfl (rm_LT_2 B (lt_pr B)) dX10_price_62 ?_
    refine a_iload_n dX10_price_65 rfl rfl ?_
    obtain ⟨g2, h⟩ := h_gS h
    refine b_iaload (k_LT8 (lt_pr B)) (h_inV g2) dX10_price_66 ?_
    obtain ⟨v3x2, ev3x2, h⟩ := h_letS h
    refine a_topI ev3x2 ?_
    refine a_istore_n (lv' := [(3, .int v3x2), (0, .ref 0), (1, .int v1), (2, .int v2)]) dX10_price_67 rfl (by decide) rfl ?_
    refine a_aload_n dX10_price_68 rfl rfl ?_
    refine b_getR hK_10 kc_0 (i := 7) rfl fl_10_60 rfl (rm_0_7 B) dX10_price_69 ?_
    refine b_getR hK_4 (k_LT (lt_pr B)) (i := 2) rfl fl_10_252 rfl (rm_LT_2 B (lt_pr B)) dX10_price_72 ?_
    refine a_iload_n dX10_price_75 rfl rfl ?_
    refine a_iload_n dX10_price_76 rfl rfl ?_
    obtain ⟨g4, h⟩ := h_gS h
    refine b_iastore (k_LT8 (lt_pr B)) (h_inV g4) dX10_price_77 ?_
    obtain ⟨I5, eI5, h⟩ := h_letS h
    refine a_memI eI5 ?_
    refine a_aload_n dX10_price_78 rfl rfl ?_
    obtain ⟨q6, cq6, h⟩ := h_bindS h
    refine a_callV0 [] yy_X10_renew ml_10_103 kc_0 rfl (sC_renew _ (by omega)  I5 J B q6 cq6) rfl rfl (Nat.le_of_ble_eq_true rfl) dX10_price_79 ?_
    refine a_iload_n dX10_price_82 rfl rfl ?_
    cases h
    exact a_iret dX10_price_83
  · replace h := h_iteF c h
    refine a_iconst dX10_price_56 ic_m1 ?_
    cases h
    exact a_iret dX10_price_57
def mC_price_13  (v1 : Int32) (v2 : Int32) (vs1 : Int32) (I : hI) (B : Bool × Bool) : Option (Int32 × hI) :=
  (mC_refuse vs1 (0 : Int32) I).bind fun q1 =>
  if q1.1 = 0 then
    (if (mC_isOutside v1 (q1.2 (h_pr B) 10)) = 0 then
      (if (mC_isOutside v2 (21 : Int32)) = 0 then
        mC_price_49 v1 v2 (0 : Int32) q1.2 B
      else
        mC_price_49 v1 v2 (1 : Int32) q1.2 B)
    else
      mC_price_49 v1 v2 (1 : Int32) q1.2 B)
  else
    some ((-1 : Int32), q1.2)
set_option maxHeartbeats 4000000 in
theorem sC_price_13 (d : Nat) (hd : 6 + 1 ≤ d) (v1 : Int32) (v2 : Int32) (vs1 : Int32) (I : hI) (J : hJ) (B : Bool × Bool) (q : Int32 × hI) (h : mC_price_13 v1 v2 vs1 I B = some q) : AW hFT cX10_price 4 (some .int) RX10 kdC d [(0, .ref 0), (1, .int v1), (2, .int v2)] 13 [.int vs1, .ref 0] (I, J, RM B) (some (.int q.1)) (q.2, J, RM B) := by
  obtain ⟨d0, rfl, hd0⟩ := h_mono hd
  unfold mC_price_13 at h
  refine a_iconst dX10_price_13 ic_0 ?_
  obtain ⟨q1, cq1, h⟩ := h_bindS h
  refine a_callV1 [] yy_X10_refuse ml_10_110 kc_0 rfl (sC_refuse _ (by omega) vs1 (0 : Int32) I J B q1 cq1) rfl rfl (Nat.le_of_ble_eq_true rfl) dX10_price_14 ?_
  refine a_if_ne (tgt := 56) dX10_price_17 (by decide) (fun c => ?_) (fun c => ?_)
  · replace h := h_iteF c h
    refine a_iconst dX10_price_56 ic_m1 ?_
    cases h
    exact a_iret dX10_price_57
  · replace h := h_iteT c h
    refine a_aload_n dX10_price_20 rfl rfl ?_
    refine a_iload_n dX10_price_21 rfl rfl ?_
    refine a_aload_n dX10_price_22 rfl rfl ?_
    refine b_getR hK_10 kc_0 (i := 7) rfl fl_10_60 rfl (rm_0_7 B) dX10_price_23 ?_
    refine b_getI hK_4 (k_LT (lt_pr B)) (i := 10) rfl fl_10_250 rfl dX10_price_26 ?_
    refine a_callS1 [.ref 0] yy_X10_isOutside ml_10_114 (sC_isOutside _ (by omega) v1 (q1.2 (h_pr B) 10) q1.2 J B _ rfl) rfl rfl (Nat.le_of_ble_eq_true rfl) dX10_price_29 ?_
    refine a_if_ne (tgt := 44) dX10_price_32 (by decide) (fun c => ?_) (fun c => ?_)
    · replace h := h_iteF c h
      refine a_iconst dX10_price_44 ic_1 ?_
      refine a_goto (tgt := 49) dX10_price_45 (by decide) ?_
      exact sC_price_49 (d0 + 1) (by omega) v1 v2 (1 : Int32) q1.2 J B _ h
    · replace h := h_iteT c h
      refine a_iload_n dX10_price_35 rfl rfl ?_
      refine a_bipush dX10_price_36 bp_21 ?_
      refine a_callS1 [.ref 0] yy_X10_isOutside ml_10_114 (sC_isOutside _ (by omega) v2 (21 : Int32) q1.2 J B _ rfl) rfl rfl (Nat.le_of_ble_eq_true rfl) dX10_price_38 ?_
      refine a_if_eq (tgt := 48) dX10_price_41 (by decide) (fun c => ?_) (fun c => ?_)
      · replace h := h_iteT c h
        refine a_iconst dX10_price_48 ic_0 ?_
        exact sC_price_49 (d0 + 1) (by omega) v1 v2 (0 : Int32) q1.2 J B _ h
      · replace h := h_iteF c h
        refine a_iconst dX10_price_44 ic_1 ?_
        refine a_goto (tgt := 49) dX10_price_45 (by decide) ?_
        exact sC_price_49 (d0 + 1) (by omega) v1 v2 (1 : Int32) q1.2 J B _ h
def mC_price  (v1 : Int32) (v2 : Int32) (I : hI) (B : Bool × Bool) : Option (Int32 × hI) :=
  if (I 0 11) = 0 then
    mC_price_13 v1 v2 (1 : Int32) I B
  else
    mC_price_13 v1 v2 (0 : Int32) I B
set_option maxHeartbeats 4000000 in
theorem sC_price (d : Nat) (hd : 6 + 1 ≤ d) (v1 : Int32) (v2 : Int32) (I : hI) (J : hJ) (B : Bool × Bool) (q : Int32 × hI) (h : mC_price v1 v2 I B = some q) : HMet hFT yX10_price cX10_price 4 (some .int) kdC d [.ref 0, .int v1, .int v2] (I, J, RM B) (some (.int q.1)) (q.2, J, RM B) := by
  obtain ⟨d0, rfl, hd0⟩ := h_mono hd
  refine HMet.of (by decide) (Nat.le_of_ble_eq_true rfl) ?_
  show AW hFT cX10_price 4 (some .int) RX10 kdC (d0 + 1) [(0, .ref 0), (1, .int v1), (2, .int v2)] 0 [] (I, J, RM B) (some (.int q.1)) (q.2, J, RM B)
  unfold mC_price at h
  refine a_aload_n dX10_price_0 rfl rfl ?_
  refine a_aload_n dX10_price_1 rfl rfl ?_
  refine b_getI hK_10 kc_0 (i := 11) rfl fl_10_90 rfl dX10_price_2 ?_
  refine a_if_ne (tgt := 12) dX10_price_5 (by decide) (fun c => ?_) (fun c => ?_)
  · replace h := h_iteF c h
    refine a_iconst dX10_price_12 ic_0 ?_
    exact sC_price_13 (d0 + 1) (by omega) v1 v2 (0 : Int32) I J B _ h
  · replace h := h_iteT c h
    refine a_iconst dX10_price_8 ic_1 ?_
    refine a_goto (tgt := 13) dX10_price_9 (by decide) ?_
    exact sC_price_13 (d0 + 1) (by omega) v1 v2 (1 : Int32) I J B _ h
/-! CoinLoops.most(I)I -/
theorem dX10_most_0 : decode cX10_most 0 = .ok (.aload_n 0, 1) := by decide +kernel
theorem dX10_most_1 : decode cX10_most 1 = .ok (.aload_n 0, 1) := by decide +kernel
theorem dX10_most_2 : decode cX10_most 2 = .ok (.getfield 90, 3) := by decide +kernel
theorem dX10_most_5 : decode cX10_most 5 = .ok (.ifCond .ne 7, 3) := by decide +kernel
theorem dX10_most_8 : decode cX10_most 8 = .ok (.iconst 1, 1) := by decide +kernel
theorem dX10_most_9 : decode cX10_most 9 = .ok (.goto 4, 3) := by decide +kernel
theorem dX10_most_12 : decode cX10_most 12 = .ok (.iconst 0, 1) := by decide +kernel
theorem dX10_most_13 : decode cX10_most 13 = .ok (.iconst 0, 1) := by decide +kernel
theorem dX10_most_14 : decode cX10_most 14 = .ok (.invokevirtual 110, 3) := by decide +kernel
theorem dX10_most_17 : decode cX10_most 17 = .ok (.ifCond .ne 17, 3) := by decide +kernel
theorem dX10_most_20 : decode cX10_most 20 = .ok (.aload_n 0, 1) := by decide +kernel
theorem dX10_most_21 : decode cX10_most 21 = .ok (.iload_n 1, 1) := by decide +kernel
theorem dX10_most_22 : decode cX10_most 22 = .ok (.bipush 9, 2) := by decide +kernel
theorem dX10_most_24 : decode cX10_most 24 = .ok (.invokestatic 114, 3) := by decide +kernel
theorem dX10_most_27 : decode cX10_most 27 = .ok (.iconst 1, 1) := by decide +kernel
theorem dX10_most_28 : decode cX10_most 28 = .ok (.invokevirtual 110, 3) := by decide +kernel
theorem dX10_most_31 : decode cX10_most 31 = .ok (.ifCond .eq 5, 3) := by decide +kernel
theorem dX10_most_34 : decode cX10_most 34 = .ok (.iconst (-1), 1) := by decide +kernel
theorem dX10_most_35 : decode cX10_most 35 = .ok (.ireturn, 1) := by decide +kernel
theorem dX10_most_36 : decode cX10_most 36 = .ok (.iload_n 1, 1) := by decide +kernel
theorem dX10_most_37 : decode cX10_most 37 = .ok (.iconst 2, 1) := by decide +kernel
theorem dX10_most_38 : decode cX10_most 38 = .ok (.if_icmp .lt 18, 3) := by decide +kernel
theorem dX10_most_41 : decode cX10_most 41 = .ok (.iload_n 1, 1) := by decide +kernel
theorem dX10_most_42 : decode cX10_most 42 = .ok (.iconst 5, 1) := by decide +kernel
theorem dX10_most_43 : decode cX10_most 43 = .ok (.if_icmp .gt 13, 3) := by decide +kernel
theorem dX10_most_46 : decode cX10_most 46 = .ok (.aload_n 0, 1) := by decide +kernel
theorem dX10_most_47 : decode cX10_most 47 = .ok (.iconst 0, 1) := by decide +kernel
theorem dX10_most_48 : decode cX10_most 48 = .ok (.invokevirtual 156, 3) := by decide +kernel
theorem dX10_most_51 : decode cX10_most 51 = .ok (.ifCond .eq 5, 3) := by decide +kernel
theorem dX10_most_54 : decode cX10_most 54 = .ok (.iconst (-1), 1) := by decide +kernel
theorem dX10_most_55 : decode cX10_most 55 = .ok (.ireturn, 1) := by decide +kernel
theorem dX10_most_56 : decode cX10_most 56 = .ok (.iload_n 1, 1) := by decide +kernel
theorem dX10_most_57 : decode cX10_most 57 = .ok (.tableswitch 124 0 7 #[47, 58, 66, 76, 86, 95, 104, 116], 47) := by decide +kernel
theorem dX10_most_104 : decode cX10_most 104 = .ok (.aload_n 0, 1) := by decide +kernel
theorem dX10_most_105 : decode cX10_most 105 = .ok (.getfield 26, 3) := by decide +kernel
theorem dX10_most_108 : decode cX10_most 108 = .ok (.getfield 124, 3) := by decide +kernel
theorem dX10_most_111 : decode cX10_most 111 = .ok (.invokestatic 255, 3) := by decide +kernel
theorem dX10_most_114 : decode cX10_most 114 = .ok (.ireturn, 1) := by decide +kernel
theorem dX10_most_115 : decode cX10_most 115 = .ok (.aload_n 0, 1) := by decide +kernel
theorem dX10_most_116 : decode cX10_most 116 = .ok (.getfield 26, 3) := by decide +kernel
theorem dX10_most_119 : decode cX10_most 119 = .ok (.invokevirtual 260, 3) := by decide +kernel
theorem dX10_most_122 : decode cX10_most 122 = .ok (.ireturn, 1) := by decide +kernel
theorem dX10_most_123 : decode cX10_most 123 = .ok (.aload_n 0, 1) := by decide +kernel
theorem dX10_most_124 : decode cX10_most 124 = .ok (.getfield 35, 3) := by decide +kernel
theorem dX10_most_127 : decode cX10_most 127 = .ok (.iconst 1, 1) := by decide +kernel
theorem dX10_most_128 : decode cX10_most 128 = .ok (.iconst 1, 1) := by decide +kernel
theorem dX10_most_129 : decode cX10_most 129 = .ok (.invokevirtual 264, 3) := by decide +kernel
theorem dX10_most_132 : decode cX10_most 132 = .ok (.ireturn, 1) := by decide +kernel
theorem dX10_most_133 : decode cX10_most 133 = .ok (.aload_n 0, 1) := by decide +kernel
theorem dX10_most_134 : decode cX10_most 134 = .ok (.getfield 35, 3) := by decide +kernel
theorem dX10_most_137 : decode cX10_most 137 = .ok (.iconst 2, 1) := by decide +kernel
theorem dX10_most_138 : decode cX10_most 138 = .ok (.iconst 0, 1) := by decide +kernel
theorem dX10_most_139 : decode cX10_most 139 = .ok (.invokevirtual 264, 3) := by decide +kernel
theorem dX10_most_142 : decode cX10_most 142 = .ok (.ireturn, 1) := by decide +kernel
theorem dX10_most_143 : decode cX10_most 143 = .ok (.aload_n 0, 1) := by decide +kernel
theorem dX10_most_144 : decode cX10_most 144 = .ok (.getfield 35, 3) := by decide +kernel
theorem dX10_most_147 : decode cX10_most 147 = .ok (.iconst 2, 1) := by decide +kernel
theorem dX10_most_148 : decode cX10_most 148 = .ok (.invokevirtual 268, 3) := by decide +kernel
theorem dX10_most_151 : decode cX10_most 151 = .ok (.ireturn, 1) := by decide +kernel
theorem dX10_most_152 : decode cX10_most 152 = .ok (.aload_n 0, 1) := by decide +kernel
theorem dX10_most_153 : decode cX10_most 153 = .ok (.getfield 35, 3) := by decide +kernel
theorem dX10_most_156 : decode cX10_most 156 = .ok (.iconst 3, 1) := by decide +kernel
theorem dX10_most_157 : decode cX10_most 157 = .ok (.invokevirtual 268, 3) := by decide +kernel
theorem dX10_most_160 : decode cX10_most 160 = .ok (.ireturn, 1) := by decide +kernel
theorem dX10_most_161 : decode cX10_most 161 = .ok (.aload_n 0, 1) := by decide +kernel
theorem dX10_most_162 : decode cX10_most 162 = .ok (.getfield 26, 3) := by decide +kernel
theorem dX10_most_165 : decode cX10_most 165 = .ok (.iconst 0, 1) := by decide +kernel
theorem dX10_most_166 : decode cX10_most 166 = .ok (.invokevirtual 271, 3) := by decide +kernel
theorem dX10_most_169 : decode cX10_most 169 = .ok (.invokestatic 255, 3) := by decide +kernel
theorem dX10_most_172 : decode cX10_most 172 = .ok (.ireturn, 1) := by decide +kernel
theorem dX10_most_173 : decode cX10_most 173 = .ok (.aload_n 0, 1) := by decide +kernel
theorem dX10_most_174 : decode cX10_most 174 = .ok (.getfield 60, 3) := by decide +kernel
theorem dX10_most_177 : decode cX10_most 177 = .ok (.getfield 250, 3) := by decide +kernel
theorem dX10_most_180 : decode cX10_most 180 = .ok (.ireturn, 1) := by decide +kernel
theorem dX10_most_181 : decode cX10_most 181 = .ok (.aload_n 0, 1) := by decide +kernel
theorem dX10_most_182 : decode cX10_most 182 = .ok (.getfield 60, 3) := by decide +kernel
theorem dX10_most_185 : decode cX10_most 185 = .ok (.getfield 274, 3) := by decide +kernel
theorem dX10_most_188 : decode cX10_most 188 = .ok (.ireturn, 1) := by decide +kernel
def mC_most_56  (v1 : Int32) (I : hI) (J : hJ) (B : Bool × Bool) : Option (Int32 × hI × hJ) :=
  if v1 = 0 then
    some ((mJ_bitCount (I 7 6)), I, J)
  else
    (if v1 = 1 then
      ((mRo_withMostChoices I).bind fun q1 =>
      some (q1, I, J))
    else
      (if v1 = 2 then
        ((mPl_outermost (1 : Int32) (1 : Int32) I J).bind fun q1 =>
        some (q1, I, J))
      else
        (if v1 = 3 then
          ((mPl_outermost (2 : Int32) (0 : Int32) I J).bind fun q1 =>
          some (q1, I, J))
        else
          (if v1 = 4 then
            ((mPl_sureStates (2 : Int32) I J).bind fun q1 =>
            some (q1, I, J))
          else
            (if v1 = 5 then
              ((mPl_sureStates (3 : Int32) I J).bind fun q1 =>
              some (q1, I, J))
            else
              (if v1 = 6 then
                ((mRo_reachedFrom (0 : Int32) I).bind fun q1 =>
                some ((mJ_bitCount q1), I, J))
              else
                (if v1 = 7 then
                  some ((I (h_pr B) 10), I, J)
                else
                  some ((I (h_pr B) 9), I, J))))))))
set_option maxHeartbeats 4000000 in
theorem sC_most_56 (d : Nat) (hd : 5 + 1 ≤ d) (v1 : Int32) (I : hI) (J : hJ) (B : Bool × Bool) (q : Int32 × hI × hJ) (h : mC_most_56 v1 I J B = some q) : AW hFT cX10_most 2 (some .int) RX10 kdC d [(0, .ref 0), (1, .int v1)] 56 [] (I, J, RM B) (some (.int q.1)) (q.2.1, q.2.2, RM B) := by
  obtain ⟨d0, rfl, hd0⟩ := h_mono hd
  unfold mC_most_56 at h
  refine a_iload_n dX10_most_56 rfl rfl ?_
  by_cases n0 : v1 = 0
  · replace h := h_iteT n0 h
    refine a_topI n0 ?_
    refine a_tableIn (tgt := 104) (off := 47) dX10_most_57 (by decide) (by decide) (by decide) (by decide) ?_
    refine a_aload_n dX10_most_104 rfl rfl ?_
    refine b_getR hK_10 kc_0 (i := 2) rfl fl_10_26 rfl (rm_0_2 B) dX10_most_105 ?_
    refine b_getI hK_7 kc_7 (i := 6) rfl fl_10_124 rfl dX10_most_108 ?_
    refine a_callS1 [] yyJ_bitCount ml_10_255 (sJ_bitCount _ (Nat.zero_le _) (I 7 6)) rfl rfl (Nat.le_of_ble_eq_true rfl) dX10_most_111 ?_
    cases h
    exact a_iret dX10_most_114
  · replace h := h_iteF n0 h
    by_cases n1 : v1 = 1
    · replace h := h_iteT n1 h
      refine a_topI n1 ?_
      refine a_tableIn (tgt := 115) (off := 58) dX10_most_57 (by decide) (by decide) (by decide) (by decide) ?_
      refine a_aload_n dX10_most_115 rfl rfl ?_
      refine b_getR hK_10 kc_0 (i := 2) rfl fl_10_26 rfl (rm_0_2 B) dX10_most_116 ?_
      obtain ⟨q1, cq1, h⟩ := h_bindS h
      refine a_callV1 [] yy_X7_withMostChoices ml_10_260 kc_7 rfl (sRo_withMostChoices _ (by omega)  I J B q1 cq1) rfl rfl (Nat.le_of_ble_eq_true rfl) dX10_most_119 ?_
      cases h
      exact a_iret dX10_most_122
    · replace h := h_iteF n1 h
      by_cases n2 : v1 = 2
      · replace h := h_iteT n2 h
        refine a_topI n2 ?_
        refine a_tableIn (tgt := 123) (off := 66) dX10_most_57 (by decide) (by decide) (by decide) (by decide) ?_
        refine a_aload_n dX10_most_123 rfl rfl ?_
        refine b_getR hK_10 kc_0 (i := 3) rfl fl_10_35 rfl (rm_0_3 B) dX10_most_124 ?_
        refine a_iconst dX10_most_127 ic_1 ?_
        refine a_iconst dX10_most_128 ic_1 ?_
        obtain ⟨q1, cq1, h⟩ := h_bindS h
        refine a_callV1 [] yy_X5_outermost ml_10_264 kc_13 rfl (sPl_outermost _ (by omega) (1 : Int32) (1 : Int32) I J B q1 cq1) rfl rfl (Nat.le_of_ble_eq_true rfl) dX10_most_129 ?_
        cases h
        exact a_iret dX10_most_132
      · replace h := h_iteF n2 h
        by_cases n3 : v1 = 3
        · replace h := h_iteT n3 h
          refine a_topI n3 ?_
          refine a_tableIn (tgt := 133) (off := 76) dX10_most_57 (by decide) (by decide) (by decide) (by decide) ?_
          refine a_aload_n dX10_most_133 rfl rfl ?_
          refine b_getR hK_10 kc_0 (i := 3) rfl fl_10_35 rfl (rm_0_3 B) dX10_most_134 ?_
          refine a_iconst dX10_most_137 ic_2 ?_
          refine a_iconst dX10_most_138 ic_0 ?_
          obtain ⟨q1, cq1, h⟩ := h_bindS h
          refine a_callV1 [] yy_X5_outermost ml_10_264 kc_13 rfl (sPl_outermost _ (by omega) (2 : Int32) (0 : Int32) I J B q1 cq1) rfl rfl (Nat.le_of_ble_eq_true rfl) dX10_most_139 ?_
          cases h
          exact a_iret dX10_most_142
        · replace h := h_iteF n3 h
          by_cases n4 : v1 = 4
          · replace h := h_iteT n4 h
            refine a_topI n4 ?_
            refine a_tableIn (tgt := 143) (off := 86) dX10_most_57 (by decide) (by decide) (by decide) (by decide) ?_
            refine a_aload_n dX10_most_143 rfl rfl ?_
            refine b_getR hK_10 kc_0 (i := 3) rfl fl_10_35 rfl (rm_0_3 B) dX10_most_144 ?_
            refine a_iconst dX10_most_147 ic_2 ?_
            obtain ⟨q1, cq1, h⟩ := h_bindS h
            refine a_callV1 [] yy_X5_sureStates ml_10_268 kc_13 rfl (sPl_sureStates _ (by omega) (2 : Int32) I J B q1 cq1) rfl rfl (Nat.le_of_ble_eq_true rfl) dX10_most_148 ?_
            cases h
            exact a_iret dX10_most_151
          · replace h := h_iteF n4 h
            by_cases n5 : v1 = 5
            · replace h := h_iteT n5 h
              refine a_topI n5 ?_
              refine a_tableIn (tgt := 152) (off := 95) dX10_most_57 (by decide) (by decide) (by decide) (by decide) ?_
              refine a_aload_n dX10_most_152 rfl rfl ?_
              refine b_getR hK_10 kc_0 (i := 3) rfl fl_10_35 rfl (rm_0_3 B) dX10_most_153 ?_
              refine a_iconst dX10_most_156 ic_3 ?_
              obtain ⟨q1, cq1, h⟩ := h_bindS h
              refine a_callV1 [] yy_X5_sureStates ml_10_268 kc_13 rfl (sPl_sureStates _ (by omega) (3 : Int32) I J B q1 cq1) rfl rfl (Nat.le_of_ble_eq_true rfl) dX10_most_157 ?_
              cases h
              exact a_iret dX10_most_160
            · replace h := h_iteF n5 h
              by_cases n6 : v1 = 6
              · replace h := h_iteT n6 h
                refine a_topI n6 ?_
                refine a_tableIn (tgt := 161) (off := 104) dX10_most_57 (by decide) (by decide) (by decide) (by decide) ?_
                refine a_aload_n dX10_most_161 rfl rfl ?_
                refine b_getR hK_10 kc_0 (i := 2) rfl fl_10_26 rfl (rm_0_2 B) dX10_most_162 ?_
                refine a_iconst dX10_most_165 ic_0 ?_
                obtain ⟨q1, cq1, h⟩ := h_bindS h
                refine a_callV1 [] yy_X7_reachedFrom ml_10_271 kc_7 rfl (sRo_reachedFrom _ (by omega) (0 : Int32) I J B q1 cq1) rfl rfl (Nat.le_of_ble_eq_true rfl) dX10_most_166 ?_
                refine a_callS1 [] yyJ_bitCount ml_10_255 (sJ_bitCount _ (Nat.zero_le _) q1) rfl rfl (Nat.le_of_ble_eq_true rfl) dX10_most_169 ?_
                cases h
                exact a_iret dX10_most_172
              · replace h := h_iteF n6 h
                by_cases n7 : v1 = 7
                · replace h := h_iteT n7 h
                  refine a_topI n7 ?_
                  refine a_tableIn (tgt := 173) (off := 116) dX10_most_57 (by decide) (by decide) (by decide) (by decide) ?_
                  refine a_aload_n dX10_most_173 rfl rfl ?_
                  refine b_getR hK_10 kc_0 (i := 7) rfl fl_10_60 rfl (rm_0_7 B) dX10_most_174 ?_
                  refine b_getI hK_4 (k_LT (lt_pr B)) (i := 10) rfl fl_10_250 rfl dX10_most_177 ?_
                  cases h
                  exact a_iret dX10_most_180
                · replace h := h_iteF n7 h
                  refine a_tableOut (tgt := 181) dX10_most_57 (h_tb8 n0 n1 n2 n3 n4 n5 n6 n7) (by decide) ?_
                  refine a_aload_n dX10_most_181 rfl rfl ?_
                  refine b_getR hK_10 kc_0 (i := 7) rfl fl_10_60 rfl (rm_0_7 B) dX10_most_182 ?_
                  refine b_getI hK_4 (k_LT (lt_pr B)) (i := 9) rfl fl_10_274 rfl dX10_most_185 ?_
                  cases h
                  exact a_iret dX10_most_188
def mC_most_13  (v1 : Int32) (vs1 : Int32) (I : hI) (J : hJ) (B : Bool × Bool) : Option (Int32 × hI × hJ) :=
  (mC_refuse vs1 (0 : Int32) I).bind fun q1 =>
  if q1.1 = 0 then
    ((mC_refuse (mC_isOutside v1 (9 : Int32)) (1 : Int32) q1.2).bind fun q2 =>
    if q2.1 = 0 then
      (if v1 < (2 : Int32) then
        mC_most_56 v1 q2.2 J B
      else
        (if (5 : Int32) < v1 then
          mC_most_56 v1 q2.2 J B
        else
          ((mC_refusePlanned (0 : Int32) q2.2 J).bind fun q3 =>
          if q3.1 = 0 then
            mC_most_56 v1 q3.2.1 q3.2.2 B
          else
            some ((-1 : Int32), q3.2.1, q3.2.2))))
    else
      some ((-1 : Int32), q2.2, J))
  else
    some ((-1 : Int32), q1.2, J)
set_option maxHeartbeats 4000000 in
theorem sC_most_13 (d : Nat) (hd : 5 + 1 ≤ d) (v1 : Int32) (vs1 : Int32) (I : hI) (J : hJ) (B : Bool × Bool) (q : Int32 × hI × hJ) (h : mC_most_13 v1 vs1 I J B = some q) : AW hFT cX10_most 2 (some .int) RX10 kdC d [(0, .ref 0), (1, .int v1)] 13 [.int vs1, .ref 0] (I, J, RM B) (some (.int q.1)) (q.2.1, q.2.2, RM B) := by
  obtain ⟨d0, rfl, hd0⟩ := h_mono hd
  unfold mC_most_13 at h
  refine a_iconst dX10_most_13 ic_0 ?_
  obtain ⟨q1, cq1, h⟩ := h_bindS h
  refine a_callV1 [] yy_X10_refuse ml_10_110 kc_0 rfl (sC_refuse _ (by omega) vs1 (0 : Int32) I J B q1 cq1) rfl rfl (Nat.le_of_ble_eq_true rfl) dX10_most_14 ?_
  refine a_if_ne (tgt := 34) dX10_most_17 (by decide) (fun c => ?_) (fun c => ?_)
  · replace h := h_iteF c h
    refine a_iconst dX10_most_34 ic_m1 ?_
    cases h
    exact a_iret dX10_most_35
  · replace h := h_iteT c h
    refine a_aload_n dX10_most_20 rfl rfl ?_
    refine a_iload_n dX10_most_21 rfl rfl ?_
    refine a_bipush dX10_most_22 bp_9 ?_
    refine a_callS1 [.ref 0] yy_X10_isOutside ml_10_114 (sC_isOutside _ (by omega) v1 (9 : Int32) q1.2 J B _ rfl) rfl rfl (Nat.le_of_ble_eq_true rfl) dX10_most_24 ?_
    refine a_iconst dX10_most_27 ic_1 ?_
    obtain ⟨q2, cq2, h⟩ := h_bindS h
    refine a_callV1 [] yy_X10_refuse ml_10_110 kc_0 rfl (sC_refuse _ (by omega) (mC_isOutside v1 (9 : Int32)) (1 : Int32) q1.2 J B q2 cq2) rfl rfl (Nat.le_of_ble_eq_true rfl) dX10_most_28 ?_
    refine a_if_eq (tgt := 36) dX10_most_31 (by decide) (fun c => ?_) (fun c => ?_)
    · replace h := h_iteT c h
      refine a_iload_n dX10_most_36 rfl rfl ?_
      refine a_iconst dX10_most_37 ic_2 ?_
      refine a_icmp_lt (tgt := 56) dX10_most_38 (by decide) (fun c => ?_) (fun c => ?_)
      · replace h := h_iteT c h
        exact sC_most_56 (d0 + 1) (by omega) v1 q2.2 J B _ h
      · replace h := h_iteF c h
        refine a_iload_n dX10_most_41 rfl rfl ?_
        refine a_iconst dX10_most_42 ic_5 ?_
        refine a_icmp_gt (tgt := 56) dX10_most_43 (by decide) (fun c => ?_) (fun c => ?_)
        · replace h := h_iteT c h
          exact sC_most_56 (d0 + 1) (by omega) v1 q2.2 J B _ h
        · replace h := h_iteF c h
          refine a_aload_n dX10_most_46 rfl rfl ?_
          refine a_iconst dX10_most_47 ic_0 ?_
          obtain ⟨q3, cq3, h⟩ := h_bindS h
          refine a_callV1 [] yy_X10_refusePlanned ml_10_156 kc_0 rfl (sC_refusePlanned _ (by omega) (0 : Int32) q2.2 J B q3 cq3) rfl rfl (Nat.le_of_ble_eq_true rfl) dX10_most_48 ?_
          refine a_if_eq (tgt := 56) dX10_most_51 (by decide) (fun c => ?_) (fun c => ?_)
          · replace h := h_iteT c h
            exact sC_most_56 (d0 + 1) (by omega) v1 q3.2.1 q3.2.2 B _ h
          · replace h := h_iteF c h
            refine a_iconst dX10_most_54 ic_m1 ?_
            cases h
            exact a_iret dX10_most_55
    · replace h := h_iteF c h
      refine a_iconst dX10_most_34 ic_m1 ?_
      cases h
      exact a_iret dX10_most_35
def mC_most  (v1 : Int32) (I : hI) (J : hJ) (B : Bool × Bool) : Option (Int32 × hI × hJ) :=
  if (I 0 11) = 0 then
    mC_most_13 v1 (1 : Int32) I J B
  else
    mC_most_13 v1 (0 : Int32) I J B
set_option maxHeartbeats 4000000 in
theorem sC_most (d : Nat) (hd : 5 + 1 ≤ d) (v1 : Int32) (I : hI) (J : hJ) (B : Bool × Bool) (q : Int32 × hI × hJ) (h : mC_most v1 I J B = some q) : HMet hFT yX10_most cX10_most 2 (some .int) kdC d [.ref 0, .int v1] (I, J, RM B) (some (.int q.1)) (q.2.1, q.2.2, RM B) := by
  obtain ⟨d0, rfl, hd0⟩ := h_mono hd
  refine HMet.of (by decide) (Nat.le_of_ble_eq_true rfl) ?_
  show AW hFT cX10_most 2 (some .int) RX10 kdC (d0 + 1) [(0, .ref 0), (1, .int v1)] 0 [] (I, J, RM B) (some (.int q.1)) (q.2.1, q.2.2, RM B)
  unfold mC_most at h
  refine a_aload_n dX10_most_0 rfl rfl ?_
  refine a_aload_n dX10_most_1 rfl rfl ?_
  refine b_getI hK_10 kc_0 (i := 11) rfl fl_10_90 rfl dX10_most_2 ?_
  refine a_if_ne (tgt := 12) dX10_most_5 (by decide) (fun c => ?_) (fun c => ?_)
  · replace h := h_iteF c h
    refine a_iconst dX10_most_12 ic_0 ?_
    exact sC_most_13 (d0 + 1) (by omega) v1 (0 : Int32) I J B _ h
  · replace h := h_iteT c h
    refine a_iconst dX10_most_8 ic_1 ?_
    refine a_goto (tgt := 13) dX10_most_9 (by decide) ?_
    exact sC_most_13 (d0 + 1) (by omega) v1 (1 : Int32) I J B _ h
/-! CoinLoops.status(I)I -/
theorem dX10_status_0 : decode cX10_status 0 = .ok (.iload_n 1, 1) := by decide +kernel
theorem dX10_status_1 : decode cX10_status 1 = .ok (.aload_n 0, 1) := by decide +kernel
theorem dX10_status_2 : decode cX10_status 2 = .ok (.getfield 53, 3) := by decide +kernel
theorem dX10_status_5 : decode cX10_status 5 = .ok (.arraylength, 1) := by decide +kernel
theorem dX10_status_6 : decode cX10_status 6 = .ok (.invokestatic 114, 3) := by decide +kernel
theorem dX10_status_9 : decode cX10_status 9 = .ok (.ifCond .eq 7, 3) := by decide +kernel
theorem dX10_status_12 : decode cX10_status 12 = .ok (.iconst (-1), 1) := by decide +kernel
theorem dX10_status_13 : decode cX10_status 13 = .ok (.goto 9, 3) := by decide +kernel
theorem dX10_status_16 : decode cX10_status 16 = .ok (.aload_n 0, 1) := by decide +kernel
theorem dX10_status_17 : decode cX10_status 17 = .ok (.getfield 53, 3) := by decide +kernel
theorem dX10_status_20 : decode cX10_status 20 = .ok (.iload_n 1, 1) := by decide +kernel
theorem dX10_status_21 : decode cX10_status 21 = .ok (.iaload, 1) := by decide +kernel
theorem dX10_status_22 : decode cX10_status 22 = .ok (.ireturn, 1) := by decide +kernel
def mC_status  (v1 : Int32) (I : hI) : Option (Int32) :=
  if (mC_isOutside v1 (3 : Int32)) = 0 then
    (h_g (h_in v1 3) <|
    some (I 60 v1.toNatClampNeg))
  else
    some (-1 : Int32)
set_option maxHeartbeats 4000000 in
theorem sC_status (d : Nat) (hd : 0 + 1 ≤ d) (v1 : Int32) (I : hI) (J : hJ) (B : Bool × Bool) (q : Int32) (h : mC_status v1 I = some q) : HMet hFT yX10_status cX10_status 2 (some .int) kdC d [.ref 0, .int v1] (I, J, RM B) (some (.int q)) (I, J, RM B) := by
  obtain ⟨d0, rfl, hd0⟩ := h_mono hd
  refine HMet.of (by decide) (Nat.le_of_ble_eq_true rfl) ?_
  show AW hFT cX10_status 2 (some .int) RX10 kdC (d0 + 1) [(0, .ref 0), (1, .int v1)] 0 [] (I, J, RM B) (some (.int q)) (I, J, RM B)
  unfold mC_status at h
  refine a_iload_n dX10_status_0 rfl rfl ?_
  refine a_aload_n dX10_status_1 rfl rfl ?_
  refine b_getR hK_10 kc_0 (i := 6) rfl fl_10_53 rfl (rm_0_6 B) dX10_status_2 ?_
  refine a_alen0 kc_60 (v := 3) (by decide) dX10_status_5 ?_
  refine a_callS1 [] yy_X10_isOutside ml_10_114 (sC_isOutside _ (by omega) v1 (3 : Int32) I J B _ rfl) rfl rfl (Nat.le_of_ble_eq_true rfl) dX10_status_6 ?_
  refine a_if_eq (tgt := 16) dX10_status_9 (by decide) (fun c => ?_) (fun c => ?_)
  · replace h := h_iteT c h
    refine a_aload_n dX10_status_16 rfl rfl ?_
    refine b_getR hK_10 kc_0 (i := 6) rfl fl_10_53 rfl (rm_0_6 B) dX10_status_17 ?_
    refine a_iload_n dX10_status_20 rfl rfl ?_
    obtain ⟨g1, h⟩ := h_gS h
    refine b_iaload kc_60 (h_inV g1) dX10_status_21 ?_
    cases h
    exact a_iret dX10_status_22
  · replace h := h_iteF c h
    refine a_iconst dX10_status_12 ic_m1 ?_
    refine a_goto (tgt := 22) dX10_status_13 (by decide) ?_
    cases h
    exact a_iret dX10_status_22
/-! CoinLoops.count(I)I -/
theorem dX10_count_0 : decode cX10_count 0 = .ok (.iload_n 1, 1) := by decide +kernel
theorem dX10_count_1 : decode cX10_count 1 = .ok (.ifCond .ne 13, 3) := by decide +kernel
theorem dX10_count_4 : decode cX10_count 4 = .ok (.aload_n 0, 1) := by decide +kernel
theorem dX10_count_5 : decode cX10_count 5 = .ok (.getfield 12, 3) := by decide +kernel
theorem dX10_count_8 : decode cX10_count 8 = .ok (.getfield 77, 3) := by decide +kernel
theorem dX10_count_11 : decode cX10_count 11 = .ok (.goto 4, 3) := by decide +kernel
theorem dX10_count_14 : decode cX10_count 14 = .ok (.iconst (-1), 1) := by decide +kernel
theorem dX10_count_15 : decode cX10_count 15 = .ok (.ireturn, 1) := by decide +kernel
def mC_count  (v1 : Int32) (I : hI) : Int32 :=
  if v1 = 0 then
    (I 1 1)
  else
    (-1 : Int32)
set_option maxHeartbeats 4000000 in
theorem sC_count (d : Nat) (hd : 0 ≤ d) (v1 : Int32) (I : hI) (J : hJ) (B : Bool × Bool) (q : Int32) (h : mC_count v1 I = q) : HMet hFT yX10_count cX10_count 2 (some .int) kdC d [.ref 0, .int v1] (I, J, RM B) (some (.int q)) (I, J, RM B) := by
  refine HMet.of (by decide) (Nat.le_of_ble_eq_true rfl) ?_
  show AW hFT cX10_count 2 (some .int) RX10 kdC d [(0, .ref 0), (1, .int v1)] 0 [] (I, J, RM B) (some (.int q)) (I, J, RM B)
  unfold mC_count at h
  refine a_iload_n dX10_count_0 rfl rfl ?_
  refine a_if_ne (tgt := 14) dX10_count_1 (by decide) (fun c => ?_) (fun c => ?_)
  · replace h := h_iteF c h
    refine a_iconst dX10_count_14 ic_m1 ?_
    cases h
    exact a_iret dX10_count_15
  · replace h := h_iteT c h
    refine a_aload_n dX10_count_4 rfl rfl ?_
    refine b_getR hK_10 kc_0 (i := 0) rfl fl_10_12 rfl (rm_0_0 B) dX10_count_5 ?_
    refine b_getI hK_6 kc_1 (i := 1) rfl fl_10_77 rfl dX10_count_8 ?_
    refine a_goto (tgt := 15) dX10_count_11 (by decide) ?_
    cases h
    exact a_iret dX10_count_15
